theorem dX12_findList_0 : decode cX12_findList 0 = .ok (.aload_n 0, 1) := by decide +kernel
theorem dX12_findList_1 : decode cX12_findList 1 = .ok (.iconst 0, 1) := by decide +kernel
theorem dX12_findList_2 : decode cX12_findList 2 = .ok (.putfield 583, 3) := by decide +kernel
theorem dX12_findList_5 : decode cX12_findList 5 = .ok (.iconst 0, 1) := by decide +kernel
theorem dX12_findList_6 : decode cX12_findList 6 = .ok (.istore_n 3, 1) := by decide +kernel
theorem dX12_findList_7 : decode cX12_findList 7 = .ok (.iload_n 3, 1) := by decide +kernel
theorem dX12_findList_8 : decode cX12_findList 8 = .ok (.aload_n 0, 1) := by decide +kernel
theorem dX12_findList_9 : decode cX12_findList 9 = .ok (.getfield 8, 3) := by decide +kernel
theorem dX12_findList_12 : decode cX12_findList 12 = .ok (.bipush 6, 2) := by decide +kernel
theorem dX12_findList_14 : decode cX12_findList 14 = .ok (.iaload, 1) := by decide +kernel
theorem dX12_findList_15 : decode cX12_findList 15 = .ok (.if_icmp .ge 123, 3) := by decide +kernel
theorem dX12_findList_18 : decode cX12_findList 18 = .ok (.aload_n 0, 1) := by decide +kernel
theorem dX12_findList_19 : decode cX12_findList 19 = .ok (.iload_n 3, 1) := by decide +kernel
theorem dX12_findList_20 : decode cX12_findList 20 = .ok (.iconst 0, 1) := by decide +kernel
theorem dX12_findList_21 : decode cX12_findList 21 = .ok (.invokevirtual 562, 3) := by decide +kernel
theorem dX12_findList_24 : decode cX12_findList 24 = .ok (.iload_n 1, 1) := by decide +kernel
theorem dX12_findList_25 : decode cX12_findList 25 = .ok (.if_icmp .ne 107, 3) := by decide +kernel
theorem dX12_findList_28 : decode cX12_findList 28 = .ok (.aload_n 0, 1) := by decide +kernel
theorem dX12_findList_29 : decode cX12_findList 29 = .ok (.iload_n 3, 1) := by decide +kernel
theorem dX12_findList_30 : decode cX12_findList 30 = .ok (.bipush 6, 2) := by decide +kernel
theorem dX12_findList_32 : decode cX12_findList 32 = .ok (.invokevirtual 562, 3) := by decide +kernel
theorem dX12_findList_35 : decode cX12_findList 35 = .ok (.aload_n 0, 1) := by decide +kernel
theorem dX12_findList_36 : decode cX12_findList 36 = .ok (.getfield 399, 3) := by decide +kernel
theorem dX12_findList_39 : decode cX12_findList 39 = .ok (.if_icmp .gt 93, 3) := by decide +kernel
theorem dX12_findList_42 : decode cX12_findList 42 = .ok (.aload_n 0, 1) := by decide +kernel
theorem dX12_findList_43 : decode cX12_findList 43 = .ok (.iload_n 3, 1) := by decide +kernel
theorem dX12_findList_44 : decode cX12_findList 44 = .ok (.iconst 1, 1) := by decide +kernel
theorem dX12_findList_45 : decode cX12_findList 45 = .ok (.invokevirtual 562, 3) := by decide +kernel
theorem dX12_findList_48 : decode cX12_findList 48 = .ok (.iload_n 2, 1) := by decide +kernel
theorem dX12_findList_49 : decode cX12_findList 49 = .ok (.if_icmp .gt 83, 3) := by decide +kernel
theorem dX12_findList_52 : decode cX12_findList 52 = .ok (.aload_n 0, 1) := by decide +kernel
theorem dX12_findList_53 : decode cX12_findList 53 = .ok (.getfield 130, 3) := by decide +kernel
theorem dX12_findList_56 : decode cX12_findList 56 = .ok (.iload_n 3, 1) := by decide +kernel
theorem dX12_findList_57 : decode cX12_findList 57 = .ok (.aload_n 0, 1) := by decide +kernel
theorem dX12_findList_58 : decode cX12_findList 58 = .ok (.iload_n 3, 1) := by decide +kernel
theorem dX12_findList_59 : decode cX12_findList 59 = .ok (.iload_n 2, 1) := by decide +kernel
theorem dX12_findList_60 : decode cX12_findList 60 = .ok (.invokevirtual 576, 3) := by decide +kernel
theorem dX12_findList_63 : decode cX12_findList 63 = .ok (.lastore, 1) := by decide +kernel
theorem dX12_findList_64 : decode cX12_findList 64 = .ok (.aload_n 0, 1) := by decide +kernel
theorem dX12_findList_65 : decode cX12_findList 65 = .ok (.getfield 583, 3) := by decide +kernel
theorem dX12_findList_68 : decode cX12_findList 68 = .ok (.istore 4, 2) := by decide +kernel
theorem dX12_findList_70 : decode cX12_findList 70 = .ok (.iload 4, 2) := by decide +kernel
theorem dX12_findList_72 : decode cX12_findList 72 = .ok (.ifCond .le 42, 3) := by decide +kernel
theorem dX12_findList_75 : decode cX12_findList 75 = .ok (.aload_n 0, 1) := by decide +kernel
theorem dX12_findList_76 : decode cX12_findList 76 = .ok (.iload_n 3, 1) := by decide +kernel
theorem dX12_findList_77 : decode cX12_findList 77 = .ok (.aload_n 0, 1) := by decide +kernel
theorem dX12_findList_78 : decode cX12_findList 78 = .ok (.getfield 133, 3) := by decide +kernel
theorem dX12_findList_81 : decode cX12_findList 81 = .ok (.iload 4, 2) := by decide +kernel
theorem dX12_findList_83 : decode cX12_findList 83 = .ok (.iconst 1, 1) := by decide +kernel
theorem dX12_findList_84 : decode cX12_findList 84 = .ok (.isub, 1) := by decide +kernel
theorem dX12_findList_85 : decode cX12_findList 85 = .ok (.iaload, 1) := by decide +kernel
theorem dX12_findList_86 : decode cX12_findList 86 = .ok (.invokevirtual 586, 3) := by decide +kernel
theorem dX12_findList_89 : decode cX12_findList 89 = .ok (.ifCond .eq 25, 3) := by decide +kernel
theorem dX12_findList_92 : decode cX12_findList 92 = .ok (.aload_n 0, 1) := by decide +kernel
theorem dX12_findList_93 : decode cX12_findList 93 = .ok (.getfield 133, 3) := by decide +kernel
theorem dX12_findList_96 : decode cX12_findList 96 = .ok (.iload 4, 2) := by decide +kernel
theorem dX12_findList_98 : decode cX12_findList 98 = .ok (.aload_n 0, 1) := by decide +kernel
theorem dX12_findList_99 : decode cX12_findList 99 = .ok (.getfield 133, 3) := by decide +kernel
theorem dX12_findList_102 : decode cX12_findList 102 = .ok (.iload 4, 2) := by decide +kernel
theorem dX12_findList_104 : decode cX12_findList 104 = .ok (.iconst 1, 1) := by decide +kernel
theorem dX12_findList_105 : decode cX12_findList 105 = .ok (.isub, 1) := by decide +kernel
theorem dX12_findList_106 : decode cX12_findList 106 = .ok (.iaload, 1) := by decide +kernel
theorem dX12_findList_107 : decode cX12_findList 107 = .ok (.iastore, 1) := by decide +kernel
theorem dX12_findList_108 : decode cX12_findList 108 = .ok (.iinc 4 (-1), 3) := by decide +kernel
theorem dX12_findList_111 : decode cX12_findList 111 = .ok (.goto (-41), 3) := by decide +kernel
theorem dX12_findList_114 : decode cX12_findList 114 = .ok (.aload_n 0, 1) := by decide +kernel
theorem dX12_findList_115 : decode cX12_findList 115 = .ok (.getfield 133, 3) := by decide +kernel
theorem dX12_findList_118 : decode cX12_findList 118 = .ok (.iload 4, 2) := by decide +kernel
theorem dX12_findList_120 : decode cX12_findList 120 = .ok (.iload_n 3, 1) := by decide +kernel
theorem dX12_findList_121 : decode cX12_findList 121 = .ok (.iastore, 1) := by decide +kernel
theorem dX12_findList_122 : decode cX12_findList 122 = .ok (.aload_n 0, 1) := by decide +kernel
theorem dX12_findList_123 : decode cX12_findList 123 = .ok (.dup, 1) := by decide +kernel
theorem dX12_findList_124 : decode cX12_findList 124 = .ok (.getfield 583, 3) := by decide +kernel
theorem dX12_findList_127 : decode cX12_findList 127 = .ok (.iconst 1, 1) := by decide +kernel
theorem dX12_findList_128 : decode cX12_findList 128 = .ok (.iadd, 1) := by decide +kernel
theorem dX12_findList_129 : decode cX12_findList 129 = .ok (.putfield 583, 3) := by decide +kernel
theorem dX12_findList_132 : decode cX12_findList 132 = .ok (.iinc 3 1, 3) := by decide +kernel
theorem dX12_findList_135 : decode cX12_findList 135 = .ok (.goto (-128), 3) := by decide +kernel
theorem dX12_findList_138 : decode cX12_findList 138 = .ok (.return_, 1) := by decide +kernel
theorem dX12_order_0 : decode cX12_order 0 = .ok (.aload_n 0, 1) := by decide +kernel
theorem dX12_order_1 : decode cX12_order 1 = .ok (.iconst 0, 1) := by decide +kernel
theorem dX12_order_2 : decode cX12_order 2 = .ok (.putfield 145, 3) := by decide +kernel
theorem dX12_order_5 : decode cX12_order 5 = .ok (.iload_n 1, 1) := by decide +kernel
theorem dX12_order_6 : decode cX12_order 6 = .ok (.invokestatic 466, 3) := by decide +kernel
theorem dX12_order_9 : decode cX12_order 9 = .ok (.ifCond .eq 17, 3) := by decide +kernel
theorem dX12_order_12 : decode cX12_order 12 = .ok (.iload_n 2, 1) := by decide +kernel
theorem dX12_order_13 : decode cX12_order 13 = .ok (.invokestatic 387, 3) := by decide +kernel
theorem dX12_order_16 : decode cX12_order 16 = .ok (.ifCond .eq 10, 3) := by decide +kernel
theorem dX12_order_19 : decode cX12_order 19 = .ok (.iload_n 3, 1) := by decide +kernel
theorem dX12_order_20 : decode cX12_order 20 = .ok (.invokestatic 387, 3) := by decide +kernel
theorem dX12_order_23 : decode cX12_order 23 = .ok (.ifCond .ne 5, 3) := by decide +kernel
theorem dX12_order_26 : decode cX12_order 26 = .ok (.iconst (-1), 1) := by decide +kernel
theorem dX12_order_27 : decode cX12_order 27 = .ok (.ireturn, 1) := by decide +kernel
theorem dX12_order_28 : decode cX12_order 28 = .ok (.aload_n 0, 1) := by decide +kernel
theorem dX12_order_29 : decode cX12_order 29 = .ok (.iload_n 3, 1) := by decide +kernel
theorem dX12_order_30 : decode cX12_order 30 = .ok (.invokevirtual 406, 3) := by decide +kernel
theorem dX12_order_33 : decode cX12_order 33 = .ok (.aload_n 0, 1) := by decide +kernel
theorem dX12_order_34 : decode cX12_order 34 = .ok (.iload_n 1, 1) := by decide +kernel
theorem dX12_order_35 : decode cX12_order 35 = .ok (.iload_n 2, 1) := by decide +kernel
theorem dX12_order_36 : decode cX12_order 36 = .ok (.invokevirtual 589, 3) := by decide +kernel
theorem dX12_order_39 : decode cX12_order 39 = .ok (.iload 4, 2) := by decide +kernel
theorem dX12_order_41 : decode cX12_order 41 = .ok (.iconst (-1), 1) := by decide +kernel
theorem dX12_order_42 : decode cX12_order 42 = .ok (.if_icmp .ne 10, 3) := by decide +kernel
theorem dX12_order_45 : decode cX12_order 45 = .ok (.aload_n 0, 1) := by decide +kernel
theorem dX12_order_46 : decode cX12_order 46 = .ok (.getfield 583, 3) := by decide +kernel
theorem dX12_order_49 : decode cX12_order 49 = .ok (.goto 31, 3) := by decide +kernel
theorem dX12_order_52 : decode cX12_order 52 = .ok (.iload 4, 2) := by decide +kernel
theorem dX12_order_54 : decode cX12_order 54 = .ok (.i2l, 1) := by decide +kernel
theorem dX12_order_55 : decode cX12_order 55 = .ok (.lconst 0, 1) := by decide +kernel
theorem dX12_order_56 : decode cX12_order 56 = .ok (.aload_n 0, 1) := by decide +kernel
theorem dX12_order_57 : decode cX12_order 57 = .ok (.getfield 583, 3) := by decide +kernel
theorem dX12_order_60 : decode cX12_order 60 = .ok (.i2l, 1) := by decide +kernel
theorem dX12_order_61 : decode cX12_order 61 = .ok (.lconst 1, 1) := by decide +kernel
theorem dX12_order_62 : decode cX12_order 62 = .ok (.lsub, 1) := by decide +kernel
theorem dX12_order_63 : decode cX12_order 63 = .ok (.invokestatic 153, 3) := by decide +kernel
theorem dX12_order_66 : decode cX12_order 66 = .ok (.ifCond .eq 13, 3) := by decide +kernel
theorem dX12_order_69 : decode cX12_order 69 = .ok (.aload_n 0, 1) := by decide +kernel
theorem dX12_order_70 : decode cX12_order 70 = .ok (.getfield 133, 3) := by decide +kernel
theorem dX12_order_73 : decode cX12_order 73 = .ok (.iload 4, 2) := by decide +kernel
theorem dX12_order_75 : decode cX12_order 75 = .ok (.iaload, 1) := by decide +kernel
theorem dX12_order_76 : decode cX12_order 76 = .ok (.goto 4, 3) := by decide +kernel
theorem dX12_order_79 : decode cX12_order 79 = .ok (.iconst (-1), 1) := by decide +kernel
theorem dX12_order_80 : decode cX12_order 80 = .ok (.ireturn, 1) := by decide +kernel
theorem dX12_beside_0 : decode cX12_beside 0 = .ok (.aload_n 0, 1) := by decide +kernel
theorem dX12_beside_1 : decode cX12_beside 1 = .ok (.iconst 0, 1) := by decide +kernel
theorem dX12_beside_2 : decode cX12_beside 2 = .ok (.putfield 145, 3) := by decide +kernel
theorem dX12_beside_5 : decode cX12_beside 5 = .ok (.iload_n 1, 1) := by decide +kernel
theorem dX12_beside_6 : decode cX12_beside 6 = .ok (.invokestatic 466, 3) := by decide +kernel
theorem dX12_beside_9 : decode cX12_beside 9 = .ok (.ifCond .eq 25, 3) := by decide +kernel
theorem dX12_beside_12 : decode cX12_beside 12 = .ok (.iload_n 2, 1) := by decide +kernel
theorem dX12_beside_13 : decode cX12_beside 13 = .ok (.invokestatic 387, 3) := by decide +kernel
theorem dX12_beside_16 : decode cX12_beside 16 = .ok (.ifCond .eq 18, 3) := by decide +kernel
theorem dX12_beside_19 : decode cX12_beside 19 = .ok (.iload_n 3, 1) := by decide +kernel
theorem dX12_beside_20 : decode cX12_beside 20 = .ok (.invokestatic 387, 3) := by decide +kernel
theorem dX12_beside_23 : decode cX12_beside 23 = .ok (.ifCond .eq 11, 3) := by decide +kernel
theorem dX12_beside_26 : decode cX12_beside 26 = .ok (.iload 4, 2) := by decide +kernel
theorem dX12_beside_28 : decode cX12_beside 28 = .ok (.invokestatic 387, 3) := by decide +kernel
theorem dX12_beside_31 : decode cX12_beside 31 = .ok (.ifCond .ne 5, 3) := by decide +kernel
theorem dX12_beside_34 : decode cX12_beside 34 = .ok (.iconst (-1), 1) := by decide +kernel
theorem dX12_beside_35 : decode cX12_beside 35 = .ok (.ireturn, 1) := by decide +kernel
theorem dX12_beside_36 : decode cX12_beside 36 = .ok (.iconst 0, 1) := by decide +kernel
theorem dX12_beside_37 : decode cX12_beside 37 = .ok (.istore 5, 2) := by decide +kernel
theorem dX12_beside_39 : decode cX12_beside 39 = .ok (.iload 5, 2) := by decide +kernel
theorem dX12_beside_41 : decode cX12_beside 41 = .ok (.bipush 60, 2) := by decide +kernel
theorem dX12_beside_43 : decode cX12_beside 43 = .ok (.if_icmp .ge 17, 3) := by decide +kernel
theorem dX12_beside_46 : decode cX12_beside 46 = .ok (.aload_n 0, 1) := by decide +kernel
theorem dX12_beside_47 : decode cX12_beside 47 = .ok (.getfield 136, 3) := by decide +kernel
theorem dX12_beside_50 : decode cX12_beside 50 = .ok (.iload 5, 2) := by decide +kernel
theorem dX12_beside_52 : decode cX12_beside 52 = .ok (.iconst (-1), 1) := by decide +kernel
theorem dX12_beside_53 : decode cX12_beside 53 = .ok (.iastore, 1) := by decide +kernel
theorem dX12_beside_54 : decode cX12_beside 54 = .ok (.iinc 5 1, 3) := by decide +kernel
theorem dX12_beside_57 : decode cX12_beside 57 = .ok (.goto (-18), 3) := by decide +kernel
theorem dX12_beside_60 : decode cX12_beside 60 = .ok (.aload_n 0, 1) := by decide +kernel
theorem dX12_beside_61 : decode cX12_beside 61 = .ok (.iload_n 3, 1) := by decide +kernel
theorem dX12_beside_62 : decode cX12_beside 62 = .ok (.invokevirtual 406, 3) := by decide +kernel
theorem dX12_beside_65 : decode cX12_beside 65 = .ok (.aload_n 0, 1) := by decide +kernel
theorem dX12_beside_66 : decode cX12_beside 66 = .ok (.iload_n 1, 1) := by decide +kernel
theorem dX12_beside_67 : decode cX12_beside 67 = .ok (.iload_n 2, 1) := by decide +kernel
theorem dX12_beside_68 : decode cX12_beside 68 = .ok (.invokevirtual 589, 3) := by decide +kernel
theorem dX12_beside_71 : decode cX12_beside 71 = .ok (.iconst 0, 1) := by decide +kernel
theorem dX12_beside_72 : decode cX12_beside 72 = .ok (.istore 5, 2) := by decide +kernel
theorem dX12_beside_74 : decode cX12_beside 74 = .ok (.iload 5, 2) := by decide +kernel
theorem dX12_beside_76 : decode cX12_beside 76 = .ok (.aload_n 0, 1) := by decide +kernel
theorem dX12_beside_77 : decode cX12_beside 77 = .ok (.getfield 583, 3) := by decide +kernel
theorem dX12_beside_80 : decode cX12_beside 80 = .ok (.if_icmp .ge 23, 3) := by decide +kernel
theorem dX12_beside_83 : decode cX12_beside 83 = .ok (.aload_n 0, 1) := by decide +kernel
theorem dX12_beside_84 : decode cX12_beside 84 = .ok (.getfield 136, 3) := by decide +kernel
theorem dX12_beside_87 : decode cX12_beside 87 = .ok (.aload_n 0, 1) := by decide +kernel
theorem dX12_beside_88 : decode cX12_beside 88 = .ok (.getfield 133, 3) := by decide +kernel
theorem dX12_beside_91 : decode cX12_beside 91 = .ok (.iload 5, 2) := by decide +kernel
theorem dX12_beside_93 : decode cX12_beside 93 = .ok (.iaload, 1) := by decide +kernel
theorem dX12_beside_94 : decode cX12_beside 94 = .ok (.iload 5, 2) := by decide +kernel
theorem dX12_beside_96 : decode cX12_beside 96 = .ok (.iastore, 1) := by decide +kernel
theorem dX12_beside_97 : decode cX12_beside 97 = .ok (.iinc 5 1, 3) := by decide +kernel
theorem dX12_beside_100 : decode cX12_beside 100 = .ok (.goto (-26), 3) := by decide +kernel
theorem dX12_beside_103 : decode cX12_beside 103 = .ok (.aload_n 0, 1) := by decide +kernel
theorem dX12_beside_104 : decode cX12_beside 104 = .ok (.iload 4, 2) := by decide +kernel
theorem dX12_beside_106 : decode cX12_beside 106 = .ok (.invokevirtual 406, 3) := by decide +kernel
theorem dX12_beside_109 : decode cX12_beside 109 = .ok (.aload_n 0, 1) := by decide +kernel
theorem dX12_beside_110 : decode cX12_beside 110 = .ok (.iload_n 1, 1) := by decide +kernel
theorem dX12_beside_111 : decode cX12_beside 111 = .ok (.iload_n 2, 1) := by decide +kernel
theorem dX12_beside_112 : decode cX12_beside 112 = .ok (.invokevirtual 589, 3) := by decide +kernel
theorem dX12_beside_115 : decode cX12_beside 115 = .ok (.iconst 0, 1) := by decide +kernel
theorem dX12_beside_116 : decode cX12_beside 116 = .ok (.istore 5, 2) := by decide +kernel
theorem dX12_beside_118 : decode cX12_beside 118 = .ok (.iconst 0, 1) := by decide +kernel
theorem dX12_beside_119 : decode cX12_beside 119 = .ok (.istore 6, 2) := by decide +kernel
theorem dX12_beside_121 : decode cX12_beside 121 = .ok (.iload 6, 2) := by decide +kernel
theorem dX12_beside_123 : decode cX12_beside 123 = .ok (.aload_n 0, 1) := by decide +kernel
theorem dX12_beside_124 : decode cX12_beside 124 = .ok (.getfield 583, 3) := by decide +kernel
theorem dX12_beside_127 : decode cX12_beside 127 = .ok (.if_icmp .ge 106, 3) := by decide +kernel
theorem dX12_beside_130 : decode cX12_beside 130 = .ok (.iconst 0, 1) := by decide +kernel
theorem dX12_beside_131 : decode cX12_beside 131 = .ok (.istore 7, 2) := by decide +kernel
theorem dX12_beside_133 : decode cX12_beside 133 = .ok (.iload 7, 2) := by decide +kernel
theorem dX12_beside_135 : decode cX12_beside 135 = .ok (.iload 6, 2) := by decide +kernel
theorem dX12_beside_137 : decode cX12_beside 137 = .ok (.if_icmp .ge 90, 3) := by decide +kernel
theorem dX12_beside_140 : decode cX12_beside 140 = .ok (.aload_n 0, 1) := by decide +kernel
theorem dX12_beside_141 : decode cX12_beside 141 = .ok (.getfield 136, 3) := by decide +kernel
theorem dX12_beside_144 : decode cX12_beside 144 = .ok (.aload_n 0, 1) := by decide +kernel
theorem dX12_beside_145 : decode cX12_beside 145 = .ok (.getfield 133, 3) := by decide +kernel
theorem dX12_beside_148 : decode cX12_beside 148 = .ok (.iload 6, 2) := by decide +kernel
theorem dX12_beside_150 : decode cX12_beside 150 = .ok (.iaload, 1) := by decide +kernel
theorem dX12_beside_151 : decode cX12_beside 151 = .ok (.iaload, 1) := by decide +kernel
theorem dX12_beside_152 : decode cX12_beside 152 = .ok (.iconst (-1), 1) := by decide +kernel
theorem dX12_beside_153 : decode cX12_beside 153 = .ok (.if_icmp .eq 23, 3) := by decide +kernel
theorem dX12_beside_156 : decode cX12_beside 156 = .ok (.aload_n 0, 1) := by decide +kernel
theorem dX12_beside_157 : decode cX12_beside 157 = .ok (.getfield 136, 3) := by decide +kernel
theorem dX12_beside_160 : decode cX12_beside 160 = .ok (.aload_n 0, 1) := by decide +kernel
theorem dX12_beside_161 : decode cX12_beside 161 = .ok (.getfield 133, 3) := by decide +kernel
theorem dX12_beside_164 : decode cX12_beside 164 = .ok (.iload 7, 2) := by decide +kernel
theorem dX12_beside_166 : decode cX12_beside 166 = .ok (.iaload, 1) := by decide +kernel
theorem dX12_beside_167 : decode cX12_beside 167 = .ok (.iaload, 1) := by decide +kernel
theorem dX12_beside_168 : decode cX12_beside 168 = .ok (.iconst (-1), 1) := by decide +kernel
theorem dX12_beside_169 : decode cX12_beside 169 = .ok (.if_icmp .eq 7, 3) := by decide +kernel
theorem dX12_beside_172 : decode cX12_beside 172 = .ok (.iconst 1, 1) := by decide +kernel
theorem dX12_beside_173 : decode cX12_beside 173 = .ok (.goto 4, 3) := by decide +kernel
theorem dX12_beside_176 : decode cX12_beside 176 = .ok (.iconst 0, 1) := by decide +kernel
theorem dX12_beside_177 : decode cX12_beside 177 = .ok (.istore 8, 2) := by decide +kernel
theorem dX12_beside_179 : decode cX12_beside 179 = .ok (.iload 5, 2) := by decide +kernel
theorem dX12_beside_181 : decode cX12_beside 181 = .ok (.iload 8, 2) := by decide +kernel
theorem dX12_beside_183 : decode cX12_beside 183 = .ok (.ifCond .eq 34, 3) := by decide +kernel
theorem dX12_beside_186 : decode cX12_beside 186 = .ok (.aload_n 0, 1) := by decide +kernel
theorem dX12_beside_187 : decode cX12_beside 187 = .ok (.getfield 136, 3) := by decide +kernel
theorem dX12_beside_190 : decode cX12_beside 190 = .ok (.aload_n 0, 1) := by decide +kernel
theorem dX12_beside_191 : decode cX12_beside 191 = .ok (.getfield 133, 3) := by decide +kernel
theorem dX12_beside_194 : decode cX12_beside 194 = .ok (.iload 6, 2) := by decide +kernel
theorem dX12_beside_196 : decode cX12_beside 196 = .ok (.iaload, 1) := by decide +kernel
theorem dX12_beside_197 : decode cX12_beside 197 = .ok (.iaload, 1) := by decide +kernel
theorem dX12_beside_198 : decode cX12_beside 198 = .ok (.aload_n 0, 1) := by decide +kernel
theorem dX12_beside_199 : decode cX12_beside 199 = .ok (.getfield 136, 3) := by decide +kernel
theorem dX12_beside_202 : decode cX12_beside 202 = .ok (.aload_n 0, 1) := by decide +kernel
theorem dX12_beside_203 : decode cX12_beside 203 = .ok (.getfield 133, 3) := by decide +kernel
theorem dX12_beside_206 : decode cX12_beside 206 = .ok (.iload 7, 2) := by decide +kernel
theorem dX12_beside_208 : decode cX12_beside 208 = .ok (.iaload, 1) := by decide +kernel
theorem dX12_beside_209 : decode cX12_beside 209 = .ok (.iaload, 1) := by decide +kernel
theorem dX12_beside_210 : decode cX12_beside 210 = .ok (.if_icmp .ge 7, 3) := by decide +kernel
theorem dX12_beside_213 : decode cX12_beside 213 = .ok (.iconst 1, 1) := by decide +kernel
theorem dX12_beside_214 : decode cX12_beside 214 = .ok (.goto 4, 3) := by decide +kernel
theorem dX12_beside_217 : decode cX12_beside 217 = .ok (.iconst 0, 1) := by decide +kernel
theorem dX12_beside_218 : decode cX12_beside 218 = .ok (.iadd, 1) := by decide +kernel
theorem dX12_beside_219 : decode cX12_beside 219 = .ok (.istore 5, 2) := by decide +kernel
theorem dX12_beside_221 : decode cX12_beside 221 = .ok (.iinc 7 1, 3) := by decide +kernel
theorem dX12_beside_224 : decode cX12_beside 224 = .ok (.goto (-91), 3) := by decide +kernel
theorem dX12_beside_227 : decode cX12_beside 227 = .ok (.iinc 6 1, 3) := by decide +kernel
theorem dX12_beside_230 : decode cX12_beside 230 = .ok (.goto (-109), 3) := by decide +kernel
theorem dX12_beside_233 : decode cX12_beside 233 = .ok (.iload 5, 2) := by decide +kernel
theorem dX12_beside_235 : decode cX12_beside 235 = .ok (.ireturn, 1) := by decide +kernel
theorem dX12_findHomes_0 : decode cX12_findHomes 0 = .ok (.aload_n 0, 1) := by decide +kernel
theorem dX12_findHomes_1 : decode cX12_findHomes 1 = .ok (.iload_n 1, 1) := by decide +kernel
theorem dX12_findHomes_2 : decode cX12_findHomes 2 = .ok (.iconst 0, 1) := by decide +kernel
theorem dX12_findHomes_3 : decode cX12_findHomes 3 = .ok (.invokevirtual 525, 3) := by decide +kernel
theorem dX12_findHomes_6 : decode cX12_findHomes 6 = .ok (.iconst 0, 1) := by decide +kernel
theorem dX12_findHomes_7 : decode cX12_findHomes 7 = .ok (.istore_n 2, 1) := by decide +kernel
theorem dX12_findHomes_8 : decode cX12_findHomes 8 = .ok (.iload_n 2, 1) := by decide +kernel
theorem dX12_findHomes_9 : decode cX12_findHomes 9 = .ok (.aload_n 0, 1) := by decide +kernel
theorem dX12_findHomes_10 : decode cX12_findHomes 10 = .ok (.getfield 8, 3) := by decide +kernel
theorem dX12_findHomes_13 : decode cX12_findHomes 13 = .ok (.iconst 4, 1) := by decide +kernel
theorem dX12_findHomes_14 : decode cX12_findHomes 14 = .ok (.iaload, 1) := by decide +kernel
theorem dX12_findHomes_15 : decode cX12_findHomes 15 = .ok (.if_icmp .ge 98, 3) := by decide +kernel
theorem dX12_findHomes_18 : decode cX12_findHomes 18 = .ok (.aload_n 0, 1) := by decide +kernel
theorem dX12_findHomes_19 : decode cX12_findHomes 19 = .ok (.getfield 94, 3) := by decide +kernel
theorem dX12_findHomes_22 : decode cX12_findHomes 22 = .ok (.iconst 3, 1) := by decide +kernel
theorem dX12_findHomes_23 : decode cX12_findHomes 23 = .ok (.iload_n 2, 1) := by decide +kernel
theorem dX12_findHomes_24 : decode cX12_findHomes 24 = .ok (.imul, 1) := by decide +kernel
theorem dX12_findHomes_25 : decode cX12_findHomes 25 = .ok (.iconst 2, 1) := by decide +kernel
theorem dX12_findHomes_26 : decode cX12_findHomes 26 = .ok (.iadd, 1) := by decide +kernel
theorem dX12_findHomes_27 : decode cX12_findHomes 27 = .ok (.iaload, 1) := by decide +kernel
theorem dX12_findHomes_28 : decode cX12_findHomes 28 = .ok (.istore_n 3, 1) := by decide +kernel
theorem dX12_findHomes_29 : decode cX12_findHomes 29 = .ok (.aload_n 0, 1) := by decide +kernel
theorem dX12_findHomes_30 : decode cX12_findHomes 30 = .ok (.getfield 139, 3) := by decide +kernel
theorem dX12_findHomes_33 : decode cX12_findHomes 33 = .ok (.iload_n 2, 1) := by decide +kernel
theorem dX12_findHomes_34 : decode cX12_findHomes 34 = .ok (.iload_n 3, 1) := by decide +kernel
theorem dX12_findHomes_35 : decode cX12_findHomes 35 = .ok (.iconst (-1), 1) := by decide +kernel
theorem dX12_findHomes_36 : decode cX12_findHomes 36 = .ok (.if_icmp .ne 9, 3) := by decide +kernel
theorem dX12_findHomes_39 : decode cX12_findHomes 39 = .ok (.ldc_w 592, 3) := by decide +kernel
theorem dX12_findHomes_42 : decode cX12_findHomes 42 = .ok (.goto 4, 3) := by decide +kernel
theorem dX12_findHomes_45 : decode cX12_findHomes 45 = .ok (.iload_n 3, 1) := by decide +kernel
theorem dX12_findHomes_46 : decode cX12_findHomes 46 = .ok (.iastore, 1) := by decide +kernel
theorem dX12_findHomes_47 : decode cX12_findHomes 47 = .ok (.aload_n 0, 1) := by decide +kernel
theorem dX12_findHomes_48 : decode cX12_findHomes 48 = .ok (.getfield 142, 3) := by decide +kernel
theorem dX12_findHomes_51 : decode cX12_findHomes 51 = .ok (.iload_n 2, 1) := by decide +kernel
theorem dX12_findHomes_52 : decode cX12_findHomes 52 = .ok (.ldc_w 592, 3) := by decide +kernel
theorem dX12_findHomes_55 : decode cX12_findHomes 55 = .ok (.iastore, 1) := by decide +kernel
theorem dX12_findHomes_56 : decode cX12_findHomes 56 = .ok (.iload_n 3, 1) := by decide +kernel
theorem dX12_findHomes_57 : decode cX12_findHomes 57 = .ok (.iconst (-1), 1) := by decide +kernel
theorem dX12_findHomes_58 : decode cX12_findHomes 58 = .ok (.if_icmp .eq 49, 3) := by decide +kernel
theorem dX12_findHomes_61 : decode cX12_findHomes 61 = .ok (.aload_n 0, 1) := by decide +kernel
theorem dX12_findHomes_62 : decode cX12_findHomes 62 = .ok (.iload_n 2, 1) := by decide +kernel
theorem dX12_findHomes_63 : decode cX12_findHomes 63 = .ok (.invokevirtual 477, 3) := by decide +kernel
theorem dX12_findHomes_66 : decode cX12_findHomes 66 = .ok (.iconst 2, 1) := by decide +kernel
theorem dX12_findHomes_67 : decode cX12_findHomes 67 = .ok (.if_icmp .ne 40, 3) := by decide +kernel
theorem dX12_findHomes_70 : decode cX12_findHomes 70 = .ok (.aload_n 0, 1) := by decide +kernel
theorem dX12_findHomes_71 : decode cX12_findHomes 71 = .ok (.iconst 0, 1) := by decide +kernel
theorem dX12_findHomes_72 : decode cX12_findHomes 72 = .ok (.iload_n 3, 1) := by decide +kernel
theorem dX12_findHomes_73 : decode cX12_findHomes 73 = .ok (.invokevirtual 440, 3) := by decide +kernel
theorem dX12_findHomes_76 : decode cX12_findHomes 76 = .ok (.aload_n 0, 1) := by decide +kernel
theorem dX12_findHomes_77 : decode cX12_findHomes 77 = .ok (.getfield 142, 3) := by decide +kernel
theorem dX12_findHomes_80 : decode cX12_findHomes 80 = .ok (.iload_n 2, 1) := by decide +kernel
theorem dX12_findHomes_81 : decode cX12_findHomes 81 = .ok (.aload_n 0, 1) := by decide +kernel
theorem dX12_findHomes_82 : decode cX12_findHomes 82 = .ok (.bipush 6, 2) := by decide +kernel
theorem dX12_findHomes_84 : decode cX12_findHomes 84 = .ok (.iconst 0, 1) := by decide +kernel
theorem dX12_findHomes_85 : decode cX12_findHomes 85 = .ok (.iconst 0, 1) := by decide +kernel
theorem dX12_findHomes_86 : decode cX12_findHomes 86 = .ok (.iconst 0, 1) := by decide +kernel
theorem dX12_findHomes_87 : decode cX12_findHomes 87 = .ok (.iload_n 3, 1) := by decide +kernel
theorem dX12_findHomes_88 : decode cX12_findHomes 88 = .ok (.invokevirtual 443, 3) := by decide +kernel
theorem dX12_findHomes_91 : decode cX12_findHomes 91 = .ok (.ifCond .eq 12, 3) := by decide +kernel
theorem dX12_findHomes_94 : decode cX12_findHomes 94 = .ok (.iload_n 3, 1) := by decide +kernel
theorem dX12_findHomes_95 : decode cX12_findHomes 95 = .ok (.aload_n 0, 1) := by decide +kernel
theorem dX12_findHomes_96 : decode cX12_findHomes 96 = .ok (.invokevirtual 447, 3) := by decide +kernel
theorem dX12_findHomes_99 : decode cX12_findHomes 99 = .ok (.iadd, 1) := by decide +kernel
theorem dX12_findHomes_100 : decode cX12_findHomes 100 = .ok (.goto 6, 3) := by decide +kernel
theorem dX12_findHomes_103 : decode cX12_findHomes 103 = .ok (.ldc_w 592, 3) := by decide +kernel
theorem dX12_findHomes_106 : decode cX12_findHomes 106 = .ok (.iastore, 1) := by decide +kernel
theorem dX12_findHomes_107 : decode cX12_findHomes 107 = .ok (.iinc 2 1, 3) := by decide +kernel
theorem dX12_findHomes_110 : decode cX12_findHomes 110 = .ok (.goto (-102), 3) := by decide +kernel
theorem dX12_findHomes_113 : decode cX12_findHomes 113 = .ok (.return_, 1) := by decide +kernel
theorem dX12_isHome_0 : decode cX12_isHome 0 = .ok (.aload_n 0, 1) := by decide +kernel
theorem dX12_isHome_1 : decode cX12_isHome 1 = .ok (.getfield 139, 3) := by decide +kernel
theorem dX12_isHome_4 : decode cX12_isHome 4 = .ok (.iload_n 1, 1) := by decide +kernel
theorem dX12_isHome_5 : decode cX12_isHome 5 = .ok (.iaload, 1) := by decide +kernel
theorem dX12_isHome_6 : decode cX12_isHome 6 = .ok (.iload_n 2, 1) := by decide +kernel
theorem dX12_isHome_7 : decode cX12_isHome 7 = .ok (.if_icmp .gt 17, 3) := by decide +kernel
theorem dX12_isHome_10 : decode cX12_isHome 10 = .ok (.iload_n 2, 1) := by decide +kernel
theorem dX12_isHome_11 : decode cX12_isHome 11 = .ok (.aload_n 0, 1) := by decide +kernel
theorem dX12_isHome_12 : decode cX12_isHome 12 = .ok (.getfield 142, 3) := by decide +kernel
theorem dX12_isHome_15 : decode cX12_isHome 15 = .ok (.iload_n 1, 1) := by decide +kernel
theorem dX12_isHome_16 : decode cX12_isHome 16 = .ok (.iaload, 1) := by decide +kernel
theorem dX12_isHome_17 : decode cX12_isHome 17 = .ok (.if_icmp .ge 7, 3) := by decide +kernel
theorem dX12_isHome_20 : decode cX12_isHome 20 = .ok (.iconst 1, 1) := by decide +kernel
theorem dX12_isHome_21 : decode cX12_isHome 21 = .ok (.goto 4, 3) := by decide +kernel
theorem dX12_isHome_24 : decode cX12_isHome 24 = .ok (.iconst 0, 1) := by decide +kernel
theorem dX12_isHome_25 : decode cX12_isHome 25 = .ok (.ireturn, 1) := by decide +kernel
theorem dX12_stayAt_0 : decode cX12_stayAt 0 = .ok (.sipush 29512, 3) := by decide +kernel
theorem dX12_stayAt_3 : decode cX12_stayAt 3 = .ok (.bipush 8, 2) := by decide +kernel
theorem dX12_stayAt_5 : decode cX12_stayAt 5 = .ok (.iload_n 1, 1) := by decide +kernel
theorem dX12_stayAt_6 : decode cX12_stayAt 6 = .ok (.imul, 1) := by decide +kernel
theorem dX12_stayAt_7 : decode cX12_stayAt 7 = .ok (.iadd, 1) := by decide +kernel
theorem dX12_stayAt_8 : decode cX12_stayAt 8 = .ok (.ireturn, 1) := by decide +kernel
theorem dX12_livesIn_0 : decode cX12_livesIn 0 = .ok (.aload_n 0, 1) := by decide +kernel
theorem dX12_livesIn_1 : decode cX12_livesIn 1 = .ok (.iload_n 1, 1) := by decide +kernel
theorem dX12_livesIn_2 : decode cX12_livesIn 2 = .ok (.invokevirtual 593, 3) := by decide +kernel
theorem dX12_livesIn_5 : decode cX12_livesIn 5 = .ok (.istore_n 3, 1) := by decide +kernel
theorem dX12_livesIn_6 : decode cX12_livesIn 6 = .ok (.aload_n 0, 1) := by decide +kernel
theorem dX12_livesIn_7 : decode cX12_livesIn 7 = .ok (.getfield 8, 3) := by decide +kernel
theorem dX12_livesIn_10 : decode cX12_livesIn 10 = .ok (.iload_n 3, 1) := by decide +kernel
theorem dX12_livesIn_11 : decode cX12_livesIn 11 = .ok (.iconst 3, 1) := by decide +kernel
theorem dX12_livesIn_12 : decode cX12_livesIn 12 = .ok (.iadd, 1) := by decide +kernel
theorem dX12_livesIn_13 : decode cX12_livesIn 13 = .ok (.iaload, 1) := by decide +kernel
theorem dX12_livesIn_14 : decode cX12_livesIn 14 = .ok (.iload_n 2, 1) := by decide +kernel
theorem dX12_livesIn_15 : decode cX12_livesIn 15 = .ok (.if_icmp .gt 31, 3) := by decide +kernel
theorem dX12_livesIn_18 : decode cX12_livesIn 18 = .ok (.iload_n 2, 1) := by decide +kernel
theorem dX12_livesIn_19 : decode cX12_livesIn 19 = .ok (.aload_n 0, 1) := by decide +kernel
theorem dX12_livesIn_20 : decode cX12_livesIn 20 = .ok (.getfield 8, 3) := by decide +kernel
theorem dX12_livesIn_23 : decode cX12_livesIn 23 = .ok (.iload_n 3, 1) := by decide +kernel
theorem dX12_livesIn_24 : decode cX12_livesIn 24 = .ok (.iconst 4, 1) := by decide +kernel
theorem dX12_livesIn_25 : decode cX12_livesIn 25 = .ok (.iadd, 1) := by decide +kernel
theorem dX12_livesIn_26 : decode cX12_livesIn 26 = .ok (.iaload, 1) := by decide +kernel
theorem dX12_livesIn_27 : decode cX12_livesIn 27 = .ok (.if_icmp .ge 19, 3) := by decide +kernel
theorem dX12_livesIn_30 : decode cX12_livesIn 30 = .ok (.iload_n 2, 1) := by decide +kernel
theorem dX12_livesIn_31 : decode cX12_livesIn 31 = .ok (.aload_n 0, 1) := by decide +kernel
theorem dX12_livesIn_32 : decode cX12_livesIn 32 = .ok (.getfield 8, 3) := by decide +kernel
theorem dX12_livesIn_35 : decode cX12_livesIn 35 = .ok (.iload_n 3, 1) := by decide +kernel
theorem dX12_livesIn_36 : decode cX12_livesIn 36 = .ok (.iconst 5, 1) := by decide +kernel
theorem dX12_livesIn_37 : decode cX12_livesIn 37 = .ok (.iadd, 1) := by decide +kernel
theorem dX12_livesIn_38 : decode cX12_livesIn 38 = .ok (.iaload, 1) := by decide +kernel
theorem dX12_livesIn_39 : decode cX12_livesIn 39 = .ok (.if_icmp .ge 7, 3) := by decide +kernel
theorem dX12_livesIn_42 : decode cX12_livesIn 42 = .ok (.iconst 1, 1) := by decide +kernel
theorem dX12_livesIn_43 : decode cX12_livesIn 43 = .ok (.goto 4, 3) := by decide +kernel
theorem dX12_livesIn_46 : decode cX12_livesIn 46 = .ok (.iconst 0, 1) := by decide +kernel
theorem dX12_livesIn_47 : decode cX12_livesIn 47 = .ok (.ireturn, 1) := by decide +kernel
theorem dX12_squatsIn_0 : decode cX12_squatsIn 0 = .ok (.aload_n 0, 1) := by decide +kernel
theorem dX12_squatsIn_1 : decode cX12_squatsIn 1 = .ok (.iload_n 1, 1) := by decide +kernel
theorem dX12_squatsIn_2 : decode cX12_squatsIn 2 = .ok (.invokevirtual 593, 3) := by decide +kernel
theorem dX12_squatsIn_5 : decode cX12_squatsIn 5 = .ok (.istore_n 3, 1) := by decide +kernel
theorem dX12_squatsIn_6 : decode cX12_squatsIn 6 = .ok (.aload_n 0, 1) := by decide +kernel
theorem dX12_squatsIn_7 : decode cX12_squatsIn 7 = .ok (.getfield 8, 3) := by decide +kernel
theorem dX12_squatsIn_10 : decode cX12_squatsIn 10 = .ok (.iload_n 3, 1) := by decide +kernel
theorem dX12_squatsIn_11 : decode cX12_squatsIn 11 = .ok (.bipush 7, 2) := by decide +kernel
theorem dX12_squatsIn_13 : decode cX12_squatsIn 13 = .ok (.iadd, 1) := by decide +kernel
theorem dX12_squatsIn_14 : decode cX12_squatsIn 14 = .ok (.iaload, 1) := by decide +kernel
theorem dX12_squatsIn_15 : decode cX12_squatsIn 15 = .ok (.iconst 1, 1) := by decide +kernel
theorem dX12_squatsIn_16 : decode cX12_squatsIn 16 = .ok (.if_icmp .ne 55, 3) := by decide +kernel
theorem dX12_squatsIn_19 : decode cX12_squatsIn 19 = .ok (.aload_n 0, 1) := by decide +kernel
theorem dX12_squatsIn_20 : decode cX12_squatsIn 20 = .ok (.getfield 8, 3) := by decide +kernel
theorem dX12_squatsIn_23 : decode cX12_squatsIn 23 = .ok (.iload_n 3, 1) := by decide +kernel
theorem dX12_squatsIn_24 : decode cX12_squatsIn 24 = .ok (.iconst 2, 1) := by decide +kernel
theorem dX12_squatsIn_25 : decode cX12_squatsIn 25 = .ok (.iadd, 1) := by decide +kernel
theorem dX12_squatsIn_26 : decode cX12_squatsIn 26 = .ok (.iaload, 1) := by decide +kernel
theorem dX12_squatsIn_27 : decode cX12_squatsIn 27 = .ok (.iload_n 2, 1) := by decide +kernel
theorem dX12_squatsIn_28 : decode cX12_squatsIn 28 = .ok (.if_icmp .gt 43, 3) := by decide +kernel
theorem dX12_squatsIn_31 : decode cX12_squatsIn 31 = .ok (.iload_n 2, 1) := by decide +kernel
theorem dX12_squatsIn_32 : decode cX12_squatsIn 32 = .ok (.aload_n 0, 1) := by decide +kernel
theorem dX12_squatsIn_33 : decode cX12_squatsIn 33 = .ok (.getfield 8, 3) := by decide +kernel
theorem dX12_squatsIn_36 : decode cX12_squatsIn 36 = .ok (.iload_n 3, 1) := by decide +kernel
theorem dX12_squatsIn_37 : decode cX12_squatsIn 37 = .ok (.iconst 3, 1) := by decide +kernel
theorem dX12_squatsIn_38 : decode cX12_squatsIn 38 = .ok (.iadd, 1) := by decide +kernel
theorem dX12_squatsIn_39 : decode cX12_squatsIn 39 = .ok (.iaload, 1) := by decide +kernel
theorem dX12_squatsIn_40 : decode cX12_squatsIn 40 = .ok (.if_icmp .ge 31, 3) := by decide +kernel
theorem dX12_squatsIn_43 : decode cX12_squatsIn 43 = .ok (.iload_n 2, 1) := by decide +kernel
theorem dX12_squatsIn_44 : decode cX12_squatsIn 44 = .ok (.aload_n 0, 1) := by decide +kernel
theorem dX12_squatsIn_45 : decode cX12_squatsIn 45 = .ok (.getfield 8, 3) := by decide +kernel
theorem dX12_squatsIn_48 : decode cX12_squatsIn 48 = .ok (.iload_n 3, 1) := by decide +kernel
theorem dX12_squatsIn_49 : decode cX12_squatsIn 49 = .ok (.iconst 4, 1) := by decide +kernel
theorem dX12_squatsIn_50 : decode cX12_squatsIn 50 = .ok (.iadd, 1) := by decide +kernel
theorem dX12_squatsIn_51 : decode cX12_squatsIn 51 = .ok (.iaload, 1) := by decide +kernel
theorem dX12_squatsIn_52 : decode cX12_squatsIn 52 = .ok (.if_icmp .ge 19, 3) := by decide +kernel
theorem dX12_squatsIn_55 : decode cX12_squatsIn 55 = .ok (.iload_n 2, 1) := by decide +kernel
theorem dX12_squatsIn_56 : decode cX12_squatsIn 56 = .ok (.aload_n 0, 1) := by decide +kernel
theorem dX12_squatsIn_57 : decode cX12_squatsIn 57 = .ok (.getfield 8, 3) := by decide +kernel
theorem dX12_squatsIn_60 : decode cX12_squatsIn 60 = .ok (.iload_n 3, 1) := by decide +kernel
theorem dX12_squatsIn_61 : decode cX12_squatsIn 61 = .ok (.iconst 5, 1) := by decide +kernel
theorem dX12_squatsIn_62 : decode cX12_squatsIn 62 = .ok (.iadd, 1) := by decide +kernel
theorem dX12_squatsIn_63 : decode cX12_squatsIn 63 = .ok (.iaload, 1) := by decide +kernel
theorem dX12_squatsIn_64 : decode cX12_squatsIn 64 = .ok (.if_icmp .ge 7, 3) := by decide +kernel
theorem dX12_squatsIn_67 : decode cX12_squatsIn 67 = .ok (.iconst 1, 1) := by decide +kernel
theorem dX12_squatsIn_68 : decode cX12_squatsIn 68 = .ok (.goto 4, 3) := by decide +kernel
theorem dX12_squatsIn_71 : decode cX12_squatsIn 71 = .ok (.iconst 0, 1) := by decide +kernel
theorem dX12_squatsIn_72 : decode cX12_squatsIn 72 = .ok (.ireturn, 1) := by decide +kernel
theorem dX12_isIn_0 : decode cX12_isIn 0 = .ok (.aload_n 0, 1) := by decide +kernel
theorem dX12_isIn_1 : decode cX12_isIn 1 = .ok (.iload_n 1, 1) := by decide +kernel
theorem dX12_isIn_2 : decode cX12_isIn 2 = .ok (.iload_n 2, 1) := by decide +kernel
theorem dX12_isIn_3 : decode cX12_isIn 3 = .ok (.invokevirtual 596, 3) := by decide +kernel
theorem dX12_isIn_6 : decode cX12_isIn 6 = .ok (.ifCond .ne 12, 3) := by decide +kernel
theorem dX12_isIn_9 : decode cX12_isIn 9 = .ok (.aload_n 0, 1) := by decide +kernel
theorem dX12_isIn_10 : decode cX12_isIn 10 = .ok (.iload_n 1, 1) := by decide +kernel
theorem dX12_isIn_11 : decode cX12_isIn 11 = .ok (.iload_n 2, 1) := by decide +kernel
theorem dX12_isIn_12 : decode cX12_isIn 12 = .ok (.invokevirtual 599, 3) := by decide +kernel
theorem dX12_isIn_15 : decode cX12_isIn 15 = .ok (.ifCond .eq 7, 3) := by decide +kernel
theorem dX12_isIn_18 : decode cX12_isIn 18 = .ok (.iconst 1, 1) := by decide +kernel
theorem dX12_isIn_19 : decode cX12_isIn 19 = .ok (.goto 4, 3) := by decide +kernel
theorem dX12_isIn_22 : decode cX12_isIn 22 = .ok (.iconst 0, 1) := by decide +kernel
theorem dX12_isIn_23 : decode cX12_isIn 23 = .ok (.ireturn, 1) := by decide +kernel
theorem dX12_isFree_0 : decode cX12_isFree 0 = .ok (.iconst 1, 1) := by decide +kernel
theorem dX12_isFree_1 : decode cX12_isFree 1 = .ok (.istore_n 3, 1) := by decide +kernel
theorem dX12_isFree_2 : decode cX12_isFree 2 = .ok (.iconst 0, 1) := by decide +kernel
theorem dX12_isFree_3 : decode cX12_isFree 3 = .ok (.istore 4, 2) := by decide +kernel
theorem dX12_isFree_5 : decode cX12_isFree 5 = .ok (.iload 4, 2) := by decide +kernel
theorem dX12_isFree_7 : decode cX12_isFree 7 = .ok (.aload_n 0, 1) := by decide +kernel
theorem dX12_isFree_8 : decode cX12_isFree 8 = .ok (.getfield 8, 3) := by decide +kernel
theorem dX12_isFree_11 : decode cX12_isFree 11 = .ok (.bipush 7, 2) := by decide +kernel
theorem dX12_isFree_13 : decode cX12_isFree 13 = .ok (.iaload, 1) := by decide +kernel
theorem dX12_isFree_14 : decode cX12_isFree 14 = .ok (.if_icmp .ge 44, 3) := by decide +kernel
theorem dX12_isFree_17 : decode cX12_isFree 17 = .ok (.iload_n 3, 1) := by decide +kernel
theorem dX12_isFree_18 : decode cX12_isFree 18 = .ok (.ifCond .eq 32, 3) := by decide +kernel
theorem dX12_isFree_21 : decode cX12_isFree 21 = .ok (.aload_n 0, 1) := by decide +kernel
theorem dX12_isFree_22 : decode cX12_isFree 22 = .ok (.getfield 8, 3) := by decide +kernel
theorem dX12_isFree_25 : decode cX12_isFree 25 = .ok (.aload_n 0, 1) := by decide +kernel
theorem dX12_isFree_26 : decode cX12_isFree 26 = .ok (.iload 4, 2) := by decide +kernel
theorem dX12_isFree_28 : decode cX12_isFree 28 = .ok (.invokevirtual 593, 3) := by decide +kernel
theorem dX12_isFree_31 : decode cX12_isFree 31 = .ok (.iaload, 1) := by decide +kernel
theorem dX12_isFree_32 : decode cX12_isFree 32 = .ok (.iload_n 1, 1) := by decide +kernel
theorem dX12_isFree_33 : decode cX12_isFree 33 = .ok (.if_icmp .ne 13, 3) := by decide +kernel
theorem dX12_isFree_36 : decode cX12_isFree 36 = .ok (.aload_n 0, 1) := by decide +kernel
theorem dX12_isFree_37 : decode cX12_isFree 37 = .ok (.iload 4, 2) := by decide +kernel
theorem dX12_isFree_39 : decode cX12_isFree 39 = .ok (.iload_n 2, 1) := by decide +kernel
theorem dX12_isFree_40 : decode cX12_isFree 40 = .ok (.invokevirtual 602, 3) := by decide +kernel
theorem dX12_isFree_43 : decode cX12_isFree 43 = .ok (.ifCond .ne 7, 3) := by decide +kernel
theorem dX12_isFree_46 : decode cX12_isFree 46 = .ok (.iconst 1, 1) := by decide +kernel
theorem dX12_isFree_47 : decode cX12_isFree 47 = .ok (.goto 4, 3) := by decide +kernel
theorem dX12_isFree_50 : decode cX12_isFree 50 = .ok (.iconst 0, 1) := by decide +kernel
theorem dX12_isFree_51 : decode cX12_isFree 51 = .ok (.istore_n 3, 1) := by decide +kernel
theorem dX12_isFree_52 : decode cX12_isFree 52 = .ok (.iinc 4 1, 3) := by decide +kernel
theorem dX12_isFree_55 : decode cX12_isFree 55 = .ok (.goto (-50), 3) := by decide +kernel
theorem dX12_isFree_58 : decode cX12_isFree 58 = .ok (.iload_n 3, 1) := by decide +kernel
theorem dX12_isFree_59 : decode cX12_isFree 59 = .ok (.ireturn, 1) := by decide +kernel
theorem dX12_stayOf_0 : decode cX12_stayOf 0 = .ok (.iconst (-1), 1) := by decide +kernel
theorem dX12_stayOf_1 : decode cX12_stayOf 1 = .ok (.istore 4, 2) := by decide +kernel
theorem dX12_stayOf_3 : decode cX12_stayOf 3 = .ok (.iconst 0, 1) := by decide +kernel
theorem dX12_stayOf_4 : decode cX12_stayOf 4 = .ok (.istore 5, 2) := by decide +kernel
theorem dX12_stayOf_6 : decode cX12_stayOf 6 = .ok (.iload 5, 2) := by decide +kernel
theorem dX12_stayOf_8 : decode cX12_stayOf 8 = .ok (.aload_n 0, 1) := by decide +kernel
theorem dX12_stayOf_9 : decode cX12_stayOf 9 = .ok (.getfield 8, 3) := by decide +kernel
theorem dX12_stayOf_12 : decode cX12_stayOf 12 = .ok (.bipush 7, 2) := by decide +kernel
theorem dX12_stayOf_14 : decode cX12_stayOf 14 = .ok (.iaload, 1) := by decide +kernel
theorem dX12_stayOf_15 : decode cX12_stayOf 15 = .ok (.if_icmp .ge 109, 3) := by decide +kernel
theorem dX12_stayOf_18 : decode cX12_stayOf 18 = .ok (.aload_n 0, 1) := by decide +kernel
theorem dX12_stayOf_19 : decode cX12_stayOf 19 = .ok (.getfield 127, 3) := by decide +kernel
theorem dX12_stayOf_22 : decode cX12_stayOf 22 = .ok (.aload_n 0, 1) := by decide +kernel
theorem dX12_stayOf_23 : decode cX12_stayOf 23 = .ok (.getfield 8, 3) := by decide +kernel
theorem dX12_stayOf_26 : decode cX12_stayOf 26 = .ok (.aload_n 0, 1) := by decide +kernel
theorem dX12_stayOf_27 : decode cX12_stayOf 27 = .ok (.iload 5, 2) := by decide +kernel
theorem dX12_stayOf_29 : decode cX12_stayOf 29 = .ok (.invokevirtual 593, 3) := by decide +kernel
theorem dX12_stayOf_32 : decode cX12_stayOf 32 = .ok (.iconst 1, 1) := by decide +kernel
theorem dX12_stayOf_33 : decode cX12_stayOf 33 = .ok (.iadd, 1) := by decide +kernel
theorem dX12_stayOf_34 : decode cX12_stayOf 34 = .ok (.iaload, 1) := by decide +kernel
theorem dX12_stayOf_35 : decode cX12_stayOf 35 = .ok (.iaload, 1) := by decide +kernel
theorem dX12_stayOf_36 : decode cX12_stayOf 36 = .ok (.iload_n 1, 1) := by decide +kernel
theorem dX12_stayOf_37 : decode cX12_stayOf 37 = .ok (.if_icmp .ne 34, 3) := by decide +kernel
theorem dX12_stayOf_40 : decode cX12_stayOf 40 = .ok (.iload_n 3, 1) := by decide +kernel
theorem dX12_stayOf_41 : decode cX12_stayOf 41 = .ok (.ifCond .eq 16, 3) := by decide +kernel
theorem dX12_stayOf_44 : decode cX12_stayOf 44 = .ok (.aload_n 0, 1) := by decide +kernel
theorem dX12_stayOf_45 : decode cX12_stayOf 45 = .ok (.iload 5, 2) := by decide +kernel
theorem dX12_stayOf_47 : decode cX12_stayOf 47 = .ok (.iload_n 2, 1) := by decide +kernel
theorem dX12_stayOf_48 : decode cX12_stayOf 48 = .ok (.invokevirtual 596, 3) := by decide +kernel
theorem dX12_stayOf_51 : decode cX12_stayOf 51 = .ok (.ifCond .eq 20, 3) := by decide +kernel
theorem dX12_stayOf_54 : decode cX12_stayOf 54 = .ok (.goto 13, 3) := by decide +kernel
theorem dX12_stayOf_57 : decode cX12_stayOf 57 = .ok (.aload_n 0, 1) := by decide +kernel
theorem dX12_stayOf_58 : decode cX12_stayOf 58 = .ok (.iload 5, 2) := by decide +kernel
theorem dX12_stayOf_60 : decode cX12_stayOf 60 = .ok (.iload_n 2, 1) := by decide +kernel
theorem dX12_stayOf_61 : decode cX12_stayOf 61 = .ok (.invokevirtual 599, 3) := by decide +kernel
theorem dX12_stayOf_64 : decode cX12_stayOf 64 = .ok (.ifCond .eq 7, 3) := by decide +kernel
theorem dX12_stayOf_67 : decode cX12_stayOf 67 = .ok (.iconst 1, 1) := by decide +kernel
theorem dX12_stayOf_68 : decode cX12_stayOf 68 = .ok (.goto 4, 3) := by decide +kernel
theorem dX12_stayOf_71 : decode cX12_stayOf 71 = .ok (.iconst 0, 1) := by decide +kernel
theorem dX12_stayOf_72 : decode cX12_stayOf 72 = .ok (.istore 6, 2) := by decide +kernel
theorem dX12_stayOf_74 : decode cX12_stayOf 74 = .ok (.iload 6, 2) := by decide +kernel
theorem dX12_stayOf_76 : decode cX12_stayOf 76 = .ok (.ifCond .eq 38, 3) := by decide +kernel
theorem dX12_stayOf_79 : decode cX12_stayOf 79 = .ok (.iload 4, 2) := by decide +kernel
theorem dX12_stayOf_81 : decode cX12_stayOf 81 = .ok (.ifCond .lt 28, 3) := by decide +kernel
theorem dX12_stayOf_84 : decode cX12_stayOf 84 = .ok (.aload_n 0, 1) := by decide +kernel
theorem dX12_stayOf_85 : decode cX12_stayOf 85 = .ok (.getfield 8, 3) := by decide +kernel
theorem dX12_stayOf_88 : decode cX12_stayOf 88 = .ok (.aload_n 0, 1) := by decide +kernel
theorem dX12_stayOf_89 : decode cX12_stayOf 89 = .ok (.iload 5, 2) := by decide +kernel
theorem dX12_stayOf_91 : decode cX12_stayOf 91 = .ok (.invokevirtual 593, 3) := by decide +kernel
theorem dX12_stayOf_94 : decode cX12_stayOf 94 = .ok (.iaload, 1) := by decide +kernel
theorem dX12_stayOf_95 : decode cX12_stayOf 95 = .ok (.aload_n 0, 1) := by decide +kernel
theorem dX12_stayOf_96 : decode cX12_stayOf 96 = .ok (.getfield 8, 3) := by decide +kernel
theorem dX12_stayOf_99 : decode cX12_stayOf 99 = .ok (.aload_n 0, 1) := by decide +kernel
theorem dX12_stayOf_100 : decode cX12_stayOf 100 = .ok (.iload 4, 2) := by decide +kernel
theorem dX12_stayOf_102 : decode cX12_stayOf 102 = .ok (.invokevirtual 593, 3) := by decide +kernel
theorem dX12_stayOf_105 : decode cX12_stayOf 105 = .ok (.iaload, 1) := by decide +kernel
theorem dX12_stayOf_106 : decode cX12_stayOf 106 = .ok (.if_icmp .ge 8, 3) := by decide +kernel
theorem dX12_stayOf_109 : decode cX12_stayOf 109 = .ok (.iload 5, 2) := by decide +kernel
theorem dX12_stayOf_111 : decode cX12_stayOf 111 = .ok (.goto 5, 3) := by decide +kernel
theorem dX12_stayOf_114 : decode cX12_stayOf 114 = .ok (.iload 4, 2) := by decide +kernel
theorem dX12_stayOf_116 : decode cX12_stayOf 116 = .ok (.istore 4, 2) := by decide +kernel
theorem dX12_stayOf_118 : decode cX12_stayOf 118 = .ok (.iinc 5 1, 3) := by decide +kernel
theorem dX12_stayOf_121 : decode cX12_stayOf 121 = .ok (.goto (-115), 3) := by decide +kernel
theorem dX12_stayOf_124 : decode cX12_stayOf 124 = .ok (.iload 4, 2) := by decide +kernel
theorem dX12_stayOf_126 : decode cX12_stayOf 126 = .ok (.ireturn, 1) := by decide +kernel
theorem dX12_addStay_0 : decode cX12_addStay 0 = .ok (.aload_n 0, 1) := by decide +kernel
theorem dX12_addStay_1 : decode cX12_addStay 1 = .ok (.aload_n 0, 1) := by decide +kernel
theorem dX12_addStay_2 : decode cX12_addStay 2 = .ok (.getfield 8, 3) := by decide +kernel
theorem dX12_addStay_5 : decode cX12_addStay 5 = .ok (.bipush 7, 2) := by decide +kernel
theorem dX12_addStay_7 : decode cX12_addStay 7 = .ok (.iaload, 1) := by decide +kernel
theorem dX12_addStay_8 : decode cX12_addStay 8 = .ok (.invokevirtual 593, 3) := by decide +kernel
theorem dX12_addStay_11 : decode cX12_addStay 11 = .ok (.istore 7, 2) := by decide +kernel
theorem dX12_addStay_13 : decode cX12_addStay 13 = .ok (.aload_n 0, 1) := by decide +kernel
theorem dX12_addStay_14 : decode cX12_addStay 14 = .ok (.iload 7, 2) := by decide +kernel
theorem dX12_addStay_16 : decode cX12_addStay 16 = .ok (.iload_n 1, 1) := by decide +kernel
theorem dX12_addStay_17 : decode cX12_addStay 17 = .ok (.iload_n 2, 1) := by decide +kernel
theorem dX12_addStay_18 : decode cX12_addStay 18 = .ok (.iload_n 3, 1) := by decide +kernel
theorem dX12_addStay_19 : decode cX12_addStay 19 = .ok (.iload 4, 2) := by decide +kernel
theorem dX12_addStay_21 : decode cX12_addStay 21 = .ok (.invokevirtual 458, 3) := by decide +kernel
theorem dX12_addStay_24 : decode cX12_addStay 24 = .ok (.aload_n 0, 1) := by decide +kernel
theorem dX12_addStay_25 : decode cX12_addStay 25 = .ok (.iload 7, 2) := by decide +kernel
theorem dX12_addStay_27 : decode cX12_addStay 27 = .ok (.iconst 4, 1) := by decide +kernel
theorem dX12_addStay_28 : decode cX12_addStay 28 = .ok (.iadd, 1) := by decide +kernel
theorem dX12_addStay_29 : decode cX12_addStay 29 = .ok (.aload_n 0, 1) := by decide +kernel
theorem dX12_addStay_30 : decode cX12_addStay 30 = .ok (.getfield 142, 3) := by decide +kernel
theorem dX12_addStay_33 : decode cX12_addStay 33 = .ok (.iload_n 1, 1) := by decide +kernel
theorem dX12_addStay_34 : decode cX12_addStay 34 = .ok (.iaload, 1) := by decide +kernel
theorem dX12_addStay_35 : decode cX12_addStay 35 = .ok (.ldc_w 592, 3) := by decide +kernel
theorem dX12_addStay_38 : decode cX12_addStay 38 = .ok (.iload 5, 2) := by decide +kernel
theorem dX12_addStay_40 : decode cX12_addStay 40 = .ok (.iload 6, 2) := by decide +kernel
theorem dX12_addStay_42 : decode cX12_addStay 42 = .ok (.invokevirtual 458, 3) := by decide +kernel
theorem dX12_addStay_45 : decode cX12_addStay 45 = .ok (.aload_n 0, 1) := by decide +kernel
theorem dX12_addStay_46 : decode cX12_addStay 46 = .ok (.getfield 8, 3) := by decide +kernel
theorem dX12_addStay_49 : decode cX12_addStay 49 = .ok (.bipush 7, 2) := by decide +kernel
theorem dX12_addStay_51 : decode cX12_addStay 51 = .ok (.dup2, 1) := by decide +kernel
theorem dX12_addStay_52 : decode cX12_addStay 52 = .ok (.iaload, 1) := by decide +kernel
theorem dX12_addStay_53 : decode cX12_addStay 53 = .ok (.iconst 1, 1) := by decide +kernel
theorem dX12_addStay_54 : decode cX12_addStay 54 = .ok (.iadd, 1) := by decide +kernel
theorem dX12_addStay_55 : decode cX12_addStay 55 = .ok (.iastore, 1) := by decide +kernel
theorem dX12_addStay_56 : decode cX12_addStay 56 = .ok (.return_, 1) := by decide +kernel
theorem dX12_whom_0 : decode cX12_whom 0 = .ok (.aload_n 0, 1) := by decide +kernel
theorem dX12_whom_1 : decode cX12_whom 1 = .ok (.aload_n 0, 1) := by decide +kernel
theorem dX12_whom_2 : decode cX12_whom 2 = .ok (.iload_n 1, 1) := by decide +kernel
theorem dX12_whom_3 : decode cX12_whom 3 = .ok (.invokevirtual 474, 3) := by decide +kernel
theorem dX12_whom_6 : decode cX12_whom 6 = .ok (.iload_n 2, 1) := by decide +kernel
theorem dX12_whom_7 : decode cX12_whom 7 = .ok (.invokevirtual 589, 3) := by decide +kernel
theorem dX12_whom_10 : decode cX12_whom 10 = .ok (.iconst 0, 1) := by decide +kernel
theorem dX12_whom_11 : decode cX12_whom 11 = .ok (.istore_n 3, 1) := by decide +kernel
theorem dX12_whom_12 : decode cX12_whom 12 = .ok (.iload_n 3, 1) := by decide +kernel
theorem dX12_whom_13 : decode cX12_whom 13 = .ok (.aload_n 0, 1) := by decide +kernel
theorem dX12_whom_14 : decode cX12_whom 14 = .ok (.getfield 583, 3) := by decide +kernel
theorem dX12_whom_17 : decode cX12_whom 17 = .ok (.if_icmp .ge 93, 3) := by decide +kernel
theorem dX12_whom_20 : decode cX12_whom 20 = .ok (.aload_n 0, 1) := by decide +kernel
theorem dX12_whom_21 : decode cX12_whom 21 = .ok (.getfield 133, 3) := by decide +kernel
theorem dX12_whom_24 : decode cX12_whom 24 = .ok (.iload_n 3, 1) := by decide +kernel
theorem dX12_whom_25 : decode cX12_whom 25 = .ok (.iaload, 1) := by decide +kernel
theorem dX12_whom_26 : decode cX12_whom 26 = .ok (.istore 4, 2) := by decide +kernel
theorem dX12_whom_28 : decode cX12_whom 28 = .ok (.aload_n 0, 1) := by decide +kernel
theorem dX12_whom_29 : decode cX12_whom 29 = .ok (.aload_n 0, 1) := by decide +kernel
theorem dX12_whom_30 : decode cX12_whom 30 = .ok (.getfield 127, 3) := by decide +kernel
theorem dX12_whom_33 : decode cX12_whom 33 = .ok (.iload 4, 2) := by decide +kernel
theorem dX12_whom_35 : decode cX12_whom 35 = .ok (.iaload, 1) := by decide +kernel
theorem dX12_whom_36 : decode cX12_whom 36 = .ok (.iload_n 2, 1) := by decide +kernel
theorem dX12_whom_37 : decode cX12_whom 37 = .ok (.iconst 1, 1) := by decide +kernel
theorem dX12_whom_38 : decode cX12_whom 38 = .ok (.invokevirtual 605, 3) := by decide +kernel
theorem dX12_whom_41 : decode cX12_whom 41 = .ok (.istore 5, 2) := by decide +kernel
theorem dX12_whom_43 : decode cX12_whom 43 = .ok (.iload 5, 2) := by decide +kernel
theorem dX12_whom_45 : decode cX12_whom 45 = .ok (.iconst (-1), 1) := by decide +kernel
theorem dX12_whom_46 : decode cX12_whom 46 = .ok (.if_icmp .eq 26, 3) := by decide +kernel
theorem dX12_whom_49 : decode cX12_whom 49 = .ok (.aload_n 0, 1) := by decide +kernel
theorem dX12_whom_50 : decode cX12_whom 50 = .ok (.aload_n 0, 1) := by decide +kernel
theorem dX12_whom_51 : decode cX12_whom 51 = .ok (.getfield 8, 3) := by decide +kernel
theorem dX12_whom_54 : decode cX12_whom 54 = .ok (.aload_n 0, 1) := by decide +kernel
theorem dX12_whom_55 : decode cX12_whom 55 = .ok (.iload 5, 2) := by decide +kernel
theorem dX12_whom_57 : decode cX12_whom 57 = .ok (.invokevirtual 593, 3) := by decide +kernel
theorem dX12_whom_60 : decode cX12_whom 60 = .ok (.iaload, 1) := by decide +kernel
theorem dX12_whom_61 : decode cX12_whom 61 = .ok (.invokevirtual 504, 3) := by decide +kernel
theorem dX12_whom_64 : decode cX12_whom 64 = .ok (.aload_n 0, 1) := by decide +kernel
theorem dX12_whom_65 : decode cX12_whom 65 = .ok (.iload_n 1, 1) := by decide +kernel
theorem dX12_whom_66 : decode cX12_whom 66 = .ok (.invokevirtual 504, 3) := by decide +kernel
theorem dX12_whom_69 : decode cX12_whom 69 = .ok (.if_icmp .ge 7, 3) := by decide +kernel
theorem dX12_whom_72 : decode cX12_whom 72 = .ok (.iconst 1, 1) := by decide +kernel
theorem dX12_whom_73 : decode cX12_whom 73 = .ok (.goto 4, 3) := by decide +kernel
theorem dX12_whom_76 : decode cX12_whom 76 = .ok (.iconst 0, 1) := by decide +kernel
theorem dX12_whom_77 : decode cX12_whom 77 = .ok (.istore 6, 2) := by decide +kernel
theorem dX12_whom_79 : decode cX12_whom 79 = .ok (.iload 6, 2) := by decide +kernel
theorem dX12_whom_81 : decode cX12_whom 81 = .ok (.ifCond .eq 23, 3) := by decide +kernel
theorem dX12_whom_84 : decode cX12_whom 84 = .ok (.aload_n 0, 1) := by decide +kernel
theorem dX12_whom_85 : decode cX12_whom 85 = .ok (.iload 4, 2) := by decide +kernel
theorem dX12_whom_87 : decode cX12_whom 87 = .ok (.iconst 2, 1) := by decide +kernel
theorem dX12_whom_88 : decode cX12_whom 88 = .ok (.invokevirtual 562, 3) := by decide +kernel
theorem dX12_whom_91 : decode cX12_whom 91 = .ok (.iconst 2, 1) := by decide +kernel
theorem dX12_whom_92 : decode cX12_whom 92 = .ok (.aload_n 0, 1) := by decide +kernel
theorem dX12_whom_93 : decode cX12_whom 93 = .ok (.iload_n 1, 1) := by decide +kernel
theorem dX12_whom_94 : decode cX12_whom 94 = .ok (.invokevirtual 504, 3) := by decide +kernel
theorem dX12_whom_97 : decode cX12_whom 97 = .ok (.imul, 1) := by decide +kernel
theorem dX12_whom_98 : decode cX12_whom 98 = .ok (.if_icmp .gt 6, 3) := by decide +kernel
theorem dX12_whom_101 : decode cX12_whom 101 = .ok (.iload 4, 2) := by decide +kernel
theorem dX12_whom_103 : decode cX12_whom 103 = .ok (.ireturn, 1) := by decide +kernel
theorem dX12_whom_104 : decode cX12_whom 104 = .ok (.iinc 3 1, 3) := by decide +kernel
theorem dX12_whom_107 : decode cX12_whom 107 = .ok (.goto (-95), 3) := by decide +kernel
theorem dX12_whom_110 : decode cX12_whom 110 = .ok (.iconst (-1), 1) := by decide +kernel
theorem dX12_whom_111 : decode cX12_whom 111 = .ok (.ireturn, 1) := by decide +kernel
theorem dX12_offerOne_0 : decode cX12_offerOne 0 = .ok (.iload_n 1, 1) := by decide +kernel
theorem dX12_offerOne_1 : decode cX12_offerOne 1 = .ok (.istore_n 3, 1) := by decide +kernel
theorem dX12_offerOne_2 : decode cX12_offerOne 2 = .ok (.iconst 0, 1) := by decide +kernel
theorem dX12_offerOne_3 : decode cX12_offerOne 3 = .ok (.istore 4, 2) := by decide +kernel
theorem dX12_offerOne_5 : decode cX12_offerOne 5 = .ok (.iload_n 3, 1) := by decide +kernel
theorem dX12_offerOne_6 : decode cX12_offerOne 6 = .ok (.iconst (-1), 1) := by decide +kernel
theorem dX12_offerOne_7 : decode cX12_offerOne 7 = .ok (.if_icmp .eq 185, 3) := by decide +kernel
theorem dX12_offerOne_10 : decode cX12_offerOne 10 = .ok (.iload 4, 2) := by decide +kernel
theorem dX12_offerOne_12 : decode cX12_offerOne 12 = .ok (.bipush 10, 2) := by decide +kernel
theorem dX12_offerOne_14 : decode cX12_offerOne 14 = .ok (.if_icmp .ge 178, 3) := by decide +kernel
theorem dX12_offerOne_17 : decode cX12_offerOne 17 = .ok (.aload_n 0, 1) := by decide +kernel
theorem dX12_offerOne_18 : decode cX12_offerOne 18 = .ok (.iload_n 3, 1) := by decide +kernel
theorem dX12_offerOne_19 : decode cX12_offerOne 19 = .ok (.iload_n 2, 1) := by decide +kernel
theorem dX12_offerOne_20 : decode cX12_offerOne 20 = .ok (.invokevirtual 609, 3) := by decide +kernel
theorem dX12_offerOne_23 : decode cX12_offerOne 23 = .ok (.ifCond .eq 21, 3) := by decide +kernel
theorem dX12_offerOne_26 : decode cX12_offerOne 26 = .ok (.aload_n 0, 1) := by decide +kernel
theorem dX12_offerOne_27 : decode cX12_offerOne 27 = .ok (.iload_n 3, 1) := by decide +kernel
theorem dX12_offerOne_28 : decode cX12_offerOne 28 = .ok (.iload_n 2, 1) := by decide +kernel
theorem dX12_offerOne_29 : decode cX12_offerOne 29 = .ok (.invokevirtual 612, 3) := by decide +kernel
theorem dX12_offerOne_32 : decode cX12_offerOne 32 = .ok (.ifCond .eq 12, 3) := by decide +kernel
theorem dX12_offerOne_35 : decode cX12_offerOne 35 = .ok (.aload_n 0, 1) := by decide +kernel
theorem dX12_offerOne_36 : decode cX12_offerOne 36 = .ok (.iload_n 3, 1) := by decide +kernel
theorem dX12_offerOne_37 : decode cX12_offerOne 37 = .ok (.iload_n 2, 1) := by decide +kernel
theorem dX12_offerOne_38 : decode cX12_offerOne 38 = .ok (.invokevirtual 615, 3) := by decide +kernel
theorem dX12_offerOne_41 : decode cX12_offerOne 41 = .ok (.goto 4, 3) := by decide +kernel
theorem dX12_offerOne_44 : decode cX12_offerOne 44 = .ok (.iconst (-1), 1) := by decide +kernel
theorem dX12_offerOne_45 : decode cX12_offerOne 45 = .ok (.istore 5, 2) := by decide +kernel
theorem dX12_offerOne_47 : decode cX12_offerOne 47 = .ok (.iload 5, 2) := by decide +kernel
theorem dX12_offerOne_49 : decode cX12_offerOne 49 = .ok (.iconst (-1), 1) := by decide +kernel
theorem dX12_offerOne_50 : decode cX12_offerOne 50 = .ok (.if_icmp .ne 8, 3) := by decide +kernel
theorem dX12_offerOne_53 : decode cX12_offerOne 53 = .ok (.iconst (-1), 1) := by decide +kernel
theorem dX12_offerOne_54 : decode cX12_offerOne 54 = .ok (.istore_n 3, 1) := by decide +kernel
theorem dX12_offerOne_55 : decode cX12_offerOne 55 = .ok (.goto 134, 3) := by decide +kernel
theorem dX12_offerOne_58 : decode cX12_offerOne 58 = .ok (.aload_n 0, 1) := by decide +kernel
theorem dX12_offerOne_59 : decode cX12_offerOne 59 = .ok (.aload_n 0, 1) := by decide +kernel
theorem dX12_offerOne_60 : decode cX12_offerOne 60 = .ok (.getfield 127, 3) := by decide +kernel
theorem dX12_offerOne_63 : decode cX12_offerOne 63 = .ok (.iload 5, 2) := by decide +kernel
theorem dX12_offerOne_65 : decode cX12_offerOne 65 = .ok (.iaload, 1) := by decide +kernel
theorem dX12_offerOne_66 : decode cX12_offerOne 66 = .ok (.iload_n 2, 1) := by decide +kernel
theorem dX12_offerOne_67 : decode cX12_offerOne 67 = .ok (.iconst 1, 1) := by decide +kernel
theorem dX12_offerOne_68 : decode cX12_offerOne 68 = .ok (.invokevirtual 605, 3) := by decide +kernel
theorem dX12_offerOne_71 : decode cX12_offerOne 71 = .ok (.istore 6, 2) := by decide +kernel
theorem dX12_offerOne_73 : decode cX12_offerOne 73 = .ok (.aload_n 0, 1) := by decide +kernel
theorem dX12_offerOne_74 : decode cX12_offerOne 74 = .ok (.aload_n 0, 1) := by decide +kernel
theorem dX12_offerOne_75 : decode cX12_offerOne 75 = .ok (.getfield 127, 3) := by decide +kernel
theorem dX12_offerOne_78 : decode cX12_offerOne 78 = .ok (.iload 5, 2) := by decide +kernel
theorem dX12_offerOne_80 : decode cX12_offerOne 80 = .ok (.iaload, 1) := by decide +kernel
theorem dX12_offerOne_81 : decode cX12_offerOne 81 = .ok (.iload_n 2, 1) := by decide +kernel
theorem dX12_offerOne_82 : decode cX12_offerOne 82 = .ok (.iconst 0, 1) := by decide +kernel
theorem dX12_offerOne_83 : decode cX12_offerOne 83 = .ok (.invokevirtual 605, 3) := by decide +kernel
theorem dX12_offerOne_86 : decode cX12_offerOne 86 = .ok (.istore 7, 2) := by decide +kernel
theorem dX12_offerOne_88 : decode cX12_offerOne 88 = .ok (.iload 6, 2) := by decide +kernel
theorem dX12_offerOne_90 : decode cX12_offerOne 90 = .ok (.iconst (-1), 1) := by decide +kernel
theorem dX12_offerOne_91 : decode cX12_offerOne 91 = .ok (.if_icmp .eq 17, 3) := by decide +kernel
theorem dX12_offerOne_94 : decode cX12_offerOne 94 = .ok (.aload_n 0, 1) := by decide +kernel
theorem dX12_offerOne_95 : decode cX12_offerOne 95 = .ok (.getfield 8, 3) := by decide +kernel
theorem dX12_offerOne_98 : decode cX12_offerOne 98 = .ok (.aload_n 0, 1) := by decide +kernel
theorem dX12_offerOne_99 : decode cX12_offerOne 99 = .ok (.iload 6, 2) := by decide +kernel
theorem dX12_offerOne_101 : decode cX12_offerOne 101 = .ok (.invokevirtual 593, 3) := by decide +kernel
theorem dX12_offerOne_104 : decode cX12_offerOne 104 = .ok (.iaload, 1) := by decide +kernel
theorem dX12_offerOne_105 : decode cX12_offerOne 105 = .ok (.goto 24, 3) := by decide +kernel
theorem dX12_offerOne_108 : decode cX12_offerOne 108 = .ok (.iload 7, 2) := by decide +kernel
theorem dX12_offerOne_110 : decode cX12_offerOne 110 = .ok (.iconst (-1), 1) := by decide +kernel
theorem dX12_offerOne_111 : decode cX12_offerOne 111 = .ok (.if_icmp .eq 17, 3) := by decide +kernel
theorem dX12_offerOne_114 : decode cX12_offerOne 114 = .ok (.aload_n 0, 1) := by decide +kernel
theorem dX12_offerOne_115 : decode cX12_offerOne 115 = .ok (.getfield 8, 3) := by decide +kernel
theorem dX12_offerOne_118 : decode cX12_offerOne 118 = .ok (.aload_n 0, 1) := by decide +kernel
theorem dX12_offerOne_119 : decode cX12_offerOne 119 = .ok (.iload 7, 2) := by decide +kernel
theorem dX12_offerOne_121 : decode cX12_offerOne 121 = .ok (.invokevirtual 593, 3) := by decide +kernel
theorem dX12_offerOne_124 : decode cX12_offerOne 124 = .ok (.iaload, 1) := by decide +kernel
theorem dX12_offerOne_125 : decode cX12_offerOne 125 = .ok (.goto 4, 3) := by decide +kernel
theorem dX12_offerOne_128 : decode cX12_offerOne 128 = .ok (.iconst (-1), 1) := by decide +kernel
theorem dX12_offerOne_129 : decode cX12_offerOne 129 = .ok (.istore 8, 2) := by decide +kernel
theorem dX12_offerOne_131 : decode cX12_offerOne 131 = .ok (.iload 6, 2) := by decide +kernel
theorem dX12_offerOne_133 : decode cX12_offerOne 133 = .ok (.iconst (-1), 1) := by decide +kernel
theorem dX12_offerOne_134 : decode cX12_offerOne 134 = .ok (.if_icmp .eq 17, 3) := by decide +kernel
theorem dX12_offerOne_137 : decode cX12_offerOne 137 = .ok (.aload_n 0, 1) := by decide +kernel
theorem dX12_offerOne_138 : decode cX12_offerOne 138 = .ok (.getfield 8, 3) := by decide +kernel
theorem dX12_offerOne_141 : decode cX12_offerOne 141 = .ok (.aload_n 0, 1) := by decide +kernel
theorem dX12_offerOne_142 : decode cX12_offerOne 142 = .ok (.iload 6, 2) := by decide +kernel
theorem dX12_offerOne_144 : decode cX12_offerOne 144 = .ok (.invokevirtual 593, 3) := by decide +kernel
theorem dX12_offerOne_147 : decode cX12_offerOne 147 = .ok (.iconst 5, 1) := by decide +kernel
theorem dX12_offerOne_148 : decode cX12_offerOne 148 = .ok (.iadd, 1) := by decide +kernel
theorem dX12_offerOne_149 : decode cX12_offerOne 149 = .ok (.iload_n 2, 1) := by decide +kernel
theorem dX12_offerOne_150 : decode cX12_offerOne 150 = .ok (.iastore, 1) := by decide +kernel
theorem dX12_offerOne_151 : decode cX12_offerOne 151 = .ok (.iload 7, 2) := by decide +kernel
theorem dX12_offerOne_153 : decode cX12_offerOne 153 = .ok (.iconst (-1), 1) := by decide +kernel
theorem dX12_offerOne_154 : decode cX12_offerOne 154 = .ok (.if_icmp .eq 17, 3) := by decide +kernel
theorem dX12_offerOne_157 : decode cX12_offerOne 157 = .ok (.aload_n 0, 1) := by decide +kernel
theorem dX12_offerOne_158 : decode cX12_offerOne 158 = .ok (.getfield 8, 3) := by decide +kernel
theorem dX12_offerOne_161 : decode cX12_offerOne 161 = .ok (.aload_n 0, 1) := by decide +kernel
theorem dX12_offerOne_162 : decode cX12_offerOne 162 = .ok (.iload 7, 2) := by decide +kernel
theorem dX12_offerOne_164 : decode cX12_offerOne 164 = .ok (.invokevirtual 593, 3) := by decide +kernel
theorem dX12_offerOne_167 : decode cX12_offerOne 167 = .ok (.iconst 5, 1) := by decide +kernel
theorem dX12_offerOne_168 : decode cX12_offerOne 168 = .ok (.iadd, 1) := by decide +kernel
theorem dX12_offerOne_169 : decode cX12_offerOne 169 = .ok (.iload_n 2, 1) := by decide +kernel
theorem dX12_offerOne_170 : decode cX12_offerOne 170 = .ok (.iastore, 1) := by decide +kernel
theorem dX12_offerOne_171 : decode cX12_offerOne 171 = .ok (.aload_n 0, 1) := by decide +kernel
theorem dX12_offerOne_172 : decode cX12_offerOne 172 = .ok (.iload_n 3, 1) := by decide +kernel
theorem dX12_offerOne_173 : decode cX12_offerOne 173 = .ok (.iload 5, 2) := by decide +kernel
theorem dX12_offerOne_175 : decode cX12_offerOne 175 = .ok (.iload_n 2, 1) := by decide +kernel
theorem dX12_offerOne_176 : decode cX12_offerOne 176 = .ok (.iload_n 2, 1) := by decide +kernel
theorem dX12_offerOne_177 : decode cX12_offerOne 177 = .ok (.iload 4, 2) := by decide +kernel
theorem dX12_offerOne_179 : decode cX12_offerOne 179 = .ok (.iconst 0, 1) := by decide +kernel
theorem dX12_offerOne_180 : decode cX12_offerOne 180 = .ok (.invokevirtual 618, 3) := by decide +kernel
theorem dX12_offerOne_183 : decode cX12_offerOne 183 = .ok (.iinc 4 1, 3) := by decide +kernel
theorem dX12_offerOne_186 : decode cX12_offerOne 186 = .ok (.iload 8, 2) := by decide +kernel
theorem dX12_offerOne_188 : decode cX12_offerOne 188 = .ok (.istore_n 3, 1) := by decide +kernel
theorem dX12_offerOne_189 : decode cX12_offerOne 189 = .ok (.goto (-184), 3) := by decide +kernel
theorem dX12_offerOne_192 : decode cX12_offerOne 192 = .ok (.iload 4, 2) := by decide +kernel
theorem dX12_offerOne_194 : decode cX12_offerOne 194 = .ok (.ireturn, 1) := by decide +kernel
theorem dX12_offer_0 : decode cX12_offer 0 = .ok (.aload_n 0, 1) := by decide +kernel
theorem dX12_offer_1 : decode cX12_offer 1 = .ok (.iconst 0, 1) := by decide +kernel
theorem dX12_offer_2 : decode cX12_offer 2 = .ok (.putfield 145, 3) := by decide +kernel
theorem dX12_offer_5 : decode cX12_offer 5 = .ok (.iload_n 1, 1) := by decide +kernel
theorem dX12_offer_6 : decode cX12_offer 6 = .ok (.invokestatic 387, 3) := by decide +kernel
theorem dX12_offer_9 : decode cX12_offer 9 = .ok (.ifCond .eq 14, 3) := by decide +kernel
theorem dX12_offer_12 : decode cX12_offer 12 = .ok (.iload_n 1, 1) := by decide +kernel
theorem dX12_offer_13 : decode cX12_offer 13 = .ok (.aload_n 0, 1) := by decide +kernel
theorem dX12_offer_14 : decode cX12_offer 14 = .ok (.getfield 8, 3) := by decide +kernel
theorem dX12_offer_17 : decode cX12_offer 17 = .ok (.bipush 12, 2) := by decide +kernel
theorem dX12_offer_19 : decode cX12_offer 19 = .ok (.iaload, 1) := by decide +kernel
theorem dX12_offer_20 : decode cX12_offer 20 = .ok (.if_icmp .ge 9, 3) := by decide +kernel
theorem dX12_offer_23 : decode cX12_offer 23 = .ok (.aload_n 0, 1) := by decide +kernel
theorem dX12_offer_24 : decode cX12_offer 24 = .ok (.iconst (-1), 1) := by decide +kernel
theorem dX12_offer_25 : decode cX12_offer 25 = .ok (.invokevirtual 163, 3) := by decide +kernel
theorem dX12_offer_28 : decode cX12_offer 28 = .ok (.ireturn, 1) := by decide +kernel
theorem dX12_offer_29 : decode cX12_offer 29 = .ok (.aload_n 0, 1) := by decide +kernel
theorem dX12_offer_30 : decode cX12_offer 30 = .ok (.getfield 8, 3) := by decide +kernel
theorem dX12_offer_33 : decode cX12_offer 33 = .ok (.bipush 10, 2) := by decide +kernel
theorem dX12_offer_35 : decode cX12_offer 35 = .ok (.iaload, 1) := by decide +kernel
theorem dX12_offer_36 : decode cX12_offer 36 = .ok (.bipush 100, 2) := by decide +kernel
theorem dX12_offer_38 : decode cX12_offer 38 = .ok (.if_icmp .ne 10, 3) := by decide +kernel
theorem dX12_offer_41 : decode cX12_offer 41 = .ok (.aload_n 0, 1) := by decide +kernel
theorem dX12_offer_42 : decode cX12_offer 42 = .ok (.bipush (-5), 2) := by decide +kernel
theorem dX12_offer_44 : decode cX12_offer 44 = .ok (.invokevirtual 163, 3) := by decide +kernel
theorem dX12_offer_47 : decode cX12_offer 47 = .ok (.ireturn, 1) := by decide +kernel
theorem dX12_offer_48 : decode cX12_offer 48 = .ok (.aload_n 0, 1) := by decide +kernel
theorem dX12_offer_49 : decode cX12_offer 49 = .ok (.iload_n 1, 1) := by decide +kernel
theorem dX12_offer_50 : decode cX12_offer 50 = .ok (.invokevirtual 622, 3) := by decide +kernel
theorem dX12_offer_53 : decode cX12_offer 53 = .ok (.aload_n 0, 1) := by decide +kernel
theorem dX12_offer_54 : decode cX12_offer 54 = .ok (.iload_n 1, 1) := by decide +kernel
theorem dX12_offer_55 : decode cX12_offer 55 = .ok (.invokevirtual 568, 3) := by decide +kernel
theorem dX12_offer_58 : decode cX12_offer 58 = .ok (.iconst 0, 1) := by decide +kernel
theorem dX12_offer_59 : decode cX12_offer 59 = .ok (.istore_n 2, 1) := by decide +kernel
theorem dX12_offer_60 : decode cX12_offer 60 = .ok (.iconst 0, 1) := by decide +kernel
theorem dX12_offer_61 : decode cX12_offer 61 = .ok (.istore_n 3, 1) := by decide +kernel
theorem dX12_offer_62 : decode cX12_offer 62 = .ok (.iload_n 3, 1) := by decide +kernel
theorem dX12_offer_63 : decode cX12_offer 63 = .ok (.aload_n 0, 1) := by decide +kernel
theorem dX12_offer_64 : decode cX12_offer 64 = .ok (.getfield 8, 3) := by decide +kernel
theorem dX12_offer_67 : decode cX12_offer 67 = .ok (.iconst 4, 1) := by decide +kernel
theorem dX12_offer_68 : decode cX12_offer 68 = .ok (.iaload, 1) := by decide +kernel
theorem dX12_offer_69 : decode cX12_offer 69 = .ok (.if_icmp .ge 18, 3) := by decide +kernel
theorem dX12_offer_72 : decode cX12_offer 72 = .ok (.iload_n 2, 1) := by decide +kernel
theorem dX12_offer_73 : decode cX12_offer 73 = .ok (.aload_n 0, 1) := by decide +kernel
theorem dX12_offer_74 : decode cX12_offer 74 = .ok (.iload_n 3, 1) := by decide +kernel
theorem dX12_offer_75 : decode cX12_offer 75 = .ok (.iload_n 1, 1) := by decide +kernel
theorem dX12_offer_76 : decode cX12_offer 76 = .ok (.invokevirtual 625, 3) := by decide +kernel
theorem dX12_offer_79 : decode cX12_offer 79 = .ok (.iadd, 1) := by decide +kernel
theorem dX12_offer_80 : decode cX12_offer 80 = .ok (.istore_n 2, 1) := by decide +kernel
theorem dX12_offer_81 : decode cX12_offer 81 = .ok (.iinc 3 1, 3) := by decide +kernel
theorem dX12_offer_84 : decode cX12_offer 84 = .ok (.goto (-22), 3) := by decide +kernel
theorem dX12_offer_87 : decode cX12_offer 87 = .ok (.aload_n 0, 1) := by decide +kernel
theorem dX12_offer_88 : decode cX12_offer 88 = .ok (.getfield 8, 3) := by decide +kernel
theorem dX12_offer_91 : decode cX12_offer 91 = .ok (.bipush 10, 2) := by decide +kernel
theorem dX12_offer_93 : decode cX12_offer 93 = .ok (.dup2, 1) := by decide +kernel
theorem dX12_offer_94 : decode cX12_offer 94 = .ok (.iaload, 1) := by decide +kernel
theorem dX12_offer_95 : decode cX12_offer 95 = .ok (.iconst 1, 1) := by decide +kernel
theorem dX12_offer_96 : decode cX12_offer 96 = .ok (.iadd, 1) := by decide +kernel
theorem dX12_offer_97 : decode cX12_offer 97 = .ok (.iastore, 1) := by decide +kernel
theorem dX12_offer_98 : decode cX12_offer 98 = .ok (.aload_n 0, 1) := by decide +kernel
theorem dX12_offer_99 : decode cX12_offer 99 = .ok (.getfield 8, 3) := by decide +kernel
theorem dX12_offer_102 : decode cX12_offer 102 = .ok (.bipush 11, 2) := by decide +kernel
theorem dX12_offer_104 : decode cX12_offer 104 = .ok (.dup2, 1) := by decide +kernel
theorem dX12_offer_105 : decode cX12_offer 105 = .ok (.iaload, 1) := by decide +kernel
theorem dX12_offer_106 : decode cX12_offer 106 = .ok (.iload_n 2, 1) := by decide +kernel
theorem dX12_offer_107 : decode cX12_offer 107 = .ok (.iadd, 1) := by decide +kernel
theorem dX12_offer_108 : decode cX12_offer 108 = .ok (.iastore, 1) := by decide +kernel
theorem dX12_offer_109 : decode cX12_offer 109 = .ok (.aload_n 0, 1) := by decide +kernel
theorem dX12_offer_110 : decode cX12_offer 110 = .ok (.getfield 8, 3) := by decide +kernel
theorem dX12_offer_113 : decode cX12_offer 113 = .ok (.bipush 12, 2) := by decide +kernel
theorem dX12_offer_115 : decode cX12_offer 115 = .ok (.iload_n 1, 1) := by decide +kernel
theorem dX12_offer_116 : decode cX12_offer 116 = .ok (.iastore, 1) := by decide +kernel
theorem dX12_offer_117 : decode cX12_offer 117 = .ok (.aload_n 0, 1) := by decide +kernel
theorem dX12_offer_118 : decode cX12_offer 118 = .ok (.iload_n 2, 1) := by decide +kernel
theorem dX12_offer_119 : decode cX12_offer 119 = .ok (.invokevirtual 163, 3) := by decide +kernel
theorem dX12_offer_122 : decode cX12_offer 122 = .ok (.ireturn, 1) := by decide +kernel
theorem dX12_livingIn_0 : decode cX12_livingIn 0 = .ok (.iconst (-1), 1) := by decide +kernel
theorem dX12_livingIn_1 : decode cX12_livingIn 1 = .ok (.istore_n 3, 1) := by decide +kernel
theorem dX12_livingIn_2 : decode cX12_livingIn 2 = .ok (.iconst 0, 1) := by decide +kernel
theorem dX12_livingIn_3 : decode cX12_livingIn 3 = .ok (.istore 4, 2) := by decide +kernel
theorem dX12_livingIn_5 : decode cX12_livingIn 5 = .ok (.iload 4, 2) := by decide +kernel
theorem dX12_livingIn_7 : decode cX12_livingIn 7 = .ok (.aload_n 0, 1) := by decide +kernel
theorem dX12_livingIn_8 : decode cX12_livingIn 8 = .ok (.getfield 8, 3) := by decide +kernel
theorem dX12_livingIn_11 : decode cX12_livingIn 11 = .ok (.bipush 7, 2) := by decide +kernel
theorem dX12_livingIn_13 : decode cX12_livingIn 13 = .ok (.iaload, 1) := by decide +kernel
theorem dX12_livingIn_14 : decode cX12_livingIn 14 = .ok (.if_icmp .ge 41, 3) := by decide +kernel
theorem dX12_livingIn_17 : decode cX12_livingIn 17 = .ok (.aload_n 0, 1) := by decide +kernel
theorem dX12_livingIn_18 : decode cX12_livingIn 18 = .ok (.getfield 8, 3) := by decide +kernel
theorem dX12_livingIn_21 : decode cX12_livingIn 21 = .ok (.aload_n 0, 1) := by decide +kernel
theorem dX12_livingIn_22 : decode cX12_livingIn 22 = .ok (.iload 4, 2) := by decide +kernel
theorem dX12_livingIn_24 : decode cX12_livingIn 24 = .ok (.invokevirtual 593, 3) := by decide +kernel
theorem dX12_livingIn_27 : decode cX12_livingIn 27 = .ok (.iaload, 1) := by decide +kernel
theorem dX12_livingIn_28 : decode cX12_livingIn 28 = .ok (.iload_n 1, 1) := by decide +kernel
theorem dX12_livingIn_29 : decode cX12_livingIn 29 = .ok (.if_icmp .ne 18, 3) := by decide +kernel
theorem dX12_livingIn_32 : decode cX12_livingIn 32 = .ok (.aload_n 0, 1) := by decide +kernel
theorem dX12_livingIn_33 : decode cX12_livingIn 33 = .ok (.iload 4, 2) := by decide +kernel
theorem dX12_livingIn_35 : decode cX12_livingIn 35 = .ok (.iload_n 2, 1) := by decide +kernel
theorem dX12_livingIn_36 : decode cX12_livingIn 36 = .ok (.invokevirtual 596, 3) := by decide +kernel
theorem dX12_livingIn_39 : decode cX12_livingIn 39 = .ok (.ifCond .eq 8, 3) := by decide +kernel
theorem dX12_livingIn_42 : decode cX12_livingIn 42 = .ok (.iload 4, 2) := by decide +kernel
theorem dX12_livingIn_44 : decode cX12_livingIn 44 = .ok (.goto 4, 3) := by decide +kernel
theorem dX12_livingIn_47 : decode cX12_livingIn 47 = .ok (.iload_n 3, 1) := by decide +kernel
theorem dX12_livingIn_48 : decode cX12_livingIn 48 = .ok (.istore_n 3, 1) := by decide +kernel
theorem dX12_livingIn_49 : decode cX12_livingIn 49 = .ok (.iinc 4 1, 3) := by decide +kernel
theorem dX12_livingIn_52 : decode cX12_livingIn 52 = .ok (.goto (-47), 3) := by decide +kernel
theorem dX12_livingIn_55 : decode cX12_livingIn 55 = .ok (.iload_n 3, 1) := by decide +kernel
theorem dX12_livingIn_56 : decode cX12_livingIn 56 = .ok (.ireturn, 1) := by decide +kernel
theorem dX12_lives_0 : decode cX12_lives 0 = .ok (.aload_n 0, 1) := by decide +kernel
theorem dX12_lives_1 : decode cX12_lives 1 = .ok (.iconst 0, 1) := by decide +kernel
theorem dX12_lives_2 : decode cX12_lives 2 = .ok (.putfield 145, 3) := by decide +kernel
theorem dX12_lives_5 : decode cX12_lives 5 = .ok (.aload_n 0, 1) := by decide +kernel
theorem dX12_lives_6 : decode cX12_lives 6 = .ok (.iload_n 1, 1) := by decide +kernel
theorem dX12_lives_7 : decode cX12_lives 7 = .ok (.invokevirtual 471, 3) := by decide +kernel
theorem dX12_lives_10 : decode cX12_lives 10 = .ok (.ifCond .eq 22, 3) := by decide +kernel
theorem dX12_lives_13 : decode cX12_lives 13 = .ok (.iload_n 2, 1) := by decide +kernel
theorem dX12_lives_14 : decode cX12_lives 14 = .ok (.invokestatic 387, 3) := by decide +kernel
theorem dX12_lives_17 : decode cX12_lives 17 = .ok (.ifCond .eq 15, 3) := by decide +kernel
theorem dX12_lives_20 : decode cX12_lives 20 = .ok (.iload_n 3, 1) := by decide +kernel
theorem dX12_lives_21 : decode cX12_lives 21 = .ok (.i2l, 1) := by decide +kernel
theorem dX12_lives_22 : decode cX12_lives 22 = .ok (.lconst 0, 1) := by decide +kernel
theorem dX12_lives_23 : decode cX12_lives 23 = .ok (.ldc2_w 161, 3) := by decide +kernel
theorem dX12_lives_26 : decode cX12_lives 26 = .ok (.invokestatic 153, 3) := by decide +kernel
theorem dX12_lives_29 : decode cX12_lives 29 = .ok (.ifCond .ne 5, 3) := by decide +kernel
theorem dX12_lives_32 : decode cX12_lives 32 = .ok (.iconst (-1), 1) := by decide +kernel
theorem dX12_lives_33 : decode cX12_lives 33 = .ok (.ireturn, 1) := by decide +kernel
theorem dX12_lives_34 : decode cX12_lives 34 = .ok (.aload_n 0, 1) := by decide +kernel
theorem dX12_lives_35 : decode cX12_lives 35 = .ok (.iload_n 1, 1) := by decide +kernel
theorem dX12_lives_36 : decode cX12_lives 36 = .ok (.iload_n 2, 1) := by decide +kernel
theorem dX12_lives_37 : decode cX12_lives 37 = .ok (.invokevirtual 628, 3) := by decide +kernel
theorem dX12_lives_40 : decode cX12_lives 40 = .ok (.istore 4, 2) := by decide +kernel
theorem dX12_lives_42 : decode cX12_lives 42 = .ok (.iload 4, 2) := by decide +kernel
theorem dX12_lives_44 : decode cX12_lives 44 = .ok (.iconst (-1), 1) := by decide +kernel
theorem dX12_lives_45 : decode cX12_lives 45 = .ok (.if_icmp .ne 7, 3) := by decide +kernel
theorem dX12_lives_48 : decode cX12_lives 48 = .ok (.iconst (-1), 1) := by decide +kernel
theorem dX12_lives_49 : decode cX12_lives 49 = .ok (.goto 58, 3) := by decide +kernel
theorem dX12_lives_52 : decode cX12_lives 52 = .ok (.iload_n 3, 1) := by decide +kernel
theorem dX12_lives_53 : decode cX12_lives 53 = .ok (.ifCond .ne 19, 3) := by decide +kernel
theorem dX12_lives_56 : decode cX12_lives 56 = .ok (.aload_n 0, 1) := by decide +kernel
theorem dX12_lives_57 : decode cX12_lives 57 = .ok (.getfield 8, 3) := by decide +kernel
theorem dX12_lives_60 : decode cX12_lives 60 = .ok (.aload_n 0, 1) := by decide +kernel
theorem dX12_lives_61 : decode cX12_lives 61 = .ok (.iload 4, 2) := by decide +kernel
theorem dX12_lives_63 : decode cX12_lives 63 = .ok (.invokevirtual 593, 3) := by decide +kernel
theorem dX12_lives_66 : decode cX12_lives 66 = .ok (.iconst 1, 1) := by decide +kernel
theorem dX12_lives_67 : decode cX12_lives 67 = .ok (.iadd, 1) := by decide +kernel
theorem dX12_lives_68 : decode cX12_lives 68 = .ok (.iaload, 1) := by decide +kernel
theorem dX12_lives_69 : decode cX12_lives 69 = .ok (.goto 38, 3) := by decide +kernel
theorem dX12_lives_72 : decode cX12_lives 72 = .ok (.iload_n 3, 1) := by decide +kernel
theorem dX12_lives_73 : decode cX12_lives 73 = .ok (.iconst 1, 1) := by decide +kernel
theorem dX12_lives_74 : decode cX12_lives 74 = .ok (.if_icmp .ne 19, 3) := by decide +kernel
theorem dX12_lives_77 : decode cX12_lives 77 = .ok (.aload_n 0, 1) := by decide +kernel
theorem dX12_lives_78 : decode cX12_lives 78 = .ok (.getfield 8, 3) := by decide +kernel
theorem dX12_lives_81 : decode cX12_lives 81 = .ok (.aload_n 0, 1) := by decide +kernel
theorem dX12_lives_82 : decode cX12_lives 82 = .ok (.iload 4, 2) := by decide +kernel
theorem dX12_lives_84 : decode cX12_lives 84 = .ok (.invokevirtual 593, 3) := by decide +kernel
theorem dX12_lives_87 : decode cX12_lives 87 = .ok (.iconst 2, 1) := by decide +kernel
theorem dX12_lives_88 : decode cX12_lives 88 = .ok (.iadd, 1) := by decide +kernel
theorem dX12_lives_89 : decode cX12_lives 89 = .ok (.iaload, 1) := by decide +kernel
theorem dX12_lives_90 : decode cX12_lives 90 = .ok (.goto 17, 3) := by decide +kernel
theorem dX12_lives_93 : decode cX12_lives 93 = .ok (.aload_n 0, 1) := by decide +kernel
theorem dX12_lives_94 : decode cX12_lives 94 = .ok (.getfield 8, 3) := by decide +kernel
theorem dX12_lives_97 : decode cX12_lives 97 = .ok (.aload_n 0, 1) := by decide +kernel
theorem dX12_lives_98 : decode cX12_lives 98 = .ok (.iload 4, 2) := by decide +kernel
theorem dX12_lives_100 : decode cX12_lives 100 = .ok (.invokevirtual 593, 3) := by decide +kernel
theorem dX12_lives_103 : decode cX12_lives 103 = .ok (.bipush 6, 2) := by decide +kernel
theorem dX12_lives_105 : decode cX12_lives 105 = .ok (.iadd, 1) := by decide +kernel
theorem dX12_lives_106 : decode cX12_lives 106 = .ok (.iaload, 1) := by decide +kernel
theorem dX12_lives_107 : decode cX12_lives 107 = .ok (.ireturn, 1) := by decide +kernel
theorem dX12_roof_0 : decode cX12_roof 0 = .ok (.aload_n 0, 1) := by decide +kernel
theorem dX12_roof_1 : decode cX12_roof 1 = .ok (.iconst 0, 1) := by decide +kernel
theorem dX12_roof_2 : decode cX12_roof 2 = .ok (.putfield 145, 3) := by decide +kernel
theorem dX12_roof_5 : decode cX12_roof 5 = .ok (.aload_n 0, 1) := by decide +kernel
theorem dX12_roof_6 : decode cX12_roof 6 = .ok (.iload_n 1, 1) := by decide +kernel
theorem dX12_roof_7 : decode cX12_roof 7 = .ok (.invokevirtual 559, 3) := by decide +kernel
theorem dX12_roof_10 : decode cX12_roof 10 = .ok (.ifCond .eq 21, 3) := by decide +kernel
theorem dX12_roof_13 : decode cX12_roof 13 = .ok (.iload_n 2, 1) := by decide +kernel
theorem dX12_roof_14 : decode cX12_roof 14 = .ok (.invokestatic 387, 3) := by decide +kernel
theorem dX12_roof_17 : decode cX12_roof 17 = .ok (.ifCond .eq 14, 3) := by decide +kernel
theorem dX12_roof_20 : decode cX12_roof 20 = .ok (.aload_n 0, 1) := by decide +kernel
theorem dX12_roof_21 : decode cX12_roof 21 = .ok (.iload_n 1, 1) := by decide +kernel
theorem dX12_roof_22 : decode cX12_roof 22 = .ok (.bipush 6, 2) := by decide +kernel
theorem dX12_roof_24 : decode cX12_roof 24 = .ok (.invokevirtual 562, 3) := by decide +kernel
theorem dX12_roof_27 : decode cX12_roof 27 = .ok (.iload_n 2, 1) := by decide +kernel
theorem dX12_roof_28 : decode cX12_roof 28 = .ok (.if_icmp .le 5, 3) := by decide +kernel
theorem dX12_roof_31 : decode cX12_roof 31 = .ok (.iconst (-1), 1) := by decide +kernel
theorem dX12_roof_32 : decode cX12_roof 32 = .ok (.ireturn, 1) := by decide +kernel
theorem dX12_roof_33 : decode cX12_roof 33 = .ok (.aload_n 0, 1) := by decide +kernel
theorem dX12_roof_34 : decode cX12_roof 34 = .ok (.iload_n 2, 1) := by decide +kernel
theorem dX12_roof_35 : decode cX12_roof 35 = .ok (.invokevirtual 568, 3) := by decide +kernel
theorem dX12_roof_38 : decode cX12_roof 38 = .ok (.aload_n 0, 1) := by decide +kernel
theorem dX12_roof_39 : decode cX12_roof 39 = .ok (.aload_n 0, 1) := by decide +kernel
theorem dX12_roof_40 : decode cX12_roof 40 = .ok (.getfield 127, 3) := by decide +kernel
theorem dX12_roof_43 : decode cX12_roof 43 = .ok (.iload_n 1, 1) := by decide +kernel
theorem dX12_roof_44 : decode cX12_roof 44 = .ok (.iaload, 1) := by decide +kernel
theorem dX12_roof_45 : decode cX12_roof 45 = .ok (.iload_n 2, 1) := by decide +kernel
theorem dX12_roof_46 : decode cX12_roof 46 = .ok (.iconst 1, 1) := by decide +kernel
theorem dX12_roof_47 : decode cX12_roof 47 = .ok (.invokevirtual 605, 3) := by decide +kernel
theorem dX12_roof_50 : decode cX12_roof 50 = .ok (.istore_n 3, 1) := by decide +kernel
theorem dX12_roof_51 : decode cX12_roof 51 = .ok (.iload_n 3, 1) := by decide +kernel
theorem dX12_roof_52 : decode cX12_roof 52 = .ok (.iconst (-1), 1) := by decide +kernel
theorem dX12_roof_53 : decode cX12_roof 53 = .ok (.if_icmp .ne 7, 3) := by decide +kernel
theorem dX12_roof_56 : decode cX12_roof 56 = .ok (.iconst (-1), 1) := by decide +kernel
theorem dX12_roof_57 : decode cX12_roof 57 = .ok (.goto 13, 3) := by decide +kernel
theorem dX12_roof_60 : decode cX12_roof 60 = .ok (.aload_n 0, 1) := by decide +kernel
theorem dX12_roof_61 : decode cX12_roof 61 = .ok (.getfield 8, 3) := by decide +kernel
theorem dX12_roof_64 : decode cX12_roof 64 = .ok (.aload_n 0, 1) := by decide +kernel
theorem dX12_roof_65 : decode cX12_roof 65 = .ok (.iload_n 3, 1) := by decide +kernel
theorem dX12_roof_66 : decode cX12_roof 66 = .ok (.invokevirtual 593, 3) := by decide +kernel
theorem dX12_roof_69 : decode cX12_roof 69 = .ok (.iaload, 1) := by decide +kernel
theorem dX12_roof_70 : decode cX12_roof 70 = .ok (.ireturn, 1) := by decide +kernel
def W_X12_findList_0 (X : Sx) (l : Launch) (D : Nat) (x1 : Int32) (x2 : Int32) (σ : AH) (r : Option Value) (σ' : AH) : Prop := E X l m_X12_findList D 7 [(0, .ref 124), (1, .int x1), (2, .int x2), (3, .int (0 : Int32))] [] (sI σ 124 65 (0 : Int32)) r σ'
set_option maxRecDepth 100000 in
theorem w_X12_findList_0 {X : Sx} {l : Launch} {D : Nat} {x1 : Int32} {x2 : Int32} {σ : AH} {r : Option Value} {σ' : AH} (hs : Sh σ) (h : W_X12_findList_0 X l D x1 x2 σ r σ') : E X l m_X12_findList D 0 [(0, .ref 124), (1, .int x1), (2, .int x2)] [] σ r σ' := by
  unfold W_X12_findList_0 at h
  refine E_aload_n 0 dX12_findList_0 rfl rfl ?_
  refine E_iconst (0 : Int32) dX12_findList_1 (by decide) ?_
  refine E_putI dX12_findList_2 fl_X12_583 rfl (Or.inl rfl) (sk_124 hs) (sn hs (by decide)) (Or.inl (by decide)) rfl rfl ?_
  refine E_iconst (0 : Int32) dX12_findList_5 (by decide) ?_
  refine E_istore_n [(3, .int (0 : Int32)), (0, .ref 124), (1, .int x1), (2, .int x2)] dX12_findList_6 rfl (by decide) rfl ?_
  exact E_lv [1, 2, 3, 0] rfl h
def W_X12_findList_132 (X : Sx) (l : Launch) (D : Nat) (x1 : Int32) (x2 : Int32) (x3 : Int32) (σ : AH) (r : Option Value) (σ' : AH) : Prop := E X l m_X12_findList D 7 [(0, .ref 124), (1, .int x1), (2, .int x2), (3, .int (x3 + 1))] [] σ r σ'
set_option maxRecDepth 100000 in
theorem w_X12_findList_132 {X : Sx} {l : Launch} {D : Nat} {x1 : Int32} {x2 : Int32} {x3 : Int32} {σ : AH} {r : Option Value} {σ' : AH} (hs : Sh σ) (h : W_X12_findList_132 X l D x1 x2 x3 σ r σ') : E X l m_X12_findList D 132 [(0, .ref 124), (1, .int x1), (2, .int x2), (3, .int x3)] [] σ r σ' := by
  unfold W_X12_findList_132 at h
  refine E_iinc 3 (x3 + 1) [(3, .int (x3 + 1)), (0, .ref 124), (1, .int x1), (2, .int x2)] dX12_findList_132 rfl (congrArg (x3 + ·) (by decide : Int32.ofInt 1 = 1)) (by decide) rfl ?_
  refine E_goto 7 dX12_findList_135 (by decide) ?_
  exact E_lv [1, 2, 3, 0] rfl h
def W_X12_findList_7 (X : Sx) (l : Launch) (D : Nat) (x1 : Int32) (x2 : Int32) (x3 : Int32) (σ : AH) (r : Option Value) (σ' : AH) : Prop := (if (gI σ 125 6) ≤ x3 then (r = none ∧ σ' = σ) else ∃ d1 : Nat, ∃ v6 : Int32, ∃ σ2 : AH, d1 + 1 ≤ D ∧ Call X l m_X12_entryAt d1 [.ref 124, .int x3, .int (0 : Int32)] σ (some (.int v6)) σ2 ∧ (if v6 = x1 then ∃ d7 : Nat, ∃ v12 : Int32, ∃ σ8 : AH, d7 + 1 ≤ D ∧ Call X l m_X12_entryAt d7 [.ref 124, .int x3, .int (6 : Int32)] σ2 (some (.int v12)) σ8 ∧ (if (gI σ8 124 23) < v12 then W_X12_findList_132 X l D x1 x2 x3 σ8 r σ' else ∃ d13 : Nat, ∃ v18 : Int32, ∃ σ14 : AH, d13 + 1 ≤ D ∧ Call X l m_X12_entryAt d13 [.ref 124, .int x3, .int (1 : Int32)] σ8 (some (.int v18)) σ14 ∧ (if x2 < v18 then W_X12_findList_132 X l D x1 x2 x3 σ14 r σ' else ∃ d19 : Nat, ∃ v24 : Int64, ∃ σ20 : AH, d19 + 1 ≤ D ∧ Call X l m_X12_reckonPoints d19 [.ref 124, .int x3, .int x2] σ14 (some (.long v24)) σ20 ∧ vp_in x3 60 ∧ E X l m_X12_findList D 70 [(0, .ref 124), (1, .int x1), (2, .int x2), (3, .int x3), (4, .int (gI (sL σ20 161 x3.toNatClampNeg v24) 124 65))] [] (sL σ20 161 x3.toNatClampNeg v24) r σ')) else W_X12_findList_132 X l D x1 x2 x3 σ2 r σ'))
set_option maxRecDepth 100000 in
theorem w_X12_findList_7 {X : Sx} {l : Launch} {D : Nat} {x1 : Int32} {x2 : Int32} {x3 : Int32} {σ : AH} {r : Option Value} {σ' : AH} (hs : Sh σ) (h : W_X12_findList_7 X l D x1 x2 x3 σ r σ') : E X l m_X12_findList D 7 [(0, .ref 124), (1, .int x1), (2, .int x2), (3, .int x3)] [] σ r σ' := by
  unfold W_X12_findList_7 at h
  refine E_iload_n 3 dX12_findList_7 rfl rfl ?_
  refine E_aload_n 0 dX12_findList_8 rfl rfl ?_
  refine E_getR 125 dX12_findList_9 fl_X12_8 rfl (sk_124 hs) (sn hs (by decide)) (sr_124_2 hs) ?_
  refine E_bipush (6 : Int32) dX12_findList_12 (by decide) ?_
  refine E_iald2 6 dX12_findList_14 (sk_125 hs) (sn hs (by decide)) (vp_lit (by decide)) (by decide) ?_
  refine E_icmp_ge 138 dX12_findList_15 (by decide) (fun c => ?_) (fun c => ?_)
  · rw [if_pos c] at h
    obtain ⟨rfl, rfl⟩ := h
    exact E_vret dX12_findList_138 rfl
  · rw [if_neg c] at h
    refine E_aload_n 0 dX12_findList_18 rfl rfl ?_
    refine E_iload_n 3 dX12_findList_19 rfl rfl ?_
    refine E_iconst (0 : Int32) dX12_findList_20 (by decide) ?_
    obtain ⟨d1, v6, σ2, hD3, hC4, h⟩ := h
    have hs5 := hC4.1.2.2.2.1 hs
    refine E_callV (As := [.int x3, .int (0 : Int32)]) (rest := []) (r1 := (some (.int v6))) (b := 124) dX12_findList_21 ok_X12_entryAt in_X12_entryAt se_X12_entryAt ml_X12_562 hD3 rfl rfl (Nat.le_of_ble_eq_true rfl) (sk_124 hs) (sn hs (by decide)) (by decide) rfl (by decide +kernel) hC4 ?_
    refine E_iload_n 1 dX12_findList_24 rfl rfl ?_
    refine E_icmp_ne 132 dX12_findList_25 (by decide) (fun c => ?_) (fun c => ?_)
    · rw [if_neg c] at h
      exact E_lv [0, 1, 2, 3] rfl (w_X12_findList_132 hs5 h)
    · rw [if_pos c] at h
      refine E_aload_n 0 dX12_findList_28 rfl rfl ?_
      refine E_iload_n 3 dX12_findList_29 rfl rfl ?_
      refine E_bipush (6 : Int32) dX12_findList_30 (by decide) ?_
      obtain ⟨d7, v12, σ8, hD9, hC10, h⟩ := h
      have hs11 := hC10.1.2.2.2.1 hs5
      refine E_callV (As := [.int x3, .int (6 : Int32)]) (rest := []) (r1 := (some (.int v12))) (b := 124) dX12_findList_32 ok_X12_entryAt in_X12_entryAt se_X12_entryAt ml_X12_562 hD9 rfl rfl (Nat.le_of_ble_eq_true rfl) (sk_124 hs5) (sn hs5 (by decide)) (by decide) rfl (by decide +kernel) hC10 ?_
      refine E_aload_n 0 dX12_findList_35 rfl rfl ?_
      refine E_getI dX12_findList_36 fl_X12_399 rfl (sk_124 hs11) (sn hs11 (by decide)) ?_
      refine E_icmp_gt 132 dX12_findList_39 (by decide) (fun c => ?_) (fun c => ?_)
      · rw [if_pos c] at h
        exact E_lv [0, 1, 2, 3] rfl (w_X12_findList_132 hs11 h)
      · rw [if_neg c] at h
        refine E_aload_n 0 dX12_findList_42 rfl rfl ?_
        refine E_iload_n 3 dX12_findList_43 rfl rfl ?_
        refine E_iconst (1 : Int32) dX12_findList_44 (by decide) ?_
        obtain ⟨d13, v18, σ14, hD15, hC16, h⟩ := h
        have hs17 := hC16.1.2.2.2.1 hs11
        refine E_callV (As := [.int x3, .int (1 : Int32)]) (rest := []) (r1 := (some (.int v18))) (b := 124) dX12_findList_45 ok_X12_entryAt in_X12_entryAt se_X12_entryAt ml_X12_562 hD15 rfl rfl (Nat.le_of_ble_eq_true rfl) (sk_124 hs11) (sn hs11 (by decide)) (by decide) rfl (by decide +kernel) hC16 ?_
        refine E_iload_n 2 dX12_findList_48 rfl rfl ?_
        refine E_icmp_gt 132 dX12_findList_49 (by decide) (fun c => ?_) (fun c => ?_)
        · rw [if_pos c] at h
          exact E_lv [0, 1, 2, 3] rfl (w_X12_findList_132 hs17 h)
        · rw [if_neg c] at h
          refine E_aload_n 0 dX12_findList_52 rfl rfl ?_
          refine E_getR 161 dX12_findList_53 fl_X12_130 rfl (sk_124 hs17) (sn hs17 (by decide)) (sr_124_63 hs17) ?_
          refine E_iload_n 3 dX12_findList_56 rfl rfl ?_
          refine E_aload_n 0 dX12_findList_57 rfl rfl ?_
          refine E_iload_n 3 dX12_findList_58 rfl rfl ?_
          refine E_iload_n 2 dX12_findList_59 rfl rfl ?_
          obtain ⟨d19, v24, σ20, hD21, hC22, h⟩ := h
          have hs23 := hC22.1.2.2.2.1 hs17
          refine E_callV (As := [.int x3, .int x2]) (rest := [.int x3, .ref 161]) (r1 := (some (.long v24))) (b := 124) dX12_findList_60 ok_X12_reckonPoints in_X12_reckonPoints se_X12_reckonPoints ml_X12_576 hD21 rfl rfl (Nat.le_of_ble_eq_true rfl) (sk_124 hs17) (sn hs17 (by decide)) (by decide) rfl (by decide +kernel) hC22 ?_
          obtain ⟨g25, h⟩ := h
          refine E_last2 (x3.toNatClampNeg) dX12_findList_63 (sk_161 hs23) (sn hs23 (by decide)) (Or.inl (by decide)) g25 rfl ?_
          refine E_aload_n 0 dX12_findList_64 rfl rfl ?_
          refine E_getI dX12_findList_65 fl_X12_583 rfl (sk_124 hs23) (sn hs23 (by decide)) ?_
          refine E_istore [(4, .int (gI (sL σ20 161 x3.toNatClampNeg v24) 124 65)), (0, .ref 124), (1, .int x1), (2, .int x2), (3, .int x3)] dX12_findList_68 (by decide) rfl ?_
          exact E_lv [1, 2, 3, 4, 0] rfl h
def W_X12_findList_114 (X : Sx) (l : Launch) (D : Nat) (x1 : Int32) (x2 : Int32) (x3 : Int32) (x4 : Int32) (σ : AH) (r : Option Value) (σ' : AH) : Prop := vp_in x4 60 ∧ W_X12_findList_132 X l D x1 x2 x3 (sI (sI σ 162 x4.toNatClampNeg x3) 124 65 ((gI (sI σ 162 x4.toNatClampNeg x3) 124 65) + (1 : Int32))) r σ'
set_option maxRecDepth 100000 in
theorem w_X12_findList_114 {X : Sx} {l : Launch} {D : Nat} {x1 : Int32} {x2 : Int32} {x3 : Int32} {x4 : Int32} {σ : AH} {r : Option Value} {σ' : AH} (hs : Sh σ) (h : W_X12_findList_114 X l D x1 x2 x3 x4 σ r σ') : E X l m_X12_findList D 114 [(0, .ref 124), (1, .int x1), (2, .int x2), (3, .int x3), (4, .int x4)] [] σ r σ' := by
  unfold W_X12_findList_114 at h
  refine E_aload_n 0 dX12_findList_114 rfl rfl ?_
  refine E_getR 162 dX12_findList_115 fl_X12_133 rfl (sk_124 hs) (sn hs (by decide)) (sr_124_64 hs) ?_
  refine E_iload 4 dX12_findList_118 rfl ?_
  refine E_iload_n 3 dX12_findList_120 rfl rfl ?_
  obtain ⟨g35, h⟩ := h
  refine E_iast2 (x4.toNatClampNeg) dX12_findList_121 (sk_162 hs) (sn hs (by decide)) (Or.inl (by decide)) g35 rfl ?_
  refine E_aload_n 0 dX12_findList_122 rfl rfl ?_
  refine E_dup dX12_findList_123 rfl ?_
  refine E_getI dX12_findList_124 fl_X12_583 rfl (sk_124 hs) (sn hs (by decide)) ?_
  refine E_iconst (1 : Int32) dX12_findList_127 (by decide) ?_
  refine E_iadd dX12_findList_128 ?_
  refine E_putI dX12_findList_129 fl_X12_583 rfl (Or.inl rfl) (sk_124 hs) (sn hs (by decide)) (Or.inl (by decide)) rfl rfl ?_
  exact E_lv [0, 1, 2, 3] rfl (w_X12_findList_132 hs h)
def W_X12_findList_70 (X : Sx) (l : Launch) (D : Nat) (x1 : Int32) (x2 : Int32) (x3 : Int32) (x4 : Int32) (σ : AH) (r : Option Value) (σ' : AH) : Prop := (if x4 ≤ 0 then W_X12_findList_114 X l D x1 x2 x3 x4 σ r σ' else vp_in (x4 - (1 : Int32)) 60 ∧ ∃ d27 : Nat, ∃ v32 : Int32, ∃ σ28 : AH, d27 + 1 ≤ D ∧ Call X l m_X12_standsAhead d27 [.ref 124, .int x3, .int (gI σ 162 (x4 - (1 : Int32)).toNatClampNeg)] σ (some (.int v32)) σ28 ∧ (if v32 = 0 then W_X12_findList_114 X l D x1 x2 x3 x4 σ28 r σ' else vp_in (x4 - (1 : Int32)) 60 ∧ vp_in x4 60 ∧ E X l m_X12_findList D 70 [(0, .ref 124), (1, .int x1), (2, .int x2), (3, .int x3), (4, .int (x4 + (-1)))] [] (sI σ28 162 x4.toNatClampNeg (gI σ28 162 (x4 - (1 : Int32)).toNatClampNeg)) r σ'))
set_option maxRecDepth 100000 in
theorem w_X12_findList_70 {X : Sx} {l : Launch} {D : Nat} {x1 : Int32} {x2 : Int32} {x3 : Int32} {x4 : Int32} {σ : AH} {r : Option Value} {σ' : AH} (hs : Sh σ) (h : W_X12_findList_70 X l D x1 x2 x3 x4 σ r σ') : E X l m_X12_findList D 70 [(0, .ref 124), (1, .int x1), (2, .int x2), (3, .int x3), (4, .int x4)] [] σ r σ' := by
  unfold W_X12_findList_70 at h
  refine E_iload 4 dX12_findList_70 rfl ?_
  refine E_if_le 114 dX12_findList_72 (by decide) (fun c => ?_) (fun c => ?_)
  · rw [if_pos c] at h
    exact E_lv [0, 1, 2, 3, 4] rfl (w_X12_findList_114 hs h)
  · rw [if_neg c] at h
    refine E_aload_n 0 dX12_findList_75 rfl rfl ?_
    refine E_iload_n 3 dX12_findList_76 rfl rfl ?_
    refine E_aload_n 0 dX12_findList_77 rfl rfl ?_
    refine E_getR 162 dX12_findList_78 fl_X12_133 rfl (sk_124 hs) (sn hs (by decide)) (sr_124_64 hs) ?_
    refine E_iload 4 dX12_findList_81 rfl ?_
    refine E_iconst (1 : Int32) dX12_findList_83 (by decide) ?_
    refine E_isub dX12_findList_84 ?_
    obtain ⟨g26, h⟩ := h
    refine E_iald2 ((x4 - (1 : Int32)).toNatClampNeg) dX12_findList_85 (sk_162 hs) (sn hs (by decide)) g26 rfl ?_
    obtain ⟨d27, v32, σ28, hD29, hC30, h⟩ := h
    have hs31 := hC30.1.2.2.2.1 hs
    refine E_callV (As := [.int x3, .int (gI σ 162 (x4 - (1 : Int32)).toNatClampNeg)]) (rest := []) (r1 := (some (.int v32))) (b := 124) dX12_findList_86 ok_X12_standsAhead in_X12_standsAhead se_X12_standsAhead ml_X12_586 hD29 rfl rfl (Nat.le_of_ble_eq_true rfl) (sk_124 hs) (sn hs (by decide)) (by decide) rfl (by decide +kernel) hC30 ?_
    refine E_if_eq 114 dX12_findList_89 (by decide) (fun c => ?_) (fun c => ?_)
    · rw [if_pos c] at h
      exact E_lv [0, 1, 2, 3, 4] rfl (w_X12_findList_114 hs31 h)
    · rw [if_neg c] at h
      refine E_aload_n 0 dX12_findList_92 rfl rfl ?_
      refine E_getR 162 dX12_findList_93 fl_X12_133 rfl (sk_124 hs31) (sn hs31 (by decide)) (sr_124_64 hs31) ?_
      refine E_iload 4 dX12_findList_96 rfl ?_
      refine E_aload_n 0 dX12_findList_98 rfl rfl ?_
      refine E_getR 162 dX12_findList_99 fl_X12_133 rfl (sk_124 hs31) (sn hs31 (by decide)) (sr_124_64 hs31) ?_
      refine E_iload 4 dX12_findList_102 rfl ?_
      refine E_iconst (1 : Int32) dX12_findList_104 (by decide) ?_
      refine E_isub dX12_findList_105 ?_
      obtain ⟨g33, h⟩ := h
      refine E_iald2 ((x4 - (1 : Int32)).toNatClampNeg) dX12_findList_106 (sk_162 hs31) (sn hs31 (by decide)) g33 rfl ?_
      obtain ⟨g34, h⟩ := h
      refine E_iast2 (x4.toNatClampNeg) dX12_findList_107 (sk_162 hs31) (sn hs31 (by decide)) (Or.inl (by decide)) g34 rfl ?_
      refine E_iinc 4 (x4 + (-1)) [(4, .int (x4 + (-1))), (0, .ref 124), (1, .int x1), (2, .int x2), (3, .int x3)] dX12_findList_108 rfl (congrArg (x4 + ·) (by decide : Int32.ofInt (-1) = -1)) (by decide) rfl ?_
      refine E_goto 70 dX12_findList_111 (by decide) ?_
      exact E_lv [1, 2, 3, 4, 0] rfl h
def W_X12_order_0 (X : Sx) (l : Launch) (D : Nat) (x1 : Int32) (x2 : Int32) (x3 : Int32) (x4 : Int32) (σ : AH) (r : Option Value) (σ' : AH) : Prop := ∃ d1 : Nat, ∃ v6 : Int32, ∃ σ2 : AH, d1 + 1 ≤ D ∧ Call X l m_X12_isCouncil d1 [.int x1] (sI σ 124 0 (0 : Int32)) (some (.int v6)) σ2 ∧ (if v6 = 0 then (r = some (.int (-1 : Int32)) ∧ σ' = σ2) else ∃ d7 : Nat, ∃ v12 : Int32, ∃ σ8 : AH, d7 + 1 ≤ D ∧ Call X l m_X12_isWeek d7 [.int x2] σ2 (some (.int v12)) σ8 ∧ (if v12 = 0 then (r = some (.int (-1 : Int32)) ∧ σ' = σ8) else ∃ d13 : Nat, ∃ v18 : Int32, ∃ σ14 : AH, d13 + 1 ≤ D ∧ Call X l m_X12_isWeek d13 [.int x3] σ8 (some (.int v18)) σ14 ∧ (if v18 = 0 then (r = some (.int (-1 : Int32)) ∧ σ' = σ14) else ∃ d19 : Nat, ∃ σ20 : AH, d19 + 1 ≤ D ∧ Call X l m_X12_knowBy d19 [.ref 124, .int x3] σ14 none σ20 ∧ ∃ d24 : Nat, ∃ σ25 : AH, d24 + 1 ≤ D ∧ Call X l m_X12_findList d24 [.ref 124, .int x1, .int x2] σ20 none σ25 ∧ (if x4 = (-1 : Int32) then (r = some (.int (gI σ25 124 65)) ∧ σ' = σ25) else ∃ d29 : Nat, ∃ v34 : Int32, ∃ σ30 : AH, d29 + 1 ≤ D ∧ Call X l m_X12_in d29 [.long (x4).toInt64, .long (0 : Int64), .long (((gI σ25 124 65)).toInt64 - (1 : Int64))] σ25 (some (.int v34)) σ30 ∧ (if v34 = 0 then (r = some (.int (-1 : Int32)) ∧ σ' = σ30) else vp_in x4 60 ∧ (r = some (.int (gI σ30 162 x4.toNatClampNeg)) ∧ σ' = σ30))))))
set_option maxRecDepth 100000 in
theorem w_X12_order_0 {X : Sx} {l : Launch} {D : Nat} {x1 : Int32} {x2 : Int32} {x3 : Int32} {x4 : Int32} {σ : AH} {r : Option Value} {σ' : AH} (hs : Sh σ) (h : W_X12_order_0 X l D x1 x2 x3 x4 σ r σ') : E X l m_X12_order D 0 [(0, .ref 124), (1, .int x1), (2, .int x2), (3, .int x3), (4, .int x4)] [] σ r σ' := by
  unfold W_X12_order_0 at h
  refine E_aload_n 0 dX12_order_0 rfl rfl ?_
  refine E_iconst (0 : Int32) dX12_order_1 (by decide) ?_
  refine E_putI dX12_order_2 fl_X12_145 rfl (Or.inl rfl) (sk_124 hs) (sn hs (by decide)) (Or.inl (by decide)) rfl rfl ?_
  refine E_iload_n 1 dX12_order_5 rfl rfl ?_
  obtain ⟨d1, v6, σ2, hD3, hC4, h⟩ := h
  have hs5 := hC4.1.2.2.2.1 hs
  refine E_callS (As := [.int x1]) (rest := []) (r1 := (some (.int v6))) dX12_order_6 ok_X12_isCouncil is_X12_isCouncil ml_X12_466 hD3 rfl rfl (Nat.le_of_ble_eq_true rfl) (by decide +kernel) hC4 ?_
  refine E_if_eq 26 dX12_order_9 (by decide) (fun c => ?_) (fun c => ?_)
  · rw [if_pos c] at h
    refine E_iconst (-1 : Int32) dX12_order_26 (by decide) ?_
    obtain ⟨rfl, rfl⟩ := h
    exact E_iret dX12_order_27 rfl
  · rw [if_neg c] at h
    refine E_iload_n 2 dX12_order_12 rfl rfl ?_
    obtain ⟨d7, v12, σ8, hD9, hC10, h⟩ := h
    have hs11 := hC10.1.2.2.2.1 hs5
    refine E_callS (As := [.int x2]) (rest := []) (r1 := (some (.int v12))) dX12_order_13 ok_X12_isWeek is_X12_isWeek ml_X12_387 hD9 rfl rfl (Nat.le_of_ble_eq_true rfl) (by decide +kernel) hC10 ?_
    refine E_if_eq 26 dX12_order_16 (by decide) (fun c => ?_) (fun c => ?_)
    · rw [if_pos c] at h
      refine E_iconst (-1 : Int32) dX12_order_26 (by decide) ?_
      obtain ⟨rfl, rfl⟩ := h
      exact E_iret dX12_order_27 rfl
    · rw [if_neg c] at h
      refine E_iload_n 3 dX12_order_19 rfl rfl ?_
      obtain ⟨d13, v18, σ14, hD15, hC16, h⟩ := h
      have hs17 := hC16.1.2.2.2.1 hs11
      refine E_callS (As := [.int x3]) (rest := []) (r1 := (some (.int v18))) dX12_order_20 ok_X12_isWeek is_X12_isWeek ml_X12_387 hD15 rfl rfl (Nat.le_of_ble_eq_true rfl) (by decide +kernel) hC16 ?_
      refine E_if_ne 28 dX12_order_23 (by decide) (fun c => ?_) (fun c => ?_)
      · rw [if_neg c] at h
        refine E_aload_n 0 dX12_order_28 rfl rfl ?_
        refine E_iload_n 3 dX12_order_29 rfl rfl ?_
        obtain ⟨d19, σ20, hD21, hC22, h⟩ := h
        have hs23 := hC22.1.2.2.2.1 hs17
        refine E_callV (As := [.int x3]) (rest := []) (r1 := none) (b := 124) dX12_order_30 ok_X12_knowBy in_X12_knowBy se_X12_knowBy ml_X12_406 hD21 rfl rfl (Nat.le_of_ble_eq_true rfl) (sk_124 hs17) (sn hs17 (by decide)) (by decide) rfl (by decide +kernel) hC22 ?_
        refine E_aload_n 0 dX12_order_33 rfl rfl ?_
        refine E_iload_n 1 dX12_order_34 rfl rfl ?_
        refine E_iload_n 2 dX12_order_35 rfl rfl ?_
        obtain ⟨d24, σ25, hD26, hC27, h⟩ := h
        have hs28 := hC27.1.2.2.2.1 hs23
        refine E_callV (As := [.int x1, .int x2]) (rest := []) (r1 := none) (b := 124) dX12_order_36 ok_X12_findList in_X12_findList se_X12_findList ml_X12_589 hD26 rfl rfl (Nat.le_of_ble_eq_true rfl) (sk_124 hs23) (sn hs23 (by decide)) (by decide) rfl (by decide +kernel) hC27 ?_
        refine E_iload 4 dX12_order_39 rfl ?_
        refine E_iconst (-1 : Int32) dX12_order_41 (by decide) ?_
        refine E_icmp_ne 52 dX12_order_42 (by decide) (fun c => ?_) (fun c => ?_)
        · rw [if_neg c] at h
          refine E_iload 4 dX12_order_52 rfl ?_
          refine E_i2l dX12_order_54 ?_
          refine E_lconst (0 : Int64) dX12_order_55 (by decide) ?_
          refine E_aload_n 0 dX12_order_56 rfl rfl ?_
          refine E_getI dX12_order_57 fl_X12_583 rfl (sk_124 hs28) (sn hs28 (by decide)) ?_
          refine E_i2l dX12_order_60 ?_
          refine E_lconst (1 : Int64) dX12_order_61 (by decide) ?_
          refine E_lsub dX12_order_62 ?_
          obtain ⟨d29, v34, σ30, hD31, hC32, h⟩ := h
          have hs33 := hC32.1.2.2.2.1 hs28
          refine E_callS (As := [.long (x4).toInt64, .long (0 : Int64), .long (((gI σ25 124 65)).toInt64 - (1 : Int64))]) (rest := []) (r1 := (some (.int v34))) dX12_order_63 ok_X12_in is_X12_in ml_X12_153 hD31 rfl rfl (Nat.le_of_ble_eq_true rfl) (by decide +kernel) hC32 ?_
          refine E_if_eq 79 dX12_order_66 (by decide) (fun c => ?_) (fun c => ?_)
          · rw [if_pos c] at h
            refine E_iconst (-1 : Int32) dX12_order_79 (by decide) ?_
            obtain ⟨rfl, rfl⟩ := h
            exact E_iret dX12_order_80 rfl
          · rw [if_neg c] at h
            refine E_aload_n 0 dX12_order_69 rfl rfl ?_
            refine E_getR 162 dX12_order_70 fl_X12_133 rfl (sk_124 hs33) (sn hs33 (by decide)) (sr_124_64 hs33) ?_
            refine E_iload 4 dX12_order_73 rfl ?_
            obtain ⟨g35, h⟩ := h
            refine E_iald2 (x4.toNatClampNeg) dX12_order_75 (sk_162 hs33) (sn hs33 (by decide)) g35 rfl ?_
            refine E_goto 80 dX12_order_76 (by decide) ?_
            obtain ⟨rfl, rfl⟩ := h
            exact E_iret dX12_order_80 rfl
        · rw [if_pos c] at h
          refine E_aload_n 0 dX12_order_45 rfl rfl ?_
          refine E_getI dX12_order_46 fl_X12_583 rfl (sk_124 hs28) (sn hs28 (by decide)) ?_
          refine E_goto 80 dX12_order_49 (by decide) ?_
          obtain ⟨rfl, rfl⟩ := h
          exact E_iret dX12_order_80 rfl
      · rw [if_pos c] at h
        refine E_iconst (-1 : Int32) dX12_order_26 (by decide) ?_
        obtain ⟨rfl, rfl⟩ := h
        exact E_iret dX12_order_27 rfl
def W_X12_beside_0 (X : Sx) (l : Launch) (D : Nat) (x1 : Int32) (x2 : Int32) (x3 : Int32) (x4 : Int32) (σ : AH) (r : Option Value) (σ' : AH) : Prop := ∃ d1 : Nat, ∃ v6 : Int32, ∃ σ2 : AH, d1 + 1 ≤ D ∧ Call X l m_X12_isCouncil d1 [.int x1] (sI σ 124 0 (0 : Int32)) (some (.int v6)) σ2 ∧ (if v6 = 0 then (r = some (.int (-1 : Int32)) ∧ σ' = σ2) else ∃ d7 : Nat, ∃ v12 : Int32, ∃ σ8 : AH, d7 + 1 ≤ D ∧ Call X l m_X12_isWeek d7 [.int x2] σ2 (some (.int v12)) σ8 ∧ (if v12 = 0 then (r = some (.int (-1 : Int32)) ∧ σ' = σ8) else ∃ d13 : Nat, ∃ v18 : Int32, ∃ σ14 : AH, d13 + 1 ≤ D ∧ Call X l m_X12_isWeek d13 [.int x3] σ8 (some (.int v18)) σ14 ∧ (if v18 = 0 then (r = some (.int (-1 : Int32)) ∧ σ' = σ14) else ∃ d19 : Nat, ∃ v24 : Int32, ∃ σ20 : AH, d19 + 1 ≤ D ∧ Call X l m_X12_isWeek d19 [.int x4] σ14 (some (.int v24)) σ20 ∧ (if v24 = 0 then (r = some (.int (-1 : Int32)) ∧ σ' = σ20) else E X l m_X12_beside D 39 [(0, .ref 124), (1, .int x1), (2, .int x2), (3, .int x3), (4, .int x4), (5, .int (0 : Int32))] [] σ20 r σ'))))
set_option maxRecDepth 100000 in
theorem w_X12_beside_0 {X : Sx} {l : Launch} {D : Nat} {x1 : Int32} {x2 : Int32} {x3 : Int32} {x4 : Int32} {σ : AH} {r : Option Value} {σ' : AH} (hs : Sh σ) (h : W_X12_beside_0 X l D x1 x2 x3 x4 σ r σ') : E X l m_X12_beside D 0 [(0, .ref 124), (1, .int x1), (2, .int x2), (3, .int x3), (4, .int x4)] [] σ r σ' := by
  unfold W_X12_beside_0 at h
  refine E_aload_n 0 dX12_beside_0 rfl rfl ?_
  refine E_iconst (0 : Int32) dX12_beside_1 (by decide) ?_
  refine E_putI dX12_beside_2 fl_X12_145 rfl (Or.inl rfl) (sk_124 hs) (sn hs (by decide)) (Or.inl (by decide)) rfl rfl ?_
  refine E_iload_n 1 dX12_beside_5 rfl rfl ?_
  obtain ⟨d1, v6, σ2, hD3, hC4, h⟩ := h
  have hs5 := hC4.1.2.2.2.1 hs
  refine E_callS (As := [.int x1]) (rest := []) (r1 := (some (.int v6))) dX12_beside_6 ok_X12_isCouncil is_X12_isCouncil ml_X12_466 hD3 rfl rfl (Nat.le_of_ble_eq_true rfl) (by decide +kernel) hC4 ?_
  refine E_if_eq 34 dX12_beside_9 (by decide) (fun c => ?_) (fun c => ?_)
  · rw [if_pos c] at h
    refine E_iconst (-1 : Int32) dX12_beside_34 (by decide) ?_
    obtain ⟨rfl, rfl⟩ := h
    exact E_iret dX12_beside_35 rfl
  · rw [if_neg c] at h
    refine E_iload_n 2 dX12_beside_12 rfl rfl ?_
    obtain ⟨d7, v12, σ8, hD9, hC10, h⟩ := h
    have hs11 := hC10.1.2.2.2.1 hs5
    refine E_callS (As := [.int x2]) (rest := []) (r1 := (some (.int v12))) dX12_beside_13 ok_X12_isWeek is_X12_isWeek ml_X12_387 hD9 rfl rfl (Nat.le_of_ble_eq_true rfl) (by decide +kernel) hC10 ?_
    refine E_if_eq 34 dX12_beside_16 (by decide) (fun c => ?_) (fun c => ?_)
    · rw [if_pos c] at h
      refine E_iconst (-1 : Int32) dX12_beside_34 (by decide) ?_
      obtain ⟨rfl, rfl⟩ := h
      exact E_iret dX12_beside_35 rfl
    · rw [if_neg c] at h
      refine E_iload_n 3 dX12_beside_19 rfl rfl ?_
      obtain ⟨d13, v18, σ14, hD15, hC16, h⟩ := h
      have hs17 := hC16.1.2.2.2.1 hs11
      refine E_callS (As := [.int x3]) (rest := []) (r1 := (some (.int v18))) dX12_beside_20 ok_X12_isWeek is_X12_isWeek ml_X12_387 hD15 rfl rfl (Nat.le_of_ble_eq_true rfl) (by decide +kernel) hC16 ?_
      refine E_if_eq 34 dX12_beside_23 (by decide) (fun c => ?_) (fun c => ?_)
      · rw [if_pos c] at h
        refine E_iconst (-1 : Int32) dX12_beside_34 (by decide) ?_
        obtain ⟨rfl, rfl⟩ := h
        exact E_iret dX12_beside_35 rfl
      · rw [if_neg c] at h
        refine E_iload 4 dX12_beside_26 rfl ?_
        obtain ⟨d19, v24, σ20, hD21, hC22, h⟩ := h
        have hs23 := hC22.1.2.2.2.1 hs17
        refine E_callS (As := [.int x4]) (rest := []) (r1 := (some (.int v24))) dX12_beside_28 ok_X12_isWeek is_X12_isWeek ml_X12_387 hD21 rfl rfl (Nat.le_of_ble_eq_true rfl) (by decide +kernel) hC22 ?_
        refine E_if_ne 36 dX12_beside_31 (by decide) (fun c => ?_) (fun c => ?_)
        · rw [if_neg c] at h
          refine E_iconst (0 : Int32) dX12_beside_36 (by decide) ?_
          refine E_istore [(5, .int (0 : Int32)), (0, .ref 124), (1, .int x1), (2, .int x2), (3, .int x3), (4, .int x4)] dX12_beside_37 (by decide) rfl ?_
          exact E_lv [1, 2, 3, 4, 5, 0] rfl h
        · rw [if_pos c] at h
          refine E_iconst (-1 : Int32) dX12_beside_34 (by decide) ?_
          obtain ⟨rfl, rfl⟩ := h
          exact E_iret dX12_beside_35 rfl
def W_X12_beside_39 (X : Sx) (l : Launch) (D : Nat) (x1 : Int32) (x2 : Int32) (x3 : Int32) (x4 : Int32) (x5 : Int32) (σ : AH) (r : Option Value) (σ' : AH) : Prop := (if (60 : Int32) ≤ x5 then ∃ d25 : Nat, ∃ σ26 : AH, d25 + 1 ≤ D ∧ Call X l m_X12_knowBy d25 [.ref 124, .int x3] σ none σ26 ∧ ∃ d30 : Nat, ∃ σ31 : AH, d30 + 1 ≤ D ∧ Call X l m_X12_findList d30 [.ref 124, .int x1, .int x2] σ26 none σ31 ∧ E X l m_X12_beside D 74 [(0, .ref 124), (1, .int x1), (2, .int x2), (4, .int x4), (5, .int (0 : Int32))] [] σ31 r σ' else vp_in x5 60 ∧ E X l m_X12_beside D 39 [(0, .ref 124), (1, .int x1), (2, .int x2), (3, .int x3), (4, .int x4), (5, .int (x5 + 1))] [] (sI σ 163 x5.toNatClampNeg (-1 : Int32)) r σ')
set_option maxRecDepth 100000 in
theorem w_X12_beside_39 {X : Sx} {l : Launch} {D : Nat} {x1 : Int32} {x2 : Int32} {x3 : Int32} {x4 : Int32} {x5 : Int32} {σ : AH} {r : Option Value} {σ' : AH} (hs : Sh σ) (h : W_X12_beside_39 X l D x1 x2 x3 x4 x5 σ r σ') : E X l m_X12_beside D 39 [(0, .ref 124), (1, .int x1), (2, .int x2), (3, .int x3), (4, .int x4), (5, .int x5)] [] σ r σ' := by
  unfold W_X12_beside_39 at h
  refine E_iload 5 dX12_beside_39 rfl ?_
  refine E_bipush (60 : Int32) dX12_beside_41 (by decide) ?_
  refine E_icmp_ge 60 dX12_beside_43 (by decide) (fun c => ?_) (fun c => ?_)
  · rw [if_pos c] at h
    refine E_aload_n 0 dX12_beside_60 rfl rfl ?_
    refine E_iload_n 3 dX12_beside_61 rfl rfl ?_
    obtain ⟨d25, σ26, hD27, hC28, h⟩ := h
    have hs29 := hC28.1.2.2.2.1 hs
    refine E_callV (As := [.int x3]) (rest := []) (r1 := none) (b := 124) dX12_beside_62 ok_X12_knowBy in_X12_knowBy se_X12_knowBy ml_X12_406 hD27 rfl rfl (Nat.le_of_ble_eq_true rfl) (sk_124 hs) (sn hs (by decide)) (by decide) rfl (by decide +kernel) hC28 ?_
    refine E_aload_n 0 dX12_beside_65 rfl rfl ?_
    refine E_iload_n 1 dX12_beside_66 rfl rfl ?_
    refine E_iload_n 2 dX12_beside_67 rfl rfl ?_
    obtain ⟨d30, σ31, hD32, hC33, h⟩ := h
    have hs34 := hC33.1.2.2.2.1 hs29
    refine E_callV (As := [.int x1, .int x2]) (rest := []) (r1 := none) (b := 124) dX12_beside_68 ok_X12_findList in_X12_findList se_X12_findList ml_X12_589 hD32 rfl rfl (Nat.le_of_ble_eq_true rfl) (sk_124 hs29) (sn hs29 (by decide)) (by decide) rfl (by decide +kernel) hC33 ?_
    refine E_iconst (0 : Int32) dX12_beside_71 (by decide) ?_
    refine E_istore [(5, .int (0 : Int32)), (0, .ref 124), (1, .int x1), (2, .int x2), (3, .int x3), (4, .int x4)] dX12_beside_72 (by decide) rfl ?_
    exact E_lv [1, 2, 3, 5, 0] rfl h
  · rw [if_neg c] at h
    refine E_aload_n 0 dX12_beside_46 rfl rfl ?_
    refine E_getR 163 dX12_beside_47 fl_X12_136 rfl (sk_124 hs) (sn hs (by decide)) (sr_124_66 hs) ?_
    refine E_iload 5 dX12_beside_50 rfl ?_
    refine E_iconst (-1 : Int32) dX12_beside_52 (by decide) ?_
    obtain ⟨g35, h⟩ := h
    refine E_iast2 (x5.toNatClampNeg) dX12_beside_53 (sk_163 hs) (sn hs (by decide)) (Or.inl (by decide)) g35 rfl ?_
    refine E_iinc 5 (x5 + 1) [(5, .int (x5 + 1)), (0, .ref 124), (1, .int x1), (2, .int x2), (3, .int x3), (4, .int x4)] dX12_beside_54 rfl (congrArg (x5 + ·) (by decide : Int32.ofInt 1 = 1)) (by decide) rfl ?_
    refine E_goto 39 dX12_beside_57 (by decide) ?_
    exact E_lv [1, 2, 3, 4, 5, 0] rfl h
def W_X12_beside_74 (X : Sx) (l : Launch) (D : Nat) (x1 : Int32) (x2 : Int32) (x4 : Int32) (x5 : Int32) (σ : AH) (r : Option Value) (σ' : AH) : Prop := (if (gI σ 124 65) ≤ x5 then ∃ d36 : Nat, ∃ σ37 : AH, d36 + 1 ≤ D ∧ Call X l m_X12_knowBy d36 [.ref 124, .int x4] σ none σ37 ∧ ∃ d41 : Nat, ∃ σ42 : AH, d41 + 1 ≤ D ∧ Call X l m_X12_findList d41 [.ref 124, .int x1, .int x2] σ37 none σ42 ∧ E X l m_X12_beside D 121 [(0, .ref 124), (5, .int (0 : Int32)), (6, .int (0 : Int32))] [] σ42 r σ' else vp_in x5 60 ∧ vp_in (gI σ 162 x5.toNatClampNeg) 60 ∧ E X l m_X12_beside D 74 [(0, .ref 124), (1, .int x1), (2, .int x2), (4, .int x4), (5, .int (x5 + 1))] [] (sI σ 163 ((gI σ 162 x5.toNatClampNeg).toNatClampNeg) x5) r σ')
set_option maxRecDepth 100000 in
theorem w_X12_beside_74 {X : Sx} {l : Launch} {D : Nat} {x1 : Int32} {x2 : Int32} {x4 : Int32} {x5 : Int32} {σ : AH} {r : Option Value} {σ' : AH} (hs : Sh σ) (h : W_X12_beside_74 X l D x1 x2 x4 x5 σ r σ') : E X l m_X12_beside D 74 [(0, .ref 124), (1, .int x1), (2, .int x2), (4, .int x4), (5, .int x5)] [] σ r σ' := by
  unfold W_X12_beside_74 at h
  refine E_iload 4 dX12_beside_74 rfl ?_
  refine E_aload_n 0 dX12_beside_76 rfl rfl ?_
  refine E_getI dX12_beside_77 fl_X12_583 rfl (sk_124 hs) (sn hs (by decide)) ?_
  refine E_icmp_ge 103 dX12_beside_80 (by decide) (fun c => ?_) (fun c => ?_)
  · rw [if_pos c] at h
    refine E_aload_n 0 dX12_beside_103 rfl rfl ?_
    refine E_iload 3 dX12_beside_104 rfl ?_
    obtain ⟨d36, σ37, hD38, hC39, h⟩ := h
    have hs40 := hC39.1.2.2.2.1 hs
    refine E_callV (As := [.int x4]) (rest := []) (r1 := none) (b := 124) dX12_beside_106 ok_X12_knowBy in_X12_knowBy se_X12_knowBy ml_X12_406 hD38 rfl rfl (Nat.le_of_ble_eq_true rfl) (sk_124 hs) (sn hs (by decide)) (by decide) rfl (by decide +kernel) hC39 ?_
    refine E_aload_n 0 dX12_beside_109 rfl rfl ?_
    refine E_iload_n 1 dX12_beside_110 rfl rfl ?_
    refine E_iload_n 2 dX12_beside_111 rfl rfl ?_
    obtain ⟨d41, σ42, hD43, hC44, h⟩ := h
    have hs45 := hC44.1.2.2.2.1 hs40
    refine E_callV (As := [.int x1, .int x2]) (rest := []) (r1 := none) (b := 124) dX12_beside_112 ok_X12_findList in_X12_findList se_X12_findList ml_X12_589 hD43 rfl rfl (Nat.le_of_ble_eq_true rfl) (sk_124 hs40) (sn hs40 (by decide)) (by decide) rfl (by decide +kernel) hC44 ?_
    refine E_iconst (0 : Int32) dX12_beside_115 (by decide) ?_
    refine E_istore [(5, .int (0 : Int32)), (0, .ref 124), (1, .int x1), (2, .int x2), (4, .int x4)] dX12_beside_116 (by decide) rfl ?_
    refine E_iconst (0 : Int32) dX12_beside_118 (by decide) ?_
    refine E_istore [(6, .int (0 : Int32)), (5, .int (0 : Int32)), (0, .ref 124), (1, .int x1), (2, .int x2), (4, .int x4)] dX12_beside_119 (by decide) rfl ?_
    exact E_lv [2, 1, 0] rfl h
  · rw [if_neg c] at h
    refine E_aload_n 0 dX12_beside_83 rfl rfl ?_
    refine E_getR 163 dX12_beside_84 fl_X12_136 rfl (sk_124 hs) (sn hs (by decide)) (sr_124_66 hs) ?_
    refine E_aload_n 0 dX12_beside_87 rfl rfl ?_
    refine E_getR 162 dX12_beside_88 fl_X12_133 rfl (sk_124 hs) (sn hs (by decide)) (sr_124_64 hs) ?_
    refine E_iload 4 dX12_beside_91 rfl ?_
    obtain ⟨g46, h⟩ := h
    refine E_iald2 (x5.toNatClampNeg) dX12_beside_93 (sk_162 hs) (sn hs (by decide)) g46 rfl ?_
    refine E_iload 4 dX12_beside_94 rfl ?_
    obtain ⟨g47, h⟩ := h
    refine E_iast2 ((gI σ 162 x5.toNatClampNeg).toNatClampNeg) dX12_beside_96 (sk_163 hs) (sn hs (by decide)) (Or.inl (by decide)) g47 rfl ?_
    refine E_iinc 4 (x5 + 1) [(5, .int (x5 + 1)), (0, .ref 124), (1, .int x1), (2, .int x2), (4, .int x4)] dX12_beside_97 rfl (congrArg (x5 + ·) (by decide : Int32.ofInt 1 = 1)) (by decide) rfl ?_
    refine E_goto 74 dX12_beside_100 (by decide) ?_
    exact E_lv [1, 2, 3, 4, 0] rfl h
def W_X12_beside_121 (X : Sx) (l : Launch) (D : Nat) (x5 : Int32) (x6 : Int32) (σ : AH) (r : Option Value) (σ' : AH) : Prop := (if (gI σ 124 65) ≤ x6 then (r = some (.int x5) ∧ σ' = σ) else E X l m_X12_beside D 133 [(0, .ref 124), (5, .int x5), (6, .int x6), (7, .int (0 : Int32))] [] σ r σ')
set_option maxRecDepth 100000 in
theorem w_X12_beside_121 {X : Sx} {l : Launch} {D : Nat} {x5 : Int32} {x6 : Int32} {σ : AH} {r : Option Value} {σ' : AH} (hs : Sh σ) (h : W_X12_beside_121 X l D x5 x6 σ r σ') : E X l m_X12_beside D 121 [(0, .ref 124), (5, .int x5), (6, .int x6)] [] σ r σ' := by
  unfold W_X12_beside_121 at h
  refine E_iload 2 dX12_beside_121 rfl ?_
  refine E_aload_n 0 dX12_beside_123 rfl rfl ?_
  refine E_getI dX12_beside_124 fl_X12_583 rfl (sk_124 hs) (sn hs (by decide)) ?_
  refine E_icmp_ge 233 dX12_beside_127 (by decide) (fun c => ?_) (fun c => ?_)
  · rw [if_pos c] at h
    refine E_iload 1 dX12_beside_233 rfl ?_
    obtain ⟨rfl, rfl⟩ := h
    exact E_iret dX12_beside_235 rfl
  · rw [if_neg c] at h
    refine E_iconst (0 : Int32) dX12_beside_130 (by decide) ?_
    refine E_istore [(7, .int (0 : Int32)), (0, .ref 124), (5, .int x5), (6, .int x6)] dX12_beside_131 (by decide) rfl ?_
    exact E_lv [1, 2, 3, 0] rfl h
def W_X12_beside_218 (X : Sx) (l : Launch) (D : Nat) (x6 : Int32) (x7 : Int32) (y0 : Int32) (y1 : Int32) (σ : AH) (r : Option Value) (σ' : AH) : Prop := E X l m_X12_beside D 133 [(0, .ref 124), (5, .int (y1 + y0)), (6, .int x6), (7, .int (x7 + 1))] [] σ r σ'
set_option maxRecDepth 100000 in
theorem w_X12_beside_218 {X : Sx} {l : Launch} {D : Nat} {x6 : Int32} {x7 : Int32} {y0 : Int32} {y1 : Int32} {σ : AH} {r : Option Value} {σ' : AH} (hs : Sh σ) (h : W_X12_beside_218 X l D x6 x7 y0 y1 σ r σ') : E X l m_X12_beside D 218 [(0, .ref 124), (6, .int x6), (7, .int x7)] [.int y0, .int y1] σ r σ' := by
  unfold W_X12_beside_218 at h
  refine E_iadd dX12_beside_218 ?_
  refine E_istore [(5, .int (y1 + y0)), (0, .ref 124), (6, .int x6), (7, .int x7)] dX12_beside_219 (by decide) rfl ?_
  refine E_iinc 3 (x7 + 1) [(7, .int (x7 + 1)), (5, .int (y1 + y0)), (0, .ref 124), (6, .int x6)] dX12_beside_221 rfl (congrArg (x7 + ·) (by decide : Int32.ofInt 1 = 1)) (by decide) rfl ?_
  refine E_goto 133 dX12_beside_224 (by decide) ?_
  exact E_lv [2, 1, 3, 0] rfl h
def W_X12_beside_217 (X : Sx) (l : Launch) (D : Nat) (x6 : Int32) (x7 : Int32) (y0 : Int32) (σ : AH) (r : Option Value) (σ' : AH) : Prop := W_X12_beside_218 X l D x6 x7 (0 : Int32) y0 σ r σ'
set_option maxRecDepth 100000 in
theorem w_X12_beside_217 {X : Sx} {l : Launch} {D : Nat} {x6 : Int32} {x7 : Int32} {y0 : Int32} {σ : AH} {r : Option Value} {σ' : AH} (hs : Sh σ) (h : W_X12_beside_217 X l D x6 x7 y0 σ r σ') : E X l m_X12_beside D 217 [(0, .ref 124), (6, .int x6), (7, .int x7)] [.int y0] σ r σ' := by
  unfold W_X12_beside_217 at h
  refine E_iconst (0 : Int32) dX12_beside_217 (by decide) ?_
  exact E_lv [0, 1, 2] rfl (w_X12_beside_218 hs h)
def W_X12_beside_177 (X : Sx) (l : Launch) (D : Nat) (x5 : Int32) (x6 : Int32) (x7 : Int32) (y0 : Int32) (σ : AH) (r : Option Value) (σ' : AH) : Prop := (if y0 = 0 then W_X12_beside_217 X l D x6 x7 x5 σ r σ' else vp_in x6 60 ∧ vp_in (gI σ 162 x6.toNatClampNeg) 60 ∧ vp_in x7 60 ∧ vp_in (gI σ 162 x7.toNatClampNeg) 60 ∧ (if (gI σ 163 (gI σ 162 x7.toNatClampNeg).toNatClampNeg) ≤ (gI σ 163 (gI σ 162 x6.toNatClampNeg).toNatClampNeg) then W_X12_beside_217 X l D x6 x7 x5 σ r σ' else W_X12_beside_218 X l D x6 x7 (1 : Int32) x5 σ r σ'))
set_option maxRecDepth 100000 in
theorem w_X12_beside_177 {X : Sx} {l : Launch} {D : Nat} {x5 : Int32} {x6 : Int32} {x7 : Int32} {y0 : Int32} {σ : AH} {r : Option Value} {σ' : AH} (hs : Sh σ) (h : W_X12_beside_177 X l D x5 x6 x7 y0 σ r σ') : E X l m_X12_beside D 177 [(0, .ref 124), (5, .int x5), (6, .int x6), (7, .int x7)] [.int y0] σ r σ' := by
  unfold W_X12_beside_177 at h
  refine E_istore [(8, .int y0), (0, .ref 124), (5, .int x5), (6, .int x6), (7, .int x7)] dX12_beside_177 (by decide) rfl ?_
  refine E_iload 2 dX12_beside_179 rfl ?_
  refine E_iload 0 dX12_beside_181 rfl ?_
  refine E_if_eq 217 dX12_beside_183 (by decide) (fun c => ?_) (fun c => ?_)
  · rw [if_pos c] at h
    exact E_lv [1, 3, 4] rfl (w_X12_beside_217 hs h)
  · rw [if_neg c] at h
    refine E_aload_n 1 dX12_beside_186 rfl rfl ?_
    refine E_getR 163 dX12_beside_187 fl_X12_136 rfl (sk_124 hs) (sn hs (by decide)) (sr_124_66 hs) ?_
    refine E_aload_n 1 dX12_beside_190 rfl rfl ?_
    refine E_getR 162 dX12_beside_191 fl_X12_133 rfl (sk_124 hs) (sn hs (by decide)) (sr_124_64 hs) ?_
    refine E_iload 3 dX12_beside_194 rfl ?_
    obtain ⟨g52, h⟩ := h
    refine E_iald2 (x6.toNatClampNeg) dX12_beside_196 (sk_162 hs) (sn hs (by decide)) g52 rfl ?_
    obtain ⟨g53, h⟩ := h
    refine E_iald2 ((gI σ 162 x6.toNatClampNeg).toNatClampNeg) dX12_beside_197 (sk_163 hs) (sn hs (by decide)) g53 rfl ?_
    refine E_aload_n 1 dX12_beside_198 rfl rfl ?_
    refine E_getR 163 dX12_beside_199 fl_X12_136 rfl (sk_124 hs) (sn hs (by decide)) (sr_124_66 hs) ?_
    refine E_aload_n 1 dX12_beside_202 rfl rfl ?_
    refine E_getR 162 dX12_beside_203 fl_X12_133 rfl (sk_124 hs) (sn hs (by decide)) (sr_124_64 hs) ?_
    refine E_iload 4 dX12_beside_206 rfl ?_
    obtain ⟨g54, h⟩ := h
    refine E_iald2 (x7.toNatClampNeg) dX12_beside_208 (sk_162 hs) (sn hs (by decide)) g54 rfl ?_
    obtain ⟨g55, h⟩ := h
    refine E_iald2 ((gI σ 162 x7.toNatClampNeg).toNatClampNeg) dX12_beside_209 (sk_163 hs) (sn hs (by decide)) g55 rfl ?_
    refine E_icmp_ge 217 dX12_beside_210 (by decide) (fun c => ?_) (fun c => ?_)
    · rw [if_pos c] at h
      exact E_lv [1, 3, 4] rfl (w_X12_beside_217 hs h)
    · rw [if_neg c] at h
      refine E_iconst (1 : Int32) dX12_beside_213 (by decide) ?_
      refine E_goto 218 dX12_beside_214 (by decide) ?_
      exact E_lv [1, 3, 4] rfl (w_X12_beside_218 hs h)
def W_X12_beside_176 (X : Sx) (l : Launch) (D : Nat) (x5 : Int32) (x6 : Int32) (x7 : Int32) (σ : AH) (r : Option Value) (σ' : AH) : Prop := W_X12_beside_177 X l D x5 x6 x7 (0 : Int32) σ r σ'
set_option maxRecDepth 100000 in
theorem w_X12_beside_176 {X : Sx} {l : Launch} {D : Nat} {x5 : Int32} {x6 : Int32} {x7 : Int32} {σ : AH} {r : Option Value} {σ' : AH} (hs : Sh σ) (h : W_X12_beside_176 X l D x5 x6 x7 σ r σ') : E X l m_X12_beside D 176 [(0, .ref 124), (5, .int x5), (6, .int x6), (7, .int x7)] [] σ r σ' := by
  unfold W_X12_beside_176 at h
  refine E_iconst (0 : Int32) dX12_beside_176 (by decide) ?_
  exact E_lv [0, 1, 2, 3] rfl (w_X12_beside_177 hs h)
def W_X12_beside_133 (X : Sx) (l : Launch) (D : Nat) (x5 : Int32) (x6 : Int32) (x7 : Int32) (σ : AH) (r : Option Value) (σ' : AH) : Prop := (if x6 ≤ x7 then E X l m_X12_beside D 121 [(0, .ref 124), (5, .int x5), (6, .int (x6 + 1))] [] σ r σ' else vp_in x6 60 ∧ vp_in (gI σ 162 x6.toNatClampNeg) 60 ∧ (if (gI σ 163 (gI σ 162 x6.toNatClampNeg).toNatClampNeg) = (-1 : Int32) then W_X12_beside_176 X l D x5 x6 x7 σ r σ' else vp_in x7 60 ∧ vp_in (gI σ 162 x7.toNatClampNeg) 60 ∧ (if (gI σ 163 (gI σ 162 x7.toNatClampNeg).toNatClampNeg) = (-1 : Int32) then W_X12_beside_176 X l D x5 x6 x7 σ r σ' else W_X12_beside_177 X l D x5 x6 x7 (1 : Int32) σ r σ')))
set_option maxRecDepth 100000 in
theorem w_X12_beside_133 {X : Sx} {l : Launch} {D : Nat} {x5 : Int32} {x6 : Int32} {x7 : Int32} {σ : AH} {r : Option Value} {σ' : AH} (hs : Sh σ) (h : W_X12_beside_133 X l D x5 x6 x7 σ r σ') : E X l m_X12_beside D 133 [(0, .ref 124), (5, .int x5), (6, .int x6), (7, .int x7)] [] σ r σ' := by
  unfold W_X12_beside_133 at h
  refine E_iload 3 dX12_beside_133 rfl ?_
  refine E_iload 2 dX12_beside_135 rfl ?_
  refine E_icmp_ge 227 dX12_beside_137 (by decide) (fun c => ?_) (fun c => ?_)
  · rw [if_pos c] at h
    refine E_iinc 2 (x6 + 1) [(6, .int (x6 + 1)), (0, .ref 124), (5, .int x5), (7, .int x7)] dX12_beside_227 rfl (congrArg (x6 + ·) (by decide : Int32.ofInt 1 = 1)) (by decide) rfl ?_
    refine E_goto 121 dX12_beside_230 (by decide) ?_
    exact E_lv [1, 2, 0] rfl h
  · rw [if_neg c] at h
    refine E_aload_n 0 dX12_beside_140 rfl rfl ?_
    refine E_getR 163 dX12_beside_141 fl_X12_136 rfl (sk_124 hs) (sn hs (by decide)) (sr_124_66 hs) ?_
    refine E_aload_n 0 dX12_beside_144 rfl rfl ?_
    refine E_getR 162 dX12_beside_145 fl_X12_133 rfl (sk_124 hs) (sn hs (by decide)) (sr_124_64 hs) ?_
    refine E_iload 2 dX12_beside_148 rfl ?_
    obtain ⟨g48, h⟩ := h
    refine E_iald2 (x6.toNatClampNeg) dX12_beside_150 (sk_162 hs) (sn hs (by decide)) g48 rfl ?_
    obtain ⟨g49, h⟩ := h
    refine E_iald2 ((gI σ 162 x6.toNatClampNeg).toNatClampNeg) dX12_beside_151 (sk_163 hs) (sn hs (by decide)) g49 rfl ?_
    refine E_iconst (-1 : Int32) dX12_beside_152 (by decide) ?_
    refine E_icmp_eq 176 dX12_beside_153 (by decide) (fun c => ?_) (fun c => ?_)
    · rw [if_pos c] at h
      exact E_lv [0, 1, 2, 3] rfl (w_X12_beside_176 hs h)
    · rw [if_neg c] at h
      refine E_aload_n 0 dX12_beside_156 rfl rfl ?_
      refine E_getR 163 dX12_beside_157 fl_X12_136 rfl (sk_124 hs) (sn hs (by decide)) (sr_124_66 hs) ?_
      refine E_aload_n 0 dX12_beside_160 rfl rfl ?_
      refine E_getR 162 dX12_beside_161 fl_X12_133 rfl (sk_124 hs) (sn hs (by decide)) (sr_124_64 hs) ?_
      refine E_iload 3 dX12_beside_164 rfl ?_
      obtain ⟨g50, h⟩ := h
      refine E_iald2 (x7.toNatClampNeg) dX12_beside_166 (sk_162 hs) (sn hs (by decide)) g50 rfl ?_
      obtain ⟨g51, h⟩ := h
      refine E_iald2 ((gI σ 162 x7.toNatClampNeg).toNatClampNeg) dX12_beside_167 (sk_163 hs) (sn hs (by decide)) g51 rfl ?_
      refine E_iconst (-1 : Int32) dX12_beside_168 (by decide) ?_
      refine E_icmp_eq 176 dX12_beside_169 (by decide) (fun c => ?_) (fun c => ?_)
      · rw [if_pos c] at h
        exact E_lv [0, 1, 2, 3] rfl (w_X12_beside_176 hs h)
      · rw [if_neg c] at h
        refine E_iconst (1 : Int32) dX12_beside_172 (by decide) ?_
        refine E_goto 177 dX12_beside_173 (by decide) ?_
        exact E_lv [0, 1, 2, 3] rfl (w_X12_beside_177 hs h)
def W_X12_findHomes_0 (X : Sx) (l : Launch) (D : Nat) (x1 : Int32) (σ : AH) (r : Option Value) (σ' : AH) : Prop := ∃ d1 : Nat, ∃ σ2 : AH, d1 + 1 ≤ D ∧ Call X l m_X12_runAll d1 [.ref 124, .int x1, .int (0 : Int32)] σ none σ2 ∧ E X l m_X12_findHomes D 8 [(0, .ref 124), (2, .int (0 : Int32))] [] σ2 r σ'
set_option maxRecDepth 100000 in
theorem w_X12_findHomes_0 {X : Sx} {l : Launch} {D : Nat} {x1 : Int32} {σ : AH} {r : Option Value} {σ' : AH} (hs : Sh σ) (h : W_X12_findHomes_0 X l D x1 σ r σ') : E X l m_X12_findHomes D 0 [(0, .ref 124), (1, .int x1)] [] σ r σ' := by
  unfold W_X12_findHomes_0 at h
  refine E_aload_n 0 dX12_findHomes_0 rfl rfl ?_
  refine E_iload_n 1 dX12_findHomes_1 rfl rfl ?_
  refine E_iconst (0 : Int32) dX12_findHomes_2 (by decide) ?_
  obtain ⟨d1, σ2, hD3, hC4, h⟩ := h
  have hs5 := hC4.1.2.2.2.1 hs
  refine E_callV (As := [.int x1, .int (0 : Int32)]) (rest := []) (r1 := none) (b := 124) dX12_findHomes_3 ok_X12_runAll in_X12_runAll se_X12_runAll ml_X12_525 hD3 rfl rfl (Nat.le_of_ble_eq_true rfl) (sk_124 hs) (sn hs (by decide)) (by decide) rfl (by decide +kernel) hC4 ?_
  refine E_iconst (0 : Int32) dX12_findHomes_6 (by decide) ?_
  refine E_istore_n [(2, .int (0 : Int32)), (0, .ref 124), (1, .int x1)] dX12_findHomes_7 rfl (by decide) rfl ?_
  exact E_lv [1, 0] rfl h
def W_X12_findHomes_107 (X : Sx) (l : Launch) (D : Nat) (x2 : Int32) (σ : AH) (r : Option Value) (σ' : AH) : Prop := E X l m_X12_findHomes D 8 [(0, .ref 124), (2, .int (x2 + 1))] [] σ r σ'
set_option maxRecDepth 100000 in
theorem w_X12_findHomes_107 {X : Sx} {l : Launch} {D : Nat} {x2 : Int32} {σ : AH} {r : Option Value} {σ' : AH} (hs : Sh σ) (h : W_X12_findHomes_107 X l D x2 σ r σ') : E X l m_X12_findHomes D 107 [(0, .ref 124), (2, .int x2)] [] σ r σ' := by
  unfold W_X12_findHomes_107 at h
  refine E_iinc 1 (x2 + 1) [(2, .int (x2 + 1)), (0, .ref 124)] dX12_findHomes_107 rfl (congrArg (x2 + ·) (by decide : Int32.ofInt 1 = 1)) (by decide) rfl ?_
  refine E_goto 8 dX12_findHomes_110 (by decide) ?_
  exact E_lv [1, 0] rfl h
def W_X12_findHomes_106 (X : Sx) (l : Launch) (D : Nat) (x2 : Int32) (y0 : Int32) (y1 : Int32) (σ : AH) (r : Option Value) (σ' : AH) : Prop := vp_in y1 30 ∧ W_X12_findHomes_107 X l D x2 (sI σ 165 y1.toNatClampNeg y0) r σ'
set_option maxRecDepth 100000 in
theorem w_X12_findHomes_106 {X : Sx} {l : Launch} {D : Nat} {x2 : Int32} {y0 : Int32} {y1 : Int32} {σ : AH} {r : Option Value} {σ' : AH} (hs : Sh σ) (h : W_X12_findHomes_106 X l D x2 y0 y1 σ r σ') : E X l m_X12_findHomes D 106 [(0, .ref 124), (2, .int x2)] [.int y0, .int y1, .ref 165] σ r σ' := by
  unfold W_X12_findHomes_106 at h
  obtain ⟨g32, h⟩ := h
  refine E_iast2 (y1.toNatClampNeg) dX12_findHomes_106 (sk_165 hs) (sn hs (by decide)) (Or.inl (by decide)) g32 rfl ?_
  exact E_lv [0, 1] rfl (w_X12_findHomes_107 hs h)
def W_X12_findHomes_46 (X : Sx) (l : Launch) (D : Nat) (x2 : Int32) (x3 : Int32) (y0 : Int32) (y1 : Int32) (σ : AH) (r : Option Value) (σ' : AH) : Prop := vp_in y1 30 ∧ vp_in x2 30 ∧ (if x3 = (-1 : Int32) then W_X12_findHomes_107 X l D x2 (sI (sI σ 164 y1.toNatClampNeg y0) 165 x2.toNatClampNeg (1000000 : Int32)) r σ' else ∃ d9 : Nat, ∃ v14 : Int32, ∃ σ10 : AH, d9 + 1 ≤ D ∧ Call X l m_X12_kindOf d9 [.ref 124, .int x2] (sI (sI σ 164 y1.toNatClampNeg y0) 165 x2.toNatClampNeg (1000000 : Int32)) (some (.int v14)) σ10 ∧ (if v14 = (2 : Int32) then ∃ d15 : Nat, ∃ σ16 : AH, d15 + 1 ≤ D ∧ Call X l m_X12_setOnly d15 [.ref 124, .int (0 : Int32), .int x3] σ10 none σ16 ∧ ∃ d20 : Nat, ∃ v25 : Int32, ∃ σ21 : AH, d20 + 1 ≤ D ∧ Call X l m_X12_find d20 [.ref 124, .int (6 : Int32), .int (0 : Int32), .int (0 : Int32), .int (0 : Int32), .int x3] σ16 (some (.int v25)) σ21 ∧ (if v25 = 0 then W_X12_findHomes_106 X l D x2 (1000000 : Int32) x2 σ21 r σ' else ∃ d26 : Nat, ∃ v31 : Int32, ∃ σ27 : AH, d26 + 1 ≤ D ∧ Call X l m_X12_atLeastNought d26 [.ref 124] σ21 (some (.int v31)) σ27 ∧ W_X12_findHomes_106 X l D x2 (x3 + v31) x2 σ27 r σ') else W_X12_findHomes_107 X l D x2 σ10 r σ'))
set_option maxRecDepth 100000 in
theorem w_X12_findHomes_46 {X : Sx} {l : Launch} {D : Nat} {x2 : Int32} {x3 : Int32} {y0 : Int32} {y1 : Int32} {σ : AH} {r : Option Value} {σ' : AH} (hs : Sh σ) (h : W_X12_findHomes_46 X l D x2 x3 y0 y1 σ r σ') : E X l m_X12_findHomes D 46 [(0, .ref 124), (2, .int x2), (3, .int x3)] [.int y0, .int y1, .ref 164] σ r σ' := by
  unfold W_X12_findHomes_46 at h
  obtain ⟨g7, h⟩ := h
  refine E_iast2 (y1.toNatClampNeg) dX12_findHomes_46 (sk_164 hs) (sn hs (by decide)) (Or.inl (by decide)) g7 rfl ?_
  refine E_aload_n 0 dX12_findHomes_47 rfl rfl ?_
  refine E_getR 165 dX12_findHomes_48 fl_X12_142 rfl (sk_124 hs) (sn hs (by decide)) (sr_124_68 hs) ?_
  refine E_iload_n 1 dX12_findHomes_51 rfl rfl ?_
  refine E_ldcw (1000000 : Int32) dX12_findHomes_52 ct_X12_592 ?_
  obtain ⟨g8, h⟩ := h
  refine E_iast2 (x2.toNatClampNeg) dX12_findHomes_55 (sk_165 hs) (sn hs (by decide)) (Or.inl (by decide)) g8 rfl ?_
  refine E_iload_n 2 dX12_findHomes_56 rfl rfl ?_
  refine E_iconst (-1 : Int32) dX12_findHomes_57 (by decide) ?_
  refine E_icmp_eq 107 dX12_findHomes_58 (by decide) (fun c => ?_) (fun c => ?_)
  · rw [if_pos c] at h
    exact E_lv [0, 1] rfl (w_X12_findHomes_107 hs h)
  · rw [if_neg c] at h
    refine E_aload_n 0 dX12_findHomes_61 rfl rfl ?_
    refine E_iload_n 1 dX12_findHomes_62 rfl rfl ?_
    obtain ⟨d9, v14, σ10, hD11, hC12, h⟩ := h
    have hs13 := hC12.1.2.2.2.1 hs
    refine E_callV (As := [.int x2]) (rest := []) (r1 := (some (.int v14))) (b := 124) dX12_findHomes_63 ok_X12_kindOf in_X12_kindOf se_X12_kindOf ml_X12_477 hD11 rfl rfl (Nat.le_of_ble_eq_true rfl) (sk_124 hs) (sn hs (by decide)) (by decide) rfl (by decide +kernel) hC12 ?_
    refine E_iconst (2 : Int32) dX12_findHomes_66 (by decide) ?_
    refine E_icmp_ne 107 dX12_findHomes_67 (by decide) (fun c => ?_) (fun c => ?_)
    · rw [if_neg c] at h
      exact E_lv [0, 1] rfl (w_X12_findHomes_107 hs13 h)
    · rw [if_pos c] at h
      refine E_aload_n 0 dX12_findHomes_70 rfl rfl ?_
      refine E_iconst (0 : Int32) dX12_findHomes_71 (by decide) ?_
      refine E_iload_n 2 dX12_findHomes_72 rfl rfl ?_
      obtain ⟨d15, σ16, hD17, hC18, h⟩ := h
      have hs19 := hC18.1.2.2.2.1 hs13
      refine E_callV (As := [.int (0 : Int32), .int x3]) (rest := []) (r1 := none) (b := 124) dX12_findHomes_73 ok_X12_setOnly in_X12_setOnly se_X12_setOnly ml_X12_440 hD17 rfl rfl (Nat.le_of_ble_eq_true rfl) (sk_124 hs13) (sn hs13 (by decide)) (by decide) rfl (by decide +kernel) hC18 ?_
      refine E_aload_n 0 dX12_findHomes_76 rfl rfl ?_
      refine E_getR 165 dX12_findHomes_77 fl_X12_142 rfl (sk_124 hs19) (sn hs19 (by decide)) (sr_124_68 hs19) ?_
      refine E_iload_n 1 dX12_findHomes_80 rfl rfl ?_
      refine E_aload_n 0 dX12_findHomes_81 rfl rfl ?_
      refine E_bipush (6 : Int32) dX12_findHomes_82 (by decide) ?_
      refine E_iconst (0 : Int32) dX12_findHomes_84 (by decide) ?_
      refine E_iconst (0 : Int32) dX12_findHomes_85 (by decide) ?_
      refine E_iconst (0 : Int32) dX12_findHomes_86 (by decide) ?_
      refine E_iload_n 2 dX12_findHomes_87 rfl rfl ?_
      obtain ⟨d20, v25, σ21, hD22, hC23, h⟩ := h
      have hs24 := hC23.1.2.2.2.1 hs19
      refine E_callV (As := [.int (6 : Int32), .int (0 : Int32), .int (0 : Int32), .int (0 : Int32), .int x3]) (rest := [.int x2, .ref 165]) (r1 := (some (.int v25))) (b := 124) dX12_findHomes_88 ok_X12_find in_X12_find se_X12_find ml_X12_443 hD22 rfl rfl (Nat.le_of_ble_eq_true rfl) (sk_124 hs19) (sn hs19 (by decide)) (by decide) rfl (by decide +kernel) hC23 ?_
      refine E_if_eq 103 dX12_findHomes_91 (by decide) (fun c => ?_) (fun c => ?_)
      · rw [if_pos c] at h
        refine E_ldcw (1000000 : Int32) dX12_findHomes_103 ct_X12_592 ?_
        exact E_lv [0, 1] rfl (w_X12_findHomes_106 hs24 h)
      · rw [if_neg c] at h
        refine E_iload_n 2 dX12_findHomes_94 rfl rfl ?_
        refine E_aload_n 0 dX12_findHomes_95 rfl rfl ?_
        obtain ⟨d26, v31, σ27, hD28, hC29, h⟩ := h
        have hs30 := hC29.1.2.2.2.1 hs24
        refine E_callV (As := []) (rest := [.int x3, .int x2, .ref 165]) (r1 := (some (.int v31))) (b := 124) dX12_findHomes_96 ok_X12_atLeastNought in_X12_atLeastNought se_X12_atLeastNought ml_X12_447 hD28 rfl rfl (Nat.le_of_ble_eq_true rfl) (sk_124 hs24) (sn hs24 (by decide)) (by decide) rfl (by decide +kernel) hC29 ?_
        refine E_iadd dX12_findHomes_99 ?_
        refine E_goto 106 dX12_findHomes_100 (by decide) ?_
        exact E_lv [0, 1] rfl (w_X12_findHomes_106 hs30 h)
def W_X12_findHomes_8 (X : Sx) (l : Launch) (D : Nat) (x2 : Int32) (σ : AH) (r : Option Value) (σ' : AH) : Prop := (if (gI σ 125 4) ≤ x2 then (r = none ∧ σ' = σ) else vp_in (((3 : Int32) * x2) + (2 : Int32)) 90 ∧ (if (gI σ 149 (((3 : Int32) * x2) + (2 : Int32)).toNatClampNeg) = (-1 : Int32) then W_X12_findHomes_46 X l D x2 (gI σ 149 (((3 : Int32) * x2) + (2 : Int32)).toNatClampNeg) (1000000 : Int32) x2 σ r σ' else W_X12_findHomes_46 X l D x2 (gI σ 149 (((3 : Int32) * x2) + (2 : Int32)).toNatClampNeg) (gI σ 149 (((3 : Int32) * x2) + (2 : Int32)).toNatClampNeg) x2 σ r σ'))
set_option maxRecDepth 100000 in
theorem w_X12_findHomes_8 {X : Sx} {l : Launch} {D : Nat} {x2 : Int32} {σ : AH} {r : Option Value} {σ' : AH} (hs : Sh σ) (h : W_X12_findHomes_8 X l D x2 σ r σ') : E X l m_X12_findHomes D 8 [(0, .ref 124), (2, .int x2)] [] σ r σ' := by
  unfold W_X12_findHomes_8 at h
  refine E_iload_n 1 dX12_findHomes_8 rfl rfl ?_
  refine E_aload_n 0 dX12_findHomes_9 rfl rfl ?_
  refine E_getR 125 dX12_findHomes_10 fl_X12_8 rfl (sk_124 hs) (sn hs (by decide)) (sr_124_2 hs) ?_
  refine E_iconst (4 : Int32) dX12_findHomes_13 (by decide) ?_
  refine E_iald2 4 dX12_findHomes_14 (sk_125 hs) (sn hs (by decide)) (vp_lit (by decide)) (by decide) ?_
  refine E_icmp_ge 113 dX12_findHomes_15 (by decide) (fun c => ?_) (fun c => ?_)
  · rw [if_pos c] at h
    obtain ⟨rfl, rfl⟩ := h
    exact E_vret dX12_findHomes_113 rfl
  · rw [if_neg c] at h
    refine E_aload_n 0 dX12_findHomes_18 rfl rfl ?_
    refine E_getR 149 dX12_findHomes_19 fl_X12_94 rfl (sk_124 hs) (sn hs (by decide)) (sr_124_44 hs) ?_
    refine E_iconst (3 : Int32) dX12_findHomes_22 (by decide) ?_
    refine E_iload_n 1 dX12_findHomes_23 rfl rfl ?_
    refine E_imul dX12_findHomes_24 ?_
    refine E_iconst (2 : Int32) dX12_findHomes_25 (by decide) ?_
    refine E_iadd dX12_findHomes_26 ?_
    obtain ⟨g6, h⟩ := h
    refine E_iald2 ((((3 : Int32) * x2) + (2 : Int32)).toNatClampNeg) dX12_findHomes_27 (sk_149 hs) (sn hs (by decide)) g6 rfl ?_
    refine E_istore_n [(3, .int (gI σ 149 (((3 : Int32) * x2) + (2 : Int32)).toNatClampNeg)), (0, .ref 124), (2, .int x2)] dX12_findHomes_28 rfl (by decide) rfl ?_
    refine E_aload_n 1 dX12_findHomes_29 rfl rfl ?_
    refine E_getR 164 dX12_findHomes_30 fl_X12_139 rfl (sk_124 hs) (sn hs (by decide)) (sr_124_67 hs) ?_
    refine E_iload_n 2 dX12_findHomes_33 rfl rfl ?_
    refine E_iload_n 0 dX12_findHomes_34 rfl rfl ?_
    refine E_iconst (-1 : Int32) dX12_findHomes_35 (by decide) ?_
    refine E_icmp_ne 45 dX12_findHomes_36 (by decide) (fun c => ?_) (fun c => ?_)
    · rw [if_neg c] at h
      refine E_iload_n 0 dX12_findHomes_45 rfl rfl ?_
      exact E_lv [1, 2, 0] rfl (w_X12_findHomes_46 hs h)
    · rw [if_pos c] at h
      refine E_ldcw (1000000 : Int32) dX12_findHomes_39 ct_X12_592 ?_
      refine E_goto 46 dX12_findHomes_42 (by decide) ?_
      exact E_lv [1, 2, 0] rfl (w_X12_findHomes_46 hs h)
def W_X12_isHome_0 (X : Sx) (l : Launch) (D : Nat) (x1 : Int32) (x2 : Int32) (σ : AH) (r : Option Value) (σ' : AH) : Prop := vp_in x1 30 ∧ (if x2 < (gI σ 164 x1.toNatClampNeg) then (r = some (.int (0 : Int32)) ∧ σ' = σ) else vp_in x1 30 ∧ (if (gI σ 165 x1.toNatClampNeg) ≤ x2 then (r = some (.int (0 : Int32)) ∧ σ' = σ) else (r = some (.int (1 : Int32)) ∧ σ' = σ)))
set_option maxRecDepth 100000 in
theorem w_X12_isHome_0 {X : Sx} {l : Launch} {D : Nat} {x1 : Int32} {x2 : Int32} {σ : AH} {r : Option Value} {σ' : AH} (hs : Sh σ) (h : W_X12_isHome_0 X l D x1 x2 σ r σ') : E X l m_X12_isHome D 0 [(0, .ref 124), (1, .int x1), (2, .int x2)] [] σ r σ' := by
  unfold W_X12_isHome_0 at h
  refine E_aload_n 0 dX12_isHome_0 rfl rfl ?_
  refine E_getR 164 dX12_isHome_1 fl_X12_139 rfl (sk_124 hs) (sn hs (by decide)) (sr_124_67 hs) ?_
  refine E_iload_n 1 dX12_isHome_4 rfl rfl ?_
  obtain ⟨g1, h⟩ := h
  refine E_iald2 (x1.toNatClampNeg) dX12_isHome_5 (sk_164 hs) (sn hs (by decide)) g1 rfl ?_
  refine E_iload_n 2 dX12_isHome_6 rfl rfl ?_
  refine E_icmp_gt 24 dX12_isHome_7 (by decide) (fun c => ?_) (fun c => ?_)
  · rw [if_pos c] at h
    refine E_iconst (0 : Int32) dX12_isHome_24 (by decide) ?_
    obtain ⟨rfl, rfl⟩ := h
    exact E_zret dX12_isHome_25 rfl (Or.inl rfl)
  · rw [if_neg c] at h
    refine E_iload_n 2 dX12_isHome_10 rfl rfl ?_
    refine E_aload_n 0 dX12_isHome_11 rfl rfl ?_
    refine E_getR 165 dX12_isHome_12 fl_X12_142 rfl (sk_124 hs) (sn hs (by decide)) (sr_124_68 hs) ?_
    refine E_iload_n 1 dX12_isHome_15 rfl rfl ?_
    obtain ⟨g2, h⟩ := h
    refine E_iald2 (x1.toNatClampNeg) dX12_isHome_16 (sk_165 hs) (sn hs (by decide)) g2 rfl ?_
    refine E_icmp_ge 24 dX12_isHome_17 (by decide) (fun c => ?_) (fun c => ?_)
    · rw [if_pos c] at h
      refine E_iconst (0 : Int32) dX12_isHome_24 (by decide) ?_
      obtain ⟨rfl, rfl⟩ := h
      exact E_zret dX12_isHome_25 rfl (Or.inl rfl)
    · rw [if_neg c] at h
      refine E_iconst (1 : Int32) dX12_isHome_20 (by decide) ?_
      refine E_goto 25 dX12_isHome_21 (by decide) ?_
      obtain ⟨rfl, rfl⟩ := h
      exact E_zret dX12_isHome_25 rfl (Or.inr rfl)
def W_X12_stayAt_0 (X : Sx) (l : Launch) (D : Nat) (x1 : Int32) (σ : AH) (r : Option Value) (σ' : AH) : Prop := (r = some (.int ((29512 : Int32) + ((8 : Int32) * x1))) ∧ σ' = σ)
set_option maxRecDepth 100000 in
theorem w_X12_stayAt_0 {X : Sx} {l : Launch} {D : Nat} {x1 : Int32} {σ : AH} {r : Option Value} {σ' : AH} (hs : Sh σ) (h : W_X12_stayAt_0 X l D x1 σ r σ') : E X l m_X12_stayAt D 0 [(0, .ref 124), (1, .int x1)] [] σ r σ' := by
  unfold W_X12_stayAt_0 at h
  refine E_sipush (29512 : Int32) dX12_stayAt_0 (by decide) ?_
  refine E_bipush (8 : Int32) dX12_stayAt_3 (by decide) ?_
  refine E_iload_n 1 dX12_stayAt_5 rfl rfl ?_
  refine E_imul dX12_stayAt_6 ?_
  refine E_iadd dX12_stayAt_7 ?_
  obtain ⟨rfl, rfl⟩ := h
  exact E_iret dX12_stayAt_8 rfl
def W_X12_livesIn_0 (X : Sx) (l : Launch) (D : Nat) (x1 : Int32) (x2 : Int32) (σ : AH) (r : Option Value) (σ' : AH) : Prop := ∃ d1 : Nat, ∃ v6 : Int32, ∃ σ2 : AH, d1 + 1 ≤ D ∧ Call X l m_X12_stayAt d1 [.ref 124, .int x1] σ (some (.int v6)) σ2 ∧ vp_in (v6 + (3 : Int32)) 269832 ∧ (if x2 < (gI σ2 125 (v6 + (3 : Int32)).toNatClampNeg) then (r = some (.int (0 : Int32)) ∧ σ' = σ2) else vp_in (v6 + (4 : Int32)) 269832 ∧ (if (gI σ2 125 (v6 + (4 : Int32)).toNatClampNeg) ≤ x2 then (r = some (.int (0 : Int32)) ∧ σ' = σ2) else vp_in (v6 + (5 : Int32)) 269832 ∧ (if (gI σ2 125 (v6 + (5 : Int32)).toNatClampNeg) ≤ x2 then (r = some (.int (0 : Int32)) ∧ σ' = σ2) else (r = some (.int (1 : Int32)) ∧ σ' = σ2))))
set_option maxRecDepth 100000 in
theorem w_X12_livesIn_0 {X : Sx} {l : Launch} {D : Nat} {x1 : Int32} {x2 : Int32} {σ : AH} {r : Option Value} {σ' : AH} (hs : Sh σ) (h : W_X12_livesIn_0 X l D x1 x2 σ r σ') : E X l m_X12_livesIn D 0 [(0, .ref 124), (1, .int x1), (2, .int x2)] [] σ r σ' := by
  unfold W_X12_livesIn_0 at h
  refine E_aload_n 0 dX12_livesIn_0 rfl rfl ?_
  refine E_iload_n 1 dX12_livesIn_1 rfl rfl ?_
  obtain ⟨d1, v6, σ2, hD3, hC4, h⟩ := h
  have hs5 := hC4.1.2.2.2.1 hs
  refine E_callV (As := [.int x1]) (rest := []) (r1 := (some (.int v6))) (b := 124) dX12_livesIn_2 ok_X12_stayAt in_X12_stayAt se_X12_stayAt ml_X12_593 hD3 rfl rfl (Nat.le_of_ble_eq_true rfl) (sk_124 hs) (sn hs (by decide)) (by decide) rfl (by decide +kernel) hC4 ?_
  refine E_istore_n [(3, .int v6), (0, .ref 124), (1, .int x1), (2, .int x2)] dX12_livesIn_5 rfl (by decide) rfl ?_
  refine E_aload_n 1 dX12_livesIn_6 rfl rfl ?_
  refine E_getR 125 dX12_livesIn_7 fl_X12_8 rfl (sk_124 hs5) (sn hs5 (by decide)) (sr_124_2 hs5) ?_
  refine E_iload_n 0 dX12_livesIn_10 rfl rfl ?_
  refine E_iconst (3 : Int32) dX12_livesIn_11 (by decide) ?_
  refine E_iadd dX12_livesIn_12 ?_
  obtain ⟨g7, h⟩ := h
  refine E_iald2 ((v6 + (3 : Int32)).toNatClampNeg) dX12_livesIn_13 (sk_125 hs5) (sn hs5 (by decide)) g7 rfl ?_
  refine E_iload_n 3 dX12_livesIn_14 rfl rfl ?_
  refine E_icmp_gt 46 dX12_livesIn_15 (by decide) (fun c => ?_) (fun c => ?_)
  · rw [if_pos c] at h
    refine E_iconst (0 : Int32) dX12_livesIn_46 (by decide) ?_
    obtain ⟨rfl, rfl⟩ := h
    exact E_zret dX12_livesIn_47 rfl (Or.inl rfl)
  · rw [if_neg c] at h
    refine E_iload_n 3 dX12_livesIn_18 rfl rfl ?_
    refine E_aload_n 1 dX12_livesIn_19 rfl rfl ?_
    refine E_getR 125 dX12_livesIn_20 fl_X12_8 rfl (sk_124 hs5) (sn hs5 (by decide)) (sr_124_2 hs5) ?_
    refine E_iload_n 0 dX12_livesIn_23 rfl rfl ?_
    refine E_iconst (4 : Int32) dX12_livesIn_24 (by decide) ?_
    refine E_iadd dX12_livesIn_25 ?_
    obtain ⟨g8, h⟩ := h
    refine E_iald2 ((v6 + (4 : Int32)).toNatClampNeg) dX12_livesIn_26 (sk_125 hs5) (sn hs5 (by decide)) g8 rfl ?_
    refine E_icmp_ge 46 dX12_livesIn_27 (by decide) (fun c => ?_) (fun c => ?_)
    · rw [if_pos c] at h
      refine E_iconst (0 : Int32) dX12_livesIn_46 (by decide) ?_
      obtain ⟨rfl, rfl⟩ := h
      exact E_zret dX12_livesIn_47 rfl (Or.inl rfl)
    · rw [if_neg c] at h
      refine E_iload_n 3 dX12_livesIn_30 rfl rfl ?_
      refine E_aload_n 1 dX12_livesIn_31 rfl rfl ?_
      refine E_getR 125 dX12_livesIn_32 fl_X12_8 rfl (sk_124 hs5) (sn hs5 (by decide)) (sr_124_2 hs5) ?_
      refine E_iload_n 0 dX12_livesIn_35 rfl rfl ?_
      refine E_iconst (5 : Int32) dX12_livesIn_36 (by decide) ?_
      refine E_iadd dX12_livesIn_37 ?_
      obtain ⟨g9, h⟩ := h
      refine E_iald2 ((v6 + (5 : Int32)).toNatClampNeg) dX12_livesIn_38 (sk_125 hs5) (sn hs5 (by decide)) g9 rfl ?_
      refine E_icmp_ge 46 dX12_livesIn_39 (by decide) (fun c => ?_) (fun c => ?_)
      · rw [if_pos c] at h
        refine E_iconst (0 : Int32) dX12_livesIn_46 (by decide) ?_
        obtain ⟨rfl, rfl⟩ := h
        exact E_zret dX12_livesIn_47 rfl (Or.inl rfl)
      · rw [if_neg c] at h
        refine E_iconst (1 : Int32) dX12_livesIn_42 (by decide) ?_
        refine E_goto 47 dX12_livesIn_43 (by decide) ?_
        obtain ⟨rfl, rfl⟩ := h
        exact E_zret dX12_livesIn_47 rfl (Or.inr rfl)
def W_X12_squatsIn_0 (X : Sx) (l : Launch) (D : Nat) (x1 : Int32) (x2 : Int32) (σ : AH) (r : Option Value) (σ' : AH) : Prop := ∃ d1 : Nat, ∃ v6 : Int32, ∃ σ2 : AH, d1 + 1 ≤ D ∧ Call X l m_X12_stayAt d1 [.ref 124, .int x1] σ (some (.int v6)) σ2 ∧ vp_in (v6 + (7 : Int32)) 269832 ∧ (if (gI σ2 125 (v6 + (7 : Int32)).toNatClampNeg) = (1 : Int32) then vp_in (v6 + (2 : Int32)) 269832 ∧ (if x2 < (gI σ2 125 (v6 + (2 : Int32)).toNatClampNeg) then (r = some (.int (0 : Int32)) ∧ σ' = σ2) else vp_in (v6 + (3 : Int32)) 269832 ∧ (if (gI σ2 125 (v6 + (3 : Int32)).toNatClampNeg) ≤ x2 then (r = some (.int (0 : Int32)) ∧ σ' = σ2) else vp_in (v6 + (4 : Int32)) 269832 ∧ (if (gI σ2 125 (v6 + (4 : Int32)).toNatClampNeg) ≤ x2 then (r = some (.int (0 : Int32)) ∧ σ' = σ2) else vp_in (v6 + (5 : Int32)) 269832 ∧ (if (gI σ2 125 (v6 + (5 : Int32)).toNatClampNeg) ≤ x2 then (r = some (.int (0 : Int32)) ∧ σ' = σ2) else (r = some (.int (1 : Int32)) ∧ σ' = σ2))))) else (r = some (.int (0 : Int32)) ∧ σ' = σ2))
set_option maxRecDepth 100000 in
theorem w_X12_squatsIn_0 {X : Sx} {l : Launch} {D : Nat} {x1 : Int32} {x2 : Int32} {σ : AH} {r : Option Value} {σ' : AH} (hs : Sh σ) (h : W_X12_squatsIn_0 X l D x1 x2 σ r σ') : E X l m_X12_squatsIn D 0 [(0, .ref 124), (1, .int x1), (2, .int x2)] [] σ r σ' := by
  unfold W_X12_squatsIn_0 at h
  refine E_aload_n 0 dX12_squatsIn_0 rfl rfl ?_
  refine E_iload_n 1 dX12_squatsIn_1 rfl rfl ?_
  obtain ⟨d1, v6, σ2, hD3, hC4, h⟩ := h
  have hs5 := hC4.1.2.2.2.1 hs
  refine E_callV (As := [.int x1]) (rest := []) (r1 := (some (.int v6))) (b := 124) dX12_squatsIn_2 ok_X12_stayAt in_X12_stayAt se_X12_stayAt ml_X12_593 hD3 rfl rfl (Nat.le_of_ble_eq_true rfl) (sk_124 hs) (sn hs (by decide)) (by decide) rfl (by decide +kernel) hC4 ?_
  refine E_istore_n [(3, .int v6), (0, .ref 124), (1, .int x1), (2, .int x2)] dX12_squatsIn_5 rfl (by decide) rfl ?_
  refine E_aload_n 1 dX12_squatsIn_6 rfl rfl ?_
  refine E_getR 125 dX12_squatsIn_7 fl_X12_8 rfl (sk_124 hs5) (sn hs5 (by decide)) (sr_124_2 hs5) ?_
  refine E_iload_n 0 dX12_squatsIn_10 rfl rfl ?_
  refine E_bipush (7 : Int32) dX12_squatsIn_11 (by decide) ?_
  refine E_iadd dX12_squatsIn_13 ?_
  obtain ⟨g7, h⟩ := h
  refine E_iald2 ((v6 + (7 : Int32)).toNatClampNeg) dX12_squatsIn_14 (sk_125 hs5) (sn hs5 (by decide)) g7 rfl ?_
  refine E_iconst (1 : Int32) dX12_squatsIn_15 (by decide) ?_
  refine E_icmp_ne 71 dX12_squatsIn_16 (by decide) (fun c => ?_) (fun c => ?_)
  · rw [if_neg c] at h
    refine E_iconst (0 : Int32) dX12_squatsIn_71 (by decide) ?_
    obtain ⟨rfl, rfl⟩ := h
    exact E_zret dX12_squatsIn_72 rfl (Or.inl rfl)
  · rw [if_pos c] at h
    refine E_aload_n 1 dX12_squatsIn_19 rfl rfl ?_
    refine E_getR 125 dX12_squatsIn_20 fl_X12_8 rfl (sk_124 hs5) (sn hs5 (by decide)) (sr_124_2 hs5) ?_
    refine E_iload_n 0 dX12_squatsIn_23 rfl rfl ?_
    refine E_iconst (2 : Int32) dX12_squatsIn_24 (by decide) ?_
    refine E_iadd dX12_squatsIn_25 ?_
    obtain ⟨g8, h⟩ := h
    refine E_iald2 ((v6 + (2 : Int32)).toNatClampNeg) dX12_squatsIn_26 (sk_125 hs5) (sn hs5 (by decide)) g8 rfl ?_
    refine E_iload_n 3 dX12_squatsIn_27 rfl rfl ?_
    refine E_icmp_gt 71 dX12_squatsIn_28 (by decide) (fun c => ?_) (fun c => ?_)
    · rw [if_pos c] at h
      refine E_iconst (0 : Int32) dX12_squatsIn_71 (by decide) ?_
      obtain ⟨rfl, rfl⟩ := h
      exact E_zret dX12_squatsIn_72 rfl (Or.inl rfl)
    · rw [if_neg c] at h
      refine E_iload_n 3 dX12_squatsIn_31 rfl rfl ?_
      refine E_aload_n 1 dX12_squatsIn_32 rfl rfl ?_
      refine E_getR 125 dX12_squatsIn_33 fl_X12_8 rfl (sk_124 hs5) (sn hs5 (by decide)) (sr_124_2 hs5) ?_
      refine E_iload_n 0 dX12_squatsIn_36 rfl rfl ?_
      refine E_iconst (3 : Int32) dX12_squatsIn_37 (by decide) ?_
      refine E_iadd dX12_squatsIn_38 ?_
      obtain ⟨g9, h⟩ := h
      refine E_iald2 ((v6 + (3 : Int32)).toNatClampNeg) dX12_squatsIn_39 (sk_125 hs5) (sn hs5 (by decide)) g9 rfl ?_
      refine E_icmp_ge 71 dX12_squatsIn_40 (by decide) (fun c => ?_) (fun c => ?_)
      · rw [if_pos c] at h
        refine E_iconst (0 : Int32) dX12_squatsIn_71 (by decide) ?_
        obtain ⟨rfl, rfl⟩ := h
        exact E_zret dX12_squatsIn_72 rfl (Or.inl rfl)
      · rw [if_neg c] at h
        refine E_iload_n 3 dX12_squatsIn_43 rfl rfl ?_
        refine E_aload_n 1 dX12_squatsIn_44 rfl rfl ?_
        refine E_getR 125 dX12_squatsIn_45 fl_X12_8 rfl (sk_124 hs5) (sn hs5 (by decide)) (sr_124_2 hs5) ?_
        refine E_iload_n 0 dX12_squatsIn_48 rfl rfl ?_
        refine E_iconst (4 : Int32) dX12_squatsIn_49 (by decide) ?_
        refine E_iadd dX12_squatsIn_50 ?_
        obtain ⟨g10, h⟩ := h
        refine E_iald2 ((v6 + (4 : Int32)).toNatClampNeg) dX12_squatsIn_51 (sk_125 hs5) (sn hs5 (by decide)) g10 rfl ?_
        refine E_icmp_ge 71 dX12_squatsIn_52 (by decide) (fun c => ?_) (fun c => ?_)
        · rw [if_pos c] at h
          refine E_iconst (0 : Int32) dX12_squatsIn_71 (by decide) ?_
          obtain ⟨rfl, rfl⟩ := h
          exact E_zret dX12_squatsIn_72 rfl (Or.inl rfl)
        · rw [if_neg c] at h
          refine E_iload_n 3 dX12_squatsIn_55 rfl rfl ?_
          refine E_aload_n 1 dX12_squatsIn_56 rfl rfl ?_
          refine E_getR 125 dX12_squatsIn_57 fl_X12_8 rfl (sk_124 hs5) (sn hs5 (by decide)) (sr_124_2 hs5) ?_
          refine E_iload_n 0 dX12_squatsIn_60 rfl rfl ?_
          refine E_iconst (5 : Int32) dX12_squatsIn_61 (by decide) ?_
          refine E_iadd dX12_squatsIn_62 ?_
          obtain ⟨g11, h⟩ := h
          refine E_iald2 ((v6 + (5 : Int32)).toNatClampNeg) dX12_squatsIn_63 (sk_125 hs5) (sn hs5 (by decide)) g11 rfl ?_
          refine E_icmp_ge 71 dX12_squatsIn_64 (by decide) (fun c => ?_) (fun c => ?_)
          · rw [if_pos c] at h
            refine E_iconst (0 : Int32) dX12_squatsIn_71 (by decide) ?_
            obtain ⟨rfl, rfl⟩ := h
            exact E_zret dX12_squatsIn_72 rfl (Or.inl rfl)
          · rw [if_neg c] at h
            refine E_iconst (1 : Int32) dX12_squatsIn_67 (by decide) ?_
            refine E_goto 72 dX12_squatsIn_68 (by decide) ?_
            obtain ⟨rfl, rfl⟩ := h
            exact E_zret dX12_squatsIn_72 rfl (Or.inr rfl)
def W_X12_isIn_18 (X : Sx) (l : Launch) (D : Nat) (σ : AH) (r : Option Value) (σ' : AH) : Prop := (r = some (.int (1 : Int32)) ∧ σ' = σ)
set_option maxRecDepth 100000 in
theorem w_X12_isIn_18 {X : Sx} {l : Launch} {D : Nat} {σ : AH} {r : Option Value} {σ' : AH} (hs : Sh σ) (h : W_X12_isIn_18 X l D σ r σ') : E X l m_X12_isIn D 18 [] [] σ r σ' := by
  unfold W_X12_isIn_18 at h
  refine E_iconst (1 : Int32) dX12_isIn_18 (by decide) ?_
  refine E_goto 23 dX12_isIn_19 (by decide) ?_
  obtain ⟨rfl, rfl⟩ := h
  exact E_zret dX12_isIn_23 rfl (Or.inr rfl)
def W_X12_isIn_0 (X : Sx) (l : Launch) (D : Nat) (x1 : Int32) (x2 : Int32) (σ : AH) (r : Option Value) (σ' : AH) : Prop := ∃ d1 : Nat, ∃ v6 : Int32, ∃ σ2 : AH, d1 + 1 ≤ D ∧ Call X l m_X12_livesIn d1 [.ref 124, .int x1, .int x2] σ (some (.int v6)) σ2 ∧ (if v6 = 0 then ∃ d7 : Nat, ∃ v12 : Int32, ∃ σ8 : AH, d7 + 1 ≤ D ∧ Call X l m_X12_squatsIn d7 [.ref 124, .int x1, .int x2] σ2 (some (.int v12)) σ8 ∧ (if v12 = 0 then (r = some (.int (0 : Int32)) ∧ σ' = σ8) else W_X12_isIn_18 X l D σ8 r σ') else W_X12_isIn_18 X l D σ2 r σ')
set_option maxRecDepth 100000 in
theorem w_X12_isIn_0 {X : Sx} {l : Launch} {D : Nat} {x1 : Int32} {x2 : Int32} {σ : AH} {r : Option Value} {σ' : AH} (hs : Sh σ) (h : W_X12_isIn_0 X l D x1 x2 σ r σ') : E X l m_X12_isIn D 0 [(0, .ref 124), (1, .int x1), (2, .int x2)] [] σ r σ' := by
  unfold W_X12_isIn_0 at h
  refine E_aload_n 0 dX12_isIn_0 rfl rfl ?_
  refine E_iload_n 1 dX12_isIn_1 rfl rfl ?_
  refine E_iload_n 2 dX12_isIn_2 rfl rfl ?_
  obtain ⟨d1, v6, σ2, hD3, hC4, h⟩ := h
  have hs5 := hC4.1.2.2.2.1 hs
  refine E_callV (As := [.int x1, .int x2]) (rest := []) (r1 := (some (.int v6))) (b := 124) dX12_isIn_3 ok_X12_livesIn in_X12_livesIn se_X12_livesIn ml_X12_596 hD3 rfl rfl (Nat.le_of_ble_eq_true rfl) (sk_124 hs) (sn hs (by decide)) (by decide) rfl (by decide +kernel) hC4 ?_
  refine E_if_ne 18 dX12_isIn_6 (by decide) (fun c => ?_) (fun c => ?_)
  · rw [if_neg c] at h
    exact E_lv [] rfl (w_X12_isIn_18 hs5 h)
  · rw [if_pos c] at h
    refine E_aload_n 0 dX12_isIn_9 rfl rfl ?_
    refine E_iload_n 1 dX12_isIn_10 rfl rfl ?_
    refine E_iload_n 2 dX12_isIn_11 rfl rfl ?_
    obtain ⟨d7, v12, σ8, hD9, hC10, h⟩ := h
    have hs11 := hC10.1.2.2.2.1 hs5
    refine E_callV (As := [.int x1, .int x2]) (rest := []) (r1 := (some (.int v12))) (b := 124) dX12_isIn_12 ok_X12_squatsIn in_X12_squatsIn se_X12_squatsIn ml_X12_599 hD9 rfl rfl (Nat.le_of_ble_eq_true rfl) (sk_124 hs5) (sn hs5 (by decide)) (by decide) rfl (by decide +kernel) hC10 ?_
    refine E_if_eq 22 dX12_isIn_15 (by decide) (fun c => ?_) (fun c => ?_)
    · rw [if_pos c] at h
      refine E_iconst (0 : Int32) dX12_isIn_22 (by decide) ?_
      obtain ⟨rfl, rfl⟩ := h
      exact E_zret dX12_isIn_23 rfl (Or.inl rfl)
    · rw [if_neg c] at h
      exact E_lv [] rfl (w_X12_isIn_18 hs11 h)
def W_X12_isFree_0 (X : Sx) (l : Launch) (D : Nat) (x1 : Int32) (x2 : Int32) (σ : AH) (r : Option Value) (σ' : AH) : Prop := E X l m_X12_isFree D 5 [(0, .ref 124), (1, .int x1), (2, .int x2), (3, .int (1 : Int32)), (4, .int (0 : Int32))] [] σ r σ'
set_option maxRecDepth 100000 in
theorem w_X12_isFree_0 {X : Sx} {l : Launch} {D : Nat} {x1 : Int32} {x2 : Int32} {σ : AH} {r : Option Value} {σ' : AH} (hs : Sh σ) (h : W_X12_isFree_0 X l D x1 x2 σ r σ') : E X l m_X12_isFree D 0 [(0, .ref 124), (1, .int x1), (2, .int x2)] [] σ r σ' := by
  unfold W_X12_isFree_0 at h
  refine E_iconst (1 : Int32) dX12_isFree_0 (by decide) ?_
  refine E_istore_n [(3, .int (1 : Int32)), (0, .ref 124), (1, .int x1), (2, .int x2)] dX12_isFree_1 rfl (by decide) rfl ?_
  refine E_iconst (0 : Int32) dX12_isFree_2 (by decide) ?_
  refine E_istore [(4, .int (0 : Int32)), (3, .int (1 : Int32)), (0, .ref 124), (1, .int x1), (2, .int x2)] dX12_isFree_3 (by decide) rfl ?_
  exact E_lv [2, 3, 4, 1, 0] rfl h
def W_X12_isFree_51 (X : Sx) (l : Launch) (D : Nat) (x1 : Int32) (x2 : Int32) (x4 : Int32) (y0 : Int32) (σ : AH) (r : Option Value) (σ' : AH) : Prop := E X l m_X12_isFree D 5 [(0, .ref 124), (1, .int x1), (2, .int x2), (3, .int y0), (4, .int (x4 + 1))] [] σ r σ'
set_option maxRecDepth 100000 in
theorem w_X12_isFree_51 {X : Sx} {l : Launch} {D : Nat} {x1 : Int32} {x2 : Int32} {x4 : Int32} {y0 : Int32} {σ : AH} {r : Option Value} {σ' : AH} (hs : Sh σ) (h : W_X12_isFree_51 X l D x1 x2 x4 y0 σ r σ') : E X l m_X12_isFree D 51 [(0, .ref 124), (1, .int x1), (2, .int x2), (4, .int x4)] [.int y0] σ r σ' := by
  unfold W_X12_isFree_51 at h
  refine E_istore_n [(3, .int y0), (0, .ref 124), (1, .int x1), (2, .int x2), (4, .int x4)] dX12_isFree_51 rfl (by decide) rfl ?_
  refine E_iinc 4 (x4 + 1) [(4, .int (x4 + 1)), (3, .int y0), (0, .ref 124), (1, .int x1), (2, .int x2)] dX12_isFree_52 rfl (congrArg (x4 + ·) (by decide : Int32.ofInt 1 = 1)) (by decide) rfl ?_
  refine E_goto 5 dX12_isFree_55 (by decide) ?_
  exact E_lv [2, 3, 4, 1, 0] rfl h
def W_X12_isFree_46 (X : Sx) (l : Launch) (D : Nat) (x1 : Int32) (x2 : Int32) (x4 : Int32) (σ : AH) (r : Option Value) (σ' : AH) : Prop := W_X12_isFree_51 X l D x1 x2 x4 (1 : Int32) σ r σ'
set_option maxRecDepth 100000 in
theorem w_X12_isFree_46 {X : Sx} {l : Launch} {D : Nat} {x1 : Int32} {x2 : Int32} {x4 : Int32} {σ : AH} {r : Option Value} {σ' : AH} (hs : Sh σ) (h : W_X12_isFree_46 X l D x1 x2 x4 σ r σ') : E X l m_X12_isFree D 46 [(0, .ref 124), (1, .int x1), (2, .int x2), (4, .int x4)] [] σ r σ' := by
  unfold W_X12_isFree_46 at h
  refine E_iconst (1 : Int32) dX12_isFree_46 (by decide) ?_
  refine E_goto 51 dX12_isFree_47 (by decide) ?_
  exact E_lv [0, 1, 2, 3] rfl (w_X12_isFree_51 hs h)
def W_X12_isFree_50 (X : Sx) (l : Launch) (D : Nat) (x1 : Int32) (x2 : Int32) (x4 : Int32) (σ : AH) (r : Option Value) (σ' : AH) : Prop := W_X12_isFree_51 X l D x1 x2 x4 (0 : Int32) σ r σ'
set_option maxRecDepth 100000 in
theorem w_X12_isFree_50 {X : Sx} {l : Launch} {D : Nat} {x1 : Int32} {x2 : Int32} {x4 : Int32} {σ : AH} {r : Option Value} {σ' : AH} (hs : Sh σ) (h : W_X12_isFree_50 X l D x1 x2 x4 σ r σ') : E X l m_X12_isFree D 50 [(0, .ref 124), (1, .int x1), (2, .int x2), (4, .int x4)] [] σ r σ' := by
  unfold W_X12_isFree_50 at h
  refine E_iconst (0 : Int32) dX12_isFree_50 (by decide) ?_
  exact E_lv [0, 1, 2, 3] rfl (w_X12_isFree_51 hs h)
def W_X12_isFree_5 (X : Sx) (l : Launch) (D : Nat) (x1 : Int32) (x2 : Int32) (x3 : Int32) (x4 : Int32) (σ : AH) (r : Option Value) (σ' : AH) : Prop := (if (gI σ 125 7) ≤ x4 then ((x3 = 0 ∨ x3 = 1) ∧ r = some (.int x3) ∧ σ' = σ) else (if x3 = 0 then W_X12_isFree_50 X l D x1 x2 x4 σ r σ' else ∃ d1 : Nat, ∃ v6 : Int32, ∃ σ2 : AH, d1 + 1 ≤ D ∧ Call X l m_X12_stayAt d1 [.ref 124, .int x4] σ (some (.int v6)) σ2 ∧ vp_in v6 269832 ∧ (if (gI σ2 125 v6.toNatClampNeg) = x1 then ∃ d8 : Nat, ∃ v13 : Int32, ∃ σ9 : AH, d8 + 1 ≤ D ∧ Call X l m_X12_isIn d8 [.ref 124, .int x4, .int x2] σ2 (some (.int v13)) σ9 ∧ (if v13 = 0 then W_X12_isFree_46 X l D x1 x2 x4 σ9 r σ' else W_X12_isFree_50 X l D x1 x2 x4 σ9 r σ') else W_X12_isFree_46 X l D x1 x2 x4 σ2 r σ')))
set_option maxRecDepth 100000 in
theorem w_X12_isFree_5 {X : Sx} {l : Launch} {D : Nat} {x1 : Int32} {x2 : Int32} {x3 : Int32} {x4 : Int32} {σ : AH} {r : Option Value} {σ' : AH} (hs : Sh σ) (h : W_X12_isFree_5 X l D x1 x2 x3 x4 σ r σ') : E X l m_X12_isFree D 5 [(0, .ref 124), (1, .int x1), (2, .int x2), (3, .int x3), (4, .int x4)] [] σ r σ' := by
  unfold W_X12_isFree_5 at h
  refine E_iload 4 dX12_isFree_5 rfl ?_
  refine E_aload_n 0 dX12_isFree_7 rfl rfl ?_
  refine E_getR 125 dX12_isFree_8 fl_X12_8 rfl (sk_124 hs) (sn hs (by decide)) (sr_124_2 hs) ?_
  refine E_bipush (7 : Int32) dX12_isFree_11 (by decide) ?_
  refine E_iald2 7 dX12_isFree_13 (sk_125 hs) (sn hs (by decide)) (vp_lit (by decide)) (by decide) ?_
  refine E_icmp_ge 58 dX12_isFree_14 (by decide) (fun c => ?_) (fun c => ?_)
  · rw [if_pos c] at h
    refine E_iload_n 3 dX12_isFree_58 rfl rfl ?_
    obtain ⟨hz, rfl, rfl⟩ := h
    exact E_zret dX12_isFree_59 rfl hz
  · rw [if_neg c] at h
    refine E_iload_n 3 dX12_isFree_17 rfl rfl ?_
    refine E_if_eq 50 dX12_isFree_18 (by decide) (fun c => ?_) (fun c => ?_)
    · rw [if_pos c] at h
      exact E_lv [0, 1, 2, 4] rfl (w_X12_isFree_50 hs h)
    · rw [if_neg c] at h
      refine E_aload_n 0 dX12_isFree_21 rfl rfl ?_
      refine E_getR 125 dX12_isFree_22 fl_X12_8 rfl (sk_124 hs) (sn hs (by decide)) (sr_124_2 hs) ?_
      refine E_aload_n 0 dX12_isFree_25 rfl rfl ?_
      refine E_iload 4 dX12_isFree_26 rfl ?_
      obtain ⟨d1, v6, σ2, hD3, hC4, h⟩ := h
      have hs5 := hC4.1.2.2.2.1 hs
      refine E_callV (As := [.int x4]) (rest := [.ref 125]) (r1 := (some (.int v6))) (b := 124) dX12_isFree_28 ok_X12_stayAt in_X12_stayAt se_X12_stayAt ml_X12_593 hD3 rfl rfl (Nat.le_of_ble_eq_true rfl) (sk_124 hs) (sn hs (by decide)) (by decide) rfl (by decide +kernel) hC4 ?_
      obtain ⟨g7, h⟩ := h
      refine E_iald2 (v6.toNatClampNeg) dX12_isFree_31 (sk_125 hs5) (sn hs5 (by decide)) g7 rfl ?_
      refine E_iload_n 1 dX12_isFree_32 rfl rfl ?_
      refine E_icmp_ne 46 dX12_isFree_33 (by decide) (fun c => ?_) (fun c => ?_)
      · rw [if_neg c] at h
        exact E_lv [0, 1, 2, 4] rfl (w_X12_isFree_46 hs5 h)
      · rw [if_pos c] at h
        refine E_aload_n 0 dX12_isFree_36 rfl rfl ?_
        refine E_iload 4 dX12_isFree_37 rfl ?_
        refine E_iload_n 2 dX12_isFree_39 rfl rfl ?_
        obtain ⟨d8, v13, σ9, hD10, hC11, h⟩ := h
        have hs12 := hC11.1.2.2.2.1 hs5
        refine E_callV (As := [.int x4, .int x2]) (rest := []) (r1 := (some (.int v13))) (b := 124) dX12_isFree_40 ok_X12_isIn in_X12_isIn se_X12_isIn ml_X12_602 hD10 rfl rfl (Nat.le_of_ble_eq_true rfl) (sk_124 hs5) (sn hs5 (by decide)) (by decide) rfl (by decide +kernel) hC11 ?_
        refine E_if_ne 50 dX12_isFree_43 (by decide) (fun c => ?_) (fun c => ?_)
        · rw [if_neg c] at h
          exact E_lv [0, 1, 2, 4] rfl (w_X12_isFree_50 hs12 h)
        · rw [if_pos c] at h
          exact E_lv [0, 1, 2, 4] rfl (w_X12_isFree_46 hs12 h)
def W_X12_stayOf_0 (X : Sx) (l : Launch) (D : Nat) (x1 : Int32) (x2 : Int32) (x3 : Int32) (σ : AH) (r : Option Value) (σ' : AH) : Prop := E X l m_X12_stayOf D 6 [(0, .ref 124), (1, .int x1), (2, .int x2), (3, .int x3), (4, .int (-1 : Int32)), (5, .int (0 : Int32))] [] σ r σ'
set_option maxRecDepth 100000 in
theorem w_X12_stayOf_0 {X : Sx} {l : Launch} {D : Nat} {x1 : Int32} {x2 : Int32} {x3 : Int32} {σ : AH} {r : Option Value} {σ' : AH} (hs : Sh σ) (h : W_X12_stayOf_0 X l D x1 x2 x3 σ r σ') : E X l m_X12_stayOf D 0 [(0, .ref 124), (1, .int x1), (2, .int x2), (3, .int x3)] [] σ r σ' := by
  unfold W_X12_stayOf_0 at h
  refine E_iconst (-1 : Int32) dX12_stayOf_0 (by decide) ?_
  refine E_istore [(4, .int (-1 : Int32)), (0, .ref 124), (1, .int x1), (2, .int x2), (3, .int x3)] dX12_stayOf_1 (by decide) rfl ?_
  refine E_iconst (0 : Int32) dX12_stayOf_3 (by decide) ?_
  refine E_istore [(5, .int (0 : Int32)), (4, .int (-1 : Int32)), (0, .ref 124), (1, .int x1), (2, .int x2), (3, .int x3)] dX12_stayOf_4 (by decide) rfl ?_
  exact E_lv [2, 3, 4, 5, 1, 0] rfl h
def W_X12_stayOf_116 (X : Sx) (l : Launch) (D : Nat) (x1 : Int32) (x2 : Int32) (x3 : Int32) (x5 : Int32) (y0 : Int32) (σ : AH) (r : Option Value) (σ' : AH) : Prop := E X l m_X12_stayOf D 6 [(0, .ref 124), (1, .int x1), (2, .int x2), (3, .int x3), (4, .int y0), (5, .int (x5 + 1))] [] σ r σ'
set_option maxRecDepth 100000 in
theorem w_X12_stayOf_116 {X : Sx} {l : Launch} {D : Nat} {x1 : Int32} {x2 : Int32} {x3 : Int32} {x5 : Int32} {y0 : Int32} {σ : AH} {r : Option Value} {σ' : AH} (hs : Sh σ) (h : W_X12_stayOf_116 X l D x1 x2 x3 x5 y0 σ r σ') : E X l m_X12_stayOf D 116 [(0, .ref 124), (1, .int x1), (2, .int x2), (3, .int x3), (5, .int x5)] [.int y0] σ r σ' := by
  unfold W_X12_stayOf_116 at h
  refine E_istore [(4, .int y0), (0, .ref 124), (1, .int x1), (2, .int x2), (3, .int x3), (5, .int x5)] dX12_stayOf_116 (by decide) rfl ?_
  refine E_iinc 5 (x5 + 1) [(5, .int (x5 + 1)), (4, .int y0), (0, .ref 124), (1, .int x1), (2, .int x2), (3, .int x3)] dX12_stayOf_118 rfl (congrArg (x5 + ·) (by decide : Int32.ofInt 1 = 1)) (by decide) rfl ?_
  refine E_goto 6 dX12_stayOf_121 (by decide) ?_
  exact E_lv [2, 3, 4, 5, 1, 0] rfl h
def W_X12_stayOf_109 (X : Sx) (l : Launch) (D : Nat) (x1 : Int32) (x2 : Int32) (x3 : Int32) (x5 : Int32) (σ : AH) (r : Option Value) (σ' : AH) : Prop := W_X12_stayOf_116 X l D x1 x2 x3 x5 x5 σ r σ'
set_option maxRecDepth 100000 in
theorem w_X12_stayOf_109 {X : Sx} {l : Launch} {D : Nat} {x1 : Int32} {x2 : Int32} {x3 : Int32} {x5 : Int32} {σ : AH} {r : Option Value} {σ' : AH} (hs : Sh σ) (h : W_X12_stayOf_109 X l D x1 x2 x3 x5 σ r σ') : E X l m_X12_stayOf D 109 [(0, .ref 124), (1, .int x1), (2, .int x2), (3, .int x3), (5, .int x5)] [] σ r σ' := by
  unfold W_X12_stayOf_109 at h
  refine E_iload 4 dX12_stayOf_109 rfl ?_
  refine E_goto 116 dX12_stayOf_111 (by decide) ?_
  exact E_lv [0, 1, 2, 3, 4] rfl (w_X12_stayOf_116 hs h)
def W_X12_stayOf_114 (X : Sx) (l : Launch) (D : Nat) (x1 : Int32) (x2 : Int32) (x3 : Int32) (x4 : Int32) (x5 : Int32) (σ : AH) (r : Option Value) (σ' : AH) : Prop := W_X12_stayOf_116 X l D x1 x2 x3 x5 x4 σ r σ'
set_option maxRecDepth 100000 in
theorem w_X12_stayOf_114 {X : Sx} {l : Launch} {D : Nat} {x1 : Int32} {x2 : Int32} {x3 : Int32} {x4 : Int32} {x5 : Int32} {σ : AH} {r : Option Value} {σ' : AH} (hs : Sh σ) (h : W_X12_stayOf_114 X l D x1 x2 x3 x4 x5 σ r σ') : E X l m_X12_stayOf D 114 [(0, .ref 124), (1, .int x1), (2, .int x2), (3, .int x3), (4, .int x4), (5, .int x5)] [] σ r σ' := by
  unfold W_X12_stayOf_114 at h
  refine E_iload 4 dX12_stayOf_114 rfl ?_
  exact E_lv [0, 1, 2, 3, 5] rfl (w_X12_stayOf_116 hs h)
def W_X12_stayOf_72 (X : Sx) (l : Launch) (D : Nat) (x1 : Int32) (x2 : Int32) (x3 : Int32) (x4 : Int32) (x5 : Int32) (y0 : Int32) (σ : AH) (r : Option Value) (σ' : AH) : Prop := (if y0 = 0 then W_X12_stayOf_114 X l D x1 x2 x3 x4 x5 σ r σ' else (if x4 < 0 then W_X12_stayOf_109 X l D x1 x2 x3 x5 σ r σ' else ∃ d21 : Nat, ∃ v26 : Int32, ∃ σ22 : AH, d21 + 1 ≤ D ∧ Call X l m_X12_stayAt d21 [.ref 124, .int x5] σ (some (.int v26)) σ22 ∧ vp_in v26 269832 ∧ ∃ d28 : Nat, ∃ v33 : Int32, ∃ σ29 : AH, d28 + 1 ≤ D ∧ Call X l m_X12_stayAt d28 [.ref 124, .int x4] σ22 (some (.int v33)) σ29 ∧ vp_in v33 269832 ∧ (if (gI σ29 125 v33.toNatClampNeg) ≤ (gI σ22 125 v26.toNatClampNeg) then W_X12_stayOf_114 X l D x1 x2 x3 x4 x5 σ29 r σ' else W_X12_stayOf_109 X l D x1 x2 x3 x5 σ29 r σ')))
set_option maxRecDepth 100000 in
theorem w_X12_stayOf_72 {X : Sx} {l : Launch} {D : Nat} {x1 : Int32} {x2 : Int32} {x3 : Int32} {x4 : Int32} {x5 : Int32} {y0 : Int32} {σ : AH} {r : Option Value} {σ' : AH} (hs : Sh σ) (h : W_X12_stayOf_72 X l D x1 x2 x3 x4 x5 y0 σ r σ') : E X l m_X12_stayOf D 72 [(0, .ref 124), (1, .int x1), (2, .int x2), (3, .int x3), (4, .int x4), (5, .int x5)] [.int y0] σ r σ' := by
  unfold W_X12_stayOf_72 at h
  refine E_istore [(6, .int y0), (0, .ref 124), (1, .int x1), (2, .int x2), (3, .int x3), (4, .int x4), (5, .int x5)] dX12_stayOf_72 (by decide) rfl ?_
  refine E_iload 0 dX12_stayOf_74 rfl ?_
  refine E_if_eq 114 dX12_stayOf_76 (by decide) (fun c => ?_) (fun c => ?_)
  · rw [if_pos c] at h
    exact E_lv [1, 2, 3, 4, 5, 6] rfl (w_X12_stayOf_114 hs h)
  · rw [if_neg c] at h
    refine E_iload 5 dX12_stayOf_79 rfl ?_
    refine E_if_lt 109 dX12_stayOf_81 (by decide) (fun c => ?_) (fun c => ?_)
    · rw [if_pos c] at h
      exact E_lv [1, 2, 3, 4, 6] rfl (w_X12_stayOf_109 hs h)
    · rw [if_neg c] at h
      refine E_aload_n 1 dX12_stayOf_84 rfl rfl ?_
      refine E_getR 125 dX12_stayOf_85 fl_X12_8 rfl (sk_124 hs) (sn hs (by decide)) (sr_124_2 hs) ?_
      refine E_aload_n 1 dX12_stayOf_88 rfl rfl ?_
      refine E_iload 6 dX12_stayOf_89 rfl ?_
      obtain ⟨d21, v26, σ22, hD23, hC24, h⟩ := h
      have hs25 := hC24.1.2.2.2.1 hs
      refine E_callV (As := [.int x5]) (rest := [.ref 125]) (r1 := (some (.int v26))) (b := 124) dX12_stayOf_91 ok_X12_stayAt in_X12_stayAt se_X12_stayAt ml_X12_593 hD23 rfl rfl (Nat.le_of_ble_eq_true rfl) (sk_124 hs) (sn hs (by decide)) (by decide) rfl (by decide +kernel) hC24 ?_
      obtain ⟨g27, h⟩ := h
      refine E_iald2 (v26.toNatClampNeg) dX12_stayOf_94 (sk_125 hs25) (sn hs25 (by decide)) g27 rfl ?_
      refine E_aload_n 1 dX12_stayOf_95 rfl rfl ?_
      refine E_getR 125 dX12_stayOf_96 fl_X12_8 rfl (sk_124 hs25) (sn hs25 (by decide)) (sr_124_2 hs25) ?_
      refine E_aload_n 1 dX12_stayOf_99 rfl rfl ?_
      refine E_iload 5 dX12_stayOf_100 rfl ?_
      obtain ⟨d28, v33, σ29, hD30, hC31, h⟩ := h
      have hs32 := hC31.1.2.2.2.1 hs25
      refine E_callV (As := [.int x4]) (rest := [.ref 125, .int (gI σ22 125 v26.toNatClampNeg)]) (r1 := (some (.int v33))) (b := 124) dX12_stayOf_102 ok_X12_stayAt in_X12_stayAt se_X12_stayAt ml_X12_593 hD30 rfl rfl (Nat.le_of_ble_eq_true rfl) (sk_124 hs25) (sn hs25 (by decide)) (by decide) rfl (by decide +kernel) hC31 ?_
      obtain ⟨g34, h⟩ := h
      refine E_iald2 (v33.toNatClampNeg) dX12_stayOf_105 (sk_125 hs32) (sn hs32 (by decide)) g34 rfl ?_
      refine E_icmp_ge 114 dX12_stayOf_106 (by decide) (fun c => ?_) (fun c => ?_)
      · rw [if_pos c] at h
        exact E_lv [1, 2, 3, 4, 5, 6] rfl (w_X12_stayOf_114 hs32 h)
      · rw [if_neg c] at h
        exact E_lv [1, 2, 3, 4, 6] rfl (w_X12_stayOf_109 hs32 h)
def W_X12_stayOf_67 (X : Sx) (l : Launch) (D : Nat) (x1 : Int32) (x2 : Int32) (x3 : Int32) (x4 : Int32) (x5 : Int32) (σ : AH) (r : Option Value) (σ' : AH) : Prop := W_X12_stayOf_72 X l D x1 x2 x3 x4 x5 (1 : Int32) σ r σ'
set_option maxRecDepth 100000 in
theorem w_X12_stayOf_67 {X : Sx} {l : Launch} {D : Nat} {x1 : Int32} {x2 : Int32} {x3 : Int32} {x4 : Int32} {x5 : Int32} {σ : AH} {r : Option Value} {σ' : AH} (hs : Sh σ) (h : W_X12_stayOf_67 X l D x1 x2 x3 x4 x5 σ r σ') : E X l m_X12_stayOf D 67 [(0, .ref 124), (1, .int x1), (2, .int x2), (3, .int x3), (4, .int x4), (5, .int x5)] [] σ r σ' := by
  unfold W_X12_stayOf_67 at h
  refine E_iconst (1 : Int32) dX12_stayOf_67 (by decide) ?_
  refine E_goto 72 dX12_stayOf_68 (by decide) ?_
  exact E_lv [0, 1, 2, 3, 4, 5] rfl (w_X12_stayOf_72 hs h)
def W_X12_stayOf_71 (X : Sx) (l : Launch) (D : Nat) (x1 : Int32) (x2 : Int32) (x3 : Int32) (x4 : Int32) (x5 : Int32) (σ : AH) (r : Option Value) (σ' : AH) : Prop := W_X12_stayOf_72 X l D x1 x2 x3 x4 x5 (0 : Int32) σ r σ'
set_option maxRecDepth 100000 in
theorem w_X12_stayOf_71 {X : Sx} {l : Launch} {D : Nat} {x1 : Int32} {x2 : Int32} {x3 : Int32} {x4 : Int32} {x5 : Int32} {σ : AH} {r : Option Value} {σ' : AH} (hs : Sh σ) (h : W_X12_stayOf_71 X l D x1 x2 x3 x4 x5 σ r σ') : E X l m_X12_stayOf D 71 [(0, .ref 124), (1, .int x1), (2, .int x2), (3, .int x3), (4, .int x4), (5, .int x5)] [] σ r σ' := by
  unfold W_X12_stayOf_71 at h
  refine E_iconst (0 : Int32) dX12_stayOf_71 (by decide) ?_
  exact E_lv [0, 1, 2, 3, 4, 5] rfl (w_X12_stayOf_72 hs h)
def W_X12_stayOf_6 (X : Sx) (l : Launch) (D : Nat) (x1 : Int32) (x2 : Int32) (x3 : Int32) (x4 : Int32) (x5 : Int32) (σ : AH) (r : Option Value) (σ' : AH) : Prop := (if (gI σ 125 7) ≤ x5 then (r = some (.int x4) ∧ σ' = σ) else ∃ d1 : Nat, ∃ v6 : Int32, ∃ σ2 : AH, d1 + 1 ≤ D ∧ Call X l m_X12_stayAt d1 [.ref 124, .int x5] σ (some (.int v6)) σ2 ∧ vp_in (v6 + (1 : Int32)) 269832 ∧ vp_in (gI σ2 125 (v6 + (1 : Int32)).toNatClampNeg) 60 ∧ (if (gI σ2 160 (gI σ2 125 (v6 + (1 : Int32)).toNatClampNeg).toNatClampNeg) = x1 then (if x3 = 0 then ∃ d9 : Nat, ∃ v14 : Int32, ∃ σ10 : AH, d9 + 1 ≤ D ∧ Call X l m_X12_squatsIn d9 [.ref 124, .int x5, .int x2] σ2 (some (.int v14)) σ10 ∧ (if v14 = 0 then W_X12_stayOf_71 X l D x1 x2 x3 x4 x5 σ10 r σ' else W_X12_stayOf_67 X l D x1 x2 x3 x4 x5 σ10 r σ') else ∃ d15 : Nat, ∃ v20 : Int32, ∃ σ16 : AH, d15 + 1 ≤ D ∧ Call X l m_X12_livesIn d15 [.ref 124, .int x5, .int x2] σ2 (some (.int v20)) σ16 ∧ (if v20 = 0 then W_X12_stayOf_71 X l D x1 x2 x3 x4 x5 σ16 r σ' else W_X12_stayOf_67 X l D x1 x2 x3 x4 x5 σ16 r σ')) else W_X12_stayOf_71 X l D x1 x2 x3 x4 x5 σ2 r σ'))
set_option maxRecDepth 100000 in
theorem w_X12_stayOf_6 {X : Sx} {l : Launch} {D : Nat} {x1 : Int32} {x2 : Int32} {x3 : Int32} {x4 : Int32} {x5 : Int32} {σ : AH} {r : Option Value} {σ' : AH} (hs : Sh σ) (h : W_X12_stayOf_6 X l D x1 x2 x3 x4 x5 σ r σ') : E X l m_X12_stayOf D 6 [(0, .ref 124), (1, .int x1), (2, .int x2), (3, .int x3), (4, .int x4), (5, .int x5)] [] σ r σ' := by
  unfold W_X12_stayOf_6 at h
  refine E_iload 5 dX12_stayOf_6 rfl ?_
  refine E_aload_n 0 dX12_stayOf_8 rfl rfl ?_
  refine E_getR 125 dX12_stayOf_9 fl_X12_8 rfl (sk_124 hs) (sn hs (by decide)) (sr_124_2 hs) ?_
  refine E_bipush (7 : Int32) dX12_stayOf_12 (by decide) ?_
  refine E_iald2 7 dX12_stayOf_14 (sk_125 hs) (sn hs (by decide)) (vp_lit (by decide)) (by decide) ?_
  refine E_icmp_ge 124 dX12_stayOf_15 (by decide) (fun c => ?_) (fun c => ?_)
  · rw [if_pos c] at h
    refine E_iload 4 dX12_stayOf_124 rfl ?_
    obtain ⟨rfl, rfl⟩ := h
    exact E_iret dX12_stayOf_126 rfl
  · rw [if_neg c] at h
    refine E_aload_n 0 dX12_stayOf_18 rfl rfl ?_
    refine E_getR 160 dX12_stayOf_19 fl_X12_127 rfl (sk_124 hs) (sn hs (by decide)) (sr_124_62 hs) ?_
    refine E_aload_n 0 dX12_stayOf_22 rfl rfl ?_
    refine E_getR 125 dX12_stayOf_23 fl_X12_8 rfl (sk_124 hs) (sn hs (by decide)) (sr_124_2 hs) ?_
    refine E_aload_n 0 dX12_stayOf_26 rfl rfl ?_
    refine E_iload 5 dX12_stayOf_27 rfl ?_
    obtain ⟨d1, v6, σ2, hD3, hC4, h⟩ := h
    have hs5 := hC4.1.2.2.2.1 hs
    refine E_callV (As := [.int x5]) (rest := [.ref 125, .ref 160]) (r1 := (some (.int v6))) (b := 124) dX12_stayOf_29 ok_X12_stayAt in_X12_stayAt se_X12_stayAt ml_X12_593 hD3 rfl rfl (Nat.le_of_ble_eq_true rfl) (sk_124 hs) (sn hs (by decide)) (by decide) rfl (by decide +kernel) hC4 ?_
    refine E_iconst (1 : Int32) dX12_stayOf_32 (by decide) ?_
    refine E_iadd dX12_stayOf_33 ?_
    obtain ⟨g7, h⟩ := h
    refine E_iald2 ((v6 + (1 : Int32)).toNatClampNeg) dX12_stayOf_34 (sk_125 hs5) (sn hs5 (by decide)) g7 rfl ?_
    obtain ⟨g8, h⟩ := h
    refine E_iald2 ((gI σ2 125 (v6 + (1 : Int32)).toNatClampNeg).toNatClampNeg) dX12_stayOf_35 (sk_160 hs5) (sn hs5 (by decide)) g8 rfl ?_
    refine E_iload_n 1 dX12_stayOf_36 rfl rfl ?_
    refine E_icmp_ne 71 dX12_stayOf_37 (by decide) (fun c => ?_) (fun c => ?_)
    · rw [if_neg c] at h
      exact E_lv [0, 1, 2, 3, 4, 5] rfl (w_X12_stayOf_71 hs5 h)
    · rw [if_pos c] at h
      refine E_iload_n 3 dX12_stayOf_40 rfl rfl ?_
      refine E_if_eq 57 dX12_stayOf_41 (by decide) (fun c => ?_) (fun c => ?_)
      · rw [if_pos c] at h
        refine E_aload_n 0 dX12_stayOf_57 rfl rfl ?_
        refine E_iload 5 dX12_stayOf_58 rfl ?_
        refine E_iload_n 2 dX12_stayOf_60 rfl rfl ?_
        obtain ⟨d9, v14, σ10, hD11, hC12, h⟩ := h
        have hs13 := hC12.1.2.2.2.1 hs5
        refine E_callV (As := [.int x5, .int x2]) (rest := []) (r1 := (some (.int v14))) (b := 124) dX12_stayOf_61 ok_X12_squatsIn in_X12_squatsIn se_X12_squatsIn ml_X12_599 hD11 rfl rfl (Nat.le_of_ble_eq_true rfl) (sk_124 hs5) (sn hs5 (by decide)) (by decide) rfl (by decide +kernel) hC12 ?_
        refine E_if_eq 71 dX12_stayOf_64 (by decide) (fun c => ?_) (fun c => ?_)
        · rw [if_pos c] at h
          exact E_lv [0, 1, 2, 3, 4, 5] rfl (w_X12_stayOf_71 hs13 h)
        · rw [if_neg c] at h
          exact E_lv [0, 1, 2, 3, 4, 5] rfl (w_X12_stayOf_67 hs13 h)
      · rw [if_neg c] at h
        refine E_aload_n 0 dX12_stayOf_44 rfl rfl ?_
        refine E_iload 5 dX12_stayOf_45 rfl ?_
        refine E_iload_n 2 dX12_stayOf_47 rfl rfl ?_
        obtain ⟨d15, v20, σ16, hD17, hC18, h⟩ := h
        have hs19 := hC18.1.2.2.2.1 hs5
        refine E_callV (As := [.int x5, .int x2]) (rest := []) (r1 := (some (.int v20))) (b := 124) dX12_stayOf_48 ok_X12_livesIn in_X12_livesIn se_X12_livesIn ml_X12_596 hD17 rfl rfl (Nat.le_of_ble_eq_true rfl) (sk_124 hs5) (sn hs5 (by decide)) (by decide) rfl (by decide +kernel) hC18 ?_
        refine E_if_eq 71 dX12_stayOf_51 (by decide) (fun c => ?_) (fun c => ?_)
        · rw [if_pos c] at h
          exact E_lv [0, 1, 2, 3, 4, 5] rfl (w_X12_stayOf_71 hs19 h)
        · rw [if_neg c] at h
          refine E_goto 67 dX12_stayOf_54 (by decide) ?_
          exact E_lv [0, 1, 2, 3, 4, 5] rfl (w_X12_stayOf_67 hs19 h)
def W_X12_addStay_0 (X : Sx) (l : Launch) (D : Nat) (x1 : Int32) (x2 : Int32) (x3 : Int32) (x4 : Int32) (x5 : Int32) (x6 : Int32) (σ : AH) (r : Option Value) (σ' : AH) : Prop := ∃ d1 : Nat, ∃ v6 : Int32, ∃ σ2 : AH, d1 + 1 ≤ D ∧ Call X l m_X12_stayAt d1 [.ref 124, .int (gI σ 125 7)] σ (some (.int v6)) σ2 ∧ ∃ d7 : Nat, ∃ σ8 : AH, d7 + 1 ≤ D ∧ Call X l m_X12_addFour d7 [.ref 124, .int v6, .int x1, .int x2, .int x3, .int x4] σ2 none σ8 ∧ vp_in x1 30 ∧ ∃ d13 : Nat, ∃ σ14 : AH, d13 + 1 ≤ D ∧ Call X l m_X12_addFour d13 [.ref 124, .int (v6 + (4 : Int32)), .int (gI σ8 165 x1.toNatClampNeg), .int (1000000 : Int32), .int x5, .int x6] σ8 none σ14 ∧ (r = none ∧ σ' = (sI σ14 125 7 ((gI σ14 125 7) + (1 : Int32))))
set_option maxRecDepth 100000 in
theorem w_X12_addStay_0 {X : Sx} {l : Launch} {D : Nat} {x1 : Int32} {x2 : Int32} {x3 : Int32} {x4 : Int32} {x5 : Int32} {x6 : Int32} {σ : AH} {r : Option Value} {σ' : AH} (hs : Sh σ) (h : W_X12_addStay_0 X l D x1 x2 x3 x4 x5 x6 σ r σ') : E X l m_X12_addStay D 0 [(0, .ref 124), (1, .int x1), (2, .int x2), (3, .int x3), (4, .int x4), (5, .int x5), (6, .int x6)] [] σ r σ' := by
  unfold W_X12_addStay_0 at h
  refine E_aload_n 0 dX12_addStay_0 rfl rfl ?_
  refine E_aload_n 0 dX12_addStay_1 rfl rfl ?_
  refine E_getR 125 dX12_addStay_2 fl_X12_8 rfl (sk_124 hs) (sn hs (by decide)) (sr_124_2 hs) ?_
  refine E_bipush (7 : Int32) dX12_addStay_5 (by decide) ?_
  refine E_iald2 7 dX12_addStay_7 (sk_125 hs) (sn hs (by decide)) (vp_lit (by decide)) (by decide) ?_
  obtain ⟨d1, v6, σ2, hD3, hC4, h⟩ := h
  have hs5 := hC4.1.2.2.2.1 hs
  refine E_callV (As := [.int (gI σ 125 7)]) (rest := []) (r1 := (some (.int v6))) (b := 124) dX12_addStay_8 ok_X12_stayAt in_X12_stayAt se_X12_stayAt ml_X12_593 hD3 rfl rfl (Nat.le_of_ble_eq_true rfl) (sk_124 hs) (sn hs (by decide)) (by decide) rfl (by decide +kernel) hC4 ?_
  refine E_istore [(7, .int v6), (0, .ref 124), (1, .int x1), (2, .int x2), (3, .int x3), (4, .int x4), (5, .int x5), (6, .int x6)] dX12_addStay_11 (by decide) rfl ?_
  refine E_aload_n 1 dX12_addStay_13 rfl rfl ?_
  refine E_iload 0 dX12_addStay_14 rfl ?_
  refine E_iload_n 2 dX12_addStay_16 rfl rfl ?_
  refine E_iload_n 3 dX12_addStay_17 rfl rfl ?_
  refine E_iload_n 4 dX12_addStay_18 rfl rfl ?_
  refine E_iload 5 dX12_addStay_19 rfl ?_
  obtain ⟨d7, σ8, hD9, hC10, h⟩ := h
  have hs11 := hC10.1.2.2.2.1 hs5
  refine E_callV (As := [.int v6, .int x1, .int x2, .int x3, .int x4]) (rest := []) (r1 := none) (b := 124) dX12_addStay_21 ok_X12_addFour in_X12_addFour se_X12_addFour ml_X12_458 hD9 rfl rfl (Nat.le_of_ble_eq_true rfl) (sk_124 hs5) (sn hs5 (by decide)) (by decide) rfl (by decide +kernel) hC10 ?_
  refine E_aload_n 1 dX12_addStay_24 rfl rfl ?_
  refine E_iload 0 dX12_addStay_25 rfl ?_
  refine E_iconst (4 : Int32) dX12_addStay_27 (by decide) ?_
  refine E_iadd dX12_addStay_28 ?_
  refine E_aload_n 1 dX12_addStay_29 rfl rfl ?_
  refine E_getR 165 dX12_addStay_30 fl_X12_142 rfl (sk_124 hs11) (sn hs11 (by decide)) (sr_124_68 hs11) ?_
  refine E_iload_n 2 dX12_addStay_33 rfl rfl ?_
  obtain ⟨g12, h⟩ := h
  refine E_iald2 (x1.toNatClampNeg) dX12_addStay_34 (sk_165 hs11) (sn hs11 (by decide)) g12 rfl ?_
  refine E_ldcw (1000000 : Int32) dX12_addStay_35 ct_X12_592 ?_
  refine E_iload 6 dX12_addStay_38 rfl ?_
  refine E_iload 7 dX12_addStay_40 rfl ?_
  obtain ⟨d13, σ14, hD15, hC16, h⟩ := h
  have hs17 := hC16.1.2.2.2.1 hs11
  refine E_callV (As := [.int (v6 + (4 : Int32)), .int (gI σ8 165 x1.toNatClampNeg), .int (1000000 : Int32), .int x5, .int x6]) (rest := []) (r1 := none) (b := 124) dX12_addStay_42 ok_X12_addFour in_X12_addFour se_X12_addFour ml_X12_458 hD15 rfl rfl (Nat.le_of_ble_eq_true rfl) (sk_124 hs11) (sn hs11 (by decide)) (by decide) rfl (by decide +kernel) hC16 ?_
  refine E_aload_n 1 dX12_addStay_45 rfl rfl ?_
  refine E_getR 125 dX12_addStay_46 fl_X12_8 rfl (sk_124 hs17) (sn hs17 (by decide)) (sr_124_2 hs17) ?_
  refine E_bipush (7 : Int32) dX12_addStay_49 (by decide) ?_
  refine E_dup2 dX12_addStay_51 rfl rfl ?_
  refine E_iald2 7 dX12_addStay_52 (sk_125 hs17) (sn hs17 (by decide)) (vp_lit (by decide)) (by decide) ?_
  refine E_iconst (1 : Int32) dX12_addStay_53 (by decide) ?_
  refine E_iadd dX12_addStay_54 ?_
  refine E_iast2 7 dX12_addStay_55 (sk_125 hs17) (sn hs17 (by decide)) (Or.inl (by decide)) (vp_lit (by decide)) (by decide) ?_
  obtain ⟨rfl, rfl⟩ := h
  exact E_vret dX12_addStay_56 rfl
def W_X12_whom_0 (X : Sx) (l : Launch) (D : Nat) (x1 : Int32) (x2 : Int32) (σ : AH) (r : Option Value) (σ' : AH) : Prop := ∃ d1 : Nat, ∃ v6 : Int32, ∃ σ2 : AH, d1 + 1 ≤ D ∧ Call X l m_X12_councilOf d1 [.ref 124, .int x1] σ (some (.int v6)) σ2 ∧ ∃ d7 : Nat, ∃ σ8 : AH, d7 + 1 ≤ D ∧ Call X l m_X12_findList d7 [.ref 124, .int v6, .int x2] σ2 none σ8 ∧ E X l m_X12_whom D 12 [(0, .ref 124), (1, .int x1), (2, .int x2), (3, .int (0 : Int32))] [] σ8 r σ'
set_option maxRecDepth 100000 in
theorem w_X12_whom_0 {X : Sx} {l : Launch} {D : Nat} {x1 : Int32} {x2 : Int32} {σ : AH} {r : Option Value} {σ' : AH} (hs : Sh σ) (h : W_X12_whom_0 X l D x1 x2 σ r σ') : E X l m_X12_whom D 0 [(0, .ref 124), (1, .int x1), (2, .int x2)] [] σ r σ' := by
  unfold W_X12_whom_0 at h
  refine E_aload_n 0 dX12_whom_0 rfl rfl ?_
  refine E_aload_n 0 dX12_whom_1 rfl rfl ?_
  refine E_iload_n 1 dX12_whom_2 rfl rfl ?_
  obtain ⟨d1, v6, σ2, hD3, hC4, h⟩ := h
  have hs5 := hC4.1.2.2.2.1 hs
  refine E_callV (As := [.int x1]) (rest := [.ref 124]) (r1 := (some (.int v6))) (b := 124) dX12_whom_3 ok_X12_councilOf in_X12_councilOf se_X12_councilOf ml_X12_474 hD3 rfl rfl (Nat.le_of_ble_eq_true rfl) (sk_124 hs) (sn hs (by decide)) (by decide) rfl (by decide +kernel) hC4 ?_
  refine E_iload_n 2 dX12_whom_6 rfl rfl ?_
  obtain ⟨d7, σ8, hD9, hC10, h⟩ := h
  have hs11 := hC10.1.2.2.2.1 hs5
  refine E_callV (As := [.int v6, .int x2]) (rest := []) (r1 := none) (b := 124) dX12_whom_7 ok_X12_findList in_X12_findList se_X12_findList ml_X12_589 hD9 rfl rfl (Nat.le_of_ble_eq_true rfl) (sk_124 hs5) (sn hs5 (by decide)) (by decide) rfl (by decide +kernel) hC10 ?_
  refine E_iconst (0 : Int32) dX12_whom_10 (by decide) ?_
  refine E_istore_n [(3, .int (0 : Int32)), (0, .ref 124), (1, .int x1), (2, .int x2)] dX12_whom_11 rfl (by decide) rfl ?_
  exact E_lv [1, 2, 3, 0] rfl h
def W_X12_whom_104 (X : Sx) (l : Launch) (D : Nat) (x1 : Int32) (x2 : Int32) (x3 : Int32) (σ : AH) (r : Option Value) (σ' : AH) : Prop := E X l m_X12_whom D 12 [(0, .ref 124), (1, .int x1), (2, .int x2), (3, .int (x3 + 1))] [] σ r σ'
set_option maxRecDepth 100000 in
theorem w_X12_whom_104 {X : Sx} {l : Launch} {D : Nat} {x1 : Int32} {x2 : Int32} {x3 : Int32} {σ : AH} {r : Option Value} {σ' : AH} (hs : Sh σ) (h : W_X12_whom_104 X l D x1 x2 x3 σ r σ') : E X l m_X12_whom D 104 [(0, .ref 124), (1, .int x1), (2, .int x2), (3, .int x3)] [] σ r σ' := by
  unfold W_X12_whom_104 at h
  refine E_iinc 3 (x3 + 1) [(3, .int (x3 + 1)), (0, .ref 124), (1, .int x1), (2, .int x2)] dX12_whom_104 rfl (congrArg (x3 + ·) (by decide : Int32.ofInt 1 = 1)) (by decide) rfl ?_
  refine E_goto 12 dX12_whom_107 (by decide) ?_
  exact E_lv [1, 2, 3, 0] rfl h
def W_X12_whom_77 (X : Sx) (l : Launch) (D : Nat) (x1 : Int32) (x2 : Int32) (x3 : Int32) (x4 : Int32) (y0 : Int32) (σ : AH) (r : Option Value) (σ' : AH) : Prop := (if y0 = 0 then W_X12_whom_104 X l D x1 x2 x3 σ r σ' else ∃ d39 : Nat, ∃ v44 : Int32, ∃ σ40 : AH, d39 + 1 ≤ D ∧ Call X l m_X12_entryAt d39 [.ref 124, .int x4, .int (2 : Int32)] σ (some (.int v44)) σ40 ∧ ∃ d45 : Nat, ∃ v50 : Int32, ∃ σ46 : AH, d45 + 1 ≤ D ∧ Call X l m_X12_roomsOf d45 [.ref 124, .int x1] σ40 (some (.int v50)) σ46 ∧ (if ((2 : Int32) * v50) < v44 then W_X12_whom_104 X l D x1 x2 x3 σ46 r σ' else (r = some (.int x4) ∧ σ' = σ46)))
set_option maxRecDepth 100000 in
theorem w_X12_whom_77 {X : Sx} {l : Launch} {D : Nat} {x1 : Int32} {x2 : Int32} {x3 : Int32} {x4 : Int32} {y0 : Int32} {σ : AH} {r : Option Value} {σ' : AH} (hs : Sh σ) (h : W_X12_whom_77 X l D x1 x2 x3 x4 y0 σ r σ') : E X l m_X12_whom D 77 [(0, .ref 124), (1, .int x1), (2, .int x2), (3, .int x3), (4, .int x4)] [.int y0] σ r σ' := by
  unfold W_X12_whom_77 at h
  refine E_istore [(6, .int y0), (0, .ref 124), (1, .int x1), (2, .int x2), (3, .int x3), (4, .int x4)] dX12_whom_77 (by decide) rfl ?_
  refine E_iload 0 dX12_whom_79 rfl ?_
  refine E_if_eq 104 dX12_whom_81 (by decide) (fun c => ?_) (fun c => ?_)
  · rw [if_pos c] at h
    exact E_lv [1, 2, 3, 4] rfl (w_X12_whom_104 hs h)
  · rw [if_neg c] at h
    refine E_aload_n 1 dX12_whom_84 rfl rfl ?_
    refine E_iload 5 dX12_whom_85 rfl ?_
    refine E_iconst (2 : Int32) dX12_whom_87 (by decide) ?_
    obtain ⟨d39, v44, σ40, hD41, hC42, h⟩ := h
    have hs43 := hC42.1.2.2.2.1 hs
    refine E_callV (As := [.int x4, .int (2 : Int32)]) (rest := []) (r1 := (some (.int v44))) (b := 124) dX12_whom_88 ok_X12_entryAt in_X12_entryAt se_X12_entryAt ml_X12_562 hD41 rfl rfl (Nat.le_of_ble_eq_true rfl) (sk_124 hs) (sn hs (by decide)) (by decide) rfl (by decide +kernel) hC42 ?_
    refine E_iconst (2 : Int32) dX12_whom_91 (by decide) ?_
    refine E_aload_n 1 dX12_whom_92 rfl rfl ?_
    refine E_iload_n 2 dX12_whom_93 rfl rfl ?_
    obtain ⟨d45, v50, σ46, hD47, hC48, h⟩ := h
    have hs49 := hC48.1.2.2.2.1 hs43
    refine E_callV (As := [.int x1]) (rest := [.int (2 : Int32), .int v44]) (r1 := (some (.int v50))) (b := 124) dX12_whom_94 ok_X12_roomsOf in_X12_roomsOf se_X12_roomsOf ml_X12_504 hD47 rfl rfl (Nat.le_of_ble_eq_true rfl) (sk_124 hs43) (sn hs43 (by decide)) (by decide) rfl (by decide +kernel) hC48 ?_
    refine E_imul dX12_whom_97 ?_
    refine E_icmp_gt 104 dX12_whom_98 (by decide) (fun c => ?_) (fun c => ?_)
    · rw [if_pos c] at h
      exact E_lv [1, 2, 3, 4] rfl (w_X12_whom_104 hs49 h)
    · rw [if_neg c] at h
      refine E_iload 5 dX12_whom_101 rfl ?_
      obtain ⟨rfl, rfl⟩ := h
      exact E_iret dX12_whom_103 rfl
def W_X12_whom_72 (X : Sx) (l : Launch) (D : Nat) (x1 : Int32) (x2 : Int32) (x3 : Int32) (x4 : Int32) (σ : AH) (r : Option Value) (σ' : AH) : Prop := W_X12_whom_77 X l D x1 x2 x3 x4 (1 : Int32) σ r σ'
set_option maxRecDepth 100000 in
theorem w_X12_whom_72 {X : Sx} {l : Launch} {D : Nat} {x1 : Int32} {x2 : Int32} {x3 : Int32} {x4 : Int32} {σ : AH} {r : Option Value} {σ' : AH} (hs : Sh σ) (h : W_X12_whom_72 X l D x1 x2 x3 x4 σ r σ') : E X l m_X12_whom D 72 [(0, .ref 124), (1, .int x1), (2, .int x2), (3, .int x3), (4, .int x4)] [] σ r σ' := by
  unfold W_X12_whom_72 at h
  refine E_iconst (1 : Int32) dX12_whom_72 (by decide) ?_
  refine E_goto 77 dX12_whom_73 (by decide) ?_
  exact E_lv [0, 1, 2, 3, 4] rfl (w_X12_whom_77 hs h)
def W_X12_whom_12 (X : Sx) (l : Launch) (D : Nat) (x1 : Int32) (x2 : Int32) (x3 : Int32) (σ : AH) (r : Option Value) (σ' : AH) : Prop := (if (gI σ 124 65) ≤ x3 then (r = some (.int (-1 : Int32)) ∧ σ' = σ) else vp_in x3 60 ∧ vp_in (gI σ 162 x3.toNatClampNeg) 60 ∧ ∃ d14 : Nat, ∃ v19 : Int32, ∃ σ15 : AH, d14 + 1 ≤ D ∧ Call X l m_X12_stayOf d14 [.ref 124, .int (gI σ 160 (gI σ 162 x3.toNatClampNeg).toNatClampNeg), .int x2, .int (1 : Int32)] σ (some (.int v19)) σ15 ∧ (if v19 = (-1 : Int32) then W_X12_whom_72 X l D x1 x2 x3 (gI σ 162 x3.toNatClampNeg) σ15 r σ' else ∃ d20 : Nat, ∃ v25 : Int32, ∃ σ21 : AH, d20 + 1 ≤ D ∧ Call X l m_X12_stayAt d20 [.ref 124, .int v19] σ15 (some (.int v25)) σ21 ∧ vp_in v25 269832 ∧ ∃ d27 : Nat, ∃ v32 : Int32, ∃ σ28 : AH, d27 + 1 ≤ D ∧ Call X l m_X12_roomsOf d27 [.ref 124, .int (gI σ21 125 v25.toNatClampNeg)] σ21 (some (.int v32)) σ28 ∧ ∃ d33 : Nat, ∃ v38 : Int32, ∃ σ34 : AH, d33 + 1 ≤ D ∧ Call X l m_X12_roomsOf d33 [.ref 124, .int x1] σ28 (some (.int v38)) σ34 ∧ (if v38 ≤ v32 then W_X12_whom_77 X l D x1 x2 x3 (gI σ 162 x3.toNatClampNeg) (0 : Int32) σ34 r σ' else W_X12_whom_72 X l D x1 x2 x3 (gI σ 162 x3.toNatClampNeg) σ34 r σ')))
set_option maxRecDepth 100000 in
theorem w_X12_whom_12 {X : Sx} {l : Launch} {D : Nat} {x1 : Int32} {x2 : Int32} {x3 : Int32} {σ : AH} {r : Option Value} {σ' : AH} (hs : Sh σ) (h : W_X12_whom_12 X l D x1 x2 x3 σ r σ') : E X l m_X12_whom D 12 [(0, .ref 124), (1, .int x1), (2, .int x2), (3, .int x3)] [] σ r σ' := by
  unfold W_X12_whom_12 at h
  refine E_iload_n 3 dX12_whom_12 rfl rfl ?_
  refine E_aload_n 0 dX12_whom_13 rfl rfl ?_
  refine E_getI dX12_whom_14 fl_X12_583 rfl (sk_124 hs) (sn hs (by decide)) ?_
  refine E_icmp_ge 110 dX12_whom_17 (by decide) (fun c => ?_) (fun c => ?_)
  · rw [if_pos c] at h
    refine E_iconst (-1 : Int32) dX12_whom_110 (by decide) ?_
    obtain ⟨rfl, rfl⟩ := h
    exact E_iret dX12_whom_111 rfl
  · rw [if_neg c] at h
    refine E_aload_n 0 dX12_whom_20 rfl rfl ?_
    refine E_getR 162 dX12_whom_21 fl_X12_133 rfl (sk_124 hs) (sn hs (by decide)) (sr_124_64 hs) ?_
    refine E_iload_n 3 dX12_whom_24 rfl rfl ?_
    obtain ⟨g12, h⟩ := h
    refine E_iald2 (x3.toNatClampNeg) dX12_whom_25 (sk_162 hs) (sn hs (by decide)) g12 rfl ?_
    refine E_istore [(4, .int (gI σ 162 x3.toNatClampNeg)), (0, .ref 124), (1, .int x1), (2, .int x2), (3, .int x3)] dX12_whom_26 (by decide) rfl ?_
    refine E_aload_n 1 dX12_whom_28 rfl rfl ?_
    refine E_aload_n 1 dX12_whom_29 rfl rfl ?_
    refine E_getR 160 dX12_whom_30 fl_X12_127 rfl (sk_124 hs) (sn hs (by decide)) (sr_124_62 hs) ?_
    refine E_iload 0 dX12_whom_33 rfl ?_
    obtain ⟨g13, h⟩ := h
    refine E_iald2 ((gI σ 162 x3.toNatClampNeg).toNatClampNeg) dX12_whom_35 (sk_160 hs) (sn hs (by decide)) g13 rfl ?_
    refine E_iload_n 3 dX12_whom_36 rfl rfl ?_
    refine E_iconst (1 : Int32) dX12_whom_37 (by decide) ?_
    obtain ⟨d14, v19, σ15, hD16, hC17, h⟩ := h
    have hs18 := hC17.1.2.2.2.1 hs
    refine E_callV (As := [.int (gI σ 160 (gI σ 162 x3.toNatClampNeg).toNatClampNeg), .int x2, .int (1 : Int32)]) (rest := []) (r1 := (some (.int v19))) (b := 124) dX12_whom_38 ok_X12_stayOf in_X12_stayOf se_X12_stayOf ml_X12_605 hD16 rfl rfl (Nat.le_of_ble_eq_true rfl) (sk_124 hs) (sn hs (by decide)) (by decide) rfl (by decide +kernel) hC17 ?_
    refine E_istore [(5, .int v19), (4, .int (gI σ 162 x3.toNatClampNeg)), (0, .ref 124), (1, .int x1), (2, .int x2), (3, .int x3)] dX12_whom_41 (by decide) rfl ?_
    refine E_iload 0 dX12_whom_43 rfl ?_
    refine E_iconst (-1 : Int32) dX12_whom_45 (by decide) ?_
    refine E_icmp_eq 72 dX12_whom_46 (by decide) (fun c => ?_) (fun c => ?_)
    · rw [if_pos c] at h
      exact E_lv [2, 3, 4, 5, 1] rfl (w_X12_whom_72 hs18 h)
    · rw [if_neg c] at h
      refine E_aload_n 2 dX12_whom_49 rfl rfl ?_
      refine E_aload_n 2 dX12_whom_50 rfl rfl ?_
      refine E_getR 125 dX12_whom_51 fl_X12_8 rfl (sk_124 hs18) (sn hs18 (by decide)) (sr_124_2 hs18) ?_
      refine E_aload_n 2 dX12_whom_54 rfl rfl ?_
      refine E_iload 0 dX12_whom_55 rfl ?_
      obtain ⟨d20, v25, σ21, hD22, hC23, h⟩ := h
      have hs24 := hC23.1.2.2.2.1 hs18
      refine E_callV (As := [.int v19]) (rest := [.ref 125, .ref 124]) (r1 := (some (.int v25))) (b := 124) dX12_whom_57 ok_X12_stayAt in_X12_stayAt se_X12_stayAt ml_X12_593 hD22 rfl rfl (Nat.le_of_ble_eq_true rfl) (sk_124 hs18) (sn hs18 (by decide)) (by decide) rfl (by decide +kernel) hC23 ?_
      obtain ⟨g26, h⟩ := h
      refine E_iald2 (v25.toNatClampNeg) dX12_whom_60 (sk_125 hs24) (sn hs24 (by decide)) g26 rfl ?_
      obtain ⟨d27, v32, σ28, hD29, hC30, h⟩ := h
      have hs31 := hC30.1.2.2.2.1 hs24
      refine E_callV (As := [.int (gI σ21 125 v25.toNatClampNeg)]) (rest := []) (r1 := (some (.int v32))) (b := 124) dX12_whom_61 ok_X12_roomsOf in_X12_roomsOf se_X12_roomsOf ml_X12_504 hD29 rfl rfl (Nat.le_of_ble_eq_true rfl) (sk_124 hs24) (sn hs24 (by decide)) (by decide) rfl (by decide +kernel) hC30 ?_
      refine E_aload_n 2 dX12_whom_64 rfl rfl ?_
      refine E_iload_n 3 dX12_whom_65 rfl rfl ?_
      obtain ⟨d33, v38, σ34, hD35, hC36, h⟩ := h
      have hs37 := hC36.1.2.2.2.1 hs31
      refine E_callV (As := [.int x1]) (rest := [.int v32]) (r1 := (some (.int v38))) (b := 124) dX12_whom_66 ok_X12_roomsOf in_X12_roomsOf se_X12_roomsOf ml_X12_504 hD35 rfl rfl (Nat.le_of_ble_eq_true rfl) (sk_124 hs31) (sn hs31 (by decide)) (by decide) rfl (by decide +kernel) hC36 ?_
      refine E_icmp_ge 76 dX12_whom_69 (by decide) (fun c => ?_) (fun c => ?_)
      · rw [if_pos c] at h
        refine E_iconst (0 : Int32) dX12_whom_76 (by decide) ?_
        exact E_lv [2, 3, 4, 5, 1] rfl (w_X12_whom_77 hs37 h)
      · rw [if_neg c] at h
        exact E_lv [2, 3, 4, 5, 1] rfl (w_X12_whom_72 hs37 h)
def W_X12_offerOne_0 (X : Sx) (l : Launch) (D : Nat) (x1 : Int32) (x2 : Int32) (σ : AH) (r : Option Value) (σ' : AH) : Prop := E X l m_X12_offerOne D 5 [(0, .ref 124), (2, .int x2), (3, .int x1), (4, .int (0 : Int32))] [] σ r σ'
set_option maxRecDepth 100000 in
theorem w_X12_offerOne_0 {X : Sx} {l : Launch} {D : Nat} {x1 : Int32} {x2 : Int32} {σ : AH} {r : Option Value} {σ' : AH} (hs : Sh σ) (h : W_X12_offerOne_0 X l D x1 x2 σ r σ') : E X l m_X12_offerOne D 0 [(0, .ref 124), (1, .int x1), (2, .int x2)] [] σ r σ' := by
  unfold W_X12_offerOne_0 at h
  refine E_iload_n 1 dX12_offerOne_0 rfl rfl ?_
  refine E_istore_n [(3, .int x1), (0, .ref 124), (1, .int x1), (2, .int x2)] dX12_offerOne_1 rfl (by decide) rfl ?_
  refine E_iconst (0 : Int32) dX12_offerOne_2 (by decide) ?_
  refine E_istore [(4, .int (0 : Int32)), (3, .int x1), (0, .ref 124), (1, .int x1), (2, .int x2)] dX12_offerOne_3 (by decide) rfl ?_
  exact E_lv [2, 4, 1, 0] rfl h
def W_X12_offerOne_171 (X : Sx) (l : Launch) (D : Nat) (x2 : Int32) (x3 : Int32) (x4 : Int32) (x5 : Int32) (x8 : Int32) (σ : AH) (r : Option Value) (σ' : AH) : Prop := ∃ d61 : Nat, ∃ σ62 : AH, d61 + 1 ≤ D ∧ Call X l m_X12_addStay d61 [.ref 124, .int x3, .int x5, .int x2, .int x2, .int x4, .int (0 : Int32)] σ none σ62 ∧ E X l m_X12_offerOne D 5 [(0, .ref 124), (2, .int x2), (3, .int x8), (4, .int (x4 + 1))] [] σ62 r σ'
set_option maxRecDepth 100000 in
theorem w_X12_offerOne_171 {X : Sx} {l : Launch} {D : Nat} {x2 : Int32} {x3 : Int32} {x4 : Int32} {x5 : Int32} {x8 : Int32} {σ : AH} {r : Option Value} {σ' : AH} (hs : Sh σ) (h : W_X12_offerOne_171 X l D x2 x3 x4 x5 x8 σ r σ') : E X l m_X12_offerOne D 171 [(0, .ref 124), (2, .int x2), (3, .int x3), (4, .int x4), (5, .int x5), (8, .int x8)] [] σ r σ' := by
  unfold W_X12_offerOne_171 at h
  refine E_aload_n 0 dX12_offerOne_171 rfl rfl ?_
  refine E_iload_n 2 dX12_offerOne_172 rfl rfl ?_
  refine E_iload 4 dX12_offerOne_173 rfl ?_
  refine E_iload_n 1 dX12_offerOne_175 rfl rfl ?_
  refine E_iload_n 1 dX12_offerOne_176 rfl rfl ?_
  refine E_iload 3 dX12_offerOne_177 rfl ?_
  refine E_iconst (0 : Int32) dX12_offerOne_179 (by decide) ?_
  obtain ⟨d61, σ62, hD63, hC64, h⟩ := h
  have hs65 := hC64.1.2.2.2.1 hs
  refine E_callV (As := [.int x3, .int x5, .int x2, .int x2, .int x4, .int (0 : Int32)]) (rest := []) (r1 := none) (b := 124) dX12_offerOne_180 ok_X12_addStay in_X12_addStay se_X12_addStay ml_X12_618 hD63 rfl rfl (Nat.le_of_ble_eq_true rfl) (sk_124 hs) (sn hs (by decide)) (by decide) rfl (by decide +kernel) hC64 ?_
  refine E_iinc 3 (x4 + 1) [(4, .int (x4 + 1)), (0, .ref 124), (2, .int x2), (3, .int x3), (5, .int x5), (8, .int x8)] dX12_offerOne_183 rfl (congrArg (x4 + ·) (by decide : Int32.ofInt 1 = 1)) (by decide) rfl ?_
  refine E_iload 5 dX12_offerOne_186 rfl ?_
  refine E_istore_n [(3, .int x8), (4, .int (x4 + 1)), (0, .ref 124), (2, .int x2), (5, .int x5), (8, .int x8)] dX12_offerOne_188 rfl (by decide) rfl ?_
  refine E_goto 5 dX12_offerOne_189 (by decide) ?_
  exact E_lv [2, 3, 0, 1] rfl h
def W_X12_offerOne_151 (X : Sx) (l : Launch) (D : Nat) (x2 : Int32) (x3 : Int32) (x4 : Int32) (x5 : Int32) (x7 : Int32) (x8 : Int32) (σ : AH) (r : Option Value) (σ' : AH) : Prop := (if x7 = (-1 : Int32) then W_X12_offerOne_171 X l D x2 x3 x4 x5 x8 σ r σ' else ∃ d54 : Nat, ∃ v59 : Int32, ∃ σ55 : AH, d54 + 1 ≤ D ∧ Call X l m_X12_stayAt d54 [.ref 124, .int x7] σ (some (.int v59)) σ55 ∧ vp_in (v59 + (5 : Int32)) 269832 ∧ W_X12_offerOne_171 X l D x2 x3 x4 x5 x8 (sI σ55 125 ((v59 + (5 : Int32)).toNatClampNeg) x2) r σ')
set_option maxRecDepth 100000 in
theorem w_X12_offerOne_151 {X : Sx} {l : Launch} {D : Nat} {x2 : Int32} {x3 : Int32} {x4 : Int32} {x5 : Int32} {x7 : Int32} {x8 : Int32} {σ : AH} {r : Option Value} {σ' : AH} (hs : Sh σ) (h : W_X12_offerOne_151 X l D x2 x3 x4 x5 x7 x8 σ r σ') : E X l m_X12_offerOne D 151 [(0, .ref 124), (2, .int x2), (3, .int x3), (4, .int x4), (5, .int x5), (7, .int x7), (8, .int x8)] [] σ r σ' := by
  unfold W_X12_offerOne_151 at h
  refine E_iload 5 dX12_offerOne_151 rfl ?_
  refine E_iconst (-1 : Int32) dX12_offerOne_153 (by decide) ?_
  refine E_icmp_eq 171 dX12_offerOne_154 (by decide) (fun c => ?_) (fun c => ?_)
  · rw [if_pos c] at h
    exact E_lv [0, 1, 2, 3, 4, 6] rfl (w_X12_offerOne_171 hs h)
  · rw [if_neg c] at h
    refine E_aload_n 0 dX12_offerOne_157 rfl rfl ?_
    refine E_getR 125 dX12_offerOne_158 fl_X12_8 rfl (sk_124 hs) (sn hs (by decide)) (sr_124_2 hs) ?_
    refine E_aload_n 0 dX12_offerOne_161 rfl rfl ?_
    refine E_iload 5 dX12_offerOne_162 rfl ?_
    obtain ⟨d54, v59, σ55, hD56, hC57, h⟩ := h
    have hs58 := hC57.1.2.2.2.1 hs
    refine E_callV (As := [.int x7]) (rest := [.ref 125]) (r1 := (some (.int v59))) (b := 124) dX12_offerOne_164 ok_X12_stayAt in_X12_stayAt se_X12_stayAt ml_X12_593 hD56 rfl rfl (Nat.le_of_ble_eq_true rfl) (sk_124 hs) (sn hs (by decide)) (by decide) rfl (by decide +kernel) hC57 ?_
    refine E_iconst (5 : Int32) dX12_offerOne_167 (by decide) ?_
    refine E_iadd dX12_offerOne_168 ?_
    refine E_iload_n 1 dX12_offerOne_169 rfl rfl ?_
    obtain ⟨g60, h⟩ := h
    refine E_iast2 ((v59 + (5 : Int32)).toNatClampNeg) dX12_offerOne_170 (sk_125 hs58) (sn hs58 (by decide)) (Or.inl (by decide)) g60 rfl ?_
    exact E_lv [0, 1, 2, 3, 4, 6] rfl (w_X12_offerOne_171 hs58 h)
def W_X12_offerOne_129 (X : Sx) (l : Launch) (D : Nat) (x2 : Int32) (x3 : Int32) (x4 : Int32) (x5 : Int32) (x6 : Int32) (x7 : Int32) (y0 : Int32) (σ : AH) (r : Option Value) (σ' : AH) : Prop := (if x6 = (-1 : Int32) then W_X12_offerOne_151 X l D x2 x3 x4 x5 x7 y0 σ r σ' else ∃ d47 : Nat, ∃ v52 : Int32, ∃ σ48 : AH, d47 + 1 ≤ D ∧ Call X l m_X12_stayAt d47 [.ref 124, .int x6] σ (some (.int v52)) σ48 ∧ vp_in (v52 + (5 : Int32)) 269832 ∧ W_X12_offerOne_151 X l D x2 x3 x4 x5 x7 y0 (sI σ48 125 ((v52 + (5 : Int32)).toNatClampNeg) x2) r σ')
set_option maxRecDepth 100000 in
theorem w_X12_offerOne_129 {X : Sx} {l : Launch} {D : Nat} {x2 : Int32} {x3 : Int32} {x4 : Int32} {x5 : Int32} {x6 : Int32} {x7 : Int32} {y0 : Int32} {σ : AH} {r : Option Value} {σ' : AH} (hs : Sh σ) (h : W_X12_offerOne_129 X l D x2 x3 x4 x5 x6 x7 y0 σ r σ') : E X l m_X12_offerOne D 129 [(0, .ref 124), (2, .int x2), (3, .int x3), (4, .int x4), (5, .int x5), (6, .int x6), (7, .int x7)] [.int y0] σ r σ' := by
  unfold W_X12_offerOne_129 at h
  refine E_istore [(8, .int y0), (0, .ref 124), (2, .int x2), (3, .int x3), (4, .int x4), (5, .int x5), (6, .int x6), (7, .int x7)] dX12_offerOne_129 (by decide) rfl ?_
  refine E_iload 6 dX12_offerOne_131 rfl ?_
  refine E_iconst (-1 : Int32) dX12_offerOne_133 (by decide) ?_
  refine E_icmp_eq 151 dX12_offerOne_134 (by decide) (fun c => ?_) (fun c => ?_)
  · rw [if_pos c] at h
    exact E_lv [1, 2, 3, 4, 5, 7, 0] rfl (w_X12_offerOne_151 hs h)
  · rw [if_neg c] at h
    refine E_aload_n 1 dX12_offerOne_137 rfl rfl ?_
    refine E_getR 125 dX12_offerOne_138 fl_X12_8 rfl (sk_124 hs) (sn hs (by decide)) (sr_124_2 hs) ?_
    refine E_aload_n 1 dX12_offerOne_141 rfl rfl ?_
    refine E_iload 6 dX12_offerOne_142 rfl ?_
    obtain ⟨d47, v52, σ48, hD49, hC50, h⟩ := h
    have hs51 := hC50.1.2.2.2.1 hs
    refine E_callV (As := [.int x6]) (rest := [.ref 125]) (r1 := (some (.int v52))) (b := 124) dX12_offerOne_144 ok_X12_stayAt in_X12_stayAt se_X12_stayAt ml_X12_593 hD49 rfl rfl (Nat.le_of_ble_eq_true rfl) (sk_124 hs) (sn hs (by decide)) (by decide) rfl (by decide +kernel) hC50 ?_
    refine E_iconst (5 : Int32) dX12_offerOne_147 (by decide) ?_
    refine E_iadd dX12_offerOne_148 ?_
    refine E_iload_n 2 dX12_offerOne_149 rfl rfl ?_
    obtain ⟨g53, h⟩ := h
    refine E_iast2 ((v52 + (5 : Int32)).toNatClampNeg) dX12_offerOne_150 (sk_125 hs51) (sn hs51 (by decide)) (Or.inl (by decide)) g53 rfl ?_
    exact E_lv [1, 2, 3, 4, 5, 7, 0] rfl (w_X12_offerOne_151 hs51 h)
def W_X12_offerOne_45 (X : Sx) (l : Launch) (D : Nat) (x2 : Int32) (x3 : Int32) (x4 : Int32) (y0 : Int32) (σ : AH) (r : Option Value) (σ' : AH) : Prop := (if y0 = (-1 : Int32) then E X l m_X12_offerOne D 5 [(0, .ref 124), (2, .int x2), (3, .int (-1 : Int32)), (4, .int x4)] [] σ r σ' else vp_in y0 60 ∧ ∃ d20 : Nat, ∃ v25 : Int32, ∃ σ21 : AH, d20 + 1 ≤ D ∧ Call X l m_X12_stayOf d20 [.ref 124, .int (gI σ 160 y0.toNatClampNeg), .int x2, .int (1 : Int32)] σ (some (.int v25)) σ21 ∧ vp_in y0 60 ∧ ∃ d27 : Nat, ∃ v32 : Int32, ∃ σ28 : AH, d27 + 1 ≤ D ∧ Call X l m_X12_stayOf d27 [.ref 124, .int (gI σ21 160 y0.toNatClampNeg), .int x2, .int (0 : Int32)] σ21 (some (.int v32)) σ28 ∧ (if v25 = (-1 : Int32) then (if v32 = (-1 : Int32) then W_X12_offerOne_129 X l D x2 x3 x4 y0 v25 v32 (-1 : Int32) σ28 r σ' else ∃ d33 : Nat, ∃ v38 : Int32, ∃ σ34 : AH, d33 + 1 ≤ D ∧ Call X l m_X12_stayAt d33 [.ref 124, .int v32] σ28 (some (.int v38)) σ34 ∧ vp_in v38 269832 ∧ W_X12_offerOne_129 X l D x2 x3 x4 y0 v25 v32 (gI σ34 125 v38.toNatClampNeg) σ34 r σ') else ∃ d40 : Nat, ∃ v45 : Int32, ∃ σ41 : AH, d40 + 1 ≤ D ∧ Call X l m_X12_stayAt d40 [.ref 124, .int v25] σ28 (some (.int v45)) σ41 ∧ vp_in v45 269832 ∧ W_X12_offerOne_129 X l D x2 x3 x4 y0 v25 v32 (gI σ41 125 v45.toNatClampNeg) σ41 r σ'))
set_option maxRecDepth 100000 in
theorem w_X12_offerOne_45 {X : Sx} {l : Launch} {D : Nat} {x2 : Int32} {x3 : Int32} {x4 : Int32} {y0 : Int32} {σ : AH} {r : Option Value} {σ' : AH} (hs : Sh σ) (h : W_X12_offerOne_45 X l D x2 x3 x4 y0 σ r σ') : E X l m_X12_offerOne D 45 [(0, .ref 124), (2, .int x2), (3, .int x3), (4, .int x4)] [.int y0] σ r σ' := by
  unfold W_X12_offerOne_45 at h
  refine E_istore [(5, .int y0), (0, .ref 124), (2, .int x2), (3, .int x3), (4, .int x4)] dX12_offerOne_45 (by decide) rfl ?_
  refine E_iload 0 dX12_offerOne_47 rfl ?_
  refine E_iconst (-1 : Int32) dX12_offerOne_49 (by decide) ?_
  refine E_icmp_ne 58 dX12_offerOne_50 (by decide) (fun c => ?_) (fun c => ?_)
  · rw [if_neg c] at h
    refine E_aload_n 1 dX12_offerOne_58 rfl rfl ?_
    refine E_aload_n 1 dX12_offerOne_59 rfl rfl ?_
    refine E_getR 160 dX12_offerOne_60 fl_X12_127 rfl (sk_124 hs) (sn hs (by decide)) (sr_124_62 hs) ?_
    refine E_iload 0 dX12_offerOne_63 rfl ?_
    obtain ⟨g19, h⟩ := h
    refine E_iald2 (y0.toNatClampNeg) dX12_offerOne_65 (sk_160 hs) (sn hs (by decide)) g19 rfl ?_
    refine E_iload_n 2 dX12_offerOne_66 rfl rfl ?_
    refine E_iconst (1 : Int32) dX12_offerOne_67 (by decide) ?_
    obtain ⟨d20, v25, σ21, hD22, hC23, h⟩ := h
    have hs24 := hC23.1.2.2.2.1 hs
    refine E_callV (As := [.int (gI σ 160 y0.toNatClampNeg), .int x2, .int (1 : Int32)]) (rest := []) (r1 := (some (.int v25))) (b := 124) dX12_offerOne_68 ok_X12_stayOf in_X12_stayOf se_X12_stayOf ml_X12_605 hD22 rfl rfl (Nat.le_of_ble_eq_true rfl) (sk_124 hs) (sn hs (by decide)) (by decide) rfl (by decide +kernel) hC23 ?_
    refine E_istore [(6, .int v25), (5, .int y0), (0, .ref 124), (2, .int x2), (3, .int x3), (4, .int x4)] dX12_offerOne_71 (by decide) rfl ?_
    refine E_aload_n 2 dX12_offerOne_73 rfl rfl ?_
    refine E_aload_n 2 dX12_offerOne_74 rfl rfl ?_
    refine E_getR 160 dX12_offerOne_75 fl_X12_127 rfl (sk_124 hs24) (sn hs24 (by decide)) (sr_124_62 hs24) ?_
    refine E_iload 1 dX12_offerOne_78 rfl ?_
    obtain ⟨g26, h⟩ := h
    refine E_iald2 (y0.toNatClampNeg) dX12_offerOne_80 (sk_160 hs24) (sn hs24 (by decide)) g26 rfl ?_
    refine E_iload_n 3 dX12_offerOne_81 rfl rfl ?_
    refine E_iconst (0 : Int32) dX12_offerOne_82 (by decide) ?_
    obtain ⟨d27, v32, σ28, hD29, hC30, h⟩ := h
    have hs31 := hC30.1.2.2.2.1 hs24
    refine E_callV (As := [.int (gI σ21 160 y0.toNatClampNeg), .int x2, .int (0 : Int32)]) (rest := []) (r1 := (some (.int v32))) (b := 124) dX12_offerOne_83 ok_X12_stayOf in_X12_stayOf se_X12_stayOf ml_X12_605 hD29 rfl rfl (Nat.le_of_ble_eq_true rfl) (sk_124 hs24) (sn hs24 (by decide)) (by decide) rfl (by decide +kernel) hC30 ?_
    refine E_istore [(7, .int v32), (6, .int v25), (5, .int y0), (0, .ref 124), (2, .int x2), (3, .int x3), (4, .int x4)] dX12_offerOne_86 (by decide) rfl ?_
    refine E_iload 1 dX12_offerOne_88 rfl ?_
    refine E_iconst (-1 : Int32) dX12_offerOne_90 (by decide) ?_
    refine E_icmp_eq 108 dX12_offerOne_91 (by decide) (fun c => ?_) (fun c => ?_)
    · rw [if_pos c] at h
      refine E_iload 0 dX12_offerOne_108 rfl ?_
      refine E_iconst (-1 : Int32) dX12_offerOne_110 (by decide) ?_
      refine E_icmp_eq 128 dX12_offerOne_111 (by decide) (fun c => ?_) (fun c => ?_)
      · rw [if_pos c] at h
        refine E_iconst (-1 : Int32) dX12_offerOne_128 (by decide) ?_
        exact E_lv [3, 4, 5, 6, 2, 1, 0] rfl (w_X12_offerOne_129 hs31 h)
      · rw [if_neg c] at h
        refine E_aload_n 3 dX12_offerOne_114 rfl rfl ?_
        refine E_getR 125 dX12_offerOne_115 fl_X12_8 rfl (sk_124 hs31) (sn hs31 (by decide)) (sr_124_2 hs31) ?_
        refine E_aload_n 3 dX12_offerOne_118 rfl rfl ?_
        refine E_iload 0 dX12_offerOne_119 rfl ?_
        obtain ⟨d33, v38, σ34, hD35, hC36, h⟩ := h
        have hs37 := hC36.1.2.2.2.1 hs31
        refine E_callV (As := [.int v32]) (rest := [.ref 125]) (r1 := (some (.int v38))) (b := 124) dX12_offerOne_121 ok_X12_stayAt in_X12_stayAt se_X12_stayAt ml_X12_593 hD35 rfl rfl (Nat.le_of_ble_eq_true rfl) (sk_124 hs31) (sn hs31 (by decide)) (by decide) rfl (by decide +kernel) hC36 ?_
        obtain ⟨g39, h⟩ := h
        refine E_iald2 (v38.toNatClampNeg) dX12_offerOne_124 (sk_125 hs37) (sn hs37 (by decide)) g39 rfl ?_
        refine E_goto 129 dX12_offerOne_125 (by decide) ?_
        exact E_lv [3, 4, 5, 6, 2, 1, 0] rfl (w_X12_offerOne_129 hs37 h)
    · rw [if_neg c] at h
      refine E_aload_n 3 dX12_offerOne_94 rfl rfl ?_
      refine E_getR 125 dX12_offerOne_95 fl_X12_8 rfl (sk_124 hs31) (sn hs31 (by decide)) (sr_124_2 hs31) ?_
      refine E_aload_n 3 dX12_offerOne_98 rfl rfl ?_
      refine E_iload 1 dX12_offerOne_99 rfl ?_
      obtain ⟨d40, v45, σ41, hD42, hC43, h⟩ := h
      have hs44 := hC43.1.2.2.2.1 hs31
      refine E_callV (As := [.int v25]) (rest := [.ref 125]) (r1 := (some (.int v45))) (b := 124) dX12_offerOne_101 ok_X12_stayAt in_X12_stayAt se_X12_stayAt ml_X12_593 hD42 rfl rfl (Nat.le_of_ble_eq_true rfl) (sk_124 hs31) (sn hs31 (by decide)) (by decide) rfl (by decide +kernel) hC43 ?_
      obtain ⟨g46, h⟩ := h
      refine E_iald2 (v45.toNatClampNeg) dX12_offerOne_104 (sk_125 hs44) (sn hs44 (by decide)) g46 rfl ?_
      refine E_goto 129 dX12_offerOne_105 (by decide) ?_
      exact E_lv [3, 4, 5, 6, 2, 1, 0] rfl (w_X12_offerOne_129 hs44 h)
  · rw [if_pos c] at h
    refine E_iconst (-1 : Int32) dX12_offerOne_53 (by decide) ?_
    refine E_istore_n [(3, .int (-1 : Int32)), (5, .int y0), (0, .ref 124), (2, .int x2), (4, .int x4)] dX12_offerOne_54 rfl (by decide) rfl ?_
    refine E_goto 189 dX12_offerOne_55 (by decide) ?_
    refine E_goto 5 dX12_offerOne_189 (by decide) ?_
    exact E_lv [2, 3, 0, 4] rfl h
def W_X12_offerOne_44 (X : Sx) (l : Launch) (D : Nat) (x2 : Int32) (x3 : Int32) (x4 : Int32) (σ : AH) (r : Option Value) (σ' : AH) : Prop := W_X12_offerOne_45 X l D x2 x3 x4 (-1 : Int32) σ r σ'
set_option maxRecDepth 100000 in
theorem w_X12_offerOne_44 {X : Sx} {l : Launch} {D : Nat} {x2 : Int32} {x3 : Int32} {x4 : Int32} {σ : AH} {r : Option Value} {σ' : AH} (hs : Sh σ) (h : W_X12_offerOne_44 X l D x2 x3 x4 σ r σ') : E X l m_X12_offerOne D 44 [(0, .ref 124), (2, .int x2), (3, .int x3), (4, .int x4)] [] σ r σ' := by
  unfold W_X12_offerOne_44 at h
  refine E_iconst (-1 : Int32) dX12_offerOne_44 (by decide) ?_
  exact E_lv [0, 1, 2, 3] rfl (w_X12_offerOne_45 hs h)
def W_X12_offerOne_5 (X : Sx) (l : Launch) (D : Nat) (x2 : Int32) (x3 : Int32) (x4 : Int32) (σ : AH) (r : Option Value) (σ' : AH) : Prop := (if x3 = (-1 : Int32) then (r = some (.int x4) ∧ σ' = σ) else (if (10 : Int32) ≤ x4 then (r = some (.int x4) ∧ σ' = σ) else ∃ d1 : Nat, ∃ v6 : Int32, ∃ σ2 : AH, d1 + 1 ≤ D ∧ Call X l m_X12_isHome d1 [.ref 124, .int x3, .int x2] σ (some (.int v6)) σ2 ∧ (if v6 = 0 then W_X12_offerOne_44 X l D x2 x3 x4 σ2 r σ' else ∃ d7 : Nat, ∃ v12 : Int32, ∃ σ8 : AH, d7 + 1 ≤ D ∧ Call X l m_X12_isFree d7 [.ref 124, .int x3, .int x2] σ2 (some (.int v12)) σ8 ∧ (if v12 = 0 then W_X12_offerOne_44 X l D x2 x3 x4 σ8 r σ' else ∃ d13 : Nat, ∃ v18 : Int32, ∃ σ14 : AH, d13 + 1 ≤ D ∧ Call X l m_X12_whom d13 [.ref 124, .int x3, .int x2] σ8 (some (.int v18)) σ14 ∧ W_X12_offerOne_45 X l D x2 x3 x4 v18 σ14 r σ'))))
set_option maxRecDepth 100000 in
theorem w_X12_offerOne_5 {X : Sx} {l : Launch} {D : Nat} {x2 : Int32} {x3 : Int32} {x4 : Int32} {σ : AH} {r : Option Value} {σ' : AH} (hs : Sh σ) (h : W_X12_offerOne_5 X l D x2 x3 x4 σ r σ') : E X l m_X12_offerOne D 5 [(0, .ref 124), (2, .int x2), (3, .int x3), (4, .int x4)] [] σ r σ' := by
  unfold W_X12_offerOne_5 at h
  refine E_iload_n 2 dX12_offerOne_5 rfl rfl ?_
  refine E_iconst (-1 : Int32) dX12_offerOne_6 (by decide) ?_
  refine E_icmp_eq 192 dX12_offerOne_7 (by decide) (fun c => ?_) (fun c => ?_)
  · rw [if_pos c] at h
    refine E_iload 3 dX12_offerOne_192 rfl ?_
    obtain ⟨rfl, rfl⟩ := h
    exact E_iret dX12_offerOne_194 rfl
  · rw [if_neg c] at h
    refine E_iload 3 dX12_offerOne_10 rfl ?_
    refine E_bipush (10 : Int32) dX12_offerOne_12 (by decide) ?_
    refine E_icmp_ge 192 dX12_offerOne_14 (by decide) (fun c => ?_) (fun c => ?_)
    · rw [if_pos c] at h
      refine E_iload 3 dX12_offerOne_192 rfl ?_
      obtain ⟨rfl, rfl⟩ := h
      exact E_iret dX12_offerOne_194 rfl
    · rw [if_neg c] at h
      refine E_aload_n 0 dX12_offerOne_17 rfl rfl ?_
      refine E_iload_n 2 dX12_offerOne_18 rfl rfl ?_
      refine E_iload_n 1 dX12_offerOne_19 rfl rfl ?_
      obtain ⟨d1, v6, σ2, hD3, hC4, h⟩ := h
      have hs5 := hC4.1.2.2.2.1 hs
      refine E_callV (As := [.int x3, .int x2]) (rest := []) (r1 := (some (.int v6))) (b := 124) dX12_offerOne_20 ok_X12_isHome in_X12_isHome se_X12_isHome ml_X12_609 hD3 rfl rfl (Nat.le_of_ble_eq_true rfl) (sk_124 hs) (sn hs (by decide)) (by decide) rfl (by decide +kernel) hC4 ?_
      refine E_if_eq 44 dX12_offerOne_23 (by decide) (fun c => ?_) (fun c => ?_)
      · rw [if_pos c] at h
        exact E_lv [0, 1, 2, 3] rfl (w_X12_offerOne_44 hs5 h)
      · rw [if_neg c] at h
        refine E_aload_n 0 dX12_offerOne_26 rfl rfl ?_
        refine E_iload_n 2 dX12_offerOne_27 rfl rfl ?_
        refine E_iload_n 1 dX12_offerOne_28 rfl rfl ?_
        obtain ⟨d7, v12, σ8, hD9, hC10, h⟩ := h
        have hs11 := hC10.1.2.2.2.1 hs5
        refine E_callV (As := [.int x3, .int x2]) (rest := []) (r1 := (some (.int v12))) (b := 124) dX12_offerOne_29 ok_X12_isFree in_X12_isFree se_X12_isFree ml_X12_612 hD9 rfl rfl (Nat.le_of_ble_eq_true rfl) (sk_124 hs5) (sn hs5 (by decide)) (by decide) rfl (by decide +kernel) hC10 ?_
        refine E_if_eq 44 dX12_offerOne_32 (by decide) (fun c => ?_) (fun c => ?_)
        · rw [if_pos c] at h
          exact E_lv [0, 1, 2, 3] rfl (w_X12_offerOne_44 hs11 h)
        · rw [if_neg c] at h
          refine E_aload_n 0 dX12_offerOne_35 rfl rfl ?_
          refine E_iload_n 2 dX12_offerOne_36 rfl rfl ?_
          refine E_iload_n 1 dX12_offerOne_37 rfl rfl ?_
          obtain ⟨d13, v18, σ14, hD15, hC16, h⟩ := h
          have hs17 := hC16.1.2.2.2.1 hs11
          refine E_callV (As := [.int x3, .int x2]) (rest := []) (r1 := (some (.int v18))) (b := 124) dX12_offerOne_38 ok_X12_whom in_X12_whom se_X12_whom ml_X12_615 hD15 rfl rfl (Nat.le_of_ble_eq_true rfl) (sk_124 hs11) (sn hs11 (by decide)) (by decide) rfl (by decide +kernel) hC16 ?_
          refine E_goto 45 dX12_offerOne_41 (by decide) ?_
          exact E_lv [0, 1, 2, 3] rfl (w_X12_offerOne_45 hs17 h)
def W_X12_offer_23 (X : Sx) (l : Launch) (D : Nat) (σ : AH) (r : Option Value) (σ' : AH) : Prop := ∃ d23 : Nat, ∃ v28 : Int32, ∃ σ24 : AH, d23 + 1 ≤ D ∧ Call X l m_X12_told d23 [.ref 124, .int (-1 : Int32)] σ (some (.int v28)) σ24 ∧ (r = some (.int v28) ∧ σ' = σ24)
set_option maxRecDepth 100000 in
theorem w_X12_offer_23 {X : Sx} {l : Launch} {D : Nat} {σ : AH} {r : Option Value} {σ' : AH} (hs : Sh σ) (h : W_X12_offer_23 X l D σ r σ') : E X l m_X12_offer D 23 [(0, .ref 124)] [] σ r σ' := by
  unfold W_X12_offer_23 at h
  refine E_aload_n 0 dX12_offer_23 rfl rfl ?_
  refine E_iconst (-1 : Int32) dX12_offer_24 (by decide) ?_
  obtain ⟨d23, v28, σ24, hD25, hC26, h⟩ := h
  have hs27 := hC26.1.2.2.2.1 hs
  refine E_callV (As := [.int (-1 : Int32)]) (rest := []) (r1 := (some (.int v28))) (b := 124) dX12_offer_25 ok_X12_told in_X12_told se_X12_told ml_X12_163 hD25 rfl rfl (Nat.le_of_ble_eq_true rfl) (sk_124 hs) (sn hs (by decide)) (by decide) rfl (by decide +kernel) hC26 ?_
  obtain ⟨rfl, rfl⟩ := h
  exact E_iret dX12_offer_28 rfl
def W_X12_offer_0 (X : Sx) (l : Launch) (D : Nat) (x1 : Int32) (σ : AH) (r : Option Value) (σ' : AH) : Prop := ∃ d1 : Nat, ∃ v6 : Int32, ∃ σ2 : AH, d1 + 1 ≤ D ∧ Call X l m_X12_isWeek d1 [.int x1] (sI σ 124 0 (0 : Int32)) (some (.int v6)) σ2 ∧ (if v6 = 0 then W_X12_offer_23 X l D σ2 r σ' else (if (gI σ2 125 12) ≤ x1 then (if (gI σ2 125 10) = (100 : Int32) then ∃ d17 : Nat, ∃ v22 : Int32, ∃ σ18 : AH, d17 + 1 ≤ D ∧ Call X l m_X12_told d17 [.ref 124, .int (-5 : Int32)] σ2 (some (.int v22)) σ18 ∧ (r = some (.int v22) ∧ σ' = σ18) else ∃ d7 : Nat, ∃ σ8 : AH, d7 + 1 ≤ D ∧ Call X l m_X12_findHomes d7 [.ref 124, .int x1] σ2 none σ8 ∧ ∃ d12 : Nat, ∃ σ13 : AH, d12 + 1 ≤ D ∧ Call X l m_X12_findFamilies d12 [.ref 124, .int x1] σ8 none σ13 ∧ E X l m_X12_offer D 62 [(0, .ref 124), (1, .int x1), (2, .int (0 : Int32)), (3, .int (0 : Int32))] [] σ13 r σ') else W_X12_offer_23 X l D σ2 r σ'))
set_option maxRecDepth 100000 in
theorem w_X12_offer_0 {X : Sx} {l : Launch} {D : Nat} {x1 : Int32} {σ : AH} {r : Option Value} {σ' : AH} (hs : Sh σ) (h : W_X12_offer_0 X l D x1 σ r σ') : E X l m_X12_offer D 0 [(0, .ref 124), (1, .int x1)] [] σ r σ' := by
  unfold W_X12_offer_0 at h
  refine E_aload_n 0 dX12_offer_0 rfl rfl ?_
  refine E_iconst (0 : Int32) dX12_offer_1 (by decide) ?_
  refine E_putI dX12_offer_2 fl_X12_145 rfl (Or.inl rfl) (sk_124 hs) (sn hs (by decide)) (Or.inl (by decide)) rfl rfl ?_
  refine E_iload_n 1 dX12_offer_5 rfl rfl ?_
  obtain ⟨d1, v6, σ2, hD3, hC4, h⟩ := h
  have hs5 := hC4.1.2.2.2.1 hs
  refine E_callS (As := [.int x1]) (rest := []) (r1 := (some (.int v6))) dX12_offer_6 ok_X12_isWeek is_X12_isWeek ml_X12_387 hD3 rfl rfl (Nat.le_of_ble_eq_true rfl) (by decide +kernel) hC4 ?_
  refine E_if_eq 23 dX12_offer_9 (by decide) (fun c => ?_) (fun c => ?_)
  · rw [if_pos c] at h
    exact E_lv [0] rfl (w_X12_offer_23 hs5 h)
  · rw [if_neg c] at h
    refine E_iload_n 1 dX12_offer_12 rfl rfl ?_
    refine E_aload_n 0 dX12_offer_13 rfl rfl ?_
    refine E_getR 125 dX12_offer_14 fl_X12_8 rfl (sk_124 hs5) (sn hs5 (by decide)) (sr_124_2 hs5) ?_
    refine E_bipush (12 : Int32) dX12_offer_17 (by decide) ?_
    refine E_iald2 12 dX12_offer_19 (sk_125 hs5) (sn hs5 (by decide)) (vp_lit (by decide)) (by decide) ?_
    refine E_icmp_ge 29 dX12_offer_20 (by decide) (fun c => ?_) (fun c => ?_)
    · rw [if_pos c] at h
      refine E_aload_n 0 dX12_offer_29 rfl rfl ?_
      refine E_getR 125 dX12_offer_30 fl_X12_8 rfl (sk_124 hs5) (sn hs5 (by decide)) (sr_124_2 hs5) ?_
      refine E_bipush (10 : Int32) dX12_offer_33 (by decide) ?_
      refine E_iald2 10 dX12_offer_35 (sk_125 hs5) (sn hs5 (by decide)) (vp_lit (by decide)) (by decide) ?_
      refine E_bipush (100 : Int32) dX12_offer_36 (by decide) ?_
      refine E_icmp_ne 48 dX12_offer_38 (by decide) (fun c => ?_) (fun c => ?_)
      · rw [if_neg c] at h
        refine E_aload_n 0 dX12_offer_48 rfl rfl ?_
        refine E_iload_n 1 dX12_offer_49 rfl rfl ?_
        obtain ⟨d7, σ8, hD9, hC10, h⟩ := h
        have hs11 := hC10.1.2.2.2.1 hs5
        refine E_callV (As := [.int x1]) (rest := []) (r1 := none) (b := 124) dX12_offer_50 ok_X12_findHomes in_X12_findHomes se_X12_findHomes ml_X12_622 hD9 rfl rfl (Nat.le_of_ble_eq_true rfl) (sk_124 hs5) (sn hs5 (by decide)) (by decide) rfl (by decide +kernel) hC10 ?_
        refine E_aload_n 0 dX12_offer_53 rfl rfl ?_
        refine E_iload_n 1 dX12_offer_54 rfl rfl ?_
        obtain ⟨d12, σ13, hD14, hC15, h⟩ := h
        have hs16 := hC15.1.2.2.2.1 hs11
        refine E_callV (As := [.int x1]) (rest := []) (r1 := none) (b := 124) dX12_offer_55 ok_X12_findFamilies in_X12_findFamilies se_X12_findFamilies ml_X12_568 hD14 rfl rfl (Nat.le_of_ble_eq_true rfl) (sk_124 hs11) (sn hs11 (by decide)) (by decide) rfl (by decide +kernel) hC15 ?_
        refine E_iconst (0 : Int32) dX12_offer_58 (by decide) ?_
        refine E_istore_n [(2, .int (0 : Int32)), (0, .ref 124), (1, .int x1)] dX12_offer_59 rfl (by decide) rfl ?_
        refine E_iconst (0 : Int32) dX12_offer_60 (by decide) ?_
        refine E_istore_n [(3, .int (0 : Int32)), (2, .int (0 : Int32)), (0, .ref 124), (1, .int x1)] dX12_offer_61 rfl (by decide) rfl ?_
        exact E_lv [2, 3, 1, 0] rfl h
      · rw [if_pos c] at h
        refine E_aload_n 0 dX12_offer_41 rfl rfl ?_
        refine E_bipush (-5 : Int32) dX12_offer_42 (by decide) ?_
        obtain ⟨d17, v22, σ18, hD19, hC20, h⟩ := h
        have hs21 := hC20.1.2.2.2.1 hs5
        refine E_callV (As := [.int (-5 : Int32)]) (rest := []) (r1 := (some (.int v22))) (b := 124) dX12_offer_44 ok_X12_told in_X12_told se_X12_told ml_X12_163 hD19 rfl rfl (Nat.le_of_ble_eq_true rfl) (sk_124 hs5) (sn hs5 (by decide)) (by decide) rfl (by decide +kernel) hC20 ?_
        obtain ⟨rfl, rfl⟩ := h
        exact E_iret dX12_offer_47 rfl
    · rw [if_neg c] at h
      exact E_lv [0] rfl (w_X12_offer_23 hs5 h)
def W_X12_offer_62 (X : Sx) (l : Launch) (D : Nat) (x1 : Int32) (x2 : Int32) (x3 : Int32) (σ : AH) (r : Option Value) (σ' : AH) : Prop := (if (gI σ 125 4) ≤ x3 then ∃ d29 : Nat, ∃ v34 : Int32, ∃ σ30 : AH, d29 + 1 ≤ D ∧ Call X l m_X12_told d29 [.ref 124, .int x2] (sI (sI (sI σ 125 10 ((gI σ 125 10) + (1 : Int32))) 125 11 ((gI (sI σ 125 10 ((gI σ 125 10) + (1 : Int32))) 125 11) + x2)) 125 12 x1) (some (.int v34)) σ30 ∧ (r = some (.int v34) ∧ σ' = σ30) else ∃ d35 : Nat, ∃ v40 : Int32, ∃ σ36 : AH, d35 + 1 ≤ D ∧ Call X l m_X12_offerOne d35 [.ref 124, .int x3, .int x1] σ (some (.int v40)) σ36 ∧ E X l m_X12_offer D 62 [(0, .ref 124), (1, .int x1), (2, .int (x2 + v40)), (3, .int (x3 + 1))] [] σ36 r σ')
set_option maxRecDepth 100000 in
theorem w_X12_offer_62 {X : Sx} {l : Launch} {D : Nat} {x1 : Int32} {x2 : Int32} {x3 : Int32} {σ : AH} {r : Option Value} {σ' : AH} (hs : Sh σ) (h : W_X12_offer_62 X l D x1 x2 x3 σ r σ') : E X l m_X12_offer D 62 [(0, .ref 124), (1, .int x1), (2, .int x2), (3, .int x3)] [] σ r σ' := by
  unfold W_X12_offer_62 at h
  refine E_iload_n 3 dX12_offer_62 rfl rfl ?_
  refine E_aload_n 0 dX12_offer_63 rfl rfl ?_
  refine E_getR 125 dX12_offer_64 fl_X12_8 rfl (sk_124 hs) (sn hs (by decide)) (sr_124_2 hs) ?_
  refine E_iconst (4 : Int32) dX12_offer_67 (by decide) ?_
  refine E_iald2 4 dX12_offer_68 (sk_125 hs) (sn hs (by decide)) (vp_lit (by decide)) (by decide) ?_
  refine E_icmp_ge 87 dX12_offer_69 (by decide) (fun c => ?_) (fun c => ?_)
  · rw [if_pos c] at h
    refine E_aload_n 0 dX12_offer_87 rfl rfl ?_
    refine E_getR 125 dX12_offer_88 fl_X12_8 rfl (sk_124 hs) (sn hs (by decide)) (sr_124_2 hs) ?_
    refine E_bipush (10 : Int32) dX12_offer_91 (by decide) ?_
    refine E_dup2 dX12_offer_93 rfl rfl ?_
    refine E_iald2 10 dX12_offer_94 (sk_125 hs) (sn hs (by decide)) (vp_lit (by decide)) (by decide) ?_
    refine E_iconst (1 : Int32) dX12_offer_95 (by decide) ?_
    refine E_iadd dX12_offer_96 ?_
    refine E_iast2 10 dX12_offer_97 (sk_125 hs) (sn hs (by decide)) (Or.inl (by decide)) (vp_lit (by decide)) (by decide) ?_
    refine E_aload_n 0 dX12_offer_98 rfl rfl ?_
    refine E_getR 125 dX12_offer_99 fl_X12_8 rfl (sk_124 hs) (sn hs (by decide)) (sr_124_2 hs) ?_
    refine E_bipush (11 : Int32) dX12_offer_102 (by decide) ?_
    refine E_dup2 dX12_offer_104 rfl rfl ?_
    refine E_iald2 11 dX12_offer_105 (sk_125 hs) (sn hs (by decide)) (vp_lit (by decide)) (by decide) ?_
    refine E_iload_n 2 dX12_offer_106 rfl rfl ?_
    refine E_iadd dX12_offer_107 ?_
    refine E_iast2 11 dX12_offer_108 (sk_125 hs) (sn hs (by decide)) (Or.inl (by decide)) (vp_lit (by decide)) (by decide) ?_
    refine E_aload_n 0 dX12_offer_109 rfl rfl ?_
    refine E_getR 125 dX12_offer_110 fl_X12_8 rfl (sk_124 hs) (sn hs (by decide)) (sr_124_2 hs) ?_
    refine E_bipush (12 : Int32) dX12_offer_113 (by decide) ?_
    refine E_iload_n 1 dX12_offer_115 rfl rfl ?_
    refine E_iast2 12 dX12_offer_116 (sk_125 hs) (sn hs (by decide)) (Or.inl (by decide)) (vp_lit (by decide)) (by decide) ?_
    refine E_aload_n 0 dX12_offer_117 rfl rfl ?_
    refine E_iload_n 2 dX12_offer_118 rfl rfl ?_
    obtain ⟨d29, v34, σ30, hD31, hC32, h⟩ := h
    have hs33 := hC32.1.2.2.2.1 hs
    refine E_callV (As := [.int x2]) (rest := []) (r1 := (some (.int v34))) (b := 124) dX12_offer_119 ok_X12_told in_X12_told se_X12_told ml_X12_163 hD31 rfl rfl (Nat.le_of_ble_eq_true rfl) (sk_124 hs) (sn hs (by decide)) (by decide) rfl (by decide +kernel) hC32 ?_
    obtain ⟨rfl, rfl⟩ := h
    exact E_iret dX12_offer_122 rfl
  · rw [if_neg c] at h
    refine E_iload_n 2 dX12_offer_72 rfl rfl ?_
    refine E_aload_n 0 dX12_offer_73 rfl rfl ?_
    refine E_iload_n 3 dX12_offer_74 rfl rfl ?_
    refine E_iload_n 1 dX12_offer_75 rfl rfl ?_
    obtain ⟨d35, v40, σ36, hD37, hC38, h⟩ := h
    have hs39 := hC38.1.2.2.2.1 hs
    refine E_callV (As := [.int x3, .int x1]) (rest := [.int x2]) (r1 := (some (.int v40))) (b := 124) dX12_offer_76 ok_X12_offerOne in_X12_offerOne se_X12_offerOne ml_X12_625 hD37 rfl rfl (Nat.le_of_ble_eq_true rfl) (sk_124 hs) (sn hs (by decide)) (by decide) rfl (by decide +kernel) hC38 ?_
    refine E_iadd dX12_offer_79 ?_
    refine E_istore_n [(2, .int (x2 + v40)), (0, .ref 124), (1, .int x1), (3, .int x3)] dX12_offer_80 rfl (by decide) rfl ?_
    refine E_iinc 3 (x3 + 1) [(3, .int (x3 + 1)), (2, .int (x2 + v40)), (0, .ref 124), (1, .int x1)] dX12_offer_81 rfl (congrArg (x3 + ·) (by decide : Int32.ofInt 1 = 1)) (by decide) rfl ?_
    refine E_goto 62 dX12_offer_84 (by decide) ?_
    exact E_lv [2, 3, 1, 0] rfl h
def W_X12_livingIn_0 (X : Sx) (l : Launch) (D : Nat) (x1 : Int32) (x2 : Int32) (σ : AH) (r : Option Value) (σ' : AH) : Prop := E X l m_X12_livingIn D 5 [(0, .ref 124), (1, .int x1), (2, .int x2), (3, .int (-1 : Int32)), (4, .int (0 : Int32))] [] σ r σ'
set_option maxRecDepth 100000 in
theorem w_X12_livingIn_0 {X : Sx} {l : Launch} {D : Nat} {x1 : Int32} {x2 : Int32} {σ : AH} {r : Option Value} {σ' : AH} (hs : Sh σ) (h : W_X12_livingIn_0 X l D x1 x2 σ r σ') : E X l m_X12_livingIn D 0 [(0, .ref 124), (1, .int x1), (2, .int x2)] [] σ r σ' := by
  unfold W_X12_livingIn_0 at h
  refine E_iconst (-1 : Int32) dX12_livingIn_0 (by decide) ?_
  refine E_istore_n [(3, .int (-1 : Int32)), (0, .ref 124), (1, .int x1), (2, .int x2)] dX12_livingIn_1 rfl (by decide) rfl ?_
  refine E_iconst (0 : Int32) dX12_livingIn_2 (by decide) ?_
  refine E_istore [(4, .int (0 : Int32)), (3, .int (-1 : Int32)), (0, .ref 124), (1, .int x1), (2, .int x2)] dX12_livingIn_3 (by decide) rfl ?_
  exact E_lv [2, 3, 4, 1, 0] rfl h
def W_X12_livingIn_48 (X : Sx) (l : Launch) (D : Nat) (x1 : Int32) (x2 : Int32) (x4 : Int32) (y0 : Int32) (σ : AH) (r : Option Value) (σ' : AH) : Prop := E X l m_X12_livingIn D 5 [(0, .ref 124), (1, .int x1), (2, .int x2), (3, .int y0), (4, .int (x4 + 1))] [] σ r σ'
set_option maxRecDepth 100000 in
theorem w_X12_livingIn_48 {X : Sx} {l : Launch} {D : Nat} {x1 : Int32} {x2 : Int32} {x4 : Int32} {y0 : Int32} {σ : AH} {r : Option Value} {σ' : AH} (hs : Sh σ) (h : W_X12_livingIn_48 X l D x1 x2 x4 y0 σ r σ') : E X l m_X12_livingIn D 48 [(0, .ref 124), (1, .int x1), (2, .int x2), (4, .int x4)] [.int y0] σ r σ' := by
  unfold W_X12_livingIn_48 at h
  refine E_istore_n [(3, .int y0), (0, .ref 124), (1, .int x1), (2, .int x2), (4, .int x4)] dX12_livingIn_48 rfl (by decide) rfl ?_
  refine E_iinc 4 (x4 + 1) [(4, .int (x4 + 1)), (3, .int y0), (0, .ref 124), (1, .int x1), (2, .int x2)] dX12_livingIn_49 rfl (congrArg (x4 + ·) (by decide : Int32.ofInt 1 = 1)) (by decide) rfl ?_
  refine E_goto 5 dX12_livingIn_52 (by decide) ?_
  exact E_lv [2, 3, 4, 1, 0] rfl h
def W_X12_livingIn_47 (X : Sx) (l : Launch) (D : Nat) (x1 : Int32) (x2 : Int32) (x3 : Int32) (x4 : Int32) (σ : AH) (r : Option Value) (σ' : AH) : Prop := W_X12_livingIn_48 X l D x1 x2 x4 x3 σ r σ'
set_option maxRecDepth 100000 in
theorem w_X12_livingIn_47 {X : Sx} {l : Launch} {D : Nat} {x1 : Int32} {x2 : Int32} {x3 : Int32} {x4 : Int32} {σ : AH} {r : Option Value} {σ' : AH} (hs : Sh σ) (h : W_X12_livingIn_47 X l D x1 x2 x3 x4 σ r σ') : E X l m_X12_livingIn D 47 [(0, .ref 124), (1, .int x1), (2, .int x2), (3, .int x3), (4, .int x4)] [] σ r σ' := by
  unfold W_X12_livingIn_47 at h
  refine E_iload_n 3 dX12_livingIn_47 rfl rfl ?_
  exact E_lv [0, 1, 2, 4] rfl (w_X12_livingIn_48 hs h)
def W_X12_livingIn_5 (X : Sx) (l : Launch) (D : Nat) (x1 : Int32) (x2 : Int32) (x3 : Int32) (x4 : Int32) (σ : AH) (r : Option Value) (σ' : AH) : Prop := (if (gI σ 125 7) ≤ x4 then (r = some (.int x3) ∧ σ' = σ) else ∃ d1 : Nat, ∃ v6 : Int32, ∃ σ2 : AH, d1 + 1 ≤ D ∧ Call X l m_X12_stayAt d1 [.ref 124, .int x4] σ (some (.int v6)) σ2 ∧ vp_in v6 269832 ∧ (if (gI σ2 125 v6.toNatClampNeg) = x1 then ∃ d8 : Nat, ∃ v13 : Int32, ∃ σ9 : AH, d8 + 1 ≤ D ∧ Call X l m_X12_livesIn d8 [.ref 124, .int x4, .int x2] σ2 (some (.int v13)) σ9 ∧ (if v13 = 0 then W_X12_livingIn_47 X l D x1 x2 x3 x4 σ9 r σ' else W_X12_livingIn_48 X l D x1 x2 x4 x4 σ9 r σ') else W_X12_livingIn_47 X l D x1 x2 x3 x4 σ2 r σ'))
set_option maxRecDepth 100000 in
theorem w_X12_livingIn_5 {X : Sx} {l : Launch} {D : Nat} {x1 : Int32} {x2 : Int32} {x3 : Int32} {x4 : Int32} {σ : AH} {r : Option Value} {σ' : AH} (hs : Sh σ) (h : W_X12_livingIn_5 X l D x1 x2 x3 x4 σ r σ') : E X l m_X12_livingIn D 5 [(0, .ref 124), (1, .int x1), (2, .int x2), (3, .int x3), (4, .int x4)] [] σ r σ' := by
  unfold W_X12_livingIn_5 at h
  refine E_iload 4 dX12_livingIn_5 rfl ?_
  refine E_aload_n 0 dX12_livingIn_7 rfl rfl ?_
  refine E_getR 125 dX12_livingIn_8 fl_X12_8 rfl (sk_124 hs) (sn hs (by decide)) (sr_124_2 hs) ?_
  refine E_bipush (7 : Int32) dX12_livingIn_11 (by decide) ?_
  refine E_iald2 7 dX12_livingIn_13 (sk_125 hs) (sn hs (by decide)) (vp_lit (by decide)) (by decide) ?_
  refine E_icmp_ge 55 dX12_livingIn_14 (by decide) (fun c => ?_) (fun c => ?_)
  · rw [if_pos c] at h
    refine E_iload_n 3 dX12_livingIn_55 rfl rfl ?_
    obtain ⟨rfl, rfl⟩ := h
    exact E_iret dX12_livingIn_56 rfl
  · rw [if_neg c] at h
    refine E_aload_n 0 dX12_livingIn_17 rfl rfl ?_
    refine E_getR 125 dX12_livingIn_18 fl_X12_8 rfl (sk_124 hs) (sn hs (by decide)) (sr_124_2 hs) ?_
    refine E_aload_n 0 dX12_livingIn_21 rfl rfl ?_
    refine E_iload 4 dX12_livingIn_22 rfl ?_
    obtain ⟨d1, v6, σ2, hD3, hC4, h⟩ := h
    have hs5 := hC4.1.2.2.2.1 hs
    refine E_callV (As := [.int x4]) (rest := [.ref 125]) (r1 := (some (.int v6))) (b := 124) dX12_livingIn_24 ok_X12_stayAt in_X12_stayAt se_X12_stayAt ml_X12_593 hD3 rfl rfl (Nat.le_of_ble_eq_true rfl) (sk_124 hs) (sn hs (by decide)) (by decide) rfl (by decide +kernel) hC4 ?_
    obtain ⟨g7, h⟩ := h
    refine E_iald2 (v6.toNatClampNeg) dX12_livingIn_27 (sk_125 hs5) (sn hs5 (by decide)) g7 rfl ?_
    refine E_iload_n 1 dX12_livingIn_28 rfl rfl ?_
    refine E_icmp_ne 47 dX12_livingIn_29 (by decide) (fun c => ?_) (fun c => ?_)
    · rw [if_neg c] at h
      exact E_lv [0, 1, 2, 3, 4] rfl (w_X12_livingIn_47 hs5 h)
    · rw [if_pos c] at h
      refine E_aload_n 0 dX12_livingIn_32 rfl rfl ?_
      refine E_iload 4 dX12_livingIn_33 rfl ?_
      refine E_iload_n 2 dX12_livingIn_35 rfl rfl ?_
      obtain ⟨d8, v13, σ9, hD10, hC11, h⟩ := h
      have hs12 := hC11.1.2.2.2.1 hs5
      refine E_callV (As := [.int x4, .int x2]) (rest := []) (r1 := (some (.int v13))) (b := 124) dX12_livingIn_36 ok_X12_livesIn in_X12_livesIn se_X12_livesIn ml_X12_596 hD10 rfl rfl (Nat.le_of_ble_eq_true rfl) (sk_124 hs5) (sn hs5 (by decide)) (by decide) rfl (by decide +kernel) hC11 ?_
      refine E_if_eq 47 dX12_livingIn_39 (by decide) (fun c => ?_) (fun c => ?_)
      · rw [if_pos c] at h
        exact E_lv [0, 1, 2, 3, 4] rfl (w_X12_livingIn_47 hs12 h)
      · rw [if_neg c] at h
        refine E_iload 4 dX12_livingIn_42 rfl ?_
        refine E_goto 48 dX12_livingIn_44 (by decide) ?_
        exact E_lv [0, 1, 2, 4] rfl (w_X12_livingIn_48 hs12 h)
def W_X12_lives_0 (X : Sx) (l : Launch) (D : Nat) (x1 : Int32) (x2 : Int32) (x3 : Int32) (σ : AH) (r : Option Value) (σ' : AH) : Prop := ∃ d1 : Nat, ∃ v6 : Int32, ∃ σ2 : AH, d1 + 1 ≤ D ∧ Call X l m_X12_isPlot d1 [.ref 124, .int x1] (sI σ 124 0 (0 : Int32)) (some (.int v6)) σ2 ∧ (if v6 = 0 then (r = some (.int (-1 : Int32)) ∧ σ' = σ2) else ∃ d7 : Nat, ∃ v12 : Int32, ∃ σ8 : AH, d7 + 1 ≤ D ∧ Call X l m_X12_isWeek d7 [.int x2] σ2 (some (.int v12)) σ8 ∧ (if v12 = 0 then (r = some (.int (-1 : Int32)) ∧ σ' = σ8) else ∃ d13 : Nat, ∃ v18 : Int32, ∃ σ14 : AH, d13 + 1 ≤ D ∧ Call X l m_X12_in d13 [.long (x3).toInt64, .long (0 : Int64), .long (2 : Int64)] σ8 (some (.int v18)) σ14 ∧ (if v18 = 0 then (r = some (.int (-1 : Int32)) ∧ σ' = σ14) else ∃ d19 : Nat, ∃ v24 : Int32, ∃ σ20 : AH, d19 + 1 ≤ D ∧ Call X l m_X12_livingIn d19 [.ref 124, .int x1, .int x2] σ14 (some (.int v24)) σ20 ∧ (if v24 = (-1 : Int32) then (r = some (.int (-1 : Int32)) ∧ σ' = σ20) else (if x3 = 0 then ∃ d39 : Nat, ∃ v44 : Int32, ∃ σ40 : AH, d39 + 1 ≤ D ∧ Call X l m_X12_stayAt d39 [.ref 124, .int v24] σ20 (some (.int v44)) σ40 ∧ vp_in (v44 + (1 : Int32)) 269832 ∧ (r = some (.int (gI σ40 125 (v44 + (1 : Int32)).toNatClampNeg)) ∧ σ' = σ40) else (if x3 = (1 : Int32) then ∃ d32 : Nat, ∃ v37 : Int32, ∃ σ33 : AH, d32 + 1 ≤ D ∧ Call X l m_X12_stayAt d32 [.ref 124, .int v24] σ20 (some (.int v37)) σ33 ∧ vp_in (v37 + (2 : Int32)) 269832 ∧ (r = some (.int (gI σ33 125 (v37 + (2 : Int32)).toNatClampNeg)) ∧ σ' = σ33) else ∃ d25 : Nat, ∃ v30 : Int32, ∃ σ26 : AH, d25 + 1 ≤ D ∧ Call X l m_X12_stayAt d25 [.ref 124, .int v24] σ20 (some (.int v30)) σ26 ∧ vp_in (v30 + (6 : Int32)) 269832 ∧ (r = some (.int (gI σ26 125 (v30 + (6 : Int32)).toNatClampNeg)) ∧ σ' = σ26)))))))
set_option maxRecDepth 100000 in
theorem w_X12_lives_0 {X : Sx} {l : Launch} {D : Nat} {x1 : Int32} {x2 : Int32} {x3 : Int32} {σ : AH} {r : Option Value} {σ' : AH} (hs : Sh σ) (h : W_X12_lives_0 X l D x1 x2 x3 σ r σ') : E X l m_X12_lives D 0 [(0, .ref 124), (1, .int x1), (2, .int x2), (3, .int x3)] [] σ r σ' := by
  unfold W_X12_lives_0 at h
  refine E_aload_n 0 dX12_lives_0 rfl rfl ?_
  refine E_iconst (0 : Int32) dX12_lives_1 (by decide) ?_
  refine E_putI dX12_lives_2 fl_X12_145 rfl (Or.inl rfl) (sk_124 hs) (sn hs (by decide)) (Or.inl (by decide)) rfl rfl ?_
  refine E_aload_n 0 dX12_lives_5 rfl rfl ?_
  refine E_iload_n 1 dX12_lives_6 rfl rfl ?_
  obtain ⟨d1, v6, σ2, hD3, hC4, h⟩ := h
  have hs5 := hC4.1.2.2.2.1 hs
  refine E_callV (As := [.int x1]) (rest := []) (r1 := (some (.int v6))) (b := 124) dX12_lives_7 ok_X12_isPlot in_X12_isPlot se_X12_isPlot ml_X12_471 hD3 rfl rfl (Nat.le_of_ble_eq_true rfl) (sk_124 hs) (sn hs (by decide)) (by decide) rfl (by decide +kernel) hC4 ?_
  refine E_if_eq 32 dX12_lives_10 (by decide) (fun c => ?_) (fun c => ?_)
  · rw [if_pos c] at h
    refine E_iconst (-1 : Int32) dX12_lives_32 (by decide) ?_
    obtain ⟨rfl, rfl⟩ := h
    exact E_iret dX12_lives_33 rfl
  · rw [if_neg c] at h
    refine E_iload_n 2 dX12_lives_13 rfl rfl ?_
    obtain ⟨d7, v12, σ8, hD9, hC10, h⟩ := h
    have hs11 := hC10.1.2.2.2.1 hs5
    refine E_callS (As := [.int x2]) (rest := []) (r1 := (some (.int v12))) dX12_lives_14 ok_X12_isWeek is_X12_isWeek ml_X12_387 hD9 rfl rfl (Nat.le_of_ble_eq_true rfl) (by decide +kernel) hC10 ?_
    refine E_if_eq 32 dX12_lives_17 (by decide) (fun c => ?_) (fun c => ?_)
    · rw [if_pos c] at h
      refine E_iconst (-1 : Int32) dX12_lives_32 (by decide) ?_
      obtain ⟨rfl, rfl⟩ := h
      exact E_iret dX12_lives_33 rfl
    · rw [if_neg c] at h
      refine E_iload_n 3 dX12_lives_20 rfl rfl ?_
      refine E_i2l dX12_lives_21 ?_
      refine E_lconst (0 : Int64) dX12_lives_22 (by decide) ?_
      refine E_ldc2 (2 : Int64) dX12_lives_23 cl_X12_161 ?_
      obtain ⟨d13, v18, σ14, hD15, hC16, h⟩ := h
      have hs17 := hC16.1.2.2.2.1 hs11
      refine E_callS (As := [.long (x3).toInt64, .long (0 : Int64), .long (2 : Int64)]) (rest := []) (r1 := (some (.int v18))) dX12_lives_26 ok_X12_in is_X12_in ml_X12_153 hD15 rfl rfl (Nat.le_of_ble_eq_true rfl) (by decide +kernel) hC16 ?_
      refine E_if_ne 34 dX12_lives_29 (by decide) (fun c => ?_) (fun c => ?_)
      · rw [if_neg c] at h
        refine E_aload_n 0 dX12_lives_34 rfl rfl ?_
        refine E_iload_n 1 dX12_lives_35 rfl rfl ?_
        refine E_iload_n 2 dX12_lives_36 rfl rfl ?_
        obtain ⟨d19, v24, σ20, hD21, hC22, h⟩ := h
        have hs23 := hC22.1.2.2.2.1 hs17
        refine E_callV (As := [.int x1, .int x2]) (rest := []) (r1 := (some (.int v24))) (b := 124) dX12_lives_37 ok_X12_livingIn in_X12_livingIn se_X12_livingIn ml_X12_628 hD21 rfl rfl (Nat.le_of_ble_eq_true rfl) (sk_124 hs17) (sn hs17 (by decide)) (by decide) rfl (by decide +kernel) hC22 ?_
        refine E_istore [(4, .int v24), (0, .ref 124), (1, .int x1), (2, .int x2), (3, .int x3)] dX12_lives_40 (by decide) rfl ?_
        refine E_iload 0 dX12_lives_42 rfl ?_
        refine E_iconst (-1 : Int32) dX12_lives_44 (by decide) ?_
        refine E_icmp_ne 52 dX12_lives_45 (by decide) (fun c => ?_) (fun c => ?_)
        · rw [if_neg c] at h
          refine E_iload_n 4 dX12_lives_52 rfl rfl ?_
          refine E_if_ne 72 dX12_lives_53 (by decide) (fun c => ?_) (fun c => ?_)
          · rw [if_neg c] at h
            refine E_iload_n 4 dX12_lives_72 rfl rfl ?_
            refine E_iconst (1 : Int32) dX12_lives_73 (by decide) ?_
            refine E_icmp_ne 93 dX12_lives_74 (by decide) (fun c => ?_) (fun c => ?_)
            · rw [if_neg c] at h
              refine E_aload_n 1 dX12_lives_93 rfl rfl ?_
              refine E_getR 125 dX12_lives_94 fl_X12_8 rfl (sk_124 hs23) (sn hs23 (by decide)) (sr_124_2 hs23) ?_
              refine E_aload_n 1 dX12_lives_97 rfl rfl ?_
              refine E_iload 0 dX12_lives_98 rfl ?_
              obtain ⟨d25, v30, σ26, hD27, hC28, h⟩ := h
              have hs29 := hC28.1.2.2.2.1 hs23
              refine E_callV (As := [.int v24]) (rest := [.ref 125]) (r1 := (some (.int v30))) (b := 124) dX12_lives_100 ok_X12_stayAt in_X12_stayAt se_X12_stayAt ml_X12_593 hD27 rfl rfl (Nat.le_of_ble_eq_true rfl) (sk_124 hs23) (sn hs23 (by decide)) (by decide) rfl (by decide +kernel) hC28 ?_
              refine E_bipush (6 : Int32) dX12_lives_103 (by decide) ?_
              refine E_iadd dX12_lives_105 ?_
              obtain ⟨g31, h⟩ := h
              refine E_iald2 ((v30 + (6 : Int32)).toNatClampNeg) dX12_lives_106 (sk_125 hs29) (sn hs29 (by decide)) g31 rfl ?_
              obtain ⟨rfl, rfl⟩ := h
              exact E_iret dX12_lives_107 rfl
            · rw [if_pos c] at h
              refine E_aload_n 1 dX12_lives_77 rfl rfl ?_
              refine E_getR 125 dX12_lives_78 fl_X12_8 rfl (sk_124 hs23) (sn hs23 (by decide)) (sr_124_2 hs23) ?_
              refine E_aload_n 1 dX12_lives_81 rfl rfl ?_
              refine E_iload 0 dX12_lives_82 rfl ?_
              obtain ⟨d32, v37, σ33, hD34, hC35, h⟩ := h
              have hs36 := hC35.1.2.2.2.1 hs23
              refine E_callV (As := [.int v24]) (rest := [.ref 125]) (r1 := (some (.int v37))) (b := 124) dX12_lives_84 ok_X12_stayAt in_X12_stayAt se_X12_stayAt ml_X12_593 hD34 rfl rfl (Nat.le_of_ble_eq_true rfl) (sk_124 hs23) (sn hs23 (by decide)) (by decide) rfl (by decide +kernel) hC35 ?_
              refine E_iconst (2 : Int32) dX12_lives_87 (by decide) ?_
              refine E_iadd dX12_lives_88 ?_
              obtain ⟨g38, h⟩ := h
              refine E_iald2 ((v37 + (2 : Int32)).toNatClampNeg) dX12_lives_89 (sk_125 hs36) (sn hs36 (by decide)) g38 rfl ?_
              refine E_goto 107 dX12_lives_90 (by decide) ?_
              obtain ⟨rfl, rfl⟩ := h
              exact E_iret dX12_lives_107 rfl
          · rw [if_pos c] at h
            refine E_aload_n 1 dX12_lives_56 rfl rfl ?_
            refine E_getR 125 dX12_lives_57 fl_X12_8 rfl (sk_124 hs23) (sn hs23 (by decide)) (sr_124_2 hs23) ?_
            refine E_aload_n 1 dX12_lives_60 rfl rfl ?_
            refine E_iload 0 dX12_lives_61 rfl ?_
            obtain ⟨d39, v44, σ40, hD41, hC42, h⟩ := h
            have hs43 := hC42.1.2.2.2.1 hs23
            refine E_callV (As := [.int v24]) (rest := [.ref 125]) (r1 := (some (.int v44))) (b := 124) dX12_lives_63 ok_X12_stayAt in_X12_stayAt se_X12_stayAt ml_X12_593 hD41 rfl rfl (Nat.le_of_ble_eq_true rfl) (sk_124 hs23) (sn hs23 (by decide)) (by decide) rfl (by decide +kernel) hC42 ?_
            refine E_iconst (1 : Int32) dX12_lives_66 (by decide) ?_
            refine E_iadd dX12_lives_67 ?_
            obtain ⟨g45, h⟩ := h
            refine E_iald2 ((v44 + (1 : Int32)).toNatClampNeg) dX12_lives_68 (sk_125 hs43) (sn hs43 (by decide)) g45 rfl ?_
            refine E_goto 107 dX12_lives_69 (by decide) ?_
            obtain ⟨rfl, rfl⟩ := h
            exact E_iret dX12_lives_107 rfl
        · rw [if_pos c] at h
          refine E_iconst (-1 : Int32) dX12_lives_48 (by decide) ?_
          refine E_goto 107 dX12_lives_49 (by decide) ?_
          obtain ⟨rfl, rfl⟩ := h
          exact E_iret dX12_lives_107 rfl
      · rw [if_pos c] at h
        refine E_iconst (-1 : Int32) dX12_lives_32 (by decide) ?_
        obtain ⟨rfl, rfl⟩ := h
        exact E_iret dX12_lives_33 rfl
def W_X12_roof_0 (X : Sx) (l : Launch) (D : Nat) (x1 : Int32) (x2 : Int32) (σ : AH) (r : Option Value) (σ' : AH) : Prop := ∃ d1 : Nat, ∃ v6 : Int32, ∃ σ2 : AH, d1 + 1 ≤ D ∧ Call X l m_X12_isEntry d1 [.ref 124, .int x1] (sI σ 124 0 (0 : Int32)) (some (.int v6)) σ2 ∧ (if v6 = 0 then (r = some (.int (-1 : Int32)) ∧ σ' = σ2) else ∃ d7 : Nat, ∃ v12 : Int32, ∃ σ8 : AH, d7 + 1 ≤ D ∧ Call X l m_X12_isWeek d7 [.int x2] σ2 (some (.int v12)) σ8 ∧ (if v12 = 0 then (r = some (.int (-1 : Int32)) ∧ σ' = σ8) else ∃ d13 : Nat, ∃ v18 : Int32, ∃ σ14 : AH, d13 + 1 ≤ D ∧ Call X l m_X12_entryAt d13 [.ref 124, .int x1, .int (6 : Int32)] σ8 (some (.int v18)) σ14 ∧ (if v18 ≤ x2 then ∃ d19 : Nat, ∃ σ20 : AH, d19 + 1 ≤ D ∧ Call X l m_X12_findFamilies d19 [.ref 124, .int x2] σ14 none σ20 ∧ vp_in x1 60 ∧ ∃ d25 : Nat, ∃ v30 : Int32, ∃ σ26 : AH, d25 + 1 ≤ D ∧ Call X l m_X12_stayOf d25 [.ref 124, .int (gI σ20 160 x1.toNatClampNeg), .int x2, .int (1 : Int32)] σ20 (some (.int v30)) σ26 ∧ (if v30 = (-1 : Int32) then (r = some (.int (-1 : Int32)) ∧ σ' = σ26) else ∃ d31 : Nat, ∃ v36 : Int32, ∃ σ32 : AH, d31 + 1 ≤ D ∧ Call X l m_X12_stayAt d31 [.ref 124, .int v30] σ26 (some (.int v36)) σ32 ∧ vp_in v36 269832 ∧ (r = some (.int (gI σ32 125 v36.toNatClampNeg)) ∧ σ' = σ32)) else (r = some (.int (-1 : Int32)) ∧ σ' = σ14))))
set_option maxRecDepth 100000 in
theorem w_X12_roof_0 {X : Sx} {l : Launch} {D : Nat} {x1 : Int32} {x2 : Int32} {σ : AH} {r : Option Value} {σ' : AH} (hs : Sh σ) (h : W_X12_roof_0 X l D x1 x2 σ r σ') : E X l m_X12_roof D 0 [(0, .ref 124), (1, .int x1), (2, .int x2)] [] σ r σ' := by
  unfold W_X12_roof_0 at h
  refine E_aload_n 0 dX12_roof_0 rfl rfl ?_
  refine E_iconst (0 : Int32) dX12_roof_1 (by decide) ?_
  refine E_putI dX12_roof_2 fl_X12_145 rfl (Or.inl rfl) (sk_124 hs) (sn hs (by decide)) (Or.inl (by decide)) rfl rfl ?_
  refine E_aload_n 0 dX12_roof_5 rfl rfl ?_
  refine E_iload_n 1 dX12_roof_6 rfl rfl ?_
  obtain ⟨d1, v6, σ2, hD3, hC4, h⟩ := h
  have hs5 := hC4.1.2.2.2.1 hs
  refine E_callV (As := [.int x1]) (rest := []) (r1 := (some (.int v6))) (b := 124) dX12_roof_7 ok_X12_isEntry in_X12_isEntry se_X12_isEntry ml_X12_559 hD3 rfl rfl (Nat.le_of_ble_eq_true rfl) (sk_124 hs) (sn hs (by decide)) (by decide) rfl (by decide +kernel) hC4 ?_
  refine E_if_eq 31 dX12_roof_10 (by decide) (fun c => ?_) (fun c => ?_)
  · rw [if_pos c] at h
    refine E_iconst (-1 : Int32) dX12_roof_31 (by decide) ?_
    obtain ⟨rfl, rfl⟩ := h
    exact E_iret dX12_roof_32 rfl
  · rw [if_neg c] at h
    refine E_iload_n 2 dX12_roof_13 rfl rfl ?_
    obtain ⟨d7, v12, σ8, hD9, hC10, h⟩ := h
    have hs11 := hC10.1.2.2.2.1 hs5
    refine E_callS (As := [.int x2]) (rest := []) (r1 := (some (.int v12))) dX12_roof_14 ok_X12_isWeek is_X12_isWeek ml_X12_387 hD9 rfl rfl (Nat.le_of_ble_eq_true rfl) (by decide +kernel) hC10 ?_
    refine E_if_eq 31 dX12_roof_17 (by decide) (fun c => ?_) (fun c => ?_)
    · rw [if_pos c] at h
      refine E_iconst (-1 : Int32) dX12_roof_31 (by decide) ?_
      obtain ⟨rfl, rfl⟩ := h
      exact E_iret dX12_roof_32 rfl
    · rw [if_neg c] at h
      refine E_aload_n 0 dX12_roof_20 rfl rfl ?_
      refine E_iload_n 1 dX12_roof_21 rfl rfl ?_
      refine E_bipush (6 : Int32) dX12_roof_22 (by decide) ?_
      obtain ⟨d13, v18, σ14, hD15, hC16, h⟩ := h
      have hs17 := hC16.1.2.2.2.1 hs11
      refine E_callV (As := [.int x1, .int (6 : Int32)]) (rest := []) (r1 := (some (.int v18))) (b := 124) dX12_roof_24 ok_X12_entryAt in_X12_entryAt se_X12_entryAt ml_X12_562 hD15 rfl rfl (Nat.le_of_ble_eq_true rfl) (sk_124 hs11) (sn hs11 (by decide)) (by decide) rfl (by decide +kernel) hC16 ?_
      refine E_iload_n 2 dX12_roof_27 rfl rfl ?_
      refine E_icmp_le 33 dX12_roof_28 (by decide) (fun c => ?_) (fun c => ?_)
      · rw [if_pos c] at h
        refine E_aload_n 0 dX12_roof_33 rfl rfl ?_
        refine E_iload_n 2 dX12_roof_34 rfl rfl ?_
        obtain ⟨d19, σ20, hD21, hC22, h⟩ := h
        have hs23 := hC22.1.2.2.2.1 hs17
        refine E_callV (As := [.int x2]) (rest := []) (r1 := none) (b := 124) dX12_roof_35 ok_X12_findFamilies in_X12_findFamilies se_X12_findFamilies ml_X12_568 hD21 rfl rfl (Nat.le_of_ble_eq_true rfl) (sk_124 hs17) (sn hs17 (by decide)) (by decide) rfl (by decide +kernel) hC22 ?_
        refine E_aload_n 0 dX12_roof_38 rfl rfl ?_
        refine E_aload_n 0 dX12_roof_39 rfl rfl ?_
        refine E_getR 160 dX12_roof_40 fl_X12_127 rfl (sk_124 hs23) (sn hs23 (by decide)) (sr_124_62 hs23) ?_
        refine E_iload_n 1 dX12_roof_43 rfl rfl ?_
        obtain ⟨g24, h⟩ := h
        refine E_iald2 (x1.toNatClampNeg) dX12_roof_44 (sk_160 hs23) (sn hs23 (by decide)) g24 rfl ?_
        refine E_iload_n 2 dX12_roof_45 rfl rfl ?_
        refine E_iconst (1 : Int32) dX12_roof_46 (by decide) ?_
        obtain ⟨d25, v30, σ26, hD27, hC28, h⟩ := h
        have hs29 := hC28.1.2.2.2.1 hs23
        refine E_callV (As := [.int (gI σ20 160 x1.toNatClampNeg), .int x2, .int (1 : Int32)]) (rest := []) (r1 := (some (.int v30))) (b := 124) dX12_roof_47 ok_X12_stayOf in_X12_stayOf se_X12_stayOf ml_X12_605 hD27 rfl rfl (Nat.le_of_ble_eq_true rfl) (sk_124 hs23) (sn hs23 (by decide)) (by decide) rfl (by decide +kernel) hC28 ?_
        refine E_istore_n [(3, .int v30), (0, .ref 124), (1, .int x1), (2, .int x2)] dX12_roof_50 rfl (by decide) rfl ?_
        refine E_iload_n 0 dX12_roof_51 rfl rfl ?_
        refine E_iconst (-1 : Int32) dX12_roof_52 (by decide) ?_
        refine E_icmp_ne 60 dX12_roof_53 (by decide) (fun c => ?_) (fun c => ?_)
        · rw [if_neg c] at h
          refine E_aload_n 1 dX12_roof_60 rfl rfl ?_
          refine E_getR 125 dX12_roof_61 fl_X12_8 rfl (sk_124 hs29) (sn hs29 (by decide)) (sr_124_2 hs29) ?_
          refine E_aload_n 1 dX12_roof_64 rfl rfl ?_
          refine E_iload_n 0 dX12_roof_65 rfl rfl ?_
          obtain ⟨d31, v36, σ32, hD33, hC34, h⟩ := h
          have hs35 := hC34.1.2.2.2.1 hs29
          refine E_callV (As := [.int v30]) (rest := [.ref 125]) (r1 := (some (.int v36))) (b := 124) dX12_roof_66 ok_X12_stayAt in_X12_stayAt se_X12_stayAt ml_X12_593 hD33 rfl rfl (Nat.le_of_ble_eq_true rfl) (sk_124 hs29) (sn hs29 (by decide)) (by decide) rfl (by decide +kernel) hC34 ?_
          obtain ⟨g37, h⟩ := h
          refine E_iald2 (v36.toNatClampNeg) dX12_roof_69 (sk_125 hs35) (sn hs35 (by decide)) g37 rfl ?_
          obtain ⟨rfl, rfl⟩ := h
          exact E_iret dX12_roof_70 rfl
        · rw [if_pos c] at h
          refine E_iconst (-1 : Int32) dX12_roof_56 (by decide) ?_
          refine E_goto 70 dX12_roof_57 (by decide) ?_
          obtain ⟨rfl, rfl⟩ := h
          exact E_iret dX12_roof_70 rfl
      · rw [if_neg c] at h
        refine E_iconst (-1 : Int32) dX12_roof_31 (by decide) ?_
        obtain ⟨rfl, rfl⟩ := h
        exact E_iret dX12_roof_32 rfl
