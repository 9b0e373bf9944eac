theorem dX10_needsAt_0 : decode cX10_needsAt 0 = .ok (.iload_n 1, 1) := by decide +kernel
theorem dX10_needsAt_1 : decode cX10_needsAt 1 = .ok (.iconst 3, 1) := by decide +kernel
theorem dX10_needsAt_2 : decode cX10_needsAt 2 = .ok (.imul, 1) := by decide +kernel
theorem dX10_needsAt_3 : decode cX10_needsAt 3 = .ok (.iload_n 2, 1) := by decide +kernel
theorem dX10_needsAt_4 : decode cX10_needsAt 4 = .ok (.iadd, 1) := by decide +kernel
theorem dX10_needsAt_5 : decode cX10_needsAt 5 = .ok (.bipush 6, 2) := by decide +kernel
theorem dX10_needsAt_7 : decode cX10_needsAt 7 = .ok (.imul, 1) := by decide +kernel
theorem dX10_needsAt_8 : decode cX10_needsAt 8 = .ok (.iload_n 3, 1) := by decide +kernel
theorem dX10_needsAt_9 : decode cX10_needsAt 9 = .ok (.iadd, 1) := by decide +kernel
theorem dX10_needsAt_10 : decode cX10_needsAt 10 = .ok (.iconst 1, 1) := by decide +kernel
theorem dX10_needsAt_11 : decode cX10_needsAt 11 = .ok (.isub, 1) := by decide +kernel
theorem dX10_needsAt_12 : decode cX10_needsAt 12 = .ok (.istore 5, 2) := by decide +kernel
theorem dX10_needsAt_14 : decode cX10_needsAt 14 = .ok (.iload 4, 2) := by decide +kernel
theorem dX10_needsAt_16 : decode cX10_needsAt 16 = .ok (.bipush 13, 2) := by decide +kernel
theorem dX10_needsAt_18 : decode cX10_needsAt 18 = .ok (.irem, 1) := by decide +kernel
theorem dX10_needsAt_19 : decode cX10_needsAt 19 = .ok (.bipush 54, 2) := by decide +kernel
theorem dX10_needsAt_21 : decode cX10_needsAt 21 = .ok (.imul, 1) := by decide +kernel
theorem dX10_needsAt_22 : decode cX10_needsAt 22 = .ok (.iload 5, 2) := by decide +kernel
theorem dX10_needsAt_24 : decode cX10_needsAt 24 = .ok (.iadd, 1) := by decide +kernel
theorem dX10_needsAt_25 : decode cX10_needsAt 25 = .ok (.istore 6, 2) := by decide +kernel
theorem dX10_needsAt_27 : decode cX10_needsAt 27 = .ok (.aload_n 0, 1) := by decide +kernel
theorem dX10_needsAt_28 : decode cX10_needsAt 28 = .ok (.getfield 46, 3) := by decide +kernel
theorem dX10_needsAt_31 : decode cX10_needsAt 31 = .ok (.iload 6, 2) := by decide +kernel
theorem dX10_needsAt_33 : decode cX10_needsAt 33 = .ok (.iaload, 1) := by decide +kernel
theorem dX10_needsAt_34 : decode cX10_needsAt 34 = .ok (.iload 4, 2) := by decide +kernel
theorem dX10_needsAt_36 : decode cX10_needsAt 36 = .ok (.if_icmp .eq 82, 3) := by decide +kernel
theorem dX10_needsAt_39 : decode cX10_needsAt 39 = .ok (.aload_n 0, 1) := by decide +kernel
theorem dX10_needsAt_40 : decode cX10_needsAt 40 = .ok (.getfield 46, 3) := by decide +kernel
theorem dX10_needsAt_43 : decode cX10_needsAt 43 = .ok (.iload 6, 2) := by decide +kernel
theorem dX10_needsAt_45 : decode cX10_needsAt 45 = .ok (.iload 4, 2) := by decide +kernel
theorem dX10_needsAt_47 : decode cX10_needsAt 47 = .ok (.iastore, 1) := by decide +kernel
theorem dX10_needsAt_48 : decode cX10_needsAt 48 = .ok (.aload_n 0, 1) := by decide +kernel
theorem dX10_needsAt_49 : decode cX10_needsAt 49 = .ok (.getfield 53, 3) := by decide +kernel
theorem dX10_needsAt_52 : decode cX10_needsAt 52 = .ok (.iload 4, 2) := by decide +kernel
theorem dX10_needsAt_54 : decode cX10_needsAt 54 = .ok (.aload_n 0, 1) := by decide +kernel
theorem dX10_needsAt_55 : decode cX10_needsAt 55 = .ok (.getfield 9, 3) := by decide +kernel
theorem dX10_needsAt_58 : decode cX10_needsAt 58 = .ok (.invokevirtual 153, 3) := by decide +kernel
theorem dX10_needsAt_61 : decode cX10_needsAt 61 = .ok (.aload_n 0, 1) := by decide +kernel
theorem dX10_needsAt_62 : decode cX10_needsAt 62 = .ok (.getfield 53, 3) := by decide +kernel
theorem dX10_needsAt_65 : decode cX10_needsAt 65 = .ok (.iload_n 3, 1) := by decide +kernel
theorem dX10_needsAt_66 : decode cX10_needsAt 66 = .ok (.iload 4, 2) := by decide +kernel
theorem dX10_needsAt_68 : decode cX10_needsAt 68 = .ok (.invokevirtual 158, 3) := by decide +kernel
theorem dX10_needsAt_71 : decode cX10_needsAt 71 = .ok (.iconst 0, 1) := by decide +kernel
theorem dX10_needsAt_72 : decode cX10_needsAt 72 = .ok (.istore 7, 2) := by decide +kernel
theorem dX10_needsAt_74 : decode cX10_needsAt 74 = .ok (.iload 7, 2) := by decide +kernel
theorem dX10_needsAt_76 : decode cX10_needsAt 76 = .ok (.bipush 6, 2) := by decide +kernel
theorem dX10_needsAt_78 : decode cX10_needsAt 78 = .ok (.if_icmp .ge 40, 3) := by decide +kernel
theorem dX10_needsAt_81 : decode cX10_needsAt 81 = .ok (.aload_n 0, 1) := by decide +kernel
theorem dX10_needsAt_82 : decode cX10_needsAt 82 = .ok (.getfield 43, 3) := by decide +kernel
theorem dX10_needsAt_85 : decode cX10_needsAt 85 = .ok (.iload 6, 2) := by decide +kernel
theorem dX10_needsAt_87 : decode cX10_needsAt 87 = .ok (.bipush 6, 2) := by decide +kernel
theorem dX10_needsAt_89 : decode cX10_needsAt 89 = .ok (.imul, 1) := by decide +kernel
theorem dX10_needsAt_90 : decode cX10_needsAt 90 = .ok (.iload 7, 2) := by decide +kernel
theorem dX10_needsAt_92 : decode cX10_needsAt 92 = .ok (.iadd, 1) := by decide +kernel
theorem dX10_needsAt_93 : decode cX10_needsAt 93 = .ok (.iconst 0, 1) := by decide +kernel
theorem dX10_needsAt_94 : decode cX10_needsAt 94 = .ok (.aload_n 0, 1) := by decide +kernel
theorem dX10_needsAt_95 : decode cX10_needsAt 95 = .ok (.getfield 53, 3) := by decide +kernel
theorem dX10_needsAt_98 : decode cX10_needsAt 98 = .ok (.iload_n 1, 1) := by decide +kernel
theorem dX10_needsAt_99 : decode cX10_needsAt 99 = .ok (.iload_n 2, 1) := by decide +kernel
theorem dX10_needsAt_100 : decode cX10_needsAt 100 = .ok (.iload 7, 2) := by decide +kernel
theorem dX10_needsAt_102 : decode cX10_needsAt 102 = .ok (.invokestatic 187, 3) := by decide +kernel
theorem dX10_needsAt_105 : decode cX10_needsAt 105 = .ok (.invokevirtual 161, 3) := by decide +kernel
theorem dX10_needsAt_108 : decode cX10_needsAt 108 = .ok (.invokestatic 191, 3) := by decide +kernel
theorem dX10_needsAt_111 : decode cX10_needsAt 111 = .ok (.iastore, 1) := by decide +kernel
theorem dX10_needsAt_112 : decode cX10_needsAt 112 = .ok (.iinc 7 1, 3) := by decide +kernel
theorem dX10_needsAt_115 : decode cX10_needsAt 115 = .ok (.goto (-41), 3) := by decide +kernel
theorem dX10_needsAt_118 : decode cX10_needsAt 118 = .ok (.iload 6, 2) := by decide +kernel
theorem dX10_needsAt_120 : decode cX10_needsAt 120 = .ok (.bipush 6, 2) := by decide +kernel
theorem dX10_needsAt_122 : decode cX10_needsAt 122 = .ok (.imul, 1) := by decide +kernel
theorem dX10_needsAt_123 : decode cX10_needsAt 123 = .ok (.ireturn, 1) := by decide +kernel
theorem dX11_init_0 : decode cX11_init 0 = .ok (.aload_n 0, 1) := by decide +kernel
theorem dX11_init_1 : decode cX11_init 1 = .ok (.invokespecial 1, 3) := by decide +kernel
theorem dX11_init_4 : decode cX11_init 4 = .ok (.aload_n 0, 1) := by decide +kernel
theorem dX11_init_5 : decode cX11_init 5 = .ok (.new 7, 3) := by decide +kernel
theorem dX11_init_8 : decode cX11_init 8 = .ok (.dup, 1) := by decide +kernel
theorem dX11_init_9 : decode cX11_init 9 = .ok (.invokespecial 9, 3) := by decide +kernel
theorem dX11_init_12 : decode cX11_init 12 = .ok (.putfield 10, 3) := by decide +kernel
theorem dX11_init_15 : decode cX11_init 15 = .ok (.aload_n 0, 1) := by decide +kernel
theorem dX11_init_16 : decode cX11_init 16 = .ok (.iconst 3, 1) := by decide +kernel
theorem dX11_init_17 : decode cX11_init 17 = .ok (.anewarray 7, 3) := by decide +kernel
theorem dX11_init_20 : decode cX11_init 20 = .ok (.putfield 16, 3) := by decide +kernel
theorem dX11_init_23 : decode cX11_init 23 = .ok (.aload_n 0, 1) := by decide +kernel
theorem dX11_init_24 : decode cX11_init 24 = .ok (.new 20, 3) := by decide +kernel
theorem dX11_init_27 : decode cX11_init 27 = .ok (.dup, 1) := by decide +kernel
theorem dX11_init_28 : decode cX11_init 28 = .ok (.invokespecial 22, 3) := by decide +kernel
theorem dX11_init_31 : decode cX11_init 31 = .ok (.putfield 23, 3) := by decide +kernel
theorem dX11_init_34 : decode cX11_init 34 = .ok (.aload_n 0, 1) := by decide +kernel
theorem dX11_init_35 : decode cX11_init 35 = .ok (.new 27, 3) := by decide +kernel
theorem dX11_init_38 : decode cX11_init 38 = .ok (.dup, 1) := by decide +kernel
theorem dX11_init_39 : decode cX11_init 39 = .ok (.aload_n 0, 1) := by decide +kernel
theorem dX11_init_40 : decode cX11_init 40 = .ok (.getfield 10, 3) := by decide +kernel
theorem dX11_init_43 : decode cX11_init 43 = .ok (.invokespecial 29, 3) := by decide +kernel
theorem dX11_init_46 : decode cX11_init 46 = .ok (.putfield 32, 3) := by decide +kernel
theorem dX11_init_49 : decode cX11_init 49 = .ok (.aload_n 0, 1) := by decide +kernel
theorem dX11_init_50 : decode cX11_init 50 = .ok (.new 36, 3) := by decide +kernel
theorem dX11_init_53 : decode cX11_init 53 = .ok (.dup, 1) := by decide +kernel
theorem dX11_init_54 : decode cX11_init 54 = .ok (.aload_n 0, 1) := by decide +kernel
theorem dX11_init_55 : decode cX11_init 55 = .ok (.getfield 10, 3) := by decide +kernel
theorem dX11_init_58 : decode cX11_init 58 = .ok (.aload_n 0, 1) := by decide +kernel
theorem dX11_init_59 : decode cX11_init 59 = .ok (.getfield 32, 3) := by decide +kernel
theorem dX11_init_62 : decode cX11_init 62 = .ok (.invokespecial 38, 3) := by decide +kernel
theorem dX11_init_65 : decode cX11_init 65 = .ok (.putfield 41, 3) := by decide +kernel
theorem dX11_init_68 : decode cX11_init 68 = .ok (.aload_n 0, 1) := by decide +kernel
theorem dX11_init_69 : decode cX11_init 69 = .ok (.new 45, 3) := by decide +kernel
theorem dX11_init_72 : decode cX11_init 72 = .ok (.dup, 1) := by decide +kernel
theorem dX11_init_73 : decode cX11_init 73 = .ok (.invokespecial 47, 3) := by decide +kernel
theorem dX11_init_76 : decode cX11_init 76 = .ok (.putfield 48, 3) := by decide +kernel
theorem dX11_init_79 : decode cX11_init 79 = .ok (.aload_n 0, 1) := by decide +kernel
theorem dX11_init_80 : decode cX11_init 80 = .ok (.new 45, 3) := by decide +kernel
theorem dX11_init_83 : decode cX11_init 83 = .ok (.dup, 1) := by decide +kernel
theorem dX11_init_84 : decode cX11_init 84 = .ok (.invokespecial 47, 3) := by decide +kernel
theorem dX11_init_87 : decode cX11_init 87 = .ok (.putfield 52, 3) := by decide +kernel
theorem dX11_init_90 : decode cX11_init 90 = .ok (.aload_n 0, 1) := by decide +kernel
theorem dX11_init_91 : decode cX11_init 91 = .ok (.new 55, 3) := by decide +kernel
theorem dX11_init_94 : decode cX11_init 94 = .ok (.dup, 1) := by decide +kernel
theorem dX11_init_95 : decode cX11_init 95 = .ok (.aload_n 0, 1) := by decide +kernel
theorem dX11_init_96 : decode cX11_init 96 = .ok (.getfield 10, 3) := by decide +kernel
theorem dX11_init_99 : decode cX11_init 99 = .ok (.aload_n 0, 1) := by decide +kernel
theorem dX11_init_100 : decode cX11_init 100 = .ok (.getfield 41, 3) := by decide +kernel
theorem dX11_init_103 : decode cX11_init 103 = .ok (.invokespecial 57, 3) := by decide +kernel
theorem dX11_init_106 : decode cX11_init 106 = .ok (.putfield 60, 3) := by decide +kernel
theorem dX11_init_109 : decode cX11_init 109 = .ok (.aload_n 0, 1) := by decide +kernel
theorem dX11_init_110 : decode cX11_init 110 = .ok (.new 64, 3) := by decide +kernel
theorem dX11_init_113 : decode cX11_init 113 = .ok (.dup, 1) := by decide +kernel
theorem dX11_init_114 : decode cX11_init 114 = .ok (.aload_n 0, 1) := by decide +kernel
theorem dX11_init_115 : decode cX11_init 115 = .ok (.getfield 10, 3) := by decide +kernel
theorem dX11_init_118 : decode cX11_init 118 = .ok (.aload_n 0, 1) := by decide +kernel
theorem dX11_init_119 : decode cX11_init 119 = .ok (.getfield 32, 3) := by decide +kernel
theorem dX11_init_122 : decode cX11_init 122 = .ok (.invokespecial 66, 3) := by decide +kernel
theorem dX11_init_125 : decode cX11_init 125 = .ok (.putfield 67, 3) := by decide +kernel
theorem dX11_init_128 : decode cX11_init 128 = .ok (.aload_n 0, 1) := by decide +kernel
theorem dX11_init_129 : decode cX11_init 129 = .ok (.new 71, 3) := by decide +kernel
theorem dX11_init_132 : decode cX11_init 132 = .ok (.dup, 1) := by decide +kernel
theorem dX11_init_133 : decode cX11_init 133 = .ok (.aload_n 0, 1) := by decide +kernel
theorem dX11_init_134 : decode cX11_init 134 = .ok (.getfield 10, 3) := by decide +kernel
theorem dX11_init_137 : decode cX11_init 137 = .ok (.aload_n 0, 1) := by decide +kernel
theorem dX11_init_138 : decode cX11_init 138 = .ok (.getfield 32, 3) := by decide +kernel
theorem dX11_init_141 : decode cX11_init 141 = .ok (.aload_n 0, 1) := by decide +kernel
theorem dX11_init_142 : decode cX11_init 142 = .ok (.getfield 67, 3) := by decide +kernel
theorem dX11_init_145 : decode cX11_init 145 = .ok (.invokespecial 73, 3) := by decide +kernel
theorem dX11_init_148 : decode cX11_init 148 = .ok (.putfield 76, 3) := by decide +kernel
theorem dX11_init_151 : decode cX11_init 151 = .ok (.aload_n 0, 1) := by decide +kernel
theorem dX11_init_152 : decode cX11_init 152 = .ok (.iconst (-1), 1) := by decide +kernel
theorem dX11_init_153 : decode cX11_init 153 = .ok (.putfield 80, 3) := by decide +kernel
theorem dX11_init_156 : decode cX11_init 156 = .ok (.return_, 1) := by decide +kernel
theorem dX11_feed_0 : decode cX11_feed 0 = .ok (.aload_n 0, 1) := by decide +kernel
theorem dX11_feed_1 : decode cX11_feed 1 = .ok (.getfield 23, 3) := by decide +kernel
theorem dX11_feed_4 : decode cX11_feed 4 = .ok (.bipush 20, 2) := by decide +kernel
theorem dX11_feed_6 : decode cX11_feed 6 = .ok (.invokevirtual 84, 3) := by decide +kernel
theorem dX11_feed_9 : decode cX11_feed 9 = .ok (.ifCond .ne 5, 3) := by decide +kernel
theorem dX11_feed_12 : decode cX11_feed 12 = .ok (.iconst (-1), 1) := by decide +kernel
theorem dX11_feed_13 : decode cX11_feed 13 = .ok (.ireturn, 1) := by decide +kernel
theorem dX11_feed_14 : decode cX11_feed 14 = .ok (.aload_n 0, 1) := by decide +kernel
theorem dX11_feed_15 : decode cX11_feed 15 = .ok (.getfield 23, 3) := by decide +kernel
theorem dX11_feed_18 : decode cX11_feed 18 = .ok (.iload_n 1, 1) := by decide +kernel
theorem dX11_feed_19 : decode cX11_feed 19 = .ok (.invokevirtual 88, 3) := by decide +kernel
theorem dX11_feed_22 : decode cX11_feed 22 = .ok (.aload_n 0, 1) := by decide +kernel
theorem dX11_feed_23 : decode cX11_feed 23 = .ok (.getfield 23, 3) := by decide +kernel
theorem dX11_feed_26 : decode cX11_feed 26 = .ok (.iload_n 2, 1) := by decide +kernel
theorem dX11_feed_27 : decode cX11_feed 27 = .ok (.invokevirtual 88, 3) := by decide +kernel
theorem dX11_feed_30 : decode cX11_feed 30 = .ok (.aload_n 0, 1) := by decide +kernel
theorem dX11_feed_31 : decode cX11_feed 31 = .ok (.getfield 23, 3) := by decide +kernel
theorem dX11_feed_34 : decode cX11_feed 34 = .ok (.iload_n 3, 1) := by decide +kernel
theorem dX11_feed_35 : decode cX11_feed 35 = .ok (.invokevirtual 88, 3) := by decide +kernel
theorem dX11_feed_38 : decode cX11_feed 38 = .ok (.aload_n 0, 1) := by decide +kernel
theorem dX11_feed_39 : decode cX11_feed 39 = .ok (.getfield 23, 3) := by decide +kernel
theorem dX11_feed_42 : decode cX11_feed 42 = .ok (.iload 4, 2) := by decide +kernel
theorem dX11_feed_44 : decode cX11_feed 44 = .ok (.invokevirtual 88, 3) := by decide +kernel
theorem dX11_feed_47 : decode cX11_feed 47 = .ok (.aload_n 0, 1) := by decide +kernel
theorem dX11_feed_48 : decode cX11_feed 48 = .ok (.getfield 23, 3) := by decide +kernel
theorem dX11_feed_51 : decode cX11_feed 51 = .ok (.iload 5, 2) := by decide +kernel
theorem dX11_feed_53 : decode cX11_feed 53 = .ok (.invokevirtual 88, 3) := by decide +kernel
theorem dX11_feed_56 : decode cX11_feed 56 = .ok (.aload_n 0, 1) := by decide +kernel
theorem dX11_feed_57 : decode cX11_feed 57 = .ok (.getfield 23, 3) := by decide +kernel
theorem dX11_feed_60 : decode cX11_feed 60 = .ok (.getfield 92, 3) := by decide +kernel
theorem dX11_feed_63 : decode cX11_feed 63 = .ok (.ireturn, 1) := by decide +kernel
theorem dX11_end_0 : decode cX11_end 0 = .ok (.iload_n 1, 1) := by decide +kernel
theorem dX11_end_1 : decode cX11_end 1 = .ok (.ifCond .lt 14, 3) := by decide +kernel
theorem dX11_end_4 : decode cX11_end 4 = .ok (.iload_n 1, 1) := by decide +kernel
theorem dX11_end_5 : decode cX11_end 5 = .ok (.aload_n 0, 1) := by decide +kernel
theorem dX11_end_6 : decode cX11_end 6 = .ok (.getfield 23, 3) := by decide +kernel
theorem dX11_end_9 : decode cX11_end 9 = .ok (.getfield 92, 3) := by decide +kernel
theorem dX11_end_12 : decode cX11_end 12 = .ok (.if_icmp .le 5, 3) := by decide +kernel
theorem dX11_end_15 : decode cX11_end 15 = .ok (.iconst (-1), 1) := by decide +kernel
theorem dX11_end_16 : decode cX11_end 16 = .ok (.ireturn, 1) := by decide +kernel
theorem dX11_end_17 : decode cX11_end 17 = .ok (.aload_n 0, 1) := by decide +kernel
theorem dX11_end_18 : decode cX11_end 18 = .ok (.getfield 23, 3) := by decide +kernel
theorem dX11_end_21 : decode cX11_end 21 = .ok (.iload_n 1, 1) := by decide +kernel
theorem dX11_end_22 : decode cX11_end 22 = .ok (.putfield 92, 3) := by decide +kernel
theorem dX11_end_25 : decode cX11_end 25 = .ok (.iload_n 1, 1) := by decide +kernel
theorem dX11_end_26 : decode cX11_end 26 = .ok (.ireturn, 1) := by decide +kernel
theorem dX11_act_0 : decode cX11_act 0 = .ok (.iload_n 1, 1) := by decide +kernel
theorem dX11_act_1 : decode cX11_act 1 = .ok (.invokestatic 95, 3) := by decide +kernel
theorem dX11_act_4 : decode cX11_act 4 = .ok (.ifCond .eq 10, 3) := by decide +kernel
theorem dX11_act_7 : decode cX11_act 7 = .ok (.iload_n 2, 1) := by decide +kernel
theorem dX11_act_8 : decode cX11_act 8 = .ok (.invokestatic 95, 3) := by decide +kernel
theorem dX11_act_11 : decode cX11_act 11 = .ok (.ifCond .ne 7, 3) := by decide +kernel
theorem dX11_act_14 : decode cX11_act 14 = .ok (.iconst (-1), 1) := by decide +kernel
theorem dX11_act_15 : decode cX11_act 15 = .ok (.goto 21, 3) := by decide +kernel
theorem dX11_act_18 : decode cX11_act 18 = .ok (.aload_n 0, 1) := by decide +kernel
theorem dX11_act_19 : decode cX11_act 19 = .ok (.getfield 10, 3) := by decide +kernel
theorem dX11_act_22 : decode cX11_act 22 = .ok (.getfield 98, 3) := by decide +kernel
theorem dX11_act_25 : decode cX11_act 25 = .ok (.bipush 24, 2) := by decide +kernel
theorem dX11_act_27 : decode cX11_act 27 = .ok (.if_icmp .lt 8, 3) := by decide +kernel
theorem dX11_act_30 : decode cX11_act 30 = .ok (.bipush (-5), 2) := by decide +kernel
theorem dX11_act_32 : decode cX11_act 32 = .ok (.goto 4, 3) := by decide +kernel
theorem dX11_act_35 : decode cX11_act 35 = .ok (.iconst 0, 1) := by decide +kernel
theorem dX11_act_36 : decode cX11_act 36 = .ok (.istore_n 3, 1) := by decide +kernel
theorem dX11_act_37 : decode cX11_act 37 = .ok (.iload_n 3, 1) := by decide +kernel
theorem dX11_act_38 : decode cX11_act 38 = .ok (.ifCond .ne 29, 3) := by decide +kernel
theorem dX11_act_41 : decode cX11_act 41 = .ok (.aload_n 0, 1) := by decide +kernel
theorem dX11_act_42 : decode cX11_act 42 = .ok (.aload_n 0, 1) := by decide +kernel
theorem dX11_act_43 : decode cX11_act 43 = .ok (.getfield 23, 3) := by decide +kernel
theorem dX11_act_46 : decode cX11_act 46 = .ok (.invokevirtual 101, 3) := by decide +kernel
theorem dX11_act_49 : decode cX11_act 49 = .ok (.putfield 80, 3) := by decide +kernel
theorem dX11_act_52 : decode cX11_act 52 = .ok (.aload_n 0, 1) := by decide +kernel
theorem dX11_act_53 : decode cX11_act 53 = .ok (.getfield 80, 3) := by decide +kernel
theorem dX11_act_56 : decode cX11_act 56 = .ok (.iconst (-1), 1) := by decide +kernel
theorem dX11_act_57 : decode cX11_act 57 = .ok (.if_icmp .ne 7, 3) := by decide +kernel
theorem dX11_act_60 : decode cX11_act 60 = .ok (.iconst 0, 1) := by decide +kernel
theorem dX11_act_61 : decode cX11_act 61 = .ok (.goto 5, 3) := by decide +kernel
theorem dX11_act_64 : decode cX11_act 64 = .ok (.bipush (-6), 2) := by decide +kernel
theorem dX11_act_66 : decode cX11_act 66 = .ok (.istore_n 3, 1) := by decide +kernel
theorem dX11_act_67 : decode cX11_act 67 = .ok (.aload_n 0, 1) := by decide +kernel
theorem dX11_act_68 : decode cX11_act 68 = .ok (.getfield 23, 3) := by decide +kernel
theorem dX11_act_71 : decode cX11_act 71 = .ok (.iconst 0, 1) := by decide +kernel
theorem dX11_act_72 : decode cX11_act 72 = .ok (.putfield 92, 3) := by decide +kernel
theorem dX11_act_75 : decode cX11_act 75 = .ok (.iload_n 3, 1) := by decide +kernel
theorem dX11_act_76 : decode cX11_act 76 = .ok (.ifCond .eq 9, 3) := by decide +kernel
theorem dX11_act_79 : decode cX11_act 79 = .ok (.aload_n 0, 1) := by decide +kernel
theorem dX11_act_80 : decode cX11_act 80 = .ok (.iload_n 3, 1) := by decide +kernel
theorem dX11_act_81 : decode cX11_act 81 = .ok (.invokevirtual 105, 3) := by decide +kernel
theorem dX11_act_84 : decode cX11_act 84 = .ok (.ireturn, 1) := by decide +kernel
theorem dX11_act_85 : decode cX11_act 85 = .ok (.aload_n 0, 1) := by decide +kernel
theorem dX11_act_86 : decode cX11_act 86 = .ok (.getfield 10, 3) := by decide +kernel
theorem dX11_act_89 : decode cX11_act 89 = .ok (.getfield 98, 3) := by decide +kernel
theorem dX11_act_92 : decode cX11_act 92 = .ok (.istore 4, 2) := by decide +kernel
theorem dX11_act_94 : decode cX11_act 94 = .ok (.aload_n 0, 1) := by decide +kernel
theorem dX11_act_95 : decode cX11_act 95 = .ok (.getfield 10, 3) := by decide +kernel
theorem dX11_act_98 : decode cX11_act 98 = .ok (.getfield 109, 3) := by decide +kernel
theorem dX11_act_101 : decode cX11_act 101 = .ok (.iload 4, 2) := by decide +kernel
theorem dX11_act_103 : decode cX11_act 103 = .ok (.new 113, 3) := by decide +kernel
theorem dX11_act_106 : decode cX11_act 106 = .ok (.dup, 1) := by decide +kernel
theorem dX11_act_107 : decode cX11_act 107 = .ok (.iload_n 1, 1) := by decide +kernel
theorem dX11_act_108 : decode cX11_act 108 = .ok (.iload_n 2, 1) := by decide +kernel
theorem dX11_act_109 : decode cX11_act 109 = .ok (.aload_n 0, 1) := by decide +kernel
theorem dX11_act_110 : decode cX11_act 110 = .ok (.getfield 23, 3) := by decide +kernel
theorem dX11_act_113 : decode cX11_act 113 = .ok (.invokespecial 115, 3) := by decide +kernel
theorem dX11_act_116 : decode cX11_act 116 = .ok (.aastore, 1) := by decide +kernel
theorem dX11_act_117 : decode cX11_act 117 = .ok (.aload_n 0, 1) := by decide +kernel
theorem dX11_act_118 : decode cX11_act 118 = .ok (.getfield 10, 3) := by decide +kernel
theorem dX11_act_121 : decode cX11_act 121 = .ok (.iload 4, 2) := by decide +kernel
theorem dX11_act_123 : decode cX11_act 123 = .ok (.iconst 1, 1) := by decide +kernel
theorem dX11_act_124 : decode cX11_act 124 = .ok (.iadd, 1) := by decide +kernel
theorem dX11_act_125 : decode cX11_act 125 = .ok (.putfield 98, 3) := by decide +kernel
theorem dX11_act_128 : decode cX11_act 128 = .ok (.aload_n 0, 1) := by decide +kernel
theorem dX11_act_129 : decode cX11_act 129 = .ok (.getfield 32, 3) := by decide +kernel
theorem dX11_act_132 : decode cX11_act 132 = .ok (.invokevirtual 118, 3) := by decide +kernel
theorem dX11_act_135 : decode cX11_act 135 = .ok (.aload_n 0, 1) := by decide +kernel
theorem dX11_act_136 : decode cX11_act 136 = .ok (.dup, 1) := by decide +kernel
theorem dX11_act_137 : decode cX11_act 137 = .ok (.getfield 121, 3) := by decide +kernel
theorem dX11_act_140 : decode cX11_act 140 = .ok (.iconst 1, 1) := by decide +kernel
theorem dX11_act_141 : decode cX11_act 141 = .ok (.iadd, 1) := by decide +kernel
theorem dX11_act_142 : decode cX11_act 142 = .ok (.putfield 121, 3) := by decide +kernel
theorem dX11_act_145 : decode cX11_act 145 = .ok (.aload_n 0, 1) := by decide +kernel
theorem dX11_act_146 : decode cX11_act 146 = .ok (.iload 4, 2) := by decide +kernel
theorem dX11_act_148 : decode cX11_act 148 = .ok (.invokevirtual 105, 3) := by decide +kernel
theorem dX11_act_151 : decode cX11_act 151 = .ok (.ireturn, 1) := by decide +kernel
theorem dX11_fault_0 : decode cX11_fault 0 = .ok (.aload_n 0, 1) := by decide +kernel
theorem dX11_fault_1 : decode cX11_fault 1 = .ok (.getfield 80, 3) := by decide +kernel
theorem dX11_fault_4 : decode cX11_fault 4 = .ok (.ireturn, 1) := by decide +kernel
theorem dX11_force_0 : decode cX11_force 0 = .ok (.iload_n 1, 1) := by decide +kernel
theorem dX11_force_1 : decode cX11_force 1 = .ok (.iconst 0, 1) := by decide +kernel
theorem dX11_force_2 : decode cX11_force 2 = .ok (.aload_n 0, 1) := by decide +kernel
theorem dX11_force_3 : decode cX11_force 3 = .ok (.getfield 10, 3) := by decide +kernel
theorem dX11_force_6 : decode cX11_force 6 = .ok (.getfield 98, 3) := by decide +kernel
theorem dX11_force_9 : decode cX11_force 9 = .ok (.iconst 1, 1) := by decide +kernel
theorem dX11_force_10 : decode cX11_force 10 = .ok (.isub, 1) := by decide +kernel
theorem dX11_force_11 : decode cX11_force 11 = .ok (.invokestatic 124, 3) := by decide +kernel
theorem dX11_force_14 : decode cX11_force 14 = .ok (.ifCond .eq 18, 3) := by decide +kernel
theorem dX11_force_17 : decode cX11_force 17 = .ok (.iload_n 3, 1) := by decide +kernel
theorem dX11_force_18 : decode cX11_force 18 = .ok (.invokestatic 95, 3) := by decide +kernel
theorem dX11_force_21 : decode cX11_force 21 = .ok (.ifCond .eq 11, 3) := by decide +kernel
theorem dX11_force_24 : decode cX11_force 24 = .ok (.iload 4, 2) := by decide +kernel
theorem dX11_force_26 : decode cX11_force 26 = .ok (.invokestatic 95, 3) := by decide +kernel
theorem dX11_force_29 : decode cX11_force 29 = .ok (.ifCond .ne 5, 3) := by decide +kernel
theorem dX11_force_32 : decode cX11_force 32 = .ok (.iconst (-1), 1) := by decide +kernel
theorem dX11_force_33 : decode cX11_force 33 = .ok (.ireturn, 1) := by decide +kernel
theorem dX11_force_34 : decode cX11_force 34 = .ok (.aload_n 0, 1) := by decide +kernel
theorem dX11_force_35 : decode cX11_force 35 = .ok (.getfield 10, 3) := by decide +kernel
theorem dX11_force_38 : decode cX11_force 38 = .ok (.getfield 109, 3) := by decide +kernel
theorem dX11_force_41 : decode cX11_force 41 = .ok (.iload_n 1, 1) := by decide +kernel
theorem dX11_force_42 : decode cX11_force 42 = .ok (.aaload, 1) := by decide +kernel
theorem dX11_force_43 : decode cX11_force 43 = .ok (.astore 5, 2) := by decide +kernel
theorem dX11_force_45 : decode cX11_force 45 = .ok (.aload 5, 2) := by decide +kernel
theorem dX11_force_47 : decode cX11_force 47 = .ok (.ifnull 18, 3) := by decide +kernel
theorem dX11_force_50 : decode cX11_force 50 = .ok (.iload_n 2, 1) := by decide +kernel
theorem dX11_force_51 : decode cX11_force 51 = .ok (.iconst 0, 1) := by decide +kernel
theorem dX11_force_52 : decode cX11_force 52 = .ok (.aload 5, 2) := by decide +kernel
theorem dX11_force_54 : decode cX11_force 54 = .ok (.getfield 128, 3) := by decide +kernel
theorem dX11_force_57 : decode cX11_force 57 = .ok (.iconst 1, 1) := by decide +kernel
theorem dX11_force_58 : decode cX11_force 58 = .ok (.isub, 1) := by decide +kernel
theorem dX11_force_59 : decode cX11_force 59 = .ok (.invokestatic 124, 3) := by decide +kernel
theorem dX11_force_62 : decode cX11_force 62 = .ok (.ifCond .ne 5, 3) := by decide +kernel
theorem dX11_force_65 : decode cX11_force 65 = .ok (.iconst (-1), 1) := by decide +kernel
theorem dX11_force_66 : decode cX11_force 66 = .ok (.ireturn, 1) := by decide +kernel
theorem dX11_force_67 : decode cX11_force 67 = .ok (.aload_n 0, 1) := by decide +kernel
theorem dX11_force_68 : decode cX11_force 68 = .ok (.getfield 32, 3) := by decide +kernel
theorem dX11_force_71 : decode cX11_force 71 = .ok (.iload_n 3, 1) := by decide +kernel
theorem dX11_force_72 : decode cX11_force 72 = .ok (.iload 4, 2) := by decide +kernel
theorem dX11_force_74 : decode cX11_force 74 = .ok (.invokevirtual 131, 3) := by decide +kernel
theorem dX11_force_77 : decode cX11_force 77 = .ok (.aload_n 0, 1) := by decide +kernel
theorem dX11_force_78 : decode cX11_force 78 = .ok (.getfield 32, 3) := by decide +kernel
theorem dX11_force_81 : decode cX11_force 81 = .ok (.iload_n 1, 1) := by decide +kernel
theorem dX11_force_82 : decode cX11_force 82 = .ok (.iload_n 2, 1) := by decide +kernel
theorem dX11_force_83 : decode cX11_force 83 = .ok (.invokevirtual 135, 3) := by decide +kernel
theorem dX11_force_86 : decode cX11_force 86 = .ok (.ifCond .eq 7, 3) := by decide +kernel
theorem dX11_force_89 : decode cX11_force 89 = .ok (.iconst 1, 1) := by decide +kernel
theorem dX11_force_90 : decode cX11_force 90 = .ok (.goto 4, 3) := by decide +kernel
theorem dX11_force_93 : decode cX11_force 93 = .ok (.iconst 0, 1) := by decide +kernel
theorem dX11_force_94 : decode cX11_force 94 = .ok (.ireturn, 1) := by decide +kernel
theorem dX11_counts_0 : decode cX11_counts 0 = .ok (.iload_n 1, 1) := by decide +kernel
theorem dX11_counts_1 : decode cX11_counts 1 = .ok (.iconst 0, 1) := by decide +kernel
theorem dX11_counts_2 : decode cX11_counts 2 = .ok (.iconst 5, 1) := by decide +kernel
theorem dX11_counts_3 : decode cX11_counts 3 = .ok (.invokestatic 124, 3) := by decide +kernel
theorem dX11_counts_6 : decode cX11_counts 6 = .ok (.ifCond .eq 17, 3) := by decide +kernel
theorem dX11_counts_9 : decode cX11_counts 9 = .ok (.iload_n 2, 1) := by decide +kernel
theorem dX11_counts_10 : decode cX11_counts 10 = .ok (.invokestatic 95, 3) := by decide +kernel
theorem dX11_counts_13 : decode cX11_counts 13 = .ok (.ifCond .eq 10, 3) := by decide +kernel
theorem dX11_counts_16 : decode cX11_counts 16 = .ok (.iload_n 3, 1) := by decide +kernel
theorem dX11_counts_17 : decode cX11_counts 17 = .ok (.invokestatic 95, 3) := by decide +kernel
theorem dX11_counts_20 : decode cX11_counts 20 = .ok (.ifCond .ne 5, 3) := by decide +kernel
theorem dX11_counts_23 : decode cX11_counts 23 = .ok (.iconst (-1), 1) := by decide +kernel
theorem dX11_counts_24 : decode cX11_counts 24 = .ok (.ireturn, 1) := by decide +kernel
theorem dX11_counts_25 : decode cX11_counts 25 = .ok (.aload_n 0, 1) := by decide +kernel
theorem dX11_counts_26 : decode cX11_counts 26 = .ok (.getfield 32, 3) := by decide +kernel
theorem dX11_counts_29 : decode cX11_counts 29 = .ok (.iload_n 2, 1) := by decide +kernel
theorem dX11_counts_30 : decode cX11_counts 30 = .ok (.iload_n 3, 1) := by decide +kernel
theorem dX11_counts_31 : decode cX11_counts 31 = .ok (.invokevirtual 131, 3) := by decide +kernel
theorem dX11_counts_34 : decode cX11_counts 34 = .ok (.aload_n 0, 1) := by decide +kernel
theorem dX11_counts_35 : decode cX11_counts 35 = .ok (.getfield 32, 3) := by decide +kernel
theorem dX11_counts_38 : decode cX11_counts 38 = .ok (.iconst 0, 1) := by decide +kernel
theorem dX11_counts_39 : decode cX11_counts 39 = .ok (.iload_n 2, 1) := by decide +kernel
theorem dX11_counts_40 : decode cX11_counts 40 = .ok (.invokevirtual 139, 3) := by decide +kernel
theorem dX11_counts_43 : decode cX11_counts 43 = .ok (.iload_n 1, 1) := by decide +kernel
theorem dX11_counts_44 : decode cX11_counts 44 = .ok (.iconst 3, 1) := by decide +kernel
theorem dX11_counts_45 : decode cX11_counts 45 = .ok (.if_icmp .ge 15, 3) := by decide +kernel
theorem dX11_counts_48 : decode cX11_counts 48 = .ok (.aload_n 0, 1) := by decide +kernel
theorem dX11_counts_49 : decode cX11_counts 49 = .ok (.getfield 32, 3) := by decide +kernel
theorem dX11_counts_52 : decode cX11_counts 52 = .ok (.bipush 55, 2) := by decide +kernel
theorem dX11_counts_54 : decode cX11_counts 54 = .ok (.iload_n 1, 1) := by decide +kernel
theorem dX11_counts_55 : decode cX11_counts 55 = .ok (.iadd, 1) := by decide +kernel
theorem dX11_counts_56 : decode cX11_counts 56 = .ok (.invokevirtual 142, 3) := by decide +kernel
theorem dX11_counts_59 : decode cX11_counts 59 = .ok (.ireturn, 1) := by decide +kernel
theorem dX11_counts_60 : decode cX11_counts 60 = .ok (.aload_n 0, 1) := by decide +kernel
theorem dX11_counts_61 : decode cX11_counts 61 = .ok (.getfield 32, 3) := by decide +kernel
theorem dX11_counts_64 : decode cX11_counts 64 = .ok (.iload_n 1, 1) := by decide +kernel
theorem dX11_counts_65 : decode cX11_counts 65 = .ok (.iconst 3, 1) := by decide +kernel
theorem dX11_counts_66 : decode cX11_counts 66 = .ok (.if_icmp .ne 8, 3) := by decide +kernel
theorem dX11_counts_69 : decode cX11_counts 69 = .ok (.bipush 59, 2) := by decide +kernel
theorem dX11_counts_71 : decode cX11_counts 71 = .ok (.goto 15, 3) := by decide +kernel
theorem dX11_counts_74 : decode cX11_counts 74 = .ok (.iload_n 1, 1) := by decide +kernel
theorem dX11_counts_75 : decode cX11_counts 75 = .ok (.iconst 4, 1) := by decide +kernel
theorem dX11_counts_76 : decode cX11_counts 76 = .ok (.if_icmp .ne 8, 3) := by decide +kernel
theorem dX11_counts_79 : decode cX11_counts 79 = .ok (.bipush 60, 2) := by decide +kernel
theorem dX11_counts_81 : decode cX11_counts 81 = .ok (.goto 5, 3) := by decide +kernel
theorem dX11_counts_84 : decode cX11_counts 84 = .ok (.bipush 61, 2) := by decide +kernel
theorem dX11_counts_86 : decode cX11_counts 86 = .ok (.invokevirtual 142, 3) := by decide +kernel
theorem dX11_counts_89 : decode cX11_counts 89 = .ok (.ireturn, 1) := by decide +kernel
theorem dX11_need_0 : decode cX11_need 0 = .ok (.iload_n 1, 1) := by decide +kernel
theorem dX11_need_1 : decode cX11_need 1 = .ok (.iconst 0, 1) := by decide +kernel
theorem dX11_need_2 : decode cX11_need 2 = .ok (.iconst 2, 1) := by decide +kernel
theorem dX11_need_3 : decode cX11_need 3 = .ok (.invokestatic 124, 3) := by decide +kernel
theorem dX11_need_6 : decode cX11_need 6 = .ok (.ifCond .eq 48, 3) := by decide +kernel
theorem dX11_need_9 : decode cX11_need 9 = .ok (.iload_n 2, 1) := by decide +kernel
theorem dX11_need_10 : decode cX11_need 10 = .ok (.iconst 0, 1) := by decide +kernel
theorem dX11_need_11 : decode cX11_need 11 = .ok (.iconst 2, 1) := by decide +kernel
theorem dX11_need_12 : decode cX11_need 12 = .ok (.invokestatic 124, 3) := by decide +kernel
theorem dX11_need_15 : decode cX11_need 15 = .ok (.ifCond .eq 39, 3) := by decide +kernel
theorem dX11_need_18 : decode cX11_need 18 = .ok (.iload_n 3, 1) := by decide +kernel
theorem dX11_need_19 : decode cX11_need 19 = .ok (.iconst 0, 1) := by decide +kernel
theorem dX11_need_20 : decode cX11_need 20 = .ok (.iconst 5, 1) := by decide +kernel
theorem dX11_need_21 : decode cX11_need 21 = .ok (.invokestatic 124, 3) := by decide +kernel
theorem dX11_need_24 : decode cX11_need 24 = .ok (.ifCond .eq 30, 3) := by decide +kernel
theorem dX11_need_27 : decode cX11_need 27 = .ok (.iload 4, 2) := by decide +kernel
theorem dX11_need_29 : decode cX11_need 29 = .ok (.iconst 1, 1) := by decide +kernel
theorem dX11_need_30 : decode cX11_need 30 = .ok (.bipush 6, 2) := by decide +kernel
theorem dX11_need_32 : decode cX11_need 32 = .ok (.invokestatic 124, 3) := by decide +kernel
theorem dX11_need_35 : decode cX11_need 35 = .ok (.ifCond .eq 19, 3) := by decide +kernel
theorem dX11_need_38 : decode cX11_need 38 = .ok (.iload 5, 2) := by decide +kernel
theorem dX11_need_40 : decode cX11_need 40 = .ok (.invokestatic 95, 3) := by decide +kernel
theorem dX11_need_43 : decode cX11_need 43 = .ok (.ifCond .eq 11, 3) := by decide +kernel
theorem dX11_need_46 : decode cX11_need 46 = .ok (.iload 6, 2) := by decide +kernel
theorem dX11_need_48 : decode cX11_need 48 = .ok (.invokestatic 95, 3) := by decide +kernel
theorem dX11_need_51 : decode cX11_need 51 = .ok (.ifCond .ne 5, 3) := by decide +kernel
theorem dX11_need_54 : decode cX11_need 54 = .ok (.iconst (-1), 1) := by decide +kernel
theorem dX11_need_55 : decode cX11_need 55 = .ok (.ireturn, 1) := by decide +kernel
theorem dX11_need_56 : decode cX11_need 56 = .ok (.aload_n 0, 1) := by decide +kernel
theorem dX11_need_57 : decode cX11_need 57 = .ok (.getfield 32, 3) := by decide +kernel
theorem dX11_need_60 : decode cX11_need 60 = .ok (.iload 5, 2) := by decide +kernel
theorem dX11_need_62 : decode cX11_need 62 = .ok (.iload 6, 2) := by decide +kernel
theorem dX11_need_64 : decode cX11_need 64 = .ok (.invokevirtual 131, 3) := by decide +kernel
theorem dX11_need_67 : decode cX11_need 67 = .ok (.aload_n 0, 1) := by decide +kernel
theorem dX11_need_68 : decode cX11_need 68 = .ok (.getfield 32, 3) := by decide +kernel
theorem dX11_need_71 : decode cX11_need 71 = .ok (.iload 4, 2) := by decide +kernel
theorem dX11_need_73 : decode cX11_need 73 = .ok (.iload 5, 2) := by decide +kernel
theorem dX11_need_75 : decode cX11_need 75 = .ok (.invokevirtual 139, 3) := by decide +kernel
theorem dX11_need_78 : decode cX11_need 78 = .ok (.iconst 0, 1) := by decide +kernel
theorem dX11_need_79 : decode cX11_need 79 = .ok (.aload_n 0, 1) := by decide +kernel
theorem dX11_need_80 : decode cX11_need 80 = .ok (.getfield 32, 3) := by decide +kernel
theorem dX11_need_83 : decode cX11_need 83 = .ok (.iload_n 1, 1) := by decide +kernel
theorem dX11_need_84 : decode cX11_need 84 = .ok (.iload_n 2, 1) := by decide +kernel
theorem dX11_need_85 : decode cX11_need 85 = .ok (.iload_n 3, 1) := by decide +kernel
theorem dX11_need_86 : decode cX11_need 86 = .ok (.invokestatic 145, 3) := by decide +kernel
theorem dX11_need_89 : decode cX11_need 89 = .ok (.invokevirtual 142, 3) := by decide +kernel
theorem dX11_need_92 : decode cX11_need 92 = .ok (.invokestatic 149, 3) := by decide +kernel
theorem dX11_need_95 : decode cX11_need 95 = .ok (.ireturn, 1) := by decide +kernel
theorem dX11_deliver_0 : decode cX11_deliver 0 = .ok (.iload_n 1, 1) := by decide +kernel
theorem dX11_deliver_1 : decode cX11_deliver 1 = .ok (.iconst 0, 1) := by decide +kernel
theorem dX11_deliver_2 : decode cX11_deliver 2 = .ok (.iconst 4, 1) := by decide +kernel
theorem dX11_deliver_3 : decode cX11_deliver 3 = .ok (.invokestatic 124, 3) := by decide +kernel
theorem dX11_deliver_6 : decode cX11_deliver 6 = .ok (.ifCond .eq 28, 3) := by decide +kernel
theorem dX11_deliver_9 : decode cX11_deliver 9 = .ok (.iload_n 2, 1) := by decide +kernel
theorem dX11_deliver_10 : decode cX11_deliver 10 = .ok (.invokestatic 95, 3) := by decide +kernel
theorem dX11_deliver_13 : decode cX11_deliver 13 = .ok (.ifCond .eq 21, 3) := by decide +kernel
theorem dX11_deliver_16 : decode cX11_deliver 16 = .ok (.iload_n 3, 1) := by decide +kernel
theorem dX11_deliver_17 : decode cX11_deliver 17 = .ok (.iconst 1, 1) := by decide +kernel
theorem dX11_deliver_18 : decode cX11_deliver 18 = .ok (.ldc 155, 2) := by decide +kernel
theorem dX11_deliver_20 : decode cX11_deliver 20 = .ok (.invokestatic 124, 3) := by decide +kernel
theorem dX11_deliver_23 : decode cX11_deliver 23 = .ok (.ifCond .eq 11, 3) := by decide +kernel
theorem dX11_deliver_26 : decode cX11_deliver 26 = .ok (.iload 4, 2) := by decide +kernel
theorem dX11_deliver_28 : decode cX11_deliver 28 = .ok (.invokestatic 95, 3) := by decide +kernel
theorem dX11_deliver_31 : decode cX11_deliver 31 = .ok (.ifCond .ne 9, 3) := by decide +kernel
theorem dX11_deliver_34 : decode cX11_deliver 34 = .ok (.aload_n 0, 1) := by decide +kernel
theorem dX11_deliver_35 : decode cX11_deliver 35 = .ok (.iconst (-1), 1) := by decide +kernel
theorem dX11_deliver_36 : decode cX11_deliver 36 = .ok (.invokevirtual 105, 3) := by decide +kernel
theorem dX11_deliver_39 : decode cX11_deliver 39 = .ok (.ireturn, 1) := by decide +kernel
theorem dX11_deliver_40 : decode cX11_deliver 40 = .ok (.aload_n 0, 1) := by decide +kernel
theorem dX11_deliver_41 : decode cX11_deliver 41 = .ok (.getfield 10, 3) := by decide +kernel
theorem dX11_deliver_44 : decode cX11_deliver 44 = .ok (.getfield 156, 3) := by decide +kernel
theorem dX11_deliver_47 : decode cX11_deliver 47 = .ok (.invokevirtual 160, 3) := by decide +kernel
theorem dX11_deliver_50 : decode cX11_deliver 50 = .ok (.ifCond .eq 10, 3) := by decide +kernel
theorem dX11_deliver_53 : decode cX11_deliver 53 = .ok (.aload_n 0, 1) := by decide +kernel
theorem dX11_deliver_54 : decode cX11_deliver 54 = .ok (.bipush (-5), 2) := by decide +kernel
theorem dX11_deliver_56 : decode cX11_deliver 56 = .ok (.invokevirtual 105, 3) := by decide +kernel
theorem dX11_deliver_59 : decode cX11_deliver 59 = .ok (.ireturn, 1) := by decide +kernel
theorem dX11_deliver_60 : decode cX11_deliver 60 = .ok (.aload_n 0, 1) := by decide +kernel
theorem dX11_deliver_61 : decode cX11_deliver 61 = .ok (.getfield 10, 3) := by decide +kernel
theorem dX11_deliver_64 : decode cX11_deliver 64 = .ok (.getfield 156, 3) := by decide +kernel
theorem dX11_deliver_67 : decode cX11_deliver 67 = .ok (.invokevirtual 166, 3) := by decide +kernel
theorem dX11_deliver_70 : decode cX11_deliver 70 = .ok (.istore 5, 2) := by decide +kernel
theorem dX11_deliver_72 : decode cX11_deliver 72 = .ok (.aload_n 0, 1) := by decide +kernel
theorem dX11_deliver_73 : decode cX11_deliver 73 = .ok (.getfield 10, 3) := by decide +kernel
theorem dX11_deliver_76 : decode cX11_deliver 76 = .ok (.getfield 156, 3) := by decide +kernel
theorem dX11_deliver_79 : decode cX11_deliver 79 = .ok (.iload 5, 2) := by decide +kernel
theorem dX11_deliver_81 : decode cX11_deliver 81 = .ok (.iconst 0, 1) := by decide +kernel
theorem dX11_deliver_82 : decode cX11_deliver 82 = .ok (.iload_n 1, 1) := by decide +kernel
theorem dX11_deliver_83 : decode cX11_deliver 83 = .ok (.invokevirtual 169, 3) := by decide +kernel
theorem dX11_deliver_86 : decode cX11_deliver 86 = .ok (.aload_n 0, 1) := by decide +kernel
theorem dX11_deliver_87 : decode cX11_deliver 87 = .ok (.getfield 10, 3) := by decide +kernel
theorem dX11_deliver_90 : decode cX11_deliver 90 = .ok (.getfield 156, 3) := by decide +kernel
theorem dX11_deliver_93 : decode cX11_deliver 93 = .ok (.iload 5, 2) := by decide +kernel
theorem dX11_deliver_95 : decode cX11_deliver 95 = .ok (.iconst 1, 1) := by decide +kernel
theorem dX11_deliver_96 : decode cX11_deliver 96 = .ok (.iload_n 2, 1) := by decide +kernel
theorem dX11_deliver_97 : decode cX11_deliver 97 = .ok (.invokevirtual 169, 3) := by decide +kernel
theorem dX11_deliver_100 : decode cX11_deliver 100 = .ok (.aload_n 0, 1) := by decide +kernel
theorem dX11_deliver_101 : decode cX11_deliver 101 = .ok (.getfield 10, 3) := by decide +kernel
theorem dX11_deliver_104 : decode cX11_deliver 104 = .ok (.getfield 156, 3) := by decide +kernel
theorem dX11_deliver_107 : decode cX11_deliver 107 = .ok (.iload 5, 2) := by decide +kernel
theorem dX11_deliver_109 : decode cX11_deliver 109 = .ok (.iconst 2, 1) := by decide +kernel
theorem dX11_deliver_110 : decode cX11_deliver 110 = .ok (.iload_n 3, 1) := by decide +kernel
theorem dX11_deliver_111 : decode cX11_deliver 111 = .ok (.invokevirtual 169, 3) := by decide +kernel
theorem dX11_deliver_114 : decode cX11_deliver 114 = .ok (.aload_n 0, 1) := by decide +kernel
theorem dX11_deliver_115 : decode cX11_deliver 115 = .ok (.getfield 10, 3) := by decide +kernel
theorem dX11_deliver_118 : decode cX11_deliver 118 = .ok (.getfield 156, 3) := by decide +kernel
theorem dX11_deliver_121 : decode cX11_deliver 121 = .ok (.iload 5, 2) := by decide +kernel
theorem dX11_deliver_123 : decode cX11_deliver 123 = .ok (.iconst 3, 1) := by decide +kernel
theorem dX11_deliver_124 : decode cX11_deliver 124 = .ok (.iload 4, 2) := by decide +kernel
theorem dX11_deliver_126 : decode cX11_deliver 126 = .ok (.invokevirtual 169, 3) := by decide +kernel
theorem dX11_deliver_129 : decode cX11_deliver 129 = .ok (.aload_n 0, 1) := by decide +kernel
theorem dX11_deliver_130 : decode cX11_deliver 130 = .ok (.dup, 1) := by decide +kernel
theorem dX11_deliver_131 : decode cX11_deliver 131 = .ok (.getfield 121, 3) := by decide +kernel
theorem dX11_deliver_134 : decode cX11_deliver 134 = .ok (.iconst 1, 1) := by decide +kernel
theorem dX11_deliver_135 : decode cX11_deliver 135 = .ok (.iadd, 1) := by decide +kernel
theorem dX11_deliver_136 : decode cX11_deliver 136 = .ok (.putfield 121, 3) := by decide +kernel
theorem dX11_deliver_139 : decode cX11_deliver 139 = .ok (.aload_n 0, 1) := by decide +kernel
theorem dX11_deliver_140 : decode cX11_deliver 140 = .ok (.aload_n 0, 1) := by decide +kernel
theorem dX11_deliver_141 : decode cX11_deliver 141 = .ok (.getfield 10, 3) := by decide +kernel
theorem dX11_deliver_144 : decode cX11_deliver 144 = .ok (.getfield 156, 3) := by decide +kernel
theorem dX11_deliver_147 : decode cX11_deliver 147 = .ok (.invokevirtual 173, 3) := by decide +kernel
theorem dX11_deliver_150 : decode cX11_deliver 150 = .ok (.invokevirtual 105, 3) := by decide +kernel
theorem dX11_deliver_153 : decode cX11_deliver 153 = .ok (.ireturn, 1) := by decide +kernel
theorem dX11_works_0 : decode cX11_works 0 = .ok (.iload_n 1, 1) := by decide +kernel
theorem dX11_works_1 : decode cX11_works 1 = .ok (.iconst 0, 1) := by decide +kernel
theorem dX11_works_2 : decode cX11_works 2 = .ok (.iconst 4, 1) := by decide +kernel
theorem dX11_works_3 : decode cX11_works 3 = .ok (.invokestatic 124, 3) := by decide +kernel
theorem dX11_works_6 : decode cX11_works 6 = .ok (.ifCond .eq 76, 3) := by decide +kernel
theorem dX11_works_9 : decode cX11_works 9 = .ok (.iload_n 2, 1) := by decide +kernel
theorem dX11_works_10 : decode cX11_works 10 = .ok (.iconst 0, 1) := by decide +kernel
theorem dX11_works_11 : decode cX11_works 11 = .ok (.sipush 1000, 3) := by decide +kernel
theorem dX11_works_14 : decode cX11_works 14 = .ok (.invokestatic 124, 3) := by decide +kernel
theorem dX11_works_17 : decode cX11_works 17 = .ok (.ifCond .eq 65, 3) := by decide +kernel
theorem dX11_works_20 : decode cX11_works 20 = .ok (.iload_n 3, 1) := by decide +kernel
theorem dX11_works_21 : decode cX11_works 21 = .ok (.iconst 0, 1) := by decide +kernel
theorem dX11_works_22 : decode cX11_works 22 = .ok (.iconst 4, 1) := by decide +kernel
theorem dX11_works_23 : decode cX11_works 23 = .ok (.invokestatic 124, 3) := by decide +kernel
theorem dX11_works_26 : decode cX11_works 26 = .ok (.ifCond .eq 56, 3) := by decide +kernel
theorem dX11_works_29 : decode cX11_works 29 = .ok (.iload 4, 2) := by decide +kernel
theorem dX11_works_31 : decode cX11_works 31 = .ok (.iconst 0, 1) := by decide +kernel
theorem dX11_works_32 : decode cX11_works 32 = .ok (.sipush 1000, 3) := by decide +kernel
theorem dX11_works_35 : decode cX11_works 35 = .ok (.invokestatic 124, 3) := by decide +kernel
theorem dX11_works_38 : decode cX11_works 38 = .ok (.ifCond .eq 44, 3) := by decide +kernel
theorem dX11_works_41 : decode cX11_works 41 = .ok (.iload 5, 2) := by decide +kernel
theorem dX11_works_43 : decode cX11_works 43 = .ok (.iconst 0, 1) := by decide +kernel
theorem dX11_works_44 : decode cX11_works 44 = .ok (.iconst 4, 1) := by decide +kernel
theorem dX11_works_45 : decode cX11_works 45 = .ok (.invokestatic 124, 3) := by decide +kernel
theorem dX11_works_48 : decode cX11_works 48 = .ok (.ifCond .eq 34, 3) := by decide +kernel
theorem dX11_works_51 : decode cX11_works 51 = .ok (.iload 6, 2) := by decide +kernel
theorem dX11_works_53 : decode cX11_works 53 = .ok (.iconst 1, 1) := by decide +kernel
theorem dX11_works_54 : decode cX11_works 54 = .ok (.sipush 10000, 3) := by decide +kernel
theorem dX11_works_57 : decode cX11_works 57 = .ok (.invokestatic 124, 3) := by decide +kernel
theorem dX11_works_60 : decode cX11_works 60 = .ok (.ifCond .eq 22, 3) := by decide +kernel
theorem dX11_works_63 : decode cX11_works 63 = .ok (.iload 7, 2) := by decide +kernel
theorem dX11_works_65 : decode cX11_works 65 = .ok (.iconst 0, 1) := by decide +kernel
theorem dX11_works_66 : decode cX11_works 66 = .ok (.bipush 100, 2) := by decide +kernel
theorem dX11_works_68 : decode cX11_works 68 = .ok (.invokestatic 124, 3) := by decide +kernel
theorem dX11_works_71 : decode cX11_works 71 = .ok (.ifCond .eq 11, 3) := by decide +kernel
theorem dX11_works_74 : decode cX11_works 74 = .ok (.iload 8, 2) := by decide +kernel
theorem dX11_works_76 : decode cX11_works 76 = .ok (.invokestatic 95, 3) := by decide +kernel
theorem dX11_works_79 : decode cX11_works 79 = .ok (.ifCond .ne 9, 3) := by decide +kernel
theorem dX11_works_82 : decode cX11_works 82 = .ok (.aload_n 0, 1) := by decide +kernel
theorem dX11_works_83 : decode cX11_works 83 = .ok (.iconst (-1), 1) := by decide +kernel
theorem dX11_works_84 : decode cX11_works 84 = .ok (.invokevirtual 105, 3) := by decide +kernel
theorem dX11_works_87 : decode cX11_works 87 = .ok (.ireturn, 1) := by decide +kernel
theorem dX11_works_88 : decode cX11_works 88 = .ok (.aload_n 0, 1) := by decide +kernel
theorem dX11_works_89 : decode cX11_works 89 = .ok (.getfield 10, 3) := by decide +kernel
theorem dX11_works_92 : decode cX11_works 92 = .ok (.getfield 176, 3) := by decide +kernel
theorem dX11_works_95 : decode cX11_works 95 = .ok (.invokevirtual 160, 3) := by decide +kernel
theorem dX11_works_98 : decode cX11_works 98 = .ok (.ifCond .eq 10, 3) := by decide +kernel
theorem dX11_works_101 : decode cX11_works 101 = .ok (.aload_n 0, 1) := by decide +kernel
theorem dX11_works_102 : decode cX11_works 102 = .ok (.bipush (-5), 2) := by decide +kernel
theorem dX11_works_104 : decode cX11_works 104 = .ok (.invokevirtual 105, 3) := by decide +kernel
theorem dX11_works_107 : decode cX11_works 107 = .ok (.ireturn, 1) := by decide +kernel
theorem dX11_works_108 : decode cX11_works 108 = .ok (.aload_n 0, 1) := by decide +kernel
theorem dX11_works_109 : decode cX11_works 109 = .ok (.getfield 10, 3) := by decide +kernel
theorem dX11_works_112 : decode cX11_works 112 = .ok (.getfield 176, 3) := by decide +kernel
theorem dX11_works_115 : decode cX11_works 115 = .ok (.invokevirtual 166, 3) := by decide +kernel
theorem dX11_works_118 : decode cX11_works 118 = .ok (.istore 9, 2) := by decide +kernel
theorem dX11_works_120 : decode cX11_works 120 = .ok (.aload_n 0, 1) := by decide +kernel
theorem dX11_works_121 : decode cX11_works 121 = .ok (.getfield 10, 3) := by decide +kernel
theorem dX11_works_124 : decode cX11_works 124 = .ok (.getfield 176, 3) := by decide +kernel
theorem dX11_works_127 : decode cX11_works 127 = .ok (.iload 9, 2) := by decide +kernel
theorem dX11_works_129 : decode cX11_works 129 = .ok (.iconst 0, 1) := by decide +kernel
theorem dX11_works_130 : decode cX11_works 130 = .ok (.iload_n 1, 1) := by decide +kernel
theorem dX11_works_131 : decode cX11_works 131 = .ok (.invokevirtual 169, 3) := by decide +kernel
theorem dX11_works_134 : decode cX11_works 134 = .ok (.aload_n 0, 1) := by decide +kernel
theorem dX11_works_135 : decode cX11_works 135 = .ok (.getfield 10, 3) := by decide +kernel
theorem dX11_works_138 : decode cX11_works 138 = .ok (.getfield 176, 3) := by decide +kernel
theorem dX11_works_141 : decode cX11_works 141 = .ok (.iload 9, 2) := by decide +kernel
theorem dX11_works_143 : decode cX11_works 143 = .ok (.iconst 1, 1) := by decide +kernel
theorem dX11_works_144 : decode cX11_works 144 = .ok (.iload_n 2, 1) := by decide +kernel
theorem dX11_works_145 : decode cX11_works 145 = .ok (.invokevirtual 169, 3) := by decide +kernel
theorem dX11_works_148 : decode cX11_works 148 = .ok (.aload_n 0, 1) := by decide +kernel
theorem dX11_works_149 : decode cX11_works 149 = .ok (.getfield 10, 3) := by decide +kernel
theorem dX11_works_152 : decode cX11_works 152 = .ok (.getfield 176, 3) := by decide +kernel
theorem dX11_works_155 : decode cX11_works 155 = .ok (.iload 9, 2) := by decide +kernel
theorem dX11_works_157 : decode cX11_works 157 = .ok (.iconst 2, 1) := by decide +kernel
theorem dX11_works_158 : decode cX11_works 158 = .ok (.iload_n 3, 1) := by decide +kernel
theorem dX11_works_159 : decode cX11_works 159 = .ok (.invokevirtual 169, 3) := by decide +kernel
theorem dX11_works_162 : decode cX11_works 162 = .ok (.aload_n 0, 1) := by decide +kernel
theorem dX11_works_163 : decode cX11_works 163 = .ok (.getfield 10, 3) := by decide +kernel
theorem dX11_works_166 : decode cX11_works 166 = .ok (.getfield 176, 3) := by decide +kernel
theorem dX11_works_169 : decode cX11_works 169 = .ok (.iload 9, 2) := by decide +kernel
theorem dX11_works_171 : decode cX11_works 171 = .ok (.iconst 3, 1) := by decide +kernel
theorem dX11_works_172 : decode cX11_works 172 = .ok (.iload 4, 2) := by decide +kernel
theorem dX11_works_174 : decode cX11_works 174 = .ok (.invokevirtual 169, 3) := by decide +kernel
theorem dX11_works_177 : decode cX11_works 177 = .ok (.aload_n 0, 1) := by decide +kernel
theorem dX11_works_178 : decode cX11_works 178 = .ok (.getfield 10, 3) := by decide +kernel
theorem dX11_works_181 : decode cX11_works 181 = .ok (.getfield 176, 3) := by decide +kernel
theorem dX11_works_184 : decode cX11_works 184 = .ok (.iload 9, 2) := by decide +kernel
theorem dX11_works_186 : decode cX11_works 186 = .ok (.iconst 4, 1) := by decide +kernel
theorem dX11_works_187 : decode cX11_works 187 = .ok (.iload 5, 2) := by decide +kernel
theorem dX11_works_189 : decode cX11_works 189 = .ok (.invokevirtual 169, 3) := by decide +kernel
theorem dX11_works_192 : decode cX11_works 192 = .ok (.aload_n 0, 1) := by decide +kernel
theorem dX11_works_193 : decode cX11_works 193 = .ok (.getfield 10, 3) := by decide +kernel
theorem dX11_works_196 : decode cX11_works 196 = .ok (.getfield 176, 3) := by decide +kernel
theorem dX11_works_199 : decode cX11_works 199 = .ok (.iload 9, 2) := by decide +kernel
theorem dX11_works_201 : decode cX11_works 201 = .ok (.iconst 5, 1) := by decide +kernel
theorem dX11_works_202 : decode cX11_works 202 = .ok (.iload 6, 2) := by decide +kernel
theorem dX11_works_204 : decode cX11_works 204 = .ok (.invokevirtual 169, 3) := by decide +kernel
theorem dX11_works_207 : decode cX11_works 207 = .ok (.aload_n 0, 1) := by decide +kernel
theorem dX11_works_208 : decode cX11_works 208 = .ok (.getfield 10, 3) := by decide +kernel
theorem dX11_works_211 : decode cX11_works 211 = .ok (.getfield 176, 3) := by decide +kernel
theorem dX11_works_214 : decode cX11_works 214 = .ok (.iload 9, 2) := by decide +kernel
theorem dX11_works_216 : decode cX11_works 216 = .ok (.bipush 6, 2) := by decide +kernel
theorem dX11_works_218 : decode cX11_works 218 = .ok (.iload 7, 2) := by decide +kernel
theorem dX11_works_220 : decode cX11_works 220 = .ok (.invokevirtual 169, 3) := by decide +kernel
theorem dX11_works_223 : decode cX11_works 223 = .ok (.aload_n 0, 1) := by decide +kernel
theorem dX11_works_224 : decode cX11_works 224 = .ok (.getfield 10, 3) := by decide +kernel
theorem dX11_works_227 : decode cX11_works 227 = .ok (.getfield 176, 3) := by decide +kernel
theorem dX11_works_230 : decode cX11_works 230 = .ok (.iload 9, 2) := by decide +kernel
theorem dX11_works_232 : decode cX11_works 232 = .ok (.bipush 7, 2) := by decide +kernel
theorem dX11_works_234 : decode cX11_works 234 = .ok (.iload 8, 2) := by decide +kernel
theorem dX11_works_236 : decode cX11_works 236 = .ok (.invokevirtual 169, 3) := by decide +kernel
theorem dX11_works_239 : decode cX11_works 239 = .ok (.aload_n 0, 1) := by decide +kernel
theorem dX11_works_240 : decode cX11_works 240 = .ok (.dup, 1) := by decide +kernel
theorem dX11_works_241 : decode cX11_works 241 = .ok (.getfield 121, 3) := by decide +kernel
theorem dX11_works_244 : decode cX11_works 244 = .ok (.iconst 1, 1) := by decide +kernel
theorem dX11_works_245 : decode cX11_works 245 = .ok (.iadd, 1) := by decide +kernel
theorem dX11_works_246 : decode cX11_works 246 = .ok (.putfield 121, 3) := by decide +kernel
theorem dX11_works_249 : decode cX11_works 249 = .ok (.aload_n 0, 1) := by decide +kernel
theorem dX11_works_250 : decode cX11_works 250 = .ok (.iload 9, 2) := by decide +kernel
theorem dX11_works_252 : decode cX11_works 252 = .ok (.invokevirtual 105, 3) := by decide +kernel
theorem dX11_works_255 : decode cX11_works 255 = .ok (.ireturn, 1) := by decide +kernel
theorem dX11_gangs_0 : decode cX11_gangs 0 = .ok (.iload_n 1, 1) := by decide +kernel
theorem dX11_gangs_1 : decode cX11_gangs 1 = .ok (.iconst 0, 1) := by decide +kernel
theorem dX11_gangs_2 : decode cX11_gangs 2 = .ok (.iconst 5, 1) := by decide +kernel
theorem dX11_gangs_3 : decode cX11_gangs 3 = .ok (.invokestatic 124, 3) := by decide +kernel
theorem dX11_gangs_6 : decode cX11_gangs 6 = .ok (.ifCond .eq 28, 3) := by decide +kernel
theorem dX11_gangs_9 : decode cX11_gangs 9 = .ok (.iload_n 2, 1) := by decide +kernel
theorem dX11_gangs_10 : decode cX11_gangs 10 = .ok (.iconst 0, 1) := by decide +kernel
theorem dX11_gangs_11 : decode cX11_gangs 11 = .ok (.bipush 50, 2) := by decide +kernel
theorem dX11_gangs_13 : decode cX11_gangs 13 = .ok (.invokestatic 124, 3) := by decide +kernel
theorem dX11_gangs_16 : decode cX11_gangs 16 = .ok (.ifCond .eq 18, 3) := by decide +kernel
theorem dX11_gangs_19 : decode cX11_gangs 19 = .ok (.iload_n 3, 1) := by decide +kernel
theorem dX11_gangs_20 : decode cX11_gangs 20 = .ok (.invokestatic 95, 3) := by decide +kernel
theorem dX11_gangs_23 : decode cX11_gangs 23 = .ok (.ifCond .eq 11, 3) := by decide +kernel
theorem dX11_gangs_26 : decode cX11_gangs 26 = .ok (.iload 4, 2) := by decide +kernel
theorem dX11_gangs_28 : decode cX11_gangs 28 = .ok (.invokestatic 95, 3) := by decide +kernel
theorem dX11_gangs_31 : decode cX11_gangs 31 = .ok (.ifCond .ne 9, 3) := by decide +kernel
theorem dX11_gangs_34 : decode cX11_gangs 34 = .ok (.aload_n 0, 1) := by decide +kernel
theorem dX11_gangs_35 : decode cX11_gangs 35 = .ok (.iconst (-1), 1) := by decide +kernel
theorem dX11_gangs_36 : decode cX11_gangs 36 = .ok (.invokevirtual 105, 3) := by decide +kernel
theorem dX11_gangs_39 : decode cX11_gangs 39 = .ok (.ireturn, 1) := by decide +kernel
theorem dX11_gangs_40 : decode cX11_gangs 40 = .ok (.aload_n 0, 1) := by decide +kernel
theorem dX11_gangs_41 : decode cX11_gangs 41 = .ok (.getfield 10, 3) := by decide +kernel
theorem dX11_gangs_44 : decode cX11_gangs 44 = .ok (.getfield 179, 3) := by decide +kernel
theorem dX11_gangs_47 : decode cX11_gangs 47 = .ok (.invokevirtual 160, 3) := by decide +kernel
theorem dX11_gangs_50 : decode cX11_gangs 50 = .ok (.ifCond .eq 10, 3) := by decide +kernel
theorem dX11_gangs_53 : decode cX11_gangs 53 = .ok (.aload_n 0, 1) := by decide +kernel
theorem dX11_gangs_54 : decode cX11_gangs 54 = .ok (.bipush (-5), 2) := by decide +kernel
theorem dX11_gangs_56 : decode cX11_gangs 56 = .ok (.invokevirtual 105, 3) := by decide +kernel
theorem dX11_gangs_59 : decode cX11_gangs 59 = .ok (.ireturn, 1) := by decide +kernel
theorem dX11_gangs_60 : decode cX11_gangs 60 = .ok (.aload_n 0, 1) := by decide +kernel
theorem dX11_gangs_61 : decode cX11_gangs 61 = .ok (.getfield 10, 3) := by decide +kernel
theorem dX11_gangs_64 : decode cX11_gangs 64 = .ok (.getfield 179, 3) := by decide +kernel
theorem dX11_gangs_67 : decode cX11_gangs 67 = .ok (.invokevirtual 166, 3) := by decide +kernel
theorem dX11_gangs_70 : decode cX11_gangs 70 = .ok (.istore 5, 2) := by decide +kernel
theorem dX11_gangs_72 : decode cX11_gangs 72 = .ok (.aload_n 0, 1) := by decide +kernel
theorem dX11_gangs_73 : decode cX11_gangs 73 = .ok (.getfield 10, 3) := by decide +kernel
theorem dX11_gangs_76 : decode cX11_gangs 76 = .ok (.getfield 179, 3) := by decide +kernel
theorem dX11_gangs_79 : decode cX11_gangs 79 = .ok (.iload 5, 2) := by decide +kernel
theorem dX11_gangs_81 : decode cX11_gangs 81 = .ok (.iconst 0, 1) := by decide +kernel
theorem dX11_gangs_82 : decode cX11_gangs 82 = .ok (.iload_n 1, 1) := by decide +kernel
theorem dX11_gangs_83 : decode cX11_gangs 83 = .ok (.invokevirtual 169, 3) := by decide +kernel
theorem dX11_gangs_86 : decode cX11_gangs 86 = .ok (.aload_n 0, 1) := by decide +kernel
theorem dX11_gangs_87 : decode cX11_gangs 87 = .ok (.getfield 10, 3) := by decide +kernel
theorem dX11_gangs_90 : decode cX11_gangs 90 = .ok (.getfield 179, 3) := by decide +kernel
theorem dX11_gangs_93 : decode cX11_gangs 93 = .ok (.iload 5, 2) := by decide +kernel
theorem dX11_gangs_95 : decode cX11_gangs 95 = .ok (.iconst 1, 1) := by decide +kernel
theorem dX11_gangs_96 : decode cX11_gangs 96 = .ok (.iload_n 2, 1) := by decide +kernel
theorem dX11_gangs_97 : decode cX11_gangs 97 = .ok (.invokevirtual 169, 3) := by decide +kernel
theorem dX11_gangs_100 : decode cX11_gangs 100 = .ok (.aload_n 0, 1) := by decide +kernel
theorem dX11_gangs_101 : decode cX11_gangs 101 = .ok (.getfield 10, 3) := by decide +kernel
theorem dX11_gangs_104 : decode cX11_gangs 104 = .ok (.getfield 179, 3) := by decide +kernel
theorem dX11_gangs_107 : decode cX11_gangs 107 = .ok (.iload 5, 2) := by decide +kernel
theorem dX11_gangs_109 : decode cX11_gangs 109 = .ok (.iconst 2, 1) := by decide +kernel
theorem dX11_gangs_110 : decode cX11_gangs 110 = .ok (.iload_n 3, 1) := by decide +kernel
theorem dX11_gangs_111 : decode cX11_gangs 111 = .ok (.invokevirtual 169, 3) := by decide +kernel
theorem dX11_gangs_114 : decode cX11_gangs 114 = .ok (.aload_n 0, 1) := by decide +kernel
theorem dX11_gangs_115 : decode cX11_gangs 115 = .ok (.getfield 10, 3) := by decide +kernel
theorem dX11_gangs_118 : decode cX11_gangs 118 = .ok (.getfield 179, 3) := by decide +kernel
theorem dX11_gangs_121 : decode cX11_gangs 121 = .ok (.iload 5, 2) := by decide +kernel
theorem dX11_gangs_123 : decode cX11_gangs 123 = .ok (.iconst 3, 1) := by decide +kernel
theorem dX11_gangs_124 : decode cX11_gangs 124 = .ok (.iload 4, 2) := by decide +kernel
theorem dX11_gangs_126 : decode cX11_gangs 126 = .ok (.invokevirtual 169, 3) := by decide +kernel
theorem dX11_gangs_129 : decode cX11_gangs 129 = .ok (.aload_n 0, 1) := by decide +kernel
theorem dX11_gangs_130 : decode cX11_gangs 130 = .ok (.dup, 1) := by decide +kernel
theorem dX11_gangs_131 : decode cX11_gangs 131 = .ok (.getfield 121, 3) := by decide +kernel
theorem dX11_gangs_134 : decode cX11_gangs 134 = .ok (.iconst 1, 1) := by decide +kernel
theorem dX11_gangs_135 : decode cX11_gangs 135 = .ok (.iadd, 1) := by decide +kernel
theorem dX11_gangs_136 : decode cX11_gangs 136 = .ok (.putfield 121, 3) := by decide +kernel
theorem dX11_gangs_139 : decode cX11_gangs 139 = .ok (.aload_n 0, 1) := by decide +kernel
theorem dX11_gangs_140 : decode cX11_gangs 140 = .ok (.aload_n 0, 1) := by decide +kernel
theorem dX11_gangs_141 : decode cX11_gangs 141 = .ok (.getfield 10, 3) := by decide +kernel
theorem dX11_gangs_144 : decode cX11_gangs 144 = .ok (.getfield 179, 3) := by decide +kernel
theorem dX11_gangs_147 : decode cX11_gangs 147 = .ok (.invokevirtual 173, 3) := by decide +kernel
theorem dX11_gangs_150 : decode cX11_gangs 150 = .ok (.invokevirtual 105, 3) := by decide +kernel
theorem dX11_gangs_153 : decode cX11_gangs 153 = .ok (.ireturn, 1) := by decide +kernel
theorem dX11_plot_0 : decode cX11_plot 0 = .ok (.iload_n 1, 1) := by decide +kernel
theorem dX11_plot_1 : decode cX11_plot 1 = .ok (.iconst 0, 1) := by decide +kernel
theorem dX11_plot_2 : decode cX11_plot 2 = .ok (.iconst 5, 1) := by decide +kernel
theorem dX11_plot_3 : decode cX11_plot 3 = .ok (.invokestatic 124, 3) := by decide +kernel
theorem dX11_plot_6 : decode cX11_plot 6 = .ok (.ifCond .eq 30, 3) := by decide +kernel
theorem dX11_plot_9 : decode cX11_plot 9 = .ok (.iload_n 2, 1) := by decide +kernel
theorem dX11_plot_10 : decode cX11_plot 10 = .ok (.iconst 0, 1) := by decide +kernel
theorem dX11_plot_11 : decode cX11_plot 11 = .ok (.iconst 2, 1) := by decide +kernel
theorem dX11_plot_12 : decode cX11_plot 12 = .ok (.invokestatic 124, 3) := by decide +kernel
theorem dX11_plot_15 : decode cX11_plot 15 = .ok (.ifCond .eq 21, 3) := by decide +kernel
theorem dX11_plot_18 : decode cX11_plot 18 = .ok (.iload_n 3, 1) := by decide +kernel
theorem dX11_plot_19 : decode cX11_plot 19 = .ok (.iconst 1, 1) := by decide +kernel
theorem dX11_plot_20 : decode cX11_plot 20 = .ok (.bipush 6, 2) := by decide +kernel
theorem dX11_plot_22 : decode cX11_plot 22 = .ok (.invokestatic 124, 3) := by decide +kernel
theorem dX11_plot_25 : decode cX11_plot 25 = .ok (.ifCond .eq 11, 3) := by decide +kernel
theorem dX11_plot_28 : decode cX11_plot 28 = .ok (.iload 4, 2) := by decide +kernel
theorem dX11_plot_30 : decode cX11_plot 30 = .ok (.invokestatic 95, 3) := by decide +kernel
theorem dX11_plot_33 : decode cX11_plot 33 = .ok (.ifCond .ne 9, 3) := by decide +kernel
theorem dX11_plot_36 : decode cX11_plot 36 = .ok (.aload_n 0, 1) := by decide +kernel
theorem dX11_plot_37 : decode cX11_plot 37 = .ok (.iconst (-1), 1) := by decide +kernel
theorem dX11_plot_38 : decode cX11_plot 38 = .ok (.invokevirtual 105, 3) := by decide +kernel
theorem dX11_plot_41 : decode cX11_plot 41 = .ok (.ireturn, 1) := by decide +kernel
theorem dX11_plot_42 : decode cX11_plot 42 = .ok (.aload_n 0, 1) := by decide +kernel
theorem dX11_plot_43 : decode cX11_plot 43 = .ok (.getfield 10, 3) := by decide +kernel
theorem dX11_plot_46 : decode cX11_plot 46 = .ok (.getfield 182, 3) := by decide +kernel
theorem dX11_plot_49 : decode cX11_plot 49 = .ok (.invokevirtual 160, 3) := by decide +kernel
theorem dX11_plot_52 : decode cX11_plot 52 = .ok (.ifCond .eq 10, 3) := by decide +kernel
theorem dX11_plot_55 : decode cX11_plot 55 = .ok (.aload_n 0, 1) := by decide +kernel
theorem dX11_plot_56 : decode cX11_plot 56 = .ok (.bipush (-5), 2) := by decide +kernel
theorem dX11_plot_58 : decode cX11_plot 58 = .ok (.invokevirtual 105, 3) := by decide +kernel
theorem dX11_plot_61 : decode cX11_plot 61 = .ok (.ireturn, 1) := by decide +kernel
theorem dX11_plot_62 : decode cX11_plot 62 = .ok (.aload_n 0, 1) := by decide +kernel
theorem dX11_plot_63 : decode cX11_plot 63 = .ok (.getfield 10, 3) := by decide +kernel
theorem dX11_plot_66 : decode cX11_plot 66 = .ok (.getfield 182, 3) := by decide +kernel
theorem dX11_plot_69 : decode cX11_plot 69 = .ok (.invokevirtual 166, 3) := by decide +kernel
theorem dX11_plot_72 : decode cX11_plot 72 = .ok (.istore 5, 2) := by decide +kernel
theorem dX11_plot_74 : decode cX11_plot 74 = .ok (.aload_n 0, 1) := by decide +kernel
theorem dX11_plot_75 : decode cX11_plot 75 = .ok (.getfield 10, 3) := by decide +kernel
theorem dX11_plot_78 : decode cX11_plot 78 = .ok (.getfield 182, 3) := by decide +kernel
theorem dX11_plot_81 : decode cX11_plot 81 = .ok (.iload 5, 2) := by decide +kernel
theorem dX11_plot_83 : decode cX11_plot 83 = .ok (.iconst 0, 1) := by decide +kernel
theorem dX11_plot_84 : decode cX11_plot 84 = .ok (.iload_n 1, 1) := by decide +kernel
theorem dX11_plot_85 : decode cX11_plot 85 = .ok (.invokevirtual 169, 3) := by decide +kernel
theorem dX11_plot_88 : decode cX11_plot 88 = .ok (.aload_n 0, 1) := by decide +kernel
theorem dX11_plot_89 : decode cX11_plot 89 = .ok (.getfield 10, 3) := by decide +kernel
theorem dX11_plot_92 : decode cX11_plot 92 = .ok (.getfield 182, 3) := by decide +kernel
theorem dX11_plot_95 : decode cX11_plot 95 = .ok (.iload 5, 2) := by decide +kernel
theorem dX11_plot_97 : decode cX11_plot 97 = .ok (.iconst 1, 1) := by decide +kernel
theorem dX11_plot_98 : decode cX11_plot 98 = .ok (.iload_n 2, 1) := by decide +kernel
theorem dX11_plot_99 : decode cX11_plot 99 = .ok (.invokevirtual 169, 3) := by decide +kernel
theorem dX11_plot_102 : decode cX11_plot 102 = .ok (.aload_n 0, 1) := by decide +kernel
theorem dX11_plot_103 : decode cX11_plot 103 = .ok (.getfield 10, 3) := by decide +kernel
theorem dX11_plot_106 : decode cX11_plot 106 = .ok (.getfield 182, 3) := by decide +kernel
theorem dX11_plot_109 : decode cX11_plot 109 = .ok (.iload 5, 2) := by decide +kernel
theorem dX11_plot_111 : decode cX11_plot 111 = .ok (.iconst 2, 1) := by decide +kernel
theorem dX11_plot_112 : decode cX11_plot 112 = .ok (.iload_n 3, 1) := by decide +kernel
theorem dX11_plot_113 : decode cX11_plot 113 = .ok (.invokevirtual 169, 3) := by decide +kernel
theorem dX11_plot_116 : decode cX11_plot 116 = .ok (.aload_n 0, 1) := by decide +kernel
theorem dX11_plot_117 : decode cX11_plot 117 = .ok (.getfield 10, 3) := by decide +kernel
theorem dX11_plot_120 : decode cX11_plot 120 = .ok (.getfield 182, 3) := by decide +kernel
theorem dX11_plot_123 : decode cX11_plot 123 = .ok (.iload 5, 2) := by decide +kernel
theorem dX11_plot_125 : decode cX11_plot 125 = .ok (.iconst 3, 1) := by decide +kernel
theorem dX11_plot_126 : decode cX11_plot 126 = .ok (.iload 4, 2) := by decide +kernel
theorem dX11_plot_128 : decode cX11_plot 128 = .ok (.invokevirtual 169, 3) := by decide +kernel
theorem dX11_plot_131 : decode cX11_plot 131 = .ok (.aload_n 0, 1) := by decide +kernel
theorem dX11_plot_132 : decode cX11_plot 132 = .ok (.dup, 1) := by decide +kernel
theorem dX11_plot_133 : decode cX11_plot 133 = .ok (.getfield 121, 3) := by decide +kernel
theorem dX11_plot_136 : decode cX11_plot 136 = .ok (.iconst 1, 1) := by decide +kernel
theorem dX11_plot_137 : decode cX11_plot 137 = .ok (.iadd, 1) := by decide +kernel
theorem dX11_plot_138 : decode cX11_plot 138 = .ok (.putfield 121, 3) := by decide +kernel
theorem dX11_plot_141 : decode cX11_plot 141 = .ok (.aload_n 0, 1) := by decide +kernel
theorem dX11_plot_142 : decode cX11_plot 142 = .ok (.iload 5, 2) := by decide +kernel
theorem dX11_plot_144 : decode cX11_plot 144 = .ok (.invokevirtual 105, 3) := by decide +kernel
theorem dX11_plot_147 : decode cX11_plot 147 = .ok (.ireturn, 1) := by decide +kernel
theorem dX11_start_0 : decode cX11_start 0 = .ok (.iload_n 2, 1) := by decide +kernel
theorem dX11_start_1 : decode cX11_start 1 = .ok (.invokestatic 95, 3) := by decide +kernel
theorem dX11_start_4 : decode cX11_start 4 = .ok (.ifCond .eq 10, 3) := by decide +kernel
theorem dX11_start_7 : decode cX11_start 7 = .ok (.iload_n 3, 1) := by decide +kernel
theorem dX11_start_8 : decode cX11_start 8 = .ok (.invokestatic 95, 3) := by decide +kernel
theorem dX11_start_11 : decode cX11_start 11 = .ok (.ifCond .ne 9, 3) := by decide +kernel
theorem dX11_start_14 : decode cX11_start 14 = .ok (.aload_n 0, 1) := by decide +kernel
theorem dX11_start_15 : decode cX11_start 15 = .ok (.iconst (-1), 1) := by decide +kernel
theorem dX11_start_16 : decode cX11_start 16 = .ok (.invokevirtual 105, 3) := by decide +kernel
theorem dX11_start_19 : decode cX11_start 19 = .ok (.ireturn, 1) := by decide +kernel
theorem dX11_start_20 : decode cX11_start 20 = .ok (.aload_n 0, 1) := by decide +kernel
theorem dX11_start_21 : decode cX11_start 21 = .ok (.iload_n 1, 1) := by decide +kernel
theorem dX11_start_22 : decode cX11_start 22 = .ok (.invokevirtual 185, 3) := by decide +kernel
theorem dX11_start_25 : decode cX11_start 25 = .ok (.ifCond .ne 10, 3) := by decide +kernel
theorem dX11_start_28 : decode cX11_start 28 = .ok (.aload_n 0, 1) := by decide +kernel
theorem dX11_start_29 : decode cX11_start 29 = .ok (.bipush (-2), 2) := by decide +kernel
theorem dX11_start_31 : decode cX11_start 31 = .ok (.invokevirtual 105, 3) := by decide +kernel
theorem dX11_start_34 : decode cX11_start 34 = .ok (.ireturn, 1) := by decide +kernel
theorem dX11_start_35 : decode cX11_start 35 = .ok (.aload_n 0, 1) := by decide +kernel
theorem dX11_start_36 : decode cX11_start 36 = .ok (.getfield 60, 3) := by decide +kernel
theorem dX11_start_39 : decode cX11_start 39 = .ok (.iload_n 1, 1) := by decide +kernel
theorem dX11_start_40 : decode cX11_start 40 = .ok (.invokevirtual 188, 3) := by decide +kernel
theorem dX11_start_43 : decode cX11_start 43 = .ok (.ifCond .eq 10, 3) := by decide +kernel
theorem dX11_start_46 : decode cX11_start 46 = .ok (.aload_n 0, 1) := by decide +kernel
theorem dX11_start_47 : decode cX11_start 47 = .ok (.bipush (-3), 2) := by decide +kernel
theorem dX11_start_49 : decode cX11_start 49 = .ok (.invokevirtual 105, 3) := by decide +kernel
theorem dX11_start_52 : decode cX11_start 52 = .ok (.ireturn, 1) := by decide +kernel
theorem dX11_start_53 : decode cX11_start 53 = .ok (.aload_n 0, 1) := by decide +kernel
theorem dX11_start_54 : decode cX11_start 54 = .ok (.getfield 10, 3) := by decide +kernel
theorem dX11_start_57 : decode cX11_start 57 = .ok (.getfield 191, 3) := by decide +kernel
theorem dX11_start_60 : decode cX11_start 60 = .ok (.invokevirtual 160, 3) := by decide +kernel
theorem dX11_start_63 : decode cX11_start 63 = .ok (.ifCond .eq 10, 3) := by decide +kernel
theorem dX11_start_66 : decode cX11_start 66 = .ok (.aload_n 0, 1) := by decide +kernel
theorem dX11_start_67 : decode cX11_start 67 = .ok (.bipush (-5), 2) := by decide +kernel
theorem dX11_start_69 : decode cX11_start 69 = .ok (.invokevirtual 105, 3) := by decide +kernel
theorem dX11_start_72 : decode cX11_start 72 = .ok (.ireturn, 1) := by decide +kernel
theorem dX11_start_73 : decode cX11_start 73 = .ok (.aload_n 0, 1) := by decide +kernel
theorem dX11_start_74 : decode cX11_start 74 = .ok (.getfield 10, 3) := by decide +kernel
theorem dX11_start_77 : decode cX11_start 77 = .ok (.getfield 191, 3) := by decide +kernel
theorem dX11_start_80 : decode cX11_start 80 = .ok (.invokevirtual 166, 3) := by decide +kernel
theorem dX11_start_83 : decode cX11_start 83 = .ok (.istore 4, 2) := by decide +kernel
theorem dX11_start_85 : decode cX11_start 85 = .ok (.aload_n 0, 1) := by decide +kernel
theorem dX11_start_86 : decode cX11_start 86 = .ok (.getfield 10, 3) := by decide +kernel
theorem dX11_start_89 : decode cX11_start 89 = .ok (.getfield 191, 3) := by decide +kernel
theorem dX11_start_92 : decode cX11_start 92 = .ok (.iload 4, 2) := by decide +kernel
theorem dX11_start_94 : decode cX11_start 94 = .ok (.iconst 0, 1) := by decide +kernel
theorem dX11_start_95 : decode cX11_start 95 = .ok (.iload_n 1, 1) := by decide +kernel
theorem dX11_start_96 : decode cX11_start 96 = .ok (.invokevirtual 169, 3) := by decide +kernel
theorem dX11_start_99 : decode cX11_start 99 = .ok (.aload_n 0, 1) := by decide +kernel
theorem dX11_start_100 : decode cX11_start 100 = .ok (.getfield 10, 3) := by decide +kernel
theorem dX11_start_103 : decode cX11_start 103 = .ok (.getfield 191, 3) := by decide +kernel
theorem dX11_start_106 : decode cX11_start 106 = .ok (.iload 4, 2) := by decide +kernel
theorem dX11_start_108 : decode cX11_start 108 = .ok (.iconst 1, 1) := by decide +kernel
theorem dX11_start_109 : decode cX11_start 109 = .ok (.iload_n 2, 1) := by decide +kernel
theorem dX11_start_110 : decode cX11_start 110 = .ok (.invokevirtual 169, 3) := by decide +kernel
theorem dX11_start_113 : decode cX11_start 113 = .ok (.aload_n 0, 1) := by decide +kernel
theorem dX11_start_114 : decode cX11_start 114 = .ok (.getfield 10, 3) := by decide +kernel
theorem dX11_start_117 : decode cX11_start 117 = .ok (.getfield 191, 3) := by decide +kernel
theorem dX11_start_120 : decode cX11_start 120 = .ok (.iload 4, 2) := by decide +kernel
theorem dX11_start_122 : decode cX11_start 122 = .ok (.iconst 2, 1) := by decide +kernel
theorem dX11_start_123 : decode cX11_start 123 = .ok (.iload_n 3, 1) := by decide +kernel
theorem dX11_start_124 : decode cX11_start 124 = .ok (.invokevirtual 169, 3) := by decide +kernel
theorem dX11_start_127 : decode cX11_start 127 = .ok (.aload_n 0, 1) := by decide +kernel
theorem dX11_start_128 : decode cX11_start 128 = .ok (.dup, 1) := by decide +kernel
theorem dX11_start_129 : decode cX11_start 129 = .ok (.getfield 121, 3) := by decide +kernel
theorem dX11_start_132 : decode cX11_start 132 = .ok (.iconst 1, 1) := by decide +kernel
theorem dX11_start_133 : decode cX11_start 133 = .ok (.iadd, 1) := by decide +kernel
theorem dX11_start_134 : decode cX11_start 134 = .ok (.putfield 121, 3) := by decide +kernel
theorem dX11_start_137 : decode cX11_start 137 = .ok (.aload_n 0, 1) := by decide +kernel
theorem dX11_start_138 : decode cX11_start 138 = .ok (.aload_n 0, 1) := by decide +kernel
theorem dX11_start_139 : decode cX11_start 139 = .ok (.getfield 10, 3) := by decide +kernel
theorem dX11_start_142 : decode cX11_start 142 = .ok (.getfield 191, 3) := by decide +kernel
theorem dX11_start_145 : decode cX11_start 145 = .ok (.invokevirtual 173, 3) := by decide +kernel
theorem dX11_start_148 : decode cX11_start 148 = .ok (.invokevirtual 105, 3) := by decide +kernel
theorem dX11_start_151 : decode cX11_start 151 = .ok (.ireturn, 1) := by decide +kernel
theorem dX11_stock_0 : decode cX11_stock 0 = .ok (.iload_n 1, 1) := by decide +kernel
theorem dX11_stock_1 : decode cX11_stock 1 = .ok (.iconst 0, 1) := by decide +kernel
theorem dX11_stock_2 : decode cX11_stock 2 = .ok (.iconst 4, 1) := by decide +kernel
theorem dX11_stock_3 : decode cX11_stock 3 = .ok (.invokestatic 124, 3) := by decide +kernel
theorem dX11_stock_6 : decode cX11_stock 6 = .ok (.ifCond .eq 28, 3) := by decide +kernel
theorem dX11_stock_9 : decode cX11_stock 9 = .ok (.iload_n 2, 1) := by decide +kernel
theorem dX11_stock_10 : decode cX11_stock 10 = .ok (.invokestatic 95, 3) := by decide +kernel
theorem dX11_stock_13 : decode cX11_stock 13 = .ok (.ifCond .eq 21, 3) := by decide +kernel
theorem dX11_stock_16 : decode cX11_stock 16 = .ok (.iload_n 3, 1) := by decide +kernel
theorem dX11_stock_17 : decode cX11_stock 17 = .ok (.invokestatic 95, 3) := by decide +kernel
theorem dX11_stock_20 : decode cX11_stock 20 = .ok (.ifCond .eq 14, 3) := by decide +kernel
theorem dX11_stock_23 : decode cX11_stock 23 = .ok (.iload 4, 2) := by decide +kernel
theorem dX11_stock_25 : decode cX11_stock 25 = .ok (.iconst 0, 1) := by decide +kernel
theorem dX11_stock_26 : decode cX11_stock 26 = .ok (.bipush 26, 2) := by decide +kernel
theorem dX11_stock_28 : decode cX11_stock 28 = .ok (.invokestatic 124, 3) := by decide +kernel
theorem dX11_stock_31 : decode cX11_stock 31 = .ok (.ifCond .ne 5, 3) := by decide +kernel
theorem dX11_stock_34 : decode cX11_stock 34 = .ok (.iconst (-1), 1) := by decide +kernel
theorem dX11_stock_35 : decode cX11_stock 35 = .ok (.ireturn, 1) := by decide +kernel
theorem dX11_stock_36 : decode cX11_stock 36 = .ok (.aload_n 0, 1) := by decide +kernel
theorem dX11_stock_37 : decode cX11_stock 37 = .ok (.iload_n 3, 1) := by decide +kernel
theorem dX11_stock_38 : decode cX11_stock 38 = .ok (.iload 4, 2) := by decide +kernel
theorem dX11_stock_40 : decode cX11_stock 40 = .ok (.invokevirtual 194, 3) := by decide +kernel
theorem dX11_stock_43 : decode cX11_stock 43 = .ok (.getfield 198, 3) := by decide +kernel
theorem dX11_stock_46 : decode cX11_stock 46 = .ok (.iload_n 2, 1) := by decide +kernel
theorem dX11_stock_47 : decode cX11_stock 47 = .ok (.iconst 5, 1) := by decide +kernel
theorem dX11_stock_48 : decode cX11_stock 48 = .ok (.imul, 1) := by decide +kernel
theorem dX11_stock_49 : decode cX11_stock 49 = .ok (.iload_n 1, 1) := by decide +kernel
theorem dX11_stock_50 : decode cX11_stock 50 = .ok (.iadd, 1) := by decide +kernel
theorem dX11_stock_51 : decode cX11_stock 51 = .ok (.iaload, 1) := by decide +kernel
theorem dX11_stock_52 : decode cX11_stock 52 = .ok (.ireturn, 1) := by decide +kernel
theorem dX11_built_0 : decode cX11_built 0 = .ok (.aload_n 0, 1) := by decide +kernel
theorem dX11_built_1 : decode cX11_built 1 = .ok (.iload_n 1, 1) := by decide +kernel
theorem dX11_built_2 : decode cX11_built 2 = .ok (.invokevirtual 185, 3) := by decide +kernel
theorem dX11_built_5 : decode cX11_built 5 = .ok (.ifCond .eq 31, 3) := by decide +kernel
theorem dX11_built_8 : decode cX11_built 8 = .ok (.iload_n 2, 1) := by decide +kernel
theorem dX11_built_9 : decode cX11_built 9 = .ok (.invokestatic 95, 3) := by decide +kernel
theorem dX11_built_12 : decode cX11_built 12 = .ok (.ifCond .eq 24, 3) := by decide +kernel
theorem dX11_built_15 : decode cX11_built 15 = .ok (.iload_n 3, 1) := by decide +kernel
theorem dX11_built_16 : decode cX11_built 16 = .ok (.iconst 0, 1) := by decide +kernel
theorem dX11_built_17 : decode cX11_built 17 = .ok (.bipush 26, 2) := by decide +kernel
theorem dX11_built_19 : decode cX11_built 19 = .ok (.invokestatic 124, 3) := by decide +kernel
theorem dX11_built_22 : decode cX11_built 22 = .ok (.ifCond .eq 14, 3) := by decide +kernel
theorem dX11_built_25 : decode cX11_built 25 = .ok (.iload 4, 2) := by decide +kernel
theorem dX11_built_27 : decode cX11_built 27 = .ok (.iconst 0, 1) := by decide +kernel
theorem dX11_built_28 : decode cX11_built 28 = .ok (.bipush 6, 2) := by decide +kernel
theorem dX11_built_30 : decode cX11_built 30 = .ok (.invokestatic 124, 3) := by decide +kernel
theorem dX11_built_33 : decode cX11_built 33 = .ok (.ifCond .ne 5, 3) := by decide +kernel
theorem dX11_built_36 : decode cX11_built 36 = .ok (.iconst (-1), 1) := by decide +kernel
theorem dX11_built_37 : decode cX11_built 37 = .ok (.ireturn, 1) := by decide +kernel
theorem dX11_built_38 : decode cX11_built 38 = .ok (.aload_n 0, 1) := by decide +kernel
theorem dX11_built_39 : decode cX11_built 39 = .ok (.iload_n 2, 1) := by decide +kernel
theorem dX11_built_40 : decode cX11_built 40 = .ok (.iload_n 3, 1) := by decide +kernel
theorem dX11_built_41 : decode cX11_built 41 = .ok (.invokevirtual 194, 3) := by decide +kernel
theorem dX11_built_44 : decode cX11_built 44 = .ok (.getfield 202, 3) := by decide +kernel
theorem dX11_built_47 : decode cX11_built 47 = .ok (.astore 5, 2) := by decide +kernel
theorem dX11_built_49 : decode cX11_built 49 = .ok (.iload 4, 2) := by decide +kernel
theorem dX11_built_51 : decode cX11_built 51 = .ok (.bipush 6, 2) := by decide +kernel
theorem dX11_built_53 : decode cX11_built 53 = .ok (.if_icmp .ne 11, 3) := by decide +kernel
theorem dX11_built_56 : decode cX11_built 56 = .ok (.aload 5, 2) := by decide +kernel
theorem dX11_built_58 : decode cX11_built 58 = .ok (.getfield 206, 3) := by decide +kernel
theorem dX11_built_61 : decode cX11_built 61 = .ok (.iload_n 1, 1) := by decide +kernel
theorem dX11_built_62 : decode cX11_built 62 = .ok (.iaload, 1) := by decide +kernel
theorem dX11_built_63 : decode cX11_built 63 = .ok (.ireturn, 1) := by decide +kernel
theorem dX11_built_64 : decode cX11_built 64 = .ok (.iload 4, 2) := by decide +kernel
theorem dX11_built_66 : decode cX11_built 66 = .ok (.iconst 3, 1) := by decide +kernel
theorem dX11_built_67 : decode cX11_built 67 = .ok (.if_icmp .ge 18, 3) := by decide +kernel
theorem dX11_built_70 : decode cX11_built 70 = .ok (.aload 5, 2) := by decide +kernel
theorem dX11_built_72 : decode cX11_built 72 = .ok (.getfield 211, 3) := by decide +kernel
theorem dX11_built_75 : decode cX11_built 75 = .ok (.iload_n 1, 1) := by decide +kernel
theorem dX11_built_76 : decode cX11_built 76 = .ok (.iconst 3, 1) := by decide +kernel
theorem dX11_built_77 : decode cX11_built 77 = .ok (.imul, 1) := by decide +kernel
theorem dX11_built_78 : decode cX11_built 78 = .ok (.iload 4, 2) := by decide +kernel
theorem dX11_built_80 : decode cX11_built 80 = .ok (.iadd, 1) := by decide +kernel
theorem dX11_built_81 : decode cX11_built 81 = .ok (.iaload, 1) := by decide +kernel
theorem dX11_built_82 : decode cX11_built 82 = .ok (.goto 17, 3) := by decide +kernel
theorem dX11_built_85 : decode cX11_built 85 = .ok (.aload 5, 2) := by decide +kernel
theorem dX11_built_87 : decode cX11_built 87 = .ok (.getfield 214, 3) := by decide +kernel
theorem dX11_built_90 : decode cX11_built 90 = .ok (.iload_n 1, 1) := by decide +kernel
theorem dX11_built_91 : decode cX11_built 91 = .ok (.iconst 3, 1) := by decide +kernel
theorem dX11_built_92 : decode cX11_built 92 = .ok (.imul, 1) := by decide +kernel
theorem dX11_built_93 : decode cX11_built 93 = .ok (.iload 4, 2) := by decide +kernel
theorem dX11_built_95 : decode cX11_built 95 = .ok (.iadd, 1) := by decide +kernel
theorem dX11_built_96 : decode cX11_built 96 = .ok (.iconst 3, 1) := by decide +kernel
theorem dX11_built_97 : decode cX11_built 97 = .ok (.isub, 1) := by decide +kernel
theorem dX11_built_98 : decode cX11_built 98 = .ok (.iaload, 1) := by decide +kernel
theorem dX11_built_99 : decode cX11_built 99 = .ok (.ireturn, 1) := by decide +kernel
theorem dX11_lacks_0 : decode cX11_lacks 0 = .ok (.aload_n 0, 1) := by decide +kernel
theorem dX11_lacks_1 : decode cX11_lacks 1 = .ok (.iload_n 1, 1) := by decide +kernel
theorem dX11_lacks_2 : decode cX11_lacks 2 = .ok (.invokevirtual 185, 3) := by decide +kernel
theorem dX11_lacks_5 : decode cX11_lacks 5 = .ok (.ifCond .eq 17, 3) := by decide +kernel
theorem dX11_lacks_8 : decode cX11_lacks 8 = .ok (.iload_n 2, 1) := by decide +kernel
theorem dX11_lacks_9 : decode cX11_lacks 9 = .ok (.invokestatic 95, 3) := by decide +kernel
theorem dX11_lacks_12 : decode cX11_lacks 12 = .ok (.ifCond .eq 10, 3) := by decide +kernel
theorem dX11_lacks_15 : decode cX11_lacks 15 = .ok (.iload_n 3, 1) := by decide +kernel
theorem dX11_lacks_16 : decode cX11_lacks 16 = .ok (.invokestatic 95, 3) := by decide +kernel
theorem dX11_lacks_19 : decode cX11_lacks 19 = .ok (.ifCond .ne 5, 3) := by decide +kernel
theorem dX11_lacks_22 : decode cX11_lacks 22 = .ok (.iconst (-1), 1) := by decide +kernel
theorem dX11_lacks_23 : decode cX11_lacks 23 = .ok (.ireturn, 1) := by decide +kernel
theorem dX11_lacks_24 : decode cX11_lacks 24 = .ok (.aload_n 0, 1) := by decide +kernel
theorem dX11_lacks_25 : decode cX11_lacks 25 = .ok (.iload_n 3, 1) := by decide +kernel
theorem dX11_lacks_26 : decode cX11_lacks 26 = .ok (.iconst 0, 1) := by decide +kernel
theorem dX11_lacks_27 : decode cX11_lacks 27 = .ok (.invokevirtual 194, 3) := by decide +kernel
theorem dX11_lacks_30 : decode cX11_lacks 30 = .ok (.astore 4, 2) := by decide +kernel
theorem dX11_lacks_32 : decode cX11_lacks 32 = .ok (.aload 4, 2) := by decide +kernel
theorem dX11_lacks_34 : decode cX11_lacks 34 = .ok (.iload_n 1, 1) := by decide +kernel
theorem dX11_lacks_35 : decode cX11_lacks 35 = .ok (.iload_n 2, 1) := by decide +kernel
theorem dX11_lacks_36 : decode cX11_lacks 36 = .ok (.invokevirtual 217, 3) := by decide +kernel
theorem dX11_lacks_39 : decode cX11_lacks 39 = .ok (.ifCond .eq 5, 3) := by decide +kernel
theorem dX11_lacks_42 : decode cX11_lacks 42 = .ok (.iconst 0, 1) := by decide +kernel
theorem dX11_lacks_43 : decode cX11_lacks 43 = .ok (.ireturn, 1) := by decide +kernel
theorem dX11_lacks_44 : decode cX11_lacks 44 = .ok (.aload_n 0, 1) := by decide +kernel
theorem dX11_lacks_45 : decode cX11_lacks 45 = .ok (.iload_n 1, 1) := by decide +kernel
theorem dX11_lacks_46 : decode cX11_lacks 46 = .ok (.iload_n 3, 1) := by decide +kernel
theorem dX11_lacks_47 : decode cX11_lacks 47 = .ok (.invokevirtual 220, 3) := by decide +kernel
theorem dX11_lacks_50 : decode cX11_lacks 50 = .ok (.istore 5, 2) := by decide +kernel
theorem dX11_lacks_52 : decode cX11_lacks 52 = .ok (.iload 5, 2) := by decide +kernel
theorem dX11_lacks_54 : decode cX11_lacks 54 = .ok (.iconst (-1), 1) := by decide +kernel
theorem dX11_lacks_55 : decode cX11_lacks 55 = .ok (.if_icmp .eq 9, 3) := by decide +kernel
theorem dX11_lacks_58 : decode cX11_lacks 58 = .ok (.iload 5, 2) := by decide +kernel
theorem dX11_lacks_60 : decode cX11_lacks 60 = .ok (.iload_n 2, 1) := by decide +kernel
theorem dX11_lacks_61 : decode cX11_lacks 61 = .ok (.if_icmp .le 5, 3) := by decide +kernel
theorem dX11_lacks_64 : decode cX11_lacks 64 = .ok (.iconst 1, 1) := by decide +kernel
theorem dX11_lacks_65 : decode cX11_lacks 65 = .ok (.ireturn, 1) := by decide +kernel
theorem dX11_lacks_66 : decode cX11_lacks 66 = .ok (.aload 4, 2) := by decide +kernel
theorem dX11_lacks_68 : decode cX11_lacks 68 = .ok (.getfield 202, 3) := by decide +kernel
theorem dX11_lacks_71 : decode cX11_lacks 71 = .ok (.getfield 206, 3) := by decide +kernel
theorem dX11_lacks_74 : decode cX11_lacks 74 = .ok (.iload_n 1, 1) := by decide +kernel
theorem dX11_lacks_75 : decode cX11_lacks 75 = .ok (.iaload, 1) := by decide +kernel
theorem dX11_lacks_76 : decode cX11_lacks 76 = .ok (.ifCond .ne 5, 3) := by decide +kernel
theorem dX11_lacks_79 : decode cX11_lacks 79 = .ok (.iconst 2, 1) := by decide +kernel
theorem dX11_lacks_80 : decode cX11_lacks 80 = .ok (.ireturn, 1) := by decide +kernel
theorem dX11_lacks_81 : decode cX11_lacks 81 = .ok (.aload_n 0, 1) := by decide +kernel
theorem dX11_lacks_82 : decode cX11_lacks 82 = .ok (.getfield 10, 3) := by decide +kernel
theorem dX11_lacks_85 : decode cX11_lacks 85 = .ok (.getfield 182, 3) := by decide +kernel
theorem dX11_lacks_88 : decode cX11_lacks 88 = .ok (.iload_n 1, 1) := by decide +kernel
theorem dX11_lacks_89 : decode cX11_lacks 89 = .ok (.iconst 3, 1) := by decide +kernel
theorem dX11_lacks_90 : decode cX11_lacks 90 = .ok (.invokevirtual 223, 3) := by decide +kernel
theorem dX11_lacks_93 : decode cX11_lacks 93 = .ok (.iload_n 2, 1) := by decide +kernel
theorem dX11_lacks_94 : decode cX11_lacks 94 = .ok (.if_icmp .le 5, 3) := by decide +kernel
theorem dX11_lacks_97 : decode cX11_lacks 97 = .ok (.iconst 3, 1) := by decide +kernel
theorem dX11_lacks_98 : decode cX11_lacks 98 = .ok (.ireturn, 1) := by decide +kernel
theorem dX11_lacks_99 : decode cX11_lacks 99 = .ok (.aload 4, 2) := by decide +kernel
theorem dX11_lacks_101 : decode cX11_lacks 101 = .ok (.getfield 202, 3) := by decide +kernel
theorem dX11_lacks_104 : decode cX11_lacks 104 = .ok (.iload_n 1, 1) := by decide +kernel
theorem dX11_lacks_105 : decode cX11_lacks 105 = .ok (.iload_n 2, 1) := by decide +kernel
theorem dX11_lacks_106 : decode cX11_lacks 106 = .ok (.invokevirtual 226, 3) := by decide +kernel
theorem dX11_lacks_109 : decode cX11_lacks 109 = .ok (.ifCond .eq 7, 3) := by decide +kernel
theorem dX11_lacks_112 : decode cX11_lacks 112 = .ok (.iconst 4, 1) := by decide +kernel
theorem dX11_lacks_113 : decode cX11_lacks 113 = .ok (.goto 4, 3) := by decide +kernel
theorem dX11_lacks_116 : decode cX11_lacks 116 = .ok (.iconst 5, 1) := by decide +kernel
theorem dX11_lacks_117 : decode cX11_lacks 117 = .ok (.ireturn, 1) := by decide +kernel
def W_X10_needsAt_118 (X : Sx) (l : Launch) (D : Nat) (x6 : Int32) (σ : AH) (r : Option Value) (σ' : AH) : Prop := (r = some (.int (x6 * (6 : Int32))) ∧ σ' = σ)
set_option maxRecDepth 100000 in
theorem w_X10_needsAt_118 {X : Sx} {l : Launch} {D : Nat} {x6 : Int32} {σ : AH} {r : Option Value} {σ' : AH} (hs : Sh σ) (h : W_X10_needsAt_118 X l D x6 σ r σ') : E X l m_X10_needsAt D 118 [(6, .int x6)] [] σ r σ' := by
  unfold W_X10_needsAt_118 at h
  refine E_iload 0 dX10_needsAt_118 rfl ?_
  refine E_bipush (6 : Int32) dX10_needsAt_120 (by decide) ?_
  refine E_imul dX10_needsAt_122 ?_
  obtain ⟨rfl, rfl⟩ := h
  exact E_iret dX10_needsAt_123 rfl
def W_X10_needsAt_0 (X : Sx) (l : Launch) (D : Nat) (x1 : Int32) (x2 : Int32) (x3 : Int32) (x4 : Int32) (σ : AH) (r : Option Value) (σ' : AH) : Prop := vp_in (((x4 - x4 / (13 : Int32) * (13 : Int32)) * (54 : Int32)) + (((((x1 * (3 : Int32)) + x2) * (6 : Int32)) + x3) - (1 : Int32))) 702 ∧ (if (gI σ 43 (((x4 - x4 / (13 : Int32) * (13 : Int32)) * (54 : Int32)) + (((((x1 * (3 : Int32)) + x2) * (6 : Int32)) + x3) - (1 : Int32))).toNatClampNeg) = x4 then W_X10_needsAt_118 X l D (((x4 - x4 / (13 : Int32) * (13 : Int32)) * (54 : Int32)) + (((((x1 * (3 : Int32)) + x2) * (6 : Int32)) + x3) - (1 : Int32))) σ r σ' else vp_in (((x4 - x4 / (13 : Int32) * (13 : Int32)) * (54 : Int32)) + (((((x1 * (3 : Int32)) + x2) * (6 : Int32)) + x3) - (1 : Int32))) 702 ∧ (∀ τ3 : AH, τ3 = (sI σ 43 ((((x4 - x4 / (13 : Int32) * (13 : Int32)) * (54 : Int32)) + (((((x1 * (3 : Int32)) + x2) * (6 : Int32)) + x3) - (1 : Int32))).toNatClampNeg) x4) → ∃ d6 : Nat, ∃ σ7 : AH, d6 + 1 ≤ D ∧ Call X l m_X3_settle d6 [.ref 28, .int x4, .int (gI τ3 34 2)] τ3 none σ7 ∧ ∃ d11 : Nat, ∃ σ12 : AH, d11 + 1 ≤ D ∧ Call X l m_X3_ask d11 [.ref 28, .int x3, .int x4] σ7 none σ12 ∧ E X l m_X10_needsAt D 74 [(0, .ref 34), (1, .int x1), (2, .int x2), (6, .int (((x4 - x4 / (13 : Int32) * (13 : Int32)) * (54 : Int32)) + (((((x1 * (3 : Int32)) + x2) * (6 : Int32)) + x3) - (1 : Int32)))), (7, .int (0 : Int32))] [] σ12 r σ'))
set_option maxRecDepth 100000 in
theorem w_X10_needsAt_0 {X : Sx} {l : Launch} {D : Nat} {x1 : Int32} {x2 : Int32} {x3 : Int32} {x4 : Int32} {σ : AH} {r : Option Value} {σ' : AH} (hs : Sh σ) (h : W_X10_needsAt_0 X l D x1 x2 x3 x4 σ r σ') : E X l m_X10_needsAt D 0 [(0, .ref 34), (1, .int x1), (2, .int x2), (3, .int x3), (4, .int x4)] [] σ r σ' := by
  unfold W_X10_needsAt_0 at h
  refine E_iload_n 1 dX10_needsAt_0 rfl rfl ?_
  refine E_iconst (3 : Int32) dX10_needsAt_1 (by decide) ?_
  refine E_imul dX10_needsAt_2 ?_
  refine E_iload_n 2 dX10_needsAt_3 rfl rfl ?_
  refine E_iadd dX10_needsAt_4 ?_
  refine E_bipush (6 : Int32) dX10_needsAt_5 (by decide) ?_
  refine E_imul dX10_needsAt_7 ?_
  refine E_iload_n 3 dX10_needsAt_8 rfl rfl ?_
  refine E_iadd dX10_needsAt_9 ?_
  refine E_iconst (1 : Int32) dX10_needsAt_10 (by decide) ?_
  refine E_isub dX10_needsAt_11 ?_
  refine E_istore [(5, .int (((((x1 * (3 : Int32)) + x2) * (6 : Int32)) + x3) - (1 : Int32))), (0, .ref 34), (1, .int x1), (2, .int x2), (3, .int x3), (4, .int x4)] dX10_needsAt_12 (by decide) rfl ?_
  refine E_iload 5 dX10_needsAt_14 rfl ?_
  refine E_bipush (13 : Int32) dX10_needsAt_16 (by decide) ?_
  refine E_irem dX10_needsAt_18 (by decide) ?_
  refine E_bipush (54 : Int32) dX10_needsAt_19 (by decide) ?_
  refine E_imul dX10_needsAt_21 ?_
  refine E_iload 0 dX10_needsAt_22 rfl ?_
  refine E_iadd dX10_needsAt_24 ?_
  refine E_istore [(6, .int (((x4 - x4 / (13 : Int32) * (13 : Int32)) * (54 : Int32)) + (((((x1 * (3 : Int32)) + x2) * (6 : Int32)) + x3) - (1 : Int32)))), (5, .int (((((x1 * (3 : Int32)) + x2) * (6 : Int32)) + x3) - (1 : Int32))), (0, .ref 34), (1, .int x1), (2, .int x2), (3, .int x3), (4, .int x4)] dX10_needsAt_25 (by decide) rfl ?_
  refine E_aload_n 2 dX10_needsAt_27 rfl rfl ?_
  refine E_getR 43 dX10_needsAt_28 fl_X10_46 rfl (sk_34 hs) (sn hs (by decide)) (sr_34_13 hs) ?_
  refine E_iload 0 dX10_needsAt_31 rfl ?_
  obtain ⟨g1, h⟩ := h
  refine E_iald2 ((((x4 - x4 / (13 : Int32) * (13 : Int32)) * (54 : Int32)) + (((((x1 * (3 : Int32)) + x2) * (6 : Int32)) + x3) - (1 : Int32))).toNatClampNeg) dX10_needsAt_33 (sk_43 hs) (sn hs (by decide)) g1 rfl ?_
  refine E_iload 6 dX10_needsAt_34 rfl ?_
  refine E_icmp_eq 118 dX10_needsAt_36 (by decide) (fun c => ?_) (fun c => ?_)
  · rw [if_pos c] at h
    exact E_lv [0] rfl (w_X10_needsAt_118 hs h)
  · rw [if_neg c] at h
    refine E_aload_n 2 dX10_needsAt_39 rfl rfl ?_
    refine E_getR 43 dX10_needsAt_40 fl_X10_46 rfl (sk_34 hs) (sn hs (by decide)) (sr_34_13 hs) ?_
    refine E_iload 0 dX10_needsAt_43 rfl ?_
    refine E_iload 6 dX10_needsAt_45 rfl ?_
    obtain ⟨g2, h⟩ := h
    refine E_iast2 ((((x4 - x4 / (13 : Int32) * (13 : Int32)) * (54 : Int32)) + (((((x1 * (3 : Int32)) + x2) * (6 : Int32)) + x3) - (1 : Int32))).toNatClampNeg) dX10_needsAt_47 (sk_43 hs) (sn hs (by decide)) (Or.inl (by decide)) g2 rfl ?_
    obtain ⟨τ3, e4⟩ : ∃ τ : AH, τ = (sI σ 43 ((((x4 - x4 / (13 : Int32) * (13 : Int32)) * (54 : Int32)) + (((((x1 * (3 : Int32)) + x2) * (6 : Int32)) + x3) - (1 : Int32))).toNatClampNeg) x4) := ⟨_, rfl⟩
    replace h := h τ3 e4
    rw [← e4]
    have hs5 : Sh τ3 := by rw [e4]; exact hs
    refine E_aload_n 2 dX10_needsAt_48 rfl rfl ?_
    refine E_getR 28 dX10_needsAt_49 fl_X10_53 rfl (sk_34 hs5) (sn hs5 (by decide)) (sr_34_1 hs5) ?_
    refine E_iload 6 dX10_needsAt_52 rfl ?_
    refine E_aload_n 2 dX10_needsAt_54 rfl rfl ?_
    refine E_getI dX10_needsAt_55 fl_X10_9 rfl (sk_34 hs5) (sn hs5 (by decide)) ?_
    obtain ⟨d6, σ7, hD8, hC9, h⟩ := h
    have hs10 := hC9.1.2.2.2.1 hs5
    refine E_callV (As := [.int x4, .int (gI τ3 34 2)]) (rest := []) (r1 := none) (b := 28) dX10_needsAt_58 ok_X3_settle in_X3_settle se_X3_settle ml_X10_153 hD8 rfl rfl (Nat.le_of_ble_eq_true rfl) (sk_28 hs5) (sn hs5 (by decide)) (by decide) rfl (by decide +kernel) hC9 ?_
    refine E_aload_n 2 dX10_needsAt_61 rfl rfl ?_
    refine E_getR 28 dX10_needsAt_62 fl_X10_53 rfl (sk_34 hs10) (sn hs10 (by decide)) (sr_34_1 hs10) ?_
    refine E_iload_n 5 dX10_needsAt_65 rfl rfl ?_
    refine E_iload 6 dX10_needsAt_66 rfl ?_
    obtain ⟨d11, σ12, hD13, hC14, h⟩ := h
    have hs15 := hC14.1.2.2.2.1 hs10
    refine E_callV (As := [.int x3, .int x4]) (rest := []) (r1 := none) (b := 28) dX10_needsAt_68 ok_X3_ask in_X3_ask se_X3_ask ml_X10_158 hD13 rfl rfl (Nat.le_of_ble_eq_true rfl) (sk_28 hs10) (sn hs10 (by decide)) (by decide) rfl (by decide +kernel) hC14 ?_
    refine E_iconst (0 : Int32) dX10_needsAt_71 (by decide) ?_
    refine E_istore [(7, .int (0 : Int32)), (6, .int (((x4 - x4 / (13 : Int32) * (13 : Int32)) * (54 : Int32)) + (((((x1 * (3 : Int32)) + x2) * (6 : Int32)) + x3) - (1 : Int32)))), (5, .int (((((x1 * (3 : Int32)) + x2) * (6 : Int32)) + x3) - (1 : Int32))), (0, .ref 34), (1, .int x1), (2, .int x2), (3, .int x3), (4, .int x4)] dX10_needsAt_72 (by decide) rfl ?_
    exact E_lv [3, 4, 5, 1, 0] rfl h
def W_X10_needsAt_74 (X : Sx) (l : Launch) (D : Nat) (x1 : Int32) (x2 : Int32) (x6 : Int32) (x7 : Int32) (σ : AH) (r : Option Value) (σ' : AH) : Prop := (if (6 : Int32) ≤ x7 then W_X10_needsAt_118 X l D x6 σ r σ' else ∃ d16 : Nat, ∃ v21 : Int32, ∃ σ17 : AH, d16 + 1 ≤ D ∧ Call X l m_X11_needHead d16 [.int x1, .int x2, .int x7] σ (some (.int v21)) σ17 ∧ ∃ d22 : Nat, ∃ v27 : Int32, ∃ σ23 : AH, d22 + 1 ≤ D ∧ Call X l m_X3_counted d22 [.ref 28, .int v21] σ17 (some (.int v27)) σ23 ∧ 1 ≤ D ∧ vp_in ((x6 * (6 : Int32)) + x7) 4212 ∧ E X l m_X10_needsAt D 74 [(0, .ref 34), (1, .int x1), (2, .int x2), (6, .int x6), (7, .int (x7 + 1))] [] (sI σ23 42 (((x6 * (6 : Int32)) + x7).toNatClampNeg) (imax (0 : Int32) v27)) r σ')
set_option maxRecDepth 100000 in
theorem w_X10_needsAt_74 {X : Sx} {l : Launch} {D : Nat} {x1 : Int32} {x2 : Int32} {x6 : Int32} {x7 : Int32} {σ : AH} {r : Option Value} {σ' : AH} (hs : Sh σ) (h : W_X10_needsAt_74 X l D x1 x2 x6 x7 σ r σ') : E X l m_X10_needsAt D 74 [(0, .ref 34), (1, .int x1), (2, .int x2), (6, .int x6), (7, .int x7)] [] σ r σ' := by
  unfold W_X10_needsAt_74 at h
  refine E_iload 4 dX10_needsAt_74 rfl ?_
  refine E_bipush (6 : Int32) dX10_needsAt_76 (by decide) ?_
  refine E_icmp_ge 118 dX10_needsAt_78 (by decide) (fun c => ?_) (fun c => ?_)
  · rw [if_pos c] at h
    exact E_lv [3] rfl (w_X10_needsAt_118 hs h)
  · rw [if_neg c] at h
    refine E_aload_n 0 dX10_needsAt_81 rfl rfl ?_
    refine E_getR 42 dX10_needsAt_82 fl_X10_43 rfl (sk_34 hs) (sn hs (by decide)) (sr_34_12 hs) ?_
    refine E_iload 3 dX10_needsAt_85 rfl ?_
    refine E_bipush (6 : Int32) dX10_needsAt_87 (by decide) ?_
    refine E_imul dX10_needsAt_89 ?_
    refine E_iload 4 dX10_needsAt_90 rfl ?_
    refine E_iadd dX10_needsAt_92 ?_
    refine E_iconst (0 : Int32) dX10_needsAt_93 (by decide) ?_
    refine E_aload_n 0 dX10_needsAt_94 rfl rfl ?_
    refine E_getR 28 dX10_needsAt_95 fl_X10_53 rfl (sk_34 hs) (sn hs (by decide)) (sr_34_1 hs) ?_
    refine E_iload_n 1 dX10_needsAt_98 rfl rfl ?_
    refine E_iload_n 2 dX10_needsAt_99 rfl rfl ?_
    refine E_iload 4 dX10_needsAt_100 rfl ?_
    obtain ⟨d16, v21, σ17, hD18, hC19, h⟩ := h
    have hs20 := hC19.1.2.2.2.1 hs
    refine E_callSN (As := [.int x1, .int x2, .int x7]) (rest := [.ref 28, .int (0 : Int32), .int ((x6 * (6 : Int32)) + x7), .ref 42]) (r1 := (some (.int v21))) dX10_needsAt_102 ok_X11_needHead is_X11_needHead (by decide) hD18 rfl rfl (Nat.le_of_ble_eq_true rfl) (by decide +kernel) hC19 ?_
    obtain ⟨d22, v27, σ23, hD24, hC25, h⟩ := h
    have hs26 := hC25.1.2.2.2.1 hs20
    refine E_callV (As := [.int v21]) (rest := [.int (0 : Int32), .int ((x6 * (6 : Int32)) + x7), .ref 42]) (r1 := (some (.int v27))) (b := 28) dX10_needsAt_105 ok_X3_counted in_X3_counted se_X3_counted ml_X10_161 hD24 rfl rfl (Nat.le_of_ble_eq_true rfl) (sk_28 hs20) (sn hs20 (by decide)) (by decide) rfl (by decide +kernel) hC25 ?_
    obtain ⟨g28, h⟩ := h
    refine E_mmax dX10_needsAt_108 mm_X10_191 g28 (Nat.le_of_ble_eq_true rfl) ?_
    obtain ⟨g29, h⟩ := h
    refine E_iast2 (((x6 * (6 : Int32)) + x7).toNatClampNeg) dX10_needsAt_111 (sk_42 hs26) (sn hs26 (by decide)) (Or.inl (by decide)) g29 rfl ?_
    refine E_iinc 4 (x7 + 1) [(7, .int (x7 + 1)), (0, .ref 34), (1, .int x1), (2, .int x2), (6, .int x6)] dX10_needsAt_112 rfl (congrArg (x7 + ·) (by decide : Int32.ofInt 1 = 1)) (by decide) rfl ?_
    refine E_goto 74 dX10_needsAt_115 (by decide) ?_
    exact E_lv [1, 2, 3, 4, 0] rfl h
def W_X11_init_0 (X : Sx) (l : Launch) (D : Nat) (x0 : Nat) (σ : AH) (r : Option Value) (σ' : AH) : Prop := kd σ x0 = (11, NO 11) ∧ x0 < nx σ ∧ 1 ≤ D ∧ (∀ τ1 : AH, τ1 = (aw σ 9 (NO 9)) → ∃ d8 : Nat, ∃ σ9 : AH, d8 + 1 ≤ D ∧ Call X l m_X9_init d8 [.ref (nx σ)] τ1 none σ9 ∧ al m_X11_init x0 ∧ (Sh σ9 → Sh (sR σ9 x0 0 (some (nx σ)))) ∧ (∀ τ19 : AH, τ19 = (sR σ9 x0 0 (some (nx σ))) → (∀ τ24 : AH, τ24 = (aw τ19 104 3) → al m_X11_init x0 ∧ (Sh τ24 → Sh (sR τ24 x0 1 (some (nx τ19)))) ∧ (∀ τ33 : AH, τ33 = (sR τ24 x0 1 (some (nx τ19))) → (∀ τ38 : AH, τ38 = (aw τ33 5 (NO 5)) → ∃ d45 : Nat, ∃ σ46 : AH, d45 + 1 ≤ D ∧ Call X l m_X5_init d45 [.ref (nx τ33)] τ38 none σ46 ∧ al m_X11_init x0 ∧ (Sh σ46 → Sh (sR σ46 x0 2 (some (nx τ33)))) ∧ (∀ τ56 : AH, τ56 = (sR σ46 x0 2 (some (nx τ33))) → (∀ τ61 : AH, τ61 = (aw τ56 3 (NO 3)) → ∃ b68 : Nat, gR τ61 x0 0 = some b68 ∧ kd τ61 b68 = (9, NO 9) ∧ b68 < nx τ61 ∧ ∃ d72 : Nat, ∃ σ73 : AH, d72 + 1 ≤ D ∧ Call X l m_X3_init d72 [.ref (nx τ56), .ref b68] τ61 none σ73 ∧ al m_X11_init x0 ∧ (Sh σ73 → Sh (sR σ73 x0 3 (some (nx τ56)))) ∧ (∀ τ83 : AH, τ83 = (sR σ73 x0 3 (some (nx τ56))) → (∀ τ88 : AH, τ88 = (aw τ83 10 (NO 10)) → ∃ b95 : Nat, gR τ88 x0 0 = some b95 ∧ kd τ88 b95 = (9, NO 9) ∧ b95 < nx τ88 ∧ ∃ b99 : Nat, gR τ88 x0 3 = some b99 ∧ kd τ88 b99 = (3, NO 3) ∧ b99 < nx τ88 ∧ ∃ d103 : Nat, ∃ σ104 : AH, d103 + 1 ≤ D ∧ Call X l m_X10_init d103 [.ref (nx τ83), .ref b95, .ref b99] τ88 none σ104 ∧ al m_X11_init x0 ∧ (Sh σ104 → Sh (sR σ104 x0 4 (some (nx τ83)))) ∧ (∀ τ114 : AH, τ114 = (sR σ104 x0 4 (some (nx τ83))) → (∀ τ119 : AH, τ119 = (aw τ114 6 (NO 6)) → ∃ d126 : Nat, ∃ σ127 : AH, d126 + 1 ≤ D ∧ Call X l m_X6_init d126 [.ref (nx τ114)] τ119 none σ127 ∧ al m_X11_init x0 ∧ (Sh σ127 → Sh (sR σ127 x0 5 (some (nx τ114)))) ∧ (∀ τ137 : AH, τ137 = (sR σ127 x0 5 (some (nx τ114))) → (∀ τ142 : AH, τ142 = (aw τ137 6 (NO 6)) → ∃ d149 : Nat, ∃ σ150 : AH, d149 + 1 ≤ D ∧ Call X l m_X6_init d149 [.ref (nx τ137)] τ142 none σ150 ∧ al m_X11_init x0 ∧ (Sh σ150 → Sh (sR σ150 x0 6 (some (nx τ137)))) ∧ (∀ τ160 : AH, τ160 = (sR σ150 x0 6 (some (nx τ137))) → (∀ τ165 : AH, τ165 = (aw τ160 1 (NO 1)) → ∃ b172 : Nat, gR τ165 x0 0 = some b172 ∧ kd τ165 b172 = (9, NO 9) ∧ b172 < nx τ165 ∧ ∃ b176 : Nat, gR τ165 x0 4 = some b176 ∧ kd τ165 b176 = (10, NO 10) ∧ b176 < nx τ165 ∧ ∃ d180 : Nat, ∃ σ181 : AH, d180 + 1 ≤ D ∧ Call X l m_X1_init d180 [.ref (nx τ160), .ref b172, .ref b176] τ165 none σ181 ∧ al m_X11_init x0 ∧ (Sh σ181 → Sh (sR σ181 x0 7 (some (nx τ160)))) ∧ (∀ τ191 : AH, τ191 = (sR σ181 x0 7 (some (nx τ160))) → (∀ τ196 : AH, τ196 = (aw τ191 4 (NO 4)) → ∃ b203 : Nat, gR τ196 x0 0 = some b203 ∧ kd τ196 b203 = (9, NO 9) ∧ b203 < nx τ196 ∧ ∃ b207 : Nat, gR τ196 x0 3 = some b207 ∧ kd τ196 b207 = (3, NO 3) ∧ b207 < nx τ196 ∧ ∃ d211 : Nat, ∃ σ212 : AH, d211 + 1 ≤ D ∧ Call X l m_X4_init d211 [.ref (nx τ191), .ref b203, .ref b207] τ196 none σ212 ∧ al m_X11_init x0 ∧ (Sh σ212 → Sh (sR σ212 x0 8 (some (nx τ191)))) ∧ (∀ τ222 : AH, τ222 = (sR σ212 x0 8 (some (nx τ191))) → (∀ τ227 : AH, τ227 = (aw τ222 2 (NO 2)) → ∃ b234 : Nat, gR τ227 x0 0 = some b234 ∧ kd τ227 b234 = (9, NO 9) ∧ b234 < nx τ227 ∧ ∃ b238 : Nat, gR τ227 x0 3 = some b238 ∧ kd τ227 b238 = (3, NO 3) ∧ b238 < nx τ227 ∧ ∃ b242 : Nat, gR τ227 x0 8 = some b242 ∧ kd τ227 b242 = (4, NO 4) ∧ b242 < nx τ227 ∧ ∃ d246 : Nat, ∃ σ247 : AH, d246 + 1 ≤ D ∧ Call X l m_X2_init d246 [.ref (nx τ222), .ref b234, .ref b238, .ref b242] τ227 none σ247 ∧ al m_X11_init x0 ∧ (Sh σ247 → Sh (sR σ247 x0 9 (some (nx τ222)))) ∧ (∀ τ257 : AH, τ257 = (sR σ247 x0 9 (some (nx τ222))) → al m_X11_init x0 ∧ (r = none ∧ σ' = (sI τ257 x0 11 (-1 : Int32)))))))))))))))))))))))
set_option maxRecDepth 100000 in
theorem w_X11_init_0 {X : Sx} {l : Launch} {D : Nat} {x0 : Nat} {σ : AH} {r : Option Value} {σ' : AH} (h : W_X11_init_0 X l D x0 σ r σ') : E X l m_X11_init D 0 [(0, .ref x0)] [] σ r σ' := by
  unfold W_X11_init_0 at h
  obtain ⟨hkx0, hbx0, h⟩ := h
  refine E_aload_n 0 dX11_init_0 rfl rfl ?_
  obtain ⟨g263, h⟩ := h
  refine E_objInit dX11_init_1 mo_X11_1 g263 (Nat.le_of_ble_eq_true rfl) ?_
  refine E_aload_n 0 dX11_init_4 rfl rfl ?_
  refine E_new 9 dX11_init_5 (by decide) ck_X11_7 ?_
  obtain ⟨τ1, e2⟩ : ∃ τ : AH, τ = (aw σ 9 (NO 9)) := ⟨_, rfl⟩
  replace h := h τ1 e2
  rw [← e2]
  have hk4 : kd _ x0 = (11, NO 11) := (congrFun (congrArg kd e2) _).trans ((up_ne _ _ _ (Nat.ne_of_lt hbx0)).trans hkx0)
  have hb5 := Nat.lt_of_lt_of_eq (Nat.lt_succ_of_lt hbx0) (congrArg nx e2).symm
  have hk6 : kd _ (nx σ) = (9, NO 9) := (congrFun (congrArg kd e2) _).trans (up_same _ _ _)
  have hb7 := Nat.lt_of_lt_of_eq (Nat.lt_succ_self _) (congrArg nx e2).symm
  refine E_dup dX11_init_8 rfl ?_
  obtain ⟨d8, σ9, hD10, hC11, h⟩ := h
  have hk13 := (hC11.1.2.2.1 _ hb5).trans hk4
  have hb14 := Nat.lt_of_lt_of_le hb5 hC11.1.1
  have hk15 := (hC11.1.2.2.1 _ hb7).trans hk6
  have hb16 := Nat.lt_of_lt_of_le hb7 hC11.1.1
  refine E_callIN (As := []) (rest := [.ref (nx σ), .ref x0]) (r1 := none) (b := (nx σ)) dX11_init_9 ok_X9_init in_X9_init rfl rfl (by decide) hD10 rfl rfl (Nat.le_of_ble_eq_true rfl) (by decide +kernel) hC11 ?_
  obtain ⟨ga17, h⟩ := h
  obtain ⟨g18, h⟩ := h
  refine E_putR dX11_init_12 fl_X11_10 rfl (Or.inr ⟨rfl, rfl, rfl⟩) hk13 hb14 ga17 g18 ?_
  obtain ⟨τ19, e20⟩ : ∃ τ : AH, τ = (sR σ9 x0 0 (some (nx σ))) := ⟨_, rfl⟩
  replace h := h τ19 e20
  rw [← e20]
  have hk22 : kd _ x0 = (11, NO 11) := (congrFun (congrArg kd e20) _).trans hk13
  have hb23 := Nat.lt_of_lt_of_eq hb14 (congrArg nx e20).symm
  refine E_aload_n 0 dX11_init_15 rfl rfl ?_
  refine E_iconst (3 : Int32) dX11_init_16 (by decide) ?_
  refine E_newq 3 104 dX11_init_17 (Or.inr (Or.inl rfl)) ck_X11_7 (by decide) (by decide) (by decide) ?_
  obtain ⟨τ24, e25⟩ : ∃ τ : AH, τ = (aw τ19 104 3) := ⟨_, rfl⟩
  replace h := h τ24 e25
  rw [← e25]
  have hk27 : kd _ x0 = (11, NO 11) := (congrFun (congrArg kd e25) _).trans ((up_ne _ _ _ (Nat.ne_of_lt hb23)).trans hk22)
  have hb28 := Nat.lt_of_lt_of_eq (Nat.lt_succ_of_lt hb23) (congrArg nx e25).symm
  have hk29 : kd _ (nx τ19) = (104, 3) := (congrFun (congrArg kd e25) _).trans (up_same _ _ _)
  have hb30 := Nat.lt_of_lt_of_eq (Nat.lt_succ_self _) (congrArg nx e25).symm
  obtain ⟨ga31, h⟩ := h
  obtain ⟨g32, h⟩ := h
  refine E_putR dX11_init_20 fl_X11_16 rfl (Or.inr ⟨rfl, rfl, rfl⟩) hk27 hb28 ga31 g32 ?_
  obtain ⟨τ33, e34⟩ : ∃ τ : AH, τ = (sR τ24 x0 1 (some (nx τ19))) := ⟨_, rfl⟩
  replace h := h τ33 e34
  rw [← e34]
  have hk36 : kd _ x0 = (11, NO 11) := (congrFun (congrArg kd e34) _).trans hk27
  have hb37 := Nat.lt_of_lt_of_eq hb28 (congrArg nx e34).symm
  refine E_aload_n 0 dX11_init_23 rfl rfl ?_
  refine E_new 5 dX11_init_24 (by decide) ck_X11_20 ?_
  obtain ⟨τ38, e39⟩ : ∃ τ : AH, τ = (aw τ33 5 (NO 5)) := ⟨_, rfl⟩
  replace h := h τ38 e39
  rw [← e39]
  have hk41 : kd _ x0 = (11, NO 11) := (congrFun (congrArg kd e39) _).trans ((up_ne _ _ _ (Nat.ne_of_lt hb37)).trans hk36)
  have hb42 := Nat.lt_of_lt_of_eq (Nat.lt_succ_of_lt hb37) (congrArg nx e39).symm
  have hk43 : kd _ (nx τ33) = (5, NO 5) := (congrFun (congrArg kd e39) _).trans (up_same _ _ _)
  have hb44 := Nat.lt_of_lt_of_eq (Nat.lt_succ_self _) (congrArg nx e39).symm
  refine E_dup dX11_init_27 rfl ?_
  obtain ⟨d45, σ46, hD47, hC48, h⟩ := h
  have hk50 := (hC48.1.2.2.1 _ hb42).trans hk41
  have hb51 := Nat.lt_of_lt_of_le hb42 hC48.1.1
  have hk52 := (hC48.1.2.2.1 _ hb44).trans hk43
  have hb53 := Nat.lt_of_lt_of_le hb44 hC48.1.1
  refine E_callIN (As := []) (rest := [.ref (nx τ33), .ref x0]) (r1 := none) (b := (nx τ33)) dX11_init_28 ok_X5_init in_X5_init rfl rfl (by decide) hD47 rfl rfl (Nat.le_of_ble_eq_true rfl) (by decide +kernel) hC48 ?_
  obtain ⟨ga54, h⟩ := h
  obtain ⟨g55, h⟩ := h
  refine E_putR dX11_init_31 fl_X11_23 rfl (Or.inr ⟨rfl, rfl, rfl⟩) hk50 hb51 ga54 g55 ?_
  obtain ⟨τ56, e57⟩ : ∃ τ : AH, τ = (sR σ46 x0 2 (some (nx τ33))) := ⟨_, rfl⟩
  replace h := h τ56 e57
  rw [← e57]
  have hk59 : kd _ x0 = (11, NO 11) := (congrFun (congrArg kd e57) _).trans hk50
  have hb60 := Nat.lt_of_lt_of_eq hb51 (congrArg nx e57).symm
  refine E_aload_n 0 dX11_init_34 rfl rfl ?_
  refine E_new 3 dX11_init_35 (by decide) ck_X11_27 ?_
  obtain ⟨τ61, e62⟩ : ∃ τ : AH, τ = (aw τ56 3 (NO 3)) := ⟨_, rfl⟩
  replace h := h τ61 e62
  rw [← e62]
  have hk64 : kd _ x0 = (11, NO 11) := (congrFun (congrArg kd e62) _).trans ((up_ne _ _ _ (Nat.ne_of_lt hb60)).trans hk59)
  have hb65 := Nat.lt_of_lt_of_eq (Nat.lt_succ_of_lt hb60) (congrArg nx e62).symm
  have hk66 : kd _ (nx τ56) = (3, NO 3) := (congrFun (congrArg kd e62) _).trans (up_same _ _ _)
  have hb67 := Nat.lt_of_lt_of_eq (Nat.lt_succ_self _) (congrArg nx e62).symm
  refine E_dup dX11_init_38 rfl ?_
  refine E_aload_n 0 dX11_init_39 rfl rfl ?_
  obtain ⟨b68, g69, hk70, hb71, h⟩ := h
  refine E_getR b68 dX11_init_40 fl_X11_10 rfl hk64 hb65 g69 ?_
  obtain ⟨d72, σ73, hD74, hC75, h⟩ := h
  have hk77 := (hC75.1.2.2.1 _ hb65).trans hk64
  have hb78 := Nat.lt_of_lt_of_le hb65 hC75.1.1
  have hk79 := (hC75.1.2.2.1 _ hb67).trans hk66
  have hb80 := Nat.lt_of_lt_of_le hb67 hC75.1.1
  refine E_callI (As := [.ref b68]) (rest := [.ref (nx τ56), .ref x0]) (r1 := none) (b := (nx τ56)) dX11_init_43 ok_X3_init in_X3_init rfl rfl ml_X11_29 hD74 rfl rfl (Nat.le_of_ble_eq_true rfl) (by decide +kernel) hC75 ?_
  obtain ⟨ga81, h⟩ := h
  obtain ⟨g82, h⟩ := h
  refine E_putR dX11_init_46 fl_X11_32 rfl (Or.inr ⟨rfl, rfl, rfl⟩) hk77 hb78 ga81 g82 ?_
  obtain ⟨τ83, e84⟩ : ∃ τ : AH, τ = (sR σ73 x0 3 (some (nx τ56))) := ⟨_, rfl⟩
  replace h := h τ83 e84
  rw [← e84]
  have hk86 : kd _ x0 = (11, NO 11) := (congrFun (congrArg kd e84) _).trans hk77
  have hb87 := Nat.lt_of_lt_of_eq hb78 (congrArg nx e84).symm
  refine E_aload_n 0 dX11_init_49 rfl rfl ?_
  refine E_new 10 dX11_init_50 (by decide) ck_X11_36 ?_
  obtain ⟨τ88, e89⟩ : ∃ τ : AH, τ = (aw τ83 10 (NO 10)) := ⟨_, rfl⟩
  replace h := h τ88 e89
  rw [← e89]
  have hk91 : kd _ x0 = (11, NO 11) := (congrFun (congrArg kd e89) _).trans ((up_ne _ _ _ (Nat.ne_of_lt hb87)).trans hk86)
  have hb92 := Nat.lt_of_lt_of_eq (Nat.lt_succ_of_lt hb87) (congrArg nx e89).symm
  have hk93 : kd _ (nx τ83) = (10, NO 10) := (congrFun (congrArg kd e89) _).trans (up_same _ _ _)
  have hb94 := Nat.lt_of_lt_of_eq (Nat.lt_succ_self _) (congrArg nx e89).symm
  refine E_dup dX11_init_53 rfl ?_
  refine E_aload_n 0 dX11_init_54 rfl rfl ?_
  obtain ⟨b95, g96, hk97, hb98, h⟩ := h
  refine E_getR b95 dX11_init_55 fl_X11_10 rfl hk91 hb92 g96 ?_
  refine E_aload_n 0 dX11_init_58 rfl rfl ?_
  obtain ⟨b99, g100, hk101, hb102, h⟩ := h
  refine E_getR b99 dX11_init_59 fl_X11_32 rfl hk91 hb92 g100 ?_
  obtain ⟨d103, σ104, hD105, hC106, h⟩ := h
  have hk108 := (hC106.1.2.2.1 _ hb92).trans hk91
  have hb109 := Nat.lt_of_lt_of_le hb92 hC106.1.1
  have hk110 := (hC106.1.2.2.1 _ hb94).trans hk93
  have hb111 := Nat.lt_of_lt_of_le hb94 hC106.1.1
  refine E_callI (As := [.ref b95, .ref b99]) (rest := [.ref (nx τ83), .ref x0]) (r1 := none) (b := (nx τ83)) dX11_init_62 ok_X10_init in_X10_init rfl rfl ml_X11_38 hD105 rfl rfl (Nat.le_of_ble_eq_true rfl) (by decide +kernel) hC106 ?_
  obtain ⟨ga112, h⟩ := h
  obtain ⟨g113, h⟩ := h
  refine E_putR dX11_init_65 fl_X11_41 rfl (Or.inr ⟨rfl, rfl, rfl⟩) hk108 hb109 ga112 g113 ?_
  obtain ⟨τ114, e115⟩ : ∃ τ : AH, τ = (sR σ104 x0 4 (some (nx τ83))) := ⟨_, rfl⟩
  replace h := h τ114 e115
  rw [← e115]
  have hk117 : kd _ x0 = (11, NO 11) := (congrFun (congrArg kd e115) _).trans hk108
  have hb118 := Nat.lt_of_lt_of_eq hb109 (congrArg nx e115).symm
  refine E_aload_n 0 dX11_init_68 rfl rfl ?_
  refine E_new 6 dX11_init_69 (by decide) ck_X11_45 ?_
  obtain ⟨τ119, e120⟩ : ∃ τ : AH, τ = (aw τ114 6 (NO 6)) := ⟨_, rfl⟩
  replace h := h τ119 e120
  rw [← e120]
  have hk122 : kd _ x0 = (11, NO 11) := (congrFun (congrArg kd e120) _).trans ((up_ne _ _ _ (Nat.ne_of_lt hb118)).trans hk117)
  have hb123 := Nat.lt_of_lt_of_eq (Nat.lt_succ_of_lt hb118) (congrArg nx e120).symm
  have hk124 : kd _ (nx τ114) = (6, NO 6) := (congrFun (congrArg kd e120) _).trans (up_same _ _ _)
  have hb125 := Nat.lt_of_lt_of_eq (Nat.lt_succ_self _) (congrArg nx e120).symm
  refine E_dup dX11_init_72 rfl ?_
  obtain ⟨d126, σ127, hD128, hC129, h⟩ := h
  have hk131 := (hC129.1.2.2.1 _ hb123).trans hk122
  have hb132 := Nat.lt_of_lt_of_le hb123 hC129.1.1
  have hk133 := (hC129.1.2.2.1 _ hb125).trans hk124
  have hb134 := Nat.lt_of_lt_of_le hb125 hC129.1.1
  refine E_callIN (As := []) (rest := [.ref (nx τ114), .ref x0]) (r1 := none) (b := (nx τ114)) dX11_init_73 ok_X6_init in_X6_init rfl rfl (by decide) hD128 rfl rfl (Nat.le_of_ble_eq_true rfl) (by decide +kernel) hC129 ?_
  obtain ⟨ga135, h⟩ := h
  obtain ⟨g136, h⟩ := h
  refine E_putR dX11_init_76 fl_X11_48 rfl (Or.inr ⟨rfl, rfl, rfl⟩) hk131 hb132 ga135 g136 ?_
  obtain ⟨τ137, e138⟩ : ∃ τ : AH, τ = (sR σ127 x0 5 (some (nx τ114))) := ⟨_, rfl⟩
  replace h := h τ137 e138
  rw [← e138]
  have hk140 : kd _ x0 = (11, NO 11) := (congrFun (congrArg kd e138) _).trans hk131
  have hb141 := Nat.lt_of_lt_of_eq hb132 (congrArg nx e138).symm
  refine E_aload_n 0 dX11_init_79 rfl rfl ?_
  refine E_new 6 dX11_init_80 (by decide) ck_X11_45 ?_
  obtain ⟨τ142, e143⟩ : ∃ τ : AH, τ = (aw τ137 6 (NO 6)) := ⟨_, rfl⟩
  replace h := h τ142 e143
  rw [← e143]
  have hk145 : kd _ x0 = (11, NO 11) := (congrFun (congrArg kd e143) _).trans ((up_ne _ _ _ (Nat.ne_of_lt hb141)).trans hk140)
  have hb146 := Nat.lt_of_lt_of_eq (Nat.lt_succ_of_lt hb141) (congrArg nx e143).symm
  have hk147 : kd _ (nx τ137) = (6, NO 6) := (congrFun (congrArg kd e143) _).trans (up_same _ _ _)
  have hb148 := Nat.lt_of_lt_of_eq (Nat.lt_succ_self _) (congrArg nx e143).symm
  refine E_dup dX11_init_83 rfl ?_
  obtain ⟨d149, σ150, hD151, hC152, h⟩ := h
  have hk154 := (hC152.1.2.2.1 _ hb146).trans hk145
  have hb155 := Nat.lt_of_lt_of_le hb146 hC152.1.1
  have hk156 := (hC152.1.2.2.1 _ hb148).trans hk147
  have hb157 := Nat.lt_of_lt_of_le hb148 hC152.1.1
  refine E_callIN (As := []) (rest := [.ref (nx τ137), .ref x0]) (r1 := none) (b := (nx τ137)) dX11_init_84 ok_X6_init in_X6_init rfl rfl (by decide) hD151 rfl rfl (Nat.le_of_ble_eq_true rfl) (by decide +kernel) hC152 ?_
  obtain ⟨ga158, h⟩ := h
  obtain ⟨g159, h⟩ := h
  refine E_putR dX11_init_87 fl_X11_52 rfl (Or.inr ⟨rfl, rfl, rfl⟩) hk154 hb155 ga158 g159 ?_
  obtain ⟨τ160, e161⟩ : ∃ τ : AH, τ = (sR σ150 x0 6 (some (nx τ137))) := ⟨_, rfl⟩
  replace h := h τ160 e161
  rw [← e161]
  have hk163 : kd _ x0 = (11, NO 11) := (congrFun (congrArg kd e161) _).trans hk154
  have hb164 := Nat.lt_of_lt_of_eq hb155 (congrArg nx e161).symm
  refine E_aload_n 0 dX11_init_90 rfl rfl ?_
  refine E_new 1 dX11_init_91 (by decide) ck_X11_55 ?_
  obtain ⟨τ165, e166⟩ : ∃ τ : AH, τ = (aw τ160 1 (NO 1)) := ⟨_, rfl⟩
  replace h := h τ165 e166
  rw [← e166]
  have hk168 : kd _ x0 = (11, NO 11) := (congrFun (congrArg kd e166) _).trans ((up_ne _ _ _ (Nat.ne_of_lt hb164)).trans hk163)
  have hb169 := Nat.lt_of_lt_of_eq (Nat.lt_succ_of_lt hb164) (congrArg nx e166).symm
  have hk170 : kd _ (nx τ160) = (1, NO 1) := (congrFun (congrArg kd e166) _).trans (up_same _ _ _)
  have hb171 := Nat.lt_of_lt_of_eq (Nat.lt_succ_self _) (congrArg nx e166).symm
  refine E_dup dX11_init_94 rfl ?_
  refine E_aload_n 0 dX11_init_95 rfl rfl ?_
  obtain ⟨b172, g173, hk174, hb175, h⟩ := h
  refine E_getR b172 dX11_init_96 fl_X11_10 rfl hk168 hb169 g173 ?_
  refine E_aload_n 0 dX11_init_99 rfl rfl ?_
  obtain ⟨b176, g177, hk178, hb179, h⟩ := h
  refine E_getR b176 dX11_init_100 fl_X11_41 rfl hk168 hb169 g177 ?_
  obtain ⟨d180, σ181, hD182, hC183, h⟩ := h
  have hk185 := (hC183.1.2.2.1 _ hb169).trans hk168
  have hb186 := Nat.lt_of_lt_of_le hb169 hC183.1.1
  have hk187 := (hC183.1.2.2.1 _ hb171).trans hk170
  have hb188 := Nat.lt_of_lt_of_le hb171 hC183.1.1
  refine E_callI (As := [.ref b172, .ref b176]) (rest := [.ref (nx τ160), .ref x0]) (r1 := none) (b := (nx τ160)) dX11_init_103 ok_X1_init in_X1_init rfl rfl ml_X11_57 hD182 rfl rfl (Nat.le_of_ble_eq_true rfl) (by decide +kernel) hC183 ?_
  obtain ⟨ga189, h⟩ := h
  obtain ⟨g190, h⟩ := h
  refine E_putR dX11_init_106 fl_X11_60 rfl (Or.inr ⟨rfl, rfl, rfl⟩) hk185 hb186 ga189 g190 ?_
  obtain ⟨τ191, e192⟩ : ∃ τ : AH, τ = (sR σ181 x0 7 (some (nx τ160))) := ⟨_, rfl⟩
  replace h := h τ191 e192
  rw [← e192]
  have hk194 : kd _ x0 = (11, NO 11) := (congrFun (congrArg kd e192) _).trans hk185
  have hb195 := Nat.lt_of_lt_of_eq hb186 (congrArg nx e192).symm
  refine E_aload_n 0 dX11_init_109 rfl rfl ?_
  refine E_new 4 dX11_init_110 (by decide) ck_X11_64 ?_
  obtain ⟨τ196, e197⟩ : ∃ τ : AH, τ = (aw τ191 4 (NO 4)) := ⟨_, rfl⟩
  replace h := h τ196 e197
  rw [← e197]
  have hk199 : kd _ x0 = (11, NO 11) := (congrFun (congrArg kd e197) _).trans ((up_ne _ _ _ (Nat.ne_of_lt hb195)).trans hk194)
  have hb200 := Nat.lt_of_lt_of_eq (Nat.lt_succ_of_lt hb195) (congrArg nx e197).symm
  have hk201 : kd _ (nx τ191) = (4, NO 4) := (congrFun (congrArg kd e197) _).trans (up_same _ _ _)
  have hb202 := Nat.lt_of_lt_of_eq (Nat.lt_succ_self _) (congrArg nx e197).symm
  refine E_dup dX11_init_113 rfl ?_
  refine E_aload_n 0 dX11_init_114 rfl rfl ?_
  obtain ⟨b203, g204, hk205, hb206, h⟩ := h
  refine E_getR b203 dX11_init_115 fl_X11_10 rfl hk199 hb200 g204 ?_
  refine E_aload_n 0 dX11_init_118 rfl rfl ?_
  obtain ⟨b207, g208, hk209, hb210, h⟩ := h
  refine E_getR b207 dX11_init_119 fl_X11_32 rfl hk199 hb200 g208 ?_
  obtain ⟨d211, σ212, hD213, hC214, h⟩ := h
  have hk216 := (hC214.1.2.2.1 _ hb200).trans hk199
  have hb217 := Nat.lt_of_lt_of_le hb200 hC214.1.1
  have hk218 := (hC214.1.2.2.1 _ hb202).trans hk201
  have hb219 := Nat.lt_of_lt_of_le hb202 hC214.1.1
  refine E_callI (As := [.ref b203, .ref b207]) (rest := [.ref (nx τ191), .ref x0]) (r1 := none) (b := (nx τ191)) dX11_init_122 ok_X4_init in_X4_init rfl rfl ml_X11_66 hD213 rfl rfl (Nat.le_of_ble_eq_true rfl) (by decide +kernel) hC214 ?_
  obtain ⟨ga220, h⟩ := h
  obtain ⟨g221, h⟩ := h
  refine E_putR dX11_init_125 fl_X11_67 rfl (Or.inr ⟨rfl, rfl, rfl⟩) hk216 hb217 ga220 g221 ?_
  obtain ⟨τ222, e223⟩ : ∃ τ : AH, τ = (sR σ212 x0 8 (some (nx τ191))) := ⟨_, rfl⟩
  replace h := h τ222 e223
  rw [← e223]
  have hk225 : kd _ x0 = (11, NO 11) := (congrFun (congrArg kd e223) _).trans hk216
  have hb226 := Nat.lt_of_lt_of_eq hb217 (congrArg nx e223).symm
  refine E_aload_n 0 dX11_init_128 rfl rfl ?_
  refine E_new 2 dX11_init_129 (by decide) ck_X11_71 ?_
  obtain ⟨τ227, e228⟩ : ∃ τ : AH, τ = (aw τ222 2 (NO 2)) := ⟨_, rfl⟩
  replace h := h τ227 e228
  rw [← e228]
  have hk230 : kd _ x0 = (11, NO 11) := (congrFun (congrArg kd e228) _).trans ((up_ne _ _ _ (Nat.ne_of_lt hb226)).trans hk225)
  have hb231 := Nat.lt_of_lt_of_eq (Nat.lt_succ_of_lt hb226) (congrArg nx e228).symm
  have hk232 : kd _ (nx τ222) = (2, NO 2) := (congrFun (congrArg kd e228) _).trans (up_same _ _ _)
  have hb233 := Nat.lt_of_lt_of_eq (Nat.lt_succ_self _) (congrArg nx e228).symm
  refine E_dup dX11_init_132 rfl ?_
  refine E_aload_n 0 dX11_init_133 rfl rfl ?_
  obtain ⟨b234, g235, hk236, hb237, h⟩ := h
  refine E_getR b234 dX11_init_134 fl_X11_10 rfl hk230 hb231 g235 ?_
  refine E_aload_n 0 dX11_init_137 rfl rfl ?_
  obtain ⟨b238, g239, hk240, hb241, h⟩ := h
  refine E_getR b238 dX11_init_138 fl_X11_32 rfl hk230 hb231 g239 ?_
  refine E_aload_n 0 dX11_init_141 rfl rfl ?_
  obtain ⟨b242, g243, hk244, hb245, h⟩ := h
  refine E_getR b242 dX11_init_142 fl_X11_67 rfl hk230 hb231 g243 ?_
  obtain ⟨d246, σ247, hD248, hC249, h⟩ := h
  have hk251 := (hC249.1.2.2.1 _ hb231).trans hk230
  have hb252 := Nat.lt_of_lt_of_le hb231 hC249.1.1
  have hk253 := (hC249.1.2.2.1 _ hb233).trans hk232
  have hb254 := Nat.lt_of_lt_of_le hb233 hC249.1.1
  refine E_callI (As := [.ref b234, .ref b238, .ref b242]) (rest := [.ref (nx τ222), .ref x0]) (r1 := none) (b := (nx τ222)) dX11_init_145 ok_X2_init in_X2_init rfl rfl ml_X11_73 hD248 rfl rfl (Nat.le_of_ble_eq_true rfl) (by decide +kernel) hC249 ?_
  obtain ⟨ga255, h⟩ := h
  obtain ⟨g256, h⟩ := h
  refine E_putR dX11_init_148 fl_X11_76 rfl (Or.inr ⟨rfl, rfl, rfl⟩) hk251 hb252 ga255 g256 ?_
  obtain ⟨τ257, e258⟩ : ∃ τ : AH, τ = (sR σ247 x0 9 (some (nx τ222))) := ⟨_, rfl⟩
  replace h := h τ257 e258
  rw [← e258]
  have hk260 : kd _ x0 = (11, NO 11) := (congrFun (congrArg kd e258) _).trans hk251
  have hb261 := Nat.lt_of_lt_of_eq hb252 (congrArg nx e258).symm
  refine E_aload_n 0 dX11_init_151 rfl rfl ?_
  refine E_iconst (-1 : Int32) dX11_init_152 (by decide) ?_
  obtain ⟨ga262, h⟩ := h
  refine E_putI dX11_init_153 fl_X11_80 rfl (Or.inl rfl) hk260 hb261 ga262 rfl rfl ?_
  obtain ⟨rfl, rfl⟩ := h
  exact E_vret dX11_init_156 rfl
def W_X11_feed_0 (X : Sx) (l : Launch) (D : Nat) (x1 : Int32) (x2 : Int32) (x3 : Int32) (x4 : Int32) (x5 : Int32) (σ : AH) (r : Option Value) (σ' : AH) : Prop := ∃ d1 : Nat, ∃ v6 : Int32, ∃ σ2 : AH, d1 + 1 ≤ D ∧ Call X l m_X5_hasRoom d1 [.ref 22, .int (20 : Int32)] σ (some (.int v6)) σ2 ∧ (if v6 = 0 then (r = some (.int (-1 : Int32)) ∧ σ' = σ2) else ∃ d7 : Nat, ∃ σ8 : AH, d7 + 1 ≤ D ∧ Call X l m_X5_write d7 [.ref 22, .int x1] σ2 none σ8 ∧ ∃ d12 : Nat, ∃ σ13 : AH, d12 + 1 ≤ D ∧ Call X l m_X5_write d12 [.ref 22, .int x2] σ8 none σ13 ∧ ∃ d17 : Nat, ∃ σ18 : AH, d17 + 1 ≤ D ∧ Call X l m_X5_write d17 [.ref 22, .int x3] σ13 none σ18 ∧ ∃ d22 : Nat, ∃ σ23 : AH, d22 + 1 ≤ D ∧ Call X l m_X5_write d22 [.ref 22, .int x4] σ18 none σ23 ∧ ∃ d27 : Nat, ∃ σ28 : AH, d27 + 1 ≤ D ∧ Call X l m_X5_write d27 [.ref 22, .int x5] σ23 none σ28 ∧ (r = some (.int (gI σ28 22 1)) ∧ σ' = σ28))
set_option maxRecDepth 100000 in
theorem w_X11_feed_0 {X : Sx} {l : Launch} {D : Nat} {x1 : Int32} {x2 : Int32} {x3 : Int32} {x4 : Int32} {x5 : Int32} {σ : AH} {r : Option Value} {σ' : AH} (hs : Sh σ) (h : W_X11_feed_0 X l D x1 x2 x3 x4 x5 σ r σ') : E X l m_X11_feed D 0 [(0, .ref 0), (1, .int x1), (2, .int x2), (3, .int x3), (4, .int x4), (5, .int x5)] [] σ r σ' := by
  unfold W_X11_feed_0 at h
  refine E_aload_n 0 dX11_feed_0 rfl rfl ?_
  refine E_getR 22 dX11_feed_1 fl_X11_23 rfl (sk_0 hs) (sn hs (by decide)) (sr_0_2 hs) ?_
  refine E_bipush (20 : Int32) dX11_feed_4 (by decide) ?_
  obtain ⟨d1, v6, σ2, hD3, hC4, h⟩ := h
  have hs5 := hC4.1.2.2.2.1 hs
  refine E_callV (As := [.int (20 : Int32)]) (rest := []) (r1 := (some (.int v6))) (b := 22) dX11_feed_6 ok_X5_hasRoom in_X5_hasRoom se_X5_hasRoom ml_X11_84 hD3 rfl rfl (Nat.le_of_ble_eq_true rfl) (sk_22 hs) (sn hs (by decide)) (by decide) rfl (by decide +kernel) hC4 ?_
  refine E_if_ne 14 dX11_feed_9 (by decide) (fun c => ?_) (fun c => ?_)
  · rw [if_neg c] at h
    refine E_aload_n 0 dX11_feed_14 rfl rfl ?_
    refine E_getR 22 dX11_feed_15 fl_X11_23 rfl (sk_0 hs5) (sn hs5 (by decide)) (sr_0_2 hs5) ?_
    refine E_iload_n 1 dX11_feed_18 rfl rfl ?_
    obtain ⟨d7, σ8, hD9, hC10, h⟩ := h
    have hs11 := hC10.1.2.2.2.1 hs5
    refine E_callV (As := [.int x1]) (rest := []) (r1 := none) (b := 22) dX11_feed_19 ok_X5_write in_X5_write se_X5_write ml_X11_88 hD9 rfl rfl (Nat.le_of_ble_eq_true rfl) (sk_22 hs5) (sn hs5 (by decide)) (by decide) rfl (by decide +kernel) hC10 ?_
    refine E_aload_n 0 dX11_feed_22 rfl rfl ?_
    refine E_getR 22 dX11_feed_23 fl_X11_23 rfl (sk_0 hs11) (sn hs11 (by decide)) (sr_0_2 hs11) ?_
    refine E_iload_n 2 dX11_feed_26 rfl rfl ?_
    obtain ⟨d12, σ13, hD14, hC15, h⟩ := h
    have hs16 := hC15.1.2.2.2.1 hs11
    refine E_callV (As := [.int x2]) (rest := []) (r1 := none) (b := 22) dX11_feed_27 ok_X5_write in_X5_write se_X5_write ml_X11_88 hD14 rfl rfl (Nat.le_of_ble_eq_true rfl) (sk_22 hs11) (sn hs11 (by decide)) (by decide) rfl (by decide +kernel) hC15 ?_
    refine E_aload_n 0 dX11_feed_30 rfl rfl ?_
    refine E_getR 22 dX11_feed_31 fl_X11_23 rfl (sk_0 hs16) (sn hs16 (by decide)) (sr_0_2 hs16) ?_
    refine E_iload_n 3 dX11_feed_34 rfl rfl ?_
    obtain ⟨d17, σ18, hD19, hC20, h⟩ := h
    have hs21 := hC20.1.2.2.2.1 hs16
    refine E_callV (As := [.int x3]) (rest := []) (r1 := none) (b := 22) dX11_feed_35 ok_X5_write in_X5_write se_X5_write ml_X11_88 hD19 rfl rfl (Nat.le_of_ble_eq_true rfl) (sk_22 hs16) (sn hs16 (by decide)) (by decide) rfl (by decide +kernel) hC20 ?_
    refine E_aload_n 0 dX11_feed_38 rfl rfl ?_
    refine E_getR 22 dX11_feed_39 fl_X11_23 rfl (sk_0 hs21) (sn hs21 (by decide)) (sr_0_2 hs21) ?_
    refine E_iload 4 dX11_feed_42 rfl ?_
    obtain ⟨d22, σ23, hD24, hC25, h⟩ := h
    have hs26 := hC25.1.2.2.2.1 hs21
    refine E_callV (As := [.int x4]) (rest := []) (r1 := none) (b := 22) dX11_feed_44 ok_X5_write in_X5_write se_X5_write ml_X11_88 hD24 rfl rfl (Nat.le_of_ble_eq_true rfl) (sk_22 hs21) (sn hs21 (by decide)) (by decide) rfl (by decide +kernel) hC25 ?_
    refine E_aload_n 0 dX11_feed_47 rfl rfl ?_
    refine E_getR 22 dX11_feed_48 fl_X11_23 rfl (sk_0 hs26) (sn hs26 (by decide)) (sr_0_2 hs26) ?_
    refine E_iload 5 dX11_feed_51 rfl ?_
    obtain ⟨d27, σ28, hD29, hC30, h⟩ := h
    have hs31 := hC30.1.2.2.2.1 hs26
    refine E_callV (As := [.int x5]) (rest := []) (r1 := none) (b := 22) dX11_feed_53 ok_X5_write in_X5_write se_X5_write ml_X11_88 hD29 rfl rfl (Nat.le_of_ble_eq_true rfl) (sk_22 hs26) (sn hs26 (by decide)) (by decide) rfl (by decide +kernel) hC30 ?_
    refine E_aload_n 0 dX11_feed_56 rfl rfl ?_
    refine E_getR 22 dX11_feed_57 fl_X11_23 rfl (sk_0 hs31) (sn hs31 (by decide)) (sr_0_2 hs31) ?_
    refine E_getI dX11_feed_60 fl_X11_92 rfl (sk_22 hs31) (sn hs31 (by decide)) ?_
    obtain ⟨rfl, rfl⟩ := h
    exact E_iret dX11_feed_63 rfl
  · rw [if_pos c] at h
    refine E_iconst (-1 : Int32) dX11_feed_12 (by decide) ?_
    obtain ⟨rfl, rfl⟩ := h
    exact E_iret dX11_feed_13 rfl
def W_X11_end_0 (X : Sx) (l : Launch) (D : Nat) (x1 : Int32) (σ : AH) (r : Option Value) (σ' : AH) : Prop := (if x1 < 0 then (r = some (.int (-1 : Int32)) ∧ σ' = σ) else (if x1 ≤ (gI σ 22 1) then (r = some (.int x1) ∧ σ' = (sI σ 22 1 x1)) else (r = some (.int (-1 : Int32)) ∧ σ' = σ)))
set_option maxRecDepth 100000 in
theorem w_X11_end_0 {X : Sx} {l : Launch} {D : Nat} {x1 : Int32} {σ : AH} {r : Option Value} {σ' : AH} (hs : Sh σ) (h : W_X11_end_0 X l D x1 σ r σ') : E X l m_X11_end D 0 [(0, .ref 0), (1, .int x1)] [] σ r σ' := by
  unfold W_X11_end_0 at h
  refine E_iload_n 1 dX11_end_0 rfl rfl ?_
  refine E_if_lt 15 dX11_end_1 (by decide) (fun c => ?_) (fun c => ?_)
  · rw [if_pos c] at h
    refine E_iconst (-1 : Int32) dX11_end_15 (by decide) ?_
    obtain ⟨rfl, rfl⟩ := h
    exact E_iret dX11_end_16 rfl
  · rw [if_neg c] at h
    refine E_iload_n 1 dX11_end_4 rfl rfl ?_
    refine E_aload_n 0 dX11_end_5 rfl rfl ?_
    refine E_getR 22 dX11_end_6 fl_X11_23 rfl (sk_0 hs) (sn hs (by decide)) (sr_0_2 hs) ?_
    refine E_getI dX11_end_9 fl_X11_92 rfl (sk_22 hs) (sn hs (by decide)) ?_
    refine E_icmp_le 17 dX11_end_12 (by decide) (fun c => ?_) (fun c => ?_)
    · rw [if_pos c] at h
      refine E_aload_n 0 dX11_end_17 rfl rfl ?_
      refine E_getR 22 dX11_end_18 fl_X11_23 rfl (sk_0 hs) (sn hs (by decide)) (sr_0_2 hs) ?_
      refine E_iload_n 1 dX11_end_21 rfl rfl ?_
      refine E_putI dX11_end_22 fl_X11_92 rfl (Or.inl rfl) (sk_22 hs) (sn hs (by decide)) (Or.inl (by decide)) rfl rfl ?_
      refine E_iload_n 1 dX11_end_25 rfl rfl ?_
      obtain ⟨rfl, rfl⟩ := h
      exact E_iret dX11_end_26 rfl
    · rw [if_neg c] at h
      refine E_iconst (-1 : Int32) dX11_end_15 (by decide) ?_
      obtain ⟨rfl, rfl⟩ := h
      exact E_iret dX11_end_16 rfl
def W_X11_act_67 (X : Sx) (l : Launch) (D : Nat) (x1 : Int32) (x2 : Int32) (x3 : Int32) (σ : AH) (r : Option Value) (σ' : AH) : Prop := (if x3 = 0 then (∀ τ19 : AH, τ19 = (aw (sI σ 22 1 (0 : Int32)) 0 (NO 0)) → ∃ d24 : Nat, ∃ σ25 : AH, d24 + 1 ≤ D ∧ Call X l m_X0_init d24 [.ref (nx (sI σ 22 1 (0 : Int32))), .int x1, .int x2, .ref 22] τ19 none σ25 ∧ vp_in (gI (sI σ 22 1 (0 : Int32)) 1 1) 24 ∧ (Sh σ25 → Sh (sR σ25 2 (gI (sI σ 22 1 (0 : Int32)) 1 1).toNatClampNeg (some (nx (sI σ 22 1 (0 : Int32)))))) ∧ (∀ τ33 : AH, τ33 = (sR σ25 2 (gI (sI σ 22 1 (0 : Int32)) 1 1).toNatClampNeg (some (nx (sI σ 22 1 (0 : Int32))))) → ∃ d36 : Nat, ∃ σ37 : AH, d36 + 1 ≤ D ∧ Call X l m_X3_reread d36 [.ref 28] (sI τ33 1 1 ((gI (sI σ 22 1 (0 : Int32)) 1 1) + (1 : Int32))) none σ37 ∧ ∃ d41 : Nat, ∃ v46 : Int32, ∃ σ42 : AH, d41 + 1 ≤ D ∧ Call X l m_X11_answer d41 [.ref 0, .int (gI (sI σ 22 1 (0 : Int32)) 1 1)] (sI σ37 0 12 ((gI σ37 0 12) + (1 : Int32))) (some (.int v46)) σ42 ∧ (r = some (.int v46) ∧ σ' = σ42))) else ∃ d47 : Nat, ∃ v52 : Int32, ∃ σ48 : AH, d47 + 1 ≤ D ∧ Call X l m_X11_answer d47 [.ref 0, .int x3] (sI σ 22 1 (0 : Int32)) (some (.int v52)) σ48 ∧ (r = some (.int v52) ∧ σ' = σ48))
set_option maxRecDepth 100000 in
theorem w_X11_act_67 {X : Sx} {l : Launch} {D : Nat} {x1 : Int32} {x2 : Int32} {x3 : Int32} {σ : AH} {r : Option Value} {σ' : AH} (hs : Sh σ) (h : W_X11_act_67 X l D x1 x2 x3 σ r σ') : E X l m_X11_act D 67 [(0, .ref 0), (1, .int x1), (2, .int x2), (3, .int x3)] [] σ r σ' := by
  unfold W_X11_act_67 at h
  refine E_aload_n 0 dX11_act_67 rfl rfl ?_
  refine E_getR 22 dX11_act_68 fl_X11_23 rfl (sk_0 hs) (sn hs (by decide)) (sr_0_2 hs) ?_
  refine E_iconst (0 : Int32) dX11_act_71 (by decide) ?_
  refine E_putI dX11_act_72 fl_X11_92 rfl (Or.inl rfl) (sk_22 hs) (sn hs (by decide)) (Or.inl (by decide)) rfl rfl ?_
  refine E_iload_n 3 dX11_act_75 rfl rfl ?_
  refine E_if_eq 85 dX11_act_76 (by decide) (fun c => ?_) (fun c => ?_)
  · rw [if_pos c] at h
    refine E_aload_n 0 dX11_act_85 rfl rfl ?_
    refine E_getR 1 dX11_act_86 fl_X11_10 rfl (sk_0 hs) (sn hs (by decide)) (sr_0_0 hs) ?_
    refine E_getI dX11_act_89 fl_X11_98 rfl (sk_1 hs) (sn hs (by decide)) ?_
    refine E_istore [(4, .int (gI (sI σ 22 1 (0 : Int32)) 1 1)), (0, .ref 0), (1, .int x1), (2, .int x2), (3, .int x3)] dX11_act_92 (by decide) rfl ?_
    refine E_aload_n 1 dX11_act_94 rfl rfl ?_
    refine E_getR 1 dX11_act_95 fl_X11_10 rfl (sk_0 hs) (sn hs (by decide)) (sr_0_0 hs) ?_
    refine E_getR 2 dX11_act_98 fl_X11_109 rfl (sk_1 hs) (sn hs (by decide)) (sr_1_0 hs) ?_
    refine E_iload 0 dX11_act_101 rfl ?_
    refine E_new 0 dX11_act_103 (by decide) ck_X11_113 ?_
    obtain ⟨τ19, e20⟩ : ∃ τ : AH, τ = (aw (sI σ 22 1 (0 : Int32)) 0 (NO 0)) := ⟨_, rfl⟩
    replace h := h τ19 e20
    rw [← e20]
    have hs21 : Sh τ19 := by rw [e20]; exact (Sh_aw hs)
    have hk22 : kd _ (nx (sI σ 22 1 (0 : Int32))) = (0, NO 0) := (congrFun (congrArg kd e20) _).trans (up_same _ _ _)
    have hb23 := Nat.lt_of_lt_of_eq (Nat.lt_succ_self _) (congrArg nx e20).symm
    refine E_dup dX11_act_106 rfl ?_
    refine E_iload_n 2 dX11_act_107 rfl rfl ?_
    refine E_iload_n 3 dX11_act_108 rfl rfl ?_
    refine E_aload_n 1 dX11_act_109 rfl rfl ?_
    refine E_getR 22 dX11_act_110 fl_X11_23 rfl (sk_0 hs21) (sn hs21 (by decide)) (sr_0_2 hs21) ?_
    obtain ⟨d24, σ25, hD26, hC27, h⟩ := h
    have hs28 := hC27.1.2.2.2.1 hs21
    have hk29 := (hC27.1.2.2.1 _ hb23).trans hk22
    have hb30 := Nat.lt_of_lt_of_le hb23 hC27.1.1
    refine E_callI (As := [.int x1, .int x2, .ref 22]) (rest := [.ref (nx (sI σ 22 1 (0 : Int32))), .int (gI (sI σ 22 1 (0 : Int32)) 1 1), .ref 2]) (r1 := none) (b := (nx (sI σ 22 1 (0 : Int32)))) dX11_act_113 ok_X0_init in_X0_init rfl rfl ml_X11_115 hD26 rfl rfl (Nat.le_of_ble_eq_true rfl) (by decide +kernel) hC27 ?_
    obtain ⟨g31, g32, h⟩ := h
    refine E_aast dX11_act_116 (sk_2 hs28) (sn hs28 (by decide)) (Or.inl rfl) g31 hk29 hb30 (by decide) rfl (Or.inl (by decide)) g32 ?_
    obtain ⟨τ33, e34⟩ : ∃ τ : AH, τ = (sR σ25 2 (gI (sI σ 22 1 (0 : Int32)) 1 1).toNatClampNeg (some (nx (sI σ 22 1 (0 : Int32))))) := ⟨_, rfl⟩
    replace h := h τ33 e34
    rw [← e34]
    have hs35 : Sh τ33 := by rw [e34]; exact (g32 hs28)
    refine E_aload_n 1 dX11_act_117 rfl rfl ?_
    refine E_getR 1 dX11_act_118 fl_X11_10 rfl (sk_0 hs35) (sn hs35 (by decide)) (sr_0_0 hs35) ?_
    refine E_iload 0 dX11_act_121 rfl ?_
    refine E_iconst (1 : Int32) dX11_act_123 (by decide) ?_
    refine E_iadd dX11_act_124 ?_
    refine E_putI dX11_act_125 fl_X11_98 rfl (Or.inl rfl) (sk_1 hs35) (sn hs35 (by decide)) (Or.inl (by decide)) rfl rfl ?_
    refine E_aload_n 1 dX11_act_128 rfl rfl ?_
    refine E_getR 28 dX11_act_129 fl_X11_32 rfl (sk_0 hs35) (sn hs35 (by decide)) (sr_0_3 hs35) ?_
    obtain ⟨d36, σ37, hD38, hC39, h⟩ := h
    have hs40 := hC39.1.2.2.2.1 hs35
    refine E_callV (As := []) (rest := []) (r1 := none) (b := 28) dX11_act_132 ok_X3_reread in_X3_reread se_X3_reread ml_X11_118 hD38 rfl rfl (Nat.le_of_ble_eq_true rfl) (sk_28 hs35) (sn hs35 (by decide)) (by decide) rfl (by decide +kernel) hC39 ?_
    refine E_aload_n 1 dX11_act_135 rfl rfl ?_
    refine E_dup dX11_act_136 rfl ?_
    refine E_getI dX11_act_137 fl_X11_121 rfl (sk_0 hs40) (sn hs40 (by decide)) ?_
    refine E_iconst (1 : Int32) dX11_act_140 (by decide) ?_
    refine E_iadd dX11_act_141 ?_
    refine E_putI dX11_act_142 fl_X11_121 rfl (Or.inl rfl) (sk_0 hs40) (sn hs40 (by decide)) (Or.inl (by decide)) rfl rfl ?_
    refine E_aload_n 1 dX11_act_145 rfl rfl ?_
    refine E_iload 0 dX11_act_146 rfl ?_
    obtain ⟨d41, v46, σ42, hD43, hC44, h⟩ := h
    have hs45 := hC44.1.2.2.2.1 hs40
    refine E_callV (As := [.int (gI (sI σ 22 1 (0 : Int32)) 1 1)]) (rest := []) (r1 := (some (.int v46))) (b := 0) dX11_act_148 ok_X11_answer in_X11_answer se_X11_answer ml_X11_105 hD43 rfl rfl (Nat.le_of_ble_eq_true rfl) (sk_0 hs40) (sn hs40 (by decide)) (by decide) rfl (by decide +kernel) hC44 ?_
    obtain ⟨rfl, rfl⟩ := h
    exact E_iret dX11_act_151 rfl
  · rw [if_neg c] at h
    refine E_aload_n 0 dX11_act_79 rfl rfl ?_
    refine E_iload_n 3 dX11_act_80 rfl rfl ?_
    obtain ⟨d47, v52, σ48, hD49, hC50, h⟩ := h
    have hs51 := hC50.1.2.2.2.1 hs
    refine E_callV (As := [.int x3]) (rest := []) (r1 := (some (.int v52))) (b := 0) dX11_act_81 ok_X11_answer in_X11_answer se_X11_answer ml_X11_105 hD49 rfl rfl (Nat.le_of_ble_eq_true rfl) (sk_0 hs) (sn hs (by decide)) (by decide) rfl (by decide +kernel) hC50 ?_
    obtain ⟨rfl, rfl⟩ := h
    exact E_iret dX11_act_84 rfl
def W_X11_act_66 (X : Sx) (l : Launch) (D : Nat) (x1 : Int32) (x2 : Int32) (y0 : Int32) (σ : AH) (r : Option Value) (σ' : AH) : Prop := W_X11_act_67 X l D x1 x2 y0 σ r σ'
set_option maxRecDepth 100000 in
theorem w_X11_act_66 {X : Sx} {l : Launch} {D : Nat} {x1 : Int32} {x2 : Int32} {y0 : Int32} {σ : AH} {r : Option Value} {σ' : AH} (hs : Sh σ) (h : W_X11_act_66 X l D x1 x2 y0 σ r σ') : E X l m_X11_act D 66 [(0, .ref 0), (1, .int x1), (2, .int x2)] [.int y0] σ r σ' := by
  unfold W_X11_act_66 at h
  refine E_istore_n [(3, .int y0), (0, .ref 0), (1, .int x1), (2, .int x2)] dX11_act_66 rfl (by decide) rfl ?_
  exact E_lv [1, 2, 3, 0] rfl (w_X11_act_67 hs h)
def W_X11_act_36 (X : Sx) (l : Launch) (D : Nat) (x1 : Int32) (x2 : Int32) (y0 : Int32) (σ : AH) (r : Option Value) (σ' : AH) : Prop := (if y0 = 0 then ∃ d13 : Nat, ∃ v18 : Int32, ∃ σ14 : AH, d13 + 1 ≤ D ∧ Call X l m_X5_read d13 [.ref 22] σ (some (.int v18)) σ14 ∧ (if (gI (sI σ14 0 11 v18) 0 11) = (-1 : Int32) then W_X11_act_66 X l D x1 x2 (0 : Int32) (sI σ14 0 11 v18) r σ' else W_X11_act_66 X l D x1 x2 (-6 : Int32) (sI σ14 0 11 v18) r σ') else W_X11_act_67 X l D x1 x2 y0 σ r σ')
set_option maxRecDepth 100000 in
theorem w_X11_act_36 {X : Sx} {l : Launch} {D : Nat} {x1 : Int32} {x2 : Int32} {y0 : Int32} {σ : AH} {r : Option Value} {σ' : AH} (hs : Sh σ) (h : W_X11_act_36 X l D x1 x2 y0 σ r σ') : E X l m_X11_act D 36 [(0, .ref 0), (1, .int x1), (2, .int x2)] [.int y0] σ r σ' := by
  unfold W_X11_act_36 at h
  refine E_istore_n [(3, .int y0), (0, .ref 0), (1, .int x1), (2, .int x2)] dX11_act_36 rfl (by decide) rfl ?_
  refine E_iload_n 0 dX11_act_37 rfl rfl ?_
  refine E_if_ne 67 dX11_act_38 (by decide) (fun c => ?_) (fun c => ?_)
  · rw [if_neg c] at h
    exact E_lv [1, 2, 3, 0] rfl (w_X11_act_67 hs h)
  · rw [if_pos c] at h
    refine E_aload_n 1 dX11_act_41 rfl rfl ?_
    refine E_aload_n 1 dX11_act_42 rfl rfl ?_
    refine E_getR 22 dX11_act_43 fl_X11_23 rfl (sk_0 hs) (sn hs (by decide)) (sr_0_2 hs) ?_
    obtain ⟨d13, v18, σ14, hD15, hC16, h⟩ := h
    have hs17 := hC16.1.2.2.2.1 hs
    refine E_callV (As := []) (rest := [.ref 0]) (r1 := (some (.int v18))) (b := 22) dX11_act_46 ok_X5_read in_X5_read se_X5_read ml_X11_101 hD15 rfl rfl (Nat.le_of_ble_eq_true rfl) (sk_22 hs) (sn hs (by decide)) (by decide) rfl (by decide +kernel) hC16 ?_
    refine E_putI dX11_act_49 fl_X11_80 rfl (Or.inl rfl) (sk_0 hs17) (sn hs17 (by decide)) (Or.inl (by decide)) rfl rfl ?_
    refine E_aload_n 1 dX11_act_52 rfl rfl ?_
    refine E_getI dX11_act_53 fl_X11_80 rfl (sk_0 hs17) (sn hs17 (by decide)) ?_
    refine E_iconst (-1 : Int32) dX11_act_56 (by decide) ?_
    refine E_icmp_ne 64 dX11_act_57 (by decide) (fun c => ?_) (fun c => ?_)
    · rw [if_neg c] at h
      refine E_bipush (-6 : Int32) dX11_act_64 (by decide) ?_
      exact E_lv [1, 2, 3] rfl (w_X11_act_66 hs17 h)
    · rw [if_pos c] at h
      refine E_iconst (0 : Int32) dX11_act_60 (by decide) ?_
      refine E_goto 66 dX11_act_61 (by decide) ?_
      exact E_lv [1, 2, 3] rfl (w_X11_act_66 hs17 h)
def W_X11_act_14 (X : Sx) (l : Launch) (D : Nat) (x1 : Int32) (x2 : Int32) (σ : AH) (r : Option Value) (σ' : AH) : Prop := W_X11_act_36 X l D x1 x2 (-1 : Int32) σ r σ'
set_option maxRecDepth 100000 in
theorem w_X11_act_14 {X : Sx} {l : Launch} {D : Nat} {x1 : Int32} {x2 : Int32} {σ : AH} {r : Option Value} {σ' : AH} (hs : Sh σ) (h : W_X11_act_14 X l D x1 x2 σ r σ') : E X l m_X11_act D 14 [(0, .ref 0), (1, .int x1), (2, .int x2)] [] σ r σ' := by
  unfold W_X11_act_14 at h
  refine E_iconst (-1 : Int32) dX11_act_14 (by decide) ?_
  refine E_goto 36 dX11_act_15 (by decide) ?_
  exact E_lv [0, 1, 2] rfl (w_X11_act_36 hs h)
def W_X11_act_0 (X : Sx) (l : Launch) (D : Nat) (x1 : Int32) (x2 : Int32) (σ : AH) (r : Option Value) (σ' : AH) : Prop := ∃ d1 : Nat, ∃ v6 : Int32, ∃ σ2 : AH, d1 + 1 ≤ D ∧ Call X l m_X11_isWeek d1 [.int x1] σ (some (.int v6)) σ2 ∧ (if v6 = 0 then W_X11_act_14 X l D x1 x2 σ2 r σ' else ∃ d7 : Nat, ∃ v12 : Int32, ∃ σ8 : AH, d7 + 1 ≤ D ∧ Call X l m_X11_isWeek d7 [.int x2] σ2 (some (.int v12)) σ8 ∧ (if v12 = 0 then W_X11_act_14 X l D x1 x2 σ8 r σ' else (if (gI σ8 1 1) < (24 : Int32) then W_X11_act_36 X l D x1 x2 (0 : Int32) σ8 r σ' else W_X11_act_36 X l D x1 x2 (-5 : Int32) σ8 r σ')))
set_option maxRecDepth 100000 in
theorem w_X11_act_0 {X : Sx} {l : Launch} {D : Nat} {x1 : Int32} {x2 : Int32} {σ : AH} {r : Option Value} {σ' : AH} (hs : Sh σ) (h : W_X11_act_0 X l D x1 x2 σ r σ') : E X l m_X11_act D 0 [(0, .ref 0), (1, .int x1), (2, .int x2)] [] σ r σ' := by
  unfold W_X11_act_0 at h
  refine E_iload_n 1 dX11_act_0 rfl rfl ?_
  obtain ⟨d1, v6, σ2, hD3, hC4, h⟩ := h
  have hs5 := hC4.1.2.2.2.1 hs
  refine E_callS (As := [.int x1]) (rest := []) (r1 := (some (.int v6))) dX11_act_1 ok_X11_isWeek is_X11_isWeek ml_X11_95 hD3 rfl rfl (Nat.le_of_ble_eq_true rfl) (by decide +kernel) hC4 ?_
  refine E_if_eq 14 dX11_act_4 (by decide) (fun c => ?_) (fun c => ?_)
  · rw [if_pos c] at h
    exact E_lv [0, 1, 2] rfl (w_X11_act_14 hs5 h)
  · rw [if_neg c] at h
    refine E_iload_n 2 dX11_act_7 rfl rfl ?_
    obtain ⟨d7, v12, σ8, hD9, hC10, h⟩ := h
    have hs11 := hC10.1.2.2.2.1 hs5
    refine E_callS (As := [.int x2]) (rest := []) (r1 := (some (.int v12))) dX11_act_8 ok_X11_isWeek is_X11_isWeek ml_X11_95 hD9 rfl rfl (Nat.le_of_ble_eq_true rfl) (by decide +kernel) hC10 ?_
    refine E_if_ne 18 dX11_act_11 (by decide) (fun c => ?_) (fun c => ?_)
    · rw [if_neg c] at h
      refine E_aload_n 0 dX11_act_18 rfl rfl ?_
      refine E_getR 1 dX11_act_19 fl_X11_10 rfl (sk_0 hs11) (sn hs11 (by decide)) (sr_0_0 hs11) ?_
      refine E_getI dX11_act_22 fl_X11_98 rfl (sk_1 hs11) (sn hs11 (by decide)) ?_
      refine E_bipush (24 : Int32) dX11_act_25 (by decide) ?_
      refine E_icmp_lt 35 dX11_act_27 (by decide) (fun c => ?_) (fun c => ?_)
      · rw [if_pos c] at h
        refine E_iconst (0 : Int32) dX11_act_35 (by decide) ?_
        exact E_lv [0, 1, 2] rfl (w_X11_act_36 hs11 h)
      · rw [if_neg c] at h
        refine E_bipush (-5 : Int32) dX11_act_30 (by decide) ?_
        refine E_goto 36 dX11_act_32 (by decide) ?_
        exact E_lv [0, 1, 2] rfl (w_X11_act_36 hs11 h)
    · rw [if_pos c] at h
      exact E_lv [0, 1, 2] rfl (w_X11_act_14 hs11 h)
def W_X11_fault_0 (X : Sx) (l : Launch) (D : Nat) (σ : AH) (r : Option Value) (σ' : AH) : Prop := (r = some (.int (gI σ 0 11)) ∧ σ' = σ)
set_option maxRecDepth 100000 in
theorem w_X11_fault_0 {X : Sx} {l : Launch} {D : Nat} {σ : AH} {r : Option Value} {σ' : AH} (hs : Sh σ) (h : W_X11_fault_0 X l D σ r σ') : E X l m_X11_fault D 0 [(0, .ref 0)] [] σ r σ' := by
  unfold W_X11_fault_0 at h
  refine E_aload_n 0 dX11_fault_0 rfl rfl ?_
  refine E_getI dX11_fault_1 fl_X11_80 rfl (sk_0 hs) (sn hs (by decide)) ?_
  obtain ⟨rfl, rfl⟩ := h
  exact E_iret dX11_fault_4 rfl
def W_X11_force_0 (X : Sx) (l : Launch) (D : Nat) (x1 : Int32) (x2 : Int32) (x3 : Int32) (x4 : Int32) (σ : AH) (r : Option Value) (σ' : AH) : Prop := ∃ d1 : Nat, ∃ v6 : Int32, ∃ σ2 : AH, d1 + 1 ≤ D ∧ Call X l m_X11_isIn d1 [.int x1, .int (0 : Int32), .int ((gI σ 1 1) - (1 : Int32))] σ (some (.int v6)) σ2 ∧ (if v6 = 0 then (r = some (.int (-1 : Int32)) ∧ σ' = σ2) else ∃ d7 : Nat, ∃ v12 : Int32, ∃ σ8 : AH, d7 + 1 ≤ D ∧ Call X l m_X11_isWeek d7 [.int x3] σ2 (some (.int v12)) σ8 ∧ (if v12 = 0 then (r = some (.int (-1 : Int32)) ∧ σ' = σ8) else ∃ d13 : Nat, ∃ v18 : Int32, ∃ σ14 : AH, d13 + 1 ≤ D ∧ Call X l m_X11_isWeek d13 [.int x4] σ8 (some (.int v18)) σ14 ∧ (if v18 = 0 then (r = some (.int (-1 : Int32)) ∧ σ' = σ14) else vp_in x1 24 ∧ (gR σ14 2 x1.toNatClampNeg = none → (r = some (.int (-1 : Int32)) ∧ σ' = σ14)) ∧ ∀ b19 : Nat, gR σ14 2 x1.toNatClampNeg = some b19 → kd σ14 b19 = (0, NO 0) ∧ b19 < nx σ14 ∧ ∃ d25 : Nat, ∃ v30 : Int32, ∃ σ26 : AH, d25 + 1 ≤ D ∧ Call X l m_X11_isIn d25 [.int x2, .int (0 : Int32), .int ((gI σ14 b19 2) - (1 : Int32))] σ14 (some (.int v30)) σ26 ∧ (if v30 = 0 then (r = some (.int (-1 : Int32)) ∧ σ' = σ26) else ∃ d33 : Nat, ∃ σ34 : AH, d33 + 1 ≤ D ∧ Call X l m_X3_settle d33 [.ref 28, .int x3, .int x4] σ26 none σ34 ∧ ∃ d40 : Nat, ∃ v45 : Int32, ∃ σ41 : AH, d40 + 1 ≤ D ∧ Call X l m_X3_isForced d40 [.ref 28, .int x1, .int x2] σ34 (some (.int v45)) σ41 ∧ (if v45 = 0 then (r = some (.int (0 : Int32)) ∧ σ' = σ41) else (r = some (.int (1 : Int32)) ∧ σ' = σ41))))))
set_option maxRecDepth 100000 in
theorem w_X11_force_0 {X : Sx} {l : Launch} {D : Nat} {x1 : Int32} {x2 : Int32} {x3 : Int32} {x4 : Int32} {σ : AH} {r : Option Value} {σ' : AH} (hs : Sh σ) (h : W_X11_force_0 X l D x1 x2 x3 x4 σ r σ') : E X l m_X11_force D 0 [(0, .ref 0), (1, .int x1), (2, .int x2), (3, .int x3), (4, .int x4)] [] σ r σ' := by
  unfold W_X11_force_0 at h
  refine E_iload_n 1 dX11_force_0 rfl rfl ?_
  refine E_iconst (0 : Int32) dX11_force_1 (by decide) ?_
  refine E_aload_n 0 dX11_force_2 rfl rfl ?_
  refine E_getR 1 dX11_force_3 fl_X11_10 rfl (sk_0 hs) (sn hs (by decide)) (sr_0_0 hs) ?_
  refine E_getI dX11_force_6 fl_X11_98 rfl (sk_1 hs) (sn hs (by decide)) ?_
  refine E_iconst (1 : Int32) dX11_force_9 (by decide) ?_
  refine E_isub dX11_force_10 ?_
  obtain ⟨d1, v6, σ2, hD3, hC4, h⟩ := h
  have hs5 := hC4.1.2.2.2.1 hs
  refine E_callS (As := [.int x1, .int (0 : Int32), .int ((gI σ 1 1) - (1 : Int32))]) (rest := []) (r1 := (some (.int v6))) dX11_force_11 ok_X11_isIn is_X11_isIn ml_X11_124 hD3 rfl rfl (Nat.le_of_ble_eq_true rfl) (by decide +kernel) hC4 ?_
  refine E_if_eq 32 dX11_force_14 (by decide) (fun c => ?_) (fun c => ?_)
  · rw [if_pos c] at h
    refine E_iconst (-1 : Int32) dX11_force_32 (by decide) ?_
    obtain ⟨rfl, rfl⟩ := h
    exact E_iret dX11_force_33 rfl
  · rw [if_neg c] at h
    refine E_iload_n 3 dX11_force_17 rfl rfl ?_
    obtain ⟨d7, v12, σ8, hD9, hC10, h⟩ := h
    have hs11 := hC10.1.2.2.2.1 hs5
    refine E_callS (As := [.int x3]) (rest := []) (r1 := (some (.int v12))) dX11_force_18 ok_X11_isWeek is_X11_isWeek ml_X11_95 hD9 rfl rfl (Nat.le_of_ble_eq_true rfl) (by decide +kernel) hC10 ?_
    refine E_if_eq 32 dX11_force_21 (by decide) (fun c => ?_) (fun c => ?_)
    · rw [if_pos c] at h
      refine E_iconst (-1 : Int32) dX11_force_32 (by decide) ?_
      obtain ⟨rfl, rfl⟩ := h
      exact E_iret dX11_force_33 rfl
    · rw [if_neg c] at h
      refine E_iload 4 dX11_force_24 rfl ?_
      obtain ⟨d13, v18, σ14, hD15, hC16, h⟩ := h
      have hs17 := hC16.1.2.2.2.1 hs11
      refine E_callS (As := [.int x4]) (rest := []) (r1 := (some (.int v18))) dX11_force_26 ok_X11_isWeek is_X11_isWeek ml_X11_95 hD15 rfl rfl (Nat.le_of_ble_eq_true rfl) (by decide +kernel) hC16 ?_
      refine E_if_ne 34 dX11_force_29 (by decide) (fun c => ?_) (fun c => ?_)
      · rw [if_neg c] at h
        refine E_aload_n 0 dX11_force_34 rfl rfl ?_
        refine E_getR 1 dX11_force_35 fl_X11_10 rfl (sk_0 hs17) (sn hs17 (by decide)) (sr_0_0 hs17) ?_
        refine E_getR 2 dX11_force_38 fl_X11_109 rfl (sk_1 hs17) (sn hs17 (by decide)) (sr_1_0 hs17) ?_
        refine E_iload_n 1 dX11_force_41 rfl rfl ?_
        obtain ⟨g23, h0, h1⟩ := h
        rcases q24 : gR σ14 2 x1.toNatClampNeg with _ | b19
        · have h := h0 q24
          refine E_aaldN dX11_force_42 (sk_2 hs17) (sn hs17 (by decide)) (Or.inl rfl) g23 q24 ?_
          refine E_astoreN [(5, .null), (0, .ref 0), (1, .int x1), (2, .int x2), (3, .int x3), (4, .int x4)] dX11_force_43 (by decide) rfl ?_
          refine E_aloadN 0 dX11_force_45 rfl ?_
          refine E_ifnullN 65 dX11_force_47 (by decide) ?_
          refine E_iconst (-1 : Int32) dX11_force_65 (by decide) ?_
          obtain ⟨rfl, rfl⟩ := h
          exact E_iret dX11_force_66 rfl
        · obtain ⟨hk21, hb22, h⟩ := h1 b19 q24
          refine E_aald b19 dX11_force_42 (sk_2 hs17) (sn hs17 (by decide)) (Or.inl rfl) g23 q24 ?_
          refine E_astore [(5, .ref b19), (0, .ref 0), (1, .int x1), (2, .int x2), (3, .int x3), (4, .int x4)] dX11_force_43 (by decide) rfl ?_
          refine E_aload 0 dX11_force_45 rfl ?_
          refine E_ifnull dX11_force_47 ?_
          refine E_iload_n 3 dX11_force_50 rfl rfl ?_
          refine E_iconst (0 : Int32) dX11_force_51 (by decide) ?_
          refine E_aload 0 dX11_force_52 rfl ?_
          refine E_getI dX11_force_54 fl_X11_128 rfl hk21 hb22 ?_
          refine E_iconst (1 : Int32) dX11_force_57 (by decide) ?_
          refine E_isub dX11_force_58 ?_
          obtain ⟨d25, v30, σ26, hD27, hC28, h⟩ := h
          have hs29 := hC28.1.2.2.2.1 hs17
          have hk31 := (hC28.1.2.2.1 _ hb22).trans hk21
          have hb32 := Nat.lt_of_lt_of_le hb22 hC28.1.1
          refine E_callS (As := [.int x2, .int (0 : Int32), .int ((gI σ14 b19 2) - (1 : Int32))]) (rest := []) (r1 := (some (.int v30))) dX11_force_59 ok_X11_isIn is_X11_isIn ml_X11_124 hD27 rfl rfl (Nat.le_of_ble_eq_true rfl) (by decide +kernel) hC28 ?_
          refine E_if_ne 67 dX11_force_62 (by decide) (fun c => ?_) (fun c => ?_)
          · rw [if_neg c] at h
            refine E_aload_n 1 dX11_force_67 rfl rfl ?_
            refine E_getR 28 dX11_force_68 fl_X11_32 rfl (sk_0 hs29) (sn hs29 (by decide)) (sr_0_3 hs29) ?_
            refine E_iload_n 4 dX11_force_71 rfl rfl ?_
            refine E_iload 5 dX11_force_72 rfl ?_
            obtain ⟨d33, σ34, hD35, hC36, h⟩ := h
            have hs37 := hC36.1.2.2.2.1 hs29
            have hk38 := (hC36.1.2.2.1 _ hb32).trans hk31
            have hb39 := Nat.lt_of_lt_of_le hb32 hC36.1.1
            refine E_callV (As := [.int x3, .int x4]) (rest := []) (r1 := none) (b := 28) dX11_force_74 ok_X3_settle in_X3_settle se_X3_settle ml_X11_131 hD35 rfl rfl (Nat.le_of_ble_eq_true rfl) (sk_28 hs29) (sn hs29 (by decide)) (by decide) rfl (by decide +kernel) hC36 ?_
            refine E_aload_n 1 dX11_force_77 rfl rfl ?_
            refine E_getR 28 dX11_force_78 fl_X11_32 rfl (sk_0 hs37) (sn hs37 (by decide)) (sr_0_3 hs37) ?_
            refine E_iload_n 2 dX11_force_81 rfl rfl ?_
            refine E_iload_n 3 dX11_force_82 rfl rfl ?_
            obtain ⟨d40, v45, σ41, hD42, hC43, h⟩ := h
            have hs44 := hC43.1.2.2.2.1 hs37
            have hk46 := (hC43.1.2.2.1 _ hb39).trans hk38
            have hb47 := Nat.lt_of_lt_of_le hb39 hC43.1.1
            refine E_callV (As := [.int x1, .int x2]) (rest := []) (r1 := (some (.int v45))) (b := 28) dX11_force_83 ok_X3_isForced in_X3_isForced se_X3_isForced ml_X11_135 hD42 rfl rfl (Nat.le_of_ble_eq_true rfl) (sk_28 hs37) (sn hs37 (by decide)) (by decide) rfl (by decide +kernel) hC43 ?_
            refine E_if_eq 93 dX11_force_86 (by decide) (fun c => ?_) (fun c => ?_)
            · rw [if_pos c] at h
              refine E_iconst (0 : Int32) dX11_force_93 (by decide) ?_
              obtain ⟨rfl, rfl⟩ := h
              exact E_iret dX11_force_94 rfl
            · rw [if_neg c] at h
              refine E_iconst (1 : Int32) dX11_force_89 (by decide) ?_
              refine E_goto 94 dX11_force_90 (by decide) ?_
              obtain ⟨rfl, rfl⟩ := h
              exact E_iret dX11_force_94 rfl
          · rw [if_pos c] at h
            refine E_iconst (-1 : Int32) dX11_force_65 (by decide) ?_
            obtain ⟨rfl, rfl⟩ := h
            exact E_iret dX11_force_66 rfl
      · rw [if_pos c] at h
        refine E_iconst (-1 : Int32) dX11_force_32 (by decide) ?_
        obtain ⟨rfl, rfl⟩ := h
        exact E_iret dX11_force_33 rfl
def W_X11_counts_86 (X : Sx) (l : Launch) (D : Nat) (y0 : Int32) (σ : AH) (r : Option Value) (σ' : AH) : Prop := ∃ d35 : Nat, ∃ v40 : Int32, ∃ σ36 : AH, d35 + 1 ≤ D ∧ Call X l m_X3_counted d35 [.ref 28, .int y0] σ (some (.int v40)) σ36 ∧ (r = some (.int v40) ∧ σ' = σ36)
set_option maxRecDepth 100000 in
theorem w_X11_counts_86 {X : Sx} {l : Launch} {D : Nat} {y0 : Int32} {σ : AH} {r : Option Value} {σ' : AH} (hs : Sh σ) (h : W_X11_counts_86 X l D y0 σ r σ') : E X l m_X11_counts D 86 [] [.int y0, .ref 28] σ r σ' := by
  unfold W_X11_counts_86 at h
  obtain ⟨d35, v40, σ36, hD37, hC38, h⟩ := h
  have hs39 := hC38.1.2.2.2.1 hs
  refine E_callV (As := [.int y0]) (rest := []) (r1 := (some (.int v40))) (b := 28) dX11_counts_86 ok_X3_counted in_X3_counted se_X3_counted ml_X11_142 hD37 rfl rfl (Nat.le_of_ble_eq_true rfl) (sk_28 hs) (sn hs (by decide)) (by decide) rfl (by decide +kernel) hC38 ?_
  obtain ⟨rfl, rfl⟩ := h
  exact E_iret dX11_counts_89 rfl
def W_X11_counts_0 (X : Sx) (l : Launch) (D : Nat) (x1 : Int32) (x2 : Int32) (x3 : Int32) (σ : AH) (r : Option Value) (σ' : AH) : Prop := ∃ d1 : Nat, ∃ v6 : Int32, ∃ σ2 : AH, d1 + 1 ≤ D ∧ Call X l m_X11_isIn d1 [.int x1, .int (0 : Int32), .int (5 : Int32)] σ (some (.int v6)) σ2 ∧ (if v6 = 0 then (r = some (.int (-1 : Int32)) ∧ σ' = σ2) else ∃ d7 : Nat, ∃ v12 : Int32, ∃ σ8 : AH, d7 + 1 ≤ D ∧ Call X l m_X11_isWeek d7 [.int x2] σ2 (some (.int v12)) σ8 ∧ (if v12 = 0 then (r = some (.int (-1 : Int32)) ∧ σ' = σ8) else ∃ d13 : Nat, ∃ v18 : Int32, ∃ σ14 : AH, d13 + 1 ≤ D ∧ Call X l m_X11_isWeek d13 [.int x3] σ8 (some (.int v18)) σ14 ∧ (if v18 = 0 then (r = some (.int (-1 : Int32)) ∧ σ' = σ14) else ∃ d19 : Nat, ∃ σ20 : AH, d19 + 1 ≤ D ∧ Call X l m_X3_settle d19 [.ref 28, .int x2, .int x3] σ14 none σ20 ∧ ∃ d24 : Nat, ∃ σ25 : AH, d24 + 1 ≤ D ∧ Call X l m_X3_ask d24 [.ref 28, .int (0 : Int32), .int x2] σ20 none σ25 ∧ (if (3 : Int32) ≤ x1 then (if x1 = (3 : Int32) then W_X11_counts_86 X l D (59 : Int32) σ25 r σ' else (if x1 = (4 : Int32) then W_X11_counts_86 X l D (60 : Int32) σ25 r σ' else W_X11_counts_86 X l D (61 : Int32) σ25 r σ')) else ∃ d29 : Nat, ∃ v34 : Int32, ∃ σ30 : AH, d29 + 1 ≤ D ∧ Call X l m_X3_counted d29 [.ref 28, .int ((55 : Int32) + x1)] σ25 (some (.int v34)) σ30 ∧ (r = some (.int v34) ∧ σ' = σ30)))))
set_option maxRecDepth 100000 in
theorem w_X11_counts_0 {X : Sx} {l : Launch} {D : Nat} {x1 : Int32} {x2 : Int32} {x3 : Int32} {σ : AH} {r : Option Value} {σ' : AH} (hs : Sh σ) (h : W_X11_counts_0 X l D x1 x2 x3 σ r σ') : E X l m_X11_counts D 0 [(0, .ref 0), (1, .int x1), (2, .int x2), (3, .int x3)] [] σ r σ' := by
  unfold W_X11_counts_0 at h
  refine E_iload_n 1 dX11_counts_0 rfl rfl ?_
  refine E_iconst (0 : Int32) dX11_counts_1 (by decide) ?_
  refine E_iconst (5 : Int32) dX11_counts_2 (by decide) ?_
  obtain ⟨d1, v6, σ2, hD3, hC4, h⟩ := h
  have hs5 := hC4.1.2.2.2.1 hs
  refine E_callS (As := [.int x1, .int (0 : Int32), .int (5 : Int32)]) (rest := []) (r1 := (some (.int v6))) dX11_counts_3 ok_X11_isIn is_X11_isIn ml_X11_124 hD3 rfl rfl (Nat.le_of_ble_eq_true rfl) (by decide +kernel) hC4 ?_
  refine E_if_eq 23 dX11_counts_6 (by decide) (fun c => ?_) (fun c => ?_)
  · rw [if_pos c] at h
    refine E_iconst (-1 : Int32) dX11_counts_23 (by decide) ?_
    obtain ⟨rfl, rfl⟩ := h
    exact E_iret dX11_counts_24 rfl
  · rw [if_neg c] at h
    refine E_iload_n 2 dX11_counts_9 rfl rfl ?_
    obtain ⟨d7, v12, σ8, hD9, hC10, h⟩ := h
    have hs11 := hC10.1.2.2.2.1 hs5
    refine E_callS (As := [.int x2]) (rest := []) (r1 := (some (.int v12))) dX11_counts_10 ok_X11_isWeek is_X11_isWeek ml_X11_95 hD9 rfl rfl (Nat.le_of_ble_eq_true rfl) (by decide +kernel) hC10 ?_
    refine E_if_eq 23 dX11_counts_13 (by decide) (fun c => ?_) (fun c => ?_)
    · rw [if_pos c] at h
      refine E_iconst (-1 : Int32) dX11_counts_23 (by decide) ?_
      obtain ⟨rfl, rfl⟩ := h
      exact E_iret dX11_counts_24 rfl
    · rw [if_neg c] at h
      refine E_iload_n 3 dX11_counts_16 rfl rfl ?_
      obtain ⟨d13, v18, σ14, hD15, hC16, h⟩ := h
      have hs17 := hC16.1.2.2.2.1 hs11
      refine E_callS (As := [.int x3]) (rest := []) (r1 := (some (.int v18))) dX11_counts_17 ok_X11_isWeek is_X11_isWeek ml_X11_95 hD15 rfl rfl (Nat.le_of_ble_eq_true rfl) (by decide +kernel) hC16 ?_
      refine E_if_ne 25 dX11_counts_20 (by decide) (fun c => ?_) (fun c => ?_)
      · rw [if_neg c] at h
        refine E_aload_n 0 dX11_counts_25 rfl rfl ?_
        refine E_getR 28 dX11_counts_26 fl_X11_32 rfl (sk_0 hs17) (sn hs17 (by decide)) (sr_0_3 hs17) ?_
        refine E_iload_n 2 dX11_counts_29 rfl rfl ?_
        refine E_iload_n 3 dX11_counts_30 rfl rfl ?_
        obtain ⟨d19, σ20, hD21, hC22, h⟩ := h
        have hs23 := hC22.1.2.2.2.1 hs17
        refine E_callV (As := [.int x2, .int x3]) (rest := []) (r1 := none) (b := 28) dX11_counts_31 ok_X3_settle in_X3_settle se_X3_settle ml_X11_131 hD21 rfl rfl (Nat.le_of_ble_eq_true rfl) (sk_28 hs17) (sn hs17 (by decide)) (by decide) rfl (by decide +kernel) hC22 ?_
        refine E_aload_n 0 dX11_counts_34 rfl rfl ?_
        refine E_getR 28 dX11_counts_35 fl_X11_32 rfl (sk_0 hs23) (sn hs23 (by decide)) (sr_0_3 hs23) ?_
        refine E_iconst (0 : Int32) dX11_counts_38 (by decide) ?_
        refine E_iload_n 2 dX11_counts_39 rfl rfl ?_
        obtain ⟨d24, σ25, hD26, hC27, h⟩ := h
        have hs28 := hC27.1.2.2.2.1 hs23
        refine E_callV (As := [.int (0 : Int32), .int x2]) (rest := []) (r1 := none) (b := 28) dX11_counts_40 ok_X3_ask in_X3_ask se_X3_ask ml_X11_139 hD26 rfl rfl (Nat.le_of_ble_eq_true rfl) (sk_28 hs23) (sn hs23 (by decide)) (by decide) rfl (by decide +kernel) hC27 ?_
        refine E_iload_n 1 dX11_counts_43 rfl rfl ?_
        refine E_iconst (3 : Int32) dX11_counts_44 (by decide) ?_
        refine E_icmp_ge 60 dX11_counts_45 (by decide) (fun c => ?_) (fun c => ?_)
        · rw [if_pos c] at h
          refine E_aload_n 0 dX11_counts_60 rfl rfl ?_
          refine E_getR 28 dX11_counts_61 fl_X11_32 rfl (sk_0 hs28) (sn hs28 (by decide)) (sr_0_3 hs28) ?_
          refine E_iload_n 1 dX11_counts_64 rfl rfl ?_
          refine E_iconst (3 : Int32) dX11_counts_65 (by decide) ?_
          refine E_icmp_ne 74 dX11_counts_66 (by decide) (fun c => ?_) (fun c => ?_)
          · rw [if_neg c] at h
            refine E_iload_n 1 dX11_counts_74 rfl rfl ?_
            refine E_iconst (4 : Int32) dX11_counts_75 (by decide) ?_
            refine E_icmp_ne 84 dX11_counts_76 (by decide) (fun c => ?_) (fun c => ?_)
            · rw [if_neg c] at h
              refine E_bipush (61 : Int32) dX11_counts_84 (by decide) ?_
              exact E_lv [] rfl (w_X11_counts_86 hs28 h)
            · rw [if_pos c] at h
              refine E_bipush (60 : Int32) dX11_counts_79 (by decide) ?_
              refine E_goto 86 dX11_counts_81 (by decide) ?_
              exact E_lv [] rfl (w_X11_counts_86 hs28 h)
          · rw [if_pos c] at h
            refine E_bipush (59 : Int32) dX11_counts_69 (by decide) ?_
            refine E_goto 86 dX11_counts_71 (by decide) ?_
            exact E_lv [] rfl (w_X11_counts_86 hs28 h)
        · rw [if_neg c] at h
          refine E_aload_n 0 dX11_counts_48 rfl rfl ?_
          refine E_getR 28 dX11_counts_49 fl_X11_32 rfl (sk_0 hs28) (sn hs28 (by decide)) (sr_0_3 hs28) ?_
          refine E_bipush (55 : Int32) dX11_counts_52 (by decide) ?_
          refine E_iload_n 1 dX11_counts_54 rfl rfl ?_
          refine E_iadd dX11_counts_55 ?_
          obtain ⟨d29, v34, σ30, hD31, hC32, h⟩ := h
          have hs33 := hC32.1.2.2.2.1 hs28
          refine E_callV (As := [.int ((55 : Int32) + x1)]) (rest := []) (r1 := (some (.int v34))) (b := 28) dX11_counts_56 ok_X3_counted in_X3_counted se_X3_counted ml_X11_142 hD31 rfl rfl (Nat.le_of_ble_eq_true rfl) (sk_28 hs28) (sn hs28 (by decide)) (by decide) rfl (by decide +kernel) hC32 ?_
          obtain ⟨rfl, rfl⟩ := h
          exact E_iret dX11_counts_59 rfl
      · rw [if_pos c] at h
        refine E_iconst (-1 : Int32) dX11_counts_23 (by decide) ?_
        obtain ⟨rfl, rfl⟩ := h
        exact E_iret dX11_counts_24 rfl
def W_X11_need_0 (X : Sx) (l : Launch) (D : Nat) (x1 : Int32) (x2 : Int32) (x3 : Int32) (x4 : Int32) (x5 : Int32) (x6 : Int32) (σ : AH) (r : Option Value) (σ' : AH) : Prop := ∃ d1 : Nat, ∃ v6 : Int32, ∃ σ2 : AH, d1 + 1 ≤ D ∧ Call X l m_X11_isIn d1 [.int x1, .int (0 : Int32), .int (2 : Int32)] σ (some (.int v6)) σ2 ∧ (if v6 = 0 then (r = some (.int (-1 : Int32)) ∧ σ' = σ2) else ∃ d7 : Nat, ∃ v12 : Int32, ∃ σ8 : AH, d7 + 1 ≤ D ∧ Call X l m_X11_isIn d7 [.int x2, .int (0 : Int32), .int (2 : Int32)] σ2 (some (.int v12)) σ8 ∧ (if v12 = 0 then (r = some (.int (-1 : Int32)) ∧ σ' = σ8) else ∃ d13 : Nat, ∃ v18 : Int32, ∃ σ14 : AH, d13 + 1 ≤ D ∧ Call X l m_X11_isIn d13 [.int x3, .int (0 : Int32), .int (5 : Int32)] σ8 (some (.int v18)) σ14 ∧ (if v18 = 0 then (r = some (.int (-1 : Int32)) ∧ σ' = σ14) else ∃ d19 : Nat, ∃ v24 : Int32, ∃ σ20 : AH, d19 + 1 ≤ D ∧ Call X l m_X11_isIn d19 [.int x4, .int (1 : Int32), .int (6 : Int32)] σ14 (some (.int v24)) σ20 ∧ (if v24 = 0 then (r = some (.int (-1 : Int32)) ∧ σ' = σ20) else ∃ d25 : Nat, ∃ v30 : Int32, ∃ σ26 : AH, d25 + 1 ≤ D ∧ Call X l m_X11_isWeek d25 [.int x5] σ20 (some (.int v30)) σ26 ∧ (if v30 = 0 then (r = some (.int (-1 : Int32)) ∧ σ' = σ26) else ∃ d31 : Nat, ∃ v36 : Int32, ∃ σ32 : AH, d31 + 1 ≤ D ∧ Call X l m_X11_isWeek d31 [.int x6] σ26 (some (.int v36)) σ32 ∧ (if v36 = 0 then (r = some (.int (-1 : Int32)) ∧ σ' = σ32) else ∃ d37 : Nat, ∃ σ38 : AH, d37 + 1 ≤ D ∧ Call X l m_X3_settle d37 [.ref 28, .int x5, .int x6] σ32 none σ38 ∧ ∃ d42 : Nat, ∃ σ43 : AH, d42 + 1 ≤ D ∧ Call X l m_X3_ask d42 [.ref 28, .int x4, .int x5] σ38 none σ43 ∧ ∃ d47 : Nat, ∃ v52 : Int32, ∃ σ48 : AH, d47 + 1 ≤ D ∧ Call X l m_X11_needHead d47 [.int x1, .int x2, .int x3] σ43 (some (.int v52)) σ48 ∧ ∃ d53 : Nat, ∃ v58 : Int32, ∃ σ54 : AH, d53 + 1 ≤ D ∧ Call X l m_X3_counted d53 [.ref 28, .int v52] σ48 (some (.int v58)) σ54 ∧ 1 ≤ D ∧ (r = some (.int (imax (0 : Int32) v58)) ∧ σ' = σ54)))))))
set_option maxRecDepth 100000 in
theorem w_X11_need_0 {X : Sx} {l : Launch} {D : Nat} {x1 : Int32} {x2 : Int32} {x3 : Int32} {x4 : Int32} {x5 : Int32} {x6 : Int32} {σ : AH} {r : Option Value} {σ' : AH} (hs : Sh σ) (h : W_X11_need_0 X l D x1 x2 x3 x4 x5 x6 σ r σ') : E X l m_X11_need D 0 [(0, .ref 0), (1, .int x1), (2, .int x2), (3, .int x3), (4, .int x4), (5, .int x5), (6, .int x6)] [] σ r σ' := by
  unfold W_X11_need_0 at h
  refine E_iload_n 1 dX11_need_0 rfl rfl ?_
  refine E_iconst (0 : Int32) dX11_need_1 (by decide) ?_
  refine E_iconst (2 : Int32) dX11_need_2 (by decide) ?_
  obtain ⟨d1, v6, σ2, hD3, hC4, h⟩ := h
  have hs5 := hC4.1.2.2.2.1 hs
  refine E_callS (As := [.int x1, .int (0 : Int32), .int (2 : Int32)]) (rest := []) (r1 := (some (.int v6))) dX11_need_3 ok_X11_isIn is_X11_isIn ml_X11_124 hD3 rfl rfl (Nat.le_of_ble_eq_true rfl) (by decide +kernel) hC4 ?_
  refine E_if_eq 54 dX11_need_6 (by decide) (fun c => ?_) (fun c => ?_)
  · rw [if_pos c] at h
    refine E_iconst (-1 : Int32) dX11_need_54 (by decide) ?_
    obtain ⟨rfl, rfl⟩ := h
    exact E_iret dX11_need_55 rfl
  · rw [if_neg c] at h
    refine E_iload_n 2 dX11_need_9 rfl rfl ?_
    refine E_iconst (0 : Int32) dX11_need_10 (by decide) ?_
    refine E_iconst (2 : Int32) dX11_need_11 (by decide) ?_
    obtain ⟨d7, v12, σ8, hD9, hC10, h⟩ := h
    have hs11 := hC10.1.2.2.2.1 hs5
    refine E_callS (As := [.int x2, .int (0 : Int32), .int (2 : Int32)]) (rest := []) (r1 := (some (.int v12))) dX11_need_12 ok_X11_isIn is_X11_isIn ml_X11_124 hD9 rfl rfl (Nat.le_of_ble_eq_true rfl) (by decide +kernel) hC10 ?_
    refine E_if_eq 54 dX11_need_15 (by decide) (fun c => ?_) (fun c => ?_)
    · rw [if_pos c] at h
      refine E_iconst (-1 : Int32) dX11_need_54 (by decide) ?_
      obtain ⟨rfl, rfl⟩ := h
      exact E_iret dX11_need_55 rfl
    · rw [if_neg c] at h
      refine E_iload_n 3 dX11_need_18 rfl rfl ?_
      refine E_iconst (0 : Int32) dX11_need_19 (by decide) ?_
      refine E_iconst (5 : Int32) dX11_need_20 (by decide) ?_
      obtain ⟨d13, v18, σ14, hD15, hC16, h⟩ := h
      have hs17 := hC16.1.2.2.2.1 hs11
      refine E_callS (As := [.int x3, .int (0 : Int32), .int (5 : Int32)]) (rest := []) (r1 := (some (.int v18))) dX11_need_21 ok_X11_isIn is_X11_isIn ml_X11_124 hD15 rfl rfl (Nat.le_of_ble_eq_true rfl) (by decide +kernel) hC16 ?_
      refine E_if_eq 54 dX11_need_24 (by decide) (fun c => ?_) (fun c => ?_)
      · rw [if_pos c] at h
        refine E_iconst (-1 : Int32) dX11_need_54 (by decide) ?_
        obtain ⟨rfl, rfl⟩ := h
        exact E_iret dX11_need_55 rfl
      · rw [if_neg c] at h
        refine E_iload 4 dX11_need_27 rfl ?_
        refine E_iconst (1 : Int32) dX11_need_29 (by decide) ?_
        refine E_bipush (6 : Int32) dX11_need_30 (by decide) ?_
        obtain ⟨d19, v24, σ20, hD21, hC22, h⟩ := h
        have hs23 := hC22.1.2.2.2.1 hs17
        refine E_callS (As := [.int x4, .int (1 : Int32), .int (6 : Int32)]) (rest := []) (r1 := (some (.int v24))) dX11_need_32 ok_X11_isIn is_X11_isIn ml_X11_124 hD21 rfl rfl (Nat.le_of_ble_eq_true rfl) (by decide +kernel) hC22 ?_
        refine E_if_eq 54 dX11_need_35 (by decide) (fun c => ?_) (fun c => ?_)
        · rw [if_pos c] at h
          refine E_iconst (-1 : Int32) dX11_need_54 (by decide) ?_
          obtain ⟨rfl, rfl⟩ := h
          exact E_iret dX11_need_55 rfl
        · rw [if_neg c] at h
          refine E_iload 5 dX11_need_38 rfl ?_
          obtain ⟨d25, v30, σ26, hD27, hC28, h⟩ := h
          have hs29 := hC28.1.2.2.2.1 hs23
          refine E_callS (As := [.int x5]) (rest := []) (r1 := (some (.int v30))) dX11_need_40 ok_X11_isWeek is_X11_isWeek ml_X11_95 hD27 rfl rfl (Nat.le_of_ble_eq_true rfl) (by decide +kernel) hC28 ?_
          refine E_if_eq 54 dX11_need_43 (by decide) (fun c => ?_) (fun c => ?_)
          · rw [if_pos c] at h
            refine E_iconst (-1 : Int32) dX11_need_54 (by decide) ?_
            obtain ⟨rfl, rfl⟩ := h
            exact E_iret dX11_need_55 rfl
          · rw [if_neg c] at h
            refine E_iload 6 dX11_need_46 rfl ?_
            obtain ⟨d31, v36, σ32, hD33, hC34, h⟩ := h
            have hs35 := hC34.1.2.2.2.1 hs29
            refine E_callS (As := [.int x6]) (rest := []) (r1 := (some (.int v36))) dX11_need_48 ok_X11_isWeek is_X11_isWeek ml_X11_95 hD33 rfl rfl (Nat.le_of_ble_eq_true rfl) (by decide +kernel) hC34 ?_
            refine E_if_ne 56 dX11_need_51 (by decide) (fun c => ?_) (fun c => ?_)
            · rw [if_neg c] at h
              refine E_aload_n 0 dX11_need_56 rfl rfl ?_
              refine E_getR 28 dX11_need_57 fl_X11_32 rfl (sk_0 hs35) (sn hs35 (by decide)) (sr_0_3 hs35) ?_
              refine E_iload 5 dX11_need_60 rfl ?_
              refine E_iload 6 dX11_need_62 rfl ?_
              obtain ⟨d37, σ38, hD39, hC40, h⟩ := h
              have hs41 := hC40.1.2.2.2.1 hs35
              refine E_callV (As := [.int x5, .int x6]) (rest := []) (r1 := none) (b := 28) dX11_need_64 ok_X3_settle in_X3_settle se_X3_settle ml_X11_131 hD39 rfl rfl (Nat.le_of_ble_eq_true rfl) (sk_28 hs35) (sn hs35 (by decide)) (by decide) rfl (by decide +kernel) hC40 ?_
              refine E_aload_n 0 dX11_need_67 rfl rfl ?_
              refine E_getR 28 dX11_need_68 fl_X11_32 rfl (sk_0 hs41) (sn hs41 (by decide)) (sr_0_3 hs41) ?_
              refine E_iload 4 dX11_need_71 rfl ?_
              refine E_iload 5 dX11_need_73 rfl ?_
              obtain ⟨d42, σ43, hD44, hC45, h⟩ := h
              have hs46 := hC45.1.2.2.2.1 hs41
              refine E_callV (As := [.int x4, .int x5]) (rest := []) (r1 := none) (b := 28) dX11_need_75 ok_X3_ask in_X3_ask se_X3_ask ml_X11_139 hD44 rfl rfl (Nat.le_of_ble_eq_true rfl) (sk_28 hs41) (sn hs41 (by decide)) (by decide) rfl (by decide +kernel) hC45 ?_
              refine E_iconst (0 : Int32) dX11_need_78 (by decide) ?_
              refine E_aload_n 0 dX11_need_79 rfl rfl ?_
              refine E_getR 28 dX11_need_80 fl_X11_32 rfl (sk_0 hs46) (sn hs46 (by decide)) (sr_0_3 hs46) ?_
              refine E_iload_n 1 dX11_need_83 rfl rfl ?_
              refine E_iload_n 2 dX11_need_84 rfl rfl ?_
              refine E_iload_n 3 dX11_need_85 rfl rfl ?_
              obtain ⟨d47, v52, σ48, hD49, hC50, h⟩ := h
              have hs51 := hC50.1.2.2.2.1 hs46
              refine E_callS (As := [.int x1, .int x2, .int x3]) (rest := [.ref 28, .int (0 : Int32)]) (r1 := (some (.int v52))) dX11_need_86 ok_X11_needHead is_X11_needHead ml_X11_145 hD49 rfl rfl (Nat.le_of_ble_eq_true rfl) (by decide +kernel) hC50 ?_
              obtain ⟨d53, v58, σ54, hD55, hC56, h⟩ := h
              have hs57 := hC56.1.2.2.2.1 hs51
              refine E_callV (As := [.int v52]) (rest := [.int (0 : Int32)]) (r1 := (some (.int v58))) (b := 28) dX11_need_89 ok_X3_counted in_X3_counted se_X3_counted ml_X11_142 hD55 rfl rfl (Nat.le_of_ble_eq_true rfl) (sk_28 hs51) (sn hs51 (by decide)) (by decide) rfl (by decide +kernel) hC56 ?_
              obtain ⟨g59, h⟩ := h
              refine E_mmax dX11_need_92 mm_X11_149 g59 (Nat.le_of_ble_eq_true rfl) ?_
              obtain ⟨rfl, rfl⟩ := h
              exact E_iret dX11_need_95 rfl
            · rw [if_pos c] at h
              refine E_iconst (-1 : Int32) dX11_need_54 (by decide) ?_
              obtain ⟨rfl, rfl⟩ := h
              exact E_iret dX11_need_55 rfl
def W_X11_deliver_34 (X : Sx) (l : Launch) (D : Nat) (σ : AH) (r : Option Value) (σ' : AH) : Prop := ∃ d75 : Nat, ∃ v80 : Int32, ∃ σ76 : AH, d75 + 1 ≤ D ∧ Call X l m_X11_answer d75 [.ref 0, .int (-1 : Int32)] σ (some (.int v80)) σ76 ∧ (r = some (.int v80) ∧ σ' = σ76)
set_option maxRecDepth 100000 in
theorem w_X11_deliver_34 {X : Sx} {l : Launch} {D : Nat} {σ : AH} {r : Option Value} {σ' : AH} (hs : Sh σ) (h : W_X11_deliver_34 X l D σ r σ') : E X l m_X11_deliver D 34 [(0, .ref 0)] [] σ r σ' := by
  unfold W_X11_deliver_34 at h
  refine E_aload_n 0 dX11_deliver_34 rfl rfl ?_
  refine E_iconst (-1 : Int32) dX11_deliver_35 (by decide) ?_
  obtain ⟨d75, v80, σ76, hD77, hC78, h⟩ := h
  have hs79 := hC78.1.2.2.2.1 hs
  refine E_callV (As := [.int (-1 : Int32)]) (rest := []) (r1 := (some (.int v80))) (b := 0) dX11_deliver_36 ok_X11_answer in_X11_answer se_X11_answer ml_X11_105 hD77 rfl rfl (Nat.le_of_ble_eq_true rfl) (sk_0 hs) (sn hs (by decide)) (by decide) rfl (by decide +kernel) hC78 ?_
  obtain ⟨rfl, rfl⟩ := h
  exact E_iret dX11_deliver_39 rfl
def W_X11_deliver_0 (X : Sx) (l : Launch) (D : Nat) (x1 : Int32) (x2 : Int32) (x3 : Int32) (x4 : Int32) (σ : AH) (r : Option Value) (σ' : AH) : Prop := ∃ d1 : Nat, ∃ v6 : Int32, ∃ σ2 : AH, d1 + 1 ≤ D ∧ Call X l m_X11_isIn d1 [.int x1, .int (0 : Int32), .int (4 : Int32)] σ (some (.int v6)) σ2 ∧ (if v6 = 0 then W_X11_deliver_34 X l D σ2 r σ' else ∃ d7 : Nat, ∃ v12 : Int32, ∃ σ8 : AH, d7 + 1 ≤ D ∧ Call X l m_X11_isWeek d7 [.int x2] σ2 (some (.int v12)) σ8 ∧ (if v12 = 0 then W_X11_deliver_34 X l D σ8 r σ' else ∃ d13 : Nat, ∃ v18 : Int32, ∃ σ14 : AH, d13 + 1 ≤ D ∧ Call X l m_X11_isIn d13 [.int x3, .int (1 : Int32), .int (100000 : Int32)] σ8 (some (.int v18)) σ14 ∧ (if v18 = 0 then W_X11_deliver_34 X l D σ14 r σ' else ∃ d19 : Nat, ∃ v24 : Int32, ∃ σ20 : AH, d19 + 1 ≤ D ∧ Call X l m_X11_isWeek d19 [.int x4] σ14 (some (.int v24)) σ20 ∧ (if v24 = 0 then W_X11_deliver_34 X l D σ20 r σ' else ∃ d25 : Nat, ∃ v30 : Int32, ∃ σ26 : AH, d25 + 1 ≤ D ∧ Call X l m_X8_isFull d25 [.ref 3] σ20 (some (.int v30)) σ26 ∧ (if v30 = 0 then ∃ d31 : Nat, ∃ v36 : Int32, ∃ σ32 : AH, d31 + 1 ≤ D ∧ Call X l m_X8_add d31 [.ref 3] σ26 (some (.int v36)) σ32 ∧ ∃ d37 : Nat, ∃ σ38 : AH, d37 + 1 ≤ D ∧ Call X l m_X8_put d37 [.ref 3, .int v36, .int (0 : Int32), .int x1] σ32 none σ38 ∧ ∃ d42 : Nat, ∃ σ43 : AH, d42 + 1 ≤ D ∧ Call X l m_X8_put d42 [.ref 3, .int v36, .int (1 : Int32), .int x2] σ38 none σ43 ∧ ∃ d47 : Nat, ∃ σ48 : AH, d47 + 1 ≤ D ∧ Call X l m_X8_put d47 [.ref 3, .int v36, .int (2 : Int32), .int x3] σ43 none σ48 ∧ ∃ d52 : Nat, ∃ σ53 : AH, d52 + 1 ≤ D ∧ Call X l m_X8_put d52 [.ref 3, .int v36, .int (3 : Int32), .int x4] σ48 none σ53 ∧ ∃ d57 : Nat, ∃ v62 : Int32, ∃ σ58 : AH, d57 + 1 ≤ D ∧ Call X l m_X8_rows d57 [.ref 3] (sI σ53 0 12 ((gI σ53 0 12) + (1 : Int32))) (some (.int v62)) σ58 ∧ ∃ d63 : Nat, ∃ v68 : Int32, ∃ σ64 : AH, d63 + 1 ≤ D ∧ Call X l m_X11_answer d63 [.ref 0, .int v62] σ58 (some (.int v68)) σ64 ∧ (r = some (.int v68) ∧ σ' = σ64) else ∃ d69 : Nat, ∃ v74 : Int32, ∃ σ70 : AH, d69 + 1 ≤ D ∧ Call X l m_X11_answer d69 [.ref 0, .int (-5 : Int32)] σ26 (some (.int v74)) σ70 ∧ (r = some (.int v74) ∧ σ' = σ70))))))
set_option maxRecDepth 100000 in
theorem w_X11_deliver_0 {X : Sx} {l : Launch} {D : Nat} {x1 : Int32} {x2 : Int32} {x3 : Int32} {x4 : Int32} {σ : AH} {r : Option Value} {σ' : AH} (hs : Sh σ) (h : W_X11_deliver_0 X l D x1 x2 x3 x4 σ r σ') : E X l m_X11_deliver D 0 [(0, .ref 0), (1, .int x1), (2, .int x2), (3, .int x3), (4, .int x4)] [] σ r σ' := by
  unfold W_X11_deliver_0 at h
  refine E_iload_n 1 dX11_deliver_0 rfl rfl ?_
  refine E_iconst (0 : Int32) dX11_deliver_1 (by decide) ?_
  refine E_iconst (4 : Int32) dX11_deliver_2 (by decide) ?_
  obtain ⟨d1, v6, σ2, hD3, hC4, h⟩ := h
  have hs5 := hC4.1.2.2.2.1 hs
  refine E_callS (As := [.int x1, .int (0 : Int32), .int (4 : Int32)]) (rest := []) (r1 := (some (.int v6))) dX11_deliver_3 ok_X11_isIn is_X11_isIn ml_X11_124 hD3 rfl rfl (Nat.le_of_ble_eq_true rfl) (by decide +kernel) hC4 ?_
  refine E_if_eq 34 dX11_deliver_6 (by decide) (fun c => ?_) (fun c => ?_)
  · rw [if_pos c] at h
    exact E_lv [0] rfl (w_X11_deliver_34 hs5 h)
  · rw [if_neg c] at h
    refine E_iload_n 2 dX11_deliver_9 rfl rfl ?_
    obtain ⟨d7, v12, σ8, hD9, hC10, h⟩ := h
    have hs11 := hC10.1.2.2.2.1 hs5
    refine E_callS (As := [.int x2]) (rest := []) (r1 := (some (.int v12))) dX11_deliver_10 ok_X11_isWeek is_X11_isWeek ml_X11_95 hD9 rfl rfl (Nat.le_of_ble_eq_true rfl) (by decide +kernel) hC10 ?_
    refine E_if_eq 34 dX11_deliver_13 (by decide) (fun c => ?_) (fun c => ?_)
    · rw [if_pos c] at h
      exact E_lv [0] rfl (w_X11_deliver_34 hs11 h)
    · rw [if_neg c] at h
      refine E_iload_n 3 dX11_deliver_16 rfl rfl ?_
      refine E_iconst (1 : Int32) dX11_deliver_17 (by decide) ?_
      refine E_ldc (100000 : Int32) dX11_deliver_18 ct_X11_155 ?_
      obtain ⟨d13, v18, σ14, hD15, hC16, h⟩ := h
      have hs17 := hC16.1.2.2.2.1 hs11
      refine E_callS (As := [.int x3, .int (1 : Int32), .int (100000 : Int32)]) (rest := []) (r1 := (some (.int v18))) dX11_deliver_20 ok_X11_isIn is_X11_isIn ml_X11_124 hD15 rfl rfl (Nat.le_of_ble_eq_true rfl) (by decide +kernel) hC16 ?_
      refine E_if_eq 34 dX11_deliver_23 (by decide) (fun c => ?_) (fun c => ?_)
      · rw [if_pos c] at h
        exact E_lv [0] rfl (w_X11_deliver_34 hs17 h)
      · rw [if_neg c] at h
        refine E_iload 4 dX11_deliver_26 rfl ?_
        obtain ⟨d19, v24, σ20, hD21, hC22, h⟩ := h
        have hs23 := hC22.1.2.2.2.1 hs17
        refine E_callS (As := [.int x4]) (rest := []) (r1 := (some (.int v24))) dX11_deliver_28 ok_X11_isWeek is_X11_isWeek ml_X11_95 hD21 rfl rfl (Nat.le_of_ble_eq_true rfl) (by decide +kernel) hC22 ?_
        refine E_if_ne 40 dX11_deliver_31 (by decide) (fun c => ?_) (fun c => ?_)
        · rw [if_neg c] at h
          refine E_aload_n 0 dX11_deliver_40 rfl rfl ?_
          refine E_getR 1 dX11_deliver_41 fl_X11_10 rfl (sk_0 hs23) (sn hs23 (by decide)) (sr_0_0 hs23) ?_
          refine E_getR 3 dX11_deliver_44 fl_X11_156 rfl (sk_1 hs23) (sn hs23 (by decide)) (sr_1_2 hs23) ?_
          obtain ⟨d25, v30, σ26, hD27, hC28, h⟩ := h
          have hs29 := hC28.1.2.2.2.1 hs23
          refine E_callV (As := []) (rest := []) (r1 := (some (.int v30))) (b := 3) dX11_deliver_47 ok_X8_isFull in_X8_isFull se_X8_isFull ml_X11_160 hD27 rfl rfl (Nat.le_of_ble_eq_true rfl) (sk_3 hs23) (sn hs23 (by decide)) (by decide) rfl (by decide +kernel) hC28 ?_
          refine E_if_eq 60 dX11_deliver_50 (by decide) (fun c => ?_) (fun c => ?_)
          · rw [if_pos c] at h
            refine E_aload_n 0 dX11_deliver_60 rfl rfl ?_
            refine E_getR 1 dX11_deliver_61 fl_X11_10 rfl (sk_0 hs29) (sn hs29 (by decide)) (sr_0_0 hs29) ?_
            refine E_getR 3 dX11_deliver_64 fl_X11_156 rfl (sk_1 hs29) (sn hs29 (by decide)) (sr_1_2 hs29) ?_
            obtain ⟨d31, v36, σ32, hD33, hC34, h⟩ := h
            have hs35 := hC34.1.2.2.2.1 hs29
            refine E_callV (As := []) (rest := []) (r1 := (some (.int v36))) (b := 3) dX11_deliver_67 ok_X8_add in_X8_add se_X8_add ml_X11_166 hD33 rfl rfl (Nat.le_of_ble_eq_true rfl) (sk_3 hs29) (sn hs29 (by decide)) (by decide) rfl (by decide +kernel) hC34 ?_
            refine E_istore [(5, .int v36), (0, .ref 0), (1, .int x1), (2, .int x2), (3, .int x3), (4, .int x4)] dX11_deliver_70 (by decide) rfl ?_
            refine E_aload_n 1 dX11_deliver_72 rfl rfl ?_
            refine E_getR 1 dX11_deliver_73 fl_X11_10 rfl (sk_0 hs35) (sn hs35 (by decide)) (sr_0_0 hs35) ?_
            refine E_getR 3 dX11_deliver_76 fl_X11_156 rfl (sk_1 hs35) (sn hs35 (by decide)) (sr_1_2 hs35) ?_
            refine E_iload 0 dX11_deliver_79 rfl ?_
            refine E_iconst (0 : Int32) dX11_deliver_81 (by decide) ?_
            refine E_iload_n 2 dX11_deliver_82 rfl rfl ?_
            obtain ⟨d37, σ38, hD39, hC40, h⟩ := h
            have hs41 := hC40.1.2.2.2.1 hs35
            refine E_callV (As := [.int v36, .int (0 : Int32), .int x1]) (rest := []) (r1 := none) (b := 3) dX11_deliver_83 ok_X8_put in_X8_put se_X8_put ml_X11_169 hD39 rfl rfl (Nat.le_of_ble_eq_true rfl) (sk_3 hs35) (sn hs35 (by decide)) (by decide) rfl (by decide +kernel) hC40 ?_
            refine E_aload_n 1 dX11_deliver_86 rfl rfl ?_
            refine E_getR 1 dX11_deliver_87 fl_X11_10 rfl (sk_0 hs41) (sn hs41 (by decide)) (sr_0_0 hs41) ?_
            refine E_getR 3 dX11_deliver_90 fl_X11_156 rfl (sk_1 hs41) (sn hs41 (by decide)) (sr_1_2 hs41) ?_
            refine E_iload 0 dX11_deliver_93 rfl ?_
            refine E_iconst (1 : Int32) dX11_deliver_95 (by decide) ?_
            refine E_iload_n 3 dX11_deliver_96 rfl rfl ?_
            obtain ⟨d42, σ43, hD44, hC45, h⟩ := h
            have hs46 := hC45.1.2.2.2.1 hs41
            refine E_callV (As := [.int v36, .int (1 : Int32), .int x2]) (rest := []) (r1 := none) (b := 3) dX11_deliver_97 ok_X8_put in_X8_put se_X8_put ml_X11_169 hD44 rfl rfl (Nat.le_of_ble_eq_true rfl) (sk_3 hs41) (sn hs41 (by decide)) (by decide) rfl (by decide +kernel) hC45 ?_
            refine E_aload_n 1 dX11_deliver_100 rfl rfl ?_
            refine E_getR 1 dX11_deliver_101 fl_X11_10 rfl (sk_0 hs46) (sn hs46 (by decide)) (sr_0_0 hs46) ?_
            refine E_getR 3 dX11_deliver_104 fl_X11_156 rfl (sk_1 hs46) (sn hs46 (by decide)) (sr_1_2 hs46) ?_
            refine E_iload 0 dX11_deliver_107 rfl ?_
            refine E_iconst (2 : Int32) dX11_deliver_109 (by decide) ?_
            refine E_iload_n 4 dX11_deliver_110 rfl rfl ?_
            obtain ⟨d47, σ48, hD49, hC50, h⟩ := h
            have hs51 := hC50.1.2.2.2.1 hs46
            refine E_callV (As := [.int v36, .int (2 : Int32), .int x3]) (rest := []) (r1 := none) (b := 3) dX11_deliver_111 ok_X8_put in_X8_put se_X8_put ml_X11_169 hD49 rfl rfl (Nat.le_of_ble_eq_true rfl) (sk_3 hs46) (sn hs46 (by decide)) (by decide) rfl (by decide +kernel) hC50 ?_
            refine E_aload_n 1 dX11_deliver_114 rfl rfl ?_
            refine E_getR 1 dX11_deliver_115 fl_X11_10 rfl (sk_0 hs51) (sn hs51 (by decide)) (sr_0_0 hs51) ?_
            refine E_getR 3 dX11_deliver_118 fl_X11_156 rfl (sk_1 hs51) (sn hs51 (by decide)) (sr_1_2 hs51) ?_
            refine E_iload 0 dX11_deliver_121 rfl ?_
            refine E_iconst (3 : Int32) dX11_deliver_123 (by decide) ?_
            refine E_iload 5 dX11_deliver_124 rfl ?_
            obtain ⟨d52, σ53, hD54, hC55, h⟩ := h
            have hs56 := hC55.1.2.2.2.1 hs51
            refine E_callV (As := [.int v36, .int (3 : Int32), .int x4]) (rest := []) (r1 := none) (b := 3) dX11_deliver_126 ok_X8_put in_X8_put se_X8_put ml_X11_169 hD54 rfl rfl (Nat.le_of_ble_eq_true rfl) (sk_3 hs51) (sn hs51 (by decide)) (by decide) rfl (by decide +kernel) hC55 ?_
            refine E_aload_n 1 dX11_deliver_129 rfl rfl ?_
            refine E_dup dX11_deliver_130 rfl ?_
            refine E_getI dX11_deliver_131 fl_X11_121 rfl (sk_0 hs56) (sn hs56 (by decide)) ?_
            refine E_iconst (1 : Int32) dX11_deliver_134 (by decide) ?_
            refine E_iadd dX11_deliver_135 ?_
            refine E_putI dX11_deliver_136 fl_X11_121 rfl (Or.inl rfl) (sk_0 hs56) (sn hs56 (by decide)) (Or.inl (by decide)) rfl rfl ?_
            refine E_aload_n 1 dX11_deliver_139 rfl rfl ?_
            refine E_aload_n 1 dX11_deliver_140 rfl rfl ?_
            refine E_getR 1 dX11_deliver_141 fl_X11_10 rfl (sk_0 hs56) (sn hs56 (by decide)) (sr_0_0 hs56) ?_
            refine E_getR 3 dX11_deliver_144 fl_X11_156 rfl (sk_1 hs56) (sn hs56 (by decide)) (sr_1_2 hs56) ?_
            obtain ⟨d57, v62, σ58, hD59, hC60, h⟩ := h
            have hs61 := hC60.1.2.2.2.1 hs56
            refine E_callV (As := []) (rest := [.ref 0]) (r1 := (some (.int v62))) (b := 3) dX11_deliver_147 ok_X8_rows in_X8_rows se_X8_rows ml_X11_173 hD59 rfl rfl (Nat.le_of_ble_eq_true rfl) (sk_3 hs56) (sn hs56 (by decide)) (by decide) rfl (by decide +kernel) hC60 ?_
            obtain ⟨d63, v68, σ64, hD65, hC66, h⟩ := h
            have hs67 := hC66.1.2.2.2.1 hs61
            refine E_callV (As := [.int v62]) (rest := []) (r1 := (some (.int v68))) (b := 0) dX11_deliver_150 ok_X11_answer in_X11_answer se_X11_answer ml_X11_105 hD65 rfl rfl (Nat.le_of_ble_eq_true rfl) (sk_0 hs61) (sn hs61 (by decide)) (by decide) rfl (by decide +kernel) hC66 ?_
            obtain ⟨rfl, rfl⟩ := h
            exact E_iret dX11_deliver_153 rfl
          · rw [if_neg c] at h
            refine E_aload_n 0 dX11_deliver_53 rfl rfl ?_
            refine E_bipush (-5 : Int32) dX11_deliver_54 (by decide) ?_
            obtain ⟨d69, v74, σ70, hD71, hC72, h⟩ := h
            have hs73 := hC72.1.2.2.2.1 hs29
            refine E_callV (As := [.int (-5 : Int32)]) (rest := []) (r1 := (some (.int v74))) (b := 0) dX11_deliver_56 ok_X11_answer in_X11_answer se_X11_answer ml_X11_105 hD71 rfl rfl (Nat.le_of_ble_eq_true rfl) (sk_0 hs29) (sn hs29 (by decide)) (by decide) rfl (by decide +kernel) hC72 ?_
            obtain ⟨rfl, rfl⟩ := h
            exact E_iret dX11_deliver_59 rfl
        · rw [if_pos c] at h
          exact E_lv [0] rfl (w_X11_deliver_34 hs23 h)
def W_X11_works_82 (X : Sx) (l : Launch) (D : Nat) (σ : AH) (r : Option Value) (σ' : AH) : Prop := ∃ d49 : Nat, ∃ v54 : Int32, ∃ σ50 : AH, d49 + 1 ≤ D ∧ Call X l m_X11_answer d49 [.ref 0, .int (-1 : Int32)] σ (some (.int v54)) σ50 ∧ (r = some (.int v54) ∧ σ' = σ50)
set_option maxRecDepth 100000 in
theorem w_X11_works_82 {X : Sx} {l : Launch} {D : Nat} {σ : AH} {r : Option Value} {σ' : AH} (hs : Sh σ) (h : W_X11_works_82 X l D σ r σ') : E X l m_X11_works D 82 [(0, .ref 0)] [] σ r σ' := by
  unfold W_X11_works_82 at h
  refine E_aload_n 0 dX11_works_82 rfl rfl ?_
  refine E_iconst (-1 : Int32) dX11_works_83 (by decide) ?_
  obtain ⟨d49, v54, σ50, hD51, hC52, h⟩ := h
  have hs53 := hC52.1.2.2.2.1 hs
  refine E_callV (As := [.int (-1 : Int32)]) (rest := []) (r1 := (some (.int v54))) (b := 0) dX11_works_84 ok_X11_answer in_X11_answer se_X11_answer ml_X11_105 hD51 rfl rfl (Nat.le_of_ble_eq_true rfl) (sk_0 hs) (sn hs (by decide)) (by decide) rfl (by decide +kernel) hC52 ?_
  obtain ⟨rfl, rfl⟩ := h
  exact E_iret dX11_works_87 rfl
def W_X11_works_88 (X : Sx) (l : Launch) (D : Nat) (x1 : Int32) (x2 : Int32) (x3 : Int32) (x4 : Int32) (x5 : Int32) (x6 : Int32) (x7 : Int32) (x8 : Int32) (σ : AH) (r : Option Value) (σ' : AH) : Prop := ∃ d55 : Nat, ∃ v60 : Int32, ∃ σ56 : AH, d55 + 1 ≤ D ∧ Call X l m_X8_isFull d55 [.ref 5] σ (some (.int v60)) σ56 ∧ (if v60 = 0 then ∃ d61 : Nat, ∃ v66 : Int32, ∃ σ62 : AH, d61 + 1 ≤ D ∧ Call X l m_X8_add d61 [.ref 5] σ56 (some (.int v66)) σ62 ∧ ∃ d67 : Nat, ∃ σ68 : AH, d67 + 1 ≤ D ∧ Call X l m_X8_put d67 [.ref 5, .int v66, .int (0 : Int32), .int x1] σ62 none σ68 ∧ ∃ d72 : Nat, ∃ σ73 : AH, d72 + 1 ≤ D ∧ Call X l m_X8_put d72 [.ref 5, .int v66, .int (1 : Int32), .int x2] σ68 none σ73 ∧ ∃ d77 : Nat, ∃ σ78 : AH, d77 + 1 ≤ D ∧ Call X l m_X8_put d77 [.ref 5, .int v66, .int (2 : Int32), .int x3] σ73 none σ78 ∧ ∃ d82 : Nat, ∃ σ83 : AH, d82 + 1 ≤ D ∧ Call X l m_X8_put d82 [.ref 5, .int v66, .int (3 : Int32), .int x4] σ78 none σ83 ∧ ∃ d87 : Nat, ∃ σ88 : AH, d87 + 1 ≤ D ∧ Call X l m_X8_put d87 [.ref 5, .int v66, .int (4 : Int32), .int x5] σ83 none σ88 ∧ ∃ d92 : Nat, ∃ σ93 : AH, d92 + 1 ≤ D ∧ Call X l m_X8_put d92 [.ref 5, .int v66, .int (5 : Int32), .int x6] σ88 none σ93 ∧ ∃ d97 : Nat, ∃ σ98 : AH, d97 + 1 ≤ D ∧ Call X l m_X8_put d97 [.ref 5, .int v66, .int (6 : Int32), .int x7] σ93 none σ98 ∧ ∃ d102 : Nat, ∃ σ103 : AH, d102 + 1 ≤ D ∧ Call X l m_X8_put d102 [.ref 5, .int v66, .int (7 : Int32), .int x8] σ98 none σ103 ∧ ∃ d107 : Nat, ∃ v112 : Int32, ∃ σ108 : AH, d107 + 1 ≤ D ∧ Call X l m_X11_answer d107 [.ref 0, .int v66] (sI σ103 0 12 ((gI σ103 0 12) + (1 : Int32))) (some (.int v112)) σ108 ∧ (r = some (.int v112) ∧ σ' = σ108) else ∃ d113 : Nat, ∃ v118 : Int32, ∃ σ114 : AH, d113 + 1 ≤ D ∧ Call X l m_X11_answer d113 [.ref 0, .int (-5 : Int32)] σ56 (some (.int v118)) σ114 ∧ (r = some (.int v118) ∧ σ' = σ114))
set_option maxRecDepth 100000 in
theorem w_X11_works_88 {X : Sx} {l : Launch} {D : Nat} {x1 : Int32} {x2 : Int32} {x3 : Int32} {x4 : Int32} {x5 : Int32} {x6 : Int32} {x7 : Int32} {x8 : Int32} {σ : AH} {r : Option Value} {σ' : AH} (hs : Sh σ) (h : W_X11_works_88 X l D x1 x2 x3 x4 x5 x6 x7 x8 σ r σ') : E X l m_X11_works D 88 [(0, .ref 0), (1, .int x1), (2, .int x2), (3, .int x3), (4, .int x4), (5, .int x5), (6, .int x6), (7, .int x7), (8, .int x8)] [] σ r σ' := by
  unfold W_X11_works_88 at h
  refine E_aload_n 0 dX11_works_88 rfl rfl ?_
  refine E_getR 1 dX11_works_89 fl_X11_10 rfl (sk_0 hs) (sn hs (by decide)) (sr_0_0 hs) ?_
  refine E_getR 5 dX11_works_92 fl_X11_176 rfl (sk_1 hs) (sn hs (by decide)) (sr_1_3 hs) ?_
  obtain ⟨d55, v60, σ56, hD57, hC58, h⟩ := h
  have hs59 := hC58.1.2.2.2.1 hs
  refine E_callV (As := []) (rest := []) (r1 := (some (.int v60))) (b := 5) dX11_works_95 ok_X8_isFull in_X8_isFull se_X8_isFull ml_X11_160 hD57 rfl rfl (Nat.le_of_ble_eq_true rfl) (sk_5 hs) (sn hs (by decide)) (by decide) rfl (by decide +kernel) hC58 ?_
  refine E_if_eq 108 dX11_works_98 (by decide) (fun c => ?_) (fun c => ?_)
  · rw [if_pos c] at h
    refine E_aload_n 0 dX11_works_108 rfl rfl ?_
    refine E_getR 1 dX11_works_109 fl_X11_10 rfl (sk_0 hs59) (sn hs59 (by decide)) (sr_0_0 hs59) ?_
    refine E_getR 5 dX11_works_112 fl_X11_176 rfl (sk_1 hs59) (sn hs59 (by decide)) (sr_1_3 hs59) ?_
    obtain ⟨d61, v66, σ62, hD63, hC64, h⟩ := h
    have hs65 := hC64.1.2.2.2.1 hs59
    refine E_callV (As := []) (rest := []) (r1 := (some (.int v66))) (b := 5) dX11_works_115 ok_X8_add in_X8_add se_X8_add ml_X11_166 hD63 rfl rfl (Nat.le_of_ble_eq_true rfl) (sk_5 hs59) (sn hs59 (by decide)) (by decide) rfl (by decide +kernel) hC64 ?_
    refine E_istore [(9, .int v66), (0, .ref 0), (1, .int x1), (2, .int x2), (3, .int x3), (4, .int x4), (5, .int x5), (6, .int x6), (7, .int x7), (8, .int x8)] dX11_works_118 (by decide) rfl ?_
    refine E_aload_n 1 dX11_works_120 rfl rfl ?_
    refine E_getR 1 dX11_works_121 fl_X11_10 rfl (sk_0 hs65) (sn hs65 (by decide)) (sr_0_0 hs65) ?_
    refine E_getR 5 dX11_works_124 fl_X11_176 rfl (sk_1 hs65) (sn hs65 (by decide)) (sr_1_3 hs65) ?_
    refine E_iload 0 dX11_works_127 rfl ?_
    refine E_iconst (0 : Int32) dX11_works_129 (by decide) ?_
    refine E_iload_n 2 dX11_works_130 rfl rfl ?_
    obtain ⟨d67, σ68, hD69, hC70, h⟩ := h
    have hs71 := hC70.1.2.2.2.1 hs65
    refine E_callV (As := [.int v66, .int (0 : Int32), .int x1]) (rest := []) (r1 := none) (b := 5) dX11_works_131 ok_X8_put in_X8_put se_X8_put ml_X11_169 hD69 rfl rfl (Nat.le_of_ble_eq_true rfl) (sk_5 hs65) (sn hs65 (by decide)) (by decide) rfl (by decide +kernel) hC70 ?_
    refine E_aload_n 1 dX11_works_134 rfl rfl ?_
    refine E_getR 1 dX11_works_135 fl_X11_10 rfl (sk_0 hs71) (sn hs71 (by decide)) (sr_0_0 hs71) ?_
    refine E_getR 5 dX11_works_138 fl_X11_176 rfl (sk_1 hs71) (sn hs71 (by decide)) (sr_1_3 hs71) ?_
    refine E_iload 0 dX11_works_141 rfl ?_
    refine E_iconst (1 : Int32) dX11_works_143 (by decide) ?_
    refine E_iload_n 3 dX11_works_144 rfl rfl ?_
    obtain ⟨d72, σ73, hD74, hC75, h⟩ := h
    have hs76 := hC75.1.2.2.2.1 hs71
    refine E_callV (As := [.int v66, .int (1 : Int32), .int x2]) (rest := []) (r1 := none) (b := 5) dX11_works_145 ok_X8_put in_X8_put se_X8_put ml_X11_169 hD74 rfl rfl (Nat.le_of_ble_eq_true rfl) (sk_5 hs71) (sn hs71 (by decide)) (by decide) rfl (by decide +kernel) hC75 ?_
    refine E_aload_n 1 dX11_works_148 rfl rfl ?_
    refine E_getR 1 dX11_works_149 fl_X11_10 rfl (sk_0 hs76) (sn hs76 (by decide)) (sr_0_0 hs76) ?_
    refine E_getR 5 dX11_works_152 fl_X11_176 rfl (sk_1 hs76) (sn hs76 (by decide)) (sr_1_3 hs76) ?_
    refine E_iload 0 dX11_works_155 rfl ?_
    refine E_iconst (2 : Int32) dX11_works_157 (by decide) ?_
    refine E_iload_n 4 dX11_works_158 rfl rfl ?_
    obtain ⟨d77, σ78, hD79, hC80, h⟩ := h
    have hs81 := hC80.1.2.2.2.1 hs76
    refine E_callV (As := [.int v66, .int (2 : Int32), .int x3]) (rest := []) (r1 := none) (b := 5) dX11_works_159 ok_X8_put in_X8_put se_X8_put ml_X11_169 hD79 rfl rfl (Nat.le_of_ble_eq_true rfl) (sk_5 hs76) (sn hs76 (by decide)) (by decide) rfl (by decide +kernel) hC80 ?_
    refine E_aload_n 1 dX11_works_162 rfl rfl ?_
    refine E_getR 1 dX11_works_163 fl_X11_10 rfl (sk_0 hs81) (sn hs81 (by decide)) (sr_0_0 hs81) ?_
    refine E_getR 5 dX11_works_166 fl_X11_176 rfl (sk_1 hs81) (sn hs81 (by decide)) (sr_1_3 hs81) ?_
    refine E_iload 0 dX11_works_169 rfl ?_
    refine E_iconst (3 : Int32) dX11_works_171 (by decide) ?_
    refine E_iload 5 dX11_works_172 rfl ?_
    obtain ⟨d82, σ83, hD84, hC85, h⟩ := h
    have hs86 := hC85.1.2.2.2.1 hs81
    refine E_callV (As := [.int v66, .int (3 : Int32), .int x4]) (rest := []) (r1 := none) (b := 5) dX11_works_174 ok_X8_put in_X8_put se_X8_put ml_X11_169 hD84 rfl rfl (Nat.le_of_ble_eq_true rfl) (sk_5 hs81) (sn hs81 (by decide)) (by decide) rfl (by decide +kernel) hC85 ?_
    refine E_aload_n 1 dX11_works_177 rfl rfl ?_
    refine E_getR 1 dX11_works_178 fl_X11_10 rfl (sk_0 hs86) (sn hs86 (by decide)) (sr_0_0 hs86) ?_
    refine E_getR 5 dX11_works_181 fl_X11_176 rfl (sk_1 hs86) (sn hs86 (by decide)) (sr_1_3 hs86) ?_
    refine E_iload 0 dX11_works_184 rfl ?_
    refine E_iconst (4 : Int32) dX11_works_186 (by decide) ?_
    refine E_iload 6 dX11_works_187 rfl ?_
    obtain ⟨d87, σ88, hD89, hC90, h⟩ := h
    have hs91 := hC90.1.2.2.2.1 hs86
    refine E_callV (As := [.int v66, .int (4 : Int32), .int x5]) (rest := []) (r1 := none) (b := 5) dX11_works_189 ok_X8_put in_X8_put se_X8_put ml_X11_169 hD89 rfl rfl (Nat.le_of_ble_eq_true rfl) (sk_5 hs86) (sn hs86 (by decide)) (by decide) rfl (by decide +kernel) hC90 ?_
    refine E_aload_n 1 dX11_works_192 rfl rfl ?_
    refine E_getR 1 dX11_works_193 fl_X11_10 rfl (sk_0 hs91) (sn hs91 (by decide)) (sr_0_0 hs91) ?_
    refine E_getR 5 dX11_works_196 fl_X11_176 rfl (sk_1 hs91) (sn hs91 (by decide)) (sr_1_3 hs91) ?_
    refine E_iload 0 dX11_works_199 rfl ?_
    refine E_iconst (5 : Int32) dX11_works_201 (by decide) ?_
    refine E_iload 7 dX11_works_202 rfl ?_
    obtain ⟨d92, σ93, hD94, hC95, h⟩ := h
    have hs96 := hC95.1.2.2.2.1 hs91
    refine E_callV (As := [.int v66, .int (5 : Int32), .int x6]) (rest := []) (r1 := none) (b := 5) dX11_works_204 ok_X8_put in_X8_put se_X8_put ml_X11_169 hD94 rfl rfl (Nat.le_of_ble_eq_true rfl) (sk_5 hs91) (sn hs91 (by decide)) (by decide) rfl (by decide +kernel) hC95 ?_
    refine E_aload_n 1 dX11_works_207 rfl rfl ?_
    refine E_getR 1 dX11_works_208 fl_X11_10 rfl (sk_0 hs96) (sn hs96 (by decide)) (sr_0_0 hs96) ?_
    refine E_getR 5 dX11_works_211 fl_X11_176 rfl (sk_1 hs96) (sn hs96 (by decide)) (sr_1_3 hs96) ?_
    refine E_iload 0 dX11_works_214 rfl ?_
    refine E_bipush (6 : Int32) dX11_works_216 (by decide) ?_
    refine E_iload 8 dX11_works_218 rfl ?_
    obtain ⟨d97, σ98, hD99, hC100, h⟩ := h
    have hs101 := hC100.1.2.2.2.1 hs96
    refine E_callV (As := [.int v66, .int (6 : Int32), .int x7]) (rest := []) (r1 := none) (b := 5) dX11_works_220 ok_X8_put in_X8_put se_X8_put ml_X11_169 hD99 rfl rfl (Nat.le_of_ble_eq_true rfl) (sk_5 hs96) (sn hs96 (by decide)) (by decide) rfl (by decide +kernel) hC100 ?_
    refine E_aload_n 1 dX11_works_223 rfl rfl ?_
    refine E_getR 1 dX11_works_224 fl_X11_10 rfl (sk_0 hs101) (sn hs101 (by decide)) (sr_0_0 hs101) ?_
    refine E_getR 5 dX11_works_227 fl_X11_176 rfl (sk_1 hs101) (sn hs101 (by decide)) (sr_1_3 hs101) ?_
    refine E_iload 0 dX11_works_230 rfl ?_
    refine E_bipush (7 : Int32) dX11_works_232 (by decide) ?_
    refine E_iload 9 dX11_works_234 rfl ?_
    obtain ⟨d102, σ103, hD104, hC105, h⟩ := h
    have hs106 := hC105.1.2.2.2.1 hs101
    refine E_callV (As := [.int v66, .int (7 : Int32), .int x8]) (rest := []) (r1 := none) (b := 5) dX11_works_236 ok_X8_put in_X8_put se_X8_put ml_X11_169 hD104 rfl rfl (Nat.le_of_ble_eq_true rfl) (sk_5 hs101) (sn hs101 (by decide)) (by decide) rfl (by decide +kernel) hC105 ?_
    refine E_aload_n 1 dX11_works_239 rfl rfl ?_
    refine E_dup dX11_works_240 rfl ?_
    refine E_getI dX11_works_241 fl_X11_121 rfl (sk_0 hs106) (sn hs106 (by decide)) ?_
    refine E_iconst (1 : Int32) dX11_works_244 (by decide) ?_
    refine E_iadd dX11_works_245 ?_
    refine E_putI dX11_works_246 fl_X11_121 rfl (Or.inl rfl) (sk_0 hs106) (sn hs106 (by decide)) (Or.inl (by decide)) rfl rfl ?_
    refine E_aload_n 1 dX11_works_249 rfl rfl ?_
    refine E_iload 0 dX11_works_250 rfl ?_
    obtain ⟨d107, v112, σ108, hD109, hC110, h⟩ := h
    have hs111 := hC110.1.2.2.2.1 hs106
    refine E_callV (As := [.int v66]) (rest := []) (r1 := (some (.int v112))) (b := 0) dX11_works_252 ok_X11_answer in_X11_answer se_X11_answer ml_X11_105 hD109 rfl rfl (Nat.le_of_ble_eq_true rfl) (sk_0 hs106) (sn hs106 (by decide)) (by decide) rfl (by decide +kernel) hC110 ?_
    obtain ⟨rfl, rfl⟩ := h
    exact E_iret dX11_works_255 rfl
  · rw [if_neg c] at h
    refine E_aload_n 0 dX11_works_101 rfl rfl ?_
    refine E_bipush (-5 : Int32) dX11_works_102 (by decide) ?_
    obtain ⟨d113, v118, σ114, hD115, hC116, h⟩ := h
    have hs117 := hC116.1.2.2.2.1 hs59
    refine E_callV (As := [.int (-5 : Int32)]) (rest := []) (r1 := (some (.int v118))) (b := 0) dX11_works_104 ok_X11_answer in_X11_answer se_X11_answer ml_X11_105 hD115 rfl rfl (Nat.le_of_ble_eq_true rfl) (sk_0 hs59) (sn hs59 (by decide)) (by decide) rfl (by decide +kernel) hC116 ?_
    obtain ⟨rfl, rfl⟩ := h
    exact E_iret dX11_works_107 rfl
def W_X11_works_0 (X : Sx) (l : Launch) (D : Nat) (x1 : Int32) (x2 : Int32) (x3 : Int32) (x4 : Int32) (x5 : Int32) (x6 : Int32) (x7 : Int32) (x8 : Int32) (σ : AH) (r : Option Value) (σ' : AH) : Prop := ∃ d1 : Nat, ∃ v6 : Int32, ∃ σ2 : AH, d1 + 1 ≤ D ∧ Call X l m_X11_isIn d1 [.int x1, .int (0 : Int32), .int (4 : Int32)] σ (some (.int v6)) σ2 ∧ (if v6 = 0 then W_X11_works_82 X l D σ2 r σ' else ∃ d7 : Nat, ∃ v12 : Int32, ∃ σ8 : AH, d7 + 1 ≤ D ∧ Call X l m_X11_isIn d7 [.int x2, .int (0 : Int32), .int (1000 : Int32)] σ2 (some (.int v12)) σ8 ∧ (if v12 = 0 then W_X11_works_82 X l D σ8 r σ' else ∃ d13 : Nat, ∃ v18 : Int32, ∃ σ14 : AH, d13 + 1 ≤ D ∧ Call X l m_X11_isIn d13 [.int x3, .int (0 : Int32), .int (4 : Int32)] σ8 (some (.int v18)) σ14 ∧ (if v18 = 0 then W_X11_works_82 X l D σ14 r σ' else ∃ d19 : Nat, ∃ v24 : Int32, ∃ σ20 : AH, d19 + 1 ≤ D ∧ Call X l m_X11_isIn d19 [.int x4, .int (0 : Int32), .int (1000 : Int32)] σ14 (some (.int v24)) σ20 ∧ (if v24 = 0 then W_X11_works_82 X l D σ20 r σ' else ∃ d25 : Nat, ∃ v30 : Int32, ∃ σ26 : AH, d25 + 1 ≤ D ∧ Call X l m_X11_isIn d25 [.int x5, .int (0 : Int32), .int (4 : Int32)] σ20 (some (.int v30)) σ26 ∧ (if v30 = 0 then W_X11_works_82 X l D σ26 r σ' else ∃ d31 : Nat, ∃ v36 : Int32, ∃ σ32 : AH, d31 + 1 ≤ D ∧ Call X l m_X11_isIn d31 [.int x6, .int (1 : Int32), .int (10000 : Int32)] σ26 (some (.int v36)) σ32 ∧ (if v36 = 0 then W_X11_works_82 X l D σ32 r σ' else ∃ d37 : Nat, ∃ v42 : Int32, ∃ σ38 : AH, d37 + 1 ≤ D ∧ Call X l m_X11_isIn d37 [.int x7, .int (0 : Int32), .int (100 : Int32)] σ32 (some (.int v42)) σ38 ∧ (if v42 = 0 then W_X11_works_82 X l D σ38 r σ' else ∃ d43 : Nat, ∃ v48 : Int32, ∃ σ44 : AH, d43 + 1 ≤ D ∧ Call X l m_X11_isWeek d43 [.int x8] σ38 (some (.int v48)) σ44 ∧ (if v48 = 0 then W_X11_works_82 X l D σ44 r σ' else W_X11_works_88 X l D x1 x2 x3 x4 x5 x6 x7 x8 σ44 r σ'))))))))
set_option maxRecDepth 100000 in
theorem w_X11_works_0 {X : Sx} {l : Launch} {D : Nat} {x1 : Int32} {x2 : Int32} {x3 : Int32} {x4 : Int32} {x5 : Int32} {x6 : Int32} {x7 : Int32} {x8 : Int32} {σ : AH} {r : Option Value} {σ' : AH} (hs : Sh σ) (h : W_X11_works_0 X l D x1 x2 x3 x4 x5 x6 x7 x8 σ r σ') : E X l m_X11_works D 0 [(0, .ref 0), (1, .int x1), (2, .int x2), (3, .int x3), (4, .int x4), (5, .int x5), (6, .int x6), (7, .int x7), (8, .int x8)] [] σ r σ' := by
  unfold W_X11_works_0 at h
  refine E_iload_n 1 dX11_works_0 rfl rfl ?_
  refine E_iconst (0 : Int32) dX11_works_1 (by decide) ?_
  refine E_iconst (4 : Int32) dX11_works_2 (by decide) ?_
  obtain ⟨d1, v6, σ2, hD3, hC4, h⟩ := h
  have hs5 := hC4.1.2.2.2.1 hs
  refine E_callS (As := [.int x1, .int (0 : Int32), .int (4 : Int32)]) (rest := []) (r1 := (some (.int v6))) dX11_works_3 ok_X11_isIn is_X11_isIn ml_X11_124 hD3 rfl rfl (Nat.le_of_ble_eq_true rfl) (by decide +kernel) hC4 ?_
  refine E_if_eq 82 dX11_works_6 (by decide) (fun c => ?_) (fun c => ?_)
  · rw [if_pos c] at h
    exact E_lv [0] rfl (w_X11_works_82 hs5 h)
  · rw [if_neg c] at h
    refine E_iload_n 2 dX11_works_9 rfl rfl ?_
    refine E_iconst (0 : Int32) dX11_works_10 (by decide) ?_
    refine E_sipush (1000 : Int32) dX11_works_11 (by decide) ?_
    obtain ⟨d7, v12, σ8, hD9, hC10, h⟩ := h
    have hs11 := hC10.1.2.2.2.1 hs5
    refine E_callS (As := [.int x2, .int (0 : Int32), .int (1000 : Int32)]) (rest := []) (r1 := (some (.int v12))) dX11_works_14 ok_X11_isIn is_X11_isIn ml_X11_124 hD9 rfl rfl (Nat.le_of_ble_eq_true rfl) (by decide +kernel) hC10 ?_
    refine E_if_eq 82 dX11_works_17 (by decide) (fun c => ?_) (fun c => ?_)
    · rw [if_pos c] at h
      exact E_lv [0] rfl (w_X11_works_82 hs11 h)
    · rw [if_neg c] at h
      refine E_iload_n 3 dX11_works_20 rfl rfl ?_
      refine E_iconst (0 : Int32) dX11_works_21 (by decide) ?_
      refine E_iconst (4 : Int32) dX11_works_22 (by decide) ?_
      obtain ⟨d13, v18, σ14, hD15, hC16, h⟩ := h
      have hs17 := hC16.1.2.2.2.1 hs11
      refine E_callS (As := [.int x3, .int (0 : Int32), .int (4 : Int32)]) (rest := []) (r1 := (some (.int v18))) dX11_works_23 ok_X11_isIn is_X11_isIn ml_X11_124 hD15 rfl rfl (Nat.le_of_ble_eq_true rfl) (by decide +kernel) hC16 ?_
      refine E_if_eq 82 dX11_works_26 (by decide) (fun c => ?_) (fun c => ?_)
      · rw [if_pos c] at h
        exact E_lv [0] rfl (w_X11_works_82 hs17 h)
      · rw [if_neg c] at h
        refine E_iload 4 dX11_works_29 rfl ?_
        refine E_iconst (0 : Int32) dX11_works_31 (by decide) ?_
        refine E_sipush (1000 : Int32) dX11_works_32 (by decide) ?_
        obtain ⟨d19, v24, σ20, hD21, hC22, h⟩ := h
        have hs23 := hC22.1.2.2.2.1 hs17
        refine E_callS (As := [.int x4, .int (0 : Int32), .int (1000 : Int32)]) (rest := []) (r1 := (some (.int v24))) dX11_works_35 ok_X11_isIn is_X11_isIn ml_X11_124 hD21 rfl rfl (Nat.le_of_ble_eq_true rfl) (by decide +kernel) hC22 ?_
        refine E_if_eq 82 dX11_works_38 (by decide) (fun c => ?_) (fun c => ?_)
        · rw [if_pos c] at h
          exact E_lv [0] rfl (w_X11_works_82 hs23 h)
        · rw [if_neg c] at h
          refine E_iload 5 dX11_works_41 rfl ?_
          refine E_iconst (0 : Int32) dX11_works_43 (by decide) ?_
          refine E_iconst (4 : Int32) dX11_works_44 (by decide) ?_
          obtain ⟨d25, v30, σ26, hD27, hC28, h⟩ := h
          have hs29 := hC28.1.2.2.2.1 hs23
          refine E_callS (As := [.int x5, .int (0 : Int32), .int (4 : Int32)]) (rest := []) (r1 := (some (.int v30))) dX11_works_45 ok_X11_isIn is_X11_isIn ml_X11_124 hD27 rfl rfl (Nat.le_of_ble_eq_true rfl) (by decide +kernel) hC28 ?_
          refine E_if_eq 82 dX11_works_48 (by decide) (fun c => ?_) (fun c => ?_)
          · rw [if_pos c] at h
            exact E_lv [0] rfl (w_X11_works_82 hs29 h)
          · rw [if_neg c] at h
            refine E_iload 6 dX11_works_51 rfl ?_
            refine E_iconst (1 : Int32) dX11_works_53 (by decide) ?_
            refine E_sipush (10000 : Int32) dX11_works_54 (by decide) ?_
            obtain ⟨d31, v36, σ32, hD33, hC34, h⟩ := h
            have hs35 := hC34.1.2.2.2.1 hs29
            refine E_callS (As := [.int x6, .int (1 : Int32), .int (10000 : Int32)]) (rest := []) (r1 := (some (.int v36))) dX11_works_57 ok_X11_isIn is_X11_isIn ml_X11_124 hD33 rfl rfl (Nat.le_of_ble_eq_true rfl) (by decide +kernel) hC34 ?_
            refine E_if_eq 82 dX11_works_60 (by decide) (fun c => ?_) (fun c => ?_)
            · rw [if_pos c] at h
              exact E_lv [0] rfl (w_X11_works_82 hs35 h)
            · rw [if_neg c] at h
              refine E_iload 7 dX11_works_63 rfl ?_
              refine E_iconst (0 : Int32) dX11_works_65 (by decide) ?_
              refine E_bipush (100 : Int32) dX11_works_66 (by decide) ?_
              obtain ⟨d37, v42, σ38, hD39, hC40, h⟩ := h
              have hs41 := hC40.1.2.2.2.1 hs35
              refine E_callS (As := [.int x7, .int (0 : Int32), .int (100 : Int32)]) (rest := []) (r1 := (some (.int v42))) dX11_works_68 ok_X11_isIn is_X11_isIn ml_X11_124 hD39 rfl rfl (Nat.le_of_ble_eq_true rfl) (by decide +kernel) hC40 ?_
              refine E_if_eq 82 dX11_works_71 (by decide) (fun c => ?_) (fun c => ?_)
              · rw [if_pos c] at h
                exact E_lv [0] rfl (w_X11_works_82 hs41 h)
              · rw [if_neg c] at h
                refine E_iload 8 dX11_works_74 rfl ?_
                obtain ⟨d43, v48, σ44, hD45, hC46, h⟩ := h
                have hs47 := hC46.1.2.2.2.1 hs41
                refine E_callS (As := [.int x8]) (rest := []) (r1 := (some (.int v48))) dX11_works_76 ok_X11_isWeek is_X11_isWeek ml_X11_95 hD45 rfl rfl (Nat.le_of_ble_eq_true rfl) (by decide +kernel) hC46 ?_
                refine E_if_ne 88 dX11_works_79 (by decide) (fun c => ?_) (fun c => ?_)
                · rw [if_neg c] at h
                  exact E_lv [0, 1, 2, 3, 4, 5, 6, 7, 8] rfl (w_X11_works_88 hs47 h)
                · rw [if_pos c] at h
                  exact E_lv [0] rfl (w_X11_works_82 hs47 h)
def W_X11_gangs_34 (X : Sx) (l : Launch) (D : Nat) (σ : AH) (r : Option Value) (σ' : AH) : Prop := ∃ d75 : Nat, ∃ v80 : Int32, ∃ σ76 : AH, d75 + 1 ≤ D ∧ Call X l m_X11_answer d75 [.ref 0, .int (-1 : Int32)] σ (some (.int v80)) σ76 ∧ (r = some (.int v80) ∧ σ' = σ76)
set_option maxRecDepth 100000 in
theorem w_X11_gangs_34 {X : Sx} {l : Launch} {D : Nat} {σ : AH} {r : Option Value} {σ' : AH} (hs : Sh σ) (h : W_X11_gangs_34 X l D σ r σ') : E X l m_X11_gangs D 34 [(0, .ref 0)] [] σ r σ' := by
  unfold W_X11_gangs_34 at h
  refine E_aload_n 0 dX11_gangs_34 rfl rfl ?_
  refine E_iconst (-1 : Int32) dX11_gangs_35 (by decide) ?_
  obtain ⟨d75, v80, σ76, hD77, hC78, h⟩ := h
  have hs79 := hC78.1.2.2.2.1 hs
  refine E_callV (As := [.int (-1 : Int32)]) (rest := []) (r1 := (some (.int v80))) (b := 0) dX11_gangs_36 ok_X11_answer in_X11_answer se_X11_answer ml_X11_105 hD77 rfl rfl (Nat.le_of_ble_eq_true rfl) (sk_0 hs) (sn hs (by decide)) (by decide) rfl (by decide +kernel) hC78 ?_
  obtain ⟨rfl, rfl⟩ := h
  exact E_iret dX11_gangs_39 rfl
def W_X11_gangs_0 (X : Sx) (l : Launch) (D : Nat) (x1 : Int32) (x2 : Int32) (x3 : Int32) (x4 : Int32) (σ : AH) (r : Option Value) (σ' : AH) : Prop := ∃ d1 : Nat, ∃ v6 : Int32, ∃ σ2 : AH, d1 + 1 ≤ D ∧ Call X l m_X11_isIn d1 [.int x1, .int (0 : Int32), .int (5 : Int32)] σ (some (.int v6)) σ2 ∧ (if v6 = 0 then W_X11_gangs_34 X l D σ2 r σ' else ∃ d7 : Nat, ∃ v12 : Int32, ∃ σ8 : AH, d7 + 1 ≤ D ∧ Call X l m_X11_isIn d7 [.int x2, .int (0 : Int32), .int (50 : Int32)] σ2 (some (.int v12)) σ8 ∧ (if v12 = 0 then W_X11_gangs_34 X l D σ8 r σ' else ∃ d13 : Nat, ∃ v18 : Int32, ∃ σ14 : AH, d13 + 1 ≤ D ∧ Call X l m_X11_isWeek d13 [.int x3] σ8 (some (.int v18)) σ14 ∧ (if v18 = 0 then W_X11_gangs_34 X l D σ14 r σ' else ∃ d19 : Nat, ∃ v24 : Int32, ∃ σ20 : AH, d19 + 1 ≤ D ∧ Call X l m_X11_isWeek d19 [.int x4] σ14 (some (.int v24)) σ20 ∧ (if v24 = 0 then W_X11_gangs_34 X l D σ20 r σ' else ∃ d25 : Nat, ∃ v30 : Int32, ∃ σ26 : AH, d25 + 1 ≤ D ∧ Call X l m_X8_isFull d25 [.ref 7] σ20 (some (.int v30)) σ26 ∧ (if v30 = 0 then ∃ d31 : Nat, ∃ v36 : Int32, ∃ σ32 : AH, d31 + 1 ≤ D ∧ Call X l m_X8_add d31 [.ref 7] σ26 (some (.int v36)) σ32 ∧ ∃ d37 : Nat, ∃ σ38 : AH, d37 + 1 ≤ D ∧ Call X l m_X8_put d37 [.ref 7, .int v36, .int (0 : Int32), .int x1] σ32 none σ38 ∧ ∃ d42 : Nat, ∃ σ43 : AH, d42 + 1 ≤ D ∧ Call X l m_X8_put d42 [.ref 7, .int v36, .int (1 : Int32), .int x2] σ38 none σ43 ∧ ∃ d47 : Nat, ∃ σ48 : AH, d47 + 1 ≤ D ∧ Call X l m_X8_put d47 [.ref 7, .int v36, .int (2 : Int32), .int x3] σ43 none σ48 ∧ ∃ d52 : Nat, ∃ σ53 : AH, d52 + 1 ≤ D ∧ Call X l m_X8_put d52 [.ref 7, .int v36, .int (3 : Int32), .int x4] σ48 none σ53 ∧ ∃ d57 : Nat, ∃ v62 : Int32, ∃ σ58 : AH, d57 + 1 ≤ D ∧ Call X l m_X8_rows d57 [.ref 7] (sI σ53 0 12 ((gI σ53 0 12) + (1 : Int32))) (some (.int v62)) σ58 ∧ ∃ d63 : Nat, ∃ v68 : Int32, ∃ σ64 : AH, d63 + 1 ≤ D ∧ Call X l m_X11_answer d63 [.ref 0, .int v62] σ58 (some (.int v68)) σ64 ∧ (r = some (.int v68) ∧ σ' = σ64) else ∃ d69 : Nat, ∃ v74 : Int32, ∃ σ70 : AH, d69 + 1 ≤ D ∧ Call X l m_X11_answer d69 [.ref 0, .int (-5 : Int32)] σ26 (some (.int v74)) σ70 ∧ (r = some (.int v74) ∧ σ' = σ70))))))
set_option maxRecDepth 100000 in
theorem w_X11_gangs_0 {X : Sx} {l : Launch} {D : Nat} {x1 : Int32} {x2 : Int32} {x3 : Int32} {x4 : Int32} {σ : AH} {r : Option Value} {σ' : AH} (hs : Sh σ) (h : W_X11_gangs_0 X l D x1 x2 x3 x4 σ r σ') : E X l m_X11_gangs D 0 [(0, .ref 0), (1, .int x1), (2, .int x2), (3, .int x3), (4, .int x4)] [] σ r σ' := by
  unfold W_X11_gangs_0 at h
  refine E_iload_n 1 dX11_gangs_0 rfl rfl ?_
  refine E_iconst (0 : Int32) dX11_gangs_1 (by decide) ?_
  refine E_iconst (5 : Int32) dX11_gangs_2 (by decide) ?_
  obtain ⟨d1, v6, σ2, hD3, hC4, h⟩ := h
  have hs5 := hC4.1.2.2.2.1 hs
  refine E_callS (As := [.int x1, .int (0 : Int32), .int (5 : Int32)]) (rest := []) (r1 := (some (.int v6))) dX11_gangs_3 ok_X11_isIn is_X11_isIn ml_X11_124 hD3 rfl rfl (Nat.le_of_ble_eq_true rfl) (by decide +kernel) hC4 ?_
  refine E_if_eq 34 dX11_gangs_6 (by decide) (fun c => ?_) (fun c => ?_)
  · rw [if_pos c] at h
    exact E_lv [0] rfl (w_X11_gangs_34 hs5 h)
  · rw [if_neg c] at h
    refine E_iload_n 2 dX11_gangs_9 rfl rfl ?_
    refine E_iconst (0 : Int32) dX11_gangs_10 (by decide) ?_
    refine E_bipush (50 : Int32) dX11_gangs_11 (by decide) ?_
    obtain ⟨d7, v12, σ8, hD9, hC10, h⟩ := h
    have hs11 := hC10.1.2.2.2.1 hs5
    refine E_callS (As := [.int x2, .int (0 : Int32), .int (50 : Int32)]) (rest := []) (r1 := (some (.int v12))) dX11_gangs_13 ok_X11_isIn is_X11_isIn ml_X11_124 hD9 rfl rfl (Nat.le_of_ble_eq_true rfl) (by decide +kernel) hC10 ?_
    refine E_if_eq 34 dX11_gangs_16 (by decide) (fun c => ?_) (fun c => ?_)
    · rw [if_pos c] at h
      exact E_lv [0] rfl (w_X11_gangs_34 hs11 h)
    · rw [if_neg c] at h
      refine E_iload_n 3 dX11_gangs_19 rfl rfl ?_
      obtain ⟨d13, v18, σ14, hD15, hC16, h⟩ := h
      have hs17 := hC16.1.2.2.2.1 hs11
      refine E_callS (As := [.int x3]) (rest := []) (r1 := (some (.int v18))) dX11_gangs_20 ok_X11_isWeek is_X11_isWeek ml_X11_95 hD15 rfl rfl (Nat.le_of_ble_eq_true rfl) (by decide +kernel) hC16 ?_
      refine E_if_eq 34 dX11_gangs_23 (by decide) (fun c => ?_) (fun c => ?_)
      · rw [if_pos c] at h
        exact E_lv [0] rfl (w_X11_gangs_34 hs17 h)
      · rw [if_neg c] at h
        refine E_iload 4 dX11_gangs_26 rfl ?_
        obtain ⟨d19, v24, σ20, hD21, hC22, h⟩ := h
        have hs23 := hC22.1.2.2.2.1 hs17
        refine E_callS (As := [.int x4]) (rest := []) (r1 := (some (.int v24))) dX11_gangs_28 ok_X11_isWeek is_X11_isWeek ml_X11_95 hD21 rfl rfl (Nat.le_of_ble_eq_true rfl) (by decide +kernel) hC22 ?_
        refine E_if_ne 40 dX11_gangs_31 (by decide) (fun c => ?_) (fun c => ?_)
        · rw [if_neg c] at h
          refine E_aload_n 0 dX11_gangs_40 rfl rfl ?_
          refine E_getR 1 dX11_gangs_41 fl_X11_10 rfl (sk_0 hs23) (sn hs23 (by decide)) (sr_0_0 hs23) ?_
          refine E_getR 7 dX11_gangs_44 fl_X11_179 rfl (sk_1 hs23) (sn hs23 (by decide)) (sr_1_4 hs23) ?_
          obtain ⟨d25, v30, σ26, hD27, hC28, h⟩ := h
          have hs29 := hC28.1.2.2.2.1 hs23
          refine E_callV (As := []) (rest := []) (r1 := (some (.int v30))) (b := 7) dX11_gangs_47 ok_X8_isFull in_X8_isFull se_X8_isFull ml_X11_160 hD27 rfl rfl (Nat.le_of_ble_eq_true rfl) (sk_7 hs23) (sn hs23 (by decide)) (by decide) rfl (by decide +kernel) hC28 ?_
          refine E_if_eq 60 dX11_gangs_50 (by decide) (fun c => ?_) (fun c => ?_)
          · rw [if_pos c] at h
            refine E_aload_n 0 dX11_gangs_60 rfl rfl ?_
            refine E_getR 1 dX11_gangs_61 fl_X11_10 rfl (sk_0 hs29) (sn hs29 (by decide)) (sr_0_0 hs29) ?_
            refine E_getR 7 dX11_gangs_64 fl_X11_179 rfl (sk_1 hs29) (sn hs29 (by decide)) (sr_1_4 hs29) ?_
            obtain ⟨d31, v36, σ32, hD33, hC34, h⟩ := h
            have hs35 := hC34.1.2.2.2.1 hs29
            refine E_callV (As := []) (rest := []) (r1 := (some (.int v36))) (b := 7) dX11_gangs_67 ok_X8_add in_X8_add se_X8_add ml_X11_166 hD33 rfl rfl (Nat.le_of_ble_eq_true rfl) (sk_7 hs29) (sn hs29 (by decide)) (by decide) rfl (by decide +kernel) hC34 ?_
            refine E_istore [(5, .int v36), (0, .ref 0), (1, .int x1), (2, .int x2), (3, .int x3), (4, .int x4)] dX11_gangs_70 (by decide) rfl ?_
            refine E_aload_n 1 dX11_gangs_72 rfl rfl ?_
            refine E_getR 1 dX11_gangs_73 fl_X11_10 rfl (sk_0 hs35) (sn hs35 (by decide)) (sr_0_0 hs35) ?_
            refine E_getR 7 dX11_gangs_76 fl_X11_179 rfl (sk_1 hs35) (sn hs35 (by decide)) (sr_1_4 hs35) ?_
            refine E_iload 0 dX11_gangs_79 rfl ?_
            refine E_iconst (0 : Int32) dX11_gangs_81 (by decide) ?_
            refine E_iload_n 2 dX11_gangs_82 rfl rfl ?_
            obtain ⟨d37, σ38, hD39, hC40, h⟩ := h
            have hs41 := hC40.1.2.2.2.1 hs35
            refine E_callV (As := [.int v36, .int (0 : Int32), .int x1]) (rest := []) (r1 := none) (b := 7) dX11_gangs_83 ok_X8_put in_X8_put se_X8_put ml_X11_169 hD39 rfl rfl (Nat.le_of_ble_eq_true rfl) (sk_7 hs35) (sn hs35 (by decide)) (by decide) rfl (by decide +kernel) hC40 ?_
            refine E_aload_n 1 dX11_gangs_86 rfl rfl ?_
            refine E_getR 1 dX11_gangs_87 fl_X11_10 rfl (sk_0 hs41) (sn hs41 (by decide)) (sr_0_0 hs41) ?_
            refine E_getR 7 dX11_gangs_90 fl_X11_179 rfl (sk_1 hs41) (sn hs41 (by decide)) (sr_1_4 hs41) ?_
            refine E_iload 0 dX11_gangs_93 rfl ?_
            refine E_iconst (1 : Int32) dX11_gangs_95 (by decide) ?_
            refine E_iload_n 3 dX11_gangs_96 rfl rfl ?_
            obtain ⟨d42, σ43, hD44, hC45, h⟩ := h
            have hs46 := hC45.1.2.2.2.1 hs41
            refine E_callV (As := [.int v36, .int (1 : Int32), .int x2]) (rest := []) (r1 := none) (b := 7) dX11_gangs_97 ok_X8_put in_X8_put se_X8_put ml_X11_169 hD44 rfl rfl (Nat.le_of_ble_eq_true rfl) (sk_7 hs41) (sn hs41 (by decide)) (by decide) rfl (by decide +kernel) hC45 ?_
            refine E_aload_n 1 dX11_gangs_100 rfl rfl ?_
            refine E_getR 1 dX11_gangs_101 fl_X11_10 rfl (sk_0 hs46) (sn hs46 (by decide)) (sr_0_0 hs46) ?_
            refine E_getR 7 dX11_gangs_104 fl_X11_179 rfl (sk_1 hs46) (sn hs46 (by decide)) (sr_1_4 hs46) ?_
            refine E_iload 0 dX11_gangs_107 rfl ?_
            refine E_iconst (2 : Int32) dX11_gangs_109 (by decide) ?_
            refine E_iload_n 4 dX11_gangs_110 rfl rfl ?_
            obtain ⟨d47, σ48, hD49, hC50, h⟩ := h
            have hs51 := hC50.1.2.2.2.1 hs46
            refine E_callV (As := [.int v36, .int (2 : Int32), .int x3]) (rest := []) (r1 := none) (b := 7) dX11_gangs_111 ok_X8_put in_X8_put se_X8_put ml_X11_169 hD49 rfl rfl (Nat.le_of_ble_eq_true rfl) (sk_7 hs46) (sn hs46 (by decide)) (by decide) rfl (by decide +kernel) hC50 ?_
            refine E_aload_n 1 dX11_gangs_114 rfl rfl ?_
            refine E_getR 1 dX11_gangs_115 fl_X11_10 rfl (sk_0 hs51) (sn hs51 (by decide)) (sr_0_0 hs51) ?_
            refine E_getR 7 dX11_gangs_118 fl_X11_179 rfl (sk_1 hs51) (sn hs51 (by decide)) (sr_1_4 hs51) ?_
            refine E_iload 0 dX11_gangs_121 rfl ?_
            refine E_iconst (3 : Int32) dX11_gangs_123 (by decide) ?_
            refine E_iload 5 dX11_gangs_124 rfl ?_
            obtain ⟨d52, σ53, hD54, hC55, h⟩ := h
            have hs56 := hC55.1.2.2.2.1 hs51
            refine E_callV (As := [.int v36, .int (3 : Int32), .int x4]) (rest := []) (r1 := none) (b := 7) dX11_gangs_126 ok_X8_put in_X8_put se_X8_put ml_X11_169 hD54 rfl rfl (Nat.le_of_ble_eq_true rfl) (sk_7 hs51) (sn hs51 (by decide)) (by decide) rfl (by decide +kernel) hC55 ?_
            refine E_aload_n 1 dX11_gangs_129 rfl rfl ?_
            refine E_dup dX11_gangs_130 rfl ?_
            refine E_getI dX11_gangs_131 fl_X11_121 rfl (sk_0 hs56) (sn hs56 (by decide)) ?_
            refine E_iconst (1 : Int32) dX11_gangs_134 (by decide) ?_
            refine E_iadd dX11_gangs_135 ?_
            refine E_putI dX11_gangs_136 fl_X11_121 rfl (Or.inl rfl) (sk_0 hs56) (sn hs56 (by decide)) (Or.inl (by decide)) rfl rfl ?_
            refine E_aload_n 1 dX11_gangs_139 rfl rfl ?_
            refine E_aload_n 1 dX11_gangs_140 rfl rfl ?_
            refine E_getR 1 dX11_gangs_141 fl_X11_10 rfl (sk_0 hs56) (sn hs56 (by decide)) (sr_0_0 hs56) ?_
            refine E_getR 7 dX11_gangs_144 fl_X11_179 rfl (sk_1 hs56) (sn hs56 (by decide)) (sr_1_4 hs56) ?_
            obtain ⟨d57, v62, σ58, hD59, hC60, h⟩ := h
            have hs61 := hC60.1.2.2.2.1 hs56
            refine E_callV (As := []) (rest := [.ref 0]) (r1 := (some (.int v62))) (b := 7) dX11_gangs_147 ok_X8_rows in_X8_rows se_X8_rows ml_X11_173 hD59 rfl rfl (Nat.le_of_ble_eq_true rfl) (sk_7 hs56) (sn hs56 (by decide)) (by decide) rfl (by decide +kernel) hC60 ?_
            obtain ⟨d63, v68, σ64, hD65, hC66, h⟩ := h
            have hs67 := hC66.1.2.2.2.1 hs61
            refine E_callV (As := [.int v62]) (rest := []) (r1 := (some (.int v68))) (b := 0) dX11_gangs_150 ok_X11_answer in_X11_answer se_X11_answer ml_X11_105 hD65 rfl rfl (Nat.le_of_ble_eq_true rfl) (sk_0 hs61) (sn hs61 (by decide)) (by decide) rfl (by decide +kernel) hC66 ?_
            obtain ⟨rfl, rfl⟩ := h
            exact E_iret dX11_gangs_153 rfl
          · rw [if_neg c] at h
            refine E_aload_n 0 dX11_gangs_53 rfl rfl ?_
            refine E_bipush (-5 : Int32) dX11_gangs_54 (by decide) ?_
            obtain ⟨d69, v74, σ70, hD71, hC72, h⟩ := h
            have hs73 := hC72.1.2.2.2.1 hs29
            refine E_callV (As := [.int (-5 : Int32)]) (rest := []) (r1 := (some (.int v74))) (b := 0) dX11_gangs_56 ok_X11_answer in_X11_answer se_X11_answer ml_X11_105 hD71 rfl rfl (Nat.le_of_ble_eq_true rfl) (sk_0 hs29) (sn hs29 (by decide)) (by decide) rfl (by decide +kernel) hC72 ?_
            obtain ⟨rfl, rfl⟩ := h
            exact E_iret dX11_gangs_59 rfl
        · rw [if_pos c] at h
          exact E_lv [0] rfl (w_X11_gangs_34 hs23 h)
def W_X11_plot_36 (X : Sx) (l : Launch) (D : Nat) (σ : AH) (r : Option Value) (σ' : AH) : Prop := ∃ d69 : Nat, ∃ v74 : Int32, ∃ σ70 : AH, d69 + 1 ≤ D ∧ Call X l m_X11_answer d69 [.ref 0, .int (-1 : Int32)] σ (some (.int v74)) σ70 ∧ (r = some (.int v74) ∧ σ' = σ70)
set_option maxRecDepth 100000 in
theorem w_X11_plot_36 {X : Sx} {l : Launch} {D : Nat} {σ : AH} {r : Option Value} {σ' : AH} (hs : Sh σ) (h : W_X11_plot_36 X l D σ r σ') : E X l m_X11_plot D 36 [(0, .ref 0)] [] σ r σ' := by
  unfold W_X11_plot_36 at h
  refine E_aload_n 0 dX11_plot_36 rfl rfl ?_
  refine E_iconst (-1 : Int32) dX11_plot_37 (by decide) ?_
  obtain ⟨d69, v74, σ70, hD71, hC72, h⟩ := h
  have hs73 := hC72.1.2.2.2.1 hs
  refine E_callV (As := [.int (-1 : Int32)]) (rest := []) (r1 := (some (.int v74))) (b := 0) dX11_plot_38 ok_X11_answer in_X11_answer se_X11_answer ml_X11_105 hD71 rfl rfl (Nat.le_of_ble_eq_true rfl) (sk_0 hs) (sn hs (by decide)) (by decide) rfl (by decide +kernel) hC72 ?_
  obtain ⟨rfl, rfl⟩ := h
  exact E_iret dX11_plot_41 rfl
def W_X11_plot_0 (X : Sx) (l : Launch) (D : Nat) (x1 : Int32) (x2 : Int32) (x3 : Int32) (x4 : Int32) (σ : AH) (r : Option Value) (σ' : AH) : Prop := ∃ d1 : Nat, ∃ v6 : Int32, ∃ σ2 : AH, d1 + 1 ≤ D ∧ Call X l m_X11_isIn d1 [.int x1, .int (0 : Int32), .int (5 : Int32)] σ (some (.int v6)) σ2 ∧ (if v6 = 0 then W_X11_plot_36 X l D σ2 r σ' else ∃ d7 : Nat, ∃ v12 : Int32, ∃ σ8 : AH, d7 + 1 ≤ D ∧ Call X l m_X11_isIn d7 [.int x2, .int (0 : Int32), .int (2 : Int32)] σ2 (some (.int v12)) σ8 ∧ (if v12 = 0 then W_X11_plot_36 X l D σ8 r σ' else ∃ d13 : Nat, ∃ v18 : Int32, ∃ σ14 : AH, d13 + 1 ≤ D ∧ Call X l m_X11_isIn d13 [.int x3, .int (1 : Int32), .int (6 : Int32)] σ8 (some (.int v18)) σ14 ∧ (if v18 = 0 then W_X11_plot_36 X l D σ14 r σ' else ∃ d19 : Nat, ∃ v24 : Int32, ∃ σ20 : AH, d19 + 1 ≤ D ∧ Call X l m_X11_isWeek d19 [.int x4] σ14 (some (.int v24)) σ20 ∧ (if v24 = 0 then W_X11_plot_36 X l D σ20 r σ' else ∃ d25 : Nat, ∃ v30 : Int32, ∃ σ26 : AH, d25 + 1 ≤ D ∧ Call X l m_X8_isFull d25 [.ref 9] σ20 (some (.int v30)) σ26 ∧ (if v30 = 0 then ∃ d31 : Nat, ∃ v36 : Int32, ∃ σ32 : AH, d31 + 1 ≤ D ∧ Call X l m_X8_add d31 [.ref 9] σ26 (some (.int v36)) σ32 ∧ ∃ d37 : Nat, ∃ σ38 : AH, d37 + 1 ≤ D ∧ Call X l m_X8_put d37 [.ref 9, .int v36, .int (0 : Int32), .int x1] σ32 none σ38 ∧ ∃ d42 : Nat, ∃ σ43 : AH, d42 + 1 ≤ D ∧ Call X l m_X8_put d42 [.ref 9, .int v36, .int (1 : Int32), .int x2] σ38 none σ43 ∧ ∃ d47 : Nat, ∃ σ48 : AH, d47 + 1 ≤ D ∧ Call X l m_X8_put d47 [.ref 9, .int v36, .int (2 : Int32), .int x3] σ43 none σ48 ∧ ∃ d52 : Nat, ∃ σ53 : AH, d52 + 1 ≤ D ∧ Call X l m_X8_put d52 [.ref 9, .int v36, .int (3 : Int32), .int x4] σ48 none σ53 ∧ ∃ d57 : Nat, ∃ v62 : Int32, ∃ σ58 : AH, d57 + 1 ≤ D ∧ Call X l m_X11_answer d57 [.ref 0, .int v36] (sI σ53 0 12 ((gI σ53 0 12) + (1 : Int32))) (some (.int v62)) σ58 ∧ (r = some (.int v62) ∧ σ' = σ58) else ∃ d63 : Nat, ∃ v68 : Int32, ∃ σ64 : AH, d63 + 1 ≤ D ∧ Call X l m_X11_answer d63 [.ref 0, .int (-5 : Int32)] σ26 (some (.int v68)) σ64 ∧ (r = some (.int v68) ∧ σ' = σ64))))))
set_option maxRecDepth 100000 in
theorem w_X11_plot_0 {X : Sx} {l : Launch} {D : Nat} {x1 : Int32} {x2 : Int32} {x3 : Int32} {x4 : Int32} {σ : AH} {r : Option Value} {σ' : AH} (hs : Sh σ) (h : W_X11_plot_0 X l D x1 x2 x3 x4 σ r σ') : E X l m_X11_plot D 0 [(0, .ref 0), (1, .int x1), (2, .int x2), (3, .int x3), (4, .int x4)] [] σ r σ' := by
  unfold W_X11_plot_0 at h
  refine E_iload_n 1 dX11_plot_0 rfl rfl ?_
  refine E_iconst (0 : Int32) dX11_plot_1 (by decide) ?_
  refine E_iconst (5 : Int32) dX11_plot_2 (by decide) ?_
  obtain ⟨d1, v6, σ2, hD3, hC4, h⟩ := h
  have hs5 := hC4.1.2.2.2.1 hs
  refine E_callS (As := [.int x1, .int (0 : Int32), .int (5 : Int32)]) (rest := []) (r1 := (some (.int v6))) dX11_plot_3 ok_X11_isIn is_X11_isIn ml_X11_124 hD3 rfl rfl (Nat.le_of_ble_eq_true rfl) (by decide +kernel) hC4 ?_
  refine E_if_eq 36 dX11_plot_6 (by decide) (fun c => ?_) (fun c => ?_)
  · rw [if_pos c] at h
    exact E_lv [0] rfl (w_X11_plot_36 hs5 h)
  · rw [if_neg c] at h
    refine E_iload_n 2 dX11_plot_9 rfl rfl ?_
    refine E_iconst (0 : Int32) dX11_plot_10 (by decide) ?_
    refine E_iconst (2 : Int32) dX11_plot_11 (by decide) ?_
    obtain ⟨d7, v12, σ8, hD9, hC10, h⟩ := h
    have hs11 := hC10.1.2.2.2.1 hs5
    refine E_callS (As := [.int x2, .int (0 : Int32), .int (2 : Int32)]) (rest := []) (r1 := (some (.int v12))) dX11_plot_12 ok_X11_isIn is_X11_isIn ml_X11_124 hD9 rfl rfl (Nat.le_of_ble_eq_true rfl) (by decide +kernel) hC10 ?_
    refine E_if_eq 36 dX11_plot_15 (by decide) (fun c => ?_) (fun c => ?_)
    · rw [if_pos c] at h
      exact E_lv [0] rfl (w_X11_plot_36 hs11 h)
    · rw [if_neg c] at h
      refine E_iload_n 3 dX11_plot_18 rfl rfl ?_
      refine E_iconst (1 : Int32) dX11_plot_19 (by decide) ?_
      refine E_bipush (6 : Int32) dX11_plot_20 (by decide) ?_
      obtain ⟨d13, v18, σ14, hD15, hC16, h⟩ := h
      have hs17 := hC16.1.2.2.2.1 hs11
      refine E_callS (As := [.int x3, .int (1 : Int32), .int (6 : Int32)]) (rest := []) (r1 := (some (.int v18))) dX11_plot_22 ok_X11_isIn is_X11_isIn ml_X11_124 hD15 rfl rfl (Nat.le_of_ble_eq_true rfl) (by decide +kernel) hC16 ?_
      refine E_if_eq 36 dX11_plot_25 (by decide) (fun c => ?_) (fun c => ?_)
      · rw [if_pos c] at h
        exact E_lv [0] rfl (w_X11_plot_36 hs17 h)
      · rw [if_neg c] at h
        refine E_iload 4 dX11_plot_28 rfl ?_
        obtain ⟨d19, v24, σ20, hD21, hC22, h⟩ := h
        have hs23 := hC22.1.2.2.2.1 hs17
        refine E_callS (As := [.int x4]) (rest := []) (r1 := (some (.int v24))) dX11_plot_30 ok_X11_isWeek is_X11_isWeek ml_X11_95 hD21 rfl rfl (Nat.le_of_ble_eq_true rfl) (by decide +kernel) hC22 ?_
        refine E_if_ne 42 dX11_plot_33 (by decide) (fun c => ?_) (fun c => ?_)
        · rw [if_neg c] at h
          refine E_aload_n 0 dX11_plot_42 rfl rfl ?_
          refine E_getR 1 dX11_plot_43 fl_X11_10 rfl (sk_0 hs23) (sn hs23 (by decide)) (sr_0_0 hs23) ?_
          refine E_getR 9 dX11_plot_46 fl_X11_182 rfl (sk_1 hs23) (sn hs23 (by decide)) (sr_1_5 hs23) ?_
          obtain ⟨d25, v30, σ26, hD27, hC28, h⟩ := h
          have hs29 := hC28.1.2.2.2.1 hs23
          refine E_callV (As := []) (rest := []) (r1 := (some (.int v30))) (b := 9) dX11_plot_49 ok_X8_isFull in_X8_isFull se_X8_isFull ml_X11_160 hD27 rfl rfl (Nat.le_of_ble_eq_true rfl) (sk_9 hs23) (sn hs23 (by decide)) (by decide) rfl (by decide +kernel) hC28 ?_
          refine E_if_eq 62 dX11_plot_52 (by decide) (fun c => ?_) (fun c => ?_)
          · rw [if_pos c] at h
            refine E_aload_n 0 dX11_plot_62 rfl rfl ?_
            refine E_getR 1 dX11_plot_63 fl_X11_10 rfl (sk_0 hs29) (sn hs29 (by decide)) (sr_0_0 hs29) ?_
            refine E_getR 9 dX11_plot_66 fl_X11_182 rfl (sk_1 hs29) (sn hs29 (by decide)) (sr_1_5 hs29) ?_
            obtain ⟨d31, v36, σ32, hD33, hC34, h⟩ := h
            have hs35 := hC34.1.2.2.2.1 hs29
            refine E_callV (As := []) (rest := []) (r1 := (some (.int v36))) (b := 9) dX11_plot_69 ok_X8_add in_X8_add se_X8_add ml_X11_166 hD33 rfl rfl (Nat.le_of_ble_eq_true rfl) (sk_9 hs29) (sn hs29 (by decide)) (by decide) rfl (by decide +kernel) hC34 ?_
            refine E_istore [(5, .int v36), (0, .ref 0), (1, .int x1), (2, .int x2), (3, .int x3), (4, .int x4)] dX11_plot_72 (by decide) rfl ?_
            refine E_aload_n 1 dX11_plot_74 rfl rfl ?_
            refine E_getR 1 dX11_plot_75 fl_X11_10 rfl (sk_0 hs35) (sn hs35 (by decide)) (sr_0_0 hs35) ?_
            refine E_getR 9 dX11_plot_78 fl_X11_182 rfl (sk_1 hs35) (sn hs35 (by decide)) (sr_1_5 hs35) ?_
            refine E_iload 0 dX11_plot_81 rfl ?_
            refine E_iconst (0 : Int32) dX11_plot_83 (by decide) ?_
            refine E_iload_n 2 dX11_plot_84 rfl rfl ?_
            obtain ⟨d37, σ38, hD39, hC40, h⟩ := h
            have hs41 := hC40.1.2.2.2.1 hs35
            refine E_callV (As := [.int v36, .int (0 : Int32), .int x1]) (rest := []) (r1 := none) (b := 9) dX11_plot_85 ok_X8_put in_X8_put se_X8_put ml_X11_169 hD39 rfl rfl (Nat.le_of_ble_eq_true rfl) (sk_9 hs35) (sn hs35 (by decide)) (by decide) rfl (by decide +kernel) hC40 ?_
            refine E_aload_n 1 dX11_plot_88 rfl rfl ?_
            refine E_getR 1 dX11_plot_89 fl_X11_10 rfl (sk_0 hs41) (sn hs41 (by decide)) (sr_0_0 hs41) ?_
            refine E_getR 9 dX11_plot_92 fl_X11_182 rfl (sk_1 hs41) (sn hs41 (by decide)) (sr_1_5 hs41) ?_
            refine E_iload 0 dX11_plot_95 rfl ?_
            refine E_iconst (1 : Int32) dX11_plot_97 (by decide) ?_
            refine E_iload_n 3 dX11_plot_98 rfl rfl ?_
            obtain ⟨d42, σ43, hD44, hC45, h⟩ := h
            have hs46 := hC45.1.2.2.2.1 hs41
            refine E_callV (As := [.int v36, .int (1 : Int32), .int x2]) (rest := []) (r1 := none) (b := 9) dX11_plot_99 ok_X8_put in_X8_put se_X8_put ml_X11_169 hD44 rfl rfl (Nat.le_of_ble_eq_true rfl) (sk_9 hs41) (sn hs41 (by decide)) (by decide) rfl (by decide +kernel) hC45 ?_
            refine E_aload_n 1 dX11_plot_102 rfl rfl ?_
            refine E_getR 1 dX11_plot_103 fl_X11_10 rfl (sk_0 hs46) (sn hs46 (by decide)) (sr_0_0 hs46) ?_
            refine E_getR 9 dX11_plot_106 fl_X11_182 rfl (sk_1 hs46) (sn hs46 (by decide)) (sr_1_5 hs46) ?_
            refine E_iload 0 dX11_plot_109 rfl ?_
            refine E_iconst (2 : Int32) dX11_plot_111 (by decide) ?_
            refine E_iload_n 4 dX11_plot_112 rfl rfl ?_
            obtain ⟨d47, σ48, hD49, hC50, h⟩ := h
            have hs51 := hC50.1.2.2.2.1 hs46
            refine E_callV (As := [.int v36, .int (2 : Int32), .int x3]) (rest := []) (r1 := none) (b := 9) dX11_plot_113 ok_X8_put in_X8_put se_X8_put ml_X11_169 hD49 rfl rfl (Nat.le_of_ble_eq_true rfl) (sk_9 hs46) (sn hs46 (by decide)) (by decide) rfl (by decide +kernel) hC50 ?_
            refine E_aload_n 1 dX11_plot_116 rfl rfl ?_
            refine E_getR 1 dX11_plot_117 fl_X11_10 rfl (sk_0 hs51) (sn hs51 (by decide)) (sr_0_0 hs51) ?_
            refine E_getR 9 dX11_plot_120 fl_X11_182 rfl (sk_1 hs51) (sn hs51 (by decide)) (sr_1_5 hs51) ?_
            refine E_iload 0 dX11_plot_123 rfl ?_
            refine E_iconst (3 : Int32) dX11_plot_125 (by decide) ?_
            refine E_iload 5 dX11_plot_126 rfl ?_
            obtain ⟨d52, σ53, hD54, hC55, h⟩ := h
            have hs56 := hC55.1.2.2.2.1 hs51
            refine E_callV (As := [.int v36, .int (3 : Int32), .int x4]) (rest := []) (r1 := none) (b := 9) dX11_plot_128 ok_X8_put in_X8_put se_X8_put ml_X11_169 hD54 rfl rfl (Nat.le_of_ble_eq_true rfl) (sk_9 hs51) (sn hs51 (by decide)) (by decide) rfl (by decide +kernel) hC55 ?_
            refine E_aload_n 1 dX11_plot_131 rfl rfl ?_
            refine E_dup dX11_plot_132 rfl ?_
            refine E_getI dX11_plot_133 fl_X11_121 rfl (sk_0 hs56) (sn hs56 (by decide)) ?_
            refine E_iconst (1 : Int32) dX11_plot_136 (by decide) ?_
            refine E_iadd dX11_plot_137 ?_
            refine E_putI dX11_plot_138 fl_X11_121 rfl (Or.inl rfl) (sk_0 hs56) (sn hs56 (by decide)) (Or.inl (by decide)) rfl rfl ?_
            refine E_aload_n 1 dX11_plot_141 rfl rfl ?_
            refine E_iload 0 dX11_plot_142 rfl ?_
            obtain ⟨d57, v62, σ58, hD59, hC60, h⟩ := h
            have hs61 := hC60.1.2.2.2.1 hs56
            refine E_callV (As := [.int v36]) (rest := []) (r1 := (some (.int v62))) (b := 0) dX11_plot_144 ok_X11_answer in_X11_answer se_X11_answer ml_X11_105 hD59 rfl rfl (Nat.le_of_ble_eq_true rfl) (sk_0 hs56) (sn hs56 (by decide)) (by decide) rfl (by decide +kernel) hC60 ?_
            obtain ⟨rfl, rfl⟩ := h
            exact E_iret dX11_plot_147 rfl
          · rw [if_neg c] at h
            refine E_aload_n 0 dX11_plot_55 rfl rfl ?_
            refine E_bipush (-5 : Int32) dX11_plot_56 (by decide) ?_
            obtain ⟨d63, v68, σ64, hD65, hC66, h⟩ := h
            have hs67 := hC66.1.2.2.2.1 hs29
            refine E_callV (As := [.int (-5 : Int32)]) (rest := []) (r1 := (some (.int v68))) (b := 0) dX11_plot_58 ok_X11_answer in_X11_answer se_X11_answer ml_X11_105 hD65 rfl rfl (Nat.le_of_ble_eq_true rfl) (sk_0 hs29) (sn hs29 (by decide)) (by decide) rfl (by decide +kernel) hC66 ?_
            obtain ⟨rfl, rfl⟩ := h
            exact E_iret dX11_plot_61 rfl
        · rw [if_pos c] at h
          exact E_lv [0] rfl (w_X11_plot_36 hs23 h)
def W_X11_start_14 (X : Sx) (l : Launch) (D : Nat) (σ : AH) (r : Option Value) (σ' : AH) : Prop := ∃ d82 : Nat, ∃ v87 : Int32, ∃ σ83 : AH, d82 + 1 ≤ D ∧ Call X l m_X11_answer d82 [.ref 0, .int (-1 : Int32)] σ (some (.int v87)) σ83 ∧ (r = some (.int v87) ∧ σ' = σ83)
set_option maxRecDepth 100000 in
theorem w_X11_start_14 {X : Sx} {l : Launch} {D : Nat} {σ : AH} {r : Option Value} {σ' : AH} (hs : Sh σ) (h : W_X11_start_14 X l D σ r σ') : E X l m_X11_start D 14 [(0, .ref 0)] [] σ r σ' := by
  unfold W_X11_start_14 at h
  refine E_aload_n 0 dX11_start_14 rfl rfl ?_
  refine E_iconst (-1 : Int32) dX11_start_15 (by decide) ?_
  obtain ⟨d82, v87, σ83, hD84, hC85, h⟩ := h
  have hs86 := hC85.1.2.2.2.1 hs
  refine E_callV (As := [.int (-1 : Int32)]) (rest := []) (r1 := (some (.int v87))) (b := 0) dX11_start_16 ok_X11_answer in_X11_answer se_X11_answer ml_X11_105 hD84 rfl rfl (Nat.le_of_ble_eq_true rfl) (sk_0 hs) (sn hs (by decide)) (by decide) rfl (by decide +kernel) hC85 ?_
  obtain ⟨rfl, rfl⟩ := h
  exact E_iret dX11_start_19 rfl
def W_X11_start_0 (X : Sx) (l : Launch) (D : Nat) (x1 : Int32) (x2 : Int32) (x3 : Int32) (σ : AH) (r : Option Value) (σ' : AH) : Prop := ∃ d1 : Nat, ∃ v6 : Int32, ∃ σ2 : AH, d1 + 1 ≤ D ∧ Call X l m_X11_isWeek d1 [.int x2] σ (some (.int v6)) σ2 ∧ (if v6 = 0 then W_X11_start_14 X l D σ2 r σ' else ∃ d7 : Nat, ∃ v12 : Int32, ∃ σ8 : AH, d7 + 1 ≤ D ∧ Call X l m_X11_isWeek d7 [.int x3] σ2 (some (.int v12)) σ8 ∧ (if v12 = 0 then W_X11_start_14 X l D σ8 r σ' else ∃ d13 : Nat, ∃ v18 : Int32, ∃ σ14 : AH, d13 + 1 ≤ D ∧ Call X l m_X11_isPlot d13 [.ref 0, .int x1] σ8 (some (.int v18)) σ14 ∧ (if v18 = 0 then ∃ d76 : Nat, ∃ v81 : Int32, ∃ σ77 : AH, d76 + 1 ≤ D ∧ Call X l m_X11_answer d76 [.ref 0, .int (-2 : Int32)] σ14 (some (.int v81)) σ77 ∧ (r = some (.int v81) ∧ σ' = σ77) else ∃ d19 : Nat, ∃ v24 : Int32, ∃ σ20 : AH, d19 + 1 ≤ D ∧ Call X l m_X1_isWished d19 [.ref 68, .int x1] σ14 (some (.int v24)) σ20 ∧ (if v24 = 0 then ∃ d25 : Nat, ∃ v30 : Int32, ∃ σ26 : AH, d25 + 1 ≤ D ∧ Call X l m_X8_isFull d25 [.ref 11] σ20 (some (.int v30)) σ26 ∧ (if v30 = 0 then ∃ d31 : Nat, ∃ v36 : Int32, ∃ σ32 : AH, d31 + 1 ≤ D ∧ Call X l m_X8_add d31 [.ref 11] σ26 (some (.int v36)) σ32 ∧ ∃ d37 : Nat, ∃ σ38 : AH, d37 + 1 ≤ D ∧ Call X l m_X8_put d37 [.ref 11, .int v36, .int (0 : Int32), .int x1] σ32 none σ38 ∧ ∃ d42 : Nat, ∃ σ43 : AH, d42 + 1 ≤ D ∧ Call X l m_X8_put d42 [.ref 11, .int v36, .int (1 : Int32), .int x2] σ38 none σ43 ∧ ∃ d47 : Nat, ∃ σ48 : AH, d47 + 1 ≤ D ∧ Call X l m_X8_put d47 [.ref 11, .int v36, .int (2 : Int32), .int x3] σ43 none σ48 ∧ ∃ d52 : Nat, ∃ v57 : Int32, ∃ σ53 : AH, d52 + 1 ≤ D ∧ Call X l m_X8_rows d52 [.ref 11] (sI σ48 0 12 ((gI σ48 0 12) + (1 : Int32))) (some (.int v57)) σ53 ∧ ∃ d58 : Nat, ∃ v63 : Int32, ∃ σ59 : AH, d58 + 1 ≤ D ∧ Call X l m_X11_answer d58 [.ref 0, .int v57] σ53 (some (.int v63)) σ59 ∧ (r = some (.int v63) ∧ σ' = σ59) else ∃ d64 : Nat, ∃ v69 : Int32, ∃ σ65 : AH, d64 + 1 ≤ D ∧ Call X l m_X11_answer d64 [.ref 0, .int (-5 : Int32)] σ26 (some (.int v69)) σ65 ∧ (r = some (.int v69) ∧ σ' = σ65)) else ∃ d70 : Nat, ∃ v75 : Int32, ∃ σ71 : AH, d70 + 1 ≤ D ∧ Call X l m_X11_answer d70 [.ref 0, .int (-3 : Int32)] σ20 (some (.int v75)) σ71 ∧ (r = some (.int v75) ∧ σ' = σ71)))))
set_option maxRecDepth 100000 in
theorem w_X11_start_0 {X : Sx} {l : Launch} {D : Nat} {x1 : Int32} {x2 : Int32} {x3 : Int32} {σ : AH} {r : Option Value} {σ' : AH} (hs : Sh σ) (h : W_X11_start_0 X l D x1 x2 x3 σ r σ') : E X l m_X11_start D 0 [(0, .ref 0), (1, .int x1), (2, .int x2), (3, .int x3)] [] σ r σ' := by
  unfold W_X11_start_0 at h
  refine E_iload_n 2 dX11_start_0 rfl rfl ?_
  obtain ⟨d1, v6, σ2, hD3, hC4, h⟩ := h
  have hs5 := hC4.1.2.2.2.1 hs
  refine E_callS (As := [.int x2]) (rest := []) (r1 := (some (.int v6))) dX11_start_1 ok_X11_isWeek is_X11_isWeek ml_X11_95 hD3 rfl rfl (Nat.le_of_ble_eq_true rfl) (by decide +kernel) hC4 ?_
  refine E_if_eq 14 dX11_start_4 (by decide) (fun c => ?_) (fun c => ?_)
  · rw [if_pos c] at h
    exact E_lv [0] rfl (w_X11_start_14 hs5 h)
  · rw [if_neg c] at h
    refine E_iload_n 3 dX11_start_7 rfl rfl ?_
    obtain ⟨d7, v12, σ8, hD9, hC10, h⟩ := h
    have hs11 := hC10.1.2.2.2.1 hs5
    refine E_callS (As := [.int x3]) (rest := []) (r1 := (some (.int v12))) dX11_start_8 ok_X11_isWeek is_X11_isWeek ml_X11_95 hD9 rfl rfl (Nat.le_of_ble_eq_true rfl) (by decide +kernel) hC10 ?_
    refine E_if_ne 20 dX11_start_11 (by decide) (fun c => ?_) (fun c => ?_)
    · rw [if_neg c] at h
      refine E_aload_n 0 dX11_start_20 rfl rfl ?_
      refine E_iload_n 1 dX11_start_21 rfl rfl ?_
      obtain ⟨d13, v18, σ14, hD15, hC16, h⟩ := h
      have hs17 := hC16.1.2.2.2.1 hs11
      refine E_callV (As := [.int x1]) (rest := []) (r1 := (some (.int v18))) (b := 0) dX11_start_22 ok_X11_isPlot in_X11_isPlot se_X11_isPlot ml_X11_185 hD15 rfl rfl (Nat.le_of_ble_eq_true rfl) (sk_0 hs11) (sn hs11 (by decide)) (by decide) rfl (by decide +kernel) hC16 ?_
      refine E_if_ne 35 dX11_start_25 (by decide) (fun c => ?_) (fun c => ?_)
      · rw [if_neg c] at h
        refine E_aload_n 0 dX11_start_35 rfl rfl ?_
        refine E_getR 68 dX11_start_36 fl_X11_60 rfl (sk_0 hs17) (sn hs17 (by decide)) (sr_0_7 hs17) ?_
        refine E_iload_n 1 dX11_start_39 rfl rfl ?_
        obtain ⟨d19, v24, σ20, hD21, hC22, h⟩ := h
        have hs23 := hC22.1.2.2.2.1 hs17
        refine E_callV (As := [.int x1]) (rest := []) (r1 := (some (.int v24))) (b := 68) dX11_start_40 ok_X1_isWished in_X1_isWished se_X1_isWished ml_X11_188 hD21 rfl rfl (Nat.le_of_ble_eq_true rfl) (sk_68 hs17) (sn hs17 (by decide)) (by decide) rfl (by decide +kernel) hC22 ?_
        refine E_if_eq 53 dX11_start_43 (by decide) (fun c => ?_) (fun c => ?_)
        · rw [if_pos c] at h
          refine E_aload_n 0 dX11_start_53 rfl rfl ?_
          refine E_getR 1 dX11_start_54 fl_X11_10 rfl (sk_0 hs23) (sn hs23 (by decide)) (sr_0_0 hs23) ?_
          refine E_getR 11 dX11_start_57 fl_X11_191 rfl (sk_1 hs23) (sn hs23 (by decide)) (sr_1_6 hs23) ?_
          obtain ⟨d25, v30, σ26, hD27, hC28, h⟩ := h
          have hs29 := hC28.1.2.2.2.1 hs23
          refine E_callV (As := []) (rest := []) (r1 := (some (.int v30))) (b := 11) dX11_start_60 ok_X8_isFull in_X8_isFull se_X8_isFull ml_X11_160 hD27 rfl rfl (Nat.le_of_ble_eq_true rfl) (sk_11 hs23) (sn hs23 (by decide)) (by decide) rfl (by decide +kernel) hC28 ?_
          refine E_if_eq 73 dX11_start_63 (by decide) (fun c => ?_) (fun c => ?_)
          · rw [if_pos c] at h
            refine E_aload_n 0 dX11_start_73 rfl rfl ?_
            refine E_getR 1 dX11_start_74 fl_X11_10 rfl (sk_0 hs29) (sn hs29 (by decide)) (sr_0_0 hs29) ?_
            refine E_getR 11 dX11_start_77 fl_X11_191 rfl (sk_1 hs29) (sn hs29 (by decide)) (sr_1_6 hs29) ?_
            obtain ⟨d31, v36, σ32, hD33, hC34, h⟩ := h
            have hs35 := hC34.1.2.2.2.1 hs29
            refine E_callV (As := []) (rest := []) (r1 := (some (.int v36))) (b := 11) dX11_start_80 ok_X8_add in_X8_add se_X8_add ml_X11_166 hD33 rfl rfl (Nat.le_of_ble_eq_true rfl) (sk_11 hs29) (sn hs29 (by decide)) (by decide) rfl (by decide +kernel) hC34 ?_
            refine E_istore [(4, .int v36), (0, .ref 0), (1, .int x1), (2, .int x2), (3, .int x3)] dX11_start_83 (by decide) rfl ?_
            refine E_aload_n 1 dX11_start_85 rfl rfl ?_
            refine E_getR 1 dX11_start_86 fl_X11_10 rfl (sk_0 hs35) (sn hs35 (by decide)) (sr_0_0 hs35) ?_
            refine E_getR 11 dX11_start_89 fl_X11_191 rfl (sk_1 hs35) (sn hs35 (by decide)) (sr_1_6 hs35) ?_
            refine E_iload 0 dX11_start_92 rfl ?_
            refine E_iconst (0 : Int32) dX11_start_94 (by decide) ?_
            refine E_iload_n 2 dX11_start_95 rfl rfl ?_
            obtain ⟨d37, σ38, hD39, hC40, h⟩ := h
            have hs41 := hC40.1.2.2.2.1 hs35
            refine E_callV (As := [.int v36, .int (0 : Int32), .int x1]) (rest := []) (r1 := none) (b := 11) dX11_start_96 ok_X8_put in_X8_put se_X8_put ml_X11_169 hD39 rfl rfl (Nat.le_of_ble_eq_true rfl) (sk_11 hs35) (sn hs35 (by decide)) (by decide) rfl (by decide +kernel) hC40 ?_
            refine E_aload_n 1 dX11_start_99 rfl rfl ?_
            refine E_getR 1 dX11_start_100 fl_X11_10 rfl (sk_0 hs41) (sn hs41 (by decide)) (sr_0_0 hs41) ?_
            refine E_getR 11 dX11_start_103 fl_X11_191 rfl (sk_1 hs41) (sn hs41 (by decide)) (sr_1_6 hs41) ?_
            refine E_iload 0 dX11_start_106 rfl ?_
            refine E_iconst (1 : Int32) dX11_start_108 (by decide) ?_
            refine E_iload_n 3 dX11_start_109 rfl rfl ?_
            obtain ⟨d42, σ43, hD44, hC45, h⟩ := h
            have hs46 := hC45.1.2.2.2.1 hs41
            refine E_callV (As := [.int v36, .int (1 : Int32), .int x2]) (rest := []) (r1 := none) (b := 11) dX11_start_110 ok_X8_put in_X8_put se_X8_put ml_X11_169 hD44 rfl rfl (Nat.le_of_ble_eq_true rfl) (sk_11 hs41) (sn hs41 (by decide)) (by decide) rfl (by decide +kernel) hC45 ?_
            refine E_aload_n 1 dX11_start_113 rfl rfl ?_
            refine E_getR 1 dX11_start_114 fl_X11_10 rfl (sk_0 hs46) (sn hs46 (by decide)) (sr_0_0 hs46) ?_
            refine E_getR 11 dX11_start_117 fl_X11_191 rfl (sk_1 hs46) (sn hs46 (by decide)) (sr_1_6 hs46) ?_
            refine E_iload 0 dX11_start_120 rfl ?_
            refine E_iconst (2 : Int32) dX11_start_122 (by decide) ?_
            refine E_iload_n 4 dX11_start_123 rfl rfl ?_
            obtain ⟨d47, σ48, hD49, hC50, h⟩ := h
            have hs51 := hC50.1.2.2.2.1 hs46
            refine E_callV (As := [.int v36, .int (2 : Int32), .int x3]) (rest := []) (r1 := none) (b := 11) dX11_start_124 ok_X8_put in_X8_put se_X8_put ml_X11_169 hD49 rfl rfl (Nat.le_of_ble_eq_true rfl) (sk_11 hs46) (sn hs46 (by decide)) (by decide) rfl (by decide +kernel) hC50 ?_
            refine E_aload_n 1 dX11_start_127 rfl rfl ?_
            refine E_dup dX11_start_128 rfl ?_
            refine E_getI dX11_start_129 fl_X11_121 rfl (sk_0 hs51) (sn hs51 (by decide)) ?_
            refine E_iconst (1 : Int32) dX11_start_132 (by decide) ?_
            refine E_iadd dX11_start_133 ?_
            refine E_putI dX11_start_134 fl_X11_121 rfl (Or.inl rfl) (sk_0 hs51) (sn hs51 (by decide)) (Or.inl (by decide)) rfl rfl ?_
            refine E_aload_n 1 dX11_start_137 rfl rfl ?_
            refine E_aload_n 1 dX11_start_138 rfl rfl ?_
            refine E_getR 1 dX11_start_139 fl_X11_10 rfl (sk_0 hs51) (sn hs51 (by decide)) (sr_0_0 hs51) ?_
            refine E_getR 11 dX11_start_142 fl_X11_191 rfl (sk_1 hs51) (sn hs51 (by decide)) (sr_1_6 hs51) ?_
            obtain ⟨d52, v57, σ53, hD54, hC55, h⟩ := h
            have hs56 := hC55.1.2.2.2.1 hs51
            refine E_callV (As := []) (rest := [.ref 0]) (r1 := (some (.int v57))) (b := 11) dX11_start_145 ok_X8_rows in_X8_rows se_X8_rows ml_X11_173 hD54 rfl rfl (Nat.le_of_ble_eq_true rfl) (sk_11 hs51) (sn hs51 (by decide)) (by decide) rfl (by decide +kernel) hC55 ?_
            obtain ⟨d58, v63, σ59, hD60, hC61, h⟩ := h
            have hs62 := hC61.1.2.2.2.1 hs56
            refine E_callV (As := [.int v57]) (rest := []) (r1 := (some (.int v63))) (b := 0) dX11_start_148 ok_X11_answer in_X11_answer se_X11_answer ml_X11_105 hD60 rfl rfl (Nat.le_of_ble_eq_true rfl) (sk_0 hs56) (sn hs56 (by decide)) (by decide) rfl (by decide +kernel) hC61 ?_
            obtain ⟨rfl, rfl⟩ := h
            exact E_iret dX11_start_151 rfl
          · rw [if_neg c] at h
            refine E_aload_n 0 dX11_start_66 rfl rfl ?_
            refine E_bipush (-5 : Int32) dX11_start_67 (by decide) ?_
            obtain ⟨d64, v69, σ65, hD66, hC67, h⟩ := h
            have hs68 := hC67.1.2.2.2.1 hs29
            refine E_callV (As := [.int (-5 : Int32)]) (rest := []) (r1 := (some (.int v69))) (b := 0) dX11_start_69 ok_X11_answer in_X11_answer se_X11_answer ml_X11_105 hD66 rfl rfl (Nat.le_of_ble_eq_true rfl) (sk_0 hs29) (sn hs29 (by decide)) (by decide) rfl (by decide +kernel) hC67 ?_
            obtain ⟨rfl, rfl⟩ := h
            exact E_iret dX11_start_72 rfl
        · rw [if_neg c] at h
          refine E_aload_n 0 dX11_start_46 rfl rfl ?_
          refine E_bipush (-3 : Int32) dX11_start_47 (by decide) ?_
          obtain ⟨d70, v75, σ71, hD72, hC73, h⟩ := h
          have hs74 := hC73.1.2.2.2.1 hs23
          refine E_callV (As := [.int (-3 : Int32)]) (rest := []) (r1 := (some (.int v75))) (b := 0) dX11_start_49 ok_X11_answer in_X11_answer se_X11_answer ml_X11_105 hD72 rfl rfl (Nat.le_of_ble_eq_true rfl) (sk_0 hs23) (sn hs23 (by decide)) (by decide) rfl (by decide +kernel) hC73 ?_
          obtain ⟨rfl, rfl⟩ := h
          exact E_iret dX11_start_52 rfl
      · rw [if_pos c] at h
        refine E_aload_n 0 dX11_start_28 rfl rfl ?_
        refine E_bipush (-2 : Int32) dX11_start_29 (by decide) ?_
        obtain ⟨d76, v81, σ77, hD78, hC79, h⟩ := h
        have hs80 := hC79.1.2.2.2.1 hs17
        refine E_callV (As := [.int (-2 : Int32)]) (rest := []) (r1 := (some (.int v81))) (b := 0) dX11_start_31 ok_X11_answer in_X11_answer se_X11_answer ml_X11_105 hD78 rfl rfl (Nat.le_of_ble_eq_true rfl) (sk_0 hs17) (sn hs17 (by decide)) (by decide) rfl (by decide +kernel) hC79 ?_
        obtain ⟨rfl, rfl⟩ := h
        exact E_iret dX11_start_34 rfl
    · rw [if_pos c] at h
      exact E_lv [0] rfl (w_X11_start_14 hs11 h)
def W_X11_stock_0 (X : Sx) (l : Launch) (D : Nat) (x1 : Int32) (x2 : Int32) (x3 : Int32) (x4 : Int32) (σ : AH) (r : Option Value) (σ' : AH) : Prop := ∃ d1 : Nat, ∃ v6 : Int32, ∃ σ2 : AH, d1 + 1 ≤ D ∧ Call X l m_X11_isIn d1 [.int x1, .int (0 : Int32), .int (4 : Int32)] σ (some (.int v6)) σ2 ∧ (if v6 = 0 then (r = some (.int (-1 : Int32)) ∧ σ' = σ2) else ∃ d7 : Nat, ∃ v12 : Int32, ∃ σ8 : AH, d7 + 1 ≤ D ∧ Call X l m_X11_isWeek d7 [.int x2] σ2 (some (.int v12)) σ8 ∧ (if v12 = 0 then (r = some (.int (-1 : Int32)) ∧ σ' = σ8) else ∃ d13 : Nat, ∃ v18 : Int32, ∃ σ14 : AH, d13 + 1 ≤ D ∧ Call X l m_X11_isWeek d13 [.int x3] σ8 (some (.int v18)) σ14 ∧ (if v18 = 0 then (r = some (.int (-1 : Int32)) ∧ σ' = σ14) else ∃ d19 : Nat, ∃ v24 : Int32, ∃ σ20 : AH, d19 + 1 ≤ D ∧ Call X l m_X11_isIn d19 [.int x4, .int (0 : Int32), .int (26 : Int32)] σ14 (some (.int v24)) σ20 ∧ (if v24 = 0 then (r = some (.int (-1 : Int32)) ∧ σ' = σ20) else ∃ d25 : Nat, ∃ b30 : Nat, ∃ σ26 : AH, d25 + 1 ≤ D ∧ Call X l m_X11_runFor d25 [.ref 0, .int x3, .int x4] σ20 (some (.ref b30)) σ26 ∧ b30 ∈ runIds ∧ vp_in ((x2 * (5 : Int32)) + x1) 1300 ∧ (r = some (.int (gI σ26 (b30 + 11) ((x2 * (5 : Int32)) + x1).toNatClampNeg)) ∧ σ' = σ26)))))
set_option maxRecDepth 100000 in
theorem w_X11_stock_0 {X : Sx} {l : Launch} {D : Nat} {x1 : Int32} {x2 : Int32} {x3 : Int32} {x4 : Int32} {σ : AH} {r : Option Value} {σ' : AH} (hs : Sh σ) (h : W_X11_stock_0 X l D x1 x2 x3 x4 σ r σ') : E X l m_X11_stock D 0 [(0, .ref 0), (1, .int x1), (2, .int x2), (3, .int x3), (4, .int x4)] [] σ r σ' := by
  unfold W_X11_stock_0 at h
  refine E_iload_n 1 dX11_stock_0 rfl rfl ?_
  refine E_iconst (0 : Int32) dX11_stock_1 (by decide) ?_
  refine E_iconst (4 : Int32) dX11_stock_2 (by decide) ?_
  obtain ⟨d1, v6, σ2, hD3, hC4, h⟩ := h
  have hs5 := hC4.1.2.2.2.1 hs
  refine E_callS (As := [.int x1, .int (0 : Int32), .int (4 : Int32)]) (rest := []) (r1 := (some (.int v6))) dX11_stock_3 ok_X11_isIn is_X11_isIn ml_X11_124 hD3 rfl rfl (Nat.le_of_ble_eq_true rfl) (by decide +kernel) hC4 ?_
  refine E_if_eq 34 dX11_stock_6 (by decide) (fun c => ?_) (fun c => ?_)
  · rw [if_pos c] at h
    refine E_iconst (-1 : Int32) dX11_stock_34 (by decide) ?_
    obtain ⟨rfl, rfl⟩ := h
    exact E_iret dX11_stock_35 rfl
  · rw [if_neg c] at h
    refine E_iload_n 2 dX11_stock_9 rfl rfl ?_
    obtain ⟨d7, v12, σ8, hD9, hC10, h⟩ := h
    have hs11 := hC10.1.2.2.2.1 hs5
    refine E_callS (As := [.int x2]) (rest := []) (r1 := (some (.int v12))) dX11_stock_10 ok_X11_isWeek is_X11_isWeek ml_X11_95 hD9 rfl rfl (Nat.le_of_ble_eq_true rfl) (by decide +kernel) hC10 ?_
    refine E_if_eq 34 dX11_stock_13 (by decide) (fun c => ?_) (fun c => ?_)
    · rw [if_pos c] at h
      refine E_iconst (-1 : Int32) dX11_stock_34 (by decide) ?_
      obtain ⟨rfl, rfl⟩ := h
      exact E_iret dX11_stock_35 rfl
    · rw [if_neg c] at h
      refine E_iload_n 3 dX11_stock_16 rfl rfl ?_
      obtain ⟨d13, v18, σ14, hD15, hC16, h⟩ := h
      have hs17 := hC16.1.2.2.2.1 hs11
      refine E_callS (As := [.int x3]) (rest := []) (r1 := (some (.int v18))) dX11_stock_17 ok_X11_isWeek is_X11_isWeek ml_X11_95 hD15 rfl rfl (Nat.le_of_ble_eq_true rfl) (by decide +kernel) hC16 ?_
      refine E_if_eq 34 dX11_stock_20 (by decide) (fun c => ?_) (fun c => ?_)
      · rw [if_pos c] at h
        refine E_iconst (-1 : Int32) dX11_stock_34 (by decide) ?_
        obtain ⟨rfl, rfl⟩ := h
        exact E_iret dX11_stock_35 rfl
      · rw [if_neg c] at h
        refine E_iload 4 dX11_stock_23 rfl ?_
        refine E_iconst (0 : Int32) dX11_stock_25 (by decide) ?_
        refine E_bipush (26 : Int32) dX11_stock_26 (by decide) ?_
        obtain ⟨d19, v24, σ20, hD21, hC22, h⟩ := h
        have hs23 := hC22.1.2.2.2.1 hs17
        refine E_callS (As := [.int x4, .int (0 : Int32), .int (26 : Int32)]) (rest := []) (r1 := (some (.int v24))) dX11_stock_28 ok_X11_isIn is_X11_isIn ml_X11_124 hD21 rfl rfl (Nat.le_of_ble_eq_true rfl) (by decide +kernel) hC22 ?_
        refine E_if_ne 36 dX11_stock_31 (by decide) (fun c => ?_) (fun c => ?_)
        · rw [if_neg c] at h
          refine E_aload_n 0 dX11_stock_36 rfl rfl ?_
          refine E_iload_n 3 dX11_stock_37 rfl rfl ?_
          refine E_iload 4 dX11_stock_38 rfl ?_
          obtain ⟨d25, b30, σ26, hD27, hC28, hm31, h⟩ := h
          have hs29 := hC28.1.2.2.2.1 hs23
          refine E_callV (As := [.int x3, .int x4]) (rest := []) (r1 := (some (.ref b30))) (b := 0) dX11_stock_40 ok_X11_runFor in_X11_runFor se_X11_runFor ml_X11_194 hD27 rfl rfl (Nat.le_of_ble_eq_true rfl) (sk_0 hs23) (sn hs23 (by decide)) (by decide) rfl (by decide +kernel) hC28 ?_
          refine E_getR (b30 + 11) dX11_stock_43 fl_X11_198 rfl (rn_k hs29 hm31) (rn_n hs29 hm31 (j := 0) (by decide)) (rn_r1 hs29 hm31) ?_
          refine E_iload_n 2 dX11_stock_46 rfl rfl ?_
          refine E_iconst (5 : Int32) dX11_stock_47 (by decide) ?_
          refine E_imul dX11_stock_48 ?_
          refine E_iload_n 1 dX11_stock_49 rfl rfl ?_
          refine E_iadd dX11_stock_50 ?_
          obtain ⟨g32, h⟩ := h
          refine E_iald2 (((x2 * (5 : Int32)) + x1).toNatClampNeg) dX11_stock_51 (rn_ka11 hs29 hm31) (rn_n hs29 hm31 (by decide)) g32 rfl ?_
          obtain ⟨rfl, rfl⟩ := h
          exact E_iret dX11_stock_52 rfl
        · rw [if_pos c] at h
          refine E_iconst (-1 : Int32) dX11_stock_34 (by decide) ?_
          obtain ⟨rfl, rfl⟩ := h
          exact E_iret dX11_stock_35 rfl
def W_X11_built_0 (X : Sx) (l : Launch) (D : Nat) (x1 : Int32) (x2 : Int32) (x3 : Int32) (x4 : Int32) (σ : AH) (r : Option Value) (σ' : AH) : Prop := ∃ d1 : Nat, ∃ v6 : Int32, ∃ σ2 : AH, d1 + 1 ≤ D ∧ Call X l m_X11_isPlot d1 [.ref 0, .int x1] σ (some (.int v6)) σ2 ∧ (if v6 = 0 then (r = some (.int (-1 : Int32)) ∧ σ' = σ2) else ∃ d7 : Nat, ∃ v12 : Int32, ∃ σ8 : AH, d7 + 1 ≤ D ∧ Call X l m_X11_isWeek d7 [.int x2] σ2 (some (.int v12)) σ8 ∧ (if v12 = 0 then (r = some (.int (-1 : Int32)) ∧ σ' = σ8) else ∃ d13 : Nat, ∃ v18 : Int32, ∃ σ14 : AH, d13 + 1 ≤ D ∧ Call X l m_X11_isIn d13 [.int x3, .int (0 : Int32), .int (26 : Int32)] σ8 (some (.int v18)) σ14 ∧ (if v18 = 0 then (r = some (.int (-1 : Int32)) ∧ σ' = σ14) else ∃ d19 : Nat, ∃ v24 : Int32, ∃ σ20 : AH, d19 + 1 ≤ D ∧ Call X l m_X11_isIn d19 [.int x4, .int (0 : Int32), .int (6 : Int32)] σ14 (some (.int v24)) σ20 ∧ (if v24 = 0 then (r = some (.int (-1 : Int32)) ∧ σ' = σ20) else ∃ d25 : Nat, ∃ b30 : Nat, ∃ σ26 : AH, d25 + 1 ≤ D ∧ Call X l m_X11_runFor d25 [.ref 0, .int x2, .int x3] σ20 (some (.ref b30)) σ26 ∧ b30 ∈ runIds ∧ (if x4 = (6 : Int32) then vp_in x1 30 ∧ (r = some (.int (gI σ26 ((b30 + 1) + 4) x1.toNatClampNeg)) ∧ σ' = σ26) else (if (3 : Int32) ≤ x4 then vp_in (((x1 * (3 : Int32)) + x4) - (3 : Int32)) 90 ∧ (r = some (.int (gI σ26 ((b30 + 1) + 8) (((x1 * (3 : Int32)) + x4) - (3 : Int32)).toNatClampNeg)) ∧ σ' = σ26) else vp_in ((x1 * (3 : Int32)) + x4) 90 ∧ (r = some (.int (gI σ26 ((b30 + 1) + 9) ((x1 * (3 : Int32)) + x4).toNatClampNeg)) ∧ σ' = σ26)))))))
set_option maxRecDepth 100000 in
theorem w_X11_built_0 {X : Sx} {l : Launch} {D : Nat} {x1 : Int32} {x2 : Int32} {x3 : Int32} {x4 : Int32} {σ : AH} {r : Option Value} {σ' : AH} (hs : Sh σ) (h : W_X11_built_0 X l D x1 x2 x3 x4 σ r σ') : E X l m_X11_built D 0 [(0, .ref 0), (1, .int x1), (2, .int x2), (3, .int x3), (4, .int x4)] [] σ r σ' := by
  unfold W_X11_built_0 at h
  refine E_aload_n 0 dX11_built_0 rfl rfl ?_
  refine E_iload_n 1 dX11_built_1 rfl rfl ?_
  obtain ⟨d1, v6, σ2, hD3, hC4, h⟩ := h
  have hs5 := hC4.1.2.2.2.1 hs
  refine E_callV (As := [.int x1]) (rest := []) (r1 := (some (.int v6))) (b := 0) dX11_built_2 ok_X11_isPlot in_X11_isPlot se_X11_isPlot ml_X11_185 hD3 rfl rfl (Nat.le_of_ble_eq_true rfl) (sk_0 hs) (sn hs (by decide)) (by decide) rfl (by decide +kernel) hC4 ?_
  refine E_if_eq 36 dX11_built_5 (by decide) (fun c => ?_) (fun c => ?_)
  · rw [if_pos c] at h
    refine E_iconst (-1 : Int32) dX11_built_36 (by decide) ?_
    obtain ⟨rfl, rfl⟩ := h
    exact E_iret dX11_built_37 rfl
  · rw [if_neg c] at h
    refine E_iload_n 2 dX11_built_8 rfl rfl ?_
    obtain ⟨d7, v12, σ8, hD9, hC10, h⟩ := h
    have hs11 := hC10.1.2.2.2.1 hs5
    refine E_callS (As := [.int x2]) (rest := []) (r1 := (some (.int v12))) dX11_built_9 ok_X11_isWeek is_X11_isWeek ml_X11_95 hD9 rfl rfl (Nat.le_of_ble_eq_true rfl) (by decide +kernel) hC10 ?_
    refine E_if_eq 36 dX11_built_12 (by decide) (fun c => ?_) (fun c => ?_)
    · rw [if_pos c] at h
      refine E_iconst (-1 : Int32) dX11_built_36 (by decide) ?_
      obtain ⟨rfl, rfl⟩ := h
      exact E_iret dX11_built_37 rfl
    · rw [if_neg c] at h
      refine E_iload_n 3 dX11_built_15 rfl rfl ?_
      refine E_iconst (0 : Int32) dX11_built_16 (by decide) ?_
      refine E_bipush (26 : Int32) dX11_built_17 (by decide) ?_
      obtain ⟨d13, v18, σ14, hD15, hC16, h⟩ := h
      have hs17 := hC16.1.2.2.2.1 hs11
      refine E_callS (As := [.int x3, .int (0 : Int32), .int (26 : Int32)]) (rest := []) (r1 := (some (.int v18))) dX11_built_19 ok_X11_isIn is_X11_isIn ml_X11_124 hD15 rfl rfl (Nat.le_of_ble_eq_true rfl) (by decide +kernel) hC16 ?_
      refine E_if_eq 36 dX11_built_22 (by decide) (fun c => ?_) (fun c => ?_)
      · rw [if_pos c] at h
        refine E_iconst (-1 : Int32) dX11_built_36 (by decide) ?_
        obtain ⟨rfl, rfl⟩ := h
        exact E_iret dX11_built_37 rfl
      · rw [if_neg c] at h
        refine E_iload 4 dX11_built_25 rfl ?_
        refine E_iconst (0 : Int32) dX11_built_27 (by decide) ?_
        refine E_bipush (6 : Int32) dX11_built_28 (by decide) ?_
        obtain ⟨d19, v24, σ20, hD21, hC22, h⟩ := h
        have hs23 := hC22.1.2.2.2.1 hs17
        refine E_callS (As := [.int x4, .int (0 : Int32), .int (6 : Int32)]) (rest := []) (r1 := (some (.int v24))) dX11_built_30 ok_X11_isIn is_X11_isIn ml_X11_124 hD21 rfl rfl (Nat.le_of_ble_eq_true rfl) (by decide +kernel) hC22 ?_
        refine E_if_ne 38 dX11_built_33 (by decide) (fun c => ?_) (fun c => ?_)
        · rw [if_neg c] at h
          refine E_aload_n 0 dX11_built_38 rfl rfl ?_
          refine E_iload_n 2 dX11_built_39 rfl rfl ?_
          refine E_iload_n 3 dX11_built_40 rfl rfl ?_
          obtain ⟨d25, b30, σ26, hD27, hC28, hm31, h⟩ := h
          have hs29 := hC28.1.2.2.2.1 hs23
          refine E_callV (As := [.int x2, .int x3]) (rest := []) (r1 := (some (.ref b30))) (b := 0) dX11_built_41 ok_X11_runFor in_X11_runFor se_X11_runFor ml_X11_194 hD27 rfl rfl (Nat.le_of_ble_eq_true rfl) (sk_0 hs23) (sn hs23 (by decide)) (by decide) rfl (by decide +kernel) hC28 ?_
          refine E_getR (b30 + 1) dX11_built_44 fl_X11_202 rfl (rn_k hs29 hm31) (rn_n hs29 hm31 (j := 0) (by decide)) (rn_r0 hs29 hm31) ?_
          refine E_astore [(5, .ref (b30 + 1)), (0, .ref 0), (1, .int x1), (2, .int x2), (3, .int x3), (4, .int x4)] dX11_built_47 (by decide) rfl ?_
          refine E_iload 5 dX11_built_49 rfl ?_
          refine E_bipush (6 : Int32) dX11_built_51 (by decide) ?_
          refine E_icmp_ne 64 dX11_built_53 (by decide) (fun c => ?_) (fun c => ?_)
          · rw [if_neg c] at h
            refine E_iload 5 dX11_built_64 rfl ?_
            refine E_iconst (3 : Int32) dX11_built_66 (by decide) ?_
            refine E_icmp_ge 85 dX11_built_67 (by decide) (fun c => ?_) (fun c => ?_)
            · rw [if_pos c] at h
              refine E_aload 0 dX11_built_85 rfl ?_
              refine E_getR ((b30 + 1) + 8) dX11_built_87 fl_X11_214 rfl (st_k hs29 (rn_site hm31)) (st_n hs29 (rn_site hm31) (j := 0) (by decide)) (st_r8 hs29 (rn_site hm31)) ?_
              refine E_iload_n 2 dX11_built_90 rfl rfl ?_
              refine E_iconst (3 : Int32) dX11_built_91 (by decide) ?_
              refine E_imul dX11_built_92 ?_
              refine E_iload 5 dX11_built_93 rfl ?_
              refine E_iadd dX11_built_95 ?_
              refine E_iconst (3 : Int32) dX11_built_96 (by decide) ?_
              refine E_isub dX11_built_97 ?_
              obtain ⟨g32, h⟩ := h
              refine E_iald2 ((((x1 * (3 : Int32)) + x4) - (3 : Int32)).toNatClampNeg) dX11_built_98 (st_ka8 hs29 (rn_site hm31)) (st_n hs29 (rn_site hm31) (by decide)) g32 rfl ?_
              obtain ⟨rfl, rfl⟩ := h
              exact E_iret dX11_built_99 rfl
            · rw [if_neg c] at h
              refine E_aload 0 dX11_built_70 rfl ?_
              refine E_getR ((b30 + 1) + 9) dX11_built_72 fl_X11_211 rfl (st_k hs29 (rn_site hm31)) (st_n hs29 (rn_site hm31) (j := 0) (by decide)) (st_r9 hs29 (rn_site hm31)) ?_
              refine E_iload_n 2 dX11_built_75 rfl rfl ?_
              refine E_iconst (3 : Int32) dX11_built_76 (by decide) ?_
              refine E_imul dX11_built_77 ?_
              refine E_iload 5 dX11_built_78 rfl ?_
              refine E_iadd dX11_built_80 ?_
              obtain ⟨g33, h⟩ := h
              refine E_iald2 (((x1 * (3 : Int32)) + x4).toNatClampNeg) dX11_built_81 (st_ka9 hs29 (rn_site hm31)) (st_n hs29 (rn_site hm31) (by decide)) g33 rfl ?_
              refine E_goto 99 dX11_built_82 (by decide) ?_
              obtain ⟨rfl, rfl⟩ := h
              exact E_iret dX11_built_99 rfl
          · rw [if_pos c] at h
            refine E_aload 0 dX11_built_56 rfl ?_
            refine E_getR ((b30 + 1) + 4) dX11_built_58 fl_X11_206 rfl (st_k hs29 (rn_site hm31)) (st_n hs29 (rn_site hm31) (j := 0) (by decide)) (st_r4 hs29 (rn_site hm31)) ?_
            refine E_iload_n 2 dX11_built_61 rfl rfl ?_
            obtain ⟨g34, h⟩ := h
            refine E_iald2 (x1.toNatClampNeg) dX11_built_62 (st_ka4 hs29 (rn_site hm31)) (st_n hs29 (rn_site hm31) (by decide)) g34 rfl ?_
            obtain ⟨rfl, rfl⟩ := h
            exact E_iret dX11_built_63 rfl
        · rw [if_pos c] at h
          refine E_iconst (-1 : Int32) dX11_built_36 (by decide) ?_
          obtain ⟨rfl, rfl⟩ := h
          exact E_iret dX11_built_37 rfl
def W_X11_lacks_97 (X : Sx) (l : Launch) (D : Nat) (σ : AH) (r : Option Value) (σ' : AH) : Prop := (r = some (.int (3 : Int32)) ∧ σ' = σ)
set_option maxRecDepth 100000 in
theorem w_X11_lacks_97 {X : Sx} {l : Launch} {D : Nat} {σ : AH} {r : Option Value} {σ' : AH} (hs : Sh σ) (h : W_X11_lacks_97 X l D σ r σ') : E X l m_X11_lacks D 97 [] [] σ r σ' := by
  unfold W_X11_lacks_97 at h
  refine E_iconst (3 : Int32) dX11_lacks_97 (by decide) ?_
  obtain ⟨rfl, rfl⟩ := h
  exact E_iret dX11_lacks_98 rfl
def W_X11_lacks_99 (X : Sx) (l : Launch) (D : Nat) (x1 : Int32) (x2 : Int32) (x4 : Nat) (σ : AH) (r : Option Value) (σ' : AH) : Prop := ∃ d45 : Nat, ∃ v50 : Int32, ∃ σ46 : AH, d45 + 1 ≤ D ∧ Call X l m_X7_waitsForNeeds d45 [.ref (x4 + 1), .int x1, .int x2] σ (some (.int v50)) σ46 ∧ (if v50 = 0 then (r = some (.int (5 : Int32)) ∧ σ' = σ46) else (r = some (.int (4 : Int32)) ∧ σ' = σ46))
set_option maxRecDepth 100000 in
theorem w_X11_lacks_99 {X : Sx} {l : Launch} {D : Nat} {x1 : Int32} {x2 : Int32} {x4 : Nat} {σ : AH} {r : Option Value} {σ' : AH} (hs : Sh σ) (hmx4 : x4 ∈ runIds) (h : W_X11_lacks_99 X l D x1 x2 x4 σ r σ') : E X l m_X11_lacks D 99 [(1, .int x1), (2, .int x2), (4, .ref x4)] [] σ r σ' := by
  unfold W_X11_lacks_99 at h
  refine E_aload 2 dX11_lacks_99 rfl ?_
  refine E_getR (x4 + 1) dX11_lacks_101 fl_X11_202 rfl (rn_k hs hmx4) (rn_n hs hmx4 (j := 0) (by decide)) (rn_r0 hs hmx4) ?_
  refine E_iload_n 0 dX11_lacks_104 rfl rfl ?_
  refine E_iload_n 1 dX11_lacks_105 rfl rfl ?_
  obtain ⟨d45, v50, σ46, hD47, hC48, h⟩ := h
  have hs49 := hC48.1.2.2.2.1 hs
  refine E_callV (As := [.int x1, .int x2]) (rest := []) (r1 := (some (.int v50))) (b := (x4 + 1)) dX11_lacks_106 ok_X7_waitsForNeeds in_X7_waitsForNeeds se_X7_waitsForNeeds ml_X11_226 hD47 rfl rfl (Nat.le_of_ble_eq_true rfl) (st_k hs (rn_site hmx4)) (st_n hs (rn_site hmx4) (j := 0) (by decide)) (by decide) rfl (by decide +kernel) hC48 ?_
  refine E_if_eq 116 dX11_lacks_109 (by decide) (fun c => ?_) (fun c => ?_)
  · rw [if_pos c] at h
    refine E_iconst (5 : Int32) dX11_lacks_116 (by decide) ?_
    obtain ⟨rfl, rfl⟩ := h
    exact E_iret dX11_lacks_117 rfl
  · rw [if_neg c] at h
    refine E_iconst (4 : Int32) dX11_lacks_112 (by decide) ?_
    refine E_goto 117 dX11_lacks_113 (by decide) ?_
    obtain ⟨rfl, rfl⟩ := h
    exact E_iret dX11_lacks_117 rfl
def W_X11_lacks_0 (X : Sx) (l : Launch) (D : Nat) (x1 : Int32) (x2 : Int32) (x3 : Int32) (σ : AH) (r : Option Value) (σ' : AH) : Prop := ∃ d1 : Nat, ∃ v6 : Int32, ∃ σ2 : AH, d1 + 1 ≤ D ∧ Call X l m_X11_isPlot d1 [.ref 0, .int x1] σ (some (.int v6)) σ2 ∧ (if v6 = 0 then (r = some (.int (-1 : Int32)) ∧ σ' = σ2) else ∃ d7 : Nat, ∃ v12 : Int32, ∃ σ8 : AH, d7 + 1 ≤ D ∧ Call X l m_X11_isWeek d7 [.int x2] σ2 (some (.int v12)) σ8 ∧ (if v12 = 0 then (r = some (.int (-1 : Int32)) ∧ σ' = σ8) else ∃ d13 : Nat, ∃ v18 : Int32, ∃ σ14 : AH, d13 + 1 ≤ D ∧ Call X l m_X11_isWeek d13 [.int x3] σ8 (some (.int v18)) σ14 ∧ (if v18 = 0 then (r = some (.int (-1 : Int32)) ∧ σ' = σ14) else ∃ d19 : Nat, ∃ b24 : Nat, ∃ σ20 : AH, d19 + 1 ≤ D ∧ Call X l m_X11_runFor d19 [.ref 0, .int x3, .int (0 : Int32)] σ14 (some (.ref b24)) σ20 ∧ b24 ∈ runIds ∧ ∃ d26 : Nat, ∃ v31 : Int32, ∃ σ27 : AH, d26 + 1 ≤ D ∧ Call X l m_X6_isDoneBy d26 [.ref b24, .int x1, .int x2] σ20 (some (.int v31)) σ27 ∧ (if v31 = 0 then ∃ d32 : Nat, ∃ v37 : Int32, ∃ σ33 : AH, d32 + 1 ≤ D ∧ Call X l m_X11_firstStart d32 [.ref 0, .int x1, .int x3] σ27 (some (.int v37)) σ33 ∧ (if v37 = (-1 : Int32) then (r = some (.int (1 : Int32)) ∧ σ' = σ33) else (if v37 ≤ x2 then vp_in x1 30 ∧ (if (gI σ33 ((b24 + 1) + 4) x1.toNatClampNeg) = 0 then (r = some (.int (2 : Int32)) ∧ σ' = σ33) else ∃ d39 : Nat, ∃ v44 : Int32, ∃ σ40 : AH, d39 + 1 ≤ D ∧ Call X l m_X8_at d39 [.ref 9, .int x1, .int (3 : Int32)] σ33 (some (.int v44)) σ40 ∧ (if v44 ≤ x2 then W_X11_lacks_99 X l D x1 x2 b24 σ40 r σ' else W_X11_lacks_97 X l D σ40 r σ')) else (r = some (.int (1 : Int32)) ∧ σ' = σ33))) else (r = some (.int (0 : Int32)) ∧ σ' = σ27)))))
set_option maxRecDepth 100000 in
theorem w_X11_lacks_0 {X : Sx} {l : Launch} {D : Nat} {x1 : Int32} {x2 : Int32} {x3 : Int32} {σ : AH} {r : Option Value} {σ' : AH} (hs : Sh σ) (h : W_X11_lacks_0 X l D x1 x2 x3 σ r σ') : E X l m_X11_lacks D 0 [(0, .ref 0), (1, .int x1), (2, .int x2), (3, .int x3)] [] σ r σ' := by
  unfold W_X11_lacks_0 at h
  refine E_aload_n 0 dX11_lacks_0 rfl rfl ?_
  refine E_iload_n 1 dX11_lacks_1 rfl rfl ?_
  obtain ⟨d1, v6, σ2, hD3, hC4, h⟩ := h
  have hs5 := hC4.1.2.2.2.1 hs
  refine E_callV (As := [.int x1]) (rest := []) (r1 := (some (.int v6))) (b := 0) dX11_lacks_2 ok_X11_isPlot in_X11_isPlot se_X11_isPlot ml_X11_185 hD3 rfl rfl (Nat.le_of_ble_eq_true rfl) (sk_0 hs) (sn hs (by decide)) (by decide) rfl (by decide +kernel) hC4 ?_
  refine E_if_eq 22 dX11_lacks_5 (by decide) (fun c => ?_) (fun c => ?_)
  · rw [if_pos c] at h
    refine E_iconst (-1 : Int32) dX11_lacks_22 (by decide) ?_
    obtain ⟨rfl, rfl⟩ := h
    exact E_iret dX11_lacks_23 rfl
  · rw [if_neg c] at h
    refine E_iload_n 2 dX11_lacks_8 rfl rfl ?_
    obtain ⟨d7, v12, σ8, hD9, hC10, h⟩ := h
    have hs11 := hC10.1.2.2.2.1 hs5
    refine E_callS (As := [.int x2]) (rest := []) (r1 := (some (.int v12))) dX11_lacks_9 ok_X11_isWeek is_X11_isWeek ml_X11_95 hD9 rfl rfl (Nat.le_of_ble_eq_true rfl) (by decide +kernel) hC10 ?_
    refine E_if_eq 22 dX11_lacks_12 (by decide) (fun c => ?_) (fun c => ?_)
    · rw [if_pos c] at h
      refine E_iconst (-1 : Int32) dX11_lacks_22 (by decide) ?_
      obtain ⟨rfl, rfl⟩ := h
      exact E_iret dX11_lacks_23 rfl
    · rw [if_neg c] at h
      refine E_iload_n 3 dX11_lacks_15 rfl rfl ?_
      obtain ⟨d13, v18, σ14, hD15, hC16, h⟩ := h
      have hs17 := hC16.1.2.2.2.1 hs11
      refine E_callS (As := [.int x3]) (rest := []) (r1 := (some (.int v18))) dX11_lacks_16 ok_X11_isWeek is_X11_isWeek ml_X11_95 hD15 rfl rfl (Nat.le_of_ble_eq_true rfl) (by decide +kernel) hC16 ?_
      refine E_if_ne 24 dX11_lacks_19 (by decide) (fun c => ?_) (fun c => ?_)
      · rw [if_neg c] at h
        refine E_aload_n 0 dX11_lacks_24 rfl rfl ?_
        refine E_iload_n 3 dX11_lacks_25 rfl rfl ?_
        refine E_iconst (0 : Int32) dX11_lacks_26 (by decide) ?_
        obtain ⟨d19, b24, σ20, hD21, hC22, hm25, h⟩ := h
        have hs23 := hC22.1.2.2.2.1 hs17
        refine E_callV (As := [.int x3, .int (0 : Int32)]) (rest := []) (r1 := (some (.ref b24))) (b := 0) dX11_lacks_27 ok_X11_runFor in_X11_runFor se_X11_runFor ml_X11_194 hD21 rfl rfl (Nat.le_of_ble_eq_true rfl) (sk_0 hs17) (sn hs17 (by decide)) (by decide) rfl (by decide +kernel) hC22 ?_
        refine E_astore [(4, .ref b24), (0, .ref 0), (1, .int x1), (2, .int x2), (3, .int x3)] dX11_lacks_30 (by decide) rfl ?_
        refine E_aload 0 dX11_lacks_32 rfl ?_
        refine E_iload_n 2 dX11_lacks_34 rfl rfl ?_
        refine E_iload_n 3 dX11_lacks_35 rfl rfl ?_
        obtain ⟨d26, v31, σ27, hD28, hC29, h⟩ := h
        have hs30 := hC29.1.2.2.2.1 hs23
        refine E_callV (As := [.int x1, .int x2]) (rest := []) (r1 := (some (.int v31))) (b := b24) dX11_lacks_36 ok_X6_isDoneBy in_X6_isDoneBy se_X6_isDoneBy ml_X11_217 hD28 rfl rfl (Nat.le_of_ble_eq_true rfl) (rn_k hs23 hm25) (rn_n hs23 hm25 (j := 0) (by decide)) (by decide) rfl (by decide +kernel) hC29 ?_
        refine E_if_eq 44 dX11_lacks_39 (by decide) (fun c => ?_) (fun c => ?_)
        · rw [if_pos c] at h
          refine E_aload_n 1 dX11_lacks_44 rfl rfl ?_
          refine E_iload_n 2 dX11_lacks_45 rfl rfl ?_
          refine E_iload_n 4 dX11_lacks_46 rfl rfl ?_
          obtain ⟨d32, v37, σ33, hD34, hC35, h⟩ := h
          have hs36 := hC35.1.2.2.2.1 hs30
          refine E_callV (As := [.int x1, .int x3]) (rest := []) (r1 := (some (.int v37))) (b := 0) dX11_lacks_47 ok_X11_firstStart in_X11_firstStart se_X11_firstStart ml_X11_220 hD34 rfl rfl (Nat.le_of_ble_eq_true rfl) (sk_0 hs30) (sn hs30 (by decide)) (by decide) rfl (by decide +kernel) hC35 ?_
          refine E_istore [(5, .int v37), (4, .ref b24), (0, .ref 0), (1, .int x1), (2, .int x2), (3, .int x3)] dX11_lacks_50 (by decide) rfl ?_
          refine E_iload 0 dX11_lacks_52 rfl ?_
          refine E_iconst (-1 : Int32) dX11_lacks_54 (by decide) ?_
          refine E_icmp_eq 64 dX11_lacks_55 (by decide) (fun c => ?_) (fun c => ?_)
          · rw [if_pos c] at h
            refine E_iconst (1 : Int32) dX11_lacks_64 (by decide) ?_
            obtain ⟨rfl, rfl⟩ := h
            exact E_iret dX11_lacks_65 rfl
          · rw [if_neg c] at h
            refine E_iload 0 dX11_lacks_58 rfl ?_
            refine E_iload_n 4 dX11_lacks_60 rfl rfl ?_
            refine E_icmp_le 66 dX11_lacks_61 (by decide) (fun c => ?_) (fun c => ?_)
            · rw [if_pos c] at h
              refine E_aload 1 dX11_lacks_66 rfl ?_
              refine E_getR (b24 + 1) dX11_lacks_68 fl_X11_202 rfl (rn_k hs36 hm25) (rn_n hs36 hm25 (j := 0) (by decide)) (rn_r0 hs36 hm25) ?_
              refine E_getR ((b24 + 1) + 4) dX11_lacks_71 fl_X11_206 rfl (st_k hs36 (rn_site hm25)) (st_n hs36 (rn_site hm25) (j := 0) (by decide)) (st_r4 hs36 (rn_site hm25)) ?_
              refine E_iload_n 3 dX11_lacks_74 rfl rfl ?_
              obtain ⟨g38, h⟩ := h
              refine E_iald2 (x1.toNatClampNeg) dX11_lacks_75 (st_ka4 hs36 (rn_site hm25)) (st_n hs36 (rn_site hm25) (by decide)) g38 rfl ?_
              refine E_if_ne 81 dX11_lacks_76 (by decide) (fun c => ?_) (fun c => ?_)
              · rw [if_neg c] at h
                refine E_aload_n 2 dX11_lacks_81 rfl rfl ?_
                refine E_getR 1 dX11_lacks_82 fl_X11_10 rfl (sk_0 hs36) (sn hs36 (by decide)) (sr_0_0 hs36) ?_
                refine E_getR 9 dX11_lacks_85 fl_X11_182 rfl (sk_1 hs36) (sn hs36 (by decide)) (sr_1_5 hs36) ?_
                refine E_iload_n 3 dX11_lacks_88 rfl rfl ?_
                refine E_iconst (3 : Int32) dX11_lacks_89 (by decide) ?_
                obtain ⟨d39, v44, σ40, hD41, hC42, h⟩ := h
                have hs43 := hC42.1.2.2.2.1 hs36
                refine E_callV (As := [.int x1, .int (3 : Int32)]) (rest := []) (r1 := (some (.int v44))) (b := 9) dX11_lacks_90 ok_X8_at in_X8_at se_X8_at ml_X11_223 hD41 rfl rfl (Nat.le_of_ble_eq_true rfl) (sk_9 hs36) (sn hs36 (by decide)) (by decide) rfl (by decide +kernel) hC42 ?_
                refine E_iload_n 4 dX11_lacks_93 rfl rfl ?_
                refine E_icmp_le 99 dX11_lacks_94 (by decide) (fun c => ?_) (fun c => ?_)
                · rw [if_pos c] at h
                  exact E_lv [3, 4, 1] rfl (w_X11_lacks_99 hs43 hm25 h)
                · rw [if_neg c] at h
                  exact E_lv [] rfl (w_X11_lacks_97 hs43 h)
              · rw [if_pos c] at h
                refine E_iconst (2 : Int32) dX11_lacks_79 (by decide) ?_
                obtain ⟨rfl, rfl⟩ := h
                exact E_iret dX11_lacks_80 rfl
            · rw [if_neg c] at h
              refine E_iconst (1 : Int32) dX11_lacks_64 (by decide) ?_
              obtain ⟨rfl, rfl⟩ := h
              exact E_iret dX11_lacks_65 rfl
        · rw [if_neg c] at h
          refine E_iconst (0 : Int32) dX11_lacks_42 (by decide) ?_
          obtain ⟨rfl, rfl⟩ := h
          exact E_iret dX11_lacks_43 rfl
      · rw [if_pos c] at h
        refine E_iconst (-1 : Int32) dX11_lacks_22 (by decide) ?_
        obtain ⟨rfl, rfl⟩ := h
        exact E_iret dX11_lacks_23 rfl
