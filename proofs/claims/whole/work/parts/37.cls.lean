theorem dX11_rent_0 : decode cX11_rent 0 = .ok (.aload_n 0, 1) := by decide +kernel
theorem dX11_rent_1 : decode cX11_rent 1 = .ok (.iload_n 1, 1) := by decide +kernel
theorem dX11_rent_2 : decode cX11_rent 2 = .ok (.invokevirtual 185, 3) := by decide +kernel
theorem dX11_rent_5 : decode cX11_rent 5 = .ok (.ifCond .eq 17, 3) := by decide +kernel
theorem dX11_rent_8 : decode cX11_rent 8 = .ok (.iload_n 2, 1) := by decide +kernel
theorem dX11_rent_9 : decode cX11_rent 9 = .ok (.invokestatic 95, 3) := by decide +kernel
theorem dX11_rent_12 : decode cX11_rent 12 = .ok (.ifCond .eq 10, 3) := by decide +kernel
theorem dX11_rent_15 : decode cX11_rent 15 = .ok (.iload_n 3, 1) := by decide +kernel
theorem dX11_rent_16 : decode cX11_rent 16 = .ok (.invokestatic 95, 3) := by decide +kernel
theorem dX11_rent_19 : decode cX11_rent 19 = .ok (.ifCond .ne 5, 3) := by decide +kernel
theorem dX11_rent_22 : decode cX11_rent 22 = .ok (.iconst (-1), 1) := by decide +kernel
theorem dX11_rent_23 : decode cX11_rent 23 = .ok (.ireturn, 1) := by decide +kernel
theorem dX11_rent_24 : decode cX11_rent 24 = .ok (.aload_n 0, 1) := by decide +kernel
theorem dX11_rent_25 : decode cX11_rent 25 = .ok (.iload_n 3, 1) := by decide +kernel
theorem dX11_rent_26 : decode cX11_rent 26 = .ok (.iconst 0, 1) := by decide +kernel
theorem dX11_rent_27 : decode cX11_rent 27 = .ok (.invokevirtual 194, 3) := by decide +kernel
theorem dX11_rent_30 : decode cX11_rent 30 = .ok (.astore 4, 2) := by decide +kernel
theorem dX11_rent_32 : decode cX11_rent 32 = .ok (.aload 4, 2) := by decide +kernel
theorem dX11_rent_34 : decode cX11_rent 34 = .ok (.iload_n 1, 1) := by decide +kernel
theorem dX11_rent_35 : decode cX11_rent 35 = .ok (.iload_n 2, 1) := by decide +kernel
theorem dX11_rent_36 : decode cX11_rent 36 = .ok (.invokevirtual 217, 3) := by decide +kernel
theorem dX11_rent_39 : decode cX11_rent 39 = .ok (.ifCond .eq 18, 3) := by decide +kernel
theorem dX11_rent_42 : decode cX11_rent 42 = .ok (.aload_n 0, 1) := by decide +kernel
theorem dX11_rent_43 : decode cX11_rent 43 = .ok (.getfield 76, 3) := by decide +kernel
theorem dX11_rent_46 : decode cX11_rent 46 = .ok (.iload_n 1, 1) := by decide +kernel
theorem dX11_rent_47 : decode cX11_rent 47 = .ok (.aload 4, 2) := by decide +kernel
theorem dX11_rent_49 : decode cX11_rent 49 = .ok (.iload_n 3, 1) := by decide +kernel
theorem dX11_rent_50 : decode cX11_rent 50 = .ok (.invokevirtual 382, 3) := by decide +kernel
theorem dX11_rent_53 : decode cX11_rent 53 = .ok (.iload_n 2, 1) := by decide +kernel
theorem dX11_rent_54 : decode cX11_rent 54 = .ok (.if_icmp .gt 5, 3) := by decide +kernel
theorem dX11_rent_57 : decode cX11_rent 57 = .ok (.iconst (-1), 1) := by decide +kernel
theorem dX11_rent_58 : decode cX11_rent 58 = .ok (.ireturn, 1) := by decide +kernel
theorem dX11_rent_59 : decode cX11_rent 59 = .ok (.aload_n 0, 1) := by decide +kernel
theorem dX11_rent_60 : decode cX11_rent 60 = .ok (.getfield 76, 3) := by decide +kernel
theorem dX11_rent_63 : decode cX11_rent 63 = .ok (.iload_n 1, 1) := by decide +kernel
theorem dX11_rent_64 : decode cX11_rent 64 = .ok (.iload_n 2, 1) := by decide +kernel
theorem dX11_rent_65 : decode cX11_rent 65 = .ok (.invokevirtual 353, 3) := by decide +kernel
theorem dX11_rent_68 : decode cX11_rent 68 = .ok (.istore 5, 2) := by decide +kernel
theorem dX11_rent_70 : decode cX11_rent 70 = .ok (.aload_n 0, 1) := by decide +kernel
theorem dX11_rent_71 : decode cX11_rent 71 = .ok (.getfield 32, 3) := by decide +kernel
theorem dX11_rent_74 : decode cX11_rent 74 = .ok (.iload_n 2, 1) := by decide +kernel
theorem dX11_rent_75 : decode cX11_rent 75 = .ok (.iload_n 3, 1) := by decide +kernel
theorem dX11_rent_76 : decode cX11_rent 76 = .ok (.invokevirtual 131, 3) := by decide +kernel
theorem dX11_rent_79 : decode cX11_rent 79 = .ok (.aload_n 0, 1) := by decide +kernel
theorem dX11_rent_80 : decode cX11_rent 80 = .ok (.getfield 32, 3) := by decide +kernel
theorem dX11_rent_83 : decode cX11_rent 83 = .ok (.aload_n 0, 1) := by decide +kernel
theorem dX11_rent_84 : decode cX11_rent 84 = .ok (.getfield 10, 3) := by decide +kernel
theorem dX11_rent_87 : decode cX11_rent 87 = .ok (.getfield 182, 3) := by decide +kernel
theorem dX11_rent_90 : decode cX11_rent 90 = .ok (.iload_n 1, 1) := by decide +kernel
theorem dX11_rent_91 : decode cX11_rent 91 = .ok (.iconst 2, 1) := by decide +kernel
theorem dX11_rent_92 : decode cX11_rent 92 = .ok (.invokevirtual 223, 3) := by decide +kernel
theorem dX11_rent_95 : decode cX11_rent 95 = .ok (.iload_n 2, 1) := by decide +kernel
theorem dX11_rent_96 : decode cX11_rent 96 = .ok (.invokevirtual 139, 3) := by decide +kernel
theorem dX11_rent_99 : decode cX11_rent 99 = .ok (.iload 5, 2) := by decide +kernel
theorem dX11_rent_101 : decode cX11_rent 101 = .ok (.iconst (-1), 1) := by decide +kernel
theorem dX11_rent_102 : decode cX11_rent 102 = .ok (.if_icmp .eq 24, 3) := by decide +kernel
theorem dX11_rent_105 : decode cX11_rent 105 = .ok (.aload_n 0, 1) := by decide +kernel
theorem dX11_rent_106 : decode cX11_rent 106 = .ok (.getfield 32, 3) := by decide +kernel
theorem dX11_rent_109 : decode cX11_rent 109 = .ok (.aload_n 0, 1) := by decide +kernel
theorem dX11_rent_110 : decode cX11_rent 110 = .ok (.getfield 10, 3) := by decide +kernel
theorem dX11_rent_113 : decode cX11_rent 113 = .ok (.getfield 356, 3) := by decide +kernel
theorem dX11_rent_116 : decode cX11_rent 116 = .ok (.iload 5, 2) := by decide +kernel
theorem dX11_rent_118 : decode cX11_rent 118 = .ok (.iconst 1, 1) := by decide +kernel
theorem dX11_rent_119 : decode cX11_rent 119 = .ok (.invokevirtual 223, 3) := by decide +kernel
theorem dX11_rent_122 : decode cX11_rent 122 = .ok (.iconst 0, 1) := by decide +kernel
theorem dX11_rent_123 : decode cX11_rent 123 = .ok (.invokevirtual 386, 3) := by decide +kernel
theorem dX11_rent_126 : decode cX11_rent 126 = .ok (.lconst 0, 1) := by decide +kernel
theorem dX11_rent_127 : decode cX11_rent 127 = .ok (.ldc2_w 306, 3) := by decide +kernel
theorem dX11_rent_130 : decode cX11_rent 130 = .ok (.aload_n 0, 1) := by decide +kernel
theorem dX11_rent_131 : decode cX11_rent 131 = .ok (.getfield 32, 3) := by decide +kernel
theorem dX11_rent_134 : decode cX11_rent 134 = .ok (.bipush 58, 2) := by decide +kernel
theorem dX11_rent_136 : decode cX11_rent 136 = .ok (.invokevirtual 389, 3) := by decide +kernel
theorem dX11_rent_139 : decode cX11_rent 139 = .ok (.invokestatic 312, 3) := by decide +kernel
theorem dX11_rent_142 : decode cX11_rent 142 = .ok (.invokestatic 316, 3) := by decide +kernel
theorem dX11_rent_145 : decode cX11_rent 145 = .ok (.l2i, 1) := by decide +kernel
theorem dX11_rent_146 : decode cX11_rent 146 = .ok (.ireturn, 1) := by decide +kernel
theorem dX11_lodge_0 : decode cX11_lodge 0 = .ok (.iload_n 2, 1) := by decide +kernel
theorem dX11_lodge_1 : decode cX11_lodge 1 = .ok (.iconst 1, 1) := by decide +kernel
theorem dX11_lodge_2 : decode cX11_lodge 2 = .ok (.bipush 20, 2) := by decide +kernel
theorem dX11_lodge_4 : decode cX11_lodge 4 = .ok (.invokestatic 124, 3) := by decide +kernel
theorem dX11_lodge_7 : decode cX11_lodge 7 = .ok (.ifCond .eq 24, 3) := by decide +kernel
theorem dX11_lodge_10 : decode cX11_lodge 10 = .ok (.iload_n 3, 1) := by decide +kernel
theorem dX11_lodge_11 : decode cX11_lodge 11 = .ok (.invokestatic 95, 3) := by decide +kernel
theorem dX11_lodge_14 : decode cX11_lodge 14 = .ok (.ifCond .eq 17, 3) := by decide +kernel
theorem dX11_lodge_17 : decode cX11_lodge 17 = .ok (.iload 4, 2) := by decide +kernel
theorem dX11_lodge_19 : decode cX11_lodge 19 = .ok (.invokestatic 95, 3) := by decide +kernel
theorem dX11_lodge_22 : decode cX11_lodge 22 = .ok (.ifCond .eq 9, 3) := by decide +kernel
theorem dX11_lodge_25 : decode cX11_lodge 25 = .ok (.iload 4, 2) := by decide +kernel
theorem dX11_lodge_27 : decode cX11_lodge 27 = .ok (.iload_n 3, 1) := by decide +kernel
theorem dX11_lodge_28 : decode cX11_lodge 28 = .ok (.if_icmp .ge 9, 3) := by decide +kernel
theorem dX11_lodge_31 : decode cX11_lodge 31 = .ok (.aload_n 0, 1) := by decide +kernel
theorem dX11_lodge_32 : decode cX11_lodge 32 = .ok (.iconst (-1), 1) := by decide +kernel
theorem dX11_lodge_33 : decode cX11_lodge 33 = .ok (.invokevirtual 105, 3) := by decide +kernel
theorem dX11_lodge_36 : decode cX11_lodge 36 = .ok (.ireturn, 1) := by decide +kernel
theorem dX11_lodge_37 : decode cX11_lodge 37 = .ok (.aload_n 0, 1) := by decide +kernel
theorem dX11_lodge_38 : decode cX11_lodge 38 = .ok (.iload_n 1, 1) := by decide +kernel
theorem dX11_lodge_39 : decode cX11_lodge 39 = .ok (.invokevirtual 185, 3) := by decide +kernel
theorem dX11_lodge_42 : decode cX11_lodge 42 = .ok (.ifCond .ne 10, 3) := by decide +kernel
theorem dX11_lodge_45 : decode cX11_lodge 45 = .ok (.aload_n 0, 1) := by decide +kernel
theorem dX11_lodge_46 : decode cX11_lodge 46 = .ok (.bipush (-2), 2) := by decide +kernel
theorem dX11_lodge_48 : decode cX11_lodge 48 = .ok (.invokevirtual 105, 3) := by decide +kernel
theorem dX11_lodge_51 : decode cX11_lodge 51 = .ok (.ireturn, 1) := by decide +kernel
theorem dX11_lodge_52 : decode cX11_lodge 52 = .ok (.aload_n 0, 1) := by decide +kernel
theorem dX11_lodge_53 : decode cX11_lodge 53 = .ok (.getfield 10, 3) := by decide +kernel
theorem dX11_lodge_56 : decode cX11_lodge 56 = .ok (.getfield 393, 3) := by decide +kernel
theorem dX11_lodge_59 : decode cX11_lodge 59 = .ok (.invokevirtual 160, 3) := by decide +kernel
theorem dX11_lodge_62 : decode cX11_lodge 62 = .ok (.ifCond .eq 10, 3) := by decide +kernel
theorem dX11_lodge_65 : decode cX11_lodge 65 = .ok (.aload_n 0, 1) := by decide +kernel
theorem dX11_lodge_66 : decode cX11_lodge 66 = .ok (.bipush (-5), 2) := by decide +kernel
theorem dX11_lodge_68 : decode cX11_lodge 68 = .ok (.invokevirtual 105, 3) := by decide +kernel
theorem dX11_lodge_71 : decode cX11_lodge 71 = .ok (.ireturn, 1) := by decide +kernel
theorem dX11_lodge_72 : decode cX11_lodge 72 = .ok (.aload_n 0, 1) := by decide +kernel
theorem dX11_lodge_73 : decode cX11_lodge 73 = .ok (.getfield 10, 3) := by decide +kernel
theorem dX11_lodge_76 : decode cX11_lodge 76 = .ok (.getfield 393, 3) := by decide +kernel
theorem dX11_lodge_79 : decode cX11_lodge 79 = .ok (.invokevirtual 166, 3) := by decide +kernel
theorem dX11_lodge_82 : decode cX11_lodge 82 = .ok (.istore 5, 2) := by decide +kernel
theorem dX11_lodge_84 : decode cX11_lodge 84 = .ok (.aload_n 0, 1) := by decide +kernel
theorem dX11_lodge_85 : decode cX11_lodge 85 = .ok (.getfield 10, 3) := by decide +kernel
theorem dX11_lodge_88 : decode cX11_lodge 88 = .ok (.getfield 393, 3) := by decide +kernel
theorem dX11_lodge_91 : decode cX11_lodge 91 = .ok (.iload 5, 2) := by decide +kernel
theorem dX11_lodge_93 : decode cX11_lodge 93 = .ok (.iconst 0, 1) := by decide +kernel
theorem dX11_lodge_94 : decode cX11_lodge 94 = .ok (.iload_n 1, 1) := by decide +kernel
theorem dX11_lodge_95 : decode cX11_lodge 95 = .ok (.invokevirtual 169, 3) := by decide +kernel
theorem dX11_lodge_98 : decode cX11_lodge 98 = .ok (.aload_n 0, 1) := by decide +kernel
theorem dX11_lodge_99 : decode cX11_lodge 99 = .ok (.getfield 10, 3) := by decide +kernel
theorem dX11_lodge_102 : decode cX11_lodge 102 = .ok (.getfield 393, 3) := by decide +kernel
theorem dX11_lodge_105 : decode cX11_lodge 105 = .ok (.iload 5, 2) := by decide +kernel
theorem dX11_lodge_107 : decode cX11_lodge 107 = .ok (.iconst 1, 1) := by decide +kernel
theorem dX11_lodge_108 : decode cX11_lodge 108 = .ok (.iload_n 2, 1) := by decide +kernel
theorem dX11_lodge_109 : decode cX11_lodge 109 = .ok (.invokevirtual 169, 3) := by decide +kernel
theorem dX11_lodge_112 : decode cX11_lodge 112 = .ok (.aload_n 0, 1) := by decide +kernel
theorem dX11_lodge_113 : decode cX11_lodge 113 = .ok (.getfield 10, 3) := by decide +kernel
theorem dX11_lodge_116 : decode cX11_lodge 116 = .ok (.getfield 393, 3) := by decide +kernel
theorem dX11_lodge_119 : decode cX11_lodge 119 = .ok (.iload 5, 2) := by decide +kernel
theorem dX11_lodge_121 : decode cX11_lodge 121 = .ok (.iconst 2, 1) := by decide +kernel
theorem dX11_lodge_122 : decode cX11_lodge 122 = .ok (.iload_n 3, 1) := by decide +kernel
theorem dX11_lodge_123 : decode cX11_lodge 123 = .ok (.invokevirtual 169, 3) := by decide +kernel
theorem dX11_lodge_126 : decode cX11_lodge 126 = .ok (.aload_n 0, 1) := by decide +kernel
theorem dX11_lodge_127 : decode cX11_lodge 127 = .ok (.getfield 10, 3) := by decide +kernel
theorem dX11_lodge_130 : decode cX11_lodge 130 = .ok (.getfield 393, 3) := by decide +kernel
theorem dX11_lodge_133 : decode cX11_lodge 133 = .ok (.iload 5, 2) := by decide +kernel
theorem dX11_lodge_135 : decode cX11_lodge 135 = .ok (.iconst 3, 1) := by decide +kernel
theorem dX11_lodge_136 : decode cX11_lodge 136 = .ok (.iload 4, 2) := by decide +kernel
theorem dX11_lodge_138 : decode cX11_lodge 138 = .ok (.invokevirtual 169, 3) := by decide +kernel
theorem dX11_lodge_141 : decode cX11_lodge 141 = .ok (.aload_n 0, 1) := by decide +kernel
theorem dX11_lodge_142 : decode cX11_lodge 142 = .ok (.aload_n 0, 1) := by decide +kernel
theorem dX11_lodge_143 : decode cX11_lodge 143 = .ok (.getfield 10, 3) := by decide +kernel
theorem dX11_lodge_146 : decode cX11_lodge 146 = .ok (.getfield 393, 3) := by decide +kernel
theorem dX11_lodge_149 : decode cX11_lodge 149 = .ok (.invokevirtual 173, 3) := by decide +kernel
theorem dX11_lodge_152 : decode cX11_lodge 152 = .ok (.invokevirtual 105, 3) := by decide +kernel
theorem dX11_lodge_155 : decode cX11_lodge 155 = .ok (.ireturn, 1) := by decide +kernel
theorem dX11_under_0 : decode cX11_under 0 = .ok (.aload_n 0, 1) := by decide +kernel
theorem dX11_under_1 : decode cX11_under 1 = .ok (.iload_n 1, 1) := by decide +kernel
theorem dX11_under_2 : decode cX11_under 2 = .ok (.invokevirtual 185, 3) := by decide +kernel
theorem dX11_under_5 : decode cX11_under 5 = .ok (.ifCond .eq 10, 3) := by decide +kernel
theorem dX11_under_8 : decode cX11_under 8 = .ok (.iload_n 2, 1) := by decide +kernel
theorem dX11_under_9 : decode cX11_under 9 = .ok (.invokestatic 95, 3) := by decide +kernel
theorem dX11_under_12 : decode cX11_under 12 = .ok (.ifCond .ne 5, 3) := by decide +kernel
theorem dX11_under_15 : decode cX11_under 15 = .ok (.iconst (-1), 1) := by decide +kernel
theorem dX11_under_16 : decode cX11_under 16 = .ok (.ireturn, 1) := by decide +kernel
theorem dX11_under_17 : decode cX11_under 17 = .ok (.aload_n 0, 1) := by decide +kernel
theorem dX11_under_18 : decode cX11_under 18 = .ok (.getfield 76, 3) := by decide +kernel
theorem dX11_under_21 : decode cX11_under 21 = .ok (.iload_n 1, 1) := by decide +kernel
theorem dX11_under_22 : decode cX11_under 22 = .ok (.iload_n 2, 1) := by decide +kernel
theorem dX11_under_23 : decode cX11_under 23 = .ok (.invokevirtual 353, 3) := by decide +kernel
theorem dX11_under_26 : decode cX11_under 26 = .ok (.istore_n 3, 1) := by decide +kernel
theorem dX11_under_27 : decode cX11_under 27 = .ok (.iload_n 3, 1) := by decide +kernel
theorem dX11_under_28 : decode cX11_under 28 = .ok (.iconst (-1), 1) := by decide +kernel
theorem dX11_under_29 : decode cX11_under 29 = .ok (.if_icmp .ne 7, 3) := by decide +kernel
theorem dX11_under_32 : decode cX11_under 32 = .ok (.iconst 0, 1) := by decide +kernel
theorem dX11_under_33 : decode cX11_under 33 = .ok (.goto 26, 3) := by decide +kernel
theorem dX11_under_36 : decode cX11_under 36 = .ok (.aload_n 0, 1) := by decide +kernel
theorem dX11_under_37 : decode cX11_under 37 = .ok (.getfield 10, 3) := by decide +kernel
theorem dX11_under_40 : decode cX11_under 40 = .ok (.getfield 286, 3) := by decide +kernel
theorem dX11_under_43 : decode cX11_under 43 = .ok (.aload_n 0, 1) := by decide +kernel
theorem dX11_under_44 : decode cX11_under 44 = .ok (.getfield 10, 3) := by decide +kernel
theorem dX11_under_47 : decode cX11_under 47 = .ok (.getfield 356, 3) := by decide +kernel
theorem dX11_under_50 : decode cX11_under 50 = .ok (.iload_n 3, 1) := by decide +kernel
theorem dX11_under_51 : decode cX11_under 51 = .ok (.iconst 1, 1) := by decide +kernel
theorem dX11_under_52 : decode cX11_under 52 = .ok (.invokevirtual 223, 3) := by decide +kernel
theorem dX11_under_55 : decode cX11_under 55 = .ok (.iconst 2, 1) := by decide +kernel
theorem dX11_under_56 : decode cX11_under 56 = .ok (.invokevirtual 223, 3) := by decide +kernel
theorem dX11_under_59 : decode cX11_under 59 = .ok (.istore 4, 2) := by decide +kernel
theorem dX11_under_61 : decode cX11_under 61 = .ok (.iconst 0, 1) := by decide +kernel
theorem dX11_under_62 : decode cX11_under 62 = .ok (.istore 5, 2) := by decide +kernel
theorem dX11_under_64 : decode cX11_under 64 = .ok (.iload 5, 2) := by decide +kernel
theorem dX11_under_66 : decode cX11_under 66 = .ok (.aload_n 0, 1) := by decide +kernel
theorem dX11_under_67 : decode cX11_under 67 = .ok (.getfield 10, 3) := by decide +kernel
theorem dX11_under_70 : decode cX11_under 70 = .ok (.getfield 393, 3) := by decide +kernel
theorem dX11_under_73 : decode cX11_under 73 = .ok (.invokevirtual 173, 3) := by decide +kernel
theorem dX11_under_76 : decode cX11_under 76 = .ok (.if_icmp .ge 78, 3) := by decide +kernel
theorem dX11_under_79 : decode cX11_under 79 = .ok (.aload_n 0, 1) := by decide +kernel
theorem dX11_under_80 : decode cX11_under 80 = .ok (.getfield 10, 3) := by decide +kernel
theorem dX11_under_83 : decode cX11_under 83 = .ok (.getfield 393, 3) := by decide +kernel
theorem dX11_under_86 : decode cX11_under 86 = .ok (.iload 5, 2) := by decide +kernel
theorem dX11_under_88 : decode cX11_under 88 = .ok (.iconst 0, 1) := by decide +kernel
theorem dX11_under_89 : decode cX11_under 89 = .ok (.invokevirtual 223, 3) := by decide +kernel
theorem dX11_under_92 : decode cX11_under 92 = .ok (.iload_n 1, 1) := by decide +kernel
theorem dX11_under_93 : decode cX11_under 93 = .ok (.if_icmp .ne 55, 3) := by decide +kernel
theorem dX11_under_96 : decode cX11_under 96 = .ok (.aload_n 0, 1) := by decide +kernel
theorem dX11_under_97 : decode cX11_under 97 = .ok (.getfield 10, 3) := by decide +kernel
theorem dX11_under_100 : decode cX11_under 100 = .ok (.getfield 393, 3) := by decide +kernel
theorem dX11_under_103 : decode cX11_under 103 = .ok (.iload 5, 2) := by decide +kernel
theorem dX11_under_105 : decode cX11_under 105 = .ok (.iconst 2, 1) := by decide +kernel
theorem dX11_under_106 : decode cX11_under 106 = .ok (.invokevirtual 223, 3) := by decide +kernel
theorem dX11_under_109 : decode cX11_under 109 = .ok (.iload_n 2, 1) := by decide +kernel
theorem dX11_under_110 : decode cX11_under 110 = .ok (.if_icmp .gt 38, 3) := by decide +kernel
theorem dX11_under_113 : decode cX11_under 113 = .ok (.aload_n 0, 1) := by decide +kernel
theorem dX11_under_114 : decode cX11_under 114 = .ok (.getfield 10, 3) := by decide +kernel
theorem dX11_under_117 : decode cX11_under 117 = .ok (.getfield 393, 3) := by decide +kernel
theorem dX11_under_120 : decode cX11_under 120 = .ok (.iload 5, 2) := by decide +kernel
theorem dX11_under_122 : decode cX11_under 122 = .ok (.iconst 3, 1) := by decide +kernel
theorem dX11_under_123 : decode cX11_under 123 = .ok (.invokevirtual 223, 3) := by decide +kernel
theorem dX11_under_126 : decode cX11_under 126 = .ok (.iload_n 2, 1) := by decide +kernel
theorem dX11_under_127 : decode cX11_under 127 = .ok (.if_icmp .lt 21, 3) := by decide +kernel
theorem dX11_under_130 : decode cX11_under 130 = .ok (.iload 4, 2) := by decide +kernel
theorem dX11_under_132 : decode cX11_under 132 = .ok (.aload_n 0, 1) := by decide +kernel
theorem dX11_under_133 : decode cX11_under 133 = .ok (.getfield 10, 3) := by decide +kernel
theorem dX11_under_136 : decode cX11_under 136 = .ok (.getfield 393, 3) := by decide +kernel
theorem dX11_under_139 : decode cX11_under 139 = .ok (.iload 5, 2) := by decide +kernel
theorem dX11_under_141 : decode cX11_under 141 = .ok (.iconst 1, 1) := by decide +kernel
theorem dX11_under_142 : decode cX11_under 142 = .ok (.invokevirtual 223, 3) := by decide +kernel
theorem dX11_under_145 : decode cX11_under 145 = .ok (.iadd, 1) := by decide +kernel
theorem dX11_under_146 : decode cX11_under 146 = .ok (.istore 4, 2) := by decide +kernel
theorem dX11_under_148 : decode cX11_under 148 = .ok (.iinc 5 1, 3) := by decide +kernel
theorem dX11_under_151 : decode cX11_under 151 = .ok (.goto (-87), 3) := by decide +kernel
theorem dX11_under_154 : decode cX11_under 154 = .ok (.iload 4, 2) := by decide +kernel
theorem dX11_under_156 : decode cX11_under 156 = .ok (.ireturn, 1) := by decide +kernel
theorem dX11_target_0 : decode cX11_target 0 = .ok (.iload_n 1, 1) := by decide +kernel
theorem dX11_target_1 : decode cX11_target 1 = .ok (.iload_n 2, 1) := by decide +kernel
theorem dX11_target_2 : decode cX11_target 2 = .ok (.invokestatic 396, 3) := by decide +kernel
theorem dX11_target_5 : decode cX11_target 5 = .ok (.ifCond .eq 14, 3) := by decide +kernel
theorem dX11_target_8 : decode cX11_target 8 = .ok (.iload_n 3, 1) := by decide +kernel
theorem dX11_target_9 : decode cX11_target 9 = .ok (.iconst 0, 1) := by decide +kernel
theorem dX11_target_10 : decode cX11_target 10 = .ok (.sipush 10000, 3) := by decide +kernel
theorem dX11_target_13 : decode cX11_target 13 = .ok (.invokestatic 124, 3) := by decide +kernel
theorem dX11_target_16 : decode cX11_target 16 = .ok (.ifCond .ne 9, 3) := by decide +kernel
theorem dX11_target_19 : decode cX11_target 19 = .ok (.aload_n 0, 1) := by decide +kernel
theorem dX11_target_20 : decode cX11_target 20 = .ok (.iconst (-1), 1) := by decide +kernel
theorem dX11_target_21 : decode cX11_target 21 = .ok (.invokevirtual 105, 3) := by decide +kernel
theorem dX11_target_24 : decode cX11_target 24 = .ok (.ireturn, 1) := by decide +kernel
theorem dX11_target_25 : decode cX11_target 25 = .ok (.aload_n 0, 1) := by decide +kernel
theorem dX11_target_26 : decode cX11_target 26 = .ok (.getfield 10, 3) := by decide +kernel
theorem dX11_target_29 : decode cX11_target 29 = .ok (.getfield 399, 3) := by decide +kernel
theorem dX11_target_32 : decode cX11_target 32 = .ok (.iload_n 1, 1) := by decide +kernel
theorem dX11_target_33 : decode cX11_target 33 = .ok (.bipush 20, 2) := by decide +kernel
theorem dX11_target_35 : decode cX11_target 35 = .ok (.imul, 1) := by decide +kernel
theorem dX11_target_36 : decode cX11_target 36 = .ok (.iload_n 2, 1) := by decide +kernel
theorem dX11_target_37 : decode cX11_target 37 = .ok (.iadd, 1) := by decide +kernel
theorem dX11_target_38 : decode cX11_target 38 = .ok (.iload_n 3, 1) := by decide +kernel
theorem dX11_target_39 : decode cX11_target 39 = .ok (.iconst 1, 1) := by decide +kernel
theorem dX11_target_40 : decode cX11_target 40 = .ok (.iadd, 1) := by decide +kernel
theorem dX11_target_41 : decode cX11_target 41 = .ok (.iastore, 1) := by decide +kernel
theorem dX11_target_42 : decode cX11_target 42 = .ok (.aload_n 0, 1) := by decide +kernel
theorem dX11_target_43 : decode cX11_target 43 = .ok (.iconst 0, 1) := by decide +kernel
theorem dX11_target_44 : decode cX11_target 44 = .ok (.invokevirtual 105, 3) := by decide +kernel
theorem dX11_target_47 : decode cX11_target 47 = .ok (.ireturn, 1) := by decide +kernel
theorem dX11_claim_0 : decode cX11_claim 0 = .ok (.iload_n 1, 1) := by decide +kernel
theorem dX11_claim_1 : decode cX11_claim 1 = .ok (.iload_n 2, 1) := by decide +kernel
theorem dX11_claim_2 : decode cX11_claim 2 = .ok (.invokestatic 396, 3) := by decide +kernel
theorem dX11_claim_5 : decode cX11_claim 5 = .ok (.ifCond .eq 25, 3) := by decide +kernel
theorem dX11_claim_8 : decode cX11_claim 8 = .ok (.iload_n 3, 1) := by decide +kernel
theorem dX11_claim_9 : decode cX11_claim 9 = .ok (.iconst 0, 1) := by decide +kernel
theorem dX11_claim_10 : decode cX11_claim 10 = .ok (.bipush 19, 2) := by decide +kernel
theorem dX11_claim_12 : decode cX11_claim 12 = .ok (.invokestatic 124, 3) := by decide +kernel
theorem dX11_claim_15 : decode cX11_claim 15 = .ok (.ifCond .eq 15, 3) := by decide +kernel
theorem dX11_claim_18 : decode cX11_claim 18 = .ok (.iload 4, 2) := by decide +kernel
theorem dX11_claim_20 : decode cX11_claim 20 = .ok (.iconst 0, 1) := by decide +kernel
theorem dX11_claim_21 : decode cX11_claim 21 = .ok (.sipush 1000, 3) := by decide +kernel
theorem dX11_claim_24 : decode cX11_claim 24 = .ok (.invokestatic 124, 3) := by decide +kernel
theorem dX11_claim_27 : decode cX11_claim 27 = .ok (.ifCond .ne 9, 3) := by decide +kernel
theorem dX11_claim_30 : decode cX11_claim 30 = .ok (.aload_n 0, 1) := by decide +kernel
theorem dX11_claim_31 : decode cX11_claim 31 = .ok (.iconst (-1), 1) := by decide +kernel
theorem dX11_claim_32 : decode cX11_claim 32 = .ok (.invokevirtual 105, 3) := by decide +kernel
theorem dX11_claim_35 : decode cX11_claim 35 = .ok (.ireturn, 1) := by decide +kernel
theorem dX11_claim_36 : decode cX11_claim 36 = .ok (.aload_n 0, 1) := by decide +kernel
theorem dX11_claim_37 : decode cX11_claim 37 = .ok (.getfield 10, 3) := by decide +kernel
theorem dX11_claim_40 : decode cX11_claim 40 = .ok (.iload_n 1, 1) := by decide +kernel
theorem dX11_claim_41 : decode cX11_claim 41 = .ok (.bipush 20, 2) := by decide +kernel
theorem dX11_claim_43 : decode cX11_claim 43 = .ok (.imul, 1) := by decide +kernel
theorem dX11_claim_44 : decode cX11_claim 44 = .ok (.iload_n 2, 1) := by decide +kernel
theorem dX11_claim_45 : decode cX11_claim 45 = .ok (.iadd, 1) := by decide +kernel
theorem dX11_claim_46 : decode cX11_claim 46 = .ok (.bipush 20, 2) := by decide +kernel
theorem dX11_claim_48 : decode cX11_claim 48 = .ok (.imul, 1) := by decide +kernel
theorem dX11_claim_49 : decode cX11_claim 49 = .ok (.iload_n 3, 1) := by decide +kernel
theorem dX11_claim_50 : decode cX11_claim 50 = .ok (.iadd, 1) := by decide +kernel
theorem dX11_claim_51 : decode cX11_claim 51 = .ok (.iload 4, 2) := by decide +kernel
theorem dX11_claim_53 : decode cX11_claim 53 = .ok (.invokevirtual 402, 3) := by decide +kernel
theorem dX11_claim_56 : decode cX11_claim 56 = .ok (.aload_n 0, 1) := by decide +kernel
theorem dX11_claim_57 : decode cX11_claim 57 = .ok (.iconst 0, 1) := by decide +kernel
theorem dX11_claim_58 : decode cX11_claim 58 = .ok (.invokevirtual 105, 3) := by decide +kernel
theorem dX11_claim_61 : decode cX11_claim 61 = .ok (.ireturn, 1) := by decide +kernel
theorem dX11_look_0 : decode cX11_look 0 = .ok (.iload_n 1, 1) := by decide +kernel
theorem dX11_look_1 : decode cX11_look 1 = .ok (.iload_n 2, 1) := by decide +kernel
theorem dX11_look_2 : decode cX11_look 2 = .ok (.invokestatic 396, 3) := by decide +kernel
theorem dX11_look_5 : decode cX11_look 5 = .ok (.ifCond .eq 25, 3) := by decide +kernel
theorem dX11_look_8 : decode cX11_look 8 = .ok (.iload_n 3, 1) := by decide +kernel
theorem dX11_look_9 : decode cX11_look 9 = .ok (.iconst 0, 1) := by decide +kernel
theorem dX11_look_10 : decode cX11_look 10 = .ok (.bipush 19, 2) := by decide +kernel
theorem dX11_look_12 : decode cX11_look 12 = .ok (.invokestatic 124, 3) := by decide +kernel
theorem dX11_look_15 : decode cX11_look 15 = .ok (.ifCond .eq 15, 3) := by decide +kernel
theorem dX11_look_18 : decode cX11_look 18 = .ok (.iload 4, 2) := by decide +kernel
theorem dX11_look_20 : decode cX11_look 20 = .ok (.iconst 0, 1) := by decide +kernel
theorem dX11_look_21 : decode cX11_look 21 = .ok (.sipush 1000, 3) := by decide +kernel
theorem dX11_look_24 : decode cX11_look 24 = .ok (.invokestatic 124, 3) := by decide +kernel
theorem dX11_look_27 : decode cX11_look 27 = .ok (.ifCond .ne 9, 3) := by decide +kernel
theorem dX11_look_30 : decode cX11_look 30 = .ok (.aload_n 0, 1) := by decide +kernel
theorem dX11_look_31 : decode cX11_look 31 = .ok (.iconst (-1), 1) := by decide +kernel
theorem dX11_look_32 : decode cX11_look 32 = .ok (.invokevirtual 105, 3) := by decide +kernel
theorem dX11_look_35 : decode cX11_look 35 = .ok (.ireturn, 1) := by decide +kernel
theorem dX11_look_36 : decode cX11_look 36 = .ok (.aload_n 0, 1) := by decide +kernel
theorem dX11_look_37 : decode cX11_look 37 = .ok (.getfield 10, 3) := by decide +kernel
theorem dX11_look_40 : decode cX11_look 40 = .ok (.iload_n 1, 1) := by decide +kernel
theorem dX11_look_41 : decode cX11_look 41 = .ok (.bipush 20, 2) := by decide +kernel
theorem dX11_look_43 : decode cX11_look 43 = .ok (.imul, 1) := by decide +kernel
theorem dX11_look_44 : decode cX11_look 44 = .ok (.iload_n 2, 1) := by decide +kernel
theorem dX11_look_45 : decode cX11_look 45 = .ok (.iadd, 1) := by decide +kernel
theorem dX11_look_46 : decode cX11_look 46 = .ok (.bipush 20, 2) := by decide +kernel
theorem dX11_look_48 : decode cX11_look 48 = .ok (.imul, 1) := by decide +kernel
theorem dX11_look_49 : decode cX11_look 49 = .ok (.iload_n 3, 1) := by decide +kernel
theorem dX11_look_50 : decode cX11_look 50 = .ok (.iadd, 1) := by decide +kernel
theorem dX11_look_51 : decode cX11_look 51 = .ok (.iload 4, 2) := by decide +kernel
theorem dX11_look_53 : decode cX11_look 53 = .ok (.invokevirtual 405, 3) := by decide +kernel
theorem dX11_look_56 : decode cX11_look 56 = .ok (.aload_n 0, 1) := by decide +kernel
theorem dX11_look_57 : decode cX11_look 57 = .ok (.iconst 0, 1) := by decide +kernel
theorem dX11_look_58 : decode cX11_look 58 = .ok (.invokevirtual 105, 3) := by decide +kernel
theorem dX11_look_61 : decode cX11_look 61 = .ok (.ireturn, 1) := by decide +kernel
theorem dX11_truth_0 : decode cX11_truth 0 = .ok (.iload_n 1, 1) := by decide +kernel
theorem dX11_truth_1 : decode cX11_truth 1 = .ok (.iload_n 2, 1) := by decide +kernel
theorem dX11_truth_2 : decode cX11_truth 2 = .ok (.invokestatic 396, 3) := by decide +kernel
theorem dX11_truth_5 : decode cX11_truth 5 = .ok (.ifCond .eq 12, 3) := by decide +kernel
theorem dX11_truth_8 : decode cX11_truth 8 = .ok (.iload_n 3, 1) := by decide +kernel
theorem dX11_truth_9 : decode cX11_truth 9 = .ok (.iconst 0, 1) := by decide +kernel
theorem dX11_truth_10 : decode cX11_truth 10 = .ok (.iconst 4, 1) := by decide +kernel
theorem dX11_truth_11 : decode cX11_truth 11 = .ok (.invokestatic 124, 3) := by decide +kernel
theorem dX11_truth_14 : decode cX11_truth 14 = .ok (.ifCond .ne 5, 3) := by decide +kernel
theorem dX11_truth_17 : decode cX11_truth 17 = .ok (.iconst (-1), 1) := by decide +kernel
theorem dX11_truth_18 : decode cX11_truth 18 = .ok (.ireturn, 1) := by decide +kernel
theorem dX11_truth_19 : decode cX11_truth 19 = .ok (.iload_n 1, 1) := by decide +kernel
theorem dX11_truth_20 : decode cX11_truth 20 = .ok (.bipush 20, 2) := by decide +kernel
theorem dX11_truth_22 : decode cX11_truth 22 = .ok (.imul, 1) := by decide +kernel
theorem dX11_truth_23 : decode cX11_truth 23 = .ok (.iload_n 2, 1) := by decide +kernel
theorem dX11_truth_24 : decode cX11_truth 24 = .ok (.iadd, 1) := by decide +kernel
theorem dX11_truth_25 : decode cX11_truth 25 = .ok (.istore 4, 2) := by decide +kernel
theorem dX11_truth_27 : decode cX11_truth 27 = .ok (.iconst 0, 1) := by decide +kernel
theorem dX11_truth_28 : decode cX11_truth 28 = .ok (.istore 5, 2) := by decide +kernel
theorem dX11_truth_30 : decode cX11_truth 30 = .ok (.iconst 0, 1) := by decide +kernel
theorem dX11_truth_31 : decode cX11_truth 31 = .ok (.istore 6, 2) := by decide +kernel
theorem dX11_truth_33 : decode cX11_truth 33 = .ok (.iconst 0, 1) := by decide +kernel
theorem dX11_truth_34 : decode cX11_truth 34 = .ok (.istore 7, 2) := by decide +kernel
theorem dX11_truth_36 : decode cX11_truth 36 = .ok (.iload 4, 2) := by decide +kernel
theorem dX11_truth_38 : decode cX11_truth 38 = .ok (.bipush 20, 2) := by decide +kernel
theorem dX11_truth_40 : decode cX11_truth 40 = .ok (.imul, 1) := by decide +kernel
theorem dX11_truth_41 : decode cX11_truth 41 = .ok (.istore 8, 2) := by decide +kernel
theorem dX11_truth_43 : decode cX11_truth 43 = .ok (.iload 8, 2) := by decide +kernel
theorem dX11_truth_45 : decode cX11_truth 45 = .ok (.iload 4, 2) := by decide +kernel
theorem dX11_truth_47 : decode cX11_truth 47 = .ok (.iconst 1, 1) := by decide +kernel
theorem dX11_truth_48 : decode cX11_truth 48 = .ok (.iadd, 1) := by decide +kernel
theorem dX11_truth_49 : decode cX11_truth 49 = .ok (.bipush 20, 2) := by decide +kernel
theorem dX11_truth_51 : decode cX11_truth 51 = .ok (.imul, 1) := by decide +kernel
theorem dX11_truth_52 : decode cX11_truth 52 = .ok (.if_icmp .ge 70, 3) := by decide +kernel
theorem dX11_truth_55 : decode cX11_truth 55 = .ok (.aload_n 0, 1) := by decide +kernel
theorem dX11_truth_56 : decode cX11_truth 56 = .ok (.getfield 10, 3) := by decide +kernel
theorem dX11_truth_59 : decode cX11_truth 59 = .ok (.iload 8, 2) := by decide +kernel
theorem dX11_truth_61 : decode cX11_truth 61 = .ok (.invokevirtual 408, 3) := by decide +kernel
theorem dX11_truth_64 : decode cX11_truth 64 = .ok (.istore 9, 2) := by decide +kernel
theorem dX11_truth_66 : decode cX11_truth 66 = .ok (.iload 7, 2) := by decide +kernel
theorem dX11_truth_68 : decode cX11_truth 68 = .ok (.aload_n 0, 1) := by decide +kernel
theorem dX11_truth_69 : decode cX11_truth 69 = .ok (.getfield 10, 3) := by decide +kernel
theorem dX11_truth_72 : decode cX11_truth 72 = .ok (.iload 8, 2) := by decide +kernel
theorem dX11_truth_74 : decode cX11_truth 74 = .ok (.invokevirtual 411, 3) := by decide +kernel
theorem dX11_truth_77 : decode cX11_truth 77 = .ok (.iadd, 1) := by decide +kernel
theorem dX11_truth_78 : decode cX11_truth 78 = .ok (.istore 7, 2) := by decide +kernel
theorem dX11_truth_80 : decode cX11_truth 80 = .ok (.iload 5, 2) := by decide +kernel
theorem dX11_truth_82 : decode cX11_truth 82 = .ok (.iconst 0, 1) := by decide +kernel
theorem dX11_truth_83 : decode cX11_truth 83 = .ok (.iload 9, 2) := by decide +kernel
theorem dX11_truth_85 : decode cX11_truth 85 = .ok (.invokestatic 149, 3) := by decide +kernel
theorem dX11_truth_88 : decode cX11_truth 88 = .ok (.iadd, 1) := by decide +kernel
theorem dX11_truth_89 : decode cX11_truth 89 = .ok (.istore 5, 2) := by decide +kernel
theorem dX11_truth_91 : decode cX11_truth 91 = .ok (.iload 6, 2) := by decide +kernel
theorem dX11_truth_93 : decode cX11_truth 93 = .ok (.iload 9, 2) := by decide +kernel
theorem dX11_truth_95 : decode cX11_truth 95 = .ok (.iconst (-1), 1) := by decide +kernel
theorem dX11_truth_96 : decode cX11_truth 96 = .ok (.if_icmp .ne 15, 3) := by decide +kernel
theorem dX11_truth_99 : decode cX11_truth 99 = .ok (.aload_n 0, 1) := by decide +kernel
theorem dX11_truth_100 : decode cX11_truth 100 = .ok (.getfield 10, 3) := by decide +kernel
theorem dX11_truth_103 : decode cX11_truth 103 = .ok (.iload 8, 2) := by decide +kernel
theorem dX11_truth_105 : decode cX11_truth 105 = .ok (.invokevirtual 411, 3) := by decide +kernel
theorem dX11_truth_108 : decode cX11_truth 108 = .ok (.goto 5, 3) := by decide +kernel
theorem dX11_truth_111 : decode cX11_truth 111 = .ok (.iload 9, 2) := by decide +kernel
theorem dX11_truth_113 : decode cX11_truth 113 = .ok (.iadd, 1) := by decide +kernel
theorem dX11_truth_114 : decode cX11_truth 114 = .ok (.istore 6, 2) := by decide +kernel
theorem dX11_truth_116 : decode cX11_truth 116 = .ok (.iinc 8 1, 3) := by decide +kernel
theorem dX11_truth_119 : decode cX11_truth 119 = .ok (.goto (-76), 3) := by decide +kernel
theorem dX11_truth_122 : decode cX11_truth 122 = .ok (.aload_n 0, 1) := by decide +kernel
theorem dX11_truth_123 : decode cX11_truth 123 = .ok (.getfield 10, 3) := by decide +kernel
theorem dX11_truth_126 : decode cX11_truth 126 = .ok (.getfield 399, 3) := by decide +kernel
theorem dX11_truth_129 : decode cX11_truth 129 = .ok (.iload 4, 2) := by decide +kernel
theorem dX11_truth_131 : decode cX11_truth 131 = .ok (.iaload, 1) := by decide +kernel
theorem dX11_truth_132 : decode cX11_truth 132 = .ok (.iconst 1, 1) := by decide +kernel
theorem dX11_truth_133 : decode cX11_truth 133 = .ok (.isub, 1) := by decide +kernel
theorem dX11_truth_134 : decode cX11_truth 134 = .ok (.istore 8, 2) := by decide +kernel
theorem dX11_truth_136 : decode cX11_truth 136 = .ok (.iload_n 3, 1) := by decide +kernel
theorem dX11_truth_137 : decode cX11_truth 137 = .ok (.tableswitch 59 0 3 #[31, 34, 37, 40], 31) := by decide +kernel
theorem dX11_truth_168 : decode cX11_truth 168 = .ok (.iload 5, 2) := by decide +kernel
theorem dX11_truth_170 : decode cX11_truth 170 = .ok (.ireturn, 1) := by decide +kernel
theorem dX11_truth_171 : decode cX11_truth 171 = .ok (.iload 6, 2) := by decide +kernel
theorem dX11_truth_173 : decode cX11_truth 173 = .ok (.ireturn, 1) := by decide +kernel
theorem dX11_truth_174 : decode cX11_truth 174 = .ok (.iload 7, 2) := by decide +kernel
theorem dX11_truth_176 : decode cX11_truth 176 = .ok (.ireturn, 1) := by decide +kernel
theorem dX11_truth_177 : decode cX11_truth 177 = .ok (.iload 8, 2) := by decide +kernel
theorem dX11_truth_179 : decode cX11_truth 179 = .ok (.iconst (-1), 1) := by decide +kernel
theorem dX11_truth_180 : decode cX11_truth 180 = .ok (.if_icmp .eq 14, 3) := by decide +kernel
theorem dX11_truth_183 : decode cX11_truth 183 = .ok (.iload 5, 2) := by decide +kernel
theorem dX11_truth_185 : decode cX11_truth 185 = .ok (.iload 8, 2) := by decide +kernel
theorem dX11_truth_187 : decode cX11_truth 187 = .ok (.if_icmp .lt 7, 3) := by decide +kernel
theorem dX11_truth_190 : decode cX11_truth 190 = .ok (.iconst 1, 1) := by decide +kernel
theorem dX11_truth_191 : decode cX11_truth 191 = .ok (.goto 4, 3) := by decide +kernel
theorem dX11_truth_194 : decode cX11_truth 194 = .ok (.iconst 0, 1) := by decide +kernel
theorem dX11_truth_195 : decode cX11_truth 195 = .ok (.ireturn, 1) := by decide +kernel
theorem dX11_truth_196 : decode cX11_truth 196 = .ok (.iload 6, 2) := by decide +kernel
theorem dX11_truth_198 : decode cX11_truth 198 = .ok (.iload 7, 2) := by decide +kernel
theorem dX11_truth_200 : decode cX11_truth 200 = .ok (.if_icmp .ge 7, 3) := by decide +kernel
theorem dX11_truth_203 : decode cX11_truth 203 = .ok (.iconst 1, 1) := by decide +kernel
theorem dX11_truth_204 : decode cX11_truth 204 = .ok (.goto 4, 3) := by decide +kernel
theorem dX11_truth_207 : decode cX11_truth 207 = .ok (.iconst 0, 1) := by decide +kernel
theorem dX11_truth_208 : decode cX11_truth 208 = .ok (.ireturn, 1) := by decide +kernel
theorem dX11_image_0 : decode cX11_image 0 = .ok (.iload_n 1, 1) := by decide +kernel
theorem dX11_image_1 : decode cX11_image 1 = .ok (.iconst 0, 1) := by decide +kernel
theorem dX11_image_2 : decode cX11_image 2 = .ok (.iconst 2, 1) := by decide +kernel
theorem dX11_image_3 : decode cX11_image 3 = .ok (.invokestatic 124, 3) := by decide +kernel
theorem dX11_image_6 : decode cX11_image 6 = .ok (.ifCond .ne 9, 3) := by decide +kernel
theorem dX11_image_9 : decode cX11_image 9 = .ok (.aload_n 0, 1) := by decide +kernel
theorem dX11_image_10 : decode cX11_image 10 = .ok (.iconst (-1), 1) := by decide +kernel
theorem dX11_image_11 : decode cX11_image 11 = .ok (.invokevirtual 105, 3) := by decide +kernel
theorem dX11_image_14 : decode cX11_image 14 = .ok (.ireturn, 1) := by decide +kernel
theorem dX11_image_15 : decode cX11_image 15 = .ok (.aload_n 0, 1) := by decide +kernel
theorem dX11_image_16 : decode cX11_image 16 = .ok (.getfield 16, 3) := by decide +kernel
theorem dX11_image_19 : decode cX11_image 19 = .ok (.iload_n 1, 1) := by decide +kernel
theorem dX11_image_20 : decode cX11_image 20 = .ok (.aaload, 1) := by decide +kernel
theorem dX11_image_21 : decode cX11_image 21 = .ok (.ifnonnull 16, 3) := by decide +kernel
theorem dX11_image_24 : decode cX11_image 24 = .ok (.aload_n 0, 1) := by decide +kernel
theorem dX11_image_25 : decode cX11_image 25 = .ok (.getfield 16, 3) := by decide +kernel
theorem dX11_image_28 : decode cX11_image 28 = .ok (.iload_n 1, 1) := by decide +kernel
theorem dX11_image_29 : decode cX11_image 29 = .ok (.new 7, 3) := by decide +kernel
theorem dX11_image_32 : decode cX11_image 32 = .ok (.dup, 1) := by decide +kernel
theorem dX11_image_33 : decode cX11_image 33 = .ok (.invokespecial 9, 3) := by decide +kernel
theorem dX11_image_36 : decode cX11_image 36 = .ok (.aastore, 1) := by decide +kernel
theorem dX11_image_37 : decode cX11_image 37 = .ok (.aload_n 0, 1) := by decide +kernel
theorem dX11_image_38 : decode cX11_image 38 = .ok (.getfield 16, 3) := by decide +kernel
theorem dX11_image_41 : decode cX11_image 41 = .ok (.iload_n 1, 1) := by decide +kernel
theorem dX11_image_42 : decode cX11_image 42 = .ok (.aaload, 1) := by decide +kernel
theorem dX11_image_43 : decode cX11_image 43 = .ok (.aload_n 0, 1) := by decide +kernel
theorem dX11_image_44 : decode cX11_image 44 = .ok (.getfield 10, 3) := by decide +kernel
theorem dX11_image_47 : decode cX11_image 47 = .ok (.invokevirtual 414, 3) := by decide +kernel
theorem dX11_image_50 : decode cX11_image 50 = .ok (.aload_n 0, 1) := by decide +kernel
theorem dX11_image_51 : decode cX11_image 51 = .ok (.iconst 0, 1) := by decide +kernel
theorem dX11_image_52 : decode cX11_image 52 = .ok (.invokevirtual 105, 3) := by decide +kernel
theorem dX11_image_55 : decode cX11_image 55 = .ok (.ireturn, 1) := by decide +kernel
theorem dX11_back_0 : decode cX11_back 0 = .ok (.iload_n 1, 1) := by decide +kernel
theorem dX11_back_1 : decode cX11_back 1 = .ok (.iconst 0, 1) := by decide +kernel
theorem dX11_back_2 : decode cX11_back 2 = .ok (.iconst 2, 1) := by decide +kernel
theorem dX11_back_3 : decode cX11_back 3 = .ok (.invokestatic 124, 3) := by decide +kernel
theorem dX11_back_6 : decode cX11_back 6 = .ok (.ifCond .ne 9, 3) := by decide +kernel
theorem dX11_back_9 : decode cX11_back 9 = .ok (.aload_n 0, 1) := by decide +kernel
theorem dX11_back_10 : decode cX11_back 10 = .ok (.iconst (-1), 1) := by decide +kernel
theorem dX11_back_11 : decode cX11_back 11 = .ok (.invokevirtual 105, 3) := by decide +kernel
theorem dX11_back_14 : decode cX11_back 14 = .ok (.ireturn, 1) := by decide +kernel
theorem dX11_back_15 : decode cX11_back 15 = .ok (.aload_n 0, 1) := by decide +kernel
theorem dX11_back_16 : decode cX11_back 16 = .ok (.getfield 16, 3) := by decide +kernel
theorem dX11_back_19 : decode cX11_back 19 = .ok (.iload_n 1, 1) := by decide +kernel
theorem dX11_back_20 : decode cX11_back 20 = .ok (.aaload, 1) := by decide +kernel
theorem dX11_back_21 : decode cX11_back 21 = .ok (.ifnonnull 10, 3) := by decide +kernel
theorem dX11_back_24 : decode cX11_back 24 = .ok (.aload_n 0, 1) := by decide +kernel
theorem dX11_back_25 : decode cX11_back 25 = .ok (.bipush (-2), 2) := by decide +kernel
theorem dX11_back_27 : decode cX11_back 27 = .ok (.invokevirtual 105, 3) := by decide +kernel
theorem dX11_back_30 : decode cX11_back 30 = .ok (.ireturn, 1) := by decide +kernel
theorem dX11_back_31 : decode cX11_back 31 = .ok (.aload_n 0, 1) := by decide +kernel
theorem dX11_back_32 : decode cX11_back 32 = .ok (.getfield 10, 3) := by decide +kernel
theorem dX11_back_35 : decode cX11_back 35 = .ok (.aload_n 0, 1) := by decide +kernel
theorem dX11_back_36 : decode cX11_back 36 = .ok (.getfield 16, 3) := by decide +kernel
theorem dX11_back_39 : decode cX11_back 39 = .ok (.iload_n 1, 1) := by decide +kernel
theorem dX11_back_40 : decode cX11_back 40 = .ok (.aaload, 1) := by decide +kernel
theorem dX11_back_41 : decode cX11_back 41 = .ok (.invokevirtual 414, 3) := by decide +kernel
theorem dX11_back_44 : decode cX11_back 44 = .ok (.aload_n 0, 1) := by decide +kernel
theorem dX11_back_45 : decode cX11_back 45 = .ok (.getfield 23, 3) := by decide +kernel
theorem dX11_back_48 : decode cX11_back 48 = .ok (.iconst 0, 1) := by decide +kernel
theorem dX11_back_49 : decode cX11_back 49 = .ok (.putfield 92, 3) := by decide +kernel
theorem dX11_back_52 : decode cX11_back 52 = .ok (.aload_n 0, 1) := by decide +kernel
theorem dX11_back_53 : decode cX11_back 53 = .ok (.getfield 60, 3) := by decide +kernel
theorem dX11_back_56 : decode cX11_back 56 = .ok (.iconst 0, 1) := by decide +kernel
theorem dX11_back_57 : decode cX11_back 57 = .ok (.putfield 233, 3) := by decide +kernel
theorem dX11_back_60 : decode cX11_back 60 = .ok (.aload_n 0, 1) := by decide +kernel
theorem dX11_back_61 : decode cX11_back 61 = .ok (.getfield 32, 3) := by decide +kernel
theorem dX11_back_64 : decode cX11_back 64 = .ok (.invokevirtual 118, 3) := by decide +kernel
theorem dX11_back_67 : decode cX11_back 67 = .ok (.aload_n 0, 1) := by decide +kernel
theorem dX11_back_68 : decode cX11_back 68 = .ok (.dup, 1) := by decide +kernel
theorem dX11_back_69 : decode cX11_back 69 = .ok (.getfield 121, 3) := by decide +kernel
theorem dX11_back_72 : decode cX11_back 72 = .ok (.iconst 1, 1) := by decide +kernel
theorem dX11_back_73 : decode cX11_back 73 = .ok (.iadd, 1) := by decide +kernel
theorem dX11_back_74 : decode cX11_back 74 = .ok (.putfield 121, 3) := by decide +kernel
theorem dX11_back_77 : decode cX11_back 77 = .ok (.aload_n 0, 1) := by decide +kernel
theorem dX11_back_78 : decode cX11_back 78 = .ok (.dup, 1) := by decide +kernel
theorem dX11_back_79 : decode cX11_back 79 = .ok (.getfield 289, 3) := by decide +kernel
theorem dX11_back_82 : decode cX11_back 82 = .ok (.iconst 1, 1) := by decide +kernel
theorem dX11_back_83 : decode cX11_back 83 = .ok (.iadd, 1) := by decide +kernel
theorem dX11_back_84 : decode cX11_back 84 = .ok (.putfield 289, 3) := by decide +kernel
theorem dX11_back_87 : decode cX11_back 87 = .ok (.aload_n 0, 1) := by decide +kernel
theorem dX11_back_88 : decode cX11_back 88 = .ok (.iconst 0, 1) := by decide +kernel
theorem dX11_back_89 : decode cX11_back 89 = .ok (.invokevirtual 105, 3) := by decide +kernel
theorem dX11_back_92 : decode cX11_back 92 = .ok (.ireturn, 1) := by decide +kernel
theorem dX11_count_0 : decode cX11_count 0 = .ok (.iload_n 1, 1) := by decide +kernel
theorem dX11_count_1 : decode cX11_count 1 = .ok (.tableswitch 150 0 9 #[55, 63, 74, 85, 96, 107, 115, 126, 134, 142], 55) := by decide +kernel
theorem dX11_count_56 : decode cX11_count 56 = .ok (.aload_n 0, 1) := by decide +kernel
theorem dX11_count_57 : decode cX11_count 57 = .ok (.getfield 10, 3) := by decide +kernel
theorem dX11_count_60 : decode cX11_count 60 = .ok (.getfield 98, 3) := by decide +kernel
theorem dX11_count_63 : decode cX11_count 63 = .ok (.ireturn, 1) := by decide +kernel
theorem dX11_count_64 : decode cX11_count 64 = .ok (.aload_n 0, 1) := by decide +kernel
theorem dX11_count_65 : decode cX11_count 65 = .ok (.getfield 10, 3) := by decide +kernel
theorem dX11_count_68 : decode cX11_count 68 = .ok (.getfield 156, 3) := by decide +kernel
theorem dX11_count_71 : decode cX11_count 71 = .ok (.invokevirtual 173, 3) := by decide +kernel
theorem dX11_count_74 : decode cX11_count 74 = .ok (.ireturn, 1) := by decide +kernel
theorem dX11_count_75 : decode cX11_count 75 = .ok (.aload_n 0, 1) := by decide +kernel
theorem dX11_count_76 : decode cX11_count 76 = .ok (.getfield 10, 3) := by decide +kernel
theorem dX11_count_79 : decode cX11_count 79 = .ok (.getfield 176, 3) := by decide +kernel
theorem dX11_count_82 : decode cX11_count 82 = .ok (.invokevirtual 173, 3) := by decide +kernel
theorem dX11_count_85 : decode cX11_count 85 = .ok (.ireturn, 1) := by decide +kernel
theorem dX11_count_86 : decode cX11_count 86 = .ok (.aload_n 0, 1) := by decide +kernel
theorem dX11_count_87 : decode cX11_count 87 = .ok (.getfield 10, 3) := by decide +kernel
theorem dX11_count_90 : decode cX11_count 90 = .ok (.getfield 182, 3) := by decide +kernel
theorem dX11_count_93 : decode cX11_count 93 = .ok (.invokevirtual 173, 3) := by decide +kernel
theorem dX11_count_96 : decode cX11_count 96 = .ok (.ireturn, 1) := by decide +kernel
theorem dX11_count_97 : decode cX11_count 97 = .ok (.aload_n 0, 1) := by decide +kernel
theorem dX11_count_98 : decode cX11_count 98 = .ok (.getfield 10, 3) := by decide +kernel
theorem dX11_count_101 : decode cX11_count 101 = .ok (.getfield 191, 3) := by decide +kernel
theorem dX11_count_104 : decode cX11_count 104 = .ok (.invokevirtual 173, 3) := by decide +kernel
theorem dX11_count_107 : decode cX11_count 107 = .ok (.ireturn, 1) := by decide +kernel
theorem dX11_count_108 : decode cX11_count 108 = .ok (.aload_n 0, 1) := by decide +kernel
theorem dX11_count_109 : decode cX11_count 109 = .ok (.getfield 60, 3) := by decide +kernel
theorem dX11_count_112 : decode cX11_count 112 = .ok (.getfield 233, 3) := by decide +kernel
theorem dX11_count_115 : decode cX11_count 115 = .ok (.ireturn, 1) := by decide +kernel
theorem dX11_count_116 : decode cX11_count 116 = .ok (.aload_n 0, 1) := by decide +kernel
theorem dX11_count_117 : decode cX11_count 117 = .ok (.getfield 10, 3) := by decide +kernel
theorem dX11_count_120 : decode cX11_count 120 = .ok (.getfield 286, 3) := by decide +kernel
theorem dX11_count_123 : decode cX11_count 123 = .ok (.invokevirtual 173, 3) := by decide +kernel
theorem dX11_count_126 : decode cX11_count 126 = .ok (.ireturn, 1) := by decide +kernel
theorem dX11_count_127 : decode cX11_count 127 = .ok (.aload_n 0, 1) := by decide +kernel
theorem dX11_count_128 : decode cX11_count 128 = .ok (.getfield 10, 3) := by decide +kernel
theorem dX11_count_131 : decode cX11_count 131 = .ok (.getfield 347, 3) := by decide +kernel
theorem dX11_count_134 : decode cX11_count 134 = .ok (.ireturn, 1) := by decide +kernel
theorem dX11_count_135 : decode cX11_count 135 = .ok (.aload_n 0, 1) := by decide +kernel
theorem dX11_count_136 : decode cX11_count 136 = .ok (.getfield 10, 3) := by decide +kernel
theorem dX11_count_139 : decode cX11_count 139 = .ok (.getfield 368, 3) := by decide +kernel
theorem dX11_count_142 : decode cX11_count 142 = .ok (.ireturn, 1) := by decide +kernel
theorem dX11_count_143 : decode cX11_count 143 = .ok (.aload_n 0, 1) := by decide +kernel
theorem dX11_count_144 : decode cX11_count 144 = .ok (.getfield 23, 3) := by decide +kernel
theorem dX11_count_147 : decode cX11_count 147 = .ok (.getfield 92, 3) := by decide +kernel
theorem dX11_count_150 : decode cX11_count 150 = .ok (.ireturn, 1) := by decide +kernel
theorem dX11_count_151 : decode cX11_count 151 = .ok (.iconst (-1), 1) := by decide +kernel
theorem dX11_count_152 : decode cX11_count 152 = .ok (.ireturn, 1) := by decide +kernel
theorem dX11_status_0 : decode cX11_status 0 = .ok (.aload_n 0, 1) := by decide +kernel
theorem dX11_status_1 : decode cX11_status 1 = .ok (.getfield 417, 3) := by decide +kernel
theorem dX11_status_4 : decode cX11_status 4 = .ok (.ireturn, 1) := by decide +kernel
theorem dX11_answer_0 : decode cX11_answer 0 = .ok (.aload_n 0, 1) := by decide +kernel
theorem dX11_answer_1 : decode cX11_answer 1 = .ok (.iload_n 1, 1) := by decide +kernel
theorem dX11_answer_2 : decode cX11_answer 2 = .ok (.iconst 0, 1) := by decide +kernel
theorem dX11_answer_3 : decode cX11_answer 3 = .ok (.invokestatic 420, 3) := by decide +kernel
theorem dX11_answer_6 : decode cX11_answer 6 = .ok (.putfield 417, 3) := by decide +kernel
theorem dX11_answer_9 : decode cX11_answer 9 = .ok (.iload_n 1, 1) := by decide +kernel
theorem dX11_answer_10 : decode cX11_answer 10 = .ok (.ireturn, 1) := by decide +kernel
theorem dX11_isIn_0 : decode cX11_isIn 0 = .ok (.iload_n 0, 1) := by decide +kernel
theorem dX11_isIn_1 : decode cX11_isIn 1 = .ok (.iload_n 1, 1) := by decide +kernel
theorem dX11_isIn_2 : decode cX11_isIn 2 = .ok (.if_icmp .lt 12, 3) := by decide +kernel
theorem dX11_isIn_5 : decode cX11_isIn 5 = .ok (.iload_n 0, 1) := by decide +kernel
theorem dX11_isIn_6 : decode cX11_isIn 6 = .ok (.iload_n 2, 1) := by decide +kernel
theorem dX11_isIn_7 : decode cX11_isIn 7 = .ok (.if_icmp .gt 7, 3) := by decide +kernel
theorem dX11_isIn_10 : decode cX11_isIn 10 = .ok (.iconst 1, 1) := by decide +kernel
theorem dX11_isIn_11 : decode cX11_isIn 11 = .ok (.goto 4, 3) := by decide +kernel
theorem dX11_isIn_14 : decode cX11_isIn 14 = .ok (.iconst 0, 1) := by decide +kernel
theorem dX11_isIn_15 : decode cX11_isIn 15 = .ok (.ireturn, 1) := by decide +kernel
theorem dX11_isWeek_0 : decode cX11_isWeek 0 = .ok (.iload_n 0, 1) := by decide +kernel
theorem dX11_isWeek_1 : decode cX11_isWeek 1 = .ok (.iconst 0, 1) := by decide +kernel
theorem dX11_isWeek_2 : decode cX11_isWeek 2 = .ok (.sipush 259, 3) := by decide +kernel
theorem dX11_isWeek_5 : decode cX11_isWeek 5 = .ok (.invokestatic 124, 3) := by decide +kernel
theorem dX11_isWeek_8 : decode cX11_isWeek 8 = .ok (.ireturn, 1) := by decide +kernel
theorem dX11_isMoveWeek_0 : decode cX11_isMoveWeek 0 = .ok (.iload_n 1, 1) := by decide +kernel
theorem dX11_isMoveWeek_1 : decode cX11_isMoveWeek 1 = .ok (.invokestatic 95, 3) := by decide +kernel
theorem dX11_isMoveWeek_4 : decode cX11_isMoveWeek 4 = .ok (.ifCond .eq 18, 3) := by decide +kernel
theorem dX11_isMoveWeek_7 : decode cX11_isMoveWeek 7 = .ok (.iload_n 1, 1) := by decide +kernel
theorem dX11_isMoveWeek_8 : decode cX11_isMoveWeek 8 = .ok (.aload_n 0, 1) := by decide +kernel
theorem dX11_isMoveWeek_9 : decode cX11_isMoveWeek 9 = .ok (.getfield 10, 3) := by decide +kernel
theorem dX11_isMoveWeek_12 : decode cX11_isMoveWeek 12 = .ok (.getfield 350, 3) := by decide +kernel
theorem dX11_isMoveWeek_15 : decode cX11_isMoveWeek 15 = .ok (.if_icmp .lt 7, 3) := by decide +kernel
theorem dX11_isMoveWeek_18 : decode cX11_isMoveWeek 18 = .ok (.iconst 1, 1) := by decide +kernel
theorem dX11_isMoveWeek_19 : decode cX11_isMoveWeek 19 = .ok (.goto 4, 3) := by decide +kernel
theorem dX11_isMoveWeek_22 : decode cX11_isMoveWeek 22 = .ok (.iconst 0, 1) := by decide +kernel
theorem dX11_isMoveWeek_23 : decode cX11_isMoveWeek 23 = .ok (.ireturn, 1) := by decide +kernel
theorem dX11_isCouncilQuarter_0 : decode cX11_isCouncilQuarter 0 = .ok (.iload_n 0, 1) := by decide +kernel
theorem dX11_isCouncilQuarter_1 : decode cX11_isCouncilQuarter 1 = .ok (.iconst 0, 1) := by decide +kernel
theorem dX11_isCouncilQuarter_2 : decode cX11_isCouncilQuarter 2 = .ok (.iconst 5, 1) := by decide +kernel
theorem dX11_isCouncilQuarter_3 : decode cX11_isCouncilQuarter 3 = .ok (.invokestatic 124, 3) := by decide +kernel
theorem dX11_isCouncilQuarter_6 : decode cX11_isCouncilQuarter 6 = .ok (.ifCond .eq 17, 3) := by decide +kernel
theorem dX11_isCouncilQuarter_9 : decode cX11_isCouncilQuarter 9 = .ok (.iload_n 1, 1) := by decide +kernel
theorem dX11_isCouncilQuarter_10 : decode cX11_isCouncilQuarter 10 = .ok (.iconst 0, 1) := by decide +kernel
theorem dX11_isCouncilQuarter_11 : decode cX11_isCouncilQuarter 11 = .ok (.bipush 19, 2) := by decide +kernel
theorem dX11_isCouncilQuarter_13 : decode cX11_isCouncilQuarter 13 = .ok (.invokestatic 124, 3) := by decide +kernel
theorem dX11_isCouncilQuarter_16 : decode cX11_isCouncilQuarter 16 = .ok (.ifCond .eq 7, 3) := by decide +kernel
theorem dX11_isCouncilQuarter_19 : decode cX11_isCouncilQuarter 19 = .ok (.iconst 1, 1) := by decide +kernel
theorem dX11_isCouncilQuarter_20 : decode cX11_isCouncilQuarter 20 = .ok (.goto 4, 3) := by decide +kernel
theorem dX11_isCouncilQuarter_23 : decode cX11_isCouncilQuarter 23 = .ok (.iconst 0, 1) := by decide +kernel
theorem dX11_isCouncilQuarter_24 : decode cX11_isCouncilQuarter 24 = .ok (.ireturn, 1) := by decide +kernel
theorem dX11_isPlot_0 : decode cX11_isPlot 0 = .ok (.iload_n 1, 1) := by decide +kernel
theorem dX11_isPlot_1 : decode cX11_isPlot 1 = .ok (.iconst 0, 1) := by decide +kernel
theorem dX11_isPlot_2 : decode cX11_isPlot 2 = .ok (.aload_n 0, 1) := by decide +kernel
theorem dX11_isPlot_3 : decode cX11_isPlot 3 = .ok (.getfield 10, 3) := by decide +kernel
theorem dX11_isPlot_6 : decode cX11_isPlot 6 = .ok (.getfield 182, 3) := by decide +kernel
theorem dX11_isPlot_9 : decode cX11_isPlot 9 = .ok (.invokevirtual 173, 3) := by decide +kernel
theorem dX11_isPlot_12 : decode cX11_isPlot 12 = .ok (.iconst 1, 1) := by decide +kernel
theorem dX11_isPlot_13 : decode cX11_isPlot 13 = .ok (.isub, 1) := by decide +kernel
theorem dX11_isPlot_14 : decode cX11_isPlot 14 = .ok (.invokestatic 124, 3) := by decide +kernel
theorem dX11_isPlot_17 : decode cX11_isPlot 17 = .ok (.ireturn, 1) := by decide +kernel
theorem dX11_isEntry_0 : decode cX11_isEntry 0 = .ok (.iload_n 1, 1) := by decide +kernel
theorem dX11_isEntry_1 : decode cX11_isEntry 1 = .ok (.iconst 0, 1) := by decide +kernel
theorem dX11_isEntry_2 : decode cX11_isEntry 2 = .ok (.aload_n 0, 1) := by decide +kernel
theorem dX11_isEntry_3 : decode cX11_isEntry 3 = .ok (.getfield 10, 3) := by decide +kernel
theorem dX11_isEntry_6 : decode cX11_isEntry 6 = .ok (.getfield 286, 3) := by decide +kernel
theorem dX11_isEntry_9 : decode cX11_isEntry 9 = .ok (.invokevirtual 173, 3) := by decide +kernel
theorem dX11_isEntry_12 : decode cX11_isEntry 12 = .ok (.iconst 1, 1) := by decide +kernel
theorem dX11_isEntry_13 : decode cX11_isEntry 13 = .ok (.isub, 1) := by decide +kernel
theorem dX11_isEntry_14 : decode cX11_isEntry 14 = .ok (.invokestatic 124, 3) := by decide +kernel
theorem dX11_isEntry_17 : decode cX11_isEntry 17 = .ok (.ireturn, 1) := by decide +kernel
theorem dX11_isKnownEntry_0 : decode cX11_isKnownEntry 0 = .ok (.aload_n 0, 1) := by decide +kernel
theorem dX11_isKnownEntry_1 : decode cX11_isKnownEntry 1 = .ok (.iload_n 1, 1) := by decide +kernel
theorem dX11_isKnownEntry_2 : decode cX11_isKnownEntry 2 = .ok (.invokevirtual 292, 3) := by decide +kernel
theorem dX11_isKnownEntry_5 : decode cX11_isKnownEntry 5 = .ok (.ifCond .eq 24, 3) := by decide +kernel
theorem dX11_isKnownEntry_8 : decode cX11_isKnownEntry 8 = .ok (.aload_n 0, 1) := by decide +kernel
theorem dX11_isKnownEntry_9 : decode cX11_isKnownEntry 9 = .ok (.getfield 10, 3) := by decide +kernel
theorem dX11_isKnownEntry_12 : decode cX11_isKnownEntry 12 = .ok (.getfield 286, 3) := by decide +kernel
theorem dX11_isKnownEntry_15 : decode cX11_isKnownEntry 15 = .ok (.iload_n 1, 1) := by decide +kernel
theorem dX11_isKnownEntry_16 : decode cX11_isKnownEntry 16 = .ok (.bipush 6, 2) := by decide +kernel
theorem dX11_isKnownEntry_18 : decode cX11_isKnownEntry 18 = .ok (.invokevirtual 223, 3) := by decide +kernel
theorem dX11_isKnownEntry_21 : decode cX11_isKnownEntry 21 = .ok (.iload_n 2, 1) := by decide +kernel
theorem dX11_isKnownEntry_22 : decode cX11_isKnownEntry 22 = .ok (.if_icmp .gt 7, 3) := by decide +kernel
theorem dX11_isKnownEntry_25 : decode cX11_isKnownEntry 25 = .ok (.iconst 1, 1) := by decide +kernel
theorem dX11_isKnownEntry_26 : decode cX11_isKnownEntry 26 = .ok (.goto 4, 3) := by decide +kernel
theorem dX11_isKnownEntry_29 : decode cX11_isKnownEntry 29 = .ok (.iconst 0, 1) := by decide +kernel
theorem dX11_isKnownEntry_30 : decode cX11_isKnownEntry 30 = .ok (.ireturn, 1) := by decide +kernel
theorem dX11_needHead_0 : decode cX11_needHead 0 = .ok (.iload_n 0, 1) := by decide +kernel
theorem dX11_needHead_1 : decode cX11_needHead 1 = .ok (.iconst 3, 1) := by decide +kernel
theorem dX11_needHead_2 : decode cX11_needHead 2 = .ok (.imul, 1) := by decide +kernel
theorem dX11_needHead_3 : decode cX11_needHead 3 = .ok (.iload_n 1, 1) := by decide +kernel
theorem dX11_needHead_4 : decode cX11_needHead 4 = .ok (.iadd, 1) := by decide +kernel
theorem dX11_needHead_5 : decode cX11_needHead 5 = .ok (.istore_n 3, 1) := by decide +kernel
theorem dX11_needHead_6 : decode cX11_needHead 6 = .ok (.iload_n 2, 1) := by decide +kernel
theorem dX11_needHead_7 : decode cX11_needHead 7 = .ok (.iconst 5, 1) := by decide +kernel
theorem dX11_needHead_8 : decode cX11_needHead 8 = .ok (.if_icmp .ne 10, 3) := by decide +kernel
theorem dX11_needHead_11 : decode cX11_needHead 11 = .ok (.bipush 45, 2) := by decide +kernel
theorem dX11_needHead_13 : decode cX11_needHead 13 = .ok (.iload_n 3, 1) := by decide +kernel
theorem dX11_needHead_14 : decode cX11_needHead 14 = .ok (.iadd, 1) := by decide +kernel
theorem dX11_needHead_15 : decode cX11_needHead 15 = .ok (.goto 10, 3) := by decide +kernel
theorem dX11_needHead_18 : decode cX11_needHead 18 = .ok (.iconst 0, 1) := by decide +kernel
theorem dX11_needHead_19 : decode cX11_needHead 19 = .ok (.iload_n 3, 1) := by decide +kernel
theorem dX11_needHead_20 : decode cX11_needHead 20 = .ok (.iconst 5, 1) := by decide +kernel
theorem dX11_needHead_21 : decode cX11_needHead 21 = .ok (.imul, 1) := by decide +kernel
theorem dX11_needHead_22 : decode cX11_needHead 22 = .ok (.iadd, 1) := by decide +kernel
theorem dX11_needHead_23 : decode cX11_needHead 23 = .ok (.iload_n 2, 1) := by decide +kernel
theorem dX11_needHead_24 : decode cX11_needHead 24 = .ok (.iadd, 1) := by decide +kernel
theorem dX11_needHead_25 : decode cX11_needHead 25 = .ok (.ireturn, 1) := by decide +kernel
theorem dX11_firstStart_0 : decode cX11_firstStart 0 = .ok (.iconst 0, 1) := by decide +kernel
theorem dX11_firstStart_1 : decode cX11_firstStart 1 = .ok (.istore_n 3, 1) := by decide +kernel
theorem dX11_firstStart_2 : decode cX11_firstStart 2 = .ok (.iload_n 3, 1) := by decide +kernel
theorem dX11_firstStart_3 : decode cX11_firstStart 3 = .ok (.aload_n 0, 1) := by decide +kernel
theorem dX11_firstStart_4 : decode cX11_firstStart 4 = .ok (.getfield 10, 3) := by decide +kernel
theorem dX11_firstStart_7 : decode cX11_firstStart 7 = .ok (.getfield 191, 3) := by decide +kernel
theorem dX11_firstStart_10 : decode cX11_firstStart 10 = .ok (.invokevirtual 173, 3) := by decide +kernel
theorem dX11_firstStart_13 : decode cX11_firstStart 13 = .ok (.if_icmp .ge 54, 3) := by decide +kernel
theorem dX11_firstStart_16 : decode cX11_firstStart 16 = .ok (.aload_n 0, 1) := by decide +kernel
theorem dX11_firstStart_17 : decode cX11_firstStart 17 = .ok (.getfield 10, 3) := by decide +kernel
theorem dX11_firstStart_20 : decode cX11_firstStart 20 = .ok (.getfield 191, 3) := by decide +kernel
theorem dX11_firstStart_23 : decode cX11_firstStart 23 = .ok (.iload_n 3, 1) := by decide +kernel
theorem dX11_firstStart_24 : decode cX11_firstStart 24 = .ok (.iconst 0, 1) := by decide +kernel
theorem dX11_firstStart_25 : decode cX11_firstStart 25 = .ok (.invokevirtual 223, 3) := by decide +kernel
theorem dX11_firstStart_28 : decode cX11_firstStart 28 = .ok (.iload_n 1, 1) := by decide +kernel
theorem dX11_firstStart_29 : decode cX11_firstStart 29 = .ok (.if_icmp .ne 32, 3) := by decide +kernel
theorem dX11_firstStart_32 : decode cX11_firstStart 32 = .ok (.aload_n 0, 1) := by decide +kernel
theorem dX11_firstStart_33 : decode cX11_firstStart 33 = .ok (.getfield 10, 3) := by decide +kernel
theorem dX11_firstStart_36 : decode cX11_firstStart 36 = .ok (.getfield 191, 3) := by decide +kernel
theorem dX11_firstStart_39 : decode cX11_firstStart 39 = .ok (.iload_n 3, 1) := by decide +kernel
theorem dX11_firstStart_40 : decode cX11_firstStart 40 = .ok (.iconst 2, 1) := by decide +kernel
theorem dX11_firstStart_41 : decode cX11_firstStart 41 = .ok (.invokevirtual 223, 3) := by decide +kernel
theorem dX11_firstStart_44 : decode cX11_firstStart 44 = .ok (.iload_n 2, 1) := by decide +kernel
theorem dX11_firstStart_45 : decode cX11_firstStart 45 = .ok (.if_icmp .gt 16, 3) := by decide +kernel
theorem dX11_firstStart_48 : decode cX11_firstStart 48 = .ok (.aload_n 0, 1) := by decide +kernel
theorem dX11_firstStart_49 : decode cX11_firstStart 49 = .ok (.getfield 10, 3) := by decide +kernel
theorem dX11_firstStart_52 : decode cX11_firstStart 52 = .ok (.getfield 191, 3) := by decide +kernel
theorem dX11_firstStart_55 : decode cX11_firstStart 55 = .ok (.iload_n 3, 1) := by decide +kernel
theorem dX11_firstStart_56 : decode cX11_firstStart 56 = .ok (.iconst 1, 1) := by decide +kernel
theorem dX11_firstStart_57 : decode cX11_firstStart 57 = .ok (.invokevirtual 223, 3) := by decide +kernel
theorem dX11_firstStart_60 : decode cX11_firstStart 60 = .ok (.ireturn, 1) := by decide +kernel
theorem dX11_firstStart_61 : decode cX11_firstStart 61 = .ok (.iinc 3 1, 3) := by decide +kernel
theorem dX11_firstStart_64 : decode cX11_firstStart 64 = .ok (.goto (-62), 3) := by decide +kernel
theorem dX11_firstStart_67 : decode cX11_firstStart 67 = .ok (.iconst (-1), 1) := by decide +kernel
theorem dX11_firstStart_68 : decode cX11_firstStart 68 = .ok (.ireturn, 1) := by decide +kernel
theorem dX11_runFor_0 : decode cX11_runFor 0 = .ok (.aload_n 0, 1) := by decide +kernel
theorem dX11_runFor_1 : decode cX11_runFor 1 = .ok (.iload_n 1, 1) := by decide +kernel
theorem dX11_runFor_2 : decode cX11_runFor 2 = .ok (.invokevirtual 239, 3) := by decide +kernel
theorem dX11_runFor_5 : decode cX11_runFor 5 = .ok (.istore_n 3, 1) := by decide +kernel
theorem dX11_runFor_6 : decode cX11_runFor 6 = .ok (.iload_n 2, 1) := by decide +kernel
theorem dX11_runFor_7 : decode cX11_runFor 7 = .ok (.ifCond .ne 10, 3) := by decide +kernel
theorem dX11_runFor_10 : decode cX11_runFor 10 = .ok (.aload_n 0, 1) := by decide +kernel
theorem dX11_runFor_11 : decode cX11_runFor 11 = .ok (.getfield 48, 3) := by decide +kernel
theorem dX11_runFor_14 : decode cX11_runFor 14 = .ok (.goto 7, 3) := by decide +kernel
theorem dX11_runFor_17 : decode cX11_runFor 17 = .ok (.aload_n 0, 1) := by decide +kernel
theorem dX11_runFor_18 : decode cX11_runFor 18 = .ok (.getfield 52, 3) := by decide +kernel
theorem dX11_runFor_21 : decode cX11_runFor 21 = .ok (.astore 4, 2) := by decide +kernel
theorem dX11_runFor_23 : decode cX11_runFor 23 = .ok (.aload 4, 2) := by decide +kernel
theorem dX11_runFor_25 : decode cX11_runFor 25 = .ok (.iload_n 3, 1) := by decide +kernel
theorem dX11_runFor_26 : decode cX11_runFor 26 = .ok (.iload_n 2, 1) := by decide +kernel
theorem dX11_runFor_27 : decode cX11_runFor 27 = .ok (.aload_n 0, 1) := by decide +kernel
theorem dX11_runFor_28 : decode cX11_runFor 28 = .ok (.getfield 121, 3) := by decide +kernel
theorem dX11_runFor_31 : decode cX11_runFor 31 = .ok (.invokevirtual 422, 3) := by decide +kernel
theorem dX11_runFor_34 : decode cX11_runFor 34 = .ok (.ifCond .ne 65, 3) := by decide +kernel
theorem dX11_runFor_37 : decode cX11_runFor 37 = .ok (.aload_n 0, 1) := by decide +kernel
theorem dX11_runFor_38 : decode cX11_runFor 38 = .ok (.getfield 41, 3) := by decide +kernel
theorem dX11_runFor_41 : decode cX11_runFor 41 = .ok (.iload_n 3, 1) := by decide +kernel
theorem dX11_runFor_42 : decode cX11_runFor 42 = .ok (.iload_n 2, 1) := by decide +kernel
theorem dX11_runFor_43 : decode cX11_runFor 43 = .ok (.aload_n 0, 1) := by decide +kernel
theorem dX11_runFor_44 : decode cX11_runFor 44 = .ok (.getfield 121, 3) := by decide +kernel
theorem dX11_runFor_47 : decode cX11_runFor 47 = .ok (.invokevirtual 425, 3) := by decide +kernel
theorem dX11_runFor_50 : decode cX11_runFor 50 = .ok (.aload 4, 2) := by decide +kernel
theorem dX11_runFor_52 : decode cX11_runFor 52 = .ok (.iload_n 3, 1) := by decide +kernel
theorem dX11_runFor_53 : decode cX11_runFor 53 = .ok (.iload_n 2, 1) := by decide +kernel
theorem dX11_runFor_54 : decode cX11_runFor 54 = .ok (.aload_n 0, 1) := by decide +kernel
theorem dX11_runFor_55 : decode cX11_runFor 55 = .ok (.getfield 121, 3) := by decide +kernel
theorem dX11_runFor_58 : decode cX11_runFor 58 = .ok (.invokevirtual 428, 3) := by decide +kernel
theorem dX11_runFor_61 : decode cX11_runFor 61 = .ok (.iconst 0, 1) := by decide +kernel
theorem dX11_runFor_62 : decode cX11_runFor 62 = .ok (.istore 5, 2) := by decide +kernel
theorem dX11_runFor_64 : decode cX11_runFor 64 = .ok (.iload 5, 2) := by decide +kernel
theorem dX11_runFor_66 : decode cX11_runFor 66 = .ok (.sipush 260, 3) := by decide +kernel
theorem dX11_runFor_69 : decode cX11_runFor 69 = .ok (.if_icmp .ge 30, 3) := by decide +kernel
theorem dX11_runFor_72 : decode cX11_runFor 72 = .ok (.aload_n 0, 1) := by decide +kernel
theorem dX11_runFor_73 : decode cX11_runFor 73 = .ok (.getfield 41, 3) := by decide +kernel
theorem dX11_runFor_76 : decode cX11_runFor 76 = .ok (.aload 4, 2) := by decide +kernel
theorem dX11_runFor_78 : decode cX11_runFor 78 = .ok (.getfield 202, 3) := by decide +kernel
theorem dX11_runFor_81 : decode cX11_runFor 81 = .ok (.iload 5, 2) := by decide +kernel
theorem dX11_runFor_83 : decode cX11_runFor 83 = .ok (.invokevirtual 431, 3) := by decide +kernel
theorem dX11_runFor_86 : decode cX11_runFor 86 = .ok (.aload 4, 2) := by decide +kernel
theorem dX11_runFor_88 : decode cX11_runFor 88 = .ok (.iload 5, 2) := by decide +kernel
theorem dX11_runFor_90 : decode cX11_runFor 90 = .ok (.invokevirtual 435, 3) := by decide +kernel
theorem dX11_runFor_93 : decode cX11_runFor 93 = .ok (.iinc 5 1, 3) := by decide +kernel
theorem dX11_runFor_96 : decode cX11_runFor 96 = .ok (.goto (-32), 3) := by decide +kernel
theorem dX11_runFor_99 : decode cX11_runFor 99 = .ok (.aload 4, 2) := by decide +kernel
theorem dX11_runFor_101 : decode cX11_runFor 101 = .ok (.areturn, 1) := by decide +kernel
theorem dX11_knowing_0 : decode cX11_knowing 0 = .ok (.iconst 0, 1) := by decide +kernel
theorem dX11_knowing_1 : decode cX11_knowing 1 = .ok (.istore_n 2, 1) := by decide +kernel
theorem dX11_knowing_2 : decode cX11_knowing 2 = .ok (.iconst 0, 1) := by decide +kernel
theorem dX11_knowing_3 : decode cX11_knowing 3 = .ok (.istore_n 3, 1) := by decide +kernel
theorem dX11_knowing_4 : decode cX11_knowing 4 = .ok (.iload_n 3, 1) := by decide +kernel
theorem dX11_knowing_5 : decode cX11_knowing 5 = .ok (.aload_n 0, 1) := by decide +kernel
theorem dX11_knowing_6 : decode cX11_knowing 6 = .ok (.getfield 10, 3) := by decide +kernel
theorem dX11_knowing_9 : decode cX11_knowing 9 = .ok (.getfield 98, 3) := by decide +kernel
theorem dX11_knowing_12 : decode cX11_knowing 12 = .ok (.if_icmp .ge 54, 3) := by decide +kernel
theorem dX11_knowing_15 : decode cX11_knowing 15 = .ok (.aload_n 0, 1) := by decide +kernel
theorem dX11_knowing_16 : decode cX11_knowing 16 = .ok (.getfield 10, 3) := by decide +kernel
theorem dX11_knowing_19 : decode cX11_knowing 19 = .ok (.getfield 109, 3) := by decide +kernel
theorem dX11_knowing_22 : decode cX11_knowing 22 = .ok (.iload_n 3, 1) := by decide +kernel
theorem dX11_knowing_23 : decode cX11_knowing 23 = .ok (.aaload, 1) := by decide +kernel
theorem dX11_knowing_24 : decode cX11_knowing 24 = .ok (.ifnull 36, 3) := by decide +kernel
theorem dX11_knowing_27 : decode cX11_knowing 27 = .ok (.aload_n 0, 1) := by decide +kernel
theorem dX11_knowing_28 : decode cX11_knowing 28 = .ok (.getfield 10, 3) := by decide +kernel
theorem dX11_knowing_31 : decode cX11_knowing 31 = .ok (.getfield 109, 3) := by decide +kernel
theorem dX11_knowing_34 : decode cX11_knowing 34 = .ok (.iload_n 3, 1) := by decide +kernel
theorem dX11_knowing_35 : decode cX11_knowing 35 = .ok (.aaload, 1) := by decide +kernel
theorem dX11_knowing_36 : decode cX11_knowing 36 = .ok (.getfield 438, 3) := by decide +kernel
theorem dX11_knowing_39 : decode cX11_knowing 39 = .ok (.iload_n 1, 1) := by decide +kernel
theorem dX11_knowing_40 : decode cX11_knowing 40 = .ok (.if_icmp .gt 20, 3) := by decide +kernel
theorem dX11_knowing_43 : decode cX11_knowing 43 = .ok (.iload_n 2, 1) := by decide +kernel
theorem dX11_knowing_44 : decode cX11_knowing 44 = .ok (.aload_n 0, 1) := by decide +kernel
theorem dX11_knowing_45 : decode cX11_knowing 45 = .ok (.getfield 10, 3) := by decide +kernel
theorem dX11_knowing_48 : decode cX11_knowing 48 = .ok (.getfield 109, 3) := by decide +kernel
theorem dX11_knowing_51 : decode cX11_knowing 51 = .ok (.iload_n 3, 1) := by decide +kernel
theorem dX11_knowing_52 : decode cX11_knowing 52 = .ok (.aaload, 1) := by decide +kernel
theorem dX11_knowing_53 : decode cX11_knowing 53 = .ok (.getfield 438, 3) := by decide +kernel
theorem dX11_knowing_56 : decode cX11_knowing 56 = .ok (.invokestatic 149, 3) := by decide +kernel
theorem dX11_knowing_59 : decode cX11_knowing 59 = .ok (.istore_n 2, 1) := by decide +kernel
theorem dX11_knowing_60 : decode cX11_knowing 60 = .ok (.iinc 3 1, 3) := by decide +kernel
theorem dX11_knowing_63 : decode cX11_knowing 63 = .ok (.goto (-59), 3) := by decide +kernel
theorem dX11_knowing_66 : decode cX11_knowing 66 = .ok (.iload_n 2, 1) := by decide +kernel
theorem dX11_knowing_67 : decode cX11_knowing 67 = .ok (.aload_n 0, 1) := by decide +kernel
theorem dX11_knowing_68 : decode cX11_knowing 68 = .ok (.getfield 10, 3) := by decide +kernel
theorem dX11_knowing_71 : decode cX11_knowing 71 = .ok (.getfield 156, 3) := by decide +kernel
theorem dX11_knowing_74 : decode cX11_knowing 74 = .ok (.iconst 3, 1) := by decide +kernel
theorem dX11_knowing_75 : decode cX11_knowing 75 = .ok (.iload_n 1, 1) := by decide +kernel
theorem dX11_knowing_76 : decode cX11_knowing 76 = .ok (.invokevirtual 441, 3) := by decide +kernel
theorem dX11_knowing_79 : decode cX11_knowing 79 = .ok (.invokestatic 149, 3) := by decide +kernel
theorem dX11_knowing_82 : decode cX11_knowing 82 = .ok (.istore_n 2, 1) := by decide +kernel
theorem dX11_knowing_83 : decode cX11_knowing 83 = .ok (.iload_n 2, 1) := by decide +kernel
theorem dX11_knowing_84 : decode cX11_knowing 84 = .ok (.aload_n 0, 1) := by decide +kernel
theorem dX11_knowing_85 : decode cX11_knowing 85 = .ok (.getfield 10, 3) := by decide +kernel
theorem dX11_knowing_88 : decode cX11_knowing 88 = .ok (.getfield 179, 3) := by decide +kernel
theorem dX11_knowing_91 : decode cX11_knowing 91 = .ok (.iconst 3, 1) := by decide +kernel
theorem dX11_knowing_92 : decode cX11_knowing 92 = .ok (.iload_n 1, 1) := by decide +kernel
theorem dX11_knowing_93 : decode cX11_knowing 93 = .ok (.invokevirtual 441, 3) := by decide +kernel
theorem dX11_knowing_96 : decode cX11_knowing 96 = .ok (.invokestatic 149, 3) := by decide +kernel
theorem dX11_knowing_99 : decode cX11_knowing 99 = .ok (.istore_n 2, 1) := by decide +kernel
theorem dX11_knowing_100 : decode cX11_knowing 100 = .ok (.iload_n 2, 1) := by decide +kernel
theorem dX11_knowing_101 : decode cX11_knowing 101 = .ok (.aload_n 0, 1) := by decide +kernel
theorem dX11_knowing_102 : decode cX11_knowing 102 = .ok (.getfield 10, 3) := by decide +kernel
theorem dX11_knowing_105 : decode cX11_knowing 105 = .ok (.getfield 191, 3) := by decide +kernel
theorem dX11_knowing_108 : decode cX11_knowing 108 = .ok (.iconst 2, 1) := by decide +kernel
theorem dX11_knowing_109 : decode cX11_knowing 109 = .ok (.iload_n 1, 1) := by decide +kernel
theorem dX11_knowing_110 : decode cX11_knowing 110 = .ok (.invokevirtual 441, 3) := by decide +kernel
theorem dX11_knowing_113 : decode cX11_knowing 113 = .ok (.invokestatic 149, 3) := by decide +kernel
theorem dX11_knowing_116 : decode cX11_knowing 116 = .ok (.ireturn, 1) := by decide +kernel
def W_X11_rent_126 (X : Sx) (l : Launch) (D : Nat) (σ : AH) (r : Option Value) (σ' : AH) : Prop := ∃ d71 : Nat, ∃ v76 : Int64, ∃ σ72 : AH, d71 + 1 ≤ D ∧ Call X l m_X3_total d71 [.ref 28, .int (58 : Int32)] σ (some (.long v76)) σ72 ∧ 1 ≤ D ∧ 1 ≤ D ∧ (r = some (.int ((lmax (0 : Int64) (lmin (1000000000 : Int64) v76))).toInt32) ∧ σ' = σ72)
set_option maxRecDepth 100000 in
theorem w_X11_rent_126 {X : Sx} {l : Launch} {D : Nat} {σ : AH} {r : Option Value} {σ' : AH} (hs : Sh σ) (h : W_X11_rent_126 X l D σ r σ') : E X l m_X11_rent D 126 [(0, .ref 0)] [] σ r σ' := by
  unfold W_X11_rent_126 at h
  refine E_lconst (0 : Int64) dX11_rent_126 (by decide) ?_
  refine E_ldc2 (1000000000 : Int64) dX11_rent_127 cl_X11_306 ?_
  refine E_aload_n 0 dX11_rent_130 rfl rfl ?_
  refine E_getR 28 dX11_rent_131 fl_X11_32 rfl (sk_0 hs) (sn hs (by decide)) (sr_0_3 hs) ?_
  refine E_bipush (58 : Int32) dX11_rent_134 (by decide) ?_
  obtain ⟨d71, v76, σ72, hD73, hC74, h⟩ := h
  have hs75 := hC74.1.2.2.2.1 hs
  refine E_callV (As := [.int (58 : Int32)]) (rest := [.long (1000000000 : Int64), .long (0 : Int64)]) (r1 := (some (.long v76))) (b := 28) dX11_rent_136 ok_X3_total in_X3_total se_X3_total ml_X11_389 hD73 rfl rfl (Nat.le_of_ble_eq_true rfl) (sk_28 hs) (sn hs (by decide)) (by decide) rfl (by decide +kernel) hC74 ?_
  obtain ⟨g77, h⟩ := h
  refine E_lmin dX11_rent_139 mm_X11_312 g77 (Nat.le_of_ble_eq_true rfl) ?_
  obtain ⟨g78, h⟩ := h
  refine E_lmax dX11_rent_142 mm_X11_316 g78 (Nat.le_of_ble_eq_true rfl) ?_
  refine E_l2i dX11_rent_145 ?_
  obtain ⟨rfl, rfl⟩ := h
  exact E_iret dX11_rent_146 rfl
def W_X11_rent_0 (X : Sx) (l : Launch) (D : Nat) (x1 : Int32) (x2 : Int32) (x3 : Int32) (σ : AH) (r : Option Value) (σ' : AH) : Prop := ∃ d1 : Nat, ∃ v6 : Int32, ∃ σ2 : AH, d1 + 1 ≤ D ∧ Call X l m_X11_isPlot d1 [.ref 0, .int x1] σ (some (.int v6)) σ2 ∧ (if v6 = 0 then (r = some (.int (-1 : Int32)) ∧ σ' = σ2) else ∃ d7 : Nat, ∃ v12 : Int32, ∃ σ8 : AH, d7 + 1 ≤ D ∧ Call X l m_X11_isWeek d7 [.int x2] σ2 (some (.int v12)) σ8 ∧ (if v12 = 0 then (r = some (.int (-1 : Int32)) ∧ σ' = σ8) else ∃ d13 : Nat, ∃ v18 : Int32, ∃ σ14 : AH, d13 + 1 ≤ D ∧ Call X l m_X11_isWeek d13 [.int x3] σ8 (some (.int v18)) σ14 ∧ (if v18 = 0 then (r = some (.int (-1 : Int32)) ∧ σ' = σ14) else ∃ d19 : Nat, ∃ b24 : Nat, ∃ σ20 : AH, d19 + 1 ≤ D ∧ Call X l m_X11_runFor d19 [.ref 0, .int x3, .int (0 : Int32)] σ14 (some (.ref b24)) σ20 ∧ b24 ∈ runIds ∧ ∃ d26 : Nat, ∃ v31 : Int32, ∃ σ27 : AH, d26 + 1 ≤ D ∧ Call X l m_X6_isDoneBy d26 [.ref b24, .int x1, .int x2] σ20 (some (.int v31)) σ27 ∧ (if v31 = 0 then (r = some (.int (-1 : Int32)) ∧ σ' = σ27) else ∃ d32 : Nat, ∃ v37 : Int32, ∃ σ33 : AH, d32 + 1 ≤ D ∧ Call X l m_X2_endOf d32 [.ref 119, .int x1, .ref b24, .int x3] σ27 (some (.int v37)) σ33 ∧ (if x2 < v37 then ∃ d38 : Nat, ∃ v43 : Int32, ∃ σ39 : AH, d38 + 1 ≤ D ∧ Call X l m_X2_livedStay d38 [.ref 119, .int x1, .int x2] σ33 (some (.int v43)) σ39 ∧ ∃ d44 : Nat, ∃ σ45 : AH, d44 + 1 ≤ D ∧ Call X l m_X3_settle d44 [.ref 28, .int x2, .int x3] σ39 none σ45 ∧ ∃ d49 : Nat, ∃ v54 : Int32, ∃ σ50 : AH, d49 + 1 ≤ D ∧ Call X l m_X8_at d49 [.ref 9, .int x1, .int (2 : Int32)] σ45 (some (.int v54)) σ50 ∧ ∃ d55 : Nat, ∃ σ56 : AH, d55 + 1 ≤ D ∧ Call X l m_X3_ask d55 [.ref 28, .int v54, .int x2] σ50 none σ56 ∧ (if v43 = (-1 : Int32) then W_X11_rent_126 X l D σ56 r σ' else ∃ d60 : Nat, ∃ v65 : Int32, ∃ σ61 : AH, d60 + 1 ≤ D ∧ Call X l m_X8_at d60 [.ref 17, .int v43, .int (1 : Int32)] σ56 (some (.int v65)) σ61 ∧ ∃ d66 : Nat, ∃ σ67 : AH, d66 + 1 ≤ D ∧ Call X l m_X3_askOf d66 [.ref 28, .int v65, .int (0 : Int32)] σ61 none σ67 ∧ W_X11_rent_126 X l D σ67 r σ') else (r = some (.int (-1 : Int32)) ∧ σ' = σ33))))))
set_option maxRecDepth 100000 in
theorem w_X11_rent_0 {X : Sx} {l : Launch} {D : Nat} {x1 : Int32} {x2 : Int32} {x3 : Int32} {σ : AH} {r : Option Value} {σ' : AH} (hs : Sh σ) (h : W_X11_rent_0 X l D x1 x2 x3 σ r σ') : E X l m_X11_rent D 0 [(0, .ref 0), (1, .int x1), (2, .int x2), (3, .int x3)] [] σ r σ' := by
  unfold W_X11_rent_0 at h
  refine E_aload_n 0 dX11_rent_0 rfl rfl ?_
  refine E_iload_n 1 dX11_rent_1 rfl rfl ?_
  obtain ⟨d1, v6, σ2, hD3, hC4, h⟩ := h
  have hs5 := hC4.1.2.2.2.1 hs
  refine E_callV (As := [.int x1]) (rest := []) (r1 := (some (.int v6))) (b := 0) dX11_rent_2 ok_X11_isPlot in_X11_isPlot se_X11_isPlot ml_X11_185 hD3 rfl rfl (Nat.le_of_ble_eq_true rfl) (sk_0 hs) (sn hs (by decide)) (by decide) rfl (by decide +kernel) hC4 ?_
  refine E_if_eq 22 dX11_rent_5 (by decide) (fun c => ?_) (fun c => ?_)
  · rw [if_pos c] at h
    refine E_iconst (-1 : Int32) dX11_rent_22 (by decide) ?_
    obtain ⟨rfl, rfl⟩ := h
    exact E_iret dX11_rent_23 rfl
  · rw [if_neg c] at h
    refine E_iload_n 2 dX11_rent_8 rfl rfl ?_
    obtain ⟨d7, v12, σ8, hD9, hC10, h⟩ := h
    have hs11 := hC10.1.2.2.2.1 hs5
    refine E_callS (As := [.int x2]) (rest := []) (r1 := (some (.int v12))) dX11_rent_9 ok_X11_isWeek is_X11_isWeek ml_X11_95 hD9 rfl rfl (Nat.le_of_ble_eq_true rfl) (by decide +kernel) hC10 ?_
    refine E_if_eq 22 dX11_rent_12 (by decide) (fun c => ?_) (fun c => ?_)
    · rw [if_pos c] at h
      refine E_iconst (-1 : Int32) dX11_rent_22 (by decide) ?_
      obtain ⟨rfl, rfl⟩ := h
      exact E_iret dX11_rent_23 rfl
    · rw [if_neg c] at h
      refine E_iload_n 3 dX11_rent_15 rfl rfl ?_
      obtain ⟨d13, v18, σ14, hD15, hC16, h⟩ := h
      have hs17 := hC16.1.2.2.2.1 hs11
      refine E_callS (As := [.int x3]) (rest := []) (r1 := (some (.int v18))) dX11_rent_16 ok_X11_isWeek is_X11_isWeek ml_X11_95 hD15 rfl rfl (Nat.le_of_ble_eq_true rfl) (by decide +kernel) hC16 ?_
      refine E_if_ne 24 dX11_rent_19 (by decide) (fun c => ?_) (fun c => ?_)
      · rw [if_neg c] at h
        refine E_aload_n 0 dX11_rent_24 rfl rfl ?_
        refine E_iload_n 3 dX11_rent_25 rfl rfl ?_
        refine E_iconst (0 : Int32) dX11_rent_26 (by decide) ?_
        obtain ⟨d19, b24, σ20, hD21, hC22, hm25, h⟩ := h
        have hs23 := hC22.1.2.2.2.1 hs17
        refine E_callV (As := [.int x3, .int (0 : Int32)]) (rest := []) (r1 := (some (.ref b24))) (b := 0) dX11_rent_27 ok_X11_runFor in_X11_runFor se_X11_runFor ml_X11_194 hD21 rfl rfl (Nat.le_of_ble_eq_true rfl) (sk_0 hs17) (sn hs17 (by decide)) (by decide) rfl (by decide +kernel) hC22 ?_
        refine E_astore [(4, .ref b24), (0, .ref 0), (1, .int x1), (2, .int x2), (3, .int x3)] dX11_rent_30 (by decide) rfl ?_
        refine E_aload 0 dX11_rent_32 rfl ?_
        refine E_iload_n 2 dX11_rent_34 rfl rfl ?_
        refine E_iload_n 3 dX11_rent_35 rfl rfl ?_
        obtain ⟨d26, v31, σ27, hD28, hC29, h⟩ := h
        have hs30 := hC29.1.2.2.2.1 hs23
        refine E_callV (As := [.int x1, .int x2]) (rest := []) (r1 := (some (.int v31))) (b := b24) dX11_rent_36 ok_X6_isDoneBy in_X6_isDoneBy se_X6_isDoneBy ml_X11_217 hD28 rfl rfl (Nat.le_of_ble_eq_true rfl) (rn_k hs23 hm25) (rn_n hs23 hm25 (j := 0) (by decide)) (by decide) rfl (by decide +kernel) hC29 ?_
        refine E_if_eq 57 dX11_rent_39 (by decide) (fun c => ?_) (fun c => ?_)
        · rw [if_pos c] at h
          refine E_iconst (-1 : Int32) dX11_rent_57 (by decide) ?_
          obtain ⟨rfl, rfl⟩ := h
          exact E_iret dX11_rent_58 rfl
        · rw [if_neg c] at h
          refine E_aload_n 1 dX11_rent_42 rfl rfl ?_
          refine E_getR 119 dX11_rent_43 fl_X11_76 rfl (sk_0 hs30) (sn hs30 (by decide)) (sr_0_9 hs30) ?_
          refine E_iload_n 2 dX11_rent_46 rfl rfl ?_
          refine E_aload 0 dX11_rent_47 rfl ?_
          refine E_iload_n 4 dX11_rent_49 rfl rfl ?_
          obtain ⟨d32, v37, σ33, hD34, hC35, h⟩ := h
          have hs36 := hC35.1.2.2.2.1 hs30
          refine E_callV (As := [.int x1, .ref b24, .int x3]) (rest := []) (r1 := (some (.int v37))) (b := 119) dX11_rent_50 ok_X2_endOf in_X2_endOf se_X2_endOf ml_X11_382 hD34 rfl rfl (Nat.le_of_ble_eq_true rfl) (sk_119 hs30) (sn hs30 (by decide)) (by decide) rfl (by decide +kernel) hC35 ?_
          refine E_iload_n 3 dX11_rent_53 rfl rfl ?_
          refine E_icmp_gt 59 dX11_rent_54 (by decide) (fun c => ?_) (fun c => ?_)
          · rw [if_pos c] at h
            refine E_aload_n 1 dX11_rent_59 rfl rfl ?_
            refine E_getR 119 dX11_rent_60 fl_X11_76 rfl (sk_0 hs36) (sn hs36 (by decide)) (sr_0_9 hs36) ?_
            refine E_iload_n 2 dX11_rent_63 rfl rfl ?_
            refine E_iload_n 3 dX11_rent_64 rfl rfl ?_
            obtain ⟨d38, v43, σ39, hD40, hC41, h⟩ := h
            have hs42 := hC41.1.2.2.2.1 hs36
            refine E_callV (As := [.int x1, .int x2]) (rest := []) (r1 := (some (.int v43))) (b := 119) dX11_rent_65 ok_X2_livedStay in_X2_livedStay se_X2_livedStay ml_X11_353 hD40 rfl rfl (Nat.le_of_ble_eq_true rfl) (sk_119 hs36) (sn hs36 (by decide)) (by decide) rfl (by decide +kernel) hC41 ?_
            refine E_istore [(5, .int v43), (4, .ref b24), (0, .ref 0), (1, .int x1), (2, .int x2), (3, .int x3)] dX11_rent_68 (by decide) rfl ?_
            refine E_aload_n 2 dX11_rent_70 rfl rfl ?_
            refine E_getR 28 dX11_rent_71 fl_X11_32 rfl (sk_0 hs42) (sn hs42 (by decide)) (sr_0_3 hs42) ?_
            refine E_iload_n 4 dX11_rent_74 rfl rfl ?_
            refine E_iload_n 5 dX11_rent_75 rfl rfl ?_
            obtain ⟨d44, σ45, hD46, hC47, h⟩ := h
            have hs48 := hC47.1.2.2.2.1 hs42
            refine E_callV (As := [.int x2, .int x3]) (rest := []) (r1 := none) (b := 28) dX11_rent_76 ok_X3_settle in_X3_settle se_X3_settle ml_X11_131 hD46 rfl rfl (Nat.le_of_ble_eq_true rfl) (sk_28 hs42) (sn hs42 (by decide)) (by decide) rfl (by decide +kernel) hC47 ?_
            refine E_aload_n 2 dX11_rent_79 rfl rfl ?_
            refine E_getR 28 dX11_rent_80 fl_X11_32 rfl (sk_0 hs48) (sn hs48 (by decide)) (sr_0_3 hs48) ?_
            refine E_aload_n 2 dX11_rent_83 rfl rfl ?_
            refine E_getR 1 dX11_rent_84 fl_X11_10 rfl (sk_0 hs48) (sn hs48 (by decide)) (sr_0_0 hs48) ?_
            refine E_getR 9 dX11_rent_87 fl_X11_182 rfl (sk_1 hs48) (sn hs48 (by decide)) (sr_1_5 hs48) ?_
            refine E_iload_n 3 dX11_rent_90 rfl rfl ?_
            refine E_iconst (2 : Int32) dX11_rent_91 (by decide) ?_
            obtain ⟨d49, v54, σ50, hD51, hC52, h⟩ := h
            have hs53 := hC52.1.2.2.2.1 hs48
            refine E_callV (As := [.int x1, .int (2 : Int32)]) (rest := [.ref 28]) (r1 := (some (.int v54))) (b := 9) dX11_rent_92 ok_X8_at in_X8_at se_X8_at ml_X11_223 hD51 rfl rfl (Nat.le_of_ble_eq_true rfl) (sk_9 hs48) (sn hs48 (by decide)) (by decide) rfl (by decide +kernel) hC52 ?_
            refine E_iload_n 4 dX11_rent_95 rfl rfl ?_
            obtain ⟨d55, σ56, hD57, hC58, h⟩ := h
            have hs59 := hC58.1.2.2.2.1 hs53
            refine E_callV (As := [.int v54, .int x2]) (rest := []) (r1 := none) (b := 28) dX11_rent_96 ok_X3_ask in_X3_ask se_X3_ask ml_X11_139 hD57 rfl rfl (Nat.le_of_ble_eq_true rfl) (sk_28 hs53) (sn hs53 (by decide)) (by decide) rfl (by decide +kernel) hC58 ?_
            refine E_iload 0 dX11_rent_99 rfl ?_
            refine E_iconst (-1 : Int32) dX11_rent_101 (by decide) ?_
            refine E_icmp_eq 126 dX11_rent_102 (by decide) (fun c => ?_) (fun c => ?_)
            · rw [if_pos c] at h
              exact E_lv [2] rfl (w_X11_rent_126 hs59 h)
            · rw [if_neg c] at h
              refine E_aload_n 2 dX11_rent_105 rfl rfl ?_
              refine E_getR 28 dX11_rent_106 fl_X11_32 rfl (sk_0 hs59) (sn hs59 (by decide)) (sr_0_3 hs59) ?_
              refine E_aload_n 2 dX11_rent_109 rfl rfl ?_
              refine E_getR 1 dX11_rent_110 fl_X11_10 rfl (sk_0 hs59) (sn hs59 (by decide)) (sr_0_0 hs59) ?_
              refine E_getR 17 dX11_rent_113 fl_X11_356 rfl (sk_1 hs59) (sn hs59 (by decide)) (sr_1_9 hs59) ?_
              refine E_iload 0 dX11_rent_116 rfl ?_
              refine E_iconst (1 : Int32) dX11_rent_118 (by decide) ?_
              obtain ⟨d60, v65, σ61, hD62, hC63, h⟩ := h
              have hs64 := hC63.1.2.2.2.1 hs59
              refine E_callV (As := [.int v43, .int (1 : Int32)]) (rest := [.ref 28]) (r1 := (some (.int v65))) (b := 17) dX11_rent_119 ok_X8_at in_X8_at se_X8_at ml_X11_223 hD62 rfl rfl (Nat.le_of_ble_eq_true rfl) (sk_17 hs59) (sn hs59 (by decide)) (by decide) rfl (by decide +kernel) hC63 ?_
              refine E_iconst (0 : Int32) dX11_rent_122 (by decide) ?_
              obtain ⟨d66, σ67, hD68, hC69, h⟩ := h
              have hs70 := hC69.1.2.2.2.1 hs64
              refine E_callV (As := [.int v65, .int (0 : Int32)]) (rest := []) (r1 := none) (b := 28) dX11_rent_123 ok_X3_askOf in_X3_askOf se_X3_askOf ml_X11_386 hD68 rfl rfl (Nat.le_of_ble_eq_true rfl) (sk_28 hs64) (sn hs64 (by decide)) (by decide) rfl (by decide +kernel) hC69 ?_
              exact E_lv [2] rfl (w_X11_rent_126 hs70 h)
          · rw [if_neg c] at h
            refine E_iconst (-1 : Int32) dX11_rent_57 (by decide) ?_
            obtain ⟨rfl, rfl⟩ := h
            exact E_iret dX11_rent_58 rfl
      · rw [if_pos c] at h
        refine E_iconst (-1 : Int32) dX11_rent_22 (by decide) ?_
        obtain ⟨rfl, rfl⟩ := h
        exact E_iret dX11_rent_23 rfl
def W_X11_lodge_31 (X : Sx) (l : Launch) (D : Nat) (σ : AH) (r : Option Value) (σ' : AH) : Prop := ∃ d81 : Nat, ∃ v86 : Int32, ∃ σ82 : AH, d81 + 1 ≤ D ∧ Call X l m_X11_answer d81 [.ref 0, .int (-1 : Int32)] σ (some (.int v86)) σ82 ∧ (r = some (.int v86) ∧ σ' = σ82)
set_option maxRecDepth 100000 in
theorem w_X11_lodge_31 {X : Sx} {l : Launch} {D : Nat} {σ : AH} {r : Option Value} {σ' : AH} (hs : Sh σ) (h : W_X11_lodge_31 X l D σ r σ') : E X l m_X11_lodge D 31 [(0, .ref 0)] [] σ r σ' := by
  unfold W_X11_lodge_31 at h
  refine E_aload_n 0 dX11_lodge_31 rfl rfl ?_
  refine E_iconst (-1 : Int32) dX11_lodge_32 (by decide) ?_
  obtain ⟨d81, v86, σ82, hD83, hC84, h⟩ := h
  have hs85 := hC84.1.2.2.2.1 hs
  refine E_callV (As := [.int (-1 : Int32)]) (rest := []) (r1 := (some (.int v86))) (b := 0) dX11_lodge_33 ok_X11_answer in_X11_answer se_X11_answer ml_X11_105 hD83 rfl rfl (Nat.le_of_ble_eq_true rfl) (sk_0 hs) (sn hs (by decide)) (by decide) rfl (by decide +kernel) hC84 ?_
  obtain ⟨rfl, rfl⟩ := h
  exact E_iret dX11_lodge_36 rfl
def W_X11_lodge_0 (X : Sx) (l : Launch) (D : Nat) (x1 : Int32) (x2 : Int32) (x3 : Int32) (x4 : Int32) (σ : AH) (r : Option Value) (σ' : AH) : Prop := ∃ d1 : Nat, ∃ v6 : Int32, ∃ σ2 : AH, d1 + 1 ≤ D ∧ Call X l m_X11_isIn d1 [.int x2, .int (1 : Int32), .int (20 : Int32)] σ (some (.int v6)) σ2 ∧ (if v6 = 0 then W_X11_lodge_31 X l D σ2 r σ' else ∃ d7 : Nat, ∃ v12 : Int32, ∃ σ8 : AH, d7 + 1 ≤ D ∧ Call X l m_X11_isWeek d7 [.int x3] σ2 (some (.int v12)) σ8 ∧ (if v12 = 0 then W_X11_lodge_31 X l D σ8 r σ' else ∃ d13 : Nat, ∃ v18 : Int32, ∃ σ14 : AH, d13 + 1 ≤ D ∧ Call X l m_X11_isWeek d13 [.int x4] σ8 (some (.int v18)) σ14 ∧ (if v18 = 0 then W_X11_lodge_31 X l D σ14 r σ' else (if x3 ≤ x4 then ∃ d19 : Nat, ∃ v24 : Int32, ∃ σ20 : AH, d19 + 1 ≤ D ∧ Call X l m_X11_isPlot d19 [.ref 0, .int x1] σ14 (some (.int v24)) σ20 ∧ (if v24 = 0 then ∃ d75 : Nat, ∃ v80 : Int32, ∃ σ76 : AH, d75 + 1 ≤ D ∧ Call X l m_X11_answer d75 [.ref 0, .int (-2 : Int32)] σ20 (some (.int v80)) σ76 ∧ (r = some (.int v80) ∧ σ' = σ76) else ∃ d25 : Nat, ∃ v30 : Int32, ∃ σ26 : AH, d25 + 1 ≤ D ∧ Call X l m_X8_isFull d25 [.ref 15] σ20 (some (.int v30)) σ26 ∧ (if v30 = 0 then ∃ d31 : Nat, ∃ v36 : Int32, ∃ σ32 : AH, d31 + 1 ≤ D ∧ Call X l m_X8_add d31 [.ref 15] σ26 (some (.int v36)) σ32 ∧ ∃ d37 : Nat, ∃ σ38 : AH, d37 + 1 ≤ D ∧ Call X l m_X8_put d37 [.ref 15, .int v36, .int (0 : Int32), .int x1] σ32 none σ38 ∧ ∃ d42 : Nat, ∃ σ43 : AH, d42 + 1 ≤ D ∧ Call X l m_X8_put d42 [.ref 15, .int v36, .int (1 : Int32), .int x2] σ38 none σ43 ∧ ∃ d47 : Nat, ∃ σ48 : AH, d47 + 1 ≤ D ∧ Call X l m_X8_put d47 [.ref 15, .int v36, .int (2 : Int32), .int x3] σ43 none σ48 ∧ ∃ d52 : Nat, ∃ σ53 : AH, d52 + 1 ≤ D ∧ Call X l m_X8_put d52 [.ref 15, .int v36, .int (3 : Int32), .int x4] σ48 none σ53 ∧ ∃ d57 : Nat, ∃ v62 : Int32, ∃ σ58 : AH, d57 + 1 ≤ D ∧ Call X l m_X8_rows d57 [.ref 15] σ53 (some (.int v62)) σ58 ∧ ∃ d63 : Nat, ∃ v68 : Int32, ∃ σ64 : AH, d63 + 1 ≤ D ∧ Call X l m_X11_answer d63 [.ref 0, .int v62] σ58 (some (.int v68)) σ64 ∧ (r = some (.int v68) ∧ σ' = σ64) else ∃ d69 : Nat, ∃ v74 : Int32, ∃ σ70 : AH, d69 + 1 ≤ D ∧ Call X l m_X11_answer d69 [.ref 0, .int (-5 : Int32)] σ26 (some (.int v74)) σ70 ∧ (r = some (.int v74) ∧ σ' = σ70))) else W_X11_lodge_31 X l D σ14 r σ'))))
set_option maxRecDepth 100000 in
theorem w_X11_lodge_0 {X : Sx} {l : Launch} {D : Nat} {x1 : Int32} {x2 : Int32} {x3 : Int32} {x4 : Int32} {σ : AH} {r : Option Value} {σ' : AH} (hs : Sh σ) (h : W_X11_lodge_0 X l D x1 x2 x3 x4 σ r σ') : E X l m_X11_lodge D 0 [(0, .ref 0), (1, .int x1), (2, .int x2), (3, .int x3), (4, .int x4)] [] σ r σ' := by
  unfold W_X11_lodge_0 at h
  refine E_iload_n 2 dX11_lodge_0 rfl rfl ?_
  refine E_iconst (1 : Int32) dX11_lodge_1 (by decide) ?_
  refine E_bipush (20 : Int32) dX11_lodge_2 (by decide) ?_
  obtain ⟨d1, v6, σ2, hD3, hC4, h⟩ := h
  have hs5 := hC4.1.2.2.2.1 hs
  refine E_callS (As := [.int x2, .int (1 : Int32), .int (20 : Int32)]) (rest := []) (r1 := (some (.int v6))) dX11_lodge_4 ok_X11_isIn is_X11_isIn ml_X11_124 hD3 rfl rfl (Nat.le_of_ble_eq_true rfl) (by decide +kernel) hC4 ?_
  refine E_if_eq 31 dX11_lodge_7 (by decide) (fun c => ?_) (fun c => ?_)
  · rw [if_pos c] at h
    exact E_lv [0] rfl (w_X11_lodge_31 hs5 h)
  · rw [if_neg c] at h
    refine E_iload_n 3 dX11_lodge_10 rfl rfl ?_
    obtain ⟨d7, v12, σ8, hD9, hC10, h⟩ := h
    have hs11 := hC10.1.2.2.2.1 hs5
    refine E_callS (As := [.int x3]) (rest := []) (r1 := (some (.int v12))) dX11_lodge_11 ok_X11_isWeek is_X11_isWeek ml_X11_95 hD9 rfl rfl (Nat.le_of_ble_eq_true rfl) (by decide +kernel) hC10 ?_
    refine E_if_eq 31 dX11_lodge_14 (by decide) (fun c => ?_) (fun c => ?_)
    · rw [if_pos c] at h
      exact E_lv [0] rfl (w_X11_lodge_31 hs11 h)
    · rw [if_neg c] at h
      refine E_iload 4 dX11_lodge_17 rfl ?_
      obtain ⟨d13, v18, σ14, hD15, hC16, h⟩ := h
      have hs17 := hC16.1.2.2.2.1 hs11
      refine E_callS (As := [.int x4]) (rest := []) (r1 := (some (.int v18))) dX11_lodge_19 ok_X11_isWeek is_X11_isWeek ml_X11_95 hD15 rfl rfl (Nat.le_of_ble_eq_true rfl) (by decide +kernel) hC16 ?_
      refine E_if_eq 31 dX11_lodge_22 (by decide) (fun c => ?_) (fun c => ?_)
      · rw [if_pos c] at h
        exact E_lv [0] rfl (w_X11_lodge_31 hs17 h)
      · rw [if_neg c] at h
        refine E_iload 4 dX11_lodge_25 rfl ?_
        refine E_iload_n 3 dX11_lodge_27 rfl rfl ?_
        refine E_icmp_ge 37 dX11_lodge_28 (by decide) (fun c => ?_) (fun c => ?_)
        · rw [if_pos c] at h
          refine E_aload_n 0 dX11_lodge_37 rfl rfl ?_
          refine E_iload_n 1 dX11_lodge_38 rfl rfl ?_
          obtain ⟨d19, v24, σ20, hD21, hC22, h⟩ := h
          have hs23 := hC22.1.2.2.2.1 hs17
          refine E_callV (As := [.int x1]) (rest := []) (r1 := (some (.int v24))) (b := 0) dX11_lodge_39 ok_X11_isPlot in_X11_isPlot se_X11_isPlot ml_X11_185 hD21 rfl rfl (Nat.le_of_ble_eq_true rfl) (sk_0 hs17) (sn hs17 (by decide)) (by decide) rfl (by decide +kernel) hC22 ?_
          refine E_if_ne 52 dX11_lodge_42 (by decide) (fun c => ?_) (fun c => ?_)
          · rw [if_neg c] at h
            refine E_aload_n 0 dX11_lodge_52 rfl rfl ?_
            refine E_getR 1 dX11_lodge_53 fl_X11_10 rfl (sk_0 hs23) (sn hs23 (by decide)) (sr_0_0 hs23) ?_
            refine E_getR 15 dX11_lodge_56 fl_X11_393 rfl (sk_1 hs23) (sn hs23 (by decide)) (sr_1_8 hs23) ?_
            obtain ⟨d25, v30, σ26, hD27, hC28, h⟩ := h
            have hs29 := hC28.1.2.2.2.1 hs23
            refine E_callV (As := []) (rest := []) (r1 := (some (.int v30))) (b := 15) dX11_lodge_59 ok_X8_isFull in_X8_isFull se_X8_isFull ml_X11_160 hD27 rfl rfl (Nat.le_of_ble_eq_true rfl) (sk_15 hs23) (sn hs23 (by decide)) (by decide) rfl (by decide +kernel) hC28 ?_
            refine E_if_eq 72 dX11_lodge_62 (by decide) (fun c => ?_) (fun c => ?_)
            · rw [if_pos c] at h
              refine E_aload_n 0 dX11_lodge_72 rfl rfl ?_
              refine E_getR 1 dX11_lodge_73 fl_X11_10 rfl (sk_0 hs29) (sn hs29 (by decide)) (sr_0_0 hs29) ?_
              refine E_getR 15 dX11_lodge_76 fl_X11_393 rfl (sk_1 hs29) (sn hs29 (by decide)) (sr_1_8 hs29) ?_
              obtain ⟨d31, v36, σ32, hD33, hC34, h⟩ := h
              have hs35 := hC34.1.2.2.2.1 hs29
              refine E_callV (As := []) (rest := []) (r1 := (some (.int v36))) (b := 15) dX11_lodge_79 ok_X8_add in_X8_add se_X8_add ml_X11_166 hD33 rfl rfl (Nat.le_of_ble_eq_true rfl) (sk_15 hs29) (sn hs29 (by decide)) (by decide) rfl (by decide +kernel) hC34 ?_
              refine E_istore [(5, .int v36), (0, .ref 0), (1, .int x1), (2, .int x2), (3, .int x3), (4, .int x4)] dX11_lodge_82 (by decide) rfl ?_
              refine E_aload_n 1 dX11_lodge_84 rfl rfl ?_
              refine E_getR 1 dX11_lodge_85 fl_X11_10 rfl (sk_0 hs35) (sn hs35 (by decide)) (sr_0_0 hs35) ?_
              refine E_getR 15 dX11_lodge_88 fl_X11_393 rfl (sk_1 hs35) (sn hs35 (by decide)) (sr_1_8 hs35) ?_
              refine E_iload 0 dX11_lodge_91 rfl ?_
              refine E_iconst (0 : Int32) dX11_lodge_93 (by decide) ?_
              refine E_iload_n 2 dX11_lodge_94 rfl rfl ?_
              obtain ⟨d37, σ38, hD39, hC40, h⟩ := h
              have hs41 := hC40.1.2.2.2.1 hs35
              refine E_callV (As := [.int v36, .int (0 : Int32), .int x1]) (rest := []) (r1 := none) (b := 15) dX11_lodge_95 ok_X8_put in_X8_put se_X8_put ml_X11_169 hD39 rfl rfl (Nat.le_of_ble_eq_true rfl) (sk_15 hs35) (sn hs35 (by decide)) (by decide) rfl (by decide +kernel) hC40 ?_
              refine E_aload_n 1 dX11_lodge_98 rfl rfl ?_
              refine E_getR 1 dX11_lodge_99 fl_X11_10 rfl (sk_0 hs41) (sn hs41 (by decide)) (sr_0_0 hs41) ?_
              refine E_getR 15 dX11_lodge_102 fl_X11_393 rfl (sk_1 hs41) (sn hs41 (by decide)) (sr_1_8 hs41) ?_
              refine E_iload 0 dX11_lodge_105 rfl ?_
              refine E_iconst (1 : Int32) dX11_lodge_107 (by decide) ?_
              refine E_iload_n 3 dX11_lodge_108 rfl rfl ?_
              obtain ⟨d42, σ43, hD44, hC45, h⟩ := h
              have hs46 := hC45.1.2.2.2.1 hs41
              refine E_callV (As := [.int v36, .int (1 : Int32), .int x2]) (rest := []) (r1 := none) (b := 15) dX11_lodge_109 ok_X8_put in_X8_put se_X8_put ml_X11_169 hD44 rfl rfl (Nat.le_of_ble_eq_true rfl) (sk_15 hs41) (sn hs41 (by decide)) (by decide) rfl (by decide +kernel) hC45 ?_
              refine E_aload_n 1 dX11_lodge_112 rfl rfl ?_
              refine E_getR 1 dX11_lodge_113 fl_X11_10 rfl (sk_0 hs46) (sn hs46 (by decide)) (sr_0_0 hs46) ?_
              refine E_getR 15 dX11_lodge_116 fl_X11_393 rfl (sk_1 hs46) (sn hs46 (by decide)) (sr_1_8 hs46) ?_
              refine E_iload 0 dX11_lodge_119 rfl ?_
              refine E_iconst (2 : Int32) dX11_lodge_121 (by decide) ?_
              refine E_iload_n 4 dX11_lodge_122 rfl rfl ?_
              obtain ⟨d47, σ48, hD49, hC50, h⟩ := h
              have hs51 := hC50.1.2.2.2.1 hs46
              refine E_callV (As := [.int v36, .int (2 : Int32), .int x3]) (rest := []) (r1 := none) (b := 15) dX11_lodge_123 ok_X8_put in_X8_put se_X8_put ml_X11_169 hD49 rfl rfl (Nat.le_of_ble_eq_true rfl) (sk_15 hs46) (sn hs46 (by decide)) (by decide) rfl (by decide +kernel) hC50 ?_
              refine E_aload_n 1 dX11_lodge_126 rfl rfl ?_
              refine E_getR 1 dX11_lodge_127 fl_X11_10 rfl (sk_0 hs51) (sn hs51 (by decide)) (sr_0_0 hs51) ?_
              refine E_getR 15 dX11_lodge_130 fl_X11_393 rfl (sk_1 hs51) (sn hs51 (by decide)) (sr_1_8 hs51) ?_
              refine E_iload 0 dX11_lodge_133 rfl ?_
              refine E_iconst (3 : Int32) dX11_lodge_135 (by decide) ?_
              refine E_iload 5 dX11_lodge_136 rfl ?_
              obtain ⟨d52, σ53, hD54, hC55, h⟩ := h
              have hs56 := hC55.1.2.2.2.1 hs51
              refine E_callV (As := [.int v36, .int (3 : Int32), .int x4]) (rest := []) (r1 := none) (b := 15) dX11_lodge_138 ok_X8_put in_X8_put se_X8_put ml_X11_169 hD54 rfl rfl (Nat.le_of_ble_eq_true rfl) (sk_15 hs51) (sn hs51 (by decide)) (by decide) rfl (by decide +kernel) hC55 ?_
              refine E_aload_n 1 dX11_lodge_141 rfl rfl ?_
              refine E_aload_n 1 dX11_lodge_142 rfl rfl ?_
              refine E_getR 1 dX11_lodge_143 fl_X11_10 rfl (sk_0 hs56) (sn hs56 (by decide)) (sr_0_0 hs56) ?_
              refine E_getR 15 dX11_lodge_146 fl_X11_393 rfl (sk_1 hs56) (sn hs56 (by decide)) (sr_1_8 hs56) ?_
              obtain ⟨d57, v62, σ58, hD59, hC60, h⟩ := h
              have hs61 := hC60.1.2.2.2.1 hs56
              refine E_callV (As := []) (rest := [.ref 0]) (r1 := (some (.int v62))) (b := 15) dX11_lodge_149 ok_X8_rows in_X8_rows se_X8_rows ml_X11_173 hD59 rfl rfl (Nat.le_of_ble_eq_true rfl) (sk_15 hs56) (sn hs56 (by decide)) (by decide) rfl (by decide +kernel) hC60 ?_
              obtain ⟨d63, v68, σ64, hD65, hC66, h⟩ := h
              have hs67 := hC66.1.2.2.2.1 hs61
              refine E_callV (As := [.int v62]) (rest := []) (r1 := (some (.int v68))) (b := 0) dX11_lodge_152 ok_X11_answer in_X11_answer se_X11_answer ml_X11_105 hD65 rfl rfl (Nat.le_of_ble_eq_true rfl) (sk_0 hs61) (sn hs61 (by decide)) (by decide) rfl (by decide +kernel) hC66 ?_
              obtain ⟨rfl, rfl⟩ := h
              exact E_iret dX11_lodge_155 rfl
            · rw [if_neg c] at h
              refine E_aload_n 0 dX11_lodge_65 rfl rfl ?_
              refine E_bipush (-5 : Int32) dX11_lodge_66 (by decide) ?_
              obtain ⟨d69, v74, σ70, hD71, hC72, h⟩ := h
              have hs73 := hC72.1.2.2.2.1 hs29
              refine E_callV (As := [.int (-5 : Int32)]) (rest := []) (r1 := (some (.int v74))) (b := 0) dX11_lodge_68 ok_X11_answer in_X11_answer se_X11_answer ml_X11_105 hD71 rfl rfl (Nat.le_of_ble_eq_true rfl) (sk_0 hs29) (sn hs29 (by decide)) (by decide) rfl (by decide +kernel) hC72 ?_
              obtain ⟨rfl, rfl⟩ := h
              exact E_iret dX11_lodge_71 rfl
          · rw [if_pos c] at h
            refine E_aload_n 0 dX11_lodge_45 rfl rfl ?_
            refine E_bipush (-2 : Int32) dX11_lodge_46 (by decide) ?_
            obtain ⟨d75, v80, σ76, hD77, hC78, h⟩ := h
            have hs79 := hC78.1.2.2.2.1 hs23
            refine E_callV (As := [.int (-2 : Int32)]) (rest := []) (r1 := (some (.int v80))) (b := 0) dX11_lodge_48 ok_X11_answer in_X11_answer se_X11_answer ml_X11_105 hD77 rfl rfl (Nat.le_of_ble_eq_true rfl) (sk_0 hs23) (sn hs23 (by decide)) (by decide) rfl (by decide +kernel) hC78 ?_
            obtain ⟨rfl, rfl⟩ := h
            exact E_iret dX11_lodge_51 rfl
        · rw [if_neg c] at h
          exact E_lv [0] rfl (w_X11_lodge_31 hs17 h)
def W_X11_under_59 (X : Sx) (l : Launch) (D : Nat) (x1 : Int32) (x2 : Int32) (y0 : Int32) (σ : AH) (r : Option Value) (σ' : AH) : Prop := E X l m_X11_under D 64 [(0, .ref 0), (1, .int x1), (2, .int x2), (4, .int y0), (5, .int (0 : Int32))] [] σ r σ'
set_option maxRecDepth 100000 in
theorem w_X11_under_59 {X : Sx} {l : Launch} {D : Nat} {x1 : Int32} {x2 : Int32} {y0 : Int32} {σ : AH} {r : Option Value} {σ' : AH} (hs : Sh σ) (h : W_X11_under_59 X l D x1 x2 y0 σ r σ') : E X l m_X11_under D 59 [(0, .ref 0), (1, .int x1), (2, .int x2)] [.int y0] σ r σ' := by
  unfold W_X11_under_59 at h
  refine E_istore [(4, .int y0), (0, .ref 0), (1, .int x1), (2, .int x2)] dX11_under_59 (by decide) rfl ?_
  refine E_iconst (0 : Int32) dX11_under_61 (by decide) ?_
  refine E_istore [(5, .int (0 : Int32)), (4, .int y0), (0, .ref 0), (1, .int x1), (2, .int x2)] dX11_under_62 (by decide) rfl ?_
  exact E_lv [2, 3, 4, 1, 0] rfl h
def W_X11_under_0 (X : Sx) (l : Launch) (D : Nat) (x1 : Int32) (x2 : Int32) (σ : AH) (r : Option Value) (σ' : AH) : Prop := ∃ d1 : Nat, ∃ v6 : Int32, ∃ σ2 : AH, d1 + 1 ≤ D ∧ Call X l m_X11_isPlot d1 [.ref 0, .int x1] σ (some (.int v6)) σ2 ∧ (if v6 = 0 then (r = some (.int (-1 : Int32)) ∧ σ' = σ2) else ∃ d7 : Nat, ∃ v12 : Int32, ∃ σ8 : AH, d7 + 1 ≤ D ∧ Call X l m_X11_isWeek d7 [.int x2] σ2 (some (.int v12)) σ8 ∧ (if v12 = 0 then (r = some (.int (-1 : Int32)) ∧ σ' = σ8) else ∃ d13 : Nat, ∃ v18 : Int32, ∃ σ14 : AH, d13 + 1 ≤ D ∧ Call X l m_X2_livedStay d13 [.ref 119, .int x1, .int x2] σ8 (some (.int v18)) σ14 ∧ (if v18 = (-1 : Int32) then W_X11_under_59 X l D x1 x2 (0 : Int32) σ14 r σ' else ∃ d19 : Nat, ∃ v24 : Int32, ∃ σ20 : AH, d19 + 1 ≤ D ∧ Call X l m_X8_at d19 [.ref 17, .int v18, .int (1 : Int32)] σ14 (some (.int v24)) σ20 ∧ ∃ d25 : Nat, ∃ v30 : Int32, ∃ σ26 : AH, d25 + 1 ≤ D ∧ Call X l m_X8_at d25 [.ref 13, .int v24, .int (2 : Int32)] σ20 (some (.int v30)) σ26 ∧ W_X11_under_59 X l D x1 x2 v30 σ26 r σ')))
set_option maxRecDepth 100000 in
theorem w_X11_under_0 {X : Sx} {l : Launch} {D : Nat} {x1 : Int32} {x2 : Int32} {σ : AH} {r : Option Value} {σ' : AH} (hs : Sh σ) (h : W_X11_under_0 X l D x1 x2 σ r σ') : E X l m_X11_under D 0 [(0, .ref 0), (1, .int x1), (2, .int x2)] [] σ r σ' := by
  unfold W_X11_under_0 at h
  refine E_aload_n 0 dX11_under_0 rfl rfl ?_
  refine E_iload_n 1 dX11_under_1 rfl rfl ?_
  obtain ⟨d1, v6, σ2, hD3, hC4, h⟩ := h
  have hs5 := hC4.1.2.2.2.1 hs
  refine E_callV (As := [.int x1]) (rest := []) (r1 := (some (.int v6))) (b := 0) dX11_under_2 ok_X11_isPlot in_X11_isPlot se_X11_isPlot ml_X11_185 hD3 rfl rfl (Nat.le_of_ble_eq_true rfl) (sk_0 hs) (sn hs (by decide)) (by decide) rfl (by decide +kernel) hC4 ?_
  refine E_if_eq 15 dX11_under_5 (by decide) (fun c => ?_) (fun c => ?_)
  · rw [if_pos c] at h
    refine E_iconst (-1 : Int32) dX11_under_15 (by decide) ?_
    obtain ⟨rfl, rfl⟩ := h
    exact E_iret dX11_under_16 rfl
  · rw [if_neg c] at h
    refine E_iload_n 2 dX11_under_8 rfl rfl ?_
    obtain ⟨d7, v12, σ8, hD9, hC10, h⟩ := h
    have hs11 := hC10.1.2.2.2.1 hs5
    refine E_callS (As := [.int x2]) (rest := []) (r1 := (some (.int v12))) dX11_under_9 ok_X11_isWeek is_X11_isWeek ml_X11_95 hD9 rfl rfl (Nat.le_of_ble_eq_true rfl) (by decide +kernel) hC10 ?_
    refine E_if_ne 17 dX11_under_12 (by decide) (fun c => ?_) (fun c => ?_)
    · rw [if_neg c] at h
      refine E_aload_n 0 dX11_under_17 rfl rfl ?_
      refine E_getR 119 dX11_under_18 fl_X11_76 rfl (sk_0 hs11) (sn hs11 (by decide)) (sr_0_9 hs11) ?_
      refine E_iload_n 1 dX11_under_21 rfl rfl ?_
      refine E_iload_n 2 dX11_under_22 rfl rfl ?_
      obtain ⟨d13, v18, σ14, hD15, hC16, h⟩ := h
      have hs17 := hC16.1.2.2.2.1 hs11
      refine E_callV (As := [.int x1, .int x2]) (rest := []) (r1 := (some (.int v18))) (b := 119) dX11_under_23 ok_X2_livedStay in_X2_livedStay se_X2_livedStay ml_X11_353 hD15 rfl rfl (Nat.le_of_ble_eq_true rfl) (sk_119 hs11) (sn hs11 (by decide)) (by decide) rfl (by decide +kernel) hC16 ?_
      refine E_istore_n [(3, .int v18), (0, .ref 0), (1, .int x1), (2, .int x2)] dX11_under_26 rfl (by decide) rfl ?_
      refine E_iload_n 0 dX11_under_27 rfl rfl ?_
      refine E_iconst (-1 : Int32) dX11_under_28 (by decide) ?_
      refine E_icmp_ne 36 dX11_under_29 (by decide) (fun c => ?_) (fun c => ?_)
      · rw [if_neg c] at h
        refine E_aload_n 1 dX11_under_36 rfl rfl ?_
        refine E_getR 1 dX11_under_37 fl_X11_10 rfl (sk_0 hs17) (sn hs17 (by decide)) (sr_0_0 hs17) ?_
        refine E_getR 13 dX11_under_40 fl_X11_286 rfl (sk_1 hs17) (sn hs17 (by decide)) (sr_1_7 hs17) ?_
        refine E_aload_n 1 dX11_under_43 rfl rfl ?_
        refine E_getR 1 dX11_under_44 fl_X11_10 rfl (sk_0 hs17) (sn hs17 (by decide)) (sr_0_0 hs17) ?_
        refine E_getR 17 dX11_under_47 fl_X11_356 rfl (sk_1 hs17) (sn hs17 (by decide)) (sr_1_9 hs17) ?_
        refine E_iload_n 0 dX11_under_50 rfl rfl ?_
        refine E_iconst (1 : Int32) dX11_under_51 (by decide) ?_
        obtain ⟨d19, v24, σ20, hD21, hC22, h⟩ := h
        have hs23 := hC22.1.2.2.2.1 hs17
        refine E_callV (As := [.int v18, .int (1 : Int32)]) (rest := [.ref 13]) (r1 := (some (.int v24))) (b := 17) dX11_under_52 ok_X8_at in_X8_at se_X8_at ml_X11_223 hD21 rfl rfl (Nat.le_of_ble_eq_true rfl) (sk_17 hs17) (sn hs17 (by decide)) (by decide) rfl (by decide +kernel) hC22 ?_
        refine E_iconst (2 : Int32) dX11_under_55 (by decide) ?_
        obtain ⟨d25, v30, σ26, hD27, hC28, h⟩ := h
        have hs29 := hC28.1.2.2.2.1 hs23
        refine E_callV (As := [.int v24, .int (2 : Int32)]) (rest := []) (r1 := (some (.int v30))) (b := 13) dX11_under_56 ok_X8_at in_X8_at se_X8_at ml_X11_223 hD27 rfl rfl (Nat.le_of_ble_eq_true rfl) (sk_13 hs23) (sn hs23 (by decide)) (by decide) rfl (by decide +kernel) hC28 ?_
        exact E_lv [1, 2, 3] rfl (w_X11_under_59 hs29 h)
      · rw [if_pos c] at h
        refine E_iconst (0 : Int32) dX11_under_32 (by decide) ?_
        refine E_goto 59 dX11_under_33 (by decide) ?_
        exact E_lv [1, 2, 3] rfl (w_X11_under_59 hs17 h)
    · rw [if_pos c] at h
      refine E_iconst (-1 : Int32) dX11_under_15 (by decide) ?_
      obtain ⟨rfl, rfl⟩ := h
      exact E_iret dX11_under_16 rfl
def W_X11_under_148 (X : Sx) (l : Launch) (D : Nat) (x1 : Int32) (x2 : Int32) (x4 : Int32) (x5 : Int32) (σ : AH) (r : Option Value) (σ' : AH) : Prop := E X l m_X11_under D 64 [(0, .ref 0), (1, .int x1), (2, .int x2), (4, .int x4), (5, .int (x5 + 1))] [] σ r σ'
set_option maxRecDepth 100000 in
theorem w_X11_under_148 {X : Sx} {l : Launch} {D : Nat} {x1 : Int32} {x2 : Int32} {x4 : Int32} {x5 : Int32} {σ : AH} {r : Option Value} {σ' : AH} (hs : Sh σ) (h : W_X11_under_148 X l D x1 x2 x4 x5 σ r σ') : E X l m_X11_under D 148 [(0, .ref 0), (1, .int x1), (2, .int x2), (4, .int x4), (5, .int x5)] [] σ r σ' := by
  unfold W_X11_under_148 at h
  refine E_iinc 4 (x5 + 1) [(5, .int (x5 + 1)), (0, .ref 0), (1, .int x1), (2, .int x2), (4, .int x4)] dX11_under_148 rfl (congrArg (x5 + ·) (by decide : Int32.ofInt 1 = 1)) (by decide) rfl ?_
  refine E_goto 64 dX11_under_151 (by decide) ?_
  exact E_lv [1, 2, 3, 4, 0] rfl h
def W_X11_under_64 (X : Sx) (l : Launch) (D : Nat) (x1 : Int32) (x2 : Int32) (x4 : Int32) (x5 : Int32) (σ : AH) (r : Option Value) (σ' : AH) : Prop := ∃ d31 : Nat, ∃ v36 : Int32, ∃ σ32 : AH, d31 + 1 ≤ D ∧ Call X l m_X8_rows d31 [.ref 15] σ (some (.int v36)) σ32 ∧ (if v36 ≤ x5 then (r = some (.int x4) ∧ σ' = σ32) else ∃ d37 : Nat, ∃ v42 : Int32, ∃ σ38 : AH, d37 + 1 ≤ D ∧ Call X l m_X8_at d37 [.ref 15, .int x5, .int (0 : Int32)] σ32 (some (.int v42)) σ38 ∧ (if v42 = x1 then ∃ d43 : Nat, ∃ v48 : Int32, ∃ σ44 : AH, d43 + 1 ≤ D ∧ Call X l m_X8_at d43 [.ref 15, .int x5, .int (2 : Int32)] σ38 (some (.int v48)) σ44 ∧ (if x2 < v48 then W_X11_under_148 X l D x1 x2 x4 x5 σ44 r σ' else ∃ d49 : Nat, ∃ v54 : Int32, ∃ σ50 : AH, d49 + 1 ≤ D ∧ Call X l m_X8_at d49 [.ref 15, .int x5, .int (3 : Int32)] σ44 (some (.int v54)) σ50 ∧ (if v54 < x2 then W_X11_under_148 X l D x1 x2 x4 x5 σ50 r σ' else ∃ d55 : Nat, ∃ v60 : Int32, ∃ σ56 : AH, d55 + 1 ≤ D ∧ Call X l m_X8_at d55 [.ref 15, .int x5, .int (1 : Int32)] σ50 (some (.int v60)) σ56 ∧ W_X11_under_148 X l D x1 x2 (x4 + v60) x5 σ56 r σ')) else W_X11_under_148 X l D x1 x2 x4 x5 σ38 r σ'))
set_option maxRecDepth 100000 in
theorem w_X11_under_64 {X : Sx} {l : Launch} {D : Nat} {x1 : Int32} {x2 : Int32} {x4 : Int32} {x5 : Int32} {σ : AH} {r : Option Value} {σ' : AH} (hs : Sh σ) (h : W_X11_under_64 X l D x1 x2 x4 x5 σ r σ') : E X l m_X11_under D 64 [(0, .ref 0), (1, .int x1), (2, .int x2), (4, .int x4), (5, .int x5)] [] σ r σ' := by
  unfold W_X11_under_64 at h
  refine E_iload 4 dX11_under_64 rfl ?_
  refine E_aload_n 0 dX11_under_66 rfl rfl ?_
  refine E_getR 1 dX11_under_67 fl_X11_10 rfl (sk_0 hs) (sn hs (by decide)) (sr_0_0 hs) ?_
  refine E_getR 15 dX11_under_70 fl_X11_393 rfl (sk_1 hs) (sn hs (by decide)) (sr_1_8 hs) ?_
  obtain ⟨d31, v36, σ32, hD33, hC34, h⟩ := h
  have hs35 := hC34.1.2.2.2.1 hs
  refine E_callV (As := []) (rest := [.int x5]) (r1 := (some (.int v36))) (b := 15) dX11_under_73 ok_X8_rows in_X8_rows se_X8_rows ml_X11_173 hD33 rfl rfl (Nat.le_of_ble_eq_true rfl) (sk_15 hs) (sn hs (by decide)) (by decide) rfl (by decide +kernel) hC34 ?_
  refine E_icmp_ge 154 dX11_under_76 (by decide) (fun c => ?_) (fun c => ?_)
  · rw [if_pos c] at h
    refine E_iload 3 dX11_under_154 rfl ?_
    obtain ⟨rfl, rfl⟩ := h
    exact E_iret dX11_under_156 rfl
  · rw [if_neg c] at h
    refine E_aload_n 0 dX11_under_79 rfl rfl ?_
    refine E_getR 1 dX11_under_80 fl_X11_10 rfl (sk_0 hs35) (sn hs35 (by decide)) (sr_0_0 hs35) ?_
    refine E_getR 15 dX11_under_83 fl_X11_393 rfl (sk_1 hs35) (sn hs35 (by decide)) (sr_1_8 hs35) ?_
    refine E_iload 4 dX11_under_86 rfl ?_
    refine E_iconst (0 : Int32) dX11_under_88 (by decide) ?_
    obtain ⟨d37, v42, σ38, hD39, hC40, h⟩ := h
    have hs41 := hC40.1.2.2.2.1 hs35
    refine E_callV (As := [.int x5, .int (0 : Int32)]) (rest := []) (r1 := (some (.int v42))) (b := 15) dX11_under_89 ok_X8_at in_X8_at se_X8_at ml_X11_223 hD39 rfl rfl (Nat.le_of_ble_eq_true rfl) (sk_15 hs35) (sn hs35 (by decide)) (by decide) rfl (by decide +kernel) hC40 ?_
    refine E_iload_n 1 dX11_under_92 rfl rfl ?_
    refine E_icmp_ne 148 dX11_under_93 (by decide) (fun c => ?_) (fun c => ?_)
    · rw [if_neg c] at h
      exact E_lv [0, 1, 2, 3, 4] rfl (w_X11_under_148 hs41 h)
    · rw [if_pos c] at h
      refine E_aload_n 0 dX11_under_96 rfl rfl ?_
      refine E_getR 1 dX11_under_97 fl_X11_10 rfl (sk_0 hs41) (sn hs41 (by decide)) (sr_0_0 hs41) ?_
      refine E_getR 15 dX11_under_100 fl_X11_393 rfl (sk_1 hs41) (sn hs41 (by decide)) (sr_1_8 hs41) ?_
      refine E_iload 4 dX11_under_103 rfl ?_
      refine E_iconst (2 : Int32) dX11_under_105 (by decide) ?_
      obtain ⟨d43, v48, σ44, hD45, hC46, h⟩ := h
      have hs47 := hC46.1.2.2.2.1 hs41
      refine E_callV (As := [.int x5, .int (2 : Int32)]) (rest := []) (r1 := (some (.int v48))) (b := 15) dX11_under_106 ok_X8_at in_X8_at se_X8_at ml_X11_223 hD45 rfl rfl (Nat.le_of_ble_eq_true rfl) (sk_15 hs41) (sn hs41 (by decide)) (by decide) rfl (by decide +kernel) hC46 ?_
      refine E_iload_n 2 dX11_under_109 rfl rfl ?_
      refine E_icmp_gt 148 dX11_under_110 (by decide) (fun c => ?_) (fun c => ?_)
      · rw [if_pos c] at h
        exact E_lv [0, 1, 2, 3, 4] rfl (w_X11_under_148 hs47 h)
      · rw [if_neg c] at h
        refine E_aload_n 0 dX11_under_113 rfl rfl ?_
        refine E_getR 1 dX11_under_114 fl_X11_10 rfl (sk_0 hs47) (sn hs47 (by decide)) (sr_0_0 hs47) ?_
        refine E_getR 15 dX11_under_117 fl_X11_393 rfl (sk_1 hs47) (sn hs47 (by decide)) (sr_1_8 hs47) ?_
        refine E_iload 4 dX11_under_120 rfl ?_
        refine E_iconst (3 : Int32) dX11_under_122 (by decide) ?_
        obtain ⟨d49, v54, σ50, hD51, hC52, h⟩ := h
        have hs53 := hC52.1.2.2.2.1 hs47
        refine E_callV (As := [.int x5, .int (3 : Int32)]) (rest := []) (r1 := (some (.int v54))) (b := 15) dX11_under_123 ok_X8_at in_X8_at se_X8_at ml_X11_223 hD51 rfl rfl (Nat.le_of_ble_eq_true rfl) (sk_15 hs47) (sn hs47 (by decide)) (by decide) rfl (by decide +kernel) hC52 ?_
        refine E_iload_n 2 dX11_under_126 rfl rfl ?_
        refine E_icmp_lt 148 dX11_under_127 (by decide) (fun c => ?_) (fun c => ?_)
        · rw [if_pos c] at h
          exact E_lv [0, 1, 2, 3, 4] rfl (w_X11_under_148 hs53 h)
        · rw [if_neg c] at h
          refine E_iload 3 dX11_under_130 rfl ?_
          refine E_aload_n 0 dX11_under_132 rfl rfl ?_
          refine E_getR 1 dX11_under_133 fl_X11_10 rfl (sk_0 hs53) (sn hs53 (by decide)) (sr_0_0 hs53) ?_
          refine E_getR 15 dX11_under_136 fl_X11_393 rfl (sk_1 hs53) (sn hs53 (by decide)) (sr_1_8 hs53) ?_
          refine E_iload 4 dX11_under_139 rfl ?_
          refine E_iconst (1 : Int32) dX11_under_141 (by decide) ?_
          obtain ⟨d55, v60, σ56, hD57, hC58, h⟩ := h
          have hs59 := hC58.1.2.2.2.1 hs53
          refine E_callV (As := [.int x5, .int (1 : Int32)]) (rest := [.int x4]) (r1 := (some (.int v60))) (b := 15) dX11_under_142 ok_X8_at in_X8_at se_X8_at ml_X11_223 hD57 rfl rfl (Nat.le_of_ble_eq_true rfl) (sk_15 hs53) (sn hs53 (by decide)) (by decide) rfl (by decide +kernel) hC58 ?_
          refine E_iadd dX11_under_145 ?_
          refine E_istore [(4, .int (x4 + v60)), (0, .ref 0), (1, .int x1), (2, .int x2), (5, .int x5)] dX11_under_146 (by decide) rfl ?_
          exact E_lv [1, 2, 3, 0, 4] rfl (w_X11_under_148 hs59 h)
def W_X11_target_19 (X : Sx) (l : Launch) (D : Nat) (σ : AH) (r : Option Value) (σ' : AH) : Prop := ∃ d20 : Nat, ∃ v25 : Int32, ∃ σ21 : AH, d20 + 1 ≤ D ∧ Call X l m_X11_answer d20 [.ref 0, .int (-1 : Int32)] σ (some (.int v25)) σ21 ∧ (r = some (.int v25) ∧ σ' = σ21)
set_option maxRecDepth 100000 in
theorem w_X11_target_19 {X : Sx} {l : Launch} {D : Nat} {σ : AH} {r : Option Value} {σ' : AH} (hs : Sh σ) (h : W_X11_target_19 X l D σ r σ') : E X l m_X11_target D 19 [(0, .ref 0)] [] σ r σ' := by
  unfold W_X11_target_19 at h
  refine E_aload_n 0 dX11_target_19 rfl rfl ?_
  refine E_iconst (-1 : Int32) dX11_target_20 (by decide) ?_
  obtain ⟨d20, v25, σ21, hD22, hC23, h⟩ := h
  have hs24 := hC23.1.2.2.2.1 hs
  refine E_callV (As := [.int (-1 : Int32)]) (rest := []) (r1 := (some (.int v25))) (b := 0) dX11_target_21 ok_X11_answer in_X11_answer se_X11_answer ml_X11_105 hD22 rfl rfl (Nat.le_of_ble_eq_true rfl) (sk_0 hs) (sn hs (by decide)) (by decide) rfl (by decide +kernel) hC23 ?_
  obtain ⟨rfl, rfl⟩ := h
  exact E_iret dX11_target_24 rfl
def W_X11_target_0 (X : Sx) (l : Launch) (D : Nat) (x1 : Int32) (x2 : Int32) (x3 : Int32) (σ : AH) (r : Option Value) (σ' : AH) : Prop := ∃ d1 : Nat, ∃ v6 : Int32, ∃ σ2 : AH, d1 + 1 ≤ D ∧ Call X l m_X11_isCouncilQuarter d1 [.int x1, .int x2] σ (some (.int v6)) σ2 ∧ (if v6 = 0 then W_X11_target_19 X l D σ2 r σ' else ∃ d7 : Nat, ∃ v12 : Int32, ∃ σ8 : AH, d7 + 1 ≤ D ∧ Call X l m_X11_isIn d7 [.int x3, .int (0 : Int32), .int (10000 : Int32)] σ2 (some (.int v12)) σ8 ∧ (if v12 = 0 then W_X11_target_19 X l D σ8 r σ' else vp_in ((x1 * (20 : Int32)) + x2) 120 ∧ ∃ d14 : Nat, ∃ v19 : Int32, ∃ σ15 : AH, d14 + 1 ≤ D ∧ Call X l m_X11_answer d14 [.ref 0, .int (0 : Int32)] (sI σ8 19 (((x1 * (20 : Int32)) + x2).toNatClampNeg) (x3 + (1 : Int32))) (some (.int v19)) σ15 ∧ (r = some (.int v19) ∧ σ' = σ15)))
set_option maxRecDepth 100000 in
theorem w_X11_target_0 {X : Sx} {l : Launch} {D : Nat} {x1 : Int32} {x2 : Int32} {x3 : Int32} {σ : AH} {r : Option Value} {σ' : AH} (hs : Sh σ) (h : W_X11_target_0 X l D x1 x2 x3 σ r σ') : E X l m_X11_target D 0 [(0, .ref 0), (1, .int x1), (2, .int x2), (3, .int x3)] [] σ r σ' := by
  unfold W_X11_target_0 at h
  refine E_iload_n 1 dX11_target_0 rfl rfl ?_
  refine E_iload_n 2 dX11_target_1 rfl rfl ?_
  obtain ⟨d1, v6, σ2, hD3, hC4, h⟩ := h
  have hs5 := hC4.1.2.2.2.1 hs
  refine E_callS (As := [.int x1, .int x2]) (rest := []) (r1 := (some (.int v6))) dX11_target_2 ok_X11_isCouncilQuarter is_X11_isCouncilQuarter ml_X11_396 hD3 rfl rfl (Nat.le_of_ble_eq_true rfl) (by decide +kernel) hC4 ?_
  refine E_if_eq 19 dX11_target_5 (by decide) (fun c => ?_) (fun c => ?_)
  · rw [if_pos c] at h
    exact E_lv [0] rfl (w_X11_target_19 hs5 h)
  · rw [if_neg c] at h
    refine E_iload_n 3 dX11_target_8 rfl rfl ?_
    refine E_iconst (0 : Int32) dX11_target_9 (by decide) ?_
    refine E_sipush (10000 : Int32) dX11_target_10 (by decide) ?_
    obtain ⟨d7, v12, σ8, hD9, hC10, h⟩ := h
    have hs11 := hC10.1.2.2.2.1 hs5
    refine E_callS (As := [.int x3, .int (0 : Int32), .int (10000 : Int32)]) (rest := []) (r1 := (some (.int v12))) dX11_target_13 ok_X11_isIn is_X11_isIn ml_X11_124 hD9 rfl rfl (Nat.le_of_ble_eq_true rfl) (by decide +kernel) hC10 ?_
    refine E_if_ne 25 dX11_target_16 (by decide) (fun c => ?_) (fun c => ?_)
    · rw [if_neg c] at h
      refine E_aload_n 0 dX11_target_25 rfl rfl ?_
      refine E_getR 1 dX11_target_26 fl_X11_10 rfl (sk_0 hs11) (sn hs11 (by decide)) (sr_0_0 hs11) ?_
      refine E_getR 19 dX11_target_29 fl_X11_399 rfl (sk_1 hs11) (sn hs11 (by decide)) (sr_1_10 hs11) ?_
      refine E_iload_n 1 dX11_target_32 rfl rfl ?_
      refine E_bipush (20 : Int32) dX11_target_33 (by decide) ?_
      refine E_imul dX11_target_35 ?_
      refine E_iload_n 2 dX11_target_36 rfl rfl ?_
      refine E_iadd dX11_target_37 ?_
      refine E_iload_n 3 dX11_target_38 rfl rfl ?_
      refine E_iconst (1 : Int32) dX11_target_39 (by decide) ?_
      refine E_iadd dX11_target_40 ?_
      obtain ⟨g13, h⟩ := h
      refine E_iast2 (((x1 * (20 : Int32)) + x2).toNatClampNeg) dX11_target_41 (sk_19 hs11) (sn hs11 (by decide)) (Or.inl (by decide)) g13 rfl ?_
      refine E_aload_n 0 dX11_target_42 rfl rfl ?_
      refine E_iconst (0 : Int32) dX11_target_43 (by decide) ?_
      obtain ⟨d14, v19, σ15, hD16, hC17, h⟩ := h
      have hs18 := hC17.1.2.2.2.1 hs11
      refine E_callV (As := [.int (0 : Int32)]) (rest := []) (r1 := (some (.int v19))) (b := 0) dX11_target_44 ok_X11_answer in_X11_answer se_X11_answer ml_X11_105 hD16 rfl rfl (Nat.le_of_ble_eq_true rfl) (sk_0 hs11) (sn hs11 (by decide)) (by decide) rfl (by decide +kernel) hC17 ?_
      obtain ⟨rfl, rfl⟩ := h
      exact E_iret dX11_target_47 rfl
    · rw [if_pos c] at h
      exact E_lv [0] rfl (w_X11_target_19 hs11 h)
def W_X11_claim_30 (X : Sx) (l : Launch) (D : Nat) (σ : AH) (r : Option Value) (σ' : AH) : Prop := ∃ d30 : Nat, ∃ v35 : Int32, ∃ σ31 : AH, d30 + 1 ≤ D ∧ Call X l m_X11_answer d30 [.ref 0, .int (-1 : Int32)] σ (some (.int v35)) σ31 ∧ (r = some (.int v35) ∧ σ' = σ31)
set_option maxRecDepth 100000 in
theorem w_X11_claim_30 {X : Sx} {l : Launch} {D : Nat} {σ : AH} {r : Option Value} {σ' : AH} (hs : Sh σ) (h : W_X11_claim_30 X l D σ r σ') : E X l m_X11_claim D 30 [(0, .ref 0)] [] σ r σ' := by
  unfold W_X11_claim_30 at h
  refine E_aload_n 0 dX11_claim_30 rfl rfl ?_
  refine E_iconst (-1 : Int32) dX11_claim_31 (by decide) ?_
  obtain ⟨d30, v35, σ31, hD32, hC33, h⟩ := h
  have hs34 := hC33.1.2.2.2.1 hs
  refine E_callV (As := [.int (-1 : Int32)]) (rest := []) (r1 := (some (.int v35))) (b := 0) dX11_claim_32 ok_X11_answer in_X11_answer se_X11_answer ml_X11_105 hD32 rfl rfl (Nat.le_of_ble_eq_true rfl) (sk_0 hs) (sn hs (by decide)) (by decide) rfl (by decide +kernel) hC33 ?_
  obtain ⟨rfl, rfl⟩ := h
  exact E_iret dX11_claim_35 rfl
def W_X11_claim_0 (X : Sx) (l : Launch) (D : Nat) (x1 : Int32) (x2 : Int32) (x3 : Int32) (x4 : Int32) (σ : AH) (r : Option Value) (σ' : AH) : Prop := ∃ d1 : Nat, ∃ v6 : Int32, ∃ σ2 : AH, d1 + 1 ≤ D ∧ Call X l m_X11_isCouncilQuarter d1 [.int x1, .int x2] σ (some (.int v6)) σ2 ∧ (if v6 = 0 then W_X11_claim_30 X l D σ2 r σ' else ∃ d7 : Nat, ∃ v12 : Int32, ∃ σ8 : AH, d7 + 1 ≤ D ∧ Call X l m_X11_isIn d7 [.int x3, .int (0 : Int32), .int (19 : Int32)] σ2 (some (.int v12)) σ8 ∧ (if v12 = 0 then W_X11_claim_30 X l D σ8 r σ' else ∃ d13 : Nat, ∃ v18 : Int32, ∃ σ14 : AH, d13 + 1 ≤ D ∧ Call X l m_X11_isIn d13 [.int x4, .int (0 : Int32), .int (1000 : Int32)] σ8 (some (.int v18)) σ14 ∧ (if v18 = 0 then W_X11_claim_30 X l D σ14 r σ' else ∃ d19 : Nat, ∃ σ20 : AH, d19 + 1 ≤ D ∧ Call X l m_X9_tellClaimed d19 [.ref 1, .int ((((x1 * (20 : Int32)) + x2) * (20 : Int32)) + x3), .int x4] σ14 none σ20 ∧ ∃ d24 : Nat, ∃ v29 : Int32, ∃ σ25 : AH, d24 + 1 ≤ D ∧ Call X l m_X11_answer d24 [.ref 0, .int (0 : Int32)] σ20 (some (.int v29)) σ25 ∧ (r = some (.int v29) ∧ σ' = σ25))))
set_option maxRecDepth 100000 in
theorem w_X11_claim_0 {X : Sx} {l : Launch} {D : Nat} {x1 : Int32} {x2 : Int32} {x3 : Int32} {x4 : Int32} {σ : AH} {r : Option Value} {σ' : AH} (hs : Sh σ) (h : W_X11_claim_0 X l D x1 x2 x3 x4 σ r σ') : E X l m_X11_claim D 0 [(0, .ref 0), (1, .int x1), (2, .int x2), (3, .int x3), (4, .int x4)] [] σ r σ' := by
  unfold W_X11_claim_0 at h
  refine E_iload_n 1 dX11_claim_0 rfl rfl ?_
  refine E_iload_n 2 dX11_claim_1 rfl rfl ?_
  obtain ⟨d1, v6, σ2, hD3, hC4, h⟩ := h
  have hs5 := hC4.1.2.2.2.1 hs
  refine E_callS (As := [.int x1, .int x2]) (rest := []) (r1 := (some (.int v6))) dX11_claim_2 ok_X11_isCouncilQuarter is_X11_isCouncilQuarter ml_X11_396 hD3 rfl rfl (Nat.le_of_ble_eq_true rfl) (by decide +kernel) hC4 ?_
  refine E_if_eq 30 dX11_claim_5 (by decide) (fun c => ?_) (fun c => ?_)
  · rw [if_pos c] at h
    exact E_lv [0] rfl (w_X11_claim_30 hs5 h)
  · rw [if_neg c] at h
    refine E_iload_n 3 dX11_claim_8 rfl rfl ?_
    refine E_iconst (0 : Int32) dX11_claim_9 (by decide) ?_
    refine E_bipush (19 : Int32) dX11_claim_10 (by decide) ?_
    obtain ⟨d7, v12, σ8, hD9, hC10, h⟩ := h
    have hs11 := hC10.1.2.2.2.1 hs5
    refine E_callS (As := [.int x3, .int (0 : Int32), .int (19 : Int32)]) (rest := []) (r1 := (some (.int v12))) dX11_claim_12 ok_X11_isIn is_X11_isIn ml_X11_124 hD9 rfl rfl (Nat.le_of_ble_eq_true rfl) (by decide +kernel) hC10 ?_
    refine E_if_eq 30 dX11_claim_15 (by decide) (fun c => ?_) (fun c => ?_)
    · rw [if_pos c] at h
      exact E_lv [0] rfl (w_X11_claim_30 hs11 h)
    · rw [if_neg c] at h
      refine E_iload 4 dX11_claim_18 rfl ?_
      refine E_iconst (0 : Int32) dX11_claim_20 (by decide) ?_
      refine E_sipush (1000 : Int32) dX11_claim_21 (by decide) ?_
      obtain ⟨d13, v18, σ14, hD15, hC16, h⟩ := h
      have hs17 := hC16.1.2.2.2.1 hs11
      refine E_callS (As := [.int x4, .int (0 : Int32), .int (1000 : Int32)]) (rest := []) (r1 := (some (.int v18))) dX11_claim_24 ok_X11_isIn is_X11_isIn ml_X11_124 hD15 rfl rfl (Nat.le_of_ble_eq_true rfl) (by decide +kernel) hC16 ?_
      refine E_if_ne 36 dX11_claim_27 (by decide) (fun c => ?_) (fun c => ?_)
      · rw [if_neg c] at h
        refine E_aload_n 0 dX11_claim_36 rfl rfl ?_
        refine E_getR 1 dX11_claim_37 fl_X11_10 rfl (sk_0 hs17) (sn hs17 (by decide)) (sr_0_0 hs17) ?_
        refine E_iload_n 1 dX11_claim_40 rfl rfl ?_
        refine E_bipush (20 : Int32) dX11_claim_41 (by decide) ?_
        refine E_imul dX11_claim_43 ?_
        refine E_iload_n 2 dX11_claim_44 rfl rfl ?_
        refine E_iadd dX11_claim_45 ?_
        refine E_bipush (20 : Int32) dX11_claim_46 (by decide) ?_
        refine E_imul dX11_claim_48 ?_
        refine E_iload_n 3 dX11_claim_49 rfl rfl ?_
        refine E_iadd dX11_claim_50 ?_
        refine E_iload 4 dX11_claim_51 rfl ?_
        obtain ⟨d19, σ20, hD21, hC22, h⟩ := h
        have hs23 := hC22.1.2.2.2.1 hs17
        refine E_callV (As := [.int ((((x1 * (20 : Int32)) + x2) * (20 : Int32)) + x3), .int x4]) (rest := []) (r1 := none) (b := 1) dX11_claim_53 ok_X9_tellClaimed in_X9_tellClaimed se_X9_tellClaimed ml_X11_402 hD21 rfl rfl (Nat.le_of_ble_eq_true rfl) (sk_1 hs17) (sn hs17 (by decide)) (by decide) rfl (by decide +kernel) hC22 ?_
        refine E_aload_n 0 dX11_claim_56 rfl rfl ?_
        refine E_iconst (0 : Int32) dX11_claim_57 (by decide) ?_
        obtain ⟨d24, v29, σ25, hD26, hC27, h⟩ := h
        have hs28 := hC27.1.2.2.2.1 hs23
        refine E_callV (As := [.int (0 : Int32)]) (rest := []) (r1 := (some (.int v29))) (b := 0) dX11_claim_58 ok_X11_answer in_X11_answer se_X11_answer ml_X11_105 hD26 rfl rfl (Nat.le_of_ble_eq_true rfl) (sk_0 hs23) (sn hs23 (by decide)) (by decide) rfl (by decide +kernel) hC27 ?_
        obtain ⟨rfl, rfl⟩ := h
        exact E_iret dX11_claim_61 rfl
      · rw [if_pos c] at h
        exact E_lv [0] rfl (w_X11_claim_30 hs17 h)
def W_X11_look_30 (X : Sx) (l : Launch) (D : Nat) (σ : AH) (r : Option Value) (σ' : AH) : Prop := ∃ d30 : Nat, ∃ v35 : Int32, ∃ σ31 : AH, d30 + 1 ≤ D ∧ Call X l m_X11_answer d30 [.ref 0, .int (-1 : Int32)] σ (some (.int v35)) σ31 ∧ (r = some (.int v35) ∧ σ' = σ31)
set_option maxRecDepth 100000 in
theorem w_X11_look_30 {X : Sx} {l : Launch} {D : Nat} {σ : AH} {r : Option Value} {σ' : AH} (hs : Sh σ) (h : W_X11_look_30 X l D σ r σ') : E X l m_X11_look D 30 [(0, .ref 0)] [] σ r σ' := by
  unfold W_X11_look_30 at h
  refine E_aload_n 0 dX11_look_30 rfl rfl ?_
  refine E_iconst (-1 : Int32) dX11_look_31 (by decide) ?_
  obtain ⟨d30, v35, σ31, hD32, hC33, h⟩ := h
  have hs34 := hC33.1.2.2.2.1 hs
  refine E_callV (As := [.int (-1 : Int32)]) (rest := []) (r1 := (some (.int v35))) (b := 0) dX11_look_32 ok_X11_answer in_X11_answer se_X11_answer ml_X11_105 hD32 rfl rfl (Nat.le_of_ble_eq_true rfl) (sk_0 hs) (sn hs (by decide)) (by decide) rfl (by decide +kernel) hC33 ?_
  obtain ⟨rfl, rfl⟩ := h
  exact E_iret dX11_look_35 rfl
def W_X11_look_0 (X : Sx) (l : Launch) (D : Nat) (x1 : Int32) (x2 : Int32) (x3 : Int32) (x4 : Int32) (σ : AH) (r : Option Value) (σ' : AH) : Prop := ∃ d1 : Nat, ∃ v6 : Int32, ∃ σ2 : AH, d1 + 1 ≤ D ∧ Call X l m_X11_isCouncilQuarter d1 [.int x1, .int x2] σ (some (.int v6)) σ2 ∧ (if v6 = 0 then W_X11_look_30 X l D σ2 r σ' else ∃ d7 : Nat, ∃ v12 : Int32, ∃ σ8 : AH, d7 + 1 ≤ D ∧ Call X l m_X11_isIn d7 [.int x3, .int (0 : Int32), .int (19 : Int32)] σ2 (some (.int v12)) σ8 ∧ (if v12 = 0 then W_X11_look_30 X l D σ8 r σ' else ∃ d13 : Nat, ∃ v18 : Int32, ∃ σ14 : AH, d13 + 1 ≤ D ∧ Call X l m_X11_isIn d13 [.int x4, .int (0 : Int32), .int (1000 : Int32)] σ8 (some (.int v18)) σ14 ∧ (if v18 = 0 then W_X11_look_30 X l D σ14 r σ' else ∃ d19 : Nat, ∃ σ20 : AH, d19 + 1 ≤ D ∧ Call X l m_X9_tellSeen d19 [.ref 1, .int ((((x1 * (20 : Int32)) + x2) * (20 : Int32)) + x3), .int x4] σ14 none σ20 ∧ ∃ d24 : Nat, ∃ v29 : Int32, ∃ σ25 : AH, d24 + 1 ≤ D ∧ Call X l m_X11_answer d24 [.ref 0, .int (0 : Int32)] σ20 (some (.int v29)) σ25 ∧ (r = some (.int v29) ∧ σ' = σ25))))
set_option maxRecDepth 100000 in
theorem w_X11_look_0 {X : Sx} {l : Launch} {D : Nat} {x1 : Int32} {x2 : Int32} {x3 : Int32} {x4 : Int32} {σ : AH} {r : Option Value} {σ' : AH} (hs : Sh σ) (h : W_X11_look_0 X l D x1 x2 x3 x4 σ r σ') : E X l m_X11_look D 0 [(0, .ref 0), (1, .int x1), (2, .int x2), (3, .int x3), (4, .int x4)] [] σ r σ' := by
  unfold W_X11_look_0 at h
  refine E_iload_n 1 dX11_look_0 rfl rfl ?_
  refine E_iload_n 2 dX11_look_1 rfl rfl ?_
  obtain ⟨d1, v6, σ2, hD3, hC4, h⟩ := h
  have hs5 := hC4.1.2.2.2.1 hs
  refine E_callS (As := [.int x1, .int x2]) (rest := []) (r1 := (some (.int v6))) dX11_look_2 ok_X11_isCouncilQuarter is_X11_isCouncilQuarter ml_X11_396 hD3 rfl rfl (Nat.le_of_ble_eq_true rfl) (by decide +kernel) hC4 ?_
  refine E_if_eq 30 dX11_look_5 (by decide) (fun c => ?_) (fun c => ?_)
  · rw [if_pos c] at h
    exact E_lv [0] rfl (w_X11_look_30 hs5 h)
  · rw [if_neg c] at h
    refine E_iload_n 3 dX11_look_8 rfl rfl ?_
    refine E_iconst (0 : Int32) dX11_look_9 (by decide) ?_
    refine E_bipush (19 : Int32) dX11_look_10 (by decide) ?_
    obtain ⟨d7, v12, σ8, hD9, hC10, h⟩ := h
    have hs11 := hC10.1.2.2.2.1 hs5
    refine E_callS (As := [.int x3, .int (0 : Int32), .int (19 : Int32)]) (rest := []) (r1 := (some (.int v12))) dX11_look_12 ok_X11_isIn is_X11_isIn ml_X11_124 hD9 rfl rfl (Nat.le_of_ble_eq_true rfl) (by decide +kernel) hC10 ?_
    refine E_if_eq 30 dX11_look_15 (by decide) (fun c => ?_) (fun c => ?_)
    · rw [if_pos c] at h
      exact E_lv [0] rfl (w_X11_look_30 hs11 h)
    · rw [if_neg c] at h
      refine E_iload 4 dX11_look_18 rfl ?_
      refine E_iconst (0 : Int32) dX11_look_20 (by decide) ?_
      refine E_sipush (1000 : Int32) dX11_look_21 (by decide) ?_
      obtain ⟨d13, v18, σ14, hD15, hC16, h⟩ := h
      have hs17 := hC16.1.2.2.2.1 hs11
      refine E_callS (As := [.int x4, .int (0 : Int32), .int (1000 : Int32)]) (rest := []) (r1 := (some (.int v18))) dX11_look_24 ok_X11_isIn is_X11_isIn ml_X11_124 hD15 rfl rfl (Nat.le_of_ble_eq_true rfl) (by decide +kernel) hC16 ?_
      refine E_if_ne 36 dX11_look_27 (by decide) (fun c => ?_) (fun c => ?_)
      · rw [if_neg c] at h
        refine E_aload_n 0 dX11_look_36 rfl rfl ?_
        refine E_getR 1 dX11_look_37 fl_X11_10 rfl (sk_0 hs17) (sn hs17 (by decide)) (sr_0_0 hs17) ?_
        refine E_iload_n 1 dX11_look_40 rfl rfl ?_
        refine E_bipush (20 : Int32) dX11_look_41 (by decide) ?_
        refine E_imul dX11_look_43 ?_
        refine E_iload_n 2 dX11_look_44 rfl rfl ?_
        refine E_iadd dX11_look_45 ?_
        refine E_bipush (20 : Int32) dX11_look_46 (by decide) ?_
        refine E_imul dX11_look_48 ?_
        refine E_iload_n 3 dX11_look_49 rfl rfl ?_
        refine E_iadd dX11_look_50 ?_
        refine E_iload 4 dX11_look_51 rfl ?_
        obtain ⟨d19, σ20, hD21, hC22, h⟩ := h
        have hs23 := hC22.1.2.2.2.1 hs17
        refine E_callV (As := [.int ((((x1 * (20 : Int32)) + x2) * (20 : Int32)) + x3), .int x4]) (rest := []) (r1 := none) (b := 1) dX11_look_53 ok_X9_tellSeen in_X9_tellSeen se_X9_tellSeen ml_X11_405 hD21 rfl rfl (Nat.le_of_ble_eq_true rfl) (sk_1 hs17) (sn hs17 (by decide)) (by decide) rfl (by decide +kernel) hC22 ?_
        refine E_aload_n 0 dX11_look_56 rfl rfl ?_
        refine E_iconst (0 : Int32) dX11_look_57 (by decide) ?_
        obtain ⟨d24, v29, σ25, hD26, hC27, h⟩ := h
        have hs28 := hC27.1.2.2.2.1 hs23
        refine E_callV (As := [.int (0 : Int32)]) (rest := []) (r1 := (some (.int v29))) (b := 0) dX11_look_58 ok_X11_answer in_X11_answer se_X11_answer ml_X11_105 hD26 rfl rfl (Nat.le_of_ble_eq_true rfl) (sk_0 hs23) (sn hs23 (by decide)) (by decide) rfl (by decide +kernel) hC27 ?_
        obtain ⟨rfl, rfl⟩ := h
        exact E_iret dX11_look_61 rfl
      · rw [if_pos c] at h
        exact E_lv [0] rfl (w_X11_look_30 hs17 h)
def W_X11_truth_0 (X : Sx) (l : Launch) (D : Nat) (x1 : Int32) (x2 : Int32) (x3 : Int32) (σ : AH) (r : Option Value) (σ' : AH) : Prop := ∃ d1 : Nat, ∃ v6 : Int32, ∃ σ2 : AH, d1 + 1 ≤ D ∧ Call X l m_X11_isCouncilQuarter d1 [.int x1, .int x2] σ (some (.int v6)) σ2 ∧ (if v6 = 0 then (r = some (.int (-1 : Int32)) ∧ σ' = σ2) else ∃ d7 : Nat, ∃ v12 : Int32, ∃ σ8 : AH, d7 + 1 ≤ D ∧ Call X l m_X11_isIn d7 [.int x3, .int (0 : Int32), .int (4 : Int32)] σ2 (some (.int v12)) σ8 ∧ (if v12 = 0 then (r = some (.int (-1 : Int32)) ∧ σ' = σ8) else E X l m_X11_truth D 43 [(0, .ref 0), (3, .int x3), (4, .int ((x1 * (20 : Int32)) + x2)), (5, .int (0 : Int32)), (6, .int (0 : Int32)), (7, .int (0 : Int32)), (8, .int (((x1 * (20 : Int32)) + x2) * (20 : Int32)))] [] σ8 r σ'))
set_option maxRecDepth 100000 in
theorem w_X11_truth_0 {X : Sx} {l : Launch} {D : Nat} {x1 : Int32} {x2 : Int32} {x3 : Int32} {σ : AH} {r : Option Value} {σ' : AH} (hs : Sh σ) (h : W_X11_truth_0 X l D x1 x2 x3 σ r σ') : E X l m_X11_truth D 0 [(0, .ref 0), (1, .int x1), (2, .int x2), (3, .int x3)] [] σ r σ' := by
  unfold W_X11_truth_0 at h
  refine E_iload_n 1 dX11_truth_0 rfl rfl ?_
  refine E_iload_n 2 dX11_truth_1 rfl rfl ?_
  obtain ⟨d1, v6, σ2, hD3, hC4, h⟩ := h
  have hs5 := hC4.1.2.2.2.1 hs
  refine E_callS (As := [.int x1, .int x2]) (rest := []) (r1 := (some (.int v6))) dX11_truth_2 ok_X11_isCouncilQuarter is_X11_isCouncilQuarter ml_X11_396 hD3 rfl rfl (Nat.le_of_ble_eq_true rfl) (by decide +kernel) hC4 ?_
  refine E_if_eq 17 dX11_truth_5 (by decide) (fun c => ?_) (fun c => ?_)
  · rw [if_pos c] at h
    refine E_iconst (-1 : Int32) dX11_truth_17 (by decide) ?_
    obtain ⟨rfl, rfl⟩ := h
    exact E_iret dX11_truth_18 rfl
  · rw [if_neg c] at h
    refine E_iload_n 3 dX11_truth_8 rfl rfl ?_
    refine E_iconst (0 : Int32) dX11_truth_9 (by decide) ?_
    refine E_iconst (4 : Int32) dX11_truth_10 (by decide) ?_
    obtain ⟨d7, v12, σ8, hD9, hC10, h⟩ := h
    have hs11 := hC10.1.2.2.2.1 hs5
    refine E_callS (As := [.int x3, .int (0 : Int32), .int (4 : Int32)]) (rest := []) (r1 := (some (.int v12))) dX11_truth_11 ok_X11_isIn is_X11_isIn ml_X11_124 hD9 rfl rfl (Nat.le_of_ble_eq_true rfl) (by decide +kernel) hC10 ?_
    refine E_if_ne 19 dX11_truth_14 (by decide) (fun c => ?_) (fun c => ?_)
    · rw [if_neg c] at h
      refine E_iload_n 1 dX11_truth_19 rfl rfl ?_
      refine E_bipush (20 : Int32) dX11_truth_20 (by decide) ?_
      refine E_imul dX11_truth_22 ?_
      refine E_iload_n 2 dX11_truth_23 rfl rfl ?_
      refine E_iadd dX11_truth_24 ?_
      refine E_istore [(4, .int ((x1 * (20 : Int32)) + x2)), (0, .ref 0), (1, .int x1), (2, .int x2), (3, .int x3)] dX11_truth_25 (by decide) rfl ?_
      refine E_iconst (0 : Int32) dX11_truth_27 (by decide) ?_
      refine E_istore [(5, .int (0 : Int32)), (4, .int ((x1 * (20 : Int32)) + x2)), (0, .ref 0), (1, .int x1), (2, .int x2), (3, .int x3)] dX11_truth_28 (by decide) rfl ?_
      refine E_iconst (0 : Int32) dX11_truth_30 (by decide) ?_
      refine E_istore [(6, .int (0 : Int32)), (5, .int (0 : Int32)), (4, .int ((x1 * (20 : Int32)) + x2)), (0, .ref 0), (1, .int x1), (2, .int x2), (3, .int x3)] dX11_truth_31 (by decide) rfl ?_
      refine E_iconst (0 : Int32) dX11_truth_33 (by decide) ?_
      refine E_istore [(7, .int (0 : Int32)), (6, .int (0 : Int32)), (5, .int (0 : Int32)), (4, .int ((x1 * (20 : Int32)) + x2)), (0, .ref 0), (1, .int x1), (2, .int x2), (3, .int x3)] dX11_truth_34 (by decide) rfl ?_
      refine E_iload 3 dX11_truth_36 rfl ?_
      refine E_bipush (20 : Int32) dX11_truth_38 (by decide) ?_
      refine E_imul dX11_truth_40 ?_
      refine E_istore [(8, .int (((x1 * (20 : Int32)) + x2) * (20 : Int32))), (7, .int (0 : Int32)), (6, .int (0 : Int32)), (5, .int (0 : Int32)), (4, .int ((x1 * (20 : Int32)) + x2)), (0, .ref 0), (1, .int x1), (2, .int x2), (3, .int x3)] dX11_truth_41 (by decide) rfl ?_
      exact E_lv [5, 8, 4, 3, 2, 1, 0] rfl h
    · rw [if_pos c] at h
      refine E_iconst (-1 : Int32) dX11_truth_17 (by decide) ?_
      obtain ⟨rfl, rfl⟩ := h
      exact E_iret dX11_truth_18 rfl
def W_X11_truth_113 (X : Sx) (l : Launch) (D : Nat) (x3 : Int32) (x4 : Int32) (x5 : Int32) (x7 : Int32) (x8 : Int32) (y0 : Int32) (y1 : Int32) (σ : AH) (r : Option Value) (σ' : AH) : Prop := E X l m_X11_truth D 43 [(0, .ref 0), (3, .int x3), (4, .int x4), (5, .int x5), (6, .int (y1 + y0)), (7, .int x7), (8, .int (x8 + 1))] [] σ r σ'
set_option maxRecDepth 100000 in
theorem w_X11_truth_113 {X : Sx} {l : Launch} {D : Nat} {x3 : Int32} {x4 : Int32} {x5 : Int32} {x7 : Int32} {x8 : Int32} {y0 : Int32} {y1 : Int32} {σ : AH} {r : Option Value} {σ' : AH} (hs : Sh σ) (h : W_X11_truth_113 X l D x3 x4 x5 x7 x8 y0 y1 σ r σ') : E X l m_X11_truth D 113 [(0, .ref 0), (3, .int x3), (4, .int x4), (5, .int x5), (7, .int x7), (8, .int x8)] [.int y0, .int y1] σ r σ' := by
  unfold W_X11_truth_113 at h
  refine E_iadd dX11_truth_113 ?_
  refine E_istore [(6, .int (y1 + y0)), (0, .ref 0), (3, .int x3), (4, .int x4), (5, .int x5), (7, .int x7), (8, .int x8)] dX11_truth_114 (by decide) rfl ?_
  refine E_iinc 6 (x8 + 1) [(8, .int (x8 + 1)), (6, .int (y1 + y0)), (0, .ref 0), (3, .int x3), (4, .int x4), (5, .int x5), (7, .int x7)] dX11_truth_116 rfl (congrArg (x8 + ·) (by decide : Int32.ofInt 1 = 1)) (by decide) rfl ?_
  refine E_goto 43 dX11_truth_119 (by decide) ?_
  exact E_lv [2, 3, 4, 5, 1, 6, 0] rfl h
def W_X11_truth_43 (X : Sx) (l : Launch) (D : Nat) (x3 : Int32) (x4 : Int32) (x5 : Int32) (x6 : Int32) (x7 : Int32) (x8 : Int32) (σ : AH) (r : Option Value) (σ' : AH) : Prop := (if ((x4 + (1 : Int32)) * (20 : Int32)) ≤ x8 then vp_in x4 120 ∧ (if x3 = 0 then (r = some (.int x5) ∧ σ' = σ) else (if x3 = 1 then (r = some (.int x6) ∧ σ' = σ) else (if x3 = 2 then (r = some (.int x7) ∧ σ' = σ) else (if x3 = 3 then (if ((gI σ 19 x4.toNatClampNeg) - (1 : Int32)) = (-1 : Int32) then (r = some (.int (0 : Int32)) ∧ σ' = σ) else (if x5 < ((gI σ 19 x4.toNatClampNeg) - (1 : Int32)) then (r = some (.int (0 : Int32)) ∧ σ' = σ) else (r = some (.int (1 : Int32)) ∧ σ' = σ))) else (if x7 ≤ x6 then (r = some (.int (0 : Int32)) ∧ σ' = σ) else (r = some (.int (1 : Int32)) ∧ σ' = σ)))))) else ∃ d14 : Nat, ∃ v19 : Int32, ∃ σ15 : AH, d14 + 1 ≤ D ∧ Call X l m_X9_seenIn d14 [.ref 1, .int x8] σ (some (.int v19)) σ15 ∧ ∃ d20 : Nat, ∃ v25 : Int32, ∃ σ21 : AH, d20 + 1 ≤ D ∧ Call X l m_X9_claimedIn d20 [.ref 1, .int x8] σ15 (some (.int v25)) σ21 ∧ 1 ≤ D ∧ (if v19 = (-1 : Int32) then ∃ d27 : Nat, ∃ v32 : Int32, ∃ σ28 : AH, d27 + 1 ≤ D ∧ Call X l m_X9_claimedIn d27 [.ref 1, .int x8] σ21 (some (.int v32)) σ28 ∧ W_X11_truth_113 X l D x3 x4 (x5 + (imax (0 : Int32) v19)) (x7 + v25) x8 v32 x6 σ28 r σ' else W_X11_truth_113 X l D x3 x4 (x5 + (imax (0 : Int32) v19)) (x7 + v25) x8 v19 x6 σ21 r σ'))
set_option maxRecDepth 100000 in
theorem w_X11_truth_43 {X : Sx} {l : Launch} {D : Nat} {x3 : Int32} {x4 : Int32} {x5 : Int32} {x6 : Int32} {x7 : Int32} {x8 : Int32} {σ : AH} {r : Option Value} {σ' : AH} (hs : Sh σ) (h : W_X11_truth_43 X l D x3 x4 x5 x6 x7 x8 σ r σ') : E X l m_X11_truth D 43 [(0, .ref 0), (3, .int x3), (4, .int x4), (5, .int x5), (6, .int x6), (7, .int x7), (8, .int x8)] [] σ r σ' := by
  unfold W_X11_truth_43 at h
  refine E_iload 6 dX11_truth_43 rfl ?_
  refine E_iload 2 dX11_truth_45 rfl ?_
  refine E_iconst (1 : Int32) dX11_truth_47 (by decide) ?_
  refine E_iadd dX11_truth_48 ?_
  refine E_bipush (20 : Int32) dX11_truth_49 (by decide) ?_
  refine E_imul dX11_truth_51 ?_
  refine E_icmp_ge 122 dX11_truth_52 (by decide) (fun c => ?_) (fun c => ?_)
  · rw [if_pos c] at h
    refine E_aload_n 0 dX11_truth_122 rfl rfl ?_
    refine E_getR 1 dX11_truth_123 fl_X11_10 rfl (sk_0 hs) (sn hs (by decide)) (sr_0_0 hs) ?_
    refine E_getR 19 dX11_truth_126 fl_X11_399 rfl (sk_1 hs) (sn hs (by decide)) (sr_1_10 hs) ?_
    refine E_iload 2 dX11_truth_129 rfl ?_
    obtain ⟨g13, h⟩ := h
    refine E_iald2 (x4.toNatClampNeg) dX11_truth_131 (sk_19 hs) (sn hs (by decide)) g13 rfl ?_
    refine E_iconst (1 : Int32) dX11_truth_132 (by decide) ?_
    refine E_isub dX11_truth_133 ?_
    refine E_istore [(8, .int ((gI σ 19 x4.toNatClampNeg) - (1 : Int32))), (0, .ref 0), (3, .int x3), (4, .int x4), (5, .int x5), (6, .int x6), (7, .int x7)] dX11_truth_134 (by decide) rfl ?_
    refine E_iload_n 2 dX11_truth_136 rfl rfl ?_
    by_cases c0 : x3 = 0
    · rw [if_pos c0] at h
      refine E_tabIn (off := 31) 168 dX11_truth_137 (by rw [c0]; decide) (by rw [c0]; decide) (by rw [c0]; rfl) (by decide) ?_
      refine E_iload 4 dX11_truth_168 rfl ?_
      obtain ⟨rfl, rfl⟩ := h
      exact E_iret dX11_truth_170 rfl
    rw [if_neg c0] at h
    by_cases c1 : x3 = 1
    · rw [if_pos c1] at h
      refine E_tabIn (off := 34) 171 dX11_truth_137 (by rw [c1]; decide) (by rw [c1]; decide) (by rw [c1]; rfl) (by decide) ?_
      refine E_iload 5 dX11_truth_171 rfl ?_
      obtain ⟨rfl, rfl⟩ := h
      exact E_iret dX11_truth_173 rfl
    rw [if_neg c1] at h
    by_cases c2 : x3 = 2
    · rw [if_pos c2] at h
      refine E_tabIn (off := 37) 174 dX11_truth_137 (by rw [c2]; decide) (by rw [c2]; decide) (by rw [c2]; rfl) (by decide) ?_
      refine E_iload 6 dX11_truth_174 rfl ?_
      obtain ⟨rfl, rfl⟩ := h
      exact E_iret dX11_truth_176 rfl
    rw [if_neg c2] at h
    by_cases c3 : x3 = 3
    · rw [if_pos c3] at h
      refine E_tabIn (off := 40) 177 dX11_truth_137 (by rw [c3]; decide) (by rw [c3]; decide) (by rw [c3]; rfl) (by decide) ?_
      refine E_iload 0 dX11_truth_177 rfl ?_
      refine E_iconst (-1 : Int32) dX11_truth_179 (by decide) ?_
      refine E_icmp_eq 194 dX11_truth_180 (by decide) (fun c => ?_) (fun c => ?_)
      · rw [if_pos c] at h
        refine E_iconst (0 : Int32) dX11_truth_194 (by decide) ?_
        obtain ⟨rfl, rfl⟩ := h
        exact E_iret dX11_truth_195 rfl
      · rw [if_neg c] at h
        refine E_iload 4 dX11_truth_183 rfl ?_
        refine E_iload 0 dX11_truth_185 rfl ?_
        refine E_icmp_lt 194 dX11_truth_187 (by decide) (fun c => ?_) (fun c => ?_)
        · rw [if_pos c] at h
          refine E_iconst (0 : Int32) dX11_truth_194 (by decide) ?_
          obtain ⟨rfl, rfl⟩ := h
          exact E_iret dX11_truth_195 rfl
        · rw [if_neg c] at h
          refine E_iconst (1 : Int32) dX11_truth_190 (by decide) ?_
          refine E_goto 195 dX11_truth_191 (by decide) ?_
          obtain ⟨rfl, rfl⟩ := h
          exact E_iret dX11_truth_195 rfl
    rw [if_neg c3] at h
    refine E_tabOut 196 dX11_truth_137 (i32_out (x := x3) 0 3 (fun k h1 h2 => by
        rcases (show k = 0 ∨ k = 1 ∨ k = 2 ∨ k = 3 by omega) with rfl | rfl | rfl | rfl
        · exact c0
        · exact c1
        · exact c2
        · exact c3
        )) (by decide) ?_
    refine E_iload 5 dX11_truth_196 rfl ?_
    refine E_iload 6 dX11_truth_198 rfl ?_
    refine E_icmp_ge 207 dX11_truth_200 (by decide) (fun c => ?_) (fun c => ?_)
    · rw [if_pos c] at h
      refine E_iconst (0 : Int32) dX11_truth_207 (by decide) ?_
      obtain ⟨rfl, rfl⟩ := h
      exact E_iret dX11_truth_208 rfl
    · rw [if_neg c] at h
      refine E_iconst (1 : Int32) dX11_truth_203 (by decide) ?_
      refine E_goto 208 dX11_truth_204 (by decide) ?_
      obtain ⟨rfl, rfl⟩ := h
      exact E_iret dX11_truth_208 rfl
  · rw [if_neg c] at h
    refine E_aload_n 0 dX11_truth_55 rfl rfl ?_
    refine E_getR 1 dX11_truth_56 fl_X11_10 rfl (sk_0 hs) (sn hs (by decide)) (sr_0_0 hs) ?_
    refine E_iload 6 dX11_truth_59 rfl ?_
    obtain ⟨d14, v19, σ15, hD16, hC17, h⟩ := h
    have hs18 := hC17.1.2.2.2.1 hs
    refine E_callV (As := [.int x8]) (rest := []) (r1 := (some (.int v19))) (b := 1) dX11_truth_61 ok_X9_seenIn in_X9_seenIn se_X9_seenIn ml_X11_408 hD16 rfl rfl (Nat.le_of_ble_eq_true rfl) (sk_1 hs) (sn hs (by decide)) (by decide) rfl (by decide +kernel) hC17 ?_
    refine E_istore [(9, .int v19), (0, .ref 0), (3, .int x3), (4, .int x4), (5, .int x5), (6, .int x6), (7, .int x7), (8, .int x8)] dX11_truth_64 (by decide) rfl ?_
    refine E_iload 6 dX11_truth_66 rfl ?_
    refine E_aload_n 1 dX11_truth_68 rfl rfl ?_
    refine E_getR 1 dX11_truth_69 fl_X11_10 rfl (sk_0 hs18) (sn hs18 (by decide)) (sr_0_0 hs18) ?_
    refine E_iload 7 dX11_truth_72 rfl ?_
    obtain ⟨d20, v25, σ21, hD22, hC23, h⟩ := h
    have hs24 := hC23.1.2.2.2.1 hs18
    refine E_callV (As := [.int x8]) (rest := [.int x7]) (r1 := (some (.int v25))) (b := 1) dX11_truth_74 ok_X9_claimedIn in_X9_claimedIn se_X9_claimedIn ml_X11_411 hD22 rfl rfl (Nat.le_of_ble_eq_true rfl) (sk_1 hs18) (sn hs18 (by decide)) (by decide) rfl (by decide +kernel) hC23 ?_
    refine E_iadd dX11_truth_77 ?_
    refine E_istore [(7, .int (x7 + v25)), (9, .int v19), (0, .ref 0), (3, .int x3), (4, .int x4), (5, .int x5), (6, .int x6), (8, .int x8)] dX11_truth_78 (by decide) rfl ?_
    refine E_iload 5 dX11_truth_80 rfl ?_
    refine E_iconst (0 : Int32) dX11_truth_82 (by decide) ?_
    refine E_iload 1 dX11_truth_83 rfl ?_
    obtain ⟨g26, h⟩ := h
    refine E_mmax dX11_truth_85 mm_X11_149 g26 (Nat.le_of_ble_eq_true rfl) ?_
    refine E_iadd dX11_truth_88 ?_
    refine E_istore [(5, .int (x5 + (imax (0 : Int32) v19))), (7, .int (x7 + v25)), (9, .int v19), (0, .ref 0), (3, .int x3), (4, .int x4), (6, .int x6), (8, .int x8)] dX11_truth_89 (by decide) rfl ?_
    refine E_iload 6 dX11_truth_91 rfl ?_
    refine E_iload 2 dX11_truth_93 rfl ?_
    refine E_iconst (-1 : Int32) dX11_truth_95 (by decide) ?_
    refine E_icmp_ne 111 dX11_truth_96 (by decide) (fun c => ?_) (fun c => ?_)
    · rw [if_neg c] at h
      refine E_iload 2 dX11_truth_111 rfl ?_
      exact E_lv [3, 4, 5, 0, 1, 7] rfl (w_X11_truth_113 hs24 h)
    · rw [if_pos c] at h
      refine E_aload_n 3 dX11_truth_99 rfl rfl ?_
      refine E_getR 1 dX11_truth_100 fl_X11_10 rfl (sk_0 hs24) (sn hs24 (by decide)) (sr_0_0 hs24) ?_
      refine E_iload 7 dX11_truth_103 rfl ?_
      obtain ⟨d27, v32, σ28, hD29, hC30, h⟩ := h
      have hs31 := hC30.1.2.2.2.1 hs24
      refine E_callV (As := [.int x8]) (rest := [.int x6]) (r1 := (some (.int v32))) (b := 1) dX11_truth_105 ok_X9_claimedIn in_X9_claimedIn se_X9_claimedIn ml_X11_411 hD29 rfl rfl (Nat.le_of_ble_eq_true rfl) (sk_1 hs24) (sn hs24 (by decide)) (by decide) rfl (by decide +kernel) hC30 ?_
      refine E_goto 113 dX11_truth_108 (by decide) ?_
      exact E_lv [3, 4, 5, 0, 1, 7] rfl (w_X11_truth_113 hs31 h)
def W_X11_image_37 (X : Sx) (l : Launch) (D : Nat) (x1 : Int32) (σ : AH) (r : Option Value) (σ' : AH) : Prop := vp_in x1 3 ∧ (gR σ 21 x1.toNatClampNeg = none → False) ∧ ∀ b36 : Nat, gR σ 21 x1.toNatClampNeg = some b36 → kd σ b36 = (9, NO 9) ∧ b36 < nx σ ∧ ∃ d42 : Nat, ∃ σ43 : AH, d42 + 1 ≤ D ∧ Call X l m_X9_copyFrom d42 [.ref b36, .ref 1] σ none σ43 ∧ ∃ d47 : Nat, ∃ v52 : Int32, ∃ σ48 : AH, d47 + 1 ≤ D ∧ Call X l m_X11_answer d47 [.ref 0, .int (0 : Int32)] σ43 (some (.int v52)) σ48 ∧ (r = some (.int v52) ∧ σ' = σ48)
set_option maxRecDepth 100000 in
theorem w_X11_image_37 {X : Sx} {l : Launch} {D : Nat} {x1 : Int32} {σ : AH} {r : Option Value} {σ' : AH} (hs : Sh σ) (h : W_X11_image_37 X l D x1 σ r σ') : E X l m_X11_image D 37 [(0, .ref 0), (1, .int x1)] [] σ r σ' := by
  unfold W_X11_image_37 at h
  refine E_aload_n 0 dX11_image_37 rfl rfl ?_
  refine E_getR 21 dX11_image_38 fl_X11_16 rfl (sk_0 hs) (sn hs (by decide)) (sr_0_1 hs) ?_
  refine E_iload_n 1 dX11_image_41 rfl rfl ?_
  obtain ⟨g40, h0, h1⟩ := h
  rcases q41 : gR σ 21 x1.toNatClampNeg with _ | b36
  · have h := h0 q41
    refine E_aaldN dX11_image_42 (sk_21 hs) (sn hs (by decide)) (Or.inr (Or.inl rfl)) g40 q41 ?_
    refine E_aload_n 0 dX11_image_43 rfl rfl ?_
    refine E_getR 1 dX11_image_44 fl_X11_10 rfl (sk_0 hs) (sn hs (by decide)) (sr_0_0 hs) ?_
    exact h.elim
  · obtain ⟨hk38, hb39, h⟩ := h1 b36 q41
    refine E_aald b36 dX11_image_42 (sk_21 hs) (sn hs (by decide)) (Or.inr (Or.inl rfl)) g40 q41 ?_
    refine E_aload_n 0 dX11_image_43 rfl rfl ?_
    refine E_getR 1 dX11_image_44 fl_X11_10 rfl (sk_0 hs) (sn hs (by decide)) (sr_0_0 hs) ?_
    obtain ⟨d42, σ43, hD44, hC45, h⟩ := h
    have hs46 := hC45.1.2.2.2.1 hs
    refine E_callV (As := [.ref 1]) (rest := []) (r1 := none) (b := b36) dX11_image_47 ok_X9_copyFrom in_X9_copyFrom se_X9_copyFrom ml_X11_414 hD44 rfl rfl (Nat.le_of_ble_eq_true rfl) hk38 hb39 (by decide) rfl (by decide +kernel) hC45 ?_
    refine E_aload_n 0 dX11_image_50 rfl rfl ?_
    refine E_iconst (0 : Int32) dX11_image_51 (by decide) ?_
    obtain ⟨d47, v52, σ48, hD49, hC50, h⟩ := h
    have hs51 := hC50.1.2.2.2.1 hs46
    refine E_callV (As := [.int (0 : Int32)]) (rest := []) (r1 := (some (.int v52))) (b := 0) dX11_image_52 ok_X11_answer in_X11_answer se_X11_answer ml_X11_105 hD49 rfl rfl (Nat.le_of_ble_eq_true rfl) (sk_0 hs46) (sn hs46 (by decide)) (by decide) rfl (by decide +kernel) hC50 ?_
    obtain ⟨rfl, rfl⟩ := h
    exact E_iret dX11_image_55 rfl
def W_X11_image_0 (X : Sx) (l : Launch) (D : Nat) (x1 : Int32) (σ : AH) (r : Option Value) (σ' : AH) : Prop := ∃ d1 : Nat, ∃ v6 : Int32, ∃ σ2 : AH, d1 + 1 ≤ D ∧ Call X l m_X11_isIn d1 [.int x1, .int (0 : Int32), .int (2 : Int32)] σ (some (.int v6)) σ2 ∧ (if v6 = 0 then ∃ d30 : Nat, ∃ v35 : Int32, ∃ σ31 : AH, d30 + 1 ≤ D ∧ Call X l m_X11_answer d30 [.ref 0, .int (-1 : Int32)] σ2 (some (.int v35)) σ31 ∧ (r = some (.int v35) ∧ σ' = σ31) else vp_in x1 3 ∧ (gR σ2 21 x1.toNatClampNeg = none → (∀ τ13 : AH, τ13 = (aw σ2 9 (NO 9)) → ∃ d18 : Nat, ∃ σ19 : AH, d18 + 1 ≤ D ∧ Call X l m_X9_init d18 [.ref (nx σ2)] τ13 none σ19 ∧ vp_in x1 3 ∧ (Sh σ19 → Sh (sR σ19 21 x1.toNatClampNeg (some (nx σ2)))) ∧ (∀ τ27 : AH, τ27 = (sR σ19 21 x1.toNatClampNeg (some (nx σ2))) → W_X11_image_37 X l D x1 τ27 r σ'))) ∧ ∀ b7 : Nat, gR σ2 21 x1.toNatClampNeg = some b7 → kd σ2 b7 = (9, NO 9) ∧ b7 < nx σ2 ∧ W_X11_image_37 X l D x1 σ2 r σ')
set_option maxRecDepth 100000 in
theorem w_X11_image_0 {X : Sx} {l : Launch} {D : Nat} {x1 : Int32} {σ : AH} {r : Option Value} {σ' : AH} (hs : Sh σ) (h : W_X11_image_0 X l D x1 σ r σ') : E X l m_X11_image D 0 [(0, .ref 0), (1, .int x1)] [] σ r σ' := by
  unfold W_X11_image_0 at h
  refine E_iload_n 1 dX11_image_0 rfl rfl ?_
  refine E_iconst (0 : Int32) dX11_image_1 (by decide) ?_
  refine E_iconst (2 : Int32) dX11_image_2 (by decide) ?_
  obtain ⟨d1, v6, σ2, hD3, hC4, h⟩ := h
  have hs5 := hC4.1.2.2.2.1 hs
  refine E_callS (As := [.int x1, .int (0 : Int32), .int (2 : Int32)]) (rest := []) (r1 := (some (.int v6))) dX11_image_3 ok_X11_isIn is_X11_isIn ml_X11_124 hD3 rfl rfl (Nat.le_of_ble_eq_true rfl) (by decide +kernel) hC4 ?_
  refine E_if_ne 15 dX11_image_6 (by decide) (fun c => ?_) (fun c => ?_)
  · rw [if_neg c] at h
    refine E_aload_n 0 dX11_image_15 rfl rfl ?_
    refine E_getR 21 dX11_image_16 fl_X11_16 rfl (sk_0 hs5) (sn hs5 (by decide)) (sr_0_1 hs5) ?_
    refine E_iload_n 1 dX11_image_19 rfl rfl ?_
    obtain ⟨g11, h0, h1⟩ := h
    rcases q12 : gR σ2 21 x1.toNatClampNeg with _ | b7
    · have h := h0 q12
      refine E_aaldN dX11_image_20 (sk_21 hs5) (sn hs5 (by decide)) (Or.inr (Or.inl rfl)) g11 q12 ?_
      refine E_ifnonnullN dX11_image_21 ?_
      refine E_aload_n 0 dX11_image_24 rfl rfl ?_
      refine E_getR 21 dX11_image_25 fl_X11_16 rfl (sk_0 hs5) (sn hs5 (by decide)) (sr_0_1 hs5) ?_
      refine E_iload_n 1 dX11_image_28 rfl rfl ?_
      refine E_new 9 dX11_image_29 (by decide) ck_X11_7 ?_
      obtain ⟨τ13, e14⟩ : ∃ τ : AH, τ = (aw σ2 9 (NO 9)) := ⟨_, rfl⟩
      replace h := h τ13 e14
      rw [← e14]
      have hs15 : Sh τ13 := by rw [e14]; exact (Sh_aw hs5)
      have hk16 : kd _ (nx σ2) = (9, NO 9) := (congrFun (congrArg kd e14) _).trans (up_same _ _ _)
      have hb17 := Nat.lt_of_lt_of_eq (Nat.lt_succ_self _) (congrArg nx e14).symm
      refine E_dup dX11_image_32 rfl ?_
      obtain ⟨d18, σ19, hD20, hC21, h⟩ := h
      have hs22 := hC21.1.2.2.2.1 hs15
      have hk23 := (hC21.1.2.2.1 _ hb17).trans hk16
      have hb24 := Nat.lt_of_lt_of_le hb17 hC21.1.1
      refine E_callIN (As := []) (rest := [.ref (nx σ2), .int x1, .ref 21]) (r1 := none) (b := (nx σ2)) dX11_image_33 ok_X9_init in_X9_init rfl rfl (by decide) hD20 rfl rfl (Nat.le_of_ble_eq_true rfl) (by decide +kernel) hC21 ?_
      obtain ⟨g25, g26, h⟩ := h
      refine E_aast dX11_image_36 (sk_21 hs22) (sn hs22 (by decide)) (Or.inr (Or.inl rfl)) g25 hk23 hb24 (by decide) rfl (Or.inl (by decide)) g26 ?_
      obtain ⟨τ27, e28⟩ : ∃ τ : AH, τ = (sR σ19 21 x1.toNatClampNeg (some (nx σ2))) := ⟨_, rfl⟩
      replace h := h τ27 e28
      rw [← e28]
      have hs29 : Sh τ27 := by rw [e28]; exact (g26 hs22)
      exact E_lv [0, 1] rfl (w_X11_image_37 hs29 h)
    · obtain ⟨hk9, hb10, h⟩ := h1 b7 q12
      refine E_aald b7 dX11_image_20 (sk_21 hs5) (sn hs5 (by decide)) (Or.inr (Or.inl rfl)) g11 q12 ?_
      refine E_ifnonnull 37 dX11_image_21 (by decide) ?_
      exact E_lv [0, 1] rfl (w_X11_image_37 hs5 h)
  · rw [if_pos c] at h
    refine E_aload_n 0 dX11_image_9 rfl rfl ?_
    refine E_iconst (-1 : Int32) dX11_image_10 (by decide) ?_
    obtain ⟨d30, v35, σ31, hD32, hC33, h⟩ := h
    have hs34 := hC33.1.2.2.2.1 hs5
    refine E_callV (As := [.int (-1 : Int32)]) (rest := []) (r1 := (some (.int v35))) (b := 0) dX11_image_11 ok_X11_answer in_X11_answer se_X11_answer ml_X11_105 hD32 rfl rfl (Nat.le_of_ble_eq_true rfl) (sk_0 hs5) (sn hs5 (by decide)) (by decide) rfl (by decide +kernel) hC33 ?_
    obtain ⟨rfl, rfl⟩ := h
    exact E_iret dX11_image_14 rfl
def W_X11_back_0 (X : Sx) (l : Launch) (D : Nat) (x1 : Int32) (σ : AH) (r : Option Value) (σ' : AH) : Prop := ∃ d1 : Nat, ∃ v6 : Int32, ∃ σ2 : AH, d1 + 1 ≤ D ∧ Call X l m_X11_isIn d1 [.int x1, .int (0 : Int32), .int (2 : Int32)] σ (some (.int v6)) σ2 ∧ (if v6 = 0 then ∃ d57 : Nat, ∃ v62 : Int32, ∃ σ58 : AH, d57 + 1 ≤ D ∧ Call X l m_X11_answer d57 [.ref 0, .int (-1 : Int32)] σ2 (some (.int v62)) σ58 ∧ (r = some (.int v62) ∧ σ' = σ58) else vp_in x1 3 ∧ (gR σ2 21 x1.toNatClampNeg = none → ∃ d51 : Nat, ∃ v56 : Int32, ∃ σ52 : AH, d51 + 1 ≤ D ∧ Call X l m_X11_answer d51 [.ref 0, .int (-2 : Int32)] σ2 (some (.int v56)) σ52 ∧ (r = some (.int v56) ∧ σ' = σ52)) ∧ ∀ b7 : Nat, gR σ2 21 x1.toNatClampNeg = some b7 → kd σ2 b7 = (9, NO 9) ∧ b7 < nx σ2 ∧ vp_in x1 3 ∧ (gR σ2 21 x1.toNatClampNeg = none → ∃ d35 : Nat, ∃ σ36 : AH, d35 + 1 ≤ D ∧ Call X l m_X9_copyFrom d35 [.ref 1, .null] σ2 none σ36 ∧ ∃ d40 : Nat, ∃ σ41 : AH, d40 + 1 ≤ D ∧ Call X l m_X3_reread d40 [.ref 28] (sI (sI σ36 22 1 (0 : Int32)) 68 3 (0 : Int32)) none σ41 ∧ ∃ d45 : Nat, ∃ v50 : Int32, ∃ σ46 : AH, d45 + 1 ≤ D ∧ Call X l m_X11_answer d45 [.ref 0, .int (0 : Int32)] (sI (sI σ41 0 12 ((gI σ41 0 12) + (1 : Int32))) 0 13 ((gI (sI σ41 0 12 ((gI σ41 0 12) + (1 : Int32))) 0 13) + (1 : Int32))) (some (.int v50)) σ46 ∧ (r = some (.int v50) ∧ σ' = σ46)) ∧ ∀ b13 : Nat, gR σ2 21 x1.toNatClampNeg = some b13 → kd σ2 b13 = (9, NO 9) ∧ b13 < nx σ2 ∧ ∃ d19 : Nat, ∃ σ20 : AH, d19 + 1 ≤ D ∧ Call X l m_X9_copyFrom d19 [.ref 1, .ref b13] σ2 none σ20 ∧ ∃ d24 : Nat, ∃ σ25 : AH, d24 + 1 ≤ D ∧ Call X l m_X3_reread d24 [.ref 28] (sI (sI σ20 22 1 (0 : Int32)) 68 3 (0 : Int32)) none σ25 ∧ ∃ d29 : Nat, ∃ v34 : Int32, ∃ σ30 : AH, d29 + 1 ≤ D ∧ Call X l m_X11_answer d29 [.ref 0, .int (0 : Int32)] (sI (sI σ25 0 12 ((gI σ25 0 12) + (1 : Int32))) 0 13 ((gI (sI σ25 0 12 ((gI σ25 0 12) + (1 : Int32))) 0 13) + (1 : Int32))) (some (.int v34)) σ30 ∧ (r = some (.int v34) ∧ σ' = σ30))
set_option maxRecDepth 100000 in
theorem w_X11_back_0 {X : Sx} {l : Launch} {D : Nat} {x1 : Int32} {σ : AH} {r : Option Value} {σ' : AH} (hs : Sh σ) (h : W_X11_back_0 X l D x1 σ r σ') : E X l m_X11_back D 0 [(0, .ref 0), (1, .int x1)] [] σ r σ' := by
  unfold W_X11_back_0 at h
  refine E_iload_n 1 dX11_back_0 rfl rfl ?_
  refine E_iconst (0 : Int32) dX11_back_1 (by decide) ?_
  refine E_iconst (2 : Int32) dX11_back_2 (by decide) ?_
  obtain ⟨d1, v6, σ2, hD3, hC4, h⟩ := h
  have hs5 := hC4.1.2.2.2.1 hs
  refine E_callS (As := [.int x1, .int (0 : Int32), .int (2 : Int32)]) (rest := []) (r1 := (some (.int v6))) dX11_back_3 ok_X11_isIn is_X11_isIn ml_X11_124 hD3 rfl rfl (Nat.le_of_ble_eq_true rfl) (by decide +kernel) hC4 ?_
  refine E_if_ne 15 dX11_back_6 (by decide) (fun c => ?_) (fun c => ?_)
  · rw [if_neg c] at h
    refine E_aload_n 0 dX11_back_15 rfl rfl ?_
    refine E_getR 21 dX11_back_16 fl_X11_16 rfl (sk_0 hs5) (sn hs5 (by decide)) (sr_0_1 hs5) ?_
    refine E_iload_n 1 dX11_back_19 rfl rfl ?_
    obtain ⟨g11, h0, h1⟩ := h
    rcases q12 : gR σ2 21 x1.toNatClampNeg with _ | b7
    · have h := h0 q12
      refine E_aaldN dX11_back_20 (sk_21 hs5) (sn hs5 (by decide)) (Or.inr (Or.inl rfl)) g11 q12 ?_
      refine E_ifnonnullN dX11_back_21 ?_
      refine E_aload_n 0 dX11_back_24 rfl rfl ?_
      refine E_bipush (-2 : Int32) dX11_back_25 (by decide) ?_
      obtain ⟨d51, v56, σ52, hD53, hC54, h⟩ := h
      have hs55 := hC54.1.2.2.2.1 hs5
      refine E_callV (As := [.int (-2 : Int32)]) (rest := []) (r1 := (some (.int v56))) (b := 0) dX11_back_27 ok_X11_answer in_X11_answer se_X11_answer ml_X11_105 hD53 rfl rfl (Nat.le_of_ble_eq_true rfl) (sk_0 hs5) (sn hs5 (by decide)) (by decide) rfl (by decide +kernel) hC54 ?_
      obtain ⟨rfl, rfl⟩ := h
      exact E_iret dX11_back_30 rfl
    · obtain ⟨hk9, hb10, h⟩ := h1 b7 q12
      refine E_aald b7 dX11_back_20 (sk_21 hs5) (sn hs5 (by decide)) (Or.inr (Or.inl rfl)) g11 q12 ?_
      refine E_ifnonnull 31 dX11_back_21 (by decide) ?_
      refine E_aload_n 0 dX11_back_31 rfl rfl ?_
      refine E_getR 1 dX11_back_32 fl_X11_10 rfl (sk_0 hs5) (sn hs5 (by decide)) (sr_0_0 hs5) ?_
      refine E_aload_n 0 dX11_back_35 rfl rfl ?_
      refine E_getR 21 dX11_back_36 fl_X11_16 rfl (sk_0 hs5) (sn hs5 (by decide)) (sr_0_1 hs5) ?_
      refine E_iload_n 1 dX11_back_39 rfl rfl ?_
      obtain ⟨g17, h0, h1⟩ := h
      rcases q18 : gR σ2 21 x1.toNatClampNeg with _ | b13
      · have h := h0 q18
        refine E_aaldN dX11_back_40 (sk_21 hs5) (sn hs5 (by decide)) (Or.inr (Or.inl rfl)) g17 q18 ?_
        obtain ⟨d35, σ36, hD37, hC38, h⟩ := h
        have hs39 := hC38.1.2.2.2.1 hs5
        refine E_callV (As := [.null]) (rest := []) (r1 := none) (b := 1) dX11_back_41 ok_X9_copyFrom in_X9_copyFrom se_X9_copyFrom ml_X11_414 hD37 rfl rfl (Nat.le_of_ble_eq_true rfl) (sk_1 hs5) (sn hs5 (by decide)) (by decide) rfl (by decide +kernel) hC38 ?_
        refine E_aload_n 0 dX11_back_44 rfl rfl ?_
        refine E_getR 22 dX11_back_45 fl_X11_23 rfl (sk_0 hs39) (sn hs39 (by decide)) (sr_0_2 hs39) ?_
        refine E_iconst (0 : Int32) dX11_back_48 (by decide) ?_
        refine E_putI dX11_back_49 fl_X11_92 rfl (Or.inl rfl) (sk_22 hs39) (sn hs39 (by decide)) (Or.inl (by decide)) rfl rfl ?_
        refine E_aload_n 0 dX11_back_52 rfl rfl ?_
        refine E_getR 68 dX11_back_53 fl_X11_60 rfl (sk_0 hs39) (sn hs39 (by decide)) (sr_0_7 hs39) ?_
        refine E_iconst (0 : Int32) dX11_back_56 (by decide) ?_
        refine E_putI dX11_back_57 fl_X11_233 rfl (Or.inl rfl) (sk_68 hs39) (sn hs39 (by decide)) (Or.inl (by decide)) rfl rfl ?_
        refine E_aload_n 0 dX11_back_60 rfl rfl ?_
        refine E_getR 28 dX11_back_61 fl_X11_32 rfl (sk_0 hs39) (sn hs39 (by decide)) (sr_0_3 hs39) ?_
        obtain ⟨d40, σ41, hD42, hC43, h⟩ := h
        have hs44 := hC43.1.2.2.2.1 hs39
        refine E_callV (As := []) (rest := []) (r1 := none) (b := 28) dX11_back_64 ok_X3_reread in_X3_reread se_X3_reread ml_X11_118 hD42 rfl rfl (Nat.le_of_ble_eq_true rfl) (sk_28 hs39) (sn hs39 (by decide)) (by decide) rfl (by decide +kernel) hC43 ?_
        refine E_aload_n 0 dX11_back_67 rfl rfl ?_
        refine E_dup dX11_back_68 rfl ?_
        refine E_getI dX11_back_69 fl_X11_121 rfl (sk_0 hs44) (sn hs44 (by decide)) ?_
        refine E_iconst (1 : Int32) dX11_back_72 (by decide) ?_
        refine E_iadd dX11_back_73 ?_
        refine E_putI dX11_back_74 fl_X11_121 rfl (Or.inl rfl) (sk_0 hs44) (sn hs44 (by decide)) (Or.inl (by decide)) rfl rfl ?_
        refine E_aload_n 0 dX11_back_77 rfl rfl ?_
        refine E_dup dX11_back_78 rfl ?_
        refine E_getI dX11_back_79 fl_X11_289 rfl (sk_0 hs44) (sn hs44 (by decide)) ?_
        refine E_iconst (1 : Int32) dX11_back_82 (by decide) ?_
        refine E_iadd dX11_back_83 ?_
        refine E_putI dX11_back_84 fl_X11_289 rfl (Or.inl rfl) (sk_0 hs44) (sn hs44 (by decide)) (Or.inl (by decide)) rfl rfl ?_
        refine E_aload_n 0 dX11_back_87 rfl rfl ?_
        refine E_iconst (0 : Int32) dX11_back_88 (by decide) ?_
        obtain ⟨d45, v50, σ46, hD47, hC48, h⟩ := h
        have hs49 := hC48.1.2.2.2.1 hs44
        refine E_callV (As := [.int (0 : Int32)]) (rest := []) (r1 := (some (.int v50))) (b := 0) dX11_back_89 ok_X11_answer in_X11_answer se_X11_answer ml_X11_105 hD47 rfl rfl (Nat.le_of_ble_eq_true rfl) (sk_0 hs44) (sn hs44 (by decide)) (by decide) rfl (by decide +kernel) hC48 ?_
        obtain ⟨rfl, rfl⟩ := h
        exact E_iret dX11_back_92 rfl
      · obtain ⟨hk15, hb16, h⟩ := h1 b13 q18
        refine E_aald b13 dX11_back_40 (sk_21 hs5) (sn hs5 (by decide)) (Or.inr (Or.inl rfl)) g17 q18 ?_
        obtain ⟨d19, σ20, hD21, hC22, h⟩ := h
        have hs23 := hC22.1.2.2.2.1 hs5
        refine E_callV (As := [.ref b13]) (rest := []) (r1 := none) (b := 1) dX11_back_41 ok_X9_copyFrom in_X9_copyFrom se_X9_copyFrom ml_X11_414 hD21 rfl rfl (Nat.le_of_ble_eq_true rfl) (sk_1 hs5) (sn hs5 (by decide)) (by decide) rfl (by decide +kernel) hC22 ?_
        refine E_aload_n 0 dX11_back_44 rfl rfl ?_
        refine E_getR 22 dX11_back_45 fl_X11_23 rfl (sk_0 hs23) (sn hs23 (by decide)) (sr_0_2 hs23) ?_
        refine E_iconst (0 : Int32) dX11_back_48 (by decide) ?_
        refine E_putI dX11_back_49 fl_X11_92 rfl (Or.inl rfl) (sk_22 hs23) (sn hs23 (by decide)) (Or.inl (by decide)) rfl rfl ?_
        refine E_aload_n 0 dX11_back_52 rfl rfl ?_
        refine E_getR 68 dX11_back_53 fl_X11_60 rfl (sk_0 hs23) (sn hs23 (by decide)) (sr_0_7 hs23) ?_
        refine E_iconst (0 : Int32) dX11_back_56 (by decide) ?_
        refine E_putI dX11_back_57 fl_X11_233 rfl (Or.inl rfl) (sk_68 hs23) (sn hs23 (by decide)) (Or.inl (by decide)) rfl rfl ?_
        refine E_aload_n 0 dX11_back_60 rfl rfl ?_
        refine E_getR 28 dX11_back_61 fl_X11_32 rfl (sk_0 hs23) (sn hs23 (by decide)) (sr_0_3 hs23) ?_
        obtain ⟨d24, σ25, hD26, hC27, h⟩ := h
        have hs28 := hC27.1.2.2.2.1 hs23
        refine E_callV (As := []) (rest := []) (r1 := none) (b := 28) dX11_back_64 ok_X3_reread in_X3_reread se_X3_reread ml_X11_118 hD26 rfl rfl (Nat.le_of_ble_eq_true rfl) (sk_28 hs23) (sn hs23 (by decide)) (by decide) rfl (by decide +kernel) hC27 ?_
        refine E_aload_n 0 dX11_back_67 rfl rfl ?_
        refine E_dup dX11_back_68 rfl ?_
        refine E_getI dX11_back_69 fl_X11_121 rfl (sk_0 hs28) (sn hs28 (by decide)) ?_
        refine E_iconst (1 : Int32) dX11_back_72 (by decide) ?_
        refine E_iadd dX11_back_73 ?_
        refine E_putI dX11_back_74 fl_X11_121 rfl (Or.inl rfl) (sk_0 hs28) (sn hs28 (by decide)) (Or.inl (by decide)) rfl rfl ?_
        refine E_aload_n 0 dX11_back_77 rfl rfl ?_
        refine E_dup dX11_back_78 rfl ?_
        refine E_getI dX11_back_79 fl_X11_289 rfl (sk_0 hs28) (sn hs28 (by decide)) ?_
        refine E_iconst (1 : Int32) dX11_back_82 (by decide) ?_
        refine E_iadd dX11_back_83 ?_
        refine E_putI dX11_back_84 fl_X11_289 rfl (Or.inl rfl) (sk_0 hs28) (sn hs28 (by decide)) (Or.inl (by decide)) rfl rfl ?_
        refine E_aload_n 0 dX11_back_87 rfl rfl ?_
        refine E_iconst (0 : Int32) dX11_back_88 (by decide) ?_
        obtain ⟨d29, v34, σ30, hD31, hC32, h⟩ := h
        have hs33 := hC32.1.2.2.2.1 hs28
        refine E_callV (As := [.int (0 : Int32)]) (rest := []) (r1 := (some (.int v34))) (b := 0) dX11_back_89 ok_X11_answer in_X11_answer se_X11_answer ml_X11_105 hD31 rfl rfl (Nat.le_of_ble_eq_true rfl) (sk_0 hs28) (sn hs28 (by decide)) (by decide) rfl (by decide +kernel) hC32 ?_
        obtain ⟨rfl, rfl⟩ := h
        exact E_iret dX11_back_92 rfl
  · rw [if_pos c] at h
    refine E_aload_n 0 dX11_back_9 rfl rfl ?_
    refine E_iconst (-1 : Int32) dX11_back_10 (by decide) ?_
    obtain ⟨d57, v62, σ58, hD59, hC60, h⟩ := h
    have hs61 := hC60.1.2.2.2.1 hs5
    refine E_callV (As := [.int (-1 : Int32)]) (rest := []) (r1 := (some (.int v62))) (b := 0) dX11_back_11 ok_X11_answer in_X11_answer se_X11_answer ml_X11_105 hD59 rfl rfl (Nat.le_of_ble_eq_true rfl) (sk_0 hs5) (sn hs5 (by decide)) (by decide) rfl (by decide +kernel) hC60 ?_
    obtain ⟨rfl, rfl⟩ := h
    exact E_iret dX11_back_14 rfl
def W_X11_count_0 (X : Sx) (l : Launch) (D : Nat) (x1 : Int32) (σ : AH) (r : Option Value) (σ' : AH) : Prop := (if x1 = 0 then (r = some (.int (gI σ 1 1)) ∧ σ' = σ) else (if x1 = 1 then ∃ d1 : Nat, ∃ v6 : Int32, ∃ σ2 : AH, d1 + 1 ≤ D ∧ Call X l m_X8_rows d1 [.ref 3] σ (some (.int v6)) σ2 ∧ (r = some (.int v6) ∧ σ' = σ2) else (if x1 = 2 then ∃ d7 : Nat, ∃ v12 : Int32, ∃ σ8 : AH, d7 + 1 ≤ D ∧ Call X l m_X8_rows d7 [.ref 5] σ (some (.int v12)) σ8 ∧ (r = some (.int v12) ∧ σ' = σ8) else (if x1 = 3 then ∃ d13 : Nat, ∃ v18 : Int32, ∃ σ14 : AH, d13 + 1 ≤ D ∧ Call X l m_X8_rows d13 [.ref 9] σ (some (.int v18)) σ14 ∧ (r = some (.int v18) ∧ σ' = σ14) else (if x1 = 4 then ∃ d19 : Nat, ∃ v24 : Int32, ∃ σ20 : AH, d19 + 1 ≤ D ∧ Call X l m_X8_rows d19 [.ref 11] σ (some (.int v24)) σ20 ∧ (r = some (.int v24) ∧ σ' = σ20) else (if x1 = 5 then (r = some (.int (gI σ 68 3)) ∧ σ' = σ) else (if x1 = 6 then ∃ d25 : Nat, ∃ v30 : Int32, ∃ σ26 : AH, d25 + 1 ≤ D ∧ Call X l m_X8_rows d25 [.ref 13] σ (some (.int v30)) σ26 ∧ (r = some (.int v30) ∧ σ' = σ26) else (if x1 = 7 then (r = some (.int (gI σ 1 13)) ∧ σ' = σ) else (if x1 = 8 then (r = some (.int (gI σ 1 14)) ∧ σ' = σ) else (if x1 = 9 then (r = some (.int (gI σ 22 1)) ∧ σ' = σ) else (r = some (.int (-1 : Int32)) ∧ σ' = σ)))))))))))
set_option maxRecDepth 100000 in
theorem w_X11_count_0 {X : Sx} {l : Launch} {D : Nat} {x1 : Int32} {σ : AH} {r : Option Value} {σ' : AH} (hs : Sh σ) (h : W_X11_count_0 X l D x1 σ r σ') : E X l m_X11_count D 0 [(0, .ref 0), (1, .int x1)] [] σ r σ' := by
  unfold W_X11_count_0 at h
  refine E_iload_n 1 dX11_count_0 rfl rfl ?_
  by_cases c0 : x1 = 0
  · rw [if_pos c0] at h
    refine E_tabIn (off := 55) 56 dX11_count_1 (by rw [c0]; decide) (by rw [c0]; decide) (by rw [c0]; rfl) (by decide) ?_
    refine E_aload_n 0 dX11_count_56 rfl rfl ?_
    refine E_getR 1 dX11_count_57 fl_X11_10 rfl (sk_0 hs) (sn hs (by decide)) (sr_0_0 hs) ?_
    refine E_getI dX11_count_60 fl_X11_98 rfl (sk_1 hs) (sn hs (by decide)) ?_
    obtain ⟨rfl, rfl⟩ := h
    exact E_iret dX11_count_63 rfl
  rw [if_neg c0] at h
  by_cases c1 : x1 = 1
  · rw [if_pos c1] at h
    refine E_tabIn (off := 63) 64 dX11_count_1 (by rw [c1]; decide) (by rw [c1]; decide) (by rw [c1]; rfl) (by decide) ?_
    refine E_aload_n 0 dX11_count_64 rfl rfl ?_
    refine E_getR 1 dX11_count_65 fl_X11_10 rfl (sk_0 hs) (sn hs (by decide)) (sr_0_0 hs) ?_
    refine E_getR 3 dX11_count_68 fl_X11_156 rfl (sk_1 hs) (sn hs (by decide)) (sr_1_2 hs) ?_
    obtain ⟨d1, v6, σ2, hD3, hC4, h⟩ := h
    have hs5 := hC4.1.2.2.2.1 hs
    refine E_callV (As := []) (rest := []) (r1 := (some (.int v6))) (b := 3) dX11_count_71 ok_X8_rows in_X8_rows se_X8_rows ml_X11_173 hD3 rfl rfl (Nat.le_of_ble_eq_true rfl) (sk_3 hs) (sn hs (by decide)) (by decide) rfl (by decide +kernel) hC4 ?_
    obtain ⟨rfl, rfl⟩ := h
    exact E_iret dX11_count_74 rfl
  rw [if_neg c1] at h
  by_cases c2 : x1 = 2
  · rw [if_pos c2] at h
    refine E_tabIn (off := 74) 75 dX11_count_1 (by rw [c2]; decide) (by rw [c2]; decide) (by rw [c2]; rfl) (by decide) ?_
    refine E_aload_n 0 dX11_count_75 rfl rfl ?_
    refine E_getR 1 dX11_count_76 fl_X11_10 rfl (sk_0 hs) (sn hs (by decide)) (sr_0_0 hs) ?_
    refine E_getR 5 dX11_count_79 fl_X11_176 rfl (sk_1 hs) (sn hs (by decide)) (sr_1_3 hs) ?_
    obtain ⟨d7, v12, σ8, hD9, hC10, h⟩ := h
    have hs11 := hC10.1.2.2.2.1 hs
    refine E_callV (As := []) (rest := []) (r1 := (some (.int v12))) (b := 5) dX11_count_82 ok_X8_rows in_X8_rows se_X8_rows ml_X11_173 hD9 rfl rfl (Nat.le_of_ble_eq_true rfl) (sk_5 hs) (sn hs (by decide)) (by decide) rfl (by decide +kernel) hC10 ?_
    obtain ⟨rfl, rfl⟩ := h
    exact E_iret dX11_count_85 rfl
  rw [if_neg c2] at h
  by_cases c3 : x1 = 3
  · rw [if_pos c3] at h
    refine E_tabIn (off := 85) 86 dX11_count_1 (by rw [c3]; decide) (by rw [c3]; decide) (by rw [c3]; rfl) (by decide) ?_
    refine E_aload_n 0 dX11_count_86 rfl rfl ?_
    refine E_getR 1 dX11_count_87 fl_X11_10 rfl (sk_0 hs) (sn hs (by decide)) (sr_0_0 hs) ?_
    refine E_getR 9 dX11_count_90 fl_X11_182 rfl (sk_1 hs) (sn hs (by decide)) (sr_1_5 hs) ?_
    obtain ⟨d13, v18, σ14, hD15, hC16, h⟩ := h
    have hs17 := hC16.1.2.2.2.1 hs
    refine E_callV (As := []) (rest := []) (r1 := (some (.int v18))) (b := 9) dX11_count_93 ok_X8_rows in_X8_rows se_X8_rows ml_X11_173 hD15 rfl rfl (Nat.le_of_ble_eq_true rfl) (sk_9 hs) (sn hs (by decide)) (by decide) rfl (by decide +kernel) hC16 ?_
    obtain ⟨rfl, rfl⟩ := h
    exact E_iret dX11_count_96 rfl
  rw [if_neg c3] at h
  by_cases c4 : x1 = 4
  · rw [if_pos c4] at h
    refine E_tabIn (off := 96) 97 dX11_count_1 (by rw [c4]; decide) (by rw [c4]; decide) (by rw [c4]; rfl) (by decide) ?_
    refine E_aload_n 0 dX11_count_97 rfl rfl ?_
    refine E_getR 1 dX11_count_98 fl_X11_10 rfl (sk_0 hs) (sn hs (by decide)) (sr_0_0 hs) ?_
    refine E_getR 11 dX11_count_101 fl_X11_191 rfl (sk_1 hs) (sn hs (by decide)) (sr_1_6 hs) ?_
    obtain ⟨d19, v24, σ20, hD21, hC22, h⟩ := h
    have hs23 := hC22.1.2.2.2.1 hs
    refine E_callV (As := []) (rest := []) (r1 := (some (.int v24))) (b := 11) dX11_count_104 ok_X8_rows in_X8_rows se_X8_rows ml_X11_173 hD21 rfl rfl (Nat.le_of_ble_eq_true rfl) (sk_11 hs) (sn hs (by decide)) (by decide) rfl (by decide +kernel) hC22 ?_
    obtain ⟨rfl, rfl⟩ := h
    exact E_iret dX11_count_107 rfl
  rw [if_neg c4] at h
  by_cases c5 : x1 = 5
  · rw [if_pos c5] at h
    refine E_tabIn (off := 107) 108 dX11_count_1 (by rw [c5]; decide) (by rw [c5]; decide) (by rw [c5]; rfl) (by decide) ?_
    refine E_aload_n 0 dX11_count_108 rfl rfl ?_
    refine E_getR 68 dX11_count_109 fl_X11_60 rfl (sk_0 hs) (sn hs (by decide)) (sr_0_7 hs) ?_
    refine E_getI dX11_count_112 fl_X11_233 rfl (sk_68 hs) (sn hs (by decide)) ?_
    obtain ⟨rfl, rfl⟩ := h
    exact E_iret dX11_count_115 rfl
  rw [if_neg c5] at h
  by_cases c6 : x1 = 6
  · rw [if_pos c6] at h
    refine E_tabIn (off := 115) 116 dX11_count_1 (by rw [c6]; decide) (by rw [c6]; decide) (by rw [c6]; rfl) (by decide) ?_
    refine E_aload_n 0 dX11_count_116 rfl rfl ?_
    refine E_getR 1 dX11_count_117 fl_X11_10 rfl (sk_0 hs) (sn hs (by decide)) (sr_0_0 hs) ?_
    refine E_getR 13 dX11_count_120 fl_X11_286 rfl (sk_1 hs) (sn hs (by decide)) (sr_1_7 hs) ?_
    obtain ⟨d25, v30, σ26, hD27, hC28, h⟩ := h
    have hs29 := hC28.1.2.2.2.1 hs
    refine E_callV (As := []) (rest := []) (r1 := (some (.int v30))) (b := 13) dX11_count_123 ok_X8_rows in_X8_rows se_X8_rows ml_X11_173 hD27 rfl rfl (Nat.le_of_ble_eq_true rfl) (sk_13 hs) (sn hs (by decide)) (by decide) rfl (by decide +kernel) hC28 ?_
    obtain ⟨rfl, rfl⟩ := h
    exact E_iret dX11_count_126 rfl
  rw [if_neg c6] at h
  by_cases c7 : x1 = 7
  · rw [if_pos c7] at h
    refine E_tabIn (off := 126) 127 dX11_count_1 (by rw [c7]; decide) (by rw [c7]; decide) (by rw [c7]; rfl) (by decide) ?_
    refine E_aload_n 0 dX11_count_127 rfl rfl ?_
    refine E_getR 1 dX11_count_128 fl_X11_10 rfl (sk_0 hs) (sn hs (by decide)) (sr_0_0 hs) ?_
    refine E_getI dX11_count_131 fl_X11_347 rfl (sk_1 hs) (sn hs (by decide)) ?_
    obtain ⟨rfl, rfl⟩ := h
    exact E_iret dX11_count_134 rfl
  rw [if_neg c7] at h
  by_cases c8 : x1 = 8
  · rw [if_pos c8] at h
    refine E_tabIn (off := 134) 135 dX11_count_1 (by rw [c8]; decide) (by rw [c8]; decide) (by rw [c8]; rfl) (by decide) ?_
    refine E_aload_n 0 dX11_count_135 rfl rfl ?_
    refine E_getR 1 dX11_count_136 fl_X11_10 rfl (sk_0 hs) (sn hs (by decide)) (sr_0_0 hs) ?_
    refine E_getI dX11_count_139 fl_X11_368 rfl (sk_1 hs) (sn hs (by decide)) ?_
    obtain ⟨rfl, rfl⟩ := h
    exact E_iret dX11_count_142 rfl
  rw [if_neg c8] at h
  by_cases c9 : x1 = 9
  · rw [if_pos c9] at h
    refine E_tabIn (off := 142) 143 dX11_count_1 (by rw [c9]; decide) (by rw [c9]; decide) (by rw [c9]; rfl) (by decide) ?_
    refine E_aload_n 0 dX11_count_143 rfl rfl ?_
    refine E_getR 22 dX11_count_144 fl_X11_23 rfl (sk_0 hs) (sn hs (by decide)) (sr_0_2 hs) ?_
    refine E_getI dX11_count_147 fl_X11_92 rfl (sk_22 hs) (sn hs (by decide)) ?_
    obtain ⟨rfl, rfl⟩ := h
    exact E_iret dX11_count_150 rfl
  rw [if_neg c9] at h
  refine E_tabOut 151 dX11_count_1 (i32_out (x := x1) 0 9 (fun k h1 h2 => by
      rcases (show k = 0 ∨ k = 1 ∨ k = 2 ∨ k = 3 ∨ k = 4 ∨ k = 5 ∨ k = 6 ∨ k = 7 ∨ k = 8 ∨ k = 9 by omega) with rfl | rfl | rfl | rfl | rfl | rfl | rfl | rfl | rfl | rfl
      · exact c0
      · exact c1
      · exact c2
      · exact c3
      · exact c4
      · exact c5
      · exact c6
      · exact c7
      · exact c8
      · exact c9
      )) (by decide) ?_
  refine E_iconst (-1 : Int32) dX11_count_151 (by decide) ?_
  obtain ⟨rfl, rfl⟩ := h
  exact E_iret dX11_count_152 rfl
def W_X11_status_0 (X : Sx) (l : Launch) (D : Nat) (σ : AH) (r : Option Value) (σ' : AH) : Prop := (r = some (.int (gI σ 0 10)) ∧ σ' = σ)
set_option maxRecDepth 100000 in
theorem w_X11_status_0 {X : Sx} {l : Launch} {D : Nat} {σ : AH} {r : Option Value} {σ' : AH} (hs : Sh σ) (h : W_X11_status_0 X l D σ r σ') : E X l m_X11_status D 0 [(0, .ref 0)] [] σ r σ' := by
  unfold W_X11_status_0 at h
  refine E_aload_n 0 dX11_status_0 rfl rfl ?_
  refine E_getI dX11_status_1 fl_X11_417 rfl (sk_0 hs) (sn hs (by decide)) ?_
  obtain ⟨rfl, rfl⟩ := h
  exact E_iret dX11_status_4 rfl
def W_X11_answer_0 (X : Sx) (l : Launch) (D : Nat) (x1 : Int32) (σ : AH) (r : Option Value) (σ' : AH) : Prop := 1 ≤ D ∧ (r = some (.int x1) ∧ σ' = (sI σ 0 10 (imin x1 (0 : Int32))))
set_option maxRecDepth 100000 in
theorem w_X11_answer_0 {X : Sx} {l : Launch} {D : Nat} {x1 : Int32} {σ : AH} {r : Option Value} {σ' : AH} (hs : Sh σ) (h : W_X11_answer_0 X l D x1 σ r σ') : E X l m_X11_answer D 0 [(0, .ref 0), (1, .int x1)] [] σ r σ' := by
  unfold W_X11_answer_0 at h
  refine E_aload_n 0 dX11_answer_0 rfl rfl ?_
  refine E_iload_n 1 dX11_answer_1 rfl rfl ?_
  refine E_iconst (0 : Int32) dX11_answer_2 (by decide) ?_
  obtain ⟨g1, h⟩ := h
  refine E_mmin dX11_answer_3 mm_X11_420 g1 (Nat.le_of_ble_eq_true rfl) ?_
  refine E_putI dX11_answer_6 fl_X11_417 rfl (Or.inl rfl) (sk_0 hs) (sn hs (by decide)) (Or.inl (by decide)) rfl rfl ?_
  refine E_iload_n 1 dX11_answer_9 rfl rfl ?_
  obtain ⟨rfl, rfl⟩ := h
  exact E_iret dX11_answer_10 rfl
def W_X11_isIn_0 (X : Sx) (l : Launch) (D : Nat) (x0 : Int32) (x1 : Int32) (x2 : Int32) (σ : AH) (r : Option Value) (σ' : AH) : Prop := (if x0 < x1 then (r = some (.int (0 : Int32)) ∧ σ' = σ) else (if x2 < x0 then (r = some (.int (0 : Int32)) ∧ σ' = σ) else (r = some (.int (1 : Int32)) ∧ σ' = σ)))
set_option maxRecDepth 100000 in
theorem w_X11_isIn_0 {X : Sx} {l : Launch} {D : Nat} {x0 : Int32} {x1 : Int32} {x2 : Int32} {σ : AH} {r : Option Value} {σ' : AH} (hs : Sh σ) (h : W_X11_isIn_0 X l D x0 x1 x2 σ r σ') : E X l m_X11_isIn D 0 [(0, .int x0), (1, .int x1), (2, .int x2)] [] σ r σ' := by
  unfold W_X11_isIn_0 at h
  refine E_iload_n 0 dX11_isIn_0 rfl rfl ?_
  refine E_iload_n 1 dX11_isIn_1 rfl rfl ?_
  refine E_icmp_lt 14 dX11_isIn_2 (by decide) (fun c => ?_) (fun c => ?_)
  · rw [if_pos c] at h
    refine E_iconst (0 : Int32) dX11_isIn_14 (by decide) ?_
    obtain ⟨rfl, rfl⟩ := h
    exact E_zret dX11_isIn_15 rfl (Or.inl rfl)
  · rw [if_neg c] at h
    refine E_iload_n 0 dX11_isIn_5 rfl rfl ?_
    refine E_iload_n 2 dX11_isIn_6 rfl rfl ?_
    refine E_icmp_gt 14 dX11_isIn_7 (by decide) (fun c => ?_) (fun c => ?_)
    · rw [if_pos c] at h
      refine E_iconst (0 : Int32) dX11_isIn_14 (by decide) ?_
      obtain ⟨rfl, rfl⟩ := h
      exact E_zret dX11_isIn_15 rfl (Or.inl rfl)
    · rw [if_neg c] at h
      refine E_iconst (1 : Int32) dX11_isIn_10 (by decide) ?_
      refine E_goto 15 dX11_isIn_11 (by decide) ?_
      obtain ⟨rfl, rfl⟩ := h
      exact E_zret dX11_isIn_15 rfl (Or.inr rfl)
def W_X11_isWeek_0 (X : Sx) (l : Launch) (D : Nat) (x0 : Int32) (σ : AH) (r : Option Value) (σ' : AH) : Prop := ∃ d1 : Nat, ∃ v6 : Int32, ∃ σ2 : AH, d1 + 1 ≤ D ∧ Call X l m_X11_isIn d1 [.int x0, .int (0 : Int32), .int (259 : Int32)] σ (some (.int v6)) σ2 ∧ ((v6 = 0 ∨ v6 = 1) ∧ r = some (.int v6) ∧ σ' = σ2)
set_option maxRecDepth 100000 in
theorem w_X11_isWeek_0 {X : Sx} {l : Launch} {D : Nat} {x0 : Int32} {σ : AH} {r : Option Value} {σ' : AH} (hs : Sh σ) (h : W_X11_isWeek_0 X l D x0 σ r σ') : E X l m_X11_isWeek D 0 [(0, .int x0)] [] σ r σ' := by
  unfold W_X11_isWeek_0 at h
  refine E_iload_n 0 dX11_isWeek_0 rfl rfl ?_
  refine E_iconst (0 : Int32) dX11_isWeek_1 (by decide) ?_
  refine E_sipush (259 : Int32) dX11_isWeek_2 (by decide) ?_
  obtain ⟨d1, v6, σ2, hD3, hC4, h⟩ := h
  have hs5 := hC4.1.2.2.2.1 hs
  refine E_callS (As := [.int x0, .int (0 : Int32), .int (259 : Int32)]) (rest := []) (r1 := (some (.int v6))) dX11_isWeek_5 ok_X11_isIn is_X11_isIn ml_X11_124 hD3 rfl rfl (Nat.le_of_ble_eq_true rfl) (by decide +kernel) hC4 ?_
  obtain ⟨hz, rfl, rfl⟩ := h
  exact E_zret dX11_isWeek_8 rfl hz
def W_X11_isMoveWeek_0 (X : Sx) (l : Launch) (D : Nat) (x1 : Int32) (σ : AH) (r : Option Value) (σ' : AH) : Prop := ∃ d1 : Nat, ∃ v6 : Int32, ∃ σ2 : AH, d1 + 1 ≤ D ∧ Call X l m_X11_isWeek d1 [.int x1] σ (some (.int v6)) σ2 ∧ (if v6 = 0 then (r = some (.int (0 : Int32)) ∧ σ' = σ2) else (if x1 < (gI σ2 1 15) then (r = some (.int (0 : Int32)) ∧ σ' = σ2) else (r = some (.int (1 : Int32)) ∧ σ' = σ2)))
set_option maxRecDepth 100000 in
theorem w_X11_isMoveWeek_0 {X : Sx} {l : Launch} {D : Nat} {x1 : Int32} {σ : AH} {r : Option Value} {σ' : AH} (hs : Sh σ) (h : W_X11_isMoveWeek_0 X l D x1 σ r σ') : E X l m_X11_isMoveWeek D 0 [(0, .ref 0), (1, .int x1)] [] σ r σ' := by
  unfold W_X11_isMoveWeek_0 at h
  refine E_iload_n 1 dX11_isMoveWeek_0 rfl rfl ?_
  obtain ⟨d1, v6, σ2, hD3, hC4, h⟩ := h
  have hs5 := hC4.1.2.2.2.1 hs
  refine E_callS (As := [.int x1]) (rest := []) (r1 := (some (.int v6))) dX11_isMoveWeek_1 ok_X11_isWeek is_X11_isWeek ml_X11_95 hD3 rfl rfl (Nat.le_of_ble_eq_true rfl) (by decide +kernel) hC4 ?_
  refine E_if_eq 22 dX11_isMoveWeek_4 (by decide) (fun c => ?_) (fun c => ?_)
  · rw [if_pos c] at h
    refine E_iconst (0 : Int32) dX11_isMoveWeek_22 (by decide) ?_
    obtain ⟨rfl, rfl⟩ := h
    exact E_zret dX11_isMoveWeek_23 rfl (Or.inl rfl)
  · rw [if_neg c] at h
    refine E_iload_n 1 dX11_isMoveWeek_7 rfl rfl ?_
    refine E_aload_n 0 dX11_isMoveWeek_8 rfl rfl ?_
    refine E_getR 1 dX11_isMoveWeek_9 fl_X11_10 rfl (sk_0 hs5) (sn hs5 (by decide)) (sr_0_0 hs5) ?_
    refine E_getI dX11_isMoveWeek_12 fl_X11_350 rfl (sk_1 hs5) (sn hs5 (by decide)) ?_
    refine E_icmp_lt 22 dX11_isMoveWeek_15 (by decide) (fun c => ?_) (fun c => ?_)
    · rw [if_pos c] at h
      refine E_iconst (0 : Int32) dX11_isMoveWeek_22 (by decide) ?_
      obtain ⟨rfl, rfl⟩ := h
      exact E_zret dX11_isMoveWeek_23 rfl (Or.inl rfl)
    · rw [if_neg c] at h
      refine E_iconst (1 : Int32) dX11_isMoveWeek_18 (by decide) ?_
      refine E_goto 23 dX11_isMoveWeek_19 (by decide) ?_
      obtain ⟨rfl, rfl⟩ := h
      exact E_zret dX11_isMoveWeek_23 rfl (Or.inr rfl)
def W_X11_isCouncilQuarter_0 (X : Sx) (l : Launch) (D : Nat) (x0 : Int32) (x1 : Int32) (σ : AH) (r : Option Value) (σ' : AH) : Prop := ∃ d1 : Nat, ∃ v6 : Int32, ∃ σ2 : AH, d1 + 1 ≤ D ∧ Call X l m_X11_isIn d1 [.int x0, .int (0 : Int32), .int (5 : Int32)] σ (some (.int v6)) σ2 ∧ (if v6 = 0 then (r = some (.int (0 : Int32)) ∧ σ' = σ2) else ∃ d7 : Nat, ∃ v12 : Int32, ∃ σ8 : AH, d7 + 1 ≤ D ∧ Call X l m_X11_isIn d7 [.int x1, .int (0 : Int32), .int (19 : Int32)] σ2 (some (.int v12)) σ8 ∧ (if v12 = 0 then (r = some (.int (0 : Int32)) ∧ σ' = σ8) else (r = some (.int (1 : Int32)) ∧ σ' = σ8)))
set_option maxRecDepth 100000 in
theorem w_X11_isCouncilQuarter_0 {X : Sx} {l : Launch} {D : Nat} {x0 : Int32} {x1 : Int32} {σ : AH} {r : Option Value} {σ' : AH} (hs : Sh σ) (h : W_X11_isCouncilQuarter_0 X l D x0 x1 σ r σ') : E X l m_X11_isCouncilQuarter D 0 [(0, .int x0), (1, .int x1)] [] σ r σ' := by
  unfold W_X11_isCouncilQuarter_0 at h
  refine E_iload_n 0 dX11_isCouncilQuarter_0 rfl rfl ?_
  refine E_iconst (0 : Int32) dX11_isCouncilQuarter_1 (by decide) ?_
  refine E_iconst (5 : Int32) dX11_isCouncilQuarter_2 (by decide) ?_
  obtain ⟨d1, v6, σ2, hD3, hC4, h⟩ := h
  have hs5 := hC4.1.2.2.2.1 hs
  refine E_callS (As := [.int x0, .int (0 : Int32), .int (5 : Int32)]) (rest := []) (r1 := (some (.int v6))) dX11_isCouncilQuarter_3 ok_X11_isIn is_X11_isIn ml_X11_124 hD3 rfl rfl (Nat.le_of_ble_eq_true rfl) (by decide +kernel) hC4 ?_
  refine E_if_eq 23 dX11_isCouncilQuarter_6 (by decide) (fun c => ?_) (fun c => ?_)
  · rw [if_pos c] at h
    refine E_iconst (0 : Int32) dX11_isCouncilQuarter_23 (by decide) ?_
    obtain ⟨rfl, rfl⟩ := h
    exact E_zret dX11_isCouncilQuarter_24 rfl (Or.inl rfl)
  · rw [if_neg c] at h
    refine E_iload_n 1 dX11_isCouncilQuarter_9 rfl rfl ?_
    refine E_iconst (0 : Int32) dX11_isCouncilQuarter_10 (by decide) ?_
    refine E_bipush (19 : Int32) dX11_isCouncilQuarter_11 (by decide) ?_
    obtain ⟨d7, v12, σ8, hD9, hC10, h⟩ := h
    have hs11 := hC10.1.2.2.2.1 hs5
    refine E_callS (As := [.int x1, .int (0 : Int32), .int (19 : Int32)]) (rest := []) (r1 := (some (.int v12))) dX11_isCouncilQuarter_13 ok_X11_isIn is_X11_isIn ml_X11_124 hD9 rfl rfl (Nat.le_of_ble_eq_true rfl) (by decide +kernel) hC10 ?_
    refine E_if_eq 23 dX11_isCouncilQuarter_16 (by decide) (fun c => ?_) (fun c => ?_)
    · rw [if_pos c] at h
      refine E_iconst (0 : Int32) dX11_isCouncilQuarter_23 (by decide) ?_
      obtain ⟨rfl, rfl⟩ := h
      exact E_zret dX11_isCouncilQuarter_24 rfl (Or.inl rfl)
    · rw [if_neg c] at h
      refine E_iconst (1 : Int32) dX11_isCouncilQuarter_19 (by decide) ?_
      refine E_goto 24 dX11_isCouncilQuarter_20 (by decide) ?_
      obtain ⟨rfl, rfl⟩ := h
      exact E_zret dX11_isCouncilQuarter_24 rfl (Or.inr rfl)
def W_X11_isPlot_0 (X : Sx) (l : Launch) (D : Nat) (x1 : Int32) (σ : AH) (r : Option Value) (σ' : AH) : Prop := ∃ d1 : Nat, ∃ v6 : Int32, ∃ σ2 : AH, d1 + 1 ≤ D ∧ Call X l m_X8_rows d1 [.ref 9] σ (some (.int v6)) σ2 ∧ ∃ d7 : Nat, ∃ v12 : Int32, ∃ σ8 : AH, d7 + 1 ≤ D ∧ Call X l m_X11_isIn d7 [.int x1, .int (0 : Int32), .int (v6 - (1 : Int32))] σ2 (some (.int v12)) σ8 ∧ ((v12 = 0 ∨ v12 = 1) ∧ r = some (.int v12) ∧ σ' = σ8)
set_option maxRecDepth 100000 in
theorem w_X11_isPlot_0 {X : Sx} {l : Launch} {D : Nat} {x1 : Int32} {σ : AH} {r : Option Value} {σ' : AH} (hs : Sh σ) (h : W_X11_isPlot_0 X l D x1 σ r σ') : E X l m_X11_isPlot D 0 [(0, .ref 0), (1, .int x1)] [] σ r σ' := by
  unfold W_X11_isPlot_0 at h
  refine E_iload_n 1 dX11_isPlot_0 rfl rfl ?_
  refine E_iconst (0 : Int32) dX11_isPlot_1 (by decide) ?_
  refine E_aload_n 0 dX11_isPlot_2 rfl rfl ?_
  refine E_getR 1 dX11_isPlot_3 fl_X11_10 rfl (sk_0 hs) (sn hs (by decide)) (sr_0_0 hs) ?_
  refine E_getR 9 dX11_isPlot_6 fl_X11_182 rfl (sk_1 hs) (sn hs (by decide)) (sr_1_5 hs) ?_
  obtain ⟨d1, v6, σ2, hD3, hC4, h⟩ := h
  have hs5 := hC4.1.2.2.2.1 hs
  refine E_callV (As := []) (rest := [.int (0 : Int32), .int x1]) (r1 := (some (.int v6))) (b := 9) dX11_isPlot_9 ok_X8_rows in_X8_rows se_X8_rows ml_X11_173 hD3 rfl rfl (Nat.le_of_ble_eq_true rfl) (sk_9 hs) (sn hs (by decide)) (by decide) rfl (by decide +kernel) hC4 ?_
  refine E_iconst (1 : Int32) dX11_isPlot_12 (by decide) ?_
  refine E_isub dX11_isPlot_13 ?_
  obtain ⟨d7, v12, σ8, hD9, hC10, h⟩ := h
  have hs11 := hC10.1.2.2.2.1 hs5
  refine E_callS (As := [.int x1, .int (0 : Int32), .int (v6 - (1 : Int32))]) (rest := []) (r1 := (some (.int v12))) dX11_isPlot_14 ok_X11_isIn is_X11_isIn ml_X11_124 hD9 rfl rfl (Nat.le_of_ble_eq_true rfl) (by decide +kernel) hC10 ?_
  obtain ⟨hz, rfl, rfl⟩ := h
  exact E_zret dX11_isPlot_17 rfl hz
def W_X11_isEntry_0 (X : Sx) (l : Launch) (D : Nat) (x1 : Int32) (σ : AH) (r : Option Value) (σ' : AH) : Prop := ∃ d1 : Nat, ∃ v6 : Int32, ∃ σ2 : AH, d1 + 1 ≤ D ∧ Call X l m_X8_rows d1 [.ref 13] σ (some (.int v6)) σ2 ∧ ∃ d7 : Nat, ∃ v12 : Int32, ∃ σ8 : AH, d7 + 1 ≤ D ∧ Call X l m_X11_isIn d7 [.int x1, .int (0 : Int32), .int (v6 - (1 : Int32))] σ2 (some (.int v12)) σ8 ∧ ((v12 = 0 ∨ v12 = 1) ∧ r = some (.int v12) ∧ σ' = σ8)
set_option maxRecDepth 100000 in
theorem w_X11_isEntry_0 {X : Sx} {l : Launch} {D : Nat} {x1 : Int32} {σ : AH} {r : Option Value} {σ' : AH} (hs : Sh σ) (h : W_X11_isEntry_0 X l D x1 σ r σ') : E X l m_X11_isEntry D 0 [(0, .ref 0), (1, .int x1)] [] σ r σ' := by
  unfold W_X11_isEntry_0 at h
  refine E_iload_n 1 dX11_isEntry_0 rfl rfl ?_
  refine E_iconst (0 : Int32) dX11_isEntry_1 (by decide) ?_
  refine E_aload_n 0 dX11_isEntry_2 rfl rfl ?_
  refine E_getR 1 dX11_isEntry_3 fl_X11_10 rfl (sk_0 hs) (sn hs (by decide)) (sr_0_0 hs) ?_
  refine E_getR 13 dX11_isEntry_6 fl_X11_286 rfl (sk_1 hs) (sn hs (by decide)) (sr_1_7 hs) ?_
  obtain ⟨d1, v6, σ2, hD3, hC4, h⟩ := h
  have hs5 := hC4.1.2.2.2.1 hs
  refine E_callV (As := []) (rest := [.int (0 : Int32), .int x1]) (r1 := (some (.int v6))) (b := 13) dX11_isEntry_9 ok_X8_rows in_X8_rows se_X8_rows ml_X11_173 hD3 rfl rfl (Nat.le_of_ble_eq_true rfl) (sk_13 hs) (sn hs (by decide)) (by decide) rfl (by decide +kernel) hC4 ?_
  refine E_iconst (1 : Int32) dX11_isEntry_12 (by decide) ?_
  refine E_isub dX11_isEntry_13 ?_
  obtain ⟨d7, v12, σ8, hD9, hC10, h⟩ := h
  have hs11 := hC10.1.2.2.2.1 hs5
  refine E_callS (As := [.int x1, .int (0 : Int32), .int (v6 - (1 : Int32))]) (rest := []) (r1 := (some (.int v12))) dX11_isEntry_14 ok_X11_isIn is_X11_isIn ml_X11_124 hD9 rfl rfl (Nat.le_of_ble_eq_true rfl) (by decide +kernel) hC10 ?_
  obtain ⟨hz, rfl, rfl⟩ := h
  exact E_zret dX11_isEntry_17 rfl hz
def W_X11_isKnownEntry_0 (X : Sx) (l : Launch) (D : Nat) (x1 : Int32) (x2 : Int32) (σ : AH) (r : Option Value) (σ' : AH) : Prop := ∃ d1 : Nat, ∃ v6 : Int32, ∃ σ2 : AH, d1 + 1 ≤ D ∧ Call X l m_X11_isEntry d1 [.ref 0, .int x1] σ (some (.int v6)) σ2 ∧ (if v6 = 0 then (r = some (.int (0 : Int32)) ∧ σ' = σ2) else ∃ d7 : Nat, ∃ v12 : Int32, ∃ σ8 : AH, d7 + 1 ≤ D ∧ Call X l m_X8_at d7 [.ref 13, .int x1, .int (6 : Int32)] σ2 (some (.int v12)) σ8 ∧ (if x2 < v12 then (r = some (.int (0 : Int32)) ∧ σ' = σ8) else (r = some (.int (1 : Int32)) ∧ σ' = σ8)))
set_option maxRecDepth 100000 in
theorem w_X11_isKnownEntry_0 {X : Sx} {l : Launch} {D : Nat} {x1 : Int32} {x2 : Int32} {σ : AH} {r : Option Value} {σ' : AH} (hs : Sh σ) (h : W_X11_isKnownEntry_0 X l D x1 x2 σ r σ') : E X l m_X11_isKnownEntry D 0 [(0, .ref 0), (1, .int x1), (2, .int x2)] [] σ r σ' := by
  unfold W_X11_isKnownEntry_0 at h
  refine E_aload_n 0 dX11_isKnownEntry_0 rfl rfl ?_
  refine E_iload_n 1 dX11_isKnownEntry_1 rfl rfl ?_
  obtain ⟨d1, v6, σ2, hD3, hC4, h⟩ := h
  have hs5 := hC4.1.2.2.2.1 hs
  refine E_callV (As := [.int x1]) (rest := []) (r1 := (some (.int v6))) (b := 0) dX11_isKnownEntry_2 ok_X11_isEntry in_X11_isEntry se_X11_isEntry ml_X11_292 hD3 rfl rfl (Nat.le_of_ble_eq_true rfl) (sk_0 hs) (sn hs (by decide)) (by decide) rfl (by decide +kernel) hC4 ?_
  refine E_if_eq 29 dX11_isKnownEntry_5 (by decide) (fun c => ?_) (fun c => ?_)
  · rw [if_pos c] at h
    refine E_iconst (0 : Int32) dX11_isKnownEntry_29 (by decide) ?_
    obtain ⟨rfl, rfl⟩ := h
    exact E_zret dX11_isKnownEntry_30 rfl (Or.inl rfl)
  · rw [if_neg c] at h
    refine E_aload_n 0 dX11_isKnownEntry_8 rfl rfl ?_
    refine E_getR 1 dX11_isKnownEntry_9 fl_X11_10 rfl (sk_0 hs5) (sn hs5 (by decide)) (sr_0_0 hs5) ?_
    refine E_getR 13 dX11_isKnownEntry_12 fl_X11_286 rfl (sk_1 hs5) (sn hs5 (by decide)) (sr_1_7 hs5) ?_
    refine E_iload_n 1 dX11_isKnownEntry_15 rfl rfl ?_
    refine E_bipush (6 : Int32) dX11_isKnownEntry_16 (by decide) ?_
    obtain ⟨d7, v12, σ8, hD9, hC10, h⟩ := h
    have hs11 := hC10.1.2.2.2.1 hs5
    refine E_callV (As := [.int x1, .int (6 : Int32)]) (rest := []) (r1 := (some (.int v12))) (b := 13) dX11_isKnownEntry_18 ok_X8_at in_X8_at se_X8_at ml_X11_223 hD9 rfl rfl (Nat.le_of_ble_eq_true rfl) (sk_13 hs5) (sn hs5 (by decide)) (by decide) rfl (by decide +kernel) hC10 ?_
    refine E_iload_n 2 dX11_isKnownEntry_21 rfl rfl ?_
    refine E_icmp_gt 29 dX11_isKnownEntry_22 (by decide) (fun c => ?_) (fun c => ?_)
    · rw [if_pos c] at h
      refine E_iconst (0 : Int32) dX11_isKnownEntry_29 (by decide) ?_
      obtain ⟨rfl, rfl⟩ := h
      exact E_zret dX11_isKnownEntry_30 rfl (Or.inl rfl)
    · rw [if_neg c] at h
      refine E_iconst (1 : Int32) dX11_isKnownEntry_25 (by decide) ?_
      refine E_goto 30 dX11_isKnownEntry_26 (by decide) ?_
      obtain ⟨rfl, rfl⟩ := h
      exact E_zret dX11_isKnownEntry_30 rfl (Or.inr rfl)
def W_X11_needHead_0 (X : Sx) (l : Launch) (D : Nat) (x0 : Int32) (x1 : Int32) (x2 : Int32) (σ : AH) (r : Option Value) (σ' : AH) : Prop := (if x2 = (5 : Int32) then (r = some (.int ((45 : Int32) + ((x0 * (3 : Int32)) + x1))) ∧ σ' = σ) else (r = some (.int (((0 : Int32) + (((x0 * (3 : Int32)) + x1) * (5 : Int32))) + x2)) ∧ σ' = σ))
set_option maxRecDepth 100000 in
theorem w_X11_needHead_0 {X : Sx} {l : Launch} {D : Nat} {x0 : Int32} {x1 : Int32} {x2 : Int32} {σ : AH} {r : Option Value} {σ' : AH} (hs : Sh σ) (h : W_X11_needHead_0 X l D x0 x1 x2 σ r σ') : E X l m_X11_needHead D 0 [(0, .int x0), (1, .int x1), (2, .int x2)] [] σ r σ' := by
  unfold W_X11_needHead_0 at h
  refine E_iload_n 0 dX11_needHead_0 rfl rfl ?_
  refine E_iconst (3 : Int32) dX11_needHead_1 (by decide) ?_
  refine E_imul dX11_needHead_2 ?_
  refine E_iload_n 1 dX11_needHead_3 rfl rfl ?_
  refine E_iadd dX11_needHead_4 ?_
  refine E_istore_n [(3, .int ((x0 * (3 : Int32)) + x1)), (0, .int x0), (1, .int x1), (2, .int x2)] dX11_needHead_5 rfl (by decide) rfl ?_
  refine E_iload_n 3 dX11_needHead_6 rfl rfl ?_
  refine E_iconst (5 : Int32) dX11_needHead_7 (by decide) ?_
  refine E_icmp_ne 18 dX11_needHead_8 (by decide) (fun c => ?_) (fun c => ?_)
  · rw [if_neg c] at h
    refine E_iconst (0 : Int32) dX11_needHead_18 (by decide) ?_
    refine E_iload_n 0 dX11_needHead_19 rfl rfl ?_
    refine E_iconst (5 : Int32) dX11_needHead_20 (by decide) ?_
    refine E_imul dX11_needHead_21 ?_
    refine E_iadd dX11_needHead_22 ?_
    refine E_iload_n 3 dX11_needHead_23 rfl rfl ?_
    refine E_iadd dX11_needHead_24 ?_
    obtain ⟨rfl, rfl⟩ := h
    exact E_iret dX11_needHead_25 rfl
  · rw [if_pos c] at h
    refine E_bipush (45 : Int32) dX11_needHead_11 (by decide) ?_
    refine E_iload_n 0 dX11_needHead_13 rfl rfl ?_
    refine E_iadd dX11_needHead_14 ?_
    refine E_goto 25 dX11_needHead_15 (by decide) ?_
    obtain ⟨rfl, rfl⟩ := h
    exact E_iret dX11_needHead_25 rfl
def W_X11_firstStart_0 (X : Sx) (l : Launch) (D : Nat) (x1 : Int32) (x2 : Int32) (σ : AH) (r : Option Value) (σ' : AH) : Prop := E X l m_X11_firstStart D 2 [(0, .ref 0), (1, .int x1), (2, .int x2), (3, .int (0 : Int32))] [] σ r σ'
set_option maxRecDepth 100000 in
theorem w_X11_firstStart_0 {X : Sx} {l : Launch} {D : Nat} {x1 : Int32} {x2 : Int32} {σ : AH} {r : Option Value} {σ' : AH} (hs : Sh σ) (h : W_X11_firstStart_0 X l D x1 x2 σ r σ') : E X l m_X11_firstStart D 0 [(0, .ref 0), (1, .int x1), (2, .int x2)] [] σ r σ' := by
  unfold W_X11_firstStart_0 at h
  refine E_iconst (0 : Int32) dX11_firstStart_0 (by decide) ?_
  refine E_istore_n [(3, .int (0 : Int32)), (0, .ref 0), (1, .int x1), (2, .int x2)] dX11_firstStart_1 rfl (by decide) rfl ?_
  exact E_lv [1, 2, 3, 0] rfl h
def W_X11_firstStart_61 (X : Sx) (l : Launch) (D : Nat) (x1 : Int32) (x2 : Int32) (x3 : Int32) (σ : AH) (r : Option Value) (σ' : AH) : Prop := E X l m_X11_firstStart D 2 [(0, .ref 0), (1, .int x1), (2, .int x2), (3, .int (x3 + 1))] [] σ r σ'
set_option maxRecDepth 100000 in
theorem w_X11_firstStart_61 {X : Sx} {l : Launch} {D : Nat} {x1 : Int32} {x2 : Int32} {x3 : Int32} {σ : AH} {r : Option Value} {σ' : AH} (hs : Sh σ) (h : W_X11_firstStart_61 X l D x1 x2 x3 σ r σ') : E X l m_X11_firstStart D 61 [(0, .ref 0), (1, .int x1), (2, .int x2), (3, .int x3)] [] σ r σ' := by
  unfold W_X11_firstStart_61 at h
  refine E_iinc 3 (x3 + 1) [(3, .int (x3 + 1)), (0, .ref 0), (1, .int x1), (2, .int x2)] dX11_firstStart_61 rfl (congrArg (x3 + ·) (by decide : Int32.ofInt 1 = 1)) (by decide) rfl ?_
  refine E_goto 2 dX11_firstStart_64 (by decide) ?_
  exact E_lv [1, 2, 3, 0] rfl h
def W_X11_firstStart_2 (X : Sx) (l : Launch) (D : Nat) (x1 : Int32) (x2 : Int32) (x3 : Int32) (σ : AH) (r : Option Value) (σ' : AH) : Prop := ∃ d1 : Nat, ∃ v6 : Int32, ∃ σ2 : AH, d1 + 1 ≤ D ∧ Call X l m_X8_rows d1 [.ref 11] σ (some (.int v6)) σ2 ∧ (if v6 ≤ x3 then (r = some (.int (-1 : Int32)) ∧ σ' = σ2) else ∃ d7 : Nat, ∃ v12 : Int32, ∃ σ8 : AH, d7 + 1 ≤ D ∧ Call X l m_X8_at d7 [.ref 11, .int x3, .int (0 : Int32)] σ2 (some (.int v12)) σ8 ∧ (if v12 = x1 then ∃ d13 : Nat, ∃ v18 : Int32, ∃ σ14 : AH, d13 + 1 ≤ D ∧ Call X l m_X8_at d13 [.ref 11, .int x3, .int (2 : Int32)] σ8 (some (.int v18)) σ14 ∧ (if x2 < v18 then W_X11_firstStart_61 X l D x1 x2 x3 σ14 r σ' else ∃ d19 : Nat, ∃ v24 : Int32, ∃ σ20 : AH, d19 + 1 ≤ D ∧ Call X l m_X8_at d19 [.ref 11, .int x3, .int (1 : Int32)] σ14 (some (.int v24)) σ20 ∧ (r = some (.int v24) ∧ σ' = σ20)) else W_X11_firstStart_61 X l D x1 x2 x3 σ8 r σ'))
set_option maxRecDepth 100000 in
theorem w_X11_firstStart_2 {X : Sx} {l : Launch} {D : Nat} {x1 : Int32} {x2 : Int32} {x3 : Int32} {σ : AH} {r : Option Value} {σ' : AH} (hs : Sh σ) (h : W_X11_firstStart_2 X l D x1 x2 x3 σ r σ') : E X l m_X11_firstStart D 2 [(0, .ref 0), (1, .int x1), (2, .int x2), (3, .int x3)] [] σ r σ' := by
  unfold W_X11_firstStart_2 at h
  refine E_iload_n 3 dX11_firstStart_2 rfl rfl ?_
  refine E_aload_n 0 dX11_firstStart_3 rfl rfl ?_
  refine E_getR 1 dX11_firstStart_4 fl_X11_10 rfl (sk_0 hs) (sn hs (by decide)) (sr_0_0 hs) ?_
  refine E_getR 11 dX11_firstStart_7 fl_X11_191 rfl (sk_1 hs) (sn hs (by decide)) (sr_1_6 hs) ?_
  obtain ⟨d1, v6, σ2, hD3, hC4, h⟩ := h
  have hs5 := hC4.1.2.2.2.1 hs
  refine E_callV (As := []) (rest := [.int x3]) (r1 := (some (.int v6))) (b := 11) dX11_firstStart_10 ok_X8_rows in_X8_rows se_X8_rows ml_X11_173 hD3 rfl rfl (Nat.le_of_ble_eq_true rfl) (sk_11 hs) (sn hs (by decide)) (by decide) rfl (by decide +kernel) hC4 ?_
  refine E_icmp_ge 67 dX11_firstStart_13 (by decide) (fun c => ?_) (fun c => ?_)
  · rw [if_pos c] at h
    refine E_iconst (-1 : Int32) dX11_firstStart_67 (by decide) ?_
    obtain ⟨rfl, rfl⟩ := h
    exact E_iret dX11_firstStart_68 rfl
  · rw [if_neg c] at h
    refine E_aload_n 0 dX11_firstStart_16 rfl rfl ?_
    refine E_getR 1 dX11_firstStart_17 fl_X11_10 rfl (sk_0 hs5) (sn hs5 (by decide)) (sr_0_0 hs5) ?_
    refine E_getR 11 dX11_firstStart_20 fl_X11_191 rfl (sk_1 hs5) (sn hs5 (by decide)) (sr_1_6 hs5) ?_
    refine E_iload_n 3 dX11_firstStart_23 rfl rfl ?_
    refine E_iconst (0 : Int32) dX11_firstStart_24 (by decide) ?_
    obtain ⟨d7, v12, σ8, hD9, hC10, h⟩ := h
    have hs11 := hC10.1.2.2.2.1 hs5
    refine E_callV (As := [.int x3, .int (0 : Int32)]) (rest := []) (r1 := (some (.int v12))) (b := 11) dX11_firstStart_25 ok_X8_at in_X8_at se_X8_at ml_X11_223 hD9 rfl rfl (Nat.le_of_ble_eq_true rfl) (sk_11 hs5) (sn hs5 (by decide)) (by decide) rfl (by decide +kernel) hC10 ?_
    refine E_iload_n 1 dX11_firstStart_28 rfl rfl ?_
    refine E_icmp_ne 61 dX11_firstStart_29 (by decide) (fun c => ?_) (fun c => ?_)
    · rw [if_neg c] at h
      exact E_lv [0, 1, 2, 3] rfl (w_X11_firstStart_61 hs11 h)
    · rw [if_pos c] at h
      refine E_aload_n 0 dX11_firstStart_32 rfl rfl ?_
      refine E_getR 1 dX11_firstStart_33 fl_X11_10 rfl (sk_0 hs11) (sn hs11 (by decide)) (sr_0_0 hs11) ?_
      refine E_getR 11 dX11_firstStart_36 fl_X11_191 rfl (sk_1 hs11) (sn hs11 (by decide)) (sr_1_6 hs11) ?_
      refine E_iload_n 3 dX11_firstStart_39 rfl rfl ?_
      refine E_iconst (2 : Int32) dX11_firstStart_40 (by decide) ?_
      obtain ⟨d13, v18, σ14, hD15, hC16, h⟩ := h
      have hs17 := hC16.1.2.2.2.1 hs11
      refine E_callV (As := [.int x3, .int (2 : Int32)]) (rest := []) (r1 := (some (.int v18))) (b := 11) dX11_firstStart_41 ok_X8_at in_X8_at se_X8_at ml_X11_223 hD15 rfl rfl (Nat.le_of_ble_eq_true rfl) (sk_11 hs11) (sn hs11 (by decide)) (by decide) rfl (by decide +kernel) hC16 ?_
      refine E_iload_n 2 dX11_firstStart_44 rfl rfl ?_
      refine E_icmp_gt 61 dX11_firstStart_45 (by decide) (fun c => ?_) (fun c => ?_)
      · rw [if_pos c] at h
        exact E_lv [0, 1, 2, 3] rfl (w_X11_firstStart_61 hs17 h)
      · rw [if_neg c] at h
        refine E_aload_n 0 dX11_firstStart_48 rfl rfl ?_
        refine E_getR 1 dX11_firstStart_49 fl_X11_10 rfl (sk_0 hs17) (sn hs17 (by decide)) (sr_0_0 hs17) ?_
        refine E_getR 11 dX11_firstStart_52 fl_X11_191 rfl (sk_1 hs17) (sn hs17 (by decide)) (sr_1_6 hs17) ?_
        refine E_iload_n 3 dX11_firstStart_55 rfl rfl ?_
        refine E_iconst (1 : Int32) dX11_firstStart_56 (by decide) ?_
        obtain ⟨d19, v24, σ20, hD21, hC22, h⟩ := h
        have hs23 := hC22.1.2.2.2.1 hs17
        refine E_callV (As := [.int x3, .int (1 : Int32)]) (rest := []) (r1 := (some (.int v24))) (b := 11) dX11_firstStart_57 ok_X8_at in_X8_at se_X8_at ml_X11_223 hD21 rfl rfl (Nat.le_of_ble_eq_true rfl) (sk_11 hs17) (sn hs17 (by decide)) (by decide) rfl (by decide +kernel) hC22 ?_
        obtain ⟨rfl, rfl⟩ := h
        exact E_iret dX11_firstStart_60 rfl
def W_X11_runFor_21 (X : Sx) (l : Launch) (D : Nat) (x2 : Int32) (x3 : Int32) (σ : AH) (r : Option Value) (σ' : AH) : Prop := ∃ d7 : Nat, ∃ v12 : Int32, ∃ σ8 : AH, d7 + 1 ≤ D ∧ Call X l m_X6_isOf d7 [.ref 56, .int x3, .int x2, .int (gI σ 0 12)] σ (some (.int v12)) σ8 ∧ (if v12 = 0 then ∃ d13 : Nat, ∃ σ14 : AH, d13 + 1 ≤ D ∧ Call X l m_X10_prepare d13 [.ref 34, .int x3, .int x2, .int (gI σ8 0 12)] σ8 none σ14 ∧ ∃ d18 : Nat, ∃ σ19 : AH, d18 + 1 ≤ D ∧ Call X l m_X6_open d18 [.ref 56, .int x3, .int x2, .int (gI σ14 0 12)] σ14 none σ19 ∧ E X l m_X11_runFor D 64 [(0, .ref 0), (4, .ref 56), (5, .int (0 : Int32))] [] σ19 r σ' else (r = some (.ref 56) ∧ σ' = σ8))
set_option maxRecDepth 100000 in
theorem w_X11_runFor_21 {X : Sx} {l : Launch} {D : Nat} {x2 : Int32} {x3 : Int32} {σ : AH} {r : Option Value} {σ' : AH} (hs : Sh σ) (h : W_X11_runFor_21 X l D x2 x3 σ r σ') : E X l m_X11_runFor D 21 [(0, .ref 0), (2, .int x2), (3, .int x3)] [.ref 56] σ r σ' := by
  unfold W_X11_runFor_21 at h
  refine E_astore [(4, .ref 56), (0, .ref 0), (2, .int x2), (3, .int x3)] dX11_runFor_21 (by decide) rfl ?_
  refine E_aload 0 dX11_runFor_23 rfl ?_
  refine E_iload_n 3 dX11_runFor_25 rfl rfl ?_
  refine E_iload_n 2 dX11_runFor_26 rfl rfl ?_
  refine E_aload_n 1 dX11_runFor_27 rfl rfl ?_
  refine E_getI dX11_runFor_28 fl_X11_121 rfl (sk_0 hs) (sn hs (by decide)) ?_
  obtain ⟨d7, v12, σ8, hD9, hC10, h⟩ := h
  have hs11 := hC10.1.2.2.2.1 hs
  refine E_callV (As := [.int x3, .int x2, .int (gI σ 0 12)]) (rest := []) (r1 := (some (.int v12))) (b := 56) dX11_runFor_31 ok_X6_isOf in_X6_isOf se_X6_isOf ml_X11_422 hD9 rfl rfl (Nat.le_of_ble_eq_true rfl) (sk_56 hs) (sn hs (by decide)) (by decide) rfl (by decide +kernel) hC10 ?_
  refine E_if_ne 99 dX11_runFor_34 (by decide) (fun c => ?_) (fun c => ?_)
  · rw [if_neg c] at h
    refine E_aload 0 dX11_runFor_99 rfl ?_
    obtain ⟨rfl, rfl⟩ := h
    exact E_aret dX11_runFor_101 rfl (Or.inl ⟨_, rfl⟩)
  · rw [if_pos c] at h
    refine E_aload_n 1 dX11_runFor_37 rfl rfl ?_
    refine E_getR 34 dX11_runFor_38 fl_X11_41 rfl (sk_0 hs11) (sn hs11 (by decide)) (sr_0_4 hs11) ?_
    refine E_iload_n 3 dX11_runFor_41 rfl rfl ?_
    refine E_iload_n 2 dX11_runFor_42 rfl rfl ?_
    refine E_aload_n 1 dX11_runFor_43 rfl rfl ?_
    refine E_getI dX11_runFor_44 fl_X11_121 rfl (sk_0 hs11) (sn hs11 (by decide)) ?_
    obtain ⟨d13, σ14, hD15, hC16, h⟩ := h
    have hs17 := hC16.1.2.2.2.1 hs11
    refine E_callV (As := [.int x3, .int x2, .int (gI σ8 0 12)]) (rest := []) (r1 := none) (b := 34) dX11_runFor_47 ok_X10_prepare in_X10_prepare se_X10_prepare ml_X11_425 hD15 rfl rfl (Nat.le_of_ble_eq_true rfl) (sk_34 hs11) (sn hs11 (by decide)) (by decide) rfl (by decide +kernel) hC16 ?_
    refine E_aload 0 dX11_runFor_50 rfl ?_
    refine E_iload_n 3 dX11_runFor_52 rfl rfl ?_
    refine E_iload_n 2 dX11_runFor_53 rfl rfl ?_
    refine E_aload_n 1 dX11_runFor_54 rfl rfl ?_
    refine E_getI dX11_runFor_55 fl_X11_121 rfl (sk_0 hs17) (sn hs17 (by decide)) ?_
    obtain ⟨d18, σ19, hD20, hC21, h⟩ := h
    have hs22 := hC21.1.2.2.2.1 hs17
    refine E_callV (As := [.int x3, .int x2, .int (gI σ14 0 12)]) (rest := []) (r1 := none) (b := 56) dX11_runFor_58 ok_X6_open in_X6_open se_X6_open ml_X11_428 hD20 rfl rfl (Nat.le_of_ble_eq_true rfl) (sk_56 hs17) (sn hs17 (by decide)) (by decide) rfl (by decide +kernel) hC21 ?_
    refine E_iconst (0 : Int32) dX11_runFor_61 (by decide) ?_
    refine E_istore [(5, .int (0 : Int32)), (4, .ref 56), (0, .ref 0), (2, .int x2), (3, .int x3)] dX11_runFor_62 (by decide) rfl ?_
    exact E_lv [2, 1, 0] rfl h
def W_X11_runFor_21b (X : Sx) (l : Launch) (D : Nat) (x2 : Int32) (x3 : Int32) (σ : AH) (r : Option Value) (σ' : AH) : Prop := ∃ d23 : Nat, ∃ v28 : Int32, ∃ σ24 : AH, d23 + 1 ≤ D ∧ Call X l m_X6_isOf d23 [.ref 44, .int x3, .int x2, .int (gI σ 0 12)] σ (some (.int v28)) σ24 ∧ (if v28 = 0 then ∃ d29 : Nat, ∃ σ30 : AH, d29 + 1 ≤ D ∧ Call X l m_X10_prepare d29 [.ref 34, .int x3, .int x2, .int (gI σ24 0 12)] σ24 none σ30 ∧ ∃ d34 : Nat, ∃ σ35 : AH, d34 + 1 ≤ D ∧ Call X l m_X6_open d34 [.ref 44, .int x3, .int x2, .int (gI σ30 0 12)] σ30 none σ35 ∧ E X l m_X11_runFor D 64 [(0, .ref 0), (4, .ref 44), (5, .int (0 : Int32))] [] σ35 r σ' else (r = some (.ref 44) ∧ σ' = σ24))
set_option maxRecDepth 100000 in
theorem w_X11_runFor_21b {X : Sx} {l : Launch} {D : Nat} {x2 : Int32} {x3 : Int32} {σ : AH} {r : Option Value} {σ' : AH} (hs : Sh σ) (h : W_X11_runFor_21b X l D x2 x3 σ r σ') : E X l m_X11_runFor D 21 [(0, .ref 0), (2, .int x2), (3, .int x3)] [.ref 44] σ r σ' := by
  unfold W_X11_runFor_21b at h
  refine E_astore [(4, .ref 44), (0, .ref 0), (2, .int x2), (3, .int x3)] dX11_runFor_21 (by decide) rfl ?_
  refine E_aload 0 dX11_runFor_23 rfl ?_
  refine E_iload_n 3 dX11_runFor_25 rfl rfl ?_
  refine E_iload_n 2 dX11_runFor_26 rfl rfl ?_
  refine E_aload_n 1 dX11_runFor_27 rfl rfl ?_
  refine E_getI dX11_runFor_28 fl_X11_121 rfl (sk_0 hs) (sn hs (by decide)) ?_
  obtain ⟨d23, v28, σ24, hD25, hC26, h⟩ := h
  have hs27 := hC26.1.2.2.2.1 hs
  refine E_callV (As := [.int x3, .int x2, .int (gI σ 0 12)]) (rest := []) (r1 := (some (.int v28))) (b := 44) dX11_runFor_31 ok_X6_isOf in_X6_isOf se_X6_isOf ml_X11_422 hD25 rfl rfl (Nat.le_of_ble_eq_true rfl) (sk_44 hs) (sn hs (by decide)) (by decide) rfl (by decide +kernel) hC26 ?_
  refine E_if_ne 99 dX11_runFor_34 (by decide) (fun c => ?_) (fun c => ?_)
  · rw [if_neg c] at h
    refine E_aload 0 dX11_runFor_99 rfl ?_
    obtain ⟨rfl, rfl⟩ := h
    exact E_aret dX11_runFor_101 rfl (Or.inl ⟨_, rfl⟩)
  · rw [if_pos c] at h
    refine E_aload_n 1 dX11_runFor_37 rfl rfl ?_
    refine E_getR 34 dX11_runFor_38 fl_X11_41 rfl (sk_0 hs27) (sn hs27 (by decide)) (sr_0_4 hs27) ?_
    refine E_iload_n 3 dX11_runFor_41 rfl rfl ?_
    refine E_iload_n 2 dX11_runFor_42 rfl rfl ?_
    refine E_aload_n 1 dX11_runFor_43 rfl rfl ?_
    refine E_getI dX11_runFor_44 fl_X11_121 rfl (sk_0 hs27) (sn hs27 (by decide)) ?_
    obtain ⟨d29, σ30, hD31, hC32, h⟩ := h
    have hs33 := hC32.1.2.2.2.1 hs27
    refine E_callV (As := [.int x3, .int x2, .int (gI σ24 0 12)]) (rest := []) (r1 := none) (b := 34) dX11_runFor_47 ok_X10_prepare in_X10_prepare se_X10_prepare ml_X11_425 hD31 rfl rfl (Nat.le_of_ble_eq_true rfl) (sk_34 hs27) (sn hs27 (by decide)) (by decide) rfl (by decide +kernel) hC32 ?_
    refine E_aload 0 dX11_runFor_50 rfl ?_
    refine E_iload_n 3 dX11_runFor_52 rfl rfl ?_
    refine E_iload_n 2 dX11_runFor_53 rfl rfl ?_
    refine E_aload_n 1 dX11_runFor_54 rfl rfl ?_
    refine E_getI dX11_runFor_55 fl_X11_121 rfl (sk_0 hs33) (sn hs33 (by decide)) ?_
    obtain ⟨d34, σ35, hD36, hC37, h⟩ := h
    have hs38 := hC37.1.2.2.2.1 hs33
    refine E_callV (As := [.int x3, .int x2, .int (gI σ30 0 12)]) (rest := []) (r1 := none) (b := 44) dX11_runFor_58 ok_X6_open in_X6_open se_X6_open ml_X11_428 hD36 rfl rfl (Nat.le_of_ble_eq_true rfl) (sk_44 hs33) (sn hs33 (by decide)) (by decide) rfl (by decide +kernel) hC37 ?_
    refine E_iconst (0 : Int32) dX11_runFor_61 (by decide) ?_
    refine E_istore [(5, .int (0 : Int32)), (4, .ref 44), (0, .ref 0), (2, .int x2), (3, .int x3)] dX11_runFor_62 (by decide) rfl ?_
    exact E_lv [2, 1, 0] rfl h
def W_X11_runFor_0 (X : Sx) (l : Launch) (D : Nat) (x1 : Int32) (x2 : Int32) (σ : AH) (r : Option Value) (σ' : AH) : Prop := ∃ d1 : Nat, ∃ v6 : Int32, ∃ σ2 : AH, d1 + 1 ≤ D ∧ Call X l m_X11_knowing d1 [.ref 0, .int x1] σ (some (.int v6)) σ2 ∧ (if x2 = 0 then W_X11_runFor_21b X l D x2 v6 σ2 r σ' else W_X11_runFor_21 X l D x2 v6 σ2 r σ')
set_option maxRecDepth 100000 in
theorem w_X11_runFor_0 {X : Sx} {l : Launch} {D : Nat} {x1 : Int32} {x2 : Int32} {σ : AH} {r : Option Value} {σ' : AH} (hs : Sh σ) (h : W_X11_runFor_0 X l D x1 x2 σ r σ') : E X l m_X11_runFor D 0 [(0, .ref 0), (1, .int x1), (2, .int x2)] [] σ r σ' := by
  unfold W_X11_runFor_0 at h
  refine E_aload_n 0 dX11_runFor_0 rfl rfl ?_
  refine E_iload_n 1 dX11_runFor_1 rfl rfl ?_
  obtain ⟨d1, v6, σ2, hD3, hC4, h⟩ := h
  have hs5 := hC4.1.2.2.2.1 hs
  refine E_callV (As := [.int x1]) (rest := []) (r1 := (some (.int v6))) (b := 0) dX11_runFor_2 ok_X11_knowing in_X11_knowing se_X11_knowing ml_X11_239 hD3 rfl rfl (Nat.le_of_ble_eq_true rfl) (sk_0 hs) (sn hs (by decide)) (by decide) rfl (by decide +kernel) hC4 ?_
  refine E_istore_n [(3, .int v6), (0, .ref 0), (1, .int x1), (2, .int x2)] dX11_runFor_5 rfl (by decide) rfl ?_
  refine E_iload_n 3 dX11_runFor_6 rfl rfl ?_
  refine E_if_ne 17 dX11_runFor_7 (by decide) (fun c => ?_) (fun c => ?_)
  · rw [if_neg c] at h
    refine E_aload_n 1 dX11_runFor_17 rfl rfl ?_
    refine E_getR 56 dX11_runFor_18 fl_X11_52 rfl (sk_0 hs5) (sn hs5 (by decide)) (sr_0_6 hs5) ?_
    exact E_lv [1, 3, 0] rfl (w_X11_runFor_21 hs5 h)
  · rw [if_pos c] at h
    refine E_aload_n 1 dX11_runFor_10 rfl rfl ?_
    refine E_getR 44 dX11_runFor_11 fl_X11_48 rfl (sk_0 hs5) (sn hs5 (by decide)) (sr_0_5 hs5) ?_
    refine E_goto 21 dX11_runFor_14 (by decide) ?_
    exact E_lv [1, 3, 0] rfl (w_X11_runFor_21b hs5 h)
def W_X11_runFor_64 (X : Sx) (l : Launch) (D : Nat) (x5 : Int32) (σ : AH) (r : Option Value) (σ' : AH) : Prop := (if (260 : Int32) ≤ x5 then (r = some (.ref 56) ∧ σ' = σ) else ∃ d39 : Nat, ∃ σ40 : AH, d39 + 1 ≤ D ∧ Call X l m_X10_passWeek d39 [.ref 34, .ref 57, .int x5] σ none σ40 ∧ ∃ d44 : Nat, ∃ σ45 : AH, d44 + 1 ≤ D ∧ Call X l m_X6_keepStock d44 [.ref 56, .int x5] σ40 none σ45 ∧ E X l m_X11_runFor D 64 [(0, .ref 0), (4, .ref 56), (5, .int (x5 + 1))] [] σ45 r σ')
set_option maxRecDepth 100000 in
theorem w_X11_runFor_64 {X : Sx} {l : Launch} {D : Nat} {x5 : Int32} {σ : AH} {r : Option Value} {σ' : AH} (hs : Sh σ) (h : W_X11_runFor_64 X l D x5 σ r σ') : E X l m_X11_runFor D 64 [(0, .ref 0), (4, .ref 56), (5, .int x5)] [] σ r σ' := by
  unfold W_X11_runFor_64 at h
  refine E_iload 2 dX11_runFor_64 rfl ?_
  refine E_sipush (260 : Int32) dX11_runFor_66 (by decide) ?_
  refine E_icmp_ge 99 dX11_runFor_69 (by decide) (fun c => ?_) (fun c => ?_)
  · rw [if_pos c] at h
    refine E_aload 1 dX11_runFor_99 rfl ?_
    obtain ⟨rfl, rfl⟩ := h
    exact E_aret dX11_runFor_101 rfl (Or.inl ⟨_, rfl⟩)
  · rw [if_neg c] at h
    refine E_aload_n 0 dX11_runFor_72 rfl rfl ?_
    refine E_getR 34 dX11_runFor_73 fl_X11_41 rfl (sk_0 hs) (sn hs (by decide)) (sr_0_4 hs) ?_
    refine E_aload 1 dX11_runFor_76 rfl ?_
    refine E_getR 57 dX11_runFor_78 fl_X11_202 rfl (sk_56 hs) (sn hs (by decide)) (sr_56_0 hs) ?_
    refine E_iload 2 dX11_runFor_81 rfl ?_
    obtain ⟨d39, σ40, hD41, hC42, h⟩ := h
    have hs43 := hC42.1.2.2.2.1 hs
    refine E_callV (As := [.ref 57, .int x5]) (rest := []) (r1 := none) (b := 34) dX11_runFor_83 ok_X10_passWeek in_X10_passWeek se_X10_passWeek ml_X11_431 hD41 rfl rfl (Nat.le_of_ble_eq_true rfl) (sk_34 hs) (sn hs (by decide)) (by decide) rfl (by decide +kernel) hC42 ?_
    refine E_aload 1 dX11_runFor_86 rfl ?_
    refine E_iload 2 dX11_runFor_88 rfl ?_
    obtain ⟨d44, σ45, hD46, hC47, h⟩ := h
    have hs48 := hC47.1.2.2.2.1 hs43
    refine E_callV (As := [.int x5]) (rest := []) (r1 := none) (b := 56) dX11_runFor_90 ok_X6_keepStock in_X6_keepStock se_X6_keepStock ml_X11_435 hD46 rfl rfl (Nat.le_of_ble_eq_true rfl) (sk_56 hs43) (sn hs43 (by decide)) (by decide) rfl (by decide +kernel) hC47 ?_
    refine E_iinc 2 (x5 + 1) [(5, .int (x5 + 1)), (0, .ref 0), (4, .ref 56)] dX11_runFor_93 rfl (congrArg (x5 + ·) (by decide : Int32.ofInt 1 = 1)) (by decide) rfl ?_
    refine E_goto 64 dX11_runFor_96 (by decide) ?_
    exact E_lv [1, 2, 0] rfl h
def W_X11_runFor_64b (X : Sx) (l : Launch) (D : Nat) (x5 : Int32) (σ : AH) (r : Option Value) (σ' : AH) : Prop := (if (260 : Int32) ≤ x5 then (r = some (.ref 44) ∧ σ' = σ) else ∃ d49 : Nat, ∃ σ50 : AH, d49 + 1 ≤ D ∧ Call X l m_X10_passWeek d49 [.ref 34, .ref 45, .int x5] σ none σ50 ∧ ∃ d54 : Nat, ∃ σ55 : AH, d54 + 1 ≤ D ∧ Call X l m_X6_keepStock d54 [.ref 44, .int x5] σ50 none σ55 ∧ E X l m_X11_runFor D 64 [(0, .ref 0), (4, .ref 44), (5, .int (x5 + 1))] [] σ55 r σ')
set_option maxRecDepth 100000 in
theorem w_X11_runFor_64b {X : Sx} {l : Launch} {D : Nat} {x5 : Int32} {σ : AH} {r : Option Value} {σ' : AH} (hs : Sh σ) (h : W_X11_runFor_64b X l D x5 σ r σ') : E X l m_X11_runFor D 64 [(0, .ref 0), (4, .ref 44), (5, .int x5)] [] σ r σ' := by
  unfold W_X11_runFor_64b at h
  refine E_iload 2 dX11_runFor_64 rfl ?_
  refine E_sipush (260 : Int32) dX11_runFor_66 (by decide) ?_
  refine E_icmp_ge 99 dX11_runFor_69 (by decide) (fun c => ?_) (fun c => ?_)
  · rw [if_pos c] at h
    refine E_aload 1 dX11_runFor_99 rfl ?_
    obtain ⟨rfl, rfl⟩ := h
    exact E_aret dX11_runFor_101 rfl (Or.inl ⟨_, rfl⟩)
  · rw [if_neg c] at h
    refine E_aload_n 0 dX11_runFor_72 rfl rfl ?_
    refine E_getR 34 dX11_runFor_73 fl_X11_41 rfl (sk_0 hs) (sn hs (by decide)) (sr_0_4 hs) ?_
    refine E_aload 1 dX11_runFor_76 rfl ?_
    refine E_getR 45 dX11_runFor_78 fl_X11_202 rfl (sk_44 hs) (sn hs (by decide)) (sr_44_0 hs) ?_
    refine E_iload 2 dX11_runFor_81 rfl ?_
    obtain ⟨d49, σ50, hD51, hC52, h⟩ := h
    have hs53 := hC52.1.2.2.2.1 hs
    refine E_callV (As := [.ref 45, .int x5]) (rest := []) (r1 := none) (b := 34) dX11_runFor_83 ok_X10_passWeek in_X10_passWeek se_X10_passWeek ml_X11_431 hD51 rfl rfl (Nat.le_of_ble_eq_true rfl) (sk_34 hs) (sn hs (by decide)) (by decide) rfl (by decide +kernel) hC52 ?_
    refine E_aload 1 dX11_runFor_86 rfl ?_
    refine E_iload 2 dX11_runFor_88 rfl ?_
    obtain ⟨d54, σ55, hD56, hC57, h⟩ := h
    have hs58 := hC57.1.2.2.2.1 hs53
    refine E_callV (As := [.int x5]) (rest := []) (r1 := none) (b := 44) dX11_runFor_90 ok_X6_keepStock in_X6_keepStock se_X6_keepStock ml_X11_435 hD56 rfl rfl (Nat.le_of_ble_eq_true rfl) (sk_44 hs53) (sn hs53 (by decide)) (by decide) rfl (by decide +kernel) hC57 ?_
    refine E_iinc 2 (x5 + 1) [(5, .int (x5 + 1)), (0, .ref 0), (4, .ref 44)] dX11_runFor_93 rfl (congrArg (x5 + ·) (by decide : Int32.ofInt 1 = 1)) (by decide) rfl ?_
    refine E_goto 64 dX11_runFor_96 (by decide) ?_
    exact E_lv [1, 2, 0] rfl h
def W_X11_knowing_0 (X : Sx) (l : Launch) (D : Nat) (x1 : Int32) (σ : AH) (r : Option Value) (σ' : AH) : Prop := E X l m_X11_knowing D 4 [(0, .ref 0), (1, .int x1), (2, .int (0 : Int32)), (3, .int (0 : Int32))] [] σ r σ'
set_option maxRecDepth 100000 in
theorem w_X11_knowing_0 {X : Sx} {l : Launch} {D : Nat} {x1 : Int32} {σ : AH} {r : Option Value} {σ' : AH} (hs : Sh σ) (h : W_X11_knowing_0 X l D x1 σ r σ') : E X l m_X11_knowing D 0 [(0, .ref 0), (1, .int x1)] [] σ r σ' := by
  unfold W_X11_knowing_0 at h
  refine E_iconst (0 : Int32) dX11_knowing_0 (by decide) ?_
  refine E_istore_n [(2, .int (0 : Int32)), (0, .ref 0), (1, .int x1)] dX11_knowing_1 rfl (by decide) rfl ?_
  refine E_iconst (0 : Int32) dX11_knowing_2 (by decide) ?_
  refine E_istore_n [(3, .int (0 : Int32)), (2, .int (0 : Int32)), (0, .ref 0), (1, .int x1)] dX11_knowing_3 rfl (by decide) rfl ?_
  exact E_lv [2, 3, 1, 0] rfl h
def W_X11_knowing_60 (X : Sx) (l : Launch) (D : Nat) (x1 : Int32) (x2 : Int32) (x3 : Int32) (σ : AH) (r : Option Value) (σ' : AH) : Prop := E X l m_X11_knowing D 4 [(0, .ref 0), (1, .int x1), (2, .int x2), (3, .int (x3 + 1))] [] σ r σ'
set_option maxRecDepth 100000 in
theorem w_X11_knowing_60 {X : Sx} {l : Launch} {D : Nat} {x1 : Int32} {x2 : Int32} {x3 : Int32} {σ : AH} {r : Option Value} {σ' : AH} (hs : Sh σ) (h : W_X11_knowing_60 X l D x1 x2 x3 σ r σ') : E X l m_X11_knowing D 60 [(0, .ref 0), (1, .int x1), (2, .int x2), (3, .int x3)] [] σ r σ' := by
  unfold W_X11_knowing_60 at h
  refine E_iinc 3 (x3 + 1) [(3, .int (x3 + 1)), (0, .ref 0), (1, .int x1), (2, .int x2)] dX11_knowing_60 rfl (congrArg (x3 + ·) (by decide : Int32.ofInt 1 = 1)) (by decide) rfl ?_
  refine E_goto 4 dX11_knowing_63 (by decide) ?_
  exact E_lv [1, 2, 3, 0] rfl h
def W_X11_knowing_4 (X : Sx) (l : Launch) (D : Nat) (x1 : Int32) (x2 : Int32) (x3 : Int32) (σ : AH) (r : Option Value) (σ' : AH) : Prop := (if (gI σ 1 1) ≤ x3 then ∃ d1 : Nat, ∃ v6 : Int32, ∃ σ2 : AH, d1 + 1 ≤ D ∧ Call X l m_X8_greatest d1 [.ref 3, .int (3 : Int32), .int x1] σ (some (.int v6)) σ2 ∧ 1 ≤ D ∧ ∃ d8 : Nat, ∃ v13 : Int32, ∃ σ9 : AH, d8 + 1 ≤ D ∧ Call X l m_X8_greatest d8 [.ref 7, .int (3 : Int32), .int x1] σ2 (some (.int v13)) σ9 ∧ 1 ≤ D ∧ ∃ d15 : Nat, ∃ v20 : Int32, ∃ σ16 : AH, d15 + 1 ≤ D ∧ Call X l m_X8_greatest d15 [.ref 11, .int (2 : Int32), .int x1] σ9 (some (.int v20)) σ16 ∧ 1 ≤ D ∧ (r = some (.int (imax (imax (imax x2 v6) v13) v20)) ∧ σ' = σ16) else vp_in x3 24 ∧ (gR σ 2 x3.toNatClampNeg = none → W_X11_knowing_60 X l D x1 x2 x3 σ r σ') ∧ ∀ b22 : Nat, gR σ 2 x3.toNatClampNeg = some b22 → kd σ b22 = (0, NO 0) ∧ b22 < nx σ ∧ vp_in x3 24 ∧ (gR σ 2 x3.toNatClampNeg = none → False) ∧ ∀ b28 : Nat, gR σ 2 x3.toNatClampNeg = some b28 → kd σ b28 = (0, NO 0) ∧ b28 < nx σ ∧ (if x1 < (gI σ b28 1) then W_X11_knowing_60 X l D x1 x2 x3 σ r σ' else vp_in x3 24 ∧ (gR σ 2 x3.toNatClampNeg = none → False) ∧ ∀ b34 : Nat, gR σ 2 x3.toNatClampNeg = some b34 → kd σ b34 = (0, NO 0) ∧ b34 < nx σ ∧ 1 ≤ D ∧ W_X11_knowing_60 X l D x1 (imax x2 (gI σ b34 1)) x3 σ r σ'))
set_option maxRecDepth 100000 in
theorem w_X11_knowing_4 {X : Sx} {l : Launch} {D : Nat} {x1 : Int32} {x2 : Int32} {x3 : Int32} {σ : AH} {r : Option Value} {σ' : AH} (hs : Sh σ) (h : W_X11_knowing_4 X l D x1 x2 x3 σ r σ') : E X l m_X11_knowing D 4 [(0, .ref 0), (1, .int x1), (2, .int x2), (3, .int x3)] [] σ r σ' := by
  unfold W_X11_knowing_4 at h
  refine E_iload_n 3 dX11_knowing_4 rfl rfl ?_
  refine E_aload_n 0 dX11_knowing_5 rfl rfl ?_
  refine E_getR 1 dX11_knowing_6 fl_X11_10 rfl (sk_0 hs) (sn hs (by decide)) (sr_0_0 hs) ?_
  refine E_getI dX11_knowing_9 fl_X11_98 rfl (sk_1 hs) (sn hs (by decide)) ?_
  refine E_icmp_ge 66 dX11_knowing_12 (by decide) (fun c => ?_) (fun c => ?_)
  · rw [if_pos c] at h
    refine E_iload_n 2 dX11_knowing_66 rfl rfl ?_
    refine E_aload_n 0 dX11_knowing_67 rfl rfl ?_
    refine E_getR 1 dX11_knowing_68 fl_X11_10 rfl (sk_0 hs) (sn hs (by decide)) (sr_0_0 hs) ?_
    refine E_getR 3 dX11_knowing_71 fl_X11_156 rfl (sk_1 hs) (sn hs (by decide)) (sr_1_2 hs) ?_
    refine E_iconst (3 : Int32) dX11_knowing_74 (by decide) ?_
    refine E_iload_n 1 dX11_knowing_75 rfl rfl ?_
    obtain ⟨d1, v6, σ2, hD3, hC4, h⟩ := h
    have hs5 := hC4.1.2.2.2.1 hs
    refine E_callV (As := [.int (3 : Int32), .int x1]) (rest := [.int x2]) (r1 := (some (.int v6))) (b := 3) dX11_knowing_76 ok_X8_greatest in_X8_greatest se_X8_greatest ml_X11_441 hD3 rfl rfl (Nat.le_of_ble_eq_true rfl) (sk_3 hs) (sn hs (by decide)) (by decide) rfl (by decide +kernel) hC4 ?_
    obtain ⟨g7, h⟩ := h
    refine E_mmax dX11_knowing_79 mm_X11_149 g7 (Nat.le_of_ble_eq_true rfl) ?_
    refine E_istore_n [(2, .int (imax x2 v6)), (0, .ref 0), (1, .int x1), (3, .int x3)] dX11_knowing_82 rfl (by decide) rfl ?_
    refine E_iload_n 0 dX11_knowing_83 rfl rfl ?_
    refine E_aload_n 1 dX11_knowing_84 rfl rfl ?_
    refine E_getR 1 dX11_knowing_85 fl_X11_10 rfl (sk_0 hs5) (sn hs5 (by decide)) (sr_0_0 hs5) ?_
    refine E_getR 7 dX11_knowing_88 fl_X11_179 rfl (sk_1 hs5) (sn hs5 (by decide)) (sr_1_4 hs5) ?_
    refine E_iconst (3 : Int32) dX11_knowing_91 (by decide) ?_
    refine E_iload_n 2 dX11_knowing_92 rfl rfl ?_
    obtain ⟨d8, v13, σ9, hD10, hC11, h⟩ := h
    have hs12 := hC11.1.2.2.2.1 hs5
    refine E_callV (As := [.int (3 : Int32), .int x1]) (rest := [.int (imax x2 v6)]) (r1 := (some (.int v13))) (b := 7) dX11_knowing_93 ok_X8_greatest in_X8_greatest se_X8_greatest ml_X11_441 hD10 rfl rfl (Nat.le_of_ble_eq_true rfl) (sk_7 hs5) (sn hs5 (by decide)) (by decide) rfl (by decide +kernel) hC11 ?_
    obtain ⟨g14, h⟩ := h
    refine E_mmax dX11_knowing_96 mm_X11_149 g14 (Nat.le_of_ble_eq_true rfl) ?_
    refine E_istore_n [(2, .int (imax (imax x2 v6) v13)), (0, .ref 0), (1, .int x1), (3, .int x3)] dX11_knowing_99 rfl (by decide) rfl ?_
    refine E_iload_n 0 dX11_knowing_100 rfl rfl ?_
    refine E_aload_n 1 dX11_knowing_101 rfl rfl ?_
    refine E_getR 1 dX11_knowing_102 fl_X11_10 rfl (sk_0 hs12) (sn hs12 (by decide)) (sr_0_0 hs12) ?_
    refine E_getR 11 dX11_knowing_105 fl_X11_191 rfl (sk_1 hs12) (sn hs12 (by decide)) (sr_1_6 hs12) ?_
    refine E_iconst (2 : Int32) dX11_knowing_108 (by decide) ?_
    refine E_iload_n 2 dX11_knowing_109 rfl rfl ?_
    obtain ⟨d15, v20, σ16, hD17, hC18, h⟩ := h
    have hs19 := hC18.1.2.2.2.1 hs12
    refine E_callV (As := [.int (2 : Int32), .int x1]) (rest := [.int (imax (imax x2 v6) v13)]) (r1 := (some (.int v20))) (b := 11) dX11_knowing_110 ok_X8_greatest in_X8_greatest se_X8_greatest ml_X11_441 hD17 rfl rfl (Nat.le_of_ble_eq_true rfl) (sk_11 hs12) (sn hs12 (by decide)) (by decide) rfl (by decide +kernel) hC18 ?_
    obtain ⟨g21, h⟩ := h
    refine E_mmax dX11_knowing_113 mm_X11_149 g21 (Nat.le_of_ble_eq_true rfl) ?_
    obtain ⟨rfl, rfl⟩ := h
    exact E_iret dX11_knowing_116 rfl
  · rw [if_neg c] at h
    refine E_aload_n 0 dX11_knowing_15 rfl rfl ?_
    refine E_getR 1 dX11_knowing_16 fl_X11_10 rfl (sk_0 hs) (sn hs (by decide)) (sr_0_0 hs) ?_
    refine E_getR 2 dX11_knowing_19 fl_X11_109 rfl (sk_1 hs) (sn hs (by decide)) (sr_1_0 hs) ?_
    refine E_iload_n 3 dX11_knowing_22 rfl rfl ?_
    obtain ⟨g26, h0, h1⟩ := h
    rcases q27 : gR σ 2 x3.toNatClampNeg with _ | b22
    · have h := h0 q27
      refine E_aaldN dX11_knowing_23 (sk_2 hs) (sn hs (by decide)) (Or.inl rfl) g26 q27 ?_
      refine E_ifnullN 60 dX11_knowing_24 (by decide) ?_
      exact E_lv [0, 1, 2, 3] rfl (w_X11_knowing_60 hs h)
    · obtain ⟨hk24, hb25, h⟩ := h1 b22 q27
      refine E_aald b22 dX11_knowing_23 (sk_2 hs) (sn hs (by decide)) (Or.inl rfl) g26 q27 ?_
      refine E_ifnull dX11_knowing_24 ?_
      refine E_aload_n 0 dX11_knowing_27 rfl rfl ?_
      refine E_getR 1 dX11_knowing_28 fl_X11_10 rfl (sk_0 hs) (sn hs (by decide)) (sr_0_0 hs) ?_
      refine E_getR 2 dX11_knowing_31 fl_X11_109 rfl (sk_1 hs) (sn hs (by decide)) (sr_1_0 hs) ?_
      refine E_iload_n 3 dX11_knowing_34 rfl rfl ?_
      obtain ⟨g32, h0, h1⟩ := h
      rcases q33 : gR σ 2 x3.toNatClampNeg with _ | b28
      · have h := h0 q33
        refine E_aaldN dX11_knowing_35 (sk_2 hs) (sn hs (by decide)) (Or.inl rfl) g32 q33 ?_
        exact h.elim
      · obtain ⟨hk30, hb31, h⟩ := h1 b28 q33
        refine E_aald b28 dX11_knowing_35 (sk_2 hs) (sn hs (by decide)) (Or.inl rfl) g32 q33 ?_
        refine E_getI dX11_knowing_36 fl_X11_438 rfl hk30 hb31 ?_
        refine E_iload_n 1 dX11_knowing_39 rfl rfl ?_
        refine E_icmp_gt 60 dX11_knowing_40 (by decide) (fun c => ?_) (fun c => ?_)
        · rw [if_pos c] at h
          exact E_lv [0, 1, 2, 3] rfl (w_X11_knowing_60 hs h)
        · rw [if_neg c] at h
          refine E_iload_n 2 dX11_knowing_43 rfl rfl ?_
          refine E_aload_n 0 dX11_knowing_44 rfl rfl ?_
          refine E_getR 1 dX11_knowing_45 fl_X11_10 rfl (sk_0 hs) (sn hs (by decide)) (sr_0_0 hs) ?_
          refine E_getR 2 dX11_knowing_48 fl_X11_109 rfl (sk_1 hs) (sn hs (by decide)) (sr_1_0 hs) ?_
          refine E_iload_n 3 dX11_knowing_51 rfl rfl ?_
          obtain ⟨g38, h0, h1⟩ := h
          rcases q39 : gR σ 2 x3.toNatClampNeg with _ | b34
          · have h := h0 q39
            refine E_aaldN dX11_knowing_52 (sk_2 hs) (sn hs (by decide)) (Or.inl rfl) g38 q39 ?_
            exact h.elim
          · obtain ⟨hk36, hb37, h⟩ := h1 b34 q39
            refine E_aald b34 dX11_knowing_52 (sk_2 hs) (sn hs (by decide)) (Or.inl rfl) g38 q39 ?_
            refine E_getI dX11_knowing_53 fl_X11_438 rfl hk36 hb37 ?_
            obtain ⟨g40, h⟩ := h
            refine E_mmax dX11_knowing_56 mm_X11_149 g40 (Nat.le_of_ble_eq_true rfl) ?_
            refine E_istore_n [(2, .int (imax x2 (gI σ b34 1))), (0, .ref 0), (1, .int x1), (3, .int x3)] dX11_knowing_59 rfl (by decide) rfl ?_
            exact E_lv [1, 2, 0, 3] rfl (w_X11_knowing_60 hs h)
