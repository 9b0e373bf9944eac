theorem dX0_init_0 : decode cX0_init 0 = .ok (.aload_n 0, 1) := by decide +kernel
theorem dX0_init_1 : decode cX0_init 1 = .ok (.invokespecial 1, 3) := by decide +kernel
theorem dX0_init_4 : decode cX0_init 4 = .ok (.aload_n 0, 1) := by decide +kernel
theorem dX0_init_5 : decode cX0_init 5 = .ok (.iload_n 1, 1) := by decide +kernel
theorem dX0_init_6 : decode cX0_init 6 = .ok (.putfield 7, 3) := by decide +kernel
theorem dX0_init_9 : decode cX0_init 9 = .ok (.aload_n 0, 1) := by decide +kernel
theorem dX0_init_10 : decode cX0_init 10 = .ok (.iload_n 2, 1) := by decide +kernel
theorem dX0_init_11 : decode cX0_init 11 = .ok (.putfield 13, 3) := by decide +kernel
theorem dX0_init_14 : decode cX0_init 14 = .ok (.aload_n 0, 1) := by decide +kernel
theorem dX0_init_15 : decode cX0_init 15 = .ok (.aload_n 3, 1) := by decide +kernel
theorem dX0_init_16 : decode cX0_init 16 = .ok (.getfield 16, 3) := by decide +kernel
theorem dX0_init_19 : decode cX0_init 19 = .ok (.putfield 21, 3) := by decide +kernel
theorem dX0_init_22 : decode cX0_init 22 = .ok (.aload_n 0, 1) := by decide +kernel
theorem dX0_init_23 : decode cX0_init 23 = .ok (.aload_n 3, 1) := by decide +kernel
theorem dX0_init_24 : decode cX0_init 24 = .ok (.getfield 22, 3) := by decide +kernel
theorem dX0_init_27 : decode cX0_init 27 = .ok (.aload_n 3, 1) := by decide +kernel
theorem dX0_init_28 : decode cX0_init 28 = .ok (.getfield 16, 3) := by decide +kernel
theorem dX0_init_31 : decode cX0_init 31 = .ok (.invokestatic 26, 3) := by decide +kernel
theorem dX0_init_34 : decode cX0_init 34 = .ok (.putfield 32, 3) := by decide +kernel
theorem dX0_init_37 : decode cX0_init 37 = .ok (.aload_n 0, 1) := by decide +kernel
theorem dX0_init_38 : decode cX0_init 38 = .ok (.aload_n 3, 1) := by decide +kernel
theorem dX0_init_39 : decode cX0_init 39 = .ok (.getfield 33, 3) := by decide +kernel
theorem dX0_init_42 : decode cX0_init 42 = .ok (.aload_n 3, 1) := by decide +kernel
theorem dX0_init_43 : decode cX0_init 43 = .ok (.getfield 16, 3) := by decide +kernel
theorem dX0_init_46 : decode cX0_init 46 = .ok (.invokestatic 26, 3) := by decide +kernel
theorem dX0_init_49 : decode cX0_init 49 = .ok (.putfield 36, 3) := by decide +kernel
theorem dX0_init_52 : decode cX0_init 52 = .ok (.aload_n 0, 1) := by decide +kernel
theorem dX0_init_53 : decode cX0_init 53 = .ok (.aload_n 3, 1) := by decide +kernel
theorem dX0_init_54 : decode cX0_init 54 = .ok (.getfield 37, 3) := by decide +kernel
theorem dX0_init_57 : decode cX0_init 57 = .ok (.aload_n 3, 1) := by decide +kernel
theorem dX0_init_58 : decode cX0_init 58 = .ok (.getfield 16, 3) := by decide +kernel
theorem dX0_init_61 : decode cX0_init 61 = .ok (.invokestatic 26, 3) := by decide +kernel
theorem dX0_init_64 : decode cX0_init 64 = .ok (.putfield 40, 3) := by decide +kernel
theorem dX0_init_67 : decode cX0_init 67 = .ok (.aload_n 0, 1) := by decide +kernel
theorem dX0_init_68 : decode cX0_init 68 = .ok (.aload_n 3, 1) := by decide +kernel
theorem dX0_init_69 : decode cX0_init 69 = .ok (.getfield 41, 3) := by decide +kernel
theorem dX0_init_72 : decode cX0_init 72 = .ok (.aload_n 3, 1) := by decide +kernel
theorem dX0_init_73 : decode cX0_init 73 = .ok (.getfield 44, 3) := by decide +kernel
theorem dX0_init_76 : decode cX0_init 76 = .ok (.invokestatic 26, 3) := by decide +kernel
theorem dX0_init_79 : decode cX0_init 79 = .ok (.putfield 47, 3) := by decide +kernel
theorem dX0_init_82 : decode cX0_init 82 = .ok (.return_, 1) := by decide +kernel
theorem dX1_init_0 : decode cX1_init 0 = .ok (.aload_n 0, 1) := by decide +kernel
theorem dX1_init_1 : decode cX1_init 1 = .ok (.invokespecial 3, 3) := by decide +kernel
theorem dX1_init_4 : decode cX1_init 4 = .ok (.aload_n 0, 1) := by decide +kernel
theorem dX1_init_5 : decode cX1_init 5 = .ok (.bipush 6, 2) := by decide +kernel
theorem dX1_init_7 : decode cX1_init 7 = .ok (.newarray .int, 2) := by decide +kernel
theorem dX1_init_9 : decode cX1_init 9 = .ok (.putfield 9, 3) := by decide +kernel
theorem dX1_init_12 : decode cX1_init 12 = .ok (.aload_n 0, 1) := by decide +kernel
theorem dX1_init_13 : decode cX1_init 13 = .ok (.new 15, 3) := by decide +kernel
theorem dX1_init_16 : decode cX1_init 16 = .ok (.dup, 1) := by decide +kernel
theorem dX1_init_17 : decode cX1_init 17 = .ok (.invokespecial 17, 3) := by decide +kernel
theorem dX1_init_20 : decode cX1_init 20 = .ok (.putfield 18, 3) := by decide +kernel
theorem dX1_init_23 : decode cX1_init 23 = .ok (.aload_n 0, 1) := by decide +kernel
theorem dX1_init_24 : decode cX1_init 24 = .ok (.iconst (-1), 1) := by decide +kernel
theorem dX1_init_25 : decode cX1_init 25 = .ok (.putfield 22, 3) := by decide +kernel
theorem dX1_init_28 : decode cX1_init 28 = .ok (.aload_n 0, 1) := by decide +kernel
theorem dX1_init_29 : decode cX1_init 29 = .ok (.iconst (-1), 1) := by decide +kernel
theorem dX1_init_30 : decode cX1_init 30 = .ok (.putfield 26, 3) := by decide +kernel
theorem dX1_init_33 : decode cX1_init 33 = .ok (.aload_n 0, 1) := by decide +kernel
theorem dX1_init_34 : decode cX1_init 34 = .ok (.iconst 3, 1) := by decide +kernel
theorem dX1_init_35 : decode cX1_init 35 = .ok (.anewarray 15, 3) := by decide +kernel
theorem dX1_init_38 : decode cX1_init 38 = .ok (.putfield 29, 3) := by decide +kernel
theorem dX1_init_41 : decode cX1_init 41 = .ok (.aload_n 0, 1) := by decide +kernel
theorem dX1_init_42 : decode cX1_init 42 = .ok (.bipush 6, 2) := by decide +kernel
theorem dX1_init_44 : decode cX1_init 44 = .ok (.newarray .int, 2) := by decide +kernel
theorem dX1_init_46 : decode cX1_init 46 = .ok (.putfield 33, 3) := by decide +kernel
theorem dX1_init_49 : decode cX1_init 49 = .ok (.aload_n 0, 1) := by decide +kernel
theorem dX1_init_50 : decode cX1_init 50 = .ok (.bipush 6, 2) := by decide +kernel
theorem dX1_init_52 : decode cX1_init 52 = .ok (.newarray .int, 2) := by decide +kernel
theorem dX1_init_54 : decode cX1_init 54 = .ok (.putfield 36, 3) := by decide +kernel
theorem dX1_init_57 : decode cX1_init 57 = .ok (.aload_n 0, 1) := by decide +kernel
theorem dX1_init_58 : decode cX1_init 58 = .ok (.iconst (-1), 1) := by decide +kernel
theorem dX1_init_59 : decode cX1_init 59 = .ok (.putfield 39, 3) := by decide +kernel
theorem dX1_init_62 : decode cX1_init 62 = .ok (.aload_n 0, 1) := by decide +kernel
theorem dX1_init_63 : decode cX1_init 63 = .ok (.iconst (-1), 1) := by decide +kernel
theorem dX1_init_64 : decode cX1_init 64 = .ok (.putfield 42, 3) := by decide +kernel
theorem dX1_init_67 : decode cX1_init 67 = .ok (.aload_n 0, 1) := by decide +kernel
theorem dX1_init_68 : decode cX1_init 68 = .ok (.aload_n 1, 1) := by decide +kernel
theorem dX1_init_69 : decode cX1_init 69 = .ok (.putfield 45, 3) := by decide +kernel
theorem dX1_init_72 : decode cX1_init 72 = .ok (.aload_n 0, 1) := by decide +kernel
theorem dX1_init_73 : decode cX1_init 73 = .ok (.aload_n 2, 1) := by decide +kernel
theorem dX1_init_74 : decode cX1_init 74 = .ok (.putfield 49, 3) := by decide +kernel
theorem dX1_init_77 : decode cX1_init 77 = .ok (.iconst 0, 1) := by decide +kernel
theorem dX1_init_78 : decode cX1_init 78 = .ok (.istore_n 3, 1) := by decide +kernel
theorem dX1_init_79 : decode cX1_init 79 = .ok (.iload_n 3, 1) := by decide +kernel
theorem dX1_init_80 : decode cX1_init 80 = .ok (.iconst 3, 1) := by decide +kernel
theorem dX1_init_81 : decode cX1_init 81 = .ok (.if_icmp .ge 22, 3) := by decide +kernel
theorem dX1_init_84 : decode cX1_init 84 = .ok (.aload_n 0, 1) := by decide +kernel
theorem dX1_init_85 : decode cX1_init 85 = .ok (.getfield 29, 3) := by decide +kernel
theorem dX1_init_88 : decode cX1_init 88 = .ok (.iload_n 3, 1) := by decide +kernel
theorem dX1_init_89 : decode cX1_init 89 = .ok (.new 15, 3) := by decide +kernel
theorem dX1_init_92 : decode cX1_init 92 = .ok (.dup, 1) := by decide +kernel
theorem dX1_init_93 : decode cX1_init 93 = .ok (.invokespecial 17, 3) := by decide +kernel
theorem dX1_init_96 : decode cX1_init 96 = .ok (.aastore, 1) := by decide +kernel
theorem dX1_init_97 : decode cX1_init 97 = .ok (.iinc 3 1, 3) := by decide +kernel
theorem dX1_init_100 : decode cX1_init 100 = .ok (.goto (-21), 3) := by decide +kernel
theorem dX1_init_103 : decode cX1_init 103 = .ok (.return_, 1) := by decide +kernel
theorem dX1_isWished_0 : decode cX1_isWished 0 = .ok (.iconst 0, 1) := by decide +kernel
theorem dX1_isWished_1 : decode cX1_isWished 1 = .ok (.istore_n 2, 1) := by decide +kernel
theorem dX1_isWished_2 : decode cX1_isWished 2 = .ok (.iload_n 2, 1) := by decide +kernel
theorem dX1_isWished_3 : decode cX1_isWished 3 = .ok (.aload_n 0, 1) := by decide +kernel
theorem dX1_isWished_4 : decode cX1_isWished 4 = .ok (.getfield 53, 3) := by decide +kernel
theorem dX1_isWished_7 : decode cX1_isWished 7 = .ok (.if_icmp .ge 21, 3) := by decide +kernel
theorem dX1_isWished_10 : decode cX1_isWished 10 = .ok (.aload_n 0, 1) := by decide +kernel
theorem dX1_isWished_11 : decode cX1_isWished 11 = .ok (.getfield 9, 3) := by decide +kernel
theorem dX1_isWished_14 : decode cX1_isWished 14 = .ok (.iload_n 2, 1) := by decide +kernel
theorem dX1_isWished_15 : decode cX1_isWished 15 = .ok (.iaload, 1) := by decide +kernel
theorem dX1_isWished_16 : decode cX1_isWished 16 = .ok (.iload_n 1, 1) := by decide +kernel
theorem dX1_isWished_17 : decode cX1_isWished 17 = .ok (.if_icmp .ne 5, 3) := by decide +kernel
theorem dX1_isWished_20 : decode cX1_isWished 20 = .ok (.iconst 1, 1) := by decide +kernel
theorem dX1_isWished_21 : decode cX1_isWished 21 = .ok (.ireturn, 1) := by decide +kernel
theorem dX1_isWished_22 : decode cX1_isWished 22 = .ok (.iinc 2 1, 3) := by decide +kernel
theorem dX1_isWished_25 : decode cX1_isWished 25 = .ok (.goto (-23), 3) := by decide +kernel
theorem dX1_isWished_28 : decode cX1_isWished 28 = .ok (.iconst 0, 1) := by decide +kernel
theorem dX1_isWished_29 : decode cX1_isWished 29 = .ok (.ireturn, 1) := by decide +kernel
theorem dX1_openQuarter_0 : decode cX1_openQuarter 0 = .ok (.aload_n 0, 1) := by decide +kernel
theorem dX1_openQuarter_1 : decode cX1_openQuarter 1 = .ok (.iload_n 1, 1) := by decide +kernel
theorem dX1_openQuarter_2 : decode cX1_openQuarter 2 = .ok (.bipush 13, 2) := by decide +kernel
theorem dX1_openQuarter_4 : decode cX1_openQuarter 4 = .ok (.imul, 1) := by decide +kernel
theorem dX1_openQuarter_5 : decode cX1_openQuarter 5 = .ok (.putfield 56, 3) := by decide +kernel
theorem dX1_openQuarter_8 : decode cX1_openQuarter 8 = .ok (.aload_n 0, 1) := by decide +kernel
theorem dX1_openQuarter_9 : decode cX1_openQuarter 9 = .ok (.getfield 49, 3) := by decide +kernel
theorem dX1_openQuarter_12 : decode cX1_openQuarter 12 = .ok (.iload_n 2, 1) := by decide +kernel
theorem dX1_openQuarter_13 : decode cX1_openQuarter 13 = .ok (.iconst 0, 1) := by decide +kernel
theorem dX1_openQuarter_14 : decode cX1_openQuarter 14 = .ok (.iload_n 3, 1) := by decide +kernel
theorem dX1_openQuarter_15 : decode cX1_openQuarter 15 = .ok (.invokevirtual 59, 3) := by decide +kernel
theorem dX1_openQuarter_18 : decode cX1_openQuarter 18 = .ok (.aload_n 0, 1) := by decide +kernel
theorem dX1_openQuarter_19 : decode cX1_openQuarter 19 = .ok (.getfield 22, 3) := by decide +kernel
theorem dX1_openQuarter_22 : decode cX1_openQuarter 22 = .ok (.aload_n 0, 1) := by decide +kernel
theorem dX1_openQuarter_23 : decode cX1_openQuarter 23 = .ok (.getfield 56, 3) := by decide +kernel
theorem dX1_openQuarter_26 : decode cX1_openQuarter 26 = .ok (.if_icmp .ne 11, 3) := by decide +kernel
theorem dX1_openQuarter_29 : decode cX1_openQuarter 29 = .ok (.aload_n 0, 1) := by decide +kernel
theorem dX1_openQuarter_30 : decode cX1_openQuarter 30 = .ok (.getfield 26, 3) := by decide +kernel
theorem dX1_openQuarter_33 : decode cX1_openQuarter 33 = .ok (.iload_n 3, 1) := by decide +kernel
theorem dX1_openQuarter_34 : decode cX1_openQuarter 34 = .ok (.if_icmp .eq 54, 3) := by decide +kernel
theorem dX1_openQuarter_37 : decode cX1_openQuarter 37 = .ok (.aload_n 0, 1) := by decide +kernel
theorem dX1_openQuarter_38 : decode cX1_openQuarter 38 = .ok (.aload_n 0, 1) := by decide +kernel
theorem dX1_openQuarter_39 : decode cX1_openQuarter 39 = .ok (.getfield 56, 3) := by decide +kernel
theorem dX1_openQuarter_42 : decode cX1_openQuarter 42 = .ok (.putfield 22, 3) := by decide +kernel
theorem dX1_openQuarter_45 : decode cX1_openQuarter 45 = .ok (.aload_n 0, 1) := by decide +kernel
theorem dX1_openQuarter_46 : decode cX1_openQuarter 46 = .ok (.iload_n 3, 1) := by decide +kernel
theorem dX1_openQuarter_47 : decode cX1_openQuarter 47 = .ok (.putfield 26, 3) := by decide +kernel
theorem dX1_openQuarter_50 : decode cX1_openQuarter 50 = .ok (.aload_n 0, 1) := by decide +kernel
theorem dX1_openQuarter_51 : decode cX1_openQuarter 51 = .ok (.getfield 18, 3) := by decide +kernel
theorem dX1_openQuarter_54 : decode cX1_openQuarter 54 = .ok (.invokevirtual 65, 3) := by decide +kernel
theorem dX1_openQuarter_57 : decode cX1_openQuarter 57 = .ok (.iconst 0, 1) := by decide +kernel
theorem dX1_openQuarter_58 : decode cX1_openQuarter 58 = .ok (.istore 4, 2) := by decide +kernel
theorem dX1_openQuarter_60 : decode cX1_openQuarter 60 = .ok (.iload 4, 2) := by decide +kernel
theorem dX1_openQuarter_62 : decode cX1_openQuarter 62 = .ok (.aload_n 0, 1) := by decide +kernel
theorem dX1_openQuarter_63 : decode cX1_openQuarter 63 = .ok (.getfield 56, 3) := by decide +kernel
theorem dX1_openQuarter_66 : decode cX1_openQuarter 66 = .ok (.if_icmp .ge 22, 3) := by decide +kernel
theorem dX1_openQuarter_69 : decode cX1_openQuarter 69 = .ok (.aload_n 0, 1) := by decide +kernel
theorem dX1_openQuarter_70 : decode cX1_openQuarter 70 = .ok (.getfield 49, 3) := by decide +kernel
theorem dX1_openQuarter_73 : decode cX1_openQuarter 73 = .ok (.aload_n 0, 1) := by decide +kernel
theorem dX1_openQuarter_74 : decode cX1_openQuarter 74 = .ok (.getfield 18, 3) := by decide +kernel
theorem dX1_openQuarter_77 : decode cX1_openQuarter 77 = .ok (.iload 4, 2) := by decide +kernel
theorem dX1_openQuarter_79 : decode cX1_openQuarter 79 = .ok (.invokevirtual 68, 3) := by decide +kernel
theorem dX1_openQuarter_82 : decode cX1_openQuarter 82 = .ok (.iinc 4 1, 3) := by decide +kernel
theorem dX1_openQuarter_85 : decode cX1_openQuarter 85 = .ok (.goto (-25), 3) := by decide +kernel
theorem dX1_openQuarter_88 : decode cX1_openQuarter 88 = .ok (.return_, 1) := by decide +kernel
theorem dX1_forget_0 : decode cX1_forget 0 = .ok (.aload_n 0, 1) := by decide +kernel
theorem dX1_forget_1 : decode cX1_forget 1 = .ok (.getfield 33, 3) := by decide +kernel
theorem dX1_forget_4 : decode cX1_forget 4 = .ok (.iconst 0, 1) := by decide +kernel
theorem dX1_forget_5 : decode cX1_forget 5 = .ok (.invokestatic 72, 3) := by decide +kernel
theorem dX1_forget_8 : decode cX1_forget 8 = .ok (.aload_n 0, 1) := by decide +kernel
theorem dX1_forget_9 : decode cX1_forget 9 = .ok (.iconst (-1), 1) := by decide +kernel
theorem dX1_forget_10 : decode cX1_forget 10 = .ok (.putfield 39, 3) := by decide +kernel
theorem dX1_forget_13 : decode cX1_forget 13 = .ok (.aload_n 0, 1) := by decide +kernel
theorem dX1_forget_14 : decode cX1_forget 14 = .ok (.iconst (-1), 1) := by decide +kernel
theorem dX1_forget_15 : decode cX1_forget 15 = .ok (.putfield 42, 3) := by decide +kernel
theorem dX1_forget_18 : decode cX1_forget 18 = .ok (.aload_n 0, 1) := by decide +kernel
theorem dX1_forget_19 : decode cX1_forget 19 = .ok (.aload_n 0, 1) := by decide +kernel
theorem dX1_forget_20 : decode cX1_forget 20 = .ok (.getfield 53, 3) := by decide +kernel
theorem dX1_forget_23 : decode cX1_forget 23 = .ok (.putfield 78, 3) := by decide +kernel
theorem dX1_forget_26 : decode cX1_forget 26 = .ok (.return_, 1) := by decide +kernel
theorem dX1_tell_0 : decode cX1_tell 0 = .ok (.iconst 0, 1) := by decide +kernel
theorem dX1_tell_1 : decode cX1_tell 1 = .ok (.istore_n 2, 1) := by decide +kernel
theorem dX1_tell_2 : decode cX1_tell 2 = .ok (.iload_n 2, 1) := by decide +kernel
theorem dX1_tell_3 : decode cX1_tell 3 = .ok (.bipush 6, 2) := by decide +kernel
theorem dX1_tell_5 : decode cX1_tell 5 = .ok (.if_icmp .ge 22, 3) := by decide +kernel
theorem dX1_tell_8 : decode cX1_tell 8 = .ok (.aload_n 0, 1) := by decide +kernel
theorem dX1_tell_9 : decode cX1_tell 9 = .ok (.getfield 33, 3) := by decide +kernel
theorem dX1_tell_12 : decode cX1_tell 12 = .ok (.iload_n 2, 1) := by decide +kernel
theorem dX1_tell_13 : decode cX1_tell 13 = .ok (.iload_n 1, 1) := by decide +kernel
theorem dX1_tell_14 : decode cX1_tell 14 = .ok (.iconst 2, 1) := by decide +kernel
theorem dX1_tell_15 : decode cX1_tell 15 = .ok (.iload_n 2, 1) := by decide +kernel
theorem dX1_tell_16 : decode cX1_tell 16 = .ok (.imul, 1) := by decide +kernel
theorem dX1_tell_17 : decode cX1_tell 17 = .ok (.ishr, 1) := by decide +kernel
theorem dX1_tell_18 : decode cX1_tell 18 = .ok (.iconst 3, 1) := by decide +kernel
theorem dX1_tell_19 : decode cX1_tell 19 = .ok (.iand, 1) := by decide +kernel
theorem dX1_tell_20 : decode cX1_tell 20 = .ok (.iastore, 1) := by decide +kernel
theorem dX1_tell_21 : decode cX1_tell 21 = .ok (.iinc 2 1, 3) := by decide +kernel
theorem dX1_tell_24 : decode cX1_tell 24 = .ok (.goto (-22), 3) := by decide +kernel
theorem dX1_tell_27 : decode cX1_tell 27 = .ok (.return_, 1) := by decide +kernel
theorem dX1_playRow_0 : decode cX1_playRow 0 = .ok (.aload_n 0, 1) := by decide +kernel
theorem dX1_playRow_1 : decode cX1_playRow 1 = .ok (.getfield 29, 3) := by decide +kernel
theorem dX1_playRow_4 : decode cX1_playRow 4 = .ok (.iconst 0, 1) := by decide +kernel
theorem dX1_playRow_5 : decode cX1_playRow 5 = .ok (.aaload, 1) := by decide +kernel
theorem dX1_playRow_6 : decode cX1_playRow 6 = .ok (.astore_n 1, 1) := by decide +kernel
theorem dX1_playRow_7 : decode cX1_playRow 7 = .ok (.aload_n 1, 1) := by decide +kernel
theorem dX1_playRow_8 : decode cX1_playRow 8 = .ok (.aload_n 0, 1) := by decide +kernel
theorem dX1_playRow_9 : decode cX1_playRow 9 = .ok (.getfield 18, 3) := by decide +kernel
theorem dX1_playRow_12 : decode cX1_playRow 12 = .ok (.aload_n 0, 1) := by decide +kernel
theorem dX1_playRow_13 : decode cX1_playRow 13 = .ok (.getfield 45, 3) := by decide +kernel
theorem dX1_playRow_16 : decode cX1_playRow 16 = .ok (.getfield 81, 3) := by decide +kernel
theorem dX1_playRow_19 : decode cX1_playRow 19 = .ok (.invokevirtual 87, 3) := by decide +kernel
theorem dX1_playRow_22 : decode cX1_playRow 22 = .ok (.invokevirtual 93, 3) := by decide +kernel
theorem dX1_playRow_25 : decode cX1_playRow 25 = .ok (.iconst 0, 1) := by decide +kernel
theorem dX1_playRow_26 : decode cX1_playRow 26 = .ok (.istore_n 2, 1) := by decide +kernel
theorem dX1_playRow_27 : decode cX1_playRow 27 = .ok (.iload_n 2, 1) := by decide +kernel
theorem dX1_playRow_28 : decode cX1_playRow 28 = .ok (.iconst 3, 1) := by decide +kernel
theorem dX1_playRow_29 : decode cX1_playRow 29 = .ok (.if_icmp .ge 14, 3) := by decide +kernel
theorem dX1_playRow_32 : decode cX1_playRow 32 = .ok (.aload_n 0, 1) := by decide +kernel
theorem dX1_playRow_33 : decode cX1_playRow 33 = .ok (.iload_n 2, 1) := by decide +kernel
theorem dX1_playRow_34 : decode cX1_playRow 34 = .ok (.invokevirtual 96, 3) := by decide +kernel
theorem dX1_playRow_37 : decode cX1_playRow 37 = .ok (.iinc 2 1, 3) := by decide +kernel
theorem dX1_playRow_40 : decode cX1_playRow 40 = .ok (.goto (-13), 3) := by decide +kernel
theorem dX1_playRow_43 : decode cX1_playRow 43 = .ok (.aload_n 0, 1) := by decide +kernel
theorem dX1_playRow_44 : decode cX1_playRow 44 = .ok (.getfield 56, 3) := by decide +kernel
theorem dX1_playRow_47 : decode cX1_playRow 47 = .ok (.istore_n 2, 1) := by decide +kernel
theorem dX1_playRow_48 : decode cX1_playRow 48 = .ok (.iload_n 2, 1) := by decide +kernel
theorem dX1_playRow_49 : decode cX1_playRow 49 = .ok (.aload_n 0, 1) := by decide +kernel
theorem dX1_playRow_50 : decode cX1_playRow 50 = .ok (.getfield 56, 3) := by decide +kernel
theorem dX1_playRow_53 : decode cX1_playRow 53 = .ok (.bipush 13, 2) := by decide +kernel
theorem dX1_playRow_55 : decode cX1_playRow 55 = .ok (.iadd, 1) := by decide +kernel
theorem dX1_playRow_56 : decode cX1_playRow 56 = .ok (.if_icmp .ge 18, 3) := by decide +kernel
theorem dX1_playRow_59 : decode cX1_playRow 59 = .ok (.aload_n 0, 1) := by decide +kernel
theorem dX1_playRow_60 : decode cX1_playRow 60 = .ok (.getfield 49, 3) := by decide +kernel
theorem dX1_playRow_63 : decode cX1_playRow 63 = .ok (.aload_n 1, 1) := by decide +kernel
theorem dX1_playRow_64 : decode cX1_playRow 64 = .ok (.iload_n 2, 1) := by decide +kernel
theorem dX1_playRow_65 : decode cX1_playRow 65 = .ok (.invokevirtual 68, 3) := by decide +kernel
theorem dX1_playRow_68 : decode cX1_playRow 68 = .ok (.iinc 2 1, 3) := by decide +kernel
theorem dX1_playRow_71 : decode cX1_playRow 71 = .ok (.goto (-23), 3) := by decide +kernel
theorem dX1_playRow_74 : decode cX1_playRow 74 = .ok (.aload_n 0, 1) := by decide +kernel
theorem dX1_playRow_75 : decode cX1_playRow 75 = .ok (.invokevirtual 100, 3) := by decide +kernel
theorem dX1_playRow_78 : decode cX1_playRow 78 = .ok (.aload_n 1, 1) := by decide +kernel
theorem dX1_playRow_79 : decode cX1_playRow 79 = .ok (.areturn, 1) := by decide +kernel
theorem dX1_tellStarts_0 : decode cX1_tellStarts 0 = .ok (.iconst 0, 1) := by decide +kernel
theorem dX1_tellStarts_1 : decode cX1_tellStarts 1 = .ok (.istore_n 2, 1) := by decide +kernel
theorem dX1_tellStarts_2 : decode cX1_tellStarts 2 = .ok (.iload_n 2, 1) := by decide +kernel
theorem dX1_tellStarts_3 : decode cX1_tellStarts 3 = .ok (.aload_n 0, 1) := by decide +kernel
theorem dX1_tellStarts_4 : decode cX1_tellStarts 4 = .ok (.getfield 53, 3) := by decide +kernel
theorem dX1_tellStarts_7 : decode cX1_tellStarts 7 = .ok (.if_icmp .ge 42, 3) := by decide +kernel
theorem dX1_tellStarts_10 : decode cX1_tellStarts 10 = .ok (.aload_n 0, 1) := by decide +kernel
theorem dX1_tellStarts_11 : decode cX1_tellStarts 11 = .ok (.getfield 33, 3) := by decide +kernel
theorem dX1_tellStarts_14 : decode cX1_tellStarts 14 = .ok (.iload_n 2, 1) := by decide +kernel
theorem dX1_tellStarts_15 : decode cX1_tellStarts 15 = .ok (.iaload, 1) := by decide +kernel
theorem dX1_tellStarts_16 : decode cX1_tellStarts 16 = .ok (.iload_n 1, 1) := by decide +kernel
theorem dX1_tellStarts_17 : decode cX1_tellStarts 17 = .ok (.iconst 1, 1) := by decide +kernel
theorem dX1_tellStarts_18 : decode cX1_tellStarts 18 = .ok (.iadd, 1) := by decide +kernel
theorem dX1_tellStarts_19 : decode cX1_tellStarts 19 = .ok (.if_icmp .ne 24, 3) := by decide +kernel
theorem dX1_tellStarts_22 : decode cX1_tellStarts 22 = .ok (.aload_n 0, 1) := by decide +kernel
theorem dX1_tellStarts_23 : decode cX1_tellStarts 23 = .ok (.getfield 49, 3) := by decide +kernel
theorem dX1_tellStarts_26 : decode cX1_tellStarts 26 = .ok (.aload_n 0, 1) := by decide +kernel
theorem dX1_tellStarts_27 : decode cX1_tellStarts 27 = .ok (.getfield 9, 3) := by decide +kernel
theorem dX1_tellStarts_30 : decode cX1_tellStarts 30 = .ok (.iload_n 2, 1) := by decide +kernel
theorem dX1_tellStarts_31 : decode cX1_tellStarts 31 = .ok (.iaload, 1) := by decide +kernel
theorem dX1_tellStarts_32 : decode cX1_tellStarts 32 = .ok (.aload_n 0, 1) := by decide +kernel
theorem dX1_tellStarts_33 : decode cX1_tellStarts 33 = .ok (.getfield 56, 3) := by decide +kernel
theorem dX1_tellStarts_36 : decode cX1_tellStarts 36 = .ok (.iload_n 1, 1) := by decide +kernel
theorem dX1_tellStarts_37 : decode cX1_tellStarts 37 = .ok (.iconst 4, 1) := by decide +kernel
theorem dX1_tellStarts_38 : decode cX1_tellStarts 38 = .ok (.imul, 1) := by decide +kernel
theorem dX1_tellStarts_39 : decode cX1_tellStarts 39 = .ok (.iadd, 1) := by decide +kernel
theorem dX1_tellStarts_40 : decode cX1_tellStarts 40 = .ok (.invokevirtual 103, 3) := by decide +kernel
theorem dX1_tellStarts_43 : decode cX1_tellStarts 43 = .ok (.iinc 2 1, 3) := by decide +kernel
theorem dX1_tellStarts_46 : decode cX1_tellStarts 46 = .ok (.goto (-44), 3) := by decide +kernel
theorem dX1_tellStarts_49 : decode cX1_tellStarts 49 = .ok (.return_, 1) := by decide +kernel
theorem dX1_dropStarts_0 : decode cX1_dropStarts 0 = .ok (.iconst 0, 1) := by decide +kernel
theorem dX1_dropStarts_1 : decode cX1_dropStarts 1 = .ok (.istore_n 1, 1) := by decide +kernel
theorem dX1_dropStarts_2 : decode cX1_dropStarts 2 = .ok (.iload_n 1, 1) := by decide +kernel
theorem dX1_dropStarts_3 : decode cX1_dropStarts 3 = .ok (.aload_n 0, 1) := by decide +kernel
theorem dX1_dropStarts_4 : decode cX1_dropStarts 4 = .ok (.getfield 53, 3) := by decide +kernel
theorem dX1_dropStarts_7 : decode cX1_dropStarts 7 = .ok (.if_icmp .ge 22, 3) := by decide +kernel
theorem dX1_dropStarts_10 : decode cX1_dropStarts 10 = .ok (.aload_n 0, 1) := by decide +kernel
theorem dX1_dropStarts_11 : decode cX1_dropStarts 11 = .ok (.getfield 49, 3) := by decide +kernel
theorem dX1_dropStarts_14 : decode cX1_dropStarts 14 = .ok (.aload_n 0, 1) := by decide +kernel
theorem dX1_dropStarts_15 : decode cX1_dropStarts 15 = .ok (.getfield 9, 3) := by decide +kernel
theorem dX1_dropStarts_18 : decode cX1_dropStarts 18 = .ok (.iload_n 1, 1) := by decide +kernel
theorem dX1_dropStarts_19 : decode cX1_dropStarts 19 = .ok (.iaload, 1) := by decide +kernel
theorem dX1_dropStarts_20 : decode cX1_dropStarts 20 = .ok (.invokevirtual 107, 3) := by decide +kernel
theorem dX1_dropStarts_23 : decode cX1_dropStarts 23 = .ok (.iinc 1 1, 3) := by decide +kernel
theorem dX1_dropStarts_26 : decode cX1_dropStarts 26 = .ok (.goto (-24), 3) := by decide +kernel
theorem dX1_dropStarts_29 : decode cX1_dropStarts 29 = .ok (.return_, 1) := by decide +kernel
theorem dX1_playTime_0 : decode cX1_playTime 0 = .ok (.aload_n 0, 1) := by decide +kernel
theorem dX1_playTime_1 : decode cX1_playTime 1 = .ok (.iload_n 1, 1) := by decide +kernel
theorem dX1_playTime_2 : decode cX1_playTime 2 = .ok (.iload_n 2, 1) := by decide +kernel
theorem dX1_playTime_3 : decode cX1_playTime 3 = .ok (.invokevirtual 110, 3) := by decide +kernel
theorem dX1_playTime_6 : decode cX1_playTime 6 = .ok (.aload_n 0, 1) := by decide +kernel
theorem dX1_playTime_7 : decode cX1_playTime 7 = .ok (.getfield 56, 3) := by decide +kernel
theorem dX1_playTime_10 : decode cX1_playTime 10 = .ok (.iload_n 1, 1) := by decide +kernel
theorem dX1_playTime_11 : decode cX1_playTime 11 = .ok (.iconst 4, 1) := by decide +kernel
theorem dX1_playTime_12 : decode cX1_playTime 12 = .ok (.imul, 1) := by decide +kernel
theorem dX1_playTime_13 : decode cX1_playTime 13 = .ok (.iadd, 1) := by decide +kernel
theorem dX1_playTime_14 : decode cX1_playTime 14 = .ok (.istore_n 3, 1) := by decide +kernel
theorem dX1_playTime_15 : decode cX1_playTime 15 = .ok (.iload_n 1, 1) := by decide +kernel
theorem dX1_playTime_16 : decode cX1_playTime 16 = .ok (.iconst 2, 1) := by decide +kernel
theorem dX1_playTime_17 : decode cX1_playTime 17 = .ok (.if_icmp .ne 13, 3) := by decide +kernel
theorem dX1_playTime_20 : decode cX1_playTime 20 = .ok (.aload_n 0, 1) := by decide +kernel
theorem dX1_playTime_21 : decode cX1_playTime 21 = .ok (.getfield 56, 3) := by decide +kernel
theorem dX1_playTime_24 : decode cX1_playTime 24 = .ok (.bipush 13, 2) := by decide +kernel
theorem dX1_playTime_26 : decode cX1_playTime 26 = .ok (.iadd, 1) := by decide +kernel
theorem dX1_playTime_27 : decode cX1_playTime 27 = .ok (.goto 6, 3) := by decide +kernel
theorem dX1_playTime_30 : decode cX1_playTime 30 = .ok (.iload_n 3, 1) := by decide +kernel
theorem dX1_playTime_31 : decode cX1_playTime 31 = .ok (.iconst 4, 1) := by decide +kernel
theorem dX1_playTime_32 : decode cX1_playTime 32 = .ok (.iadd, 1) := by decide +kernel
theorem dX1_playTime_33 : decode cX1_playTime 33 = .ok (.istore 4, 2) := by decide +kernel
theorem dX1_playTime_35 : decode cX1_playTime 35 = .ok (.aload_n 0, 1) := by decide +kernel
theorem dX1_playTime_36 : decode cX1_playTime 36 = .ok (.getfield 29, 3) := by decide +kernel
theorem dX1_playTime_39 : decode cX1_playTime 39 = .ok (.iload_n 1, 1) := by decide +kernel
theorem dX1_playTime_40 : decode cX1_playTime 40 = .ok (.aaload, 1) := by decide +kernel
theorem dX1_playTime_41 : decode cX1_playTime 41 = .ok (.iload_n 1, 1) := by decide +kernel
theorem dX1_playTime_42 : decode cX1_playTime 42 = .ok (.ifCond .ne 10, 3) := by decide +kernel
theorem dX1_playTime_45 : decode cX1_playTime 45 = .ok (.aload_n 0, 1) := by decide +kernel
theorem dX1_playTime_46 : decode cX1_playTime 46 = .ok (.getfield 18, 3) := by decide +kernel
theorem dX1_playTime_49 : decode cX1_playTime 49 = .ok (.goto 11, 3) := by decide +kernel
theorem dX1_playTime_52 : decode cX1_playTime 52 = .ok (.aload_n 0, 1) := by decide +kernel
theorem dX1_playTime_53 : decode cX1_playTime 53 = .ok (.getfield 29, 3) := by decide +kernel
theorem dX1_playTime_56 : decode cX1_playTime 56 = .ok (.iload_n 1, 1) := by decide +kernel
theorem dX1_playTime_57 : decode cX1_playTime 57 = .ok (.iconst 1, 1) := by decide +kernel
theorem dX1_playTime_58 : decode cX1_playTime 58 = .ok (.isub, 1) := by decide +kernel
theorem dX1_playTime_59 : decode cX1_playTime 59 = .ok (.aaload, 1) := by decide +kernel
theorem dX1_playTime_60 : decode cX1_playTime 60 = .ok (.aload_n 0, 1) := by decide +kernel
theorem dX1_playTime_61 : decode cX1_playTime 61 = .ok (.getfield 45, 3) := by decide +kernel
theorem dX1_playTime_64 : decode cX1_playTime 64 = .ok (.getfield 81, 3) := by decide +kernel
theorem dX1_playTime_67 : decode cX1_playTime 67 = .ok (.invokevirtual 87, 3) := by decide +kernel
theorem dX1_playTime_70 : decode cX1_playTime 70 = .ok (.invokevirtual 93, 3) := by decide +kernel
theorem dX1_playTime_73 : decode cX1_playTime 73 = .ok (.aload_n 0, 1) := by decide +kernel
theorem dX1_playTime_74 : decode cX1_playTime 74 = .ok (.iload_n 1, 1) := by decide +kernel
theorem dX1_playTime_75 : decode cX1_playTime 75 = .ok (.invokevirtual 96, 3) := by decide +kernel
theorem dX1_playTime_78 : decode cX1_playTime 78 = .ok (.iload_n 3, 1) := by decide +kernel
theorem dX1_playTime_79 : decode cX1_playTime 79 = .ok (.istore 5, 2) := by decide +kernel
theorem dX1_playTime_81 : decode cX1_playTime 81 = .ok (.iload 5, 2) := by decide +kernel
theorem dX1_playTime_83 : decode cX1_playTime 83 = .ok (.iload 4, 2) := by decide +kernel
theorem dX1_playTime_85 : decode cX1_playTime 85 = .ok (.if_icmp .ge 24, 3) := by decide +kernel
theorem dX1_playTime_88 : decode cX1_playTime 88 = .ok (.aload_n 0, 1) := by decide +kernel
theorem dX1_playTime_89 : decode cX1_playTime 89 = .ok (.getfield 49, 3) := by decide +kernel
theorem dX1_playTime_92 : decode cX1_playTime 92 = .ok (.aload_n 0, 1) := by decide +kernel
theorem dX1_playTime_93 : decode cX1_playTime 93 = .ok (.getfield 29, 3) := by decide +kernel
theorem dX1_playTime_96 : decode cX1_playTime 96 = .ok (.iload_n 1, 1) := by decide +kernel
theorem dX1_playTime_97 : decode cX1_playTime 97 = .ok (.aaload, 1) := by decide +kernel
theorem dX1_playTime_98 : decode cX1_playTime 98 = .ok (.iload 5, 2) := by decide +kernel
theorem dX1_playTime_100 : decode cX1_playTime 100 = .ok (.invokevirtual 68, 3) := by decide +kernel
theorem dX1_playTime_103 : decode cX1_playTime 103 = .ok (.iinc 5 1, 3) := by decide +kernel
theorem dX1_playTime_106 : decode cX1_playTime 106 = .ok (.goto (-25), 3) := by decide +kernel
theorem dX1_playTime_109 : decode cX1_playTime 109 = .ok (.aload_n 0, 1) := by decide +kernel
theorem dX1_playTime_110 : decode cX1_playTime 110 = .ok (.invokevirtual 100, 3) := by decide +kernel
theorem dX1_playTime_113 : decode cX1_playTime 113 = .ok (.return_, 1) := by decide +kernel
theorem dX1_putTime_0 : decode cX1_putTime 0 = .ok (.iconst 0, 1) := by decide +kernel
theorem dX1_putTime_1 : decode cX1_putTime 1 = .ok (.istore_n 3, 1) := by decide +kernel
theorem dX1_putTime_2 : decode cX1_putTime 2 = .ok (.iload_n 3, 1) := by decide +kernel
theorem dX1_putTime_3 : decode cX1_putTime 3 = .ok (.aload_n 0, 1) := by decide +kernel
theorem dX1_putTime_4 : decode cX1_putTime 4 = .ok (.getfield 53, 3) := by decide +kernel
theorem dX1_putTime_7 : decode cX1_putTime 7 = .ok (.if_icmp .ge 46, 3) := by decide +kernel
theorem dX1_putTime_10 : decode cX1_putTime 10 = .ok (.iload_n 3, 1) := by decide +kernel
theorem dX1_putTime_11 : decode cX1_putTime 11 = .ok (.iload_n 2, 1) := by decide +kernel
theorem dX1_putTime_12 : decode cX1_putTime 12 = .ok (.invokestatic 113, 3) := by decide +kernel
theorem dX1_putTime_15 : decode cX1_putTime 15 = .ok (.ifCond .eq 15, 3) := by decide +kernel
theorem dX1_putTime_18 : decode cX1_putTime 18 = .ok (.aload_n 0, 1) := by decide +kernel
theorem dX1_putTime_19 : decode cX1_putTime 19 = .ok (.getfield 33, 3) := by decide +kernel
theorem dX1_putTime_22 : decode cX1_putTime 22 = .ok (.iload_n 3, 1) := by decide +kernel
theorem dX1_putTime_23 : decode cX1_putTime 23 = .ok (.iload_n 1, 1) := by decide +kernel
theorem dX1_putTime_24 : decode cX1_putTime 24 = .ok (.iconst 1, 1) := by decide +kernel
theorem dX1_putTime_25 : decode cX1_putTime 25 = .ok (.iadd, 1) := by decide +kernel
theorem dX1_putTime_26 : decode cX1_putTime 26 = .ok (.iastore, 1) := by decide +kernel
theorem dX1_putTime_27 : decode cX1_putTime 27 = .ok (.goto 20, 3) := by decide +kernel
theorem dX1_putTime_30 : decode cX1_putTime 30 = .ok (.aload_n 0, 1) := by decide +kernel
theorem dX1_putTime_31 : decode cX1_putTime 31 = .ok (.getfield 33, 3) := by decide +kernel
theorem dX1_putTime_34 : decode cX1_putTime 34 = .ok (.iload_n 3, 1) := by decide +kernel
theorem dX1_putTime_35 : decode cX1_putTime 35 = .ok (.iaload, 1) := by decide +kernel
theorem dX1_putTime_36 : decode cX1_putTime 36 = .ok (.iload_n 1, 1) := by decide +kernel
theorem dX1_putTime_37 : decode cX1_putTime 37 = .ok (.if_icmp .le 10, 3) := by decide +kernel
theorem dX1_putTime_40 : decode cX1_putTime 40 = .ok (.aload_n 0, 1) := by decide +kernel
theorem dX1_putTime_41 : decode cX1_putTime 41 = .ok (.getfield 33, 3) := by decide +kernel
theorem dX1_putTime_44 : decode cX1_putTime 44 = .ok (.iload_n 3, 1) := by decide +kernel
theorem dX1_putTime_45 : decode cX1_putTime 45 = .ok (.iconst 0, 1) := by decide +kernel
theorem dX1_putTime_46 : decode cX1_putTime 46 = .ok (.iastore, 1) := by decide +kernel
theorem dX1_putTime_47 : decode cX1_putTime 47 = .ok (.iinc 3 1, 3) := by decide +kernel
theorem dX1_putTime_50 : decode cX1_putTime 50 = .ok (.goto (-48), 3) := by decide +kernel
theorem dX1_putTime_53 : decode cX1_putTime 53 = .ok (.return_, 1) := by decide +kernel
theorem dX1_isAmong_0 : decode cX1_isAmong 0 = .ok (.iload_n 1, 1) := by decide +kernel
theorem dX1_isAmong_1 : decode cX1_isAmong 1 = .ok (.iload_n 0, 1) := by decide +kernel
theorem dX1_isAmong_2 : decode cX1_isAmong 2 = .ok (.ishr, 1) := by decide +kernel
theorem dX1_isAmong_3 : decode cX1_isAmong 3 = .ok (.iconst 1, 1) := by decide +kernel
theorem dX1_isAmong_4 : decode cX1_isAmong 4 = .ok (.iand, 1) := by decide +kernel
theorem dX1_isAmong_5 : decode cX1_isAmong 5 = .ok (.ifCond .eq 7, 3) := by decide +kernel
theorem dX1_isAmong_8 : decode cX1_isAmong 8 = .ok (.iconst 1, 1) := by decide +kernel
theorem dX1_isAmong_9 : decode cX1_isAmong 9 = .ok (.goto 4, 3) := by decide +kernel
theorem dX1_isAmong_12 : decode cX1_isAmong 12 = .ok (.iconst 0, 1) := by decide +kernel
theorem dX1_isAmong_13 : decode cX1_isAmong 13 = .ok (.ireturn, 1) := by decide +kernel
theorem dX1_roomsOf_0 : decode cX1_roomsOf 0 = .ok (.aload_n 0, 1) := by decide +kernel
theorem dX1_roomsOf_1 : decode cX1_roomsOf 1 = .ok (.getfield 45, 3) := by decide +kernel
theorem dX1_roomsOf_4 : decode cX1_roomsOf 4 = .ok (.getfield 81, 3) := by decide +kernel
theorem dX1_roomsOf_7 : decode cX1_roomsOf 7 = .ok (.aload_n 0, 1) := by decide +kernel
theorem dX1_roomsOf_8 : decode cX1_roomsOf 8 = .ok (.getfield 9, 3) := by decide +kernel
theorem dX1_roomsOf_11 : decode cX1_roomsOf 11 = .ok (.iload_n 1, 1) := by decide +kernel
theorem dX1_roomsOf_12 : decode cX1_roomsOf 12 = .ok (.iaload, 1) := by decide +kernel
theorem dX1_roomsOf_13 : decode cX1_roomsOf 13 = .ok (.iconst 2, 1) := by decide +kernel
theorem dX1_roomsOf_14 : decode cX1_roomsOf 14 = .ok (.invokevirtual 117, 3) := by decide +kernel
theorem dX1_roomsOf_17 : decode cX1_roomsOf 17 = .ok (.ireturn, 1) := by decide +kernel
theorem dX1_roomsOfAll_0 : decode cX1_roomsOfAll 0 = .ok (.iconst 0, 1) := by decide +kernel
theorem dX1_roomsOfAll_1 : decode cX1_roomsOfAll 1 = .ok (.istore_n 2, 1) := by decide +kernel
theorem dX1_roomsOfAll_2 : decode cX1_roomsOfAll 2 = .ok (.iconst 0, 1) := by decide +kernel
theorem dX1_roomsOfAll_3 : decode cX1_roomsOfAll 3 = .ok (.istore_n 3, 1) := by decide +kernel
theorem dX1_roomsOfAll_4 : decode cX1_roomsOfAll 4 = .ok (.iload_n 3, 1) := by decide +kernel
theorem dX1_roomsOfAll_5 : decode cX1_roomsOfAll 5 = .ok (.aload_n 0, 1) := by decide +kernel
theorem dX1_roomsOfAll_6 : decode cX1_roomsOfAll 6 = .ok (.getfield 53, 3) := by decide +kernel
theorem dX1_roomsOfAll_9 : decode cX1_roomsOfAll 9 = .ok (.if_icmp .ge 29, 3) := by decide +kernel
theorem dX1_roomsOfAll_12 : decode cX1_roomsOfAll 12 = .ok (.iload_n 2, 1) := by decide +kernel
theorem dX1_roomsOfAll_13 : decode cX1_roomsOfAll 13 = .ok (.iload_n 3, 1) := by decide +kernel
theorem dX1_roomsOfAll_14 : decode cX1_roomsOfAll 14 = .ok (.iload_n 1, 1) := by decide +kernel
theorem dX1_roomsOfAll_15 : decode cX1_roomsOfAll 15 = .ok (.invokestatic 113, 3) := by decide +kernel
theorem dX1_roomsOfAll_18 : decode cX1_roomsOfAll 18 = .ok (.ifCond .eq 11, 3) := by decide +kernel
theorem dX1_roomsOfAll_21 : decode cX1_roomsOfAll 21 = .ok (.aload_n 0, 1) := by decide +kernel
theorem dX1_roomsOfAll_22 : decode cX1_roomsOfAll 22 = .ok (.iload_n 3, 1) := by decide +kernel
theorem dX1_roomsOfAll_23 : decode cX1_roomsOfAll 23 = .ok (.invokevirtual 121, 3) := by decide +kernel
theorem dX1_roomsOfAll_26 : decode cX1_roomsOfAll 26 = .ok (.goto 4, 3) := by decide +kernel
theorem dX1_roomsOfAll_29 : decode cX1_roomsOfAll 29 = .ok (.iconst 0, 1) := by decide +kernel
theorem dX1_roomsOfAll_30 : decode cX1_roomsOfAll 30 = .ok (.iadd, 1) := by decide +kernel
theorem dX1_roomsOfAll_31 : decode cX1_roomsOfAll 31 = .ok (.istore_n 2, 1) := by decide +kernel
theorem dX1_roomsOfAll_32 : decode cX1_roomsOfAll 32 = .ok (.iinc 3 1, 3) := by decide +kernel
theorem dX1_roomsOfAll_35 : decode cX1_roomsOfAll 35 = .ok (.goto (-31), 3) := by decide +kernel
theorem dX1_roomsOfAll_38 : decode cX1_roomsOfAll 38 = .ok (.iload_n 2, 1) := by decide +kernel
theorem dX1_roomsOfAll_39 : decode cX1_roomsOfAll 39 = .ok (.ireturn, 1) := by decide +kernel
theorem dX1_housedIn_0 : decode cX1_housedIn 0 = .ok (.iconst 0, 1) := by decide +kernel
theorem dX1_housedIn_1 : decode cX1_housedIn 1 = .ok (.istore_n 2, 1) := by decide +kernel
theorem dX1_housedIn_2 : decode cX1_housedIn 2 = .ok (.iconst 0, 1) := by decide +kernel
theorem dX1_housedIn_3 : decode cX1_housedIn 3 = .ok (.istore_n 3, 1) := by decide +kernel
theorem dX1_housedIn_4 : decode cX1_housedIn 4 = .ok (.iload_n 3, 1) := by decide +kernel
theorem dX1_housedIn_5 : decode cX1_housedIn 5 = .ok (.aload_n 0, 1) := by decide +kernel
theorem dX1_housedIn_6 : decode cX1_housedIn 6 = .ok (.getfield 53, 3) := by decide +kernel
theorem dX1_housedIn_9 : decode cX1_housedIn 9 = .ok (.if_icmp .ge 34, 3) := by decide +kernel
theorem dX1_housedIn_12 : decode cX1_housedIn 12 = .ok (.iload_n 2, 1) := by decide +kernel
theorem dX1_housedIn_13 : decode cX1_housedIn 13 = .ok (.aload_n 1, 1) := by decide +kernel
theorem dX1_housedIn_14 : decode cX1_housedIn 14 = .ok (.aload_n 0, 1) := by decide +kernel
theorem dX1_housedIn_15 : decode cX1_housedIn 15 = .ok (.getfield 9, 3) := by decide +kernel
theorem dX1_housedIn_18 : decode cX1_housedIn 18 = .ok (.iload_n 3, 1) := by decide +kernel
theorem dX1_housedIn_19 : decode cX1_housedIn 19 = .ok (.iaload, 1) := by decide +kernel
theorem dX1_housedIn_20 : decode cX1_housedIn 20 = .ok (.invokevirtual 125, 3) := by decide +kernel
theorem dX1_housedIn_23 : decode cX1_housedIn 23 = .ok (.ifCond .eq 11, 3) := by decide +kernel
theorem dX1_housedIn_26 : decode cX1_housedIn 26 = .ok (.aload_n 0, 1) := by decide +kernel
theorem dX1_housedIn_27 : decode cX1_housedIn 27 = .ok (.iload_n 3, 1) := by decide +kernel
theorem dX1_housedIn_28 : decode cX1_housedIn 28 = .ok (.invokevirtual 121, 3) := by decide +kernel
theorem dX1_housedIn_31 : decode cX1_housedIn 31 = .ok (.goto 4, 3) := by decide +kernel
theorem dX1_housedIn_34 : decode cX1_housedIn 34 = .ok (.iconst 0, 1) := by decide +kernel
theorem dX1_housedIn_35 : decode cX1_housedIn 35 = .ok (.iadd, 1) := by decide +kernel
theorem dX1_housedIn_36 : decode cX1_housedIn 36 = .ok (.istore_n 2, 1) := by decide +kernel
theorem dX1_housedIn_37 : decode cX1_housedIn 37 = .ok (.iinc 3 1, 3) := by decide +kernel
theorem dX1_housedIn_40 : decode cX1_housedIn 40 = .ok (.goto (-36), 3) := by decide +kernel
theorem dX1_housedIn_43 : decode cX1_housedIn 43 = .ok (.iload_n 2, 1) := by decide +kernel
theorem dX1_housedIn_44 : decode cX1_housedIn 44 = .ok (.ireturn, 1) := by decide +kernel
theorem dX1_shellsIn_0 : decode cX1_shellsIn 0 = .ok (.iconst 0, 1) := by decide +kernel
theorem dX1_shellsIn_1 : decode cX1_shellsIn 1 = .ok (.istore_n 2, 1) := by decide +kernel
theorem dX1_shellsIn_2 : decode cX1_shellsIn 2 = .ok (.iconst 0, 1) := by decide +kernel
theorem dX1_shellsIn_3 : decode cX1_shellsIn 3 = .ok (.istore_n 3, 1) := by decide +kernel
theorem dX1_shellsIn_4 : decode cX1_shellsIn 4 = .ok (.iload_n 3, 1) := by decide +kernel
theorem dX1_shellsIn_5 : decode cX1_shellsIn 5 = .ok (.aload_n 0, 1) := by decide +kernel
theorem dX1_shellsIn_6 : decode cX1_shellsIn 6 = .ok (.getfield 53, 3) := by decide +kernel
theorem dX1_shellsIn_9 : decode cX1_shellsIn 9 = .ok (.if_icmp .ge 30, 3) := by decide +kernel
theorem dX1_shellsIn_12 : decode cX1_shellsIn 12 = .ok (.iload_n 2, 1) := by decide +kernel
theorem dX1_shellsIn_13 : decode cX1_shellsIn 13 = .ok (.aload_n 1, 1) := by decide +kernel
theorem dX1_shellsIn_14 : decode cX1_shellsIn 14 = .ok (.aload_n 0, 1) := by decide +kernel
theorem dX1_shellsIn_15 : decode cX1_shellsIn 15 = .ok (.getfield 9, 3) := by decide +kernel
theorem dX1_shellsIn_18 : decode cX1_shellsIn 18 = .ok (.iload_n 3, 1) := by decide +kernel
theorem dX1_shellsIn_19 : decode cX1_shellsIn 19 = .ok (.iaload, 1) := by decide +kernel
theorem dX1_shellsIn_20 : decode cX1_shellsIn 20 = .ok (.invokevirtual 129, 3) := by decide +kernel
theorem dX1_shellsIn_23 : decode cX1_shellsIn 23 = .ok (.ifCond .eq 7, 3) := by decide +kernel
theorem dX1_shellsIn_26 : decode cX1_shellsIn 26 = .ok (.iconst 1, 1) := by decide +kernel
theorem dX1_shellsIn_27 : decode cX1_shellsIn 27 = .ok (.goto 4, 3) := by decide +kernel
theorem dX1_shellsIn_30 : decode cX1_shellsIn 30 = .ok (.iconst 0, 1) := by decide +kernel
theorem dX1_shellsIn_31 : decode cX1_shellsIn 31 = .ok (.iadd, 1) := by decide +kernel
theorem dX1_shellsIn_32 : decode cX1_shellsIn 32 = .ok (.istore_n 2, 1) := by decide +kernel
theorem dX1_shellsIn_33 : decode cX1_shellsIn 33 = .ok (.iinc 3 1, 3) := by decide +kernel
theorem dX1_shellsIn_36 : decode cX1_shellsIn 36 = .ok (.goto (-32), 3) := by decide +kernel
theorem dX1_shellsIn_39 : decode cX1_shellsIn 39 = .ok (.iload_n 2, 1) := by decide +kernel
theorem dX1_shellsIn_40 : decode cX1_shellsIn 40 = .ok (.ireturn, 1) := by decide +kernel
theorem dX1_keepIfBetter_0 : decode cX1_keepIfBetter 0 = .ok (.aload_n 0, 1) := by decide +kernel
theorem dX1_keepIfBetter_1 : decode cX1_keepIfBetter 1 = .ok (.aload_n 0, 1) := by decide +kernel
theorem dX1_keepIfBetter_2 : decode cX1_keepIfBetter 2 = .ok (.getfield 29, 3) := by decide +kernel
theorem dX1_keepIfBetter_5 : decode cX1_keepIfBetter 5 = .ok (.iconst 2, 1) := by decide +kernel
theorem dX1_keepIfBetter_6 : decode cX1_keepIfBetter 6 = .ok (.aaload, 1) := by decide +kernel
theorem dX1_keepIfBetter_7 : decode cX1_keepIfBetter 7 = .ok (.invokevirtual 132, 3) := by decide +kernel
theorem dX1_keepIfBetter_10 : decode cX1_keepIfBetter 10 = .ok (.istore_n 1, 1) := by decide +kernel
theorem dX1_keepIfBetter_11 : decode cX1_keepIfBetter 11 = .ok (.aload_n 0, 1) := by decide +kernel
theorem dX1_keepIfBetter_12 : decode cX1_keepIfBetter 12 = .ok (.aload_n 0, 1) := by decide +kernel
theorem dX1_keepIfBetter_13 : decode cX1_keepIfBetter 13 = .ok (.getfield 29, 3) := by decide +kernel
theorem dX1_keepIfBetter_16 : decode cX1_keepIfBetter 16 = .ok (.iconst 2, 1) := by decide +kernel
theorem dX1_keepIfBetter_17 : decode cX1_keepIfBetter 17 = .ok (.aaload, 1) := by decide +kernel
theorem dX1_keepIfBetter_18 : decode cX1_keepIfBetter 18 = .ok (.invokevirtual 136, 3) := by decide +kernel
theorem dX1_keepIfBetter_21 : decode cX1_keepIfBetter 21 = .ok (.istore_n 2, 1) := by decide +kernel
theorem dX1_keepIfBetter_22 : decode cX1_keepIfBetter 22 = .ok (.iload_n 1, 1) := by decide +kernel
theorem dX1_keepIfBetter_23 : decode cX1_keepIfBetter 23 = .ok (.aload_n 0, 1) := by decide +kernel
theorem dX1_keepIfBetter_24 : decode cX1_keepIfBetter 24 = .ok (.getfield 39, 3) := by decide +kernel
theorem dX1_keepIfBetter_27 : decode cX1_keepIfBetter 27 = .ok (.if_icmp .gt 34, 3) := by decide +kernel
theorem dX1_keepIfBetter_30 : decode cX1_keepIfBetter 30 = .ok (.iload_n 1, 1) := by decide +kernel
theorem dX1_keepIfBetter_31 : decode cX1_keepIfBetter 31 = .ok (.aload_n 0, 1) := by decide +kernel
theorem dX1_keepIfBetter_32 : decode cX1_keepIfBetter 32 = .ok (.getfield 39, 3) := by decide +kernel
theorem dX1_keepIfBetter_35 : decode cX1_keepIfBetter 35 = .ok (.if_icmp .ne 51, 3) := by decide +kernel
theorem dX1_keepIfBetter_38 : decode cX1_keepIfBetter 38 = .ok (.iload_n 2, 1) := by decide +kernel
theorem dX1_keepIfBetter_39 : decode cX1_keepIfBetter 39 = .ok (.aload_n 0, 1) := by decide +kernel
theorem dX1_keepIfBetter_40 : decode cX1_keepIfBetter 40 = .ok (.getfield 42, 3) := by decide +kernel
theorem dX1_keepIfBetter_43 : decode cX1_keepIfBetter 43 = .ok (.if_icmp .lt 18, 3) := by decide +kernel
theorem dX1_keepIfBetter_46 : decode cX1_keepIfBetter 46 = .ok (.iload_n 2, 1) := by decide +kernel
theorem dX1_keepIfBetter_47 : decode cX1_keepIfBetter 47 = .ok (.aload_n 0, 1) := by decide +kernel
theorem dX1_keepIfBetter_48 : decode cX1_keepIfBetter 48 = .ok (.getfield 42, 3) := by decide +kernel
theorem dX1_keepIfBetter_51 : decode cX1_keepIfBetter 51 = .ok (.if_icmp .ne 35, 3) := by decide +kernel
theorem dX1_keepIfBetter_54 : decode cX1_keepIfBetter 54 = .ok (.aload_n 0, 1) := by decide +kernel
theorem dX1_keepIfBetter_55 : decode cX1_keepIfBetter 55 = .ok (.invokevirtual 139, 3) := by decide +kernel
theorem dX1_keepIfBetter_58 : decode cX1_keepIfBetter 58 = .ok (.ifCond .eq 28, 3) := by decide +kernel
theorem dX1_keepIfBetter_61 : decode cX1_keepIfBetter 61 = .ok (.aload_n 0, 1) := by decide +kernel
theorem dX1_keepIfBetter_62 : decode cX1_keepIfBetter 62 = .ok (.iload_n 1, 1) := by decide +kernel
theorem dX1_keepIfBetter_63 : decode cX1_keepIfBetter 63 = .ok (.putfield 39, 3) := by decide +kernel
theorem dX1_keepIfBetter_66 : decode cX1_keepIfBetter 66 = .ok (.aload_n 0, 1) := by decide +kernel
theorem dX1_keepIfBetter_67 : decode cX1_keepIfBetter 67 = .ok (.iload_n 2, 1) := by decide +kernel
theorem dX1_keepIfBetter_68 : decode cX1_keepIfBetter 68 = .ok (.putfield 42, 3) := by decide +kernel
theorem dX1_keepIfBetter_71 : decode cX1_keepIfBetter 71 = .ok (.aload_n 0, 1) := by decide +kernel
theorem dX1_keepIfBetter_72 : decode cX1_keepIfBetter 72 = .ok (.getfield 33, 3) := by decide +kernel
theorem dX1_keepIfBetter_75 : decode cX1_keepIfBetter 75 = .ok (.iconst 0, 1) := by decide +kernel
theorem dX1_keepIfBetter_76 : decode cX1_keepIfBetter 76 = .ok (.aload_n 0, 1) := by decide +kernel
theorem dX1_keepIfBetter_77 : decode cX1_keepIfBetter 77 = .ok (.getfield 36, 3) := by decide +kernel
theorem dX1_keepIfBetter_80 : decode cX1_keepIfBetter 80 = .ok (.iconst 0, 1) := by decide +kernel
theorem dX1_keepIfBetter_81 : decode cX1_keepIfBetter 81 = .ok (.bipush 6, 2) := by decide +kernel
theorem dX1_keepIfBetter_83 : decode cX1_keepIfBetter 83 = .ok (.invokestatic 143, 3) := by decide +kernel
theorem dX1_keepIfBetter_86 : decode cX1_keepIfBetter 86 = .ok (.return_, 1) := by decide +kernel
theorem dX1_isRowAhead_0 : decode cX1_isRowAhead 0 = .ok (.iconst 0, 1) := by decide +kernel
theorem dX1_isRowAhead_1 : decode cX1_isRowAhead 1 = .ok (.istore_n 1, 1) := by decide +kernel
theorem dX1_isRowAhead_2 : decode cX1_isRowAhead 2 = .ok (.iload_n 1, 1) := by decide +kernel
theorem dX1_isRowAhead_3 : decode cX1_isRowAhead 3 = .ok (.aload_n 0, 1) := by decide +kernel
theorem dX1_isRowAhead_4 : decode cX1_isRowAhead 4 = .ok (.getfield 53, 3) := by decide +kernel
theorem dX1_isRowAhead_7 : decode cX1_isRowAhead 7 = .ok (.if_icmp .ge 45, 3) := by decide +kernel
theorem dX1_isRowAhead_10 : decode cX1_isRowAhead 10 = .ok (.aload_n 0, 1) := by decide +kernel
theorem dX1_isRowAhead_11 : decode cX1_isRowAhead 11 = .ok (.getfield 33, 3) := by decide +kernel
theorem dX1_isRowAhead_14 : decode cX1_isRowAhead 14 = .ok (.iload_n 1, 1) := by decide +kernel
theorem dX1_isRowAhead_15 : decode cX1_isRowAhead 15 = .ok (.iaload, 1) := by decide +kernel
theorem dX1_isRowAhead_16 : decode cX1_isRowAhead 16 = .ok (.aload_n 0, 1) := by decide +kernel
theorem dX1_isRowAhead_17 : decode cX1_isRowAhead 17 = .ok (.getfield 36, 3) := by decide +kernel
theorem dX1_isRowAhead_20 : decode cX1_isRowAhead 20 = .ok (.iload_n 1, 1) := by decide +kernel
theorem dX1_isRowAhead_21 : decode cX1_isRowAhead 21 = .ok (.iaload, 1) := by decide +kernel
theorem dX1_isRowAhead_22 : decode cX1_isRowAhead 22 = .ok (.if_icmp .eq 24, 3) := by decide +kernel
theorem dX1_isRowAhead_25 : decode cX1_isRowAhead 25 = .ok (.aload_n 0, 1) := by decide +kernel
theorem dX1_isRowAhead_26 : decode cX1_isRowAhead 26 = .ok (.getfield 33, 3) := by decide +kernel
theorem dX1_isRowAhead_29 : decode cX1_isRowAhead 29 = .ok (.iload_n 1, 1) := by decide +kernel
theorem dX1_isRowAhead_30 : decode cX1_isRowAhead 30 = .ok (.iaload, 1) := by decide +kernel
theorem dX1_isRowAhead_31 : decode cX1_isRowAhead 31 = .ok (.aload_n 0, 1) := by decide +kernel
theorem dX1_isRowAhead_32 : decode cX1_isRowAhead 32 = .ok (.getfield 36, 3) := by decide +kernel
theorem dX1_isRowAhead_35 : decode cX1_isRowAhead 35 = .ok (.iload_n 1, 1) := by decide +kernel
theorem dX1_isRowAhead_36 : decode cX1_isRowAhead 36 = .ok (.iaload, 1) := by decide +kernel
theorem dX1_isRowAhead_37 : decode cX1_isRowAhead 37 = .ok (.if_icmp .ge 7, 3) := by decide +kernel
theorem dX1_isRowAhead_40 : decode cX1_isRowAhead 40 = .ok (.iconst 1, 1) := by decide +kernel
theorem dX1_isRowAhead_41 : decode cX1_isRowAhead 41 = .ok (.goto 4, 3) := by decide +kernel
theorem dX1_isRowAhead_44 : decode cX1_isRowAhead 44 = .ok (.iconst 0, 1) := by decide +kernel
theorem dX1_isRowAhead_45 : decode cX1_isRowAhead 45 = .ok (.ireturn, 1) := by decide +kernel
theorem dX1_isRowAhead_46 : decode cX1_isRowAhead 46 = .ok (.iinc 1 1, 3) := by decide +kernel
theorem dX1_isRowAhead_49 : decode cX1_isRowAhead 49 = .ok (.goto (-47), 3) := by decide +kernel
theorem dX1_isRowAhead_52 : decode cX1_isRowAhead 52 = .ok (.iconst 0, 1) := by decide +kernel
theorem dX1_isRowAhead_53 : decode cX1_isRowAhead 53 = .ok (.ireturn, 1) := by decide +kernel
theorem dX2_init_0 : decode cX2_init 0 = .ok (.aload_n 0, 1) := by decide +kernel
theorem dX2_init_1 : decode cX2_init 1 = .ok (.invokespecial 3, 3) := by decide +kernel
theorem dX2_init_4 : decode cX2_init 4 = .ok (.aload_n 0, 1) := by decide +kernel
theorem dX2_init_5 : decode cX2_init 5 = .ok (.bipush 30, 2) := by decide +kernel
theorem dX2_init_7 : decode cX2_init 7 = .ok (.newarray .int, 2) := by decide +kernel
theorem dX2_init_9 : decode cX2_init 9 = .ok (.putfield 9, 3) := by decide +kernel
theorem dX2_init_12 : decode cX2_init 12 = .ok (.aload_n 0, 1) := by decide +kernel
theorem dX2_init_13 : decode cX2_init 13 = .ok (.bipush 30, 2) := by decide +kernel
theorem dX2_init_15 : decode cX2_init 15 = .ok (.newarray .int, 2) := by decide +kernel
theorem dX2_init_17 : decode cX2_init 17 = .ok (.putfield 15, 3) := by decide +kernel
theorem dX2_init_20 : decode cX2_init 20 = .ok (.aload_n 0, 1) := by decide +kernel
theorem dX2_init_21 : decode cX2_init 21 = .ok (.bipush 60, 2) := by decide +kernel
theorem dX2_init_23 : decode cX2_init 23 = .ok (.newarray .int, 2) := by decide +kernel
theorem dX2_init_25 : decode cX2_init 25 = .ok (.putfield 18, 3) := by decide +kernel
theorem dX2_init_28 : decode cX2_init 28 = .ok (.aload_n 0, 1) := by decide +kernel
theorem dX2_init_29 : decode cX2_init 29 = .ok (.bipush 60, 2) := by decide +kernel
theorem dX2_init_31 : decode cX2_init 31 = .ok (.newarray .int, 2) := by decide +kernel
theorem dX2_init_33 : decode cX2_init 33 = .ok (.putfield 21, 3) := by decide +kernel
theorem dX2_init_36 : decode cX2_init 36 = .ok (.aload_n 0, 1) := by decide +kernel
theorem dX2_init_37 : decode cX2_init 37 = .ok (.aload_n 1, 1) := by decide +kernel
theorem dX2_init_38 : decode cX2_init 38 = .ok (.putfield 24, 3) := by decide +kernel
theorem dX2_init_41 : decode cX2_init 41 = .ok (.aload_n 0, 1) := by decide +kernel
theorem dX2_init_42 : decode cX2_init 42 = .ok (.aload_n 2, 1) := by decide +kernel
theorem dX2_init_43 : decode cX2_init 43 = .ok (.putfield 28, 3) := by decide +kernel
theorem dX2_init_46 : decode cX2_init 46 = .ok (.aload_n 0, 1) := by decide +kernel
theorem dX2_init_47 : decode cX2_init 47 = .ok (.aload_n 3, 1) := by decide +kernel
theorem dX2_init_48 : decode cX2_init 48 = .ok (.putfield 32, 3) := by decide +kernel
theorem dX2_init_51 : decode cX2_init 51 = .ok (.return_, 1) := by decide +kernel
theorem dX2_endOf_0 : decode cX2_endOf 0 = .ok (.aload_n 0, 1) := by decide +kernel
theorem dX2_endOf_1 : decode cX2_endOf 1 = .ok (.getfield 24, 3) := by decide +kernel
theorem dX2_endOf_4 : decode cX2_endOf 4 = .ok (.getfield 36, 3) := by decide +kernel
theorem dX2_endOf_7 : decode cX2_endOf 7 = .ok (.iload_n 1, 1) := by decide +kernel
theorem dX2_endOf_8 : decode cX2_endOf 8 = .ok (.iconst 1, 1) := by decide +kernel
theorem dX2_endOf_9 : decode cX2_endOf 9 = .ok (.invokevirtual 42, 3) := by decide +kernel
theorem dX2_endOf_12 : decode cX2_endOf 12 = .ok (.iconst 2, 1) := by decide +kernel
theorem dX2_endOf_13 : decode cX2_endOf 13 = .ok (.if_icmp .eq 6, 3) := by decide +kernel
theorem dX2_endOf_16 : decode cX2_endOf 16 = .ok (.ldc 48, 2) := by decide +kernel
theorem dX2_endOf_18 : decode cX2_endOf 18 = .ok (.ireturn, 1) := by decide +kernel
theorem dX2_endOf_19 : decode cX2_endOf 19 = .ok (.aload_n 2, 1) := by decide +kernel
theorem dX2_endOf_20 : decode cX2_endOf 20 = .ok (.iload_n 1, 1) := by decide +kernel
theorem dX2_endOf_21 : decode cX2_endOf 21 = .ok (.invokevirtual 49, 3) := by decide +kernel
theorem dX2_endOf_24 : decode cX2_endOf 24 = .ok (.istore 4, 2) := by decide +kernel
theorem dX2_endOf_26 : decode cX2_endOf 26 = .ok (.aload_n 0, 1) := by decide +kernel
theorem dX2_endOf_27 : decode cX2_endOf 27 = .ok (.getfield 28, 3) := by decide +kernel
theorem dX2_endOf_30 : decode cX2_endOf 30 = .ok (.iload 4, 2) := by decide +kernel
theorem dX2_endOf_32 : decode cX2_endOf 32 = .ok (.iload_n 3, 1) := by decide +kernel
theorem dX2_endOf_33 : decode cX2_endOf 33 = .ok (.invokevirtual 55, 3) := by decide +kernel
theorem dX2_endOf_36 : decode cX2_endOf 36 = .ok (.aload_n 0, 1) := by decide +kernel
theorem dX2_endOf_37 : decode cX2_endOf 37 = .ok (.getfield 28, 3) := by decide +kernel
theorem dX2_endOf_40 : decode cX2_endOf 40 = .ok (.iconst 0, 1) := by decide +kernel
theorem dX2_endOf_41 : decode cX2_endOf 41 = .ok (.iload 4, 2) := by decide +kernel
theorem dX2_endOf_43 : decode cX2_endOf 43 = .ok (.invokevirtual 61, 3) := by decide +kernel
theorem dX2_endOf_46 : decode cX2_endOf 46 = .ok (.aload_n 0, 1) := by decide +kernel
theorem dX2_endOf_47 : decode cX2_endOf 47 = .ok (.getfield 28, 3) := by decide +kernel
theorem dX2_endOf_50 : decode cX2_endOf 50 = .ok (.bipush 59, 2) := by decide +kernel
theorem dX2_endOf_52 : decode cX2_endOf 52 = .ok (.invokevirtual 64, 3) := by decide +kernel
theorem dX2_endOf_55 : decode cX2_endOf 55 = .ok (.istore 5, 2) := by decide +kernel
theorem dX2_endOf_57 : decode cX2_endOf 57 = .ok (.iload 5, 2) := by decide +kernel
theorem dX2_endOf_59 : decode cX2_endOf 59 = .ok (.iconst (-1), 1) := by decide +kernel
theorem dX2_endOf_60 : decode cX2_endOf 60 = .ok (.if_icmp .ne 8, 3) := by decide +kernel
theorem dX2_endOf_63 : decode cX2_endOf 63 = .ok (.ldc 48, 2) := by decide +kernel
theorem dX2_endOf_65 : decode cX2_endOf 65 = .ok (.goto 8, 3) := by decide +kernel
theorem dX2_endOf_68 : decode cX2_endOf 68 = .ok (.iload 4, 2) := by decide +kernel
theorem dX2_endOf_70 : decode cX2_endOf 70 = .ok (.iload 5, 2) := by decide +kernel
theorem dX2_endOf_72 : decode cX2_endOf 72 = .ok (.iadd, 1) := by decide +kernel
theorem dX2_endOf_73 : decode cX2_endOf 73 = .ok (.ireturn, 1) := by decide +kernel
theorem dX2_isLived_0 : decode cX2_isLived 0 = .ok (.aload_n 0, 1) := by decide +kernel
theorem dX2_isLived_1 : decode cX2_isLived 1 = .ok (.getfield 24, 3) := by decide +kernel
theorem dX2_isLived_4 : decode cX2_isLived 4 = .ok (.getfield 67, 3) := by decide +kernel
theorem dX2_isLived_7 : decode cX2_isLived 7 = .ok (.iload_n 1, 1) := by decide +kernel
theorem dX2_isLived_8 : decode cX2_isLived 8 = .ok (.iconst 3, 1) := by decide +kernel
theorem dX2_isLived_9 : decode cX2_isLived 9 = .ok (.invokevirtual 42, 3) := by decide +kernel
theorem dX2_isLived_12 : decode cX2_isLived 12 = .ok (.iload_n 2, 1) := by decide +kernel
theorem dX2_isLived_13 : decode cX2_isLived 13 = .ok (.if_icmp .gt 7, 3) := by decide +kernel
theorem dX2_isLived_16 : decode cX2_isLived 16 = .ok (.iconst 1, 1) := by decide +kernel
theorem dX2_isLived_17 : decode cX2_isLived 17 = .ok (.goto 4, 3) := by decide +kernel
theorem dX2_isLived_20 : decode cX2_isLived 20 = .ok (.iconst 0, 1) := by decide +kernel
theorem dX2_isLived_21 : decode cX2_isLived 21 = .ok (.ireturn, 1) := by decide +kernel
theorem dX2_stayIn_0 : decode cX2_stayIn 0 = .ok (.iconst 0, 1) := by decide +kernel
theorem dX2_stayIn_1 : decode cX2_stayIn 1 = .ok (.istore_n 3, 1) := by decide +kernel
theorem dX2_stayIn_2 : decode cX2_stayIn 2 = .ok (.iload_n 3, 1) := by decide +kernel
theorem dX2_stayIn_3 : decode cX2_stayIn 3 = .ok (.aload_n 0, 1) := by decide +kernel
theorem dX2_stayIn_4 : decode cX2_stayIn 4 = .ok (.getfield 24, 3) := by decide +kernel
theorem dX2_stayIn_7 : decode cX2_stayIn 7 = .ok (.getfield 67, 3) := by decide +kernel
theorem dX2_stayIn_10 : decode cX2_stayIn 10 = .ok (.invokevirtual 70, 3) := by decide +kernel
theorem dX2_stayIn_13 : decode cX2_stayIn 13 = .ok (.if_icmp .ge 75, 3) := by decide +kernel
theorem dX2_stayIn_16 : decode cX2_stayIn 16 = .ok (.aload_n 0, 1) := by decide +kernel
theorem dX2_stayIn_17 : decode cX2_stayIn 17 = .ok (.getfield 24, 3) := by decide +kernel
theorem dX2_stayIn_20 : decode cX2_stayIn 20 = .ok (.getfield 67, 3) := by decide +kernel
theorem dX2_stayIn_23 : decode cX2_stayIn 23 = .ok (.iload_n 3, 1) := by decide +kernel
theorem dX2_stayIn_24 : decode cX2_stayIn 24 = .ok (.iconst 0, 1) := by decide +kernel
theorem dX2_stayIn_25 : decode cX2_stayIn 25 = .ok (.invokevirtual 42, 3) := by decide +kernel
theorem dX2_stayIn_28 : decode cX2_stayIn 28 = .ok (.iload_n 1, 1) := by decide +kernel
theorem dX2_stayIn_29 : decode cX2_stayIn 29 = .ok (.if_icmp .ne 53, 3) := by decide +kernel
theorem dX2_stayIn_32 : decode cX2_stayIn 32 = .ok (.aload_n 0, 1) := by decide +kernel
theorem dX2_stayIn_33 : decode cX2_stayIn 33 = .ok (.getfield 24, 3) := by decide +kernel
theorem dX2_stayIn_36 : decode cX2_stayIn 36 = .ok (.getfield 67, 3) := by decide +kernel
theorem dX2_stayIn_39 : decode cX2_stayIn 39 = .ok (.iload_n 3, 1) := by decide +kernel
theorem dX2_stayIn_40 : decode cX2_stayIn 40 = .ok (.iconst 2, 1) := by decide +kernel
theorem dX2_stayIn_41 : decode cX2_stayIn 41 = .ok (.invokevirtual 42, 3) := by decide +kernel
theorem dX2_stayIn_44 : decode cX2_stayIn 44 = .ok (.iload_n 2, 1) := by decide +kernel
theorem dX2_stayIn_45 : decode cX2_stayIn 45 = .ok (.if_icmp .gt 37, 3) := by decide +kernel
theorem dX2_stayIn_48 : decode cX2_stayIn 48 = .ok (.aload_n 0, 1) := by decide +kernel
theorem dX2_stayIn_49 : decode cX2_stayIn 49 = .ok (.getfield 24, 3) := by decide +kernel
theorem dX2_stayIn_52 : decode cX2_stayIn 52 = .ok (.getfield 67, 3) := by decide +kernel
theorem dX2_stayIn_55 : decode cX2_stayIn 55 = .ok (.iload_n 3, 1) := by decide +kernel
theorem dX2_stayIn_56 : decode cX2_stayIn 56 = .ok (.iconst 4, 1) := by decide +kernel
theorem dX2_stayIn_57 : decode cX2_stayIn 57 = .ok (.invokevirtual 42, 3) := by decide +kernel
theorem dX2_stayIn_60 : decode cX2_stayIn 60 = .ok (.iload_n 2, 1) := by decide +kernel
theorem dX2_stayIn_61 : decode cX2_stayIn 61 = .ok (.if_icmp .le 21, 3) := by decide +kernel
theorem dX2_stayIn_64 : decode cX2_stayIn 64 = .ok (.aload_n 0, 1) := by decide +kernel
theorem dX2_stayIn_65 : decode cX2_stayIn 65 = .ok (.getfield 24, 3) := by decide +kernel
theorem dX2_stayIn_68 : decode cX2_stayIn 68 = .ok (.getfield 67, 3) := by decide +kernel
theorem dX2_stayIn_71 : decode cX2_stayIn 71 = .ok (.iload_n 3, 1) := by decide +kernel
theorem dX2_stayIn_72 : decode cX2_stayIn 72 = .ok (.iconst 5, 1) := by decide +kernel
theorem dX2_stayIn_73 : decode cX2_stayIn 73 = .ok (.invokevirtual 42, 3) := by decide +kernel
theorem dX2_stayIn_76 : decode cX2_stayIn 76 = .ok (.iload_n 2, 1) := by decide +kernel
theorem dX2_stayIn_77 : decode cX2_stayIn 77 = .ok (.if_icmp .le 5, 3) := by decide +kernel
theorem dX2_stayIn_80 : decode cX2_stayIn 80 = .ok (.iload_n 3, 1) := by decide +kernel
theorem dX2_stayIn_81 : decode cX2_stayIn 81 = .ok (.ireturn, 1) := by decide +kernel
theorem dX2_stayIn_82 : decode cX2_stayIn 82 = .ok (.iinc 3 1, 3) := by decide +kernel
theorem dX2_stayIn_85 : decode cX2_stayIn 85 = .ok (.goto (-83), 3) := by decide +kernel
theorem dX2_stayIn_88 : decode cX2_stayIn 88 = .ok (.iconst (-1), 1) := by decide +kernel
theorem dX2_stayIn_89 : decode cX2_stayIn 89 = .ok (.ireturn, 1) := by decide +kernel
theorem dX2_livedStay_0 : decode cX2_livedStay 0 = .ok (.aload_n 0, 1) := by decide +kernel
theorem dX2_livedStay_1 : decode cX2_livedStay 1 = .ok (.iload_n 1, 1) := by decide +kernel
theorem dX2_livedStay_2 : decode cX2_livedStay 2 = .ok (.iload_n 2, 1) := by decide +kernel
theorem dX2_livedStay_3 : decode cX2_livedStay 3 = .ok (.invokevirtual 74, 3) := by decide +kernel
theorem dX2_livedStay_6 : decode cX2_livedStay 6 = .ok (.istore_n 3, 1) := by decide +kernel
theorem dX2_livedStay_7 : decode cX2_livedStay 7 = .ok (.iload_n 3, 1) := by decide +kernel
theorem dX2_livedStay_8 : decode cX2_livedStay 8 = .ok (.iconst (-1), 1) := by decide +kernel
theorem dX2_livedStay_9 : decode cX2_livedStay 9 = .ok (.if_icmp .eq 16, 3) := by decide +kernel
theorem dX2_livedStay_12 : decode cX2_livedStay 12 = .ok (.aload_n 0, 1) := by decide +kernel
theorem dX2_livedStay_13 : decode cX2_livedStay 13 = .ok (.iload_n 3, 1) := by decide +kernel
theorem dX2_livedStay_14 : decode cX2_livedStay 14 = .ok (.iload_n 2, 1) := by decide +kernel
theorem dX2_livedStay_15 : decode cX2_livedStay 15 = .ok (.invokevirtual 77, 3) := by decide +kernel
theorem dX2_livedStay_18 : decode cX2_livedStay 18 = .ok (.ifCond .eq 7, 3) := by decide +kernel
theorem dX2_livedStay_21 : decode cX2_livedStay 21 = .ok (.iload_n 3, 1) := by decide +kernel
theorem dX2_livedStay_22 : decode cX2_livedStay 22 = .ok (.goto 4, 3) := by decide +kernel
theorem dX2_livedStay_25 : decode cX2_livedStay 25 = .ok (.iconst (-1), 1) := by decide +kernel
theorem dX2_livedStay_26 : decode cX2_livedStay 26 = .ok (.ireturn, 1) := by decide +kernel
theorem dX2_roofOf_0 : decode cX2_roofOf 0 = .ok (.iconst 0, 1) := by decide +kernel
theorem dX2_roofOf_1 : decode cX2_roofOf 1 = .ok (.istore_n 3, 1) := by decide +kernel
theorem dX2_roofOf_2 : decode cX2_roofOf 2 = .ok (.iload_n 3, 1) := by decide +kernel
theorem dX2_roofOf_3 : decode cX2_roofOf 3 = .ok (.aload_n 0, 1) := by decide +kernel
theorem dX2_roofOf_4 : decode cX2_roofOf 4 = .ok (.getfield 24, 3) := by decide +kernel
theorem dX2_roofOf_7 : decode cX2_roofOf 7 = .ok (.getfield 36, 3) := by decide +kernel
theorem dX2_roofOf_10 : decode cX2_roofOf 10 = .ok (.invokevirtual 70, 3) := by decide +kernel
theorem dX2_roofOf_13 : decode cX2_roofOf 13 = .ok (.if_icmp .ge 50, 3) := by decide +kernel
theorem dX2_roofOf_16 : decode cX2_roofOf 16 = .ok (.aload_n 0, 1) := by decide +kernel
theorem dX2_roofOf_17 : decode cX2_roofOf 17 = .ok (.iload_n 3, 1) := by decide +kernel
theorem dX2_roofOf_18 : decode cX2_roofOf 18 = .ok (.iload_n 2, 1) := by decide +kernel
theorem dX2_roofOf_19 : decode cX2_roofOf 19 = .ok (.invokevirtual 81, 3) := by decide +kernel
theorem dX2_roofOf_22 : decode cX2_roofOf 22 = .ok (.istore 4, 2) := by decide +kernel
theorem dX2_roofOf_24 : decode cX2_roofOf 24 = .ok (.iload 4, 2) := by decide +kernel
theorem dX2_roofOf_26 : decode cX2_roofOf 26 = .ok (.iconst (-1), 1) := by decide +kernel
theorem dX2_roofOf_27 : decode cX2_roofOf 27 = .ok (.if_icmp .eq 30, 3) := by decide +kernel
theorem dX2_roofOf_30 : decode cX2_roofOf 30 = .ok (.aload_n 0, 1) := by decide +kernel
theorem dX2_roofOf_31 : decode cX2_roofOf 31 = .ok (.getfield 32, 3) := by decide +kernel
theorem dX2_roofOf_34 : decode cX2_roofOf 34 = .ok (.getfield 84, 3) := by decide +kernel
theorem dX2_roofOf_37 : decode cX2_roofOf 37 = .ok (.aload_n 0, 1) := by decide +kernel
theorem dX2_roofOf_38 : decode cX2_roofOf 38 = .ok (.getfield 24, 3) := by decide +kernel
theorem dX2_roofOf_41 : decode cX2_roofOf 41 = .ok (.getfield 67, 3) := by decide +kernel
theorem dX2_roofOf_44 : decode cX2_roofOf 44 = .ok (.iload 4, 2) := by decide +kernel
theorem dX2_roofOf_46 : decode cX2_roofOf 46 = .ok (.iconst 1, 1) := by decide +kernel
theorem dX2_roofOf_47 : decode cX2_roofOf 47 = .ok (.invokevirtual 42, 3) := by decide +kernel
theorem dX2_roofOf_50 : decode cX2_roofOf 50 = .ok (.iaload, 1) := by decide +kernel
theorem dX2_roofOf_51 : decode cX2_roofOf 51 = .ok (.iload_n 1, 1) := by decide +kernel
theorem dX2_roofOf_52 : decode cX2_roofOf 52 = .ok (.if_icmp .ne 5, 3) := by decide +kernel
theorem dX2_roofOf_55 : decode cX2_roofOf 55 = .ok (.iload_n 3, 1) := by decide +kernel
theorem dX2_roofOf_56 : decode cX2_roofOf 56 = .ok (.ireturn, 1) := by decide +kernel
theorem dX2_roofOf_57 : decode cX2_roofOf 57 = .ok (.iinc 3 1, 3) := by decide +kernel
theorem dX2_roofOf_60 : decode cX2_roofOf 60 = .ok (.goto (-58), 3) := by decide +kernel
theorem dX2_roofOf_63 : decode cX2_roofOf 63 = .ok (.iconst (-1), 1) := by decide +kernel
theorem dX2_roofOf_64 : decode cX2_roofOf 64 = .ok (.ireturn, 1) := by decide +kernel
theorem dX2_lookRound_0 : decode cX2_lookRound 0 = .ok (.iconst 0, 1) := by decide +kernel
theorem dX2_lookRound_1 : decode cX2_lookRound 1 = .ok (.istore_n 3, 1) := by decide +kernel
theorem dX2_lookRound_2 : decode cX2_lookRound 2 = .ok (.iload_n 3, 1) := by decide +kernel
theorem dX2_lookRound_3 : decode cX2_lookRound 3 = .ok (.aload_n 0, 1) := by decide +kernel
theorem dX2_lookRound_4 : decode cX2_lookRound 4 = .ok (.getfield 24, 3) := by decide +kernel
theorem dX2_lookRound_7 : decode cX2_lookRound 7 = .ok (.getfield 36, 3) := by decide +kernel
theorem dX2_lookRound_10 : decode cX2_lookRound 10 = .ok (.invokevirtual 70, 3) := by decide +kernel
theorem dX2_lookRound_13 : decode cX2_lookRound 13 = .ok (.if_icmp .ge 61, 3) := by decide +kernel
theorem dX2_lookRound_16 : decode cX2_lookRound 16 = .ok (.aload_n 2, 1) := by decide +kernel
theorem dX2_lookRound_17 : decode cX2_lookRound 17 = .ok (.iload_n 3, 1) := by decide +kernel
theorem dX2_lookRound_18 : decode cX2_lookRound 18 = .ok (.iload_n 1, 1) := by decide +kernel
theorem dX2_lookRound_19 : decode cX2_lookRound 19 = .ok (.invokevirtual 89, 3) := by decide +kernel
theorem dX2_lookRound_22 : decode cX2_lookRound 22 = .ok (.ifCond .eq 13, 3) := by decide +kernel
theorem dX2_lookRound_25 : decode cX2_lookRound 25 = .ok (.aload_n 0, 1) := by decide +kernel
theorem dX2_lookRound_26 : decode cX2_lookRound 26 = .ok (.iload_n 3, 1) := by decide +kernel
theorem dX2_lookRound_27 : decode cX2_lookRound 27 = .ok (.aload_n 2, 1) := by decide +kernel
theorem dX2_lookRound_28 : decode cX2_lookRound 28 = .ok (.iload_n 1, 1) := by decide +kernel
theorem dX2_lookRound_29 : decode cX2_lookRound 29 = .ok (.invokevirtual 92, 3) := by decide +kernel
theorem dX2_lookRound_32 : decode cX2_lookRound 32 = .ok (.goto 4, 3) := by decide +kernel
theorem dX2_lookRound_35 : decode cX2_lookRound 35 = .ok (.iconst 0, 1) := by decide +kernel
theorem dX2_lookRound_36 : decode cX2_lookRound 36 = .ok (.istore 4, 2) := by decide +kernel
theorem dX2_lookRound_38 : decode cX2_lookRound 38 = .ok (.aload_n 0, 1) := by decide +kernel
theorem dX2_lookRound_39 : decode cX2_lookRound 39 = .ok (.getfield 9, 3) := by decide +kernel
theorem dX2_lookRound_42 : decode cX2_lookRound 42 = .ok (.iload_n 3, 1) := by decide +kernel
theorem dX2_lookRound_43 : decode cX2_lookRound 43 = .ok (.iload 4, 2) := by decide +kernel
theorem dX2_lookRound_45 : decode cX2_lookRound 45 = .ok (.iload_n 1, 1) := by decide +kernel
theorem dX2_lookRound_46 : decode cX2_lookRound 46 = .ok (.if_icmp .le 8, 3) := by decide +kernel
theorem dX2_lookRound_49 : decode cX2_lookRound 49 = .ok (.iload 4, 2) := by decide +kernel
theorem dX2_lookRound_51 : decode cX2_lookRound 51 = .ok (.goto 4, 3) := by decide +kernel
theorem dX2_lookRound_54 : decode cX2_lookRound 54 = .ok (.iconst 0, 1) := by decide +kernel
theorem dX2_lookRound_55 : decode cX2_lookRound 55 = .ok (.iastore, 1) := by decide +kernel
theorem dX2_lookRound_56 : decode cX2_lookRound 56 = .ok (.aload_n 0, 1) := by decide +kernel
theorem dX2_lookRound_57 : decode cX2_lookRound 57 = .ok (.getfield 15, 3) := by decide +kernel
theorem dX2_lookRound_60 : decode cX2_lookRound 60 = .ok (.iload_n 3, 1) := by decide +kernel
theorem dX2_lookRound_61 : decode cX2_lookRound 61 = .ok (.aload_n 0, 1) := by decide +kernel
theorem dX2_lookRound_62 : decode cX2_lookRound 62 = .ok (.iload_n 3, 1) := by decide +kernel
theorem dX2_lookRound_63 : decode cX2_lookRound 63 = .ok (.iload_n 1, 1) := by decide +kernel
theorem dX2_lookRound_64 : decode cX2_lookRound 64 = .ok (.invokevirtual 74, 3) := by decide +kernel
theorem dX2_lookRound_67 : decode cX2_lookRound 67 = .ok (.iastore, 1) := by decide +kernel
theorem dX2_lookRound_68 : decode cX2_lookRound 68 = .ok (.iinc 3 1, 3) := by decide +kernel
theorem dX2_lookRound_71 : decode cX2_lookRound 71 = .ok (.goto (-69), 3) := by decide +kernel
theorem dX2_lookRound_74 : decode cX2_lookRound 74 = .ok (.aload_n 0, 1) := by decide +kernel
theorem dX2_lookRound_75 : decode cX2_lookRound 75 = .ok (.iload_n 1, 1) := by decide +kernel
theorem dX2_lookRound_76 : decode cX2_lookRound 76 = .ok (.invokevirtual 96, 3) := by decide +kernel
theorem dX2_lookRound_79 : decode cX2_lookRound 79 = .ok (.return_, 1) := by decide +kernel
theorem dX2_findRoofs_0 : decode cX2_findRoofs 0 = .ok (.aload_n 0, 1) := by decide +kernel
theorem dX2_findRoofs_1 : decode cX2_findRoofs 1 = .ok (.getfield 18, 3) := by decide +kernel
theorem dX2_findRoofs_4 : decode cX2_findRoofs 4 = .ok (.iconst (-1), 1) := by decide +kernel
theorem dX2_findRoofs_5 : decode cX2_findRoofs 5 = .ok (.invokestatic 100, 3) := by decide +kernel
theorem dX2_findRoofs_8 : decode cX2_findRoofs 8 = .ok (.aload_n 0, 1) := by decide +kernel
theorem dX2_findRoofs_9 : decode cX2_findRoofs 9 = .ok (.getfield 21, 3) := by decide +kernel
theorem dX2_findRoofs_12 : decode cX2_findRoofs 12 = .ok (.iconst (-1), 1) := by decide +kernel
theorem dX2_findRoofs_13 : decode cX2_findRoofs 13 = .ok (.invokestatic 100, 3) := by decide +kernel
theorem dX2_findRoofs_16 : decode cX2_findRoofs 16 = .ok (.aload_n 0, 1) := by decide +kernel
theorem dX2_findRoofs_17 : decode cX2_findRoofs 17 = .ok (.getfield 24, 3) := by decide +kernel
theorem dX2_findRoofs_20 : decode cX2_findRoofs 20 = .ok (.getfield 36, 3) := by decide +kernel
theorem dX2_findRoofs_23 : decode cX2_findRoofs 23 = .ok (.invokevirtual 70, 3) := by decide +kernel
theorem dX2_findRoofs_26 : decode cX2_findRoofs 26 = .ok (.iconst 1, 1) := by decide +kernel
theorem dX2_findRoofs_27 : decode cX2_findRoofs 27 = .ok (.isub, 1) := by decide +kernel
theorem dX2_findRoofs_28 : decode cX2_findRoofs 28 = .ok (.istore_n 2, 1) := by decide +kernel
theorem dX2_findRoofs_29 : decode cX2_findRoofs 29 = .ok (.iload_n 2, 1) := by decide +kernel
theorem dX2_findRoofs_30 : decode cX2_findRoofs 30 = .ok (.ifCond .lt 85, 3) := by decide +kernel
theorem dX2_findRoofs_33 : decode cX2_findRoofs 33 = .ok (.aload_n 0, 1) := by decide +kernel
theorem dX2_findRoofs_34 : decode cX2_findRoofs 34 = .ok (.getfield 15, 3) := by decide +kernel
theorem dX2_findRoofs_37 : decode cX2_findRoofs 37 = .ok (.iload_n 2, 1) := by decide +kernel
theorem dX2_findRoofs_38 : decode cX2_findRoofs 38 = .ok (.iaload, 1) := by decide +kernel
theorem dX2_findRoofs_39 : decode cX2_findRoofs 39 = .ok (.iconst (-1), 1) := by decide +kernel
theorem dX2_findRoofs_40 : decode cX2_findRoofs 40 = .ok (.if_icmp .ne 7, 3) := by decide +kernel
theorem dX2_findRoofs_43 : decode cX2_findRoofs 43 = .ok (.iconst (-1), 1) := by decide +kernel
theorem dX2_findRoofs_44 : decode cX2_findRoofs 44 = .ok (.goto 28, 3) := by decide +kernel
theorem dX2_findRoofs_47 : decode cX2_findRoofs 47 = .ok (.aload_n 0, 1) := by decide +kernel
theorem dX2_findRoofs_48 : decode cX2_findRoofs 48 = .ok (.getfield 32, 3) := by decide +kernel
theorem dX2_findRoofs_51 : decode cX2_findRoofs 51 = .ok (.getfield 84, 3) := by decide +kernel
theorem dX2_findRoofs_54 : decode cX2_findRoofs 54 = .ok (.aload_n 0, 1) := by decide +kernel
theorem dX2_findRoofs_55 : decode cX2_findRoofs 55 = .ok (.getfield 24, 3) := by decide +kernel
theorem dX2_findRoofs_58 : decode cX2_findRoofs 58 = .ok (.getfield 67, 3) := by decide +kernel
theorem dX2_findRoofs_61 : decode cX2_findRoofs 61 = .ok (.aload_n 0, 1) := by decide +kernel
theorem dX2_findRoofs_62 : decode cX2_findRoofs 62 = .ok (.getfield 15, 3) := by decide +kernel
theorem dX2_findRoofs_65 : decode cX2_findRoofs 65 = .ok (.iload_n 2, 1) := by decide +kernel
theorem dX2_findRoofs_66 : decode cX2_findRoofs 66 = .ok (.iaload, 1) := by decide +kernel
theorem dX2_findRoofs_67 : decode cX2_findRoofs 67 = .ok (.iconst 1, 1) := by decide +kernel
theorem dX2_findRoofs_68 : decode cX2_findRoofs 68 = .ok (.invokevirtual 42, 3) := by decide +kernel
theorem dX2_findRoofs_71 : decode cX2_findRoofs 71 = .ok (.iaload, 1) := by decide +kernel
theorem dX2_findRoofs_72 : decode cX2_findRoofs 72 = .ok (.istore_n 3, 1) := by decide +kernel
theorem dX2_findRoofs_73 : decode cX2_findRoofs 73 = .ok (.iload_n 3, 1) := by decide +kernel
theorem dX2_findRoofs_74 : decode cX2_findRoofs 74 = .ok (.iconst (-1), 1) := by decide +kernel
theorem dX2_findRoofs_75 : decode cX2_findRoofs 75 = .ok (.if_icmp .eq 34, 3) := by decide +kernel
theorem dX2_findRoofs_78 : decode cX2_findRoofs 78 = .ok (.aload_n 0, 1) := by decide +kernel
theorem dX2_findRoofs_79 : decode cX2_findRoofs 79 = .ok (.aload_n 0, 1) := by decide +kernel
theorem dX2_findRoofs_80 : decode cX2_findRoofs 80 = .ok (.getfield 15, 3) := by decide +kernel
theorem dX2_findRoofs_83 : decode cX2_findRoofs 83 = .ok (.iload_n 2, 1) := by decide +kernel
theorem dX2_findRoofs_84 : decode cX2_findRoofs 84 = .ok (.iaload, 1) := by decide +kernel
theorem dX2_findRoofs_85 : decode cX2_findRoofs 85 = .ok (.iload_n 1, 1) := by decide +kernel
theorem dX2_findRoofs_86 : decode cX2_findRoofs 86 = .ok (.invokevirtual 77, 3) := by decide +kernel
theorem dX2_findRoofs_89 : decode cX2_findRoofs 89 = .ok (.ifCond .eq 13, 3) := by decide +kernel
theorem dX2_findRoofs_92 : decode cX2_findRoofs 92 = .ok (.aload_n 0, 1) := by decide +kernel
theorem dX2_findRoofs_93 : decode cX2_findRoofs 93 = .ok (.getfield 18, 3) := by decide +kernel
theorem dX2_findRoofs_96 : decode cX2_findRoofs 96 = .ok (.iload_n 3, 1) := by decide +kernel
theorem dX2_findRoofs_97 : decode cX2_findRoofs 97 = .ok (.iload_n 2, 1) := by decide +kernel
theorem dX2_findRoofs_98 : decode cX2_findRoofs 98 = .ok (.iastore, 1) := by decide +kernel
theorem dX2_findRoofs_99 : decode cX2_findRoofs 99 = .ok (.goto 10, 3) := by decide +kernel
theorem dX2_findRoofs_102 : decode cX2_findRoofs 102 = .ok (.aload_n 0, 1) := by decide +kernel
theorem dX2_findRoofs_103 : decode cX2_findRoofs 103 = .ok (.getfield 21, 3) := by decide +kernel
theorem dX2_findRoofs_106 : decode cX2_findRoofs 106 = .ok (.iload_n 3, 1) := by decide +kernel
theorem dX2_findRoofs_107 : decode cX2_findRoofs 107 = .ok (.iload_n 2, 1) := by decide +kernel
theorem dX2_findRoofs_108 : decode cX2_findRoofs 108 = .ok (.iastore, 1) := by decide +kernel
theorem dX2_findRoofs_109 : decode cX2_findRoofs 109 = .ok (.iinc 2 (-1), 3) := by decide +kernel
theorem dX2_findRoofs_112 : decode cX2_findRoofs 112 = .ok (.goto (-83), 3) := by decide +kernel
theorem dX2_findRoofs_115 : decode cX2_findRoofs 115 = .ok (.return_, 1) := by decide +kernel
theorem dX2_isFree_0 : decode cX2_isFree 0 = .ok (.aload_n 0, 1) := by decide +kernel
theorem dX2_isFree_1 : decode cX2_isFree 1 = .ok (.getfield 9, 3) := by decide +kernel
theorem dX2_isFree_4 : decode cX2_isFree 4 = .ok (.iload_n 1, 1) := by decide +kernel
theorem dX2_isFree_5 : decode cX2_isFree 5 = .ok (.iaload, 1) := by decide +kernel
theorem dX2_isFree_6 : decode cX2_isFree 6 = .ok (.ifCond .le 17, 3) := by decide +kernel
theorem dX2_isFree_9 : decode cX2_isFree 9 = .ok (.aload_n 0, 1) := by decide +kernel
theorem dX2_isFree_10 : decode cX2_isFree 10 = .ok (.getfield 15, 3) := by decide +kernel
theorem dX2_isFree_13 : decode cX2_isFree 13 = .ok (.iload_n 1, 1) := by decide +kernel
theorem dX2_isFree_14 : decode cX2_isFree 14 = .ok (.iaload, 1) := by decide +kernel
theorem dX2_isFree_15 : decode cX2_isFree 15 = .ok (.iconst (-1), 1) := by decide +kernel
theorem dX2_isFree_16 : decode cX2_isFree 16 = .ok (.if_icmp .ne 7, 3) := by decide +kernel
theorem dX2_isFree_19 : decode cX2_isFree 19 = .ok (.iconst 1, 1) := by decide +kernel
theorem dX2_isFree_20 : decode cX2_isFree 20 = .ok (.goto 4, 3) := by decide +kernel
theorem dX2_isFree_23 : decode cX2_isFree 23 = .ok (.iconst 0, 1) := by decide +kernel
theorem dX2_isFree_24 : decode cX2_isFree 24 = .ok (.ireturn, 1) := by decide +kernel
theorem dX2_isRoofless_0 : decode cX2_isRoofless 0 = .ok (.aload_n 0, 1) := by decide +kernel
theorem dX2_isRoofless_1 : decode cX2_isRoofless 1 = .ok (.getfield 18, 3) := by decide +kernel
theorem dX2_isRoofless_4 : decode cX2_isRoofless 4 = .ok (.iload_n 1, 1) := by decide +kernel
theorem dX2_isRoofless_5 : decode cX2_isRoofless 5 = .ok (.iaload, 1) := by decide +kernel
theorem dX2_isRoofless_6 : decode cX2_isRoofless 6 = .ok (.iconst (-1), 1) := by decide +kernel
theorem dX2_isRoofless_7 : decode cX2_isRoofless 7 = .ok (.if_icmp .ne 17, 3) := by decide +kernel
theorem dX2_isRoofless_10 : decode cX2_isRoofless 10 = .ok (.aload_n 0, 1) := by decide +kernel
theorem dX2_isRoofless_11 : decode cX2_isRoofless 11 = .ok (.getfield 21, 3) := by decide +kernel
theorem dX2_isRoofless_14 : decode cX2_isRoofless 14 = .ok (.iload_n 1, 1) := by decide +kernel
theorem dX2_isRoofless_15 : decode cX2_isRoofless 15 = .ok (.iaload, 1) := by decide +kernel
theorem dX2_isRoofless_16 : decode cX2_isRoofless 16 = .ok (.iconst (-1), 1) := by decide +kernel
theorem dX2_isRoofless_17 : decode cX2_isRoofless 17 = .ok (.if_icmp .ne 7, 3) := by decide +kernel
theorem dX2_isRoofless_20 : decode cX2_isRoofless 20 = .ok (.iconst 1, 1) := by decide +kernel
theorem dX2_isRoofless_21 : decode cX2_isRoofless 21 = .ok (.goto 4, 3) := by decide +kernel
theorem dX2_isRoofless_24 : decode cX2_isRoofless 24 = .ok (.iconst 0, 1) := by decide +kernel
theorem dX2_isRoofless_25 : decode cX2_isRoofless 25 = .ok (.ireturn, 1) := by decide +kernel
theorem dX2_giveAll_0 : decode cX2_giveAll 0 = .ok (.iconst 0, 1) := by decide +kernel
theorem dX2_giveAll_1 : decode cX2_giveAll 1 = .ok (.istore_n 2, 1) := by decide +kernel
theorem dX2_giveAll_2 : decode cX2_giveAll 2 = .ok (.iconst 0, 1) := by decide +kernel
theorem dX2_giveAll_3 : decode cX2_giveAll 3 = .ok (.istore_n 3, 1) := by decide +kernel
theorem dX2_giveAll_4 : decode cX2_giveAll 4 = .ok (.iload_n 3, 1) := by decide +kernel
theorem dX2_giveAll_5 : decode cX2_giveAll 5 = .ok (.aload_n 0, 1) := by decide +kernel
theorem dX2_giveAll_6 : decode cX2_giveAll 6 = .ok (.getfield 24, 3) := by decide +kernel
theorem dX2_giveAll_9 : decode cX2_giveAll 9 = .ok (.getfield 36, 3) := by decide +kernel
theorem dX2_giveAll_12 : decode cX2_giveAll 12 = .ok (.invokevirtual 70, 3) := by decide +kernel
theorem dX2_giveAll_15 : decode cX2_giveAll 15 = .ok (.if_icmp .ge 18, 3) := by decide +kernel
theorem dX2_giveAll_18 : decode cX2_giveAll 18 = .ok (.iload_n 2, 1) := by decide +kernel
theorem dX2_giveAll_19 : decode cX2_giveAll 19 = .ok (.aload_n 0, 1) := by decide +kernel
theorem dX2_giveAll_20 : decode cX2_giveAll 20 = .ok (.iload_n 3, 1) := by decide +kernel
theorem dX2_giveAll_21 : decode cX2_giveAll 21 = .ok (.iload_n 1, 1) := by decide +kernel
theorem dX2_giveAll_22 : decode cX2_giveAll 22 = .ok (.invokevirtual 106, 3) := by decide +kernel
theorem dX2_giveAll_25 : decode cX2_giveAll 25 = .ok (.iadd, 1) := by decide +kernel
theorem dX2_giveAll_26 : decode cX2_giveAll 26 = .ok (.istore_n 2, 1) := by decide +kernel
theorem dX2_giveAll_27 : decode cX2_giveAll 27 = .ok (.iinc 3 1, 3) := by decide +kernel
theorem dX2_giveAll_30 : decode cX2_giveAll 30 = .ok (.goto (-26), 3) := by decide +kernel
theorem dX2_giveAll_33 : decode cX2_giveAll 33 = .ok (.iload_n 2, 1) := by decide +kernel
theorem dX2_giveAll_34 : decode cX2_giveAll 34 = .ok (.ireturn, 1) := by decide +kernel
theorem dX2_giveInChain_0 : decode cX2_giveInChain 0 = .ok (.iload_n 1, 1) := by decide +kernel
theorem dX2_giveInChain_1 : decode cX2_giveInChain 1 = .ok (.istore_n 3, 1) := by decide +kernel
theorem dX2_giveInChain_2 : decode cX2_giveInChain 2 = .ok (.iconst 0, 1) := by decide +kernel
theorem dX2_giveInChain_3 : decode cX2_giveInChain 3 = .ok (.istore 4, 2) := by decide +kernel
theorem dX2_giveInChain_5 : decode cX2_giveInChain 5 = .ok (.iload 4, 2) := by decide +kernel
theorem dX2_giveInChain_7 : decode cX2_giveInChain 7 = .ok (.bipush 10, 2) := by decide +kernel
theorem dX2_giveInChain_9 : decode cX2_giveInChain 9 = .ok (.if_icmp .ge 127, 3) := by decide +kernel
theorem dX2_giveInChain_12 : decode cX2_giveInChain 12 = .ok (.iload_n 3, 1) := by decide +kernel
theorem dX2_giveInChain_13 : decode cX2_giveInChain 13 = .ok (.iconst (-1), 1) := by decide +kernel
theorem dX2_giveInChain_14 : decode cX2_giveInChain 14 = .ok (.if_icmp .eq 19, 3) := by decide +kernel
theorem dX2_giveInChain_17 : decode cX2_giveInChain 17 = .ok (.aload_n 0, 1) := by decide +kernel
theorem dX2_giveInChain_18 : decode cX2_giveInChain 18 = .ok (.iload_n 3, 1) := by decide +kernel
theorem dX2_giveInChain_19 : decode cX2_giveInChain 19 = .ok (.invokevirtual 109, 3) := by decide +kernel
theorem dX2_giveInChain_22 : decode cX2_giveInChain 22 = .ok (.ifCond .eq 11, 3) := by decide +kernel
theorem dX2_giveInChain_25 : decode cX2_giveInChain 25 = .ok (.aload_n 0, 1) := by decide +kernel
theorem dX2_giveInChain_26 : decode cX2_giveInChain 26 = .ok (.iload_n 3, 1) := by decide +kernel
theorem dX2_giveInChain_27 : decode cX2_giveInChain 27 = .ok (.invokevirtual 113, 3) := by decide +kernel
theorem dX2_giveInChain_30 : decode cX2_giveInChain 30 = .ok (.goto 4, 3) := by decide +kernel
theorem dX2_giveInChain_33 : decode cX2_giveInChain 33 = .ok (.iconst (-1), 1) := by decide +kernel
theorem dX2_giveInChain_34 : decode cX2_giveInChain 34 = .ok (.istore 5, 2) := by decide +kernel
theorem dX2_giveInChain_36 : decode cX2_giveInChain 36 = .ok (.iload 5, 2) := by decide +kernel
theorem dX2_giveInChain_38 : decode cX2_giveInChain 38 = .ok (.iconst (-1), 1) := by decide +kernel
theorem dX2_giveInChain_39 : decode cX2_giveInChain 39 = .ok (.if_icmp .ne 6, 3) := by decide +kernel
theorem dX2_giveInChain_42 : decode cX2_giveInChain 42 = .ok (.iload 4, 2) := by decide +kernel
theorem dX2_giveInChain_44 : decode cX2_giveInChain 44 = .ok (.ireturn, 1) := by decide +kernel
theorem dX2_giveInChain_45 : decode cX2_giveInChain 45 = .ok (.aload_n 0, 1) := by decide +kernel
theorem dX2_giveInChain_46 : decode cX2_giveInChain 46 = .ok (.getfield 32, 3) := by decide +kernel
theorem dX2_giveInChain_49 : decode cX2_giveInChain 49 = .ok (.getfield 84, 3) := by decide +kernel
theorem dX2_giveInChain_52 : decode cX2_giveInChain 52 = .ok (.iload 5, 2) := by decide +kernel
theorem dX2_giveInChain_54 : decode cX2_giveInChain 54 = .ok (.iaload, 1) := by decide +kernel
theorem dX2_giveInChain_55 : decode cX2_giveInChain 55 = .ok (.istore 6, 2) := by decide +kernel
theorem dX2_giveInChain_57 : decode cX2_giveInChain 57 = .ok (.aload_n 0, 1) := by decide +kernel
theorem dX2_giveInChain_58 : decode cX2_giveInChain 58 = .ok (.getfield 18, 3) := by decide +kernel
theorem dX2_giveInChain_61 : decode cX2_giveInChain 61 = .ok (.iload 6, 2) := by decide +kernel
theorem dX2_giveInChain_63 : decode cX2_giveInChain 63 = .ok (.iaload, 1) := by decide +kernel
theorem dX2_giveInChain_64 : decode cX2_giveInChain 64 = .ok (.iconst (-1), 1) := by decide +kernel
theorem dX2_giveInChain_65 : decode cX2_giveInChain 65 = .ok (.if_icmp .eq 13, 3) := by decide +kernel
theorem dX2_giveInChain_68 : decode cX2_giveInChain 68 = .ok (.aload_n 0, 1) := by decide +kernel
theorem dX2_giveInChain_69 : decode cX2_giveInChain 69 = .ok (.getfield 18, 3) := by decide +kernel
theorem dX2_giveInChain_72 : decode cX2_giveInChain 72 = .ok (.iload 6, 2) := by decide +kernel
theorem dX2_giveInChain_74 : decode cX2_giveInChain 74 = .ok (.iaload, 1) := by decide +kernel
theorem dX2_giveInChain_75 : decode cX2_giveInChain 75 = .ok (.goto 10, 3) := by decide +kernel
theorem dX2_giveInChain_78 : decode cX2_giveInChain 78 = .ok (.aload_n 0, 1) := by decide +kernel
theorem dX2_giveInChain_79 : decode cX2_giveInChain 79 = .ok (.getfield 21, 3) := by decide +kernel
theorem dX2_giveInChain_82 : decode cX2_giveInChain 82 = .ok (.iload 6, 2) := by decide +kernel
theorem dX2_giveInChain_84 : decode cX2_giveInChain 84 = .ok (.iaload, 1) := by decide +kernel
theorem dX2_giveInChain_85 : decode cX2_giveInChain 85 = .ok (.istore 7, 2) := by decide +kernel
theorem dX2_giveInChain_87 : decode cX2_giveInChain 87 = .ok (.aload_n 0, 1) := by decide +kernel
theorem dX2_giveInChain_88 : decode cX2_giveInChain 88 = .ok (.aload_n 0, 1) := by decide +kernel
theorem dX2_giveInChain_89 : decode cX2_giveInChain 89 = .ok (.getfield 18, 3) := by decide +kernel
theorem dX2_giveInChain_92 : decode cX2_giveInChain 92 = .ok (.iload 6, 2) := by decide +kernel
theorem dX2_giveInChain_94 : decode cX2_giveInChain 94 = .ok (.iaload, 1) := by decide +kernel
theorem dX2_giveInChain_95 : decode cX2_giveInChain 95 = .ok (.iload_n 2, 1) := by decide +kernel
theorem dX2_giveInChain_96 : decode cX2_giveInChain 96 = .ok (.invokevirtual 116, 3) := by decide +kernel
theorem dX2_giveInChain_99 : decode cX2_giveInChain 99 = .ok (.aload_n 0, 1) := by decide +kernel
theorem dX2_giveInChain_100 : decode cX2_giveInChain 100 = .ok (.aload_n 0, 1) := by decide +kernel
theorem dX2_giveInChain_101 : decode cX2_giveInChain 101 = .ok (.getfield 21, 3) := by decide +kernel
theorem dX2_giveInChain_104 : decode cX2_giveInChain 104 = .ok (.iload 6, 2) := by decide +kernel
theorem dX2_giveInChain_106 : decode cX2_giveInChain 106 = .ok (.iaload, 1) := by decide +kernel
theorem dX2_giveInChain_107 : decode cX2_giveInChain 107 = .ok (.iload_n 2, 1) := by decide +kernel
theorem dX2_giveInChain_108 : decode cX2_giveInChain 108 = .ok (.invokevirtual 116, 3) := by decide +kernel
theorem dX2_giveInChain_111 : decode cX2_giveInChain 111 = .ok (.aload_n 0, 1) := by decide +kernel
theorem dX2_giveInChain_112 : decode cX2_giveInChain 112 = .ok (.iload 5, 2) := by decide +kernel
theorem dX2_giveInChain_114 : decode cX2_giveInChain 114 = .ok (.iload_n 3, 1) := by decide +kernel
theorem dX2_giveInChain_115 : decode cX2_giveInChain 115 = .ok (.iload_n 2, 1) := by decide +kernel
theorem dX2_giveInChain_116 : decode cX2_giveInChain 116 = .ok (.iload_n 2, 1) := by decide +kernel
theorem dX2_giveInChain_117 : decode cX2_giveInChain 117 = .ok (.iload 4, 2) := by decide +kernel
theorem dX2_giveInChain_119 : decode cX2_giveInChain 119 = .ok (.invokevirtual 119, 3) := by decide +kernel
theorem dX2_giveInChain_122 : decode cX2_giveInChain 122 = .ok (.aload_n 0, 1) := by decide +kernel
theorem dX2_giveInChain_123 : decode cX2_giveInChain 123 = .ok (.iload_n 2, 1) := by decide +kernel
theorem dX2_giveInChain_124 : decode cX2_giveInChain 124 = .ok (.invokevirtual 96, 3) := by decide +kernel
theorem dX2_giveInChain_127 : decode cX2_giveInChain 127 = .ok (.iload 7, 2) := by decide +kernel
theorem dX2_giveInChain_129 : decode cX2_giveInChain 129 = .ok (.istore_n 3, 1) := by decide +kernel
theorem dX2_giveInChain_130 : decode cX2_giveInChain 130 = .ok (.iinc 4 1, 3) := by decide +kernel
theorem dX2_giveInChain_133 : decode cX2_giveInChain 133 = .ok (.goto (-128), 3) := by decide +kernel
theorem dX2_giveInChain_136 : decode cX2_giveInChain 136 = .ok (.bipush 10, 2) := by decide +kernel
theorem dX2_giveInChain_138 : decode cX2_giveInChain 138 = .ok (.ireturn, 1) := by decide +kernel
def W_X0_init_0 (X : Sx) (l : Launch) (D : Nat) (x0 : Nat) (x1 : Int32) (x2 : Int32) (σ : AH) (r : Option Value) (σ' : AH) : Prop := kd σ x0 = (0, NO 0) ∧ x0 < nx σ ∧ 1 ≤ D ∧ al m_X0_init x0 ∧ al m_X0_init x0 ∧ al m_X0_init x0 ∧ ∃ d4 : Nat, ∃ b9 : Nat, ∃ n10 : Nat, ∃ σ5 : AH, d4 + 1 ≤ D ∧ Call X l m_J7_copyOf_59c91 d4 [.ref 24, .int (gI (sI (sI (sI σ x0 0 x1) x0 1 x2) x0 2 (gI (sI (sI σ x0 0 x1) x0 1 x2) 22 2)) 22 2)] (sI (sI (sI σ x0 0 x1) x0 1 x2) x0 2 (gI (sI (sI σ x0 0 x1) x0 1 x2) 22 2)) (some (.ref b9)) σ5 ∧ kd σ5 b9 = (100, n10) ∧ b9 < nx σ5 ∧ al m_X0_init x0 ∧ (Sh σ5 → Sh (sR σ5 x0 3 (some b9))) ∧ (∀ τ17 : AH, τ17 = (sR σ5 x0 3 (some b9)) → ∃ d22 : Nat, ∃ b27 : Nat, ∃ n28 : Nat, ∃ σ23 : AH, d22 + 1 ≤ D ∧ Call X l m_J7_copyOf_59c91 d22 [.ref 25, .int (gI τ17 22 2)] τ17 (some (.ref b27)) σ23 ∧ kd σ23 b27 = (100, n28) ∧ b27 < nx σ23 ∧ al m_X0_init x0 ∧ (Sh σ23 → Sh (sR σ23 x0 4 (some b27))) ∧ (∀ τ35 : AH, τ35 = (sR σ23 x0 4 (some b27)) → ∃ d40 : Nat, ∃ b45 : Nat, ∃ n46 : Nat, ∃ σ41 : AH, d40 + 1 ≤ D ∧ Call X l m_J7_copyOf_59c91 d40 [.ref 26, .int (gI τ35 22 2)] τ35 (some (.ref b45)) σ41 ∧ kd σ41 b45 = (100, n46) ∧ b45 < nx σ41 ∧ al m_X0_init x0 ∧ (Sh σ41 → Sh (sR σ41 x0 5 (some b45))) ∧ (∀ τ53 : AH, τ53 = (sR σ41 x0 5 (some b45)) → ∃ d58 : Nat, ∃ b63 : Nat, ∃ n64 : Nat, ∃ σ59 : AH, d58 + 1 ≤ D ∧ Call X l m_J7_copyOf_59c91 d58 [.ref 27, .int (gI τ53 22 7)] τ53 (some (.ref b63)) σ59 ∧ kd σ59 b63 = (100, n64) ∧ b63 < nx σ59 ∧ al m_X0_init x0 ∧ (Sh σ59 → Sh (sR σ59 x0 6 (some b63))) ∧ (∀ τ71 : AH, τ71 = (sR σ59 x0 6 (some b63)) → (r = none ∧ σ' = τ71)))))
set_option maxRecDepth 100000 in
theorem w_X0_init_0 {X : Sx} {l : Launch} {D : Nat} {x0 : Nat} {x1 : Int32} {x2 : Int32} {σ : AH} {r : Option Value} {σ' : AH} (hs : Sh σ) (h : W_X0_init_0 X l D x0 x1 x2 σ r σ') : E X l m_X0_init D 0 [(0, .ref x0), (1, .int x1), (2, .int x2), (3, .ref 22)] [] σ r σ' := by
  unfold W_X0_init_0 at h
  obtain ⟨hkx0, hbx0, h⟩ := h
  refine E_aload_n 0 dX0_init_0 rfl rfl ?_
  obtain ⟨g76, h⟩ := h
  refine E_objInit dX0_init_1 mo_X0_1 g76 (Nat.le_of_ble_eq_true rfl) ?_
  refine E_aload_n 0 dX0_init_4 rfl rfl ?_
  refine E_iload_n 1 dX0_init_5 rfl rfl ?_
  obtain ⟨ga1, h⟩ := h
  refine E_putI dX0_init_6 fl_X0_7 rfl (Or.inr ⟨rfl, rfl, rfl⟩) hkx0 hbx0 ga1 rfl rfl ?_
  refine E_aload_n 0 dX0_init_9 rfl rfl ?_
  refine E_iload_n 2 dX0_init_10 rfl rfl ?_
  obtain ⟨ga2, h⟩ := h
  refine E_putI dX0_init_11 fl_X0_13 rfl (Or.inr ⟨rfl, rfl, rfl⟩) hkx0 hbx0 ga2 rfl rfl ?_
  refine E_aload_n 0 dX0_init_14 rfl rfl ?_
  refine E_aload_n 3 dX0_init_15 rfl rfl ?_
  refine E_getI dX0_init_16 fl_X0_16 rfl (sk_22 hs) (sn hs (by decide)) ?_
  obtain ⟨ga3, h⟩ := h
  refine E_putI dX0_init_19 fl_X0_21 rfl (Or.inr ⟨rfl, rfl, rfl⟩) hkx0 hbx0 ga3 rfl rfl ?_
  refine E_aload_n 0 dX0_init_22 rfl rfl ?_
  refine E_aload_n 3 dX0_init_23 rfl rfl ?_
  refine E_getR 24 dX0_init_24 fl_X0_22 rfl (sk_22 hs) (sn hs (by decide)) (sr_22_3 hs) ?_
  refine E_aload_n 3 dX0_init_27 rfl rfl ?_
  refine E_getI dX0_init_28 fl_X0_16 rfl (sk_22 hs) (sn hs (by decide)) ?_
  obtain ⟨d4, b9, n10, σ5, hD6, hC7, hk11, hb12, h⟩ := h
  have hs8 := hC7.1.2.2.2.1 hs
  have hk13 := (hC7.1.2.2.1 _ hbx0).trans hkx0
  have hb14 := Nat.lt_of_lt_of_le hbx0 hC7.1.1
  refine E_callS (As := [.ref 24, .int (gI (sI (sI (sI σ x0 0 x1) x0 1 x2) x0 2 (gI (sI (sI σ x0 0 x1) x0 1 x2) 22 2)) 22 2)]) (rest := [.ref x0]) (r1 := (some (.ref b9))) dX0_init_31 ok_J7_copyOf_59c91 is_J7_copyOf_59c91 ml_X0_26 hD6 rfl rfl (Nat.le_of_ble_eq_true rfl) (by decide +kernel) hC7 ?_
  obtain ⟨ga15, h⟩ := h
  obtain ⟨g16, h⟩ := h
  refine E_putR dX0_init_34 fl_X0_32 rfl (Or.inr ⟨rfl, rfl, rfl⟩) hk13 hb14 ga15 g16 ?_
  obtain ⟨τ17, e18⟩ : ∃ τ : AH, τ = (sR σ5 x0 3 (some b9)) := ⟨_, rfl⟩
  replace h := h τ17 e18
  rw [← e18]
  have hs19 : Sh τ17 := by rw [e18]; exact (g16 hs8)
  have hk20 : kd _ x0 = (0, NO 0) := (congrFun (congrArg kd e18) _).trans hk13
  have hb21 := Nat.lt_of_lt_of_eq hb14 (congrArg nx e18).symm
  refine E_aload_n 0 dX0_init_37 rfl rfl ?_
  refine E_aload_n 3 dX0_init_38 rfl rfl ?_
  refine E_getR 25 dX0_init_39 fl_X0_33 rfl (sk_22 hs19) (sn hs19 (by decide)) (sr_22_4 hs19) ?_
  refine E_aload_n 3 dX0_init_42 rfl rfl ?_
  refine E_getI dX0_init_43 fl_X0_16 rfl (sk_22 hs19) (sn hs19 (by decide)) ?_
  obtain ⟨d22, b27, n28, σ23, hD24, hC25, hk29, hb30, h⟩ := h
  have hs26 := hC25.1.2.2.2.1 hs19
  have hk31 := (hC25.1.2.2.1 _ hb21).trans hk20
  have hb32 := Nat.lt_of_lt_of_le hb21 hC25.1.1
  refine E_callS (As := [.ref 25, .int (gI τ17 22 2)]) (rest := [.ref x0]) (r1 := (some (.ref b27))) dX0_init_46 ok_J7_copyOf_59c91 is_J7_copyOf_59c91 ml_X0_26 hD24 rfl rfl (Nat.le_of_ble_eq_true rfl) (by decide +kernel) hC25 ?_
  obtain ⟨ga33, h⟩ := h
  obtain ⟨g34, h⟩ := h
  refine E_putR dX0_init_49 fl_X0_36 rfl (Or.inr ⟨rfl, rfl, rfl⟩) hk31 hb32 ga33 g34 ?_
  obtain ⟨τ35, e36⟩ : ∃ τ : AH, τ = (sR σ23 x0 4 (some b27)) := ⟨_, rfl⟩
  replace h := h τ35 e36
  rw [← e36]
  have hs37 : Sh τ35 := by rw [e36]; exact (g34 hs26)
  have hk38 : kd _ x0 = (0, NO 0) := (congrFun (congrArg kd e36) _).trans hk31
  have hb39 := Nat.lt_of_lt_of_eq hb32 (congrArg nx e36).symm
  refine E_aload_n 0 dX0_init_52 rfl rfl ?_
  refine E_aload_n 3 dX0_init_53 rfl rfl ?_
  refine E_getR 26 dX0_init_54 fl_X0_37 rfl (sk_22 hs37) (sn hs37 (by decide)) (sr_22_5 hs37) ?_
  refine E_aload_n 3 dX0_init_57 rfl rfl ?_
  refine E_getI dX0_init_58 fl_X0_16 rfl (sk_22 hs37) (sn hs37 (by decide)) ?_
  obtain ⟨d40, b45, n46, σ41, hD42, hC43, hk47, hb48, h⟩ := h
  have hs44 := hC43.1.2.2.2.1 hs37
  have hk49 := (hC43.1.2.2.1 _ hb39).trans hk38
  have hb50 := Nat.lt_of_lt_of_le hb39 hC43.1.1
  refine E_callS (As := [.ref 26, .int (gI τ35 22 2)]) (rest := [.ref x0]) (r1 := (some (.ref b45))) dX0_init_61 ok_J7_copyOf_59c91 is_J7_copyOf_59c91 ml_X0_26 hD42 rfl rfl (Nat.le_of_ble_eq_true rfl) (by decide +kernel) hC43 ?_
  obtain ⟨ga51, h⟩ := h
  obtain ⟨g52, h⟩ := h
  refine E_putR dX0_init_64 fl_X0_40 rfl (Or.inr ⟨rfl, rfl, rfl⟩) hk49 hb50 ga51 g52 ?_
  obtain ⟨τ53, e54⟩ : ∃ τ : AH, τ = (sR σ41 x0 5 (some b45)) := ⟨_, rfl⟩
  replace h := h τ53 e54
  rw [← e54]
  have hs55 : Sh τ53 := by rw [e54]; exact (g52 hs44)
  have hk56 : kd _ x0 = (0, NO 0) := (congrFun (congrArg kd e54) _).trans hk49
  have hb57 := Nat.lt_of_lt_of_eq hb50 (congrArg nx e54).symm
  refine E_aload_n 0 dX0_init_67 rfl rfl ?_
  refine E_aload_n 3 dX0_init_68 rfl rfl ?_
  refine E_getR 27 dX0_init_69 fl_X0_41 rfl (sk_22 hs55) (sn hs55 (by decide)) (sr_22_6 hs55) ?_
  refine E_aload_n 3 dX0_init_72 rfl rfl ?_
  refine E_getI dX0_init_73 fl_X0_44 rfl (sk_22 hs55) (sn hs55 (by decide)) ?_
  obtain ⟨d58, b63, n64, σ59, hD60, hC61, hk65, hb66, h⟩ := h
  have hs62 := hC61.1.2.2.2.1 hs55
  have hk67 := (hC61.1.2.2.1 _ hb57).trans hk56
  have hb68 := Nat.lt_of_lt_of_le hb57 hC61.1.1
  refine E_callS (As := [.ref 27, .int (gI τ53 22 7)]) (rest := [.ref x0]) (r1 := (some (.ref b63))) dX0_init_76 ok_J7_copyOf_59c91 is_J7_copyOf_59c91 ml_X0_26 hD60 rfl rfl (Nat.le_of_ble_eq_true rfl) (by decide +kernel) hC61 ?_
  obtain ⟨ga69, h⟩ := h
  obtain ⟨g70, h⟩ := h
  refine E_putR dX0_init_79 fl_X0_47 rfl (Or.inr ⟨rfl, rfl, rfl⟩) hk67 hb68 ga69 g70 ?_
  obtain ⟨τ71, e72⟩ : ∃ τ : AH, τ = (sR σ59 x0 6 (some b63)) := ⟨_, rfl⟩
  replace h := h τ71 e72
  rw [← e72]
  have hs73 : Sh τ71 := by rw [e72]; exact (g70 hs62)
  have hk74 : kd _ x0 = (0, NO 0) := (congrFun (congrArg kd e72) _).trans hk67
  have hb75 := Nat.lt_of_lt_of_eq hb68 (congrArg nx e72).symm
  obtain ⟨rfl, rfl⟩ := h
  exact E_vret dX0_init_82 rfl
def W_X1_init_0 (X : Sx) (l : Launch) (D : Nat) (x0 : Nat) (x1 : Nat) (x2 : Nat) (σ : AH) (r : Option Value) (σ' : AH) : Prop := kd σ x0 = (1, NO 1) ∧ x0 < nx σ ∧ kd σ x1 = (9, NO 9) ∧ x1 < nx σ ∧ 1 ≤ D ∧ (∀ τ1 : AH, τ1 = (aw σ 100 6) → al m_X1_init x0 ∧ (Sh τ1 → Sh (sR τ1 x0 2 (some (nx σ)))) ∧ (∀ τ12 : AH, τ12 = (sR τ1 x0 2 (some (nx σ))) → (∀ τ19 : AH, τ19 = (aw τ12 7 (NO 7)) → ∃ d28 : Nat, ∃ σ29 : AH, d28 + 1 ≤ D ∧ Call X l m_X7_init d28 [.ref (nx τ12)] τ19 none σ29 ∧ al m_X1_init x0 ∧ (Sh σ29 → Sh (sR σ29 x0 5 (some (nx τ12)))) ∧ (∀ τ41 : AH, τ41 = (sR σ29 x0 5 (some (nx τ12))) → al m_X1_init x0 ∧ al m_X1_init x0 ∧ (∀ τ50 : AH, τ50 = (aw (sI (sI τ41 x0 6 (-1 : Int32)) x0 7 (-1 : Int32)) 105 3) → al m_X1_init x0 ∧ (Sh τ50 → Sh (sR τ50 x0 8 (some (nx (sI (sI τ41 x0 6 (-1 : Int32)) x0 7 (-1 : Int32)))))) ∧ (∀ τ61 : AH, τ61 = (sR τ50 x0 8 (some (nx (sI (sI τ41 x0 6 (-1 : Int32)) x0 7 (-1 : Int32))))) → (∀ τ68 : AH, τ68 = (aw τ61 100 6) → al m_X1_init x0 ∧ (Sh τ68 → Sh (sR τ68 x0 9 (some (nx τ61)))) ∧ (∀ τ79 : AH, τ79 = (sR τ68 x0 9 (some (nx τ61))) → (∀ τ86 : AH, τ86 = (aw τ79 100 6) → al m_X1_init x0 ∧ (Sh τ86 → Sh (sR τ86 x0 10 (some (nx τ79)))) ∧ (∀ τ97 : AH, τ97 = (sR τ86 x0 10 (some (nx τ79))) → al m_X1_init x0 ∧ al m_X1_init x0 ∧ al m_X1_init x0 ∧ (Sh (sI (sI τ97 x0 12 (-1 : Int32)) x0 13 (-1 : Int32)) → Sh (sR (sI (sI τ97 x0 12 (-1 : Int32)) x0 13 (-1 : Int32)) x0 0 (some x1))) ∧ (∀ τ108 : AH, τ108 = (sR (sI (sI τ97 x0 12 (-1 : Int32)) x0 13 (-1 : Int32)) x0 0 (some x1)) → al m_X1_init x0 ∧ (Sh τ108 → Sh (sR τ108 x0 1 (some x2))) ∧ (∀ τ117 : AH, τ117 = (sR τ108 x0 1 (some x2)) → E X l m_X1_init D 79 [(0, .ref x0), (3, .int (0 : Int32))] [] τ117 r σ'))))))))))))
set_option maxRecDepth 100000 in
theorem w_X1_init_0 {X : Sx} {l : Launch} {D : Nat} {x0 : Nat} {x1 : Nat} {x2 : Nat} {σ : AH} {r : Option Value} {σ' : AH} (h : W_X1_init_0 X l D x0 x1 x2 σ r σ') : E X l m_X1_init D 0 [(0, .ref x0), (1, .ref x1), (2, .ref x2)] [] σ r σ' := by
  unfold W_X1_init_0 at h
  obtain ⟨hkx0, hbx0, h⟩ := h
  obtain ⟨hkx1, hbx1, h⟩ := h
  refine E_aload_n 0 dX1_init_0 rfl rfl ?_
  obtain ⟨g124, h⟩ := h
  refine E_objInit dX1_init_1 mo_X1_3 g124 (Nat.le_of_ble_eq_true rfl) ?_
  refine E_aload_n 0 dX1_init_4 rfl rfl ?_
  refine E_bipush (6 : Int32) dX1_init_5 (by decide) ?_
  refine E_newaI 6 dX1_init_7 ac_int (by decide) (by decide) (by decide) ?_
  obtain ⟨τ1, e2⟩ : ∃ τ : AH, τ = (aw σ 100 6) := ⟨_, rfl⟩
  replace h := h τ1 e2
  rw [← e2]
  have hk4 : kd _ x0 = (1, NO 1) := (congrFun (congrArg kd e2) _).trans ((up_ne _ _ _ (Nat.ne_of_lt hbx0)).trans hkx0)
  have hb5 := Nat.lt_of_lt_of_eq (Nat.lt_succ_of_lt hbx0) (congrArg nx e2).symm
  have hk6 : kd _ x1 = (9, NO 9) := (congrFun (congrArg kd e2) _).trans ((up_ne _ _ _ (Nat.ne_of_lt hbx1)).trans hkx1)
  have hb7 := Nat.lt_of_lt_of_eq (Nat.lt_succ_of_lt hbx1) (congrArg nx e2).symm
  have hk8 : kd _ (nx σ) = (100, 6) := (congrFun (congrArg kd e2) _).trans (up_same _ _ _)
  have hb9 := Nat.lt_of_lt_of_eq (Nat.lt_succ_self _) (congrArg nx e2).symm
  obtain ⟨ga10, h⟩ := h
  obtain ⟨g11, h⟩ := h
  refine E_putR dX1_init_9 fl_X1_9 rfl (Or.inr ⟨rfl, rfl, rfl⟩) hk4 hb5 ga10 g11 ?_
  obtain ⟨τ12, e13⟩ : ∃ τ : AH, τ = (sR τ1 x0 2 (some (nx σ))) := ⟨_, rfl⟩
  replace h := h τ12 e13
  rw [← e13]
  have hk15 : kd _ x0 = (1, NO 1) := (congrFun (congrArg kd e13) _).trans hk4
  have hb16 := Nat.lt_of_lt_of_eq hb5 (congrArg nx e13).symm
  have hk17 : kd _ x1 = (9, NO 9) := (congrFun (congrArg kd e13) _).trans hk6
  have hb18 := Nat.lt_of_lt_of_eq hb7 (congrArg nx e13).symm
  refine E_aload_n 0 dX1_init_12 rfl rfl ?_
  refine E_new 7 dX1_init_13 (by decide) ck_X1_15 ?_
  obtain ⟨τ19, e20⟩ : ∃ τ : AH, τ = (aw τ12 7 (NO 7)) := ⟨_, rfl⟩
  replace h := h τ19 e20
  rw [← e20]
  have hk22 : kd _ x0 = (1, NO 1) := (congrFun (congrArg kd e20) _).trans ((up_ne _ _ _ (Nat.ne_of_lt hb16)).trans hk15)
  have hb23 := Nat.lt_of_lt_of_eq (Nat.lt_succ_of_lt hb16) (congrArg nx e20).symm
  have hk24 : kd _ x1 = (9, NO 9) := (congrFun (congrArg kd e20) _).trans ((up_ne _ _ _ (Nat.ne_of_lt hb18)).trans hk17)
  have hb25 := Nat.lt_of_lt_of_eq (Nat.lt_succ_of_lt hb18) (congrArg nx e20).symm
  have hk26 : kd _ (nx τ12) = (7, NO 7) := (congrFun (congrArg kd e20) _).trans (up_same _ _ _)
  have hb27 := Nat.lt_of_lt_of_eq (Nat.lt_succ_self _) (congrArg nx e20).symm
  refine E_dup dX1_init_16 rfl ?_
  obtain ⟨d28, σ29, hD30, hC31, h⟩ := h
  have hk33 := (hC31.1.2.2.1 _ hb23).trans hk22
  have hb34 := Nat.lt_of_lt_of_le hb23 hC31.1.1
  have hk35 := (hC31.1.2.2.1 _ hb25).trans hk24
  have hb36 := Nat.lt_of_lt_of_le hb25 hC31.1.1
  have hk37 := (hC31.1.2.2.1 _ hb27).trans hk26
  have hb38 := Nat.lt_of_lt_of_le hb27 hC31.1.1
  refine E_callIN (As := []) (rest := [.ref (nx τ12), .ref x0]) (r1 := none) (b := (nx τ12)) dX1_init_17 ok_X7_init in_X7_init rfl rfl (by decide) hD30 rfl rfl (Nat.le_of_ble_eq_true rfl) (by decide +kernel) hC31 ?_
  obtain ⟨ga39, h⟩ := h
  obtain ⟨g40, h⟩ := h
  refine E_putR dX1_init_20 fl_X1_18 rfl (Or.inr ⟨rfl, rfl, rfl⟩) hk33 hb34 ga39 g40 ?_
  obtain ⟨τ41, e42⟩ : ∃ τ : AH, τ = (sR σ29 x0 5 (some (nx τ12))) := ⟨_, rfl⟩
  replace h := h τ41 e42
  rw [← e42]
  have hk44 : kd _ x0 = (1, NO 1) := (congrFun (congrArg kd e42) _).trans hk33
  have hb45 := Nat.lt_of_lt_of_eq hb34 (congrArg nx e42).symm
  have hk46 : kd _ x1 = (9, NO 9) := (congrFun (congrArg kd e42) _).trans hk35
  have hb47 := Nat.lt_of_lt_of_eq hb36 (congrArg nx e42).symm
  refine E_aload_n 0 dX1_init_23 rfl rfl ?_
  refine E_iconst (-1 : Int32) dX1_init_24 (by decide) ?_
  obtain ⟨ga48, h⟩ := h
  refine E_putI dX1_init_25 fl_X1_22 rfl (Or.inl rfl) hk44 hb45 ga48 rfl rfl ?_
  refine E_aload_n 0 dX1_init_28 rfl rfl ?_
  refine E_iconst (-1 : Int32) dX1_init_29 (by decide) ?_
  obtain ⟨ga49, h⟩ := h
  refine E_putI dX1_init_30 fl_X1_26 rfl (Or.inl rfl) hk44 hb45 ga49 rfl rfl ?_
  refine E_aload_n 0 dX1_init_33 rfl rfl ?_
  refine E_iconst (3 : Int32) dX1_init_34 (by decide) ?_
  refine E_newq 3 105 dX1_init_35 (Or.inr (Or.inr rfl)) ck_X1_15 (by decide) (by decide) (by decide) ?_
  obtain ⟨τ50, e51⟩ : ∃ τ : AH, τ = (aw (sI (sI τ41 x0 6 (-1 : Int32)) x0 7 (-1 : Int32)) 105 3) := ⟨_, rfl⟩
  replace h := h τ50 e51
  rw [← e51]
  have hk53 : kd _ x0 = (1, NO 1) := (congrFun (congrArg kd e51) _).trans ((up_ne _ _ _ (Nat.ne_of_lt hb45)).trans hk44)
  have hb54 := Nat.lt_of_lt_of_eq (Nat.lt_succ_of_lt hb45) (congrArg nx e51).symm
  have hk55 : kd _ x1 = (9, NO 9) := (congrFun (congrArg kd e51) _).trans ((up_ne _ _ _ (Nat.ne_of_lt hb47)).trans hk46)
  have hb56 := Nat.lt_of_lt_of_eq (Nat.lt_succ_of_lt hb47) (congrArg nx e51).symm
  have hk57 : kd _ (nx (sI (sI τ41 x0 6 (-1 : Int32)) x0 7 (-1 : Int32))) = (105, 3) := (congrFun (congrArg kd e51) _).trans (up_same _ _ _)
  have hb58 := Nat.lt_of_lt_of_eq (Nat.lt_succ_self _) (congrArg nx e51).symm
  obtain ⟨ga59, h⟩ := h
  obtain ⟨g60, h⟩ := h
  refine E_putR dX1_init_38 fl_X1_29 rfl (Or.inr ⟨rfl, rfl, rfl⟩) hk53 hb54 ga59 g60 ?_
  obtain ⟨τ61, e62⟩ : ∃ τ : AH, τ = (sR τ50 x0 8 (some (nx (sI (sI τ41 x0 6 (-1 : Int32)) x0 7 (-1 : Int32))))) := ⟨_, rfl⟩
  replace h := h τ61 e62
  rw [← e62]
  have hk64 : kd _ x0 = (1, NO 1) := (congrFun (congrArg kd e62) _).trans hk53
  have hb65 := Nat.lt_of_lt_of_eq hb54 (congrArg nx e62).symm
  have hk66 : kd _ x1 = (9, NO 9) := (congrFun (congrArg kd e62) _).trans hk55
  have hb67 := Nat.lt_of_lt_of_eq hb56 (congrArg nx e62).symm
  refine E_aload_n 0 dX1_init_41 rfl rfl ?_
  refine E_bipush (6 : Int32) dX1_init_42 (by decide) ?_
  refine E_newaI 6 dX1_init_44 ac_int (by decide) (by decide) (by decide) ?_
  obtain ⟨τ68, e69⟩ : ∃ τ : AH, τ = (aw τ61 100 6) := ⟨_, rfl⟩
  replace h := h τ68 e69
  rw [← e69]
  have hk71 : kd _ x0 = (1, NO 1) := (congrFun (congrArg kd e69) _).trans ((up_ne _ _ _ (Nat.ne_of_lt hb65)).trans hk64)
  have hb72 := Nat.lt_of_lt_of_eq (Nat.lt_succ_of_lt hb65) (congrArg nx e69).symm
  have hk73 : kd _ x1 = (9, NO 9) := (congrFun (congrArg kd e69) _).trans ((up_ne _ _ _ (Nat.ne_of_lt hb67)).trans hk66)
  have hb74 := Nat.lt_of_lt_of_eq (Nat.lt_succ_of_lt hb67) (congrArg nx e69).symm
  have hk75 : kd _ (nx τ61) = (100, 6) := (congrFun (congrArg kd e69) _).trans (up_same _ _ _)
  have hb76 := Nat.lt_of_lt_of_eq (Nat.lt_succ_self _) (congrArg nx e69).symm
  obtain ⟨ga77, h⟩ := h
  obtain ⟨g78, h⟩ := h
  refine E_putR dX1_init_46 fl_X1_33 rfl (Or.inr ⟨rfl, rfl, rfl⟩) hk71 hb72 ga77 g78 ?_
  obtain ⟨τ79, e80⟩ : ∃ τ : AH, τ = (sR τ68 x0 9 (some (nx τ61))) := ⟨_, rfl⟩
  replace h := h τ79 e80
  rw [← e80]
  have hk82 : kd _ x0 = (1, NO 1) := (congrFun (congrArg kd e80) _).trans hk71
  have hb83 := Nat.lt_of_lt_of_eq hb72 (congrArg nx e80).symm
  have hk84 : kd _ x1 = (9, NO 9) := (congrFun (congrArg kd e80) _).trans hk73
  have hb85 := Nat.lt_of_lt_of_eq hb74 (congrArg nx e80).symm
  refine E_aload_n 0 dX1_init_49 rfl rfl ?_
  refine E_bipush (6 : Int32) dX1_init_50 (by decide) ?_
  refine E_newaI 6 dX1_init_52 ac_int (by decide) (by decide) (by decide) ?_
  obtain ⟨τ86, e87⟩ : ∃ τ : AH, τ = (aw τ79 100 6) := ⟨_, rfl⟩
  replace h := h τ86 e87
  rw [← e87]
  have hk89 : kd _ x0 = (1, NO 1) := (congrFun (congrArg kd e87) _).trans ((up_ne _ _ _ (Nat.ne_of_lt hb83)).trans hk82)
  have hb90 := Nat.lt_of_lt_of_eq (Nat.lt_succ_of_lt hb83) (congrArg nx e87).symm
  have hk91 : kd _ x1 = (9, NO 9) := (congrFun (congrArg kd e87) _).trans ((up_ne _ _ _ (Nat.ne_of_lt hb85)).trans hk84)
  have hb92 := Nat.lt_of_lt_of_eq (Nat.lt_succ_of_lt hb85) (congrArg nx e87).symm
  have hk93 : kd _ (nx τ79) = (100, 6) := (congrFun (congrArg kd e87) _).trans (up_same _ _ _)
  have hb94 := Nat.lt_of_lt_of_eq (Nat.lt_succ_self _) (congrArg nx e87).symm
  obtain ⟨ga95, h⟩ := h
  obtain ⟨g96, h⟩ := h
  refine E_putR dX1_init_54 fl_X1_36 rfl (Or.inr ⟨rfl, rfl, rfl⟩) hk89 hb90 ga95 g96 ?_
  obtain ⟨τ97, e98⟩ : ∃ τ : AH, τ = (sR τ86 x0 10 (some (nx τ79))) := ⟨_, rfl⟩
  replace h := h τ97 e98
  rw [← e98]
  have hk100 : kd _ x0 = (1, NO 1) := (congrFun (congrArg kd e98) _).trans hk89
  have hb101 := Nat.lt_of_lt_of_eq hb90 (congrArg nx e98).symm
  have hk102 : kd _ x1 = (9, NO 9) := (congrFun (congrArg kd e98) _).trans hk91
  have hb103 := Nat.lt_of_lt_of_eq hb92 (congrArg nx e98).symm
  refine E_aload_n 0 dX1_init_57 rfl rfl ?_
  refine E_iconst (-1 : Int32) dX1_init_58 (by decide) ?_
  obtain ⟨ga104, h⟩ := h
  refine E_putI dX1_init_59 fl_X1_39 rfl (Or.inl rfl) hk100 hb101 ga104 rfl rfl ?_
  refine E_aload_n 0 dX1_init_62 rfl rfl ?_
  refine E_iconst (-1 : Int32) dX1_init_63 (by decide) ?_
  obtain ⟨ga105, h⟩ := h
  refine E_putI dX1_init_64 fl_X1_42 rfl (Or.inl rfl) hk100 hb101 ga105 rfl rfl ?_
  refine E_aload_n 0 dX1_init_67 rfl rfl ?_
  refine E_aload_n 1 dX1_init_68 rfl rfl ?_
  obtain ⟨ga106, h⟩ := h
  obtain ⟨g107, h⟩ := h
  refine E_putR dX1_init_69 fl_X1_45 rfl (Or.inr ⟨rfl, rfl, rfl⟩) hk100 hb101 ga106 g107 ?_
  obtain ⟨τ108, e109⟩ : ∃ τ : AH, τ = (sR (sI (sI τ97 x0 12 (-1 : Int32)) x0 13 (-1 : Int32)) x0 0 (some x1)) := ⟨_, rfl⟩
  replace h := h τ108 e109
  rw [← e109]
  have hk111 : kd _ x0 = (1, NO 1) := (congrFun (congrArg kd e109) _).trans hk100
  have hb112 := Nat.lt_of_lt_of_eq hb101 (congrArg nx e109).symm
  have hk113 : kd _ x1 = (9, NO 9) := (congrFun (congrArg kd e109) _).trans hk102
  have hb114 := Nat.lt_of_lt_of_eq hb103 (congrArg nx e109).symm
  refine E_aload_n 0 dX1_init_72 rfl rfl ?_
  refine E_aload_n 2 dX1_init_73 rfl rfl ?_
  obtain ⟨ga115, h⟩ := h
  obtain ⟨g116, h⟩ := h
  refine E_putR dX1_init_74 fl_X1_49 rfl (Or.inr ⟨rfl, rfl, rfl⟩) hk111 hb112 ga115 g116 ?_
  obtain ⟨τ117, e118⟩ : ∃ τ : AH, τ = (sR τ108 x0 1 (some x2)) := ⟨_, rfl⟩
  replace h := h τ117 e118
  rw [← e118]
  have hk120 : kd _ x0 = (1, NO 1) := (congrFun (congrArg kd e118) _).trans hk111
  have hb121 := Nat.lt_of_lt_of_eq hb112 (congrArg nx e118).symm
  have hk122 : kd _ x1 = (9, NO 9) := (congrFun (congrArg kd e118) _).trans hk113
  have hb123 := Nat.lt_of_lt_of_eq hb114 (congrArg nx e118).symm
  refine E_iconst (0 : Int32) dX1_init_77 (by decide) ?_
  refine E_istore_n [(3, .int (0 : Int32)), (0, .ref x0), (1, .ref x1), (2, .ref x2)] dX1_init_78 rfl (by decide) rfl ?_
  exact E_lv [1, 0] rfl h
def W_X1_init_79 (X : Sx) (l : Launch) (D : Nat) (x0 : Nat) (x3 : Int32) (σ : AH) (r : Option Value) (σ' : AH) : Prop := kd σ x0 = (1, NO 1) ∧ x0 < nx σ ∧ (if (3 : Int32) ≤ x3 then (r = none ∧ σ' = σ) else ∃ b125 n129 : Nat, gR σ x0 8 = some b125 ∧ kd σ b125 = (105, n129) ∧ b125 < nx σ ∧ (∀ τ130 : AH, τ130 = (aw σ 7 (NO 7)) → ∃ d139 : Nat, ∃ σ140 : AH, d139 + 1 ≤ D ∧ Call X l m_X7_init d139 [.ref (nx σ)] τ130 none σ140 ∧ al m_X1_init b125 ∧ vp_in x3 n129 ∧ (Sh σ140 → Sh (sR σ140 b125 x3.toNatClampNeg (some (nx σ)))) ∧ (∀ τ153 : AH, τ153 = (sR σ140 b125 x3.toNatClampNeg (some (nx σ))) → E X l m_X1_init D 79 [(0, .ref x0), (3, .int (x3 + 1))] [] τ153 r σ')))
set_option maxRecDepth 100000 in
theorem w_X1_init_79 {X : Sx} {l : Launch} {D : Nat} {x0 : Nat} {x3 : Int32} {σ : AH} {r : Option Value} {σ' : AH} (h : W_X1_init_79 X l D x0 x3 σ r σ') : E X l m_X1_init D 79 [(0, .ref x0), (3, .int x3)] [] σ r σ' := by
  unfold W_X1_init_79 at h
  obtain ⟨hkx0, hbx0, h⟩ := h
  refine E_iload_n 1 dX1_init_79 rfl rfl ?_
  refine E_iconst (3 : Int32) dX1_init_80 (by decide) ?_
  refine E_icmp_ge 103 dX1_init_81 (by decide) (fun c => ?_) (fun c => ?_)
  · rw [if_pos c] at h
    obtain ⟨rfl, rfl⟩ := h
    exact E_vret dX1_init_103 rfl
  · rw [if_neg c] at h
    refine E_aload_n 0 dX1_init_84 rfl rfl ?_
    obtain ⟨b125, n129, g126, hk127, hb128, h⟩ := h
    refine E_getR b125 dX1_init_85 fl_X1_29 rfl hkx0 hbx0 g126 ?_
    refine E_iload_n 1 dX1_init_88 rfl rfl ?_
    refine E_new 7 dX1_init_89 (by decide) ck_X1_15 ?_
    obtain ⟨τ130, e131⟩ : ∃ τ : AH, τ = (aw σ 7 (NO 7)) := ⟨_, rfl⟩
    replace h := h τ130 e131
    rw [← e131]
    have hk133 : kd _ x0 = (1, NO 1) := (congrFun (congrArg kd e131) _).trans ((up_ne _ _ _ (Nat.ne_of_lt hbx0)).trans hkx0)
    have hb134 := Nat.lt_of_lt_of_eq (Nat.lt_succ_of_lt hbx0) (congrArg nx e131).symm
    have hk135 : kd _ (nx σ) = (7, NO 7) := (congrFun (congrArg kd e131) _).trans (up_same _ _ _)
    have hb136 := Nat.lt_of_lt_of_eq (Nat.lt_succ_self _) (congrArg nx e131).symm
    have hk137 : kd _ b125 = (105, n129) := (congrFun (congrArg kd e131) _).trans ((up_ne _ _ _ (Nat.ne_of_lt hb128)).trans hk127)
    have hb138 := Nat.lt_of_lt_of_eq (Nat.lt_succ_of_lt hb128) (congrArg nx e131).symm
    refine E_dup dX1_init_92 rfl ?_
    obtain ⟨d139, σ140, hD141, hC142, h⟩ := h
    have hk144 := (hC142.1.2.2.1 _ hb134).trans hk133
    have hb145 := Nat.lt_of_lt_of_le hb134 hC142.1.1
    have hk146 := (hC142.1.2.2.1 _ hb136).trans hk135
    have hb147 := Nat.lt_of_lt_of_le hb136 hC142.1.1
    have hk148 := (hC142.1.2.2.1 _ hb138).trans hk137
    have hb149 := Nat.lt_of_lt_of_le hb138 hC142.1.1
    refine E_callIN (As := []) (rest := [.ref (nx σ), .int x3, .ref b125]) (r1 := none) (b := (nx σ)) dX1_init_93 ok_X7_init in_X7_init rfl rfl (by decide) hD141 rfl rfl (Nat.le_of_ble_eq_true rfl) (by decide +kernel) hC142 ?_
    obtain ⟨ga152, h⟩ := h
    obtain ⟨g150, g151, h⟩ := h
    refine E_aast dX1_init_96 hk148 hb149 (Or.inr (Or.inr rfl)) g150 hk146 hb147 (by decide) rfl ga152 g151 ?_
    obtain ⟨τ153, e154⟩ : ∃ τ : AH, τ = (sR σ140 b125 x3.toNatClampNeg (some (nx σ))) := ⟨_, rfl⟩
    replace h := h τ153 e154
    rw [← e154]
    have hk156 : kd _ x0 = (1, NO 1) := (congrFun (congrArg kd e154) _).trans hk144
    have hb157 := Nat.lt_of_lt_of_eq hb145 (congrArg nx e154).symm
    refine E_iinc 1 (x3 + 1) [(3, .int (x3 + 1)), (0, .ref x0)] dX1_init_97 rfl (congrArg (x3 + ·) (by decide : Int32.ofInt 1 = 1)) (by decide) rfl ?_
    refine E_goto 79 dX1_init_100 (by decide) ?_
    exact E_lv [1, 0] rfl h
def W_X1_isWished_0 (X : Sx) (l : Launch) (D : Nat) (x1 : Int32) (σ : AH) (r : Option Value) (σ' : AH) : Prop := E X l m_X1_isWished D 2 [(0, .ref 68), (1, .int x1), (2, .int (0 : Int32))] [] σ r σ'
set_option maxRecDepth 100000 in
theorem w_X1_isWished_0 {X : Sx} {l : Launch} {D : Nat} {x1 : Int32} {σ : AH} {r : Option Value} {σ' : AH} (hs : Sh σ) (h : W_X1_isWished_0 X l D x1 σ r σ') : E X l m_X1_isWished D 0 [(0, .ref 68), (1, .int x1)] [] σ r σ' := by
  unfold W_X1_isWished_0 at h
  refine E_iconst (0 : Int32) dX1_isWished_0 (by decide) ?_
  refine E_istore_n [(2, .int (0 : Int32)), (0, .ref 68), (1, .int x1)] dX1_isWished_1 rfl (by decide) rfl ?_
  exact E_lv [1, 2, 0] rfl h
def W_X1_isWished_2 (X : Sx) (l : Launch) (D : Nat) (x1 : Int32) (x2 : Int32) (σ : AH) (r : Option Value) (σ' : AH) : Prop := (if (gI σ 68 3) ≤ x2 then (r = some (.int (0 : Int32)) ∧ σ' = σ) else vp_in x2 6 ∧ (if (gI σ 69 x2.toNatClampNeg) = x1 then (r = some (.int (1 : Int32)) ∧ σ' = σ) else E X l m_X1_isWished D 2 [(0, .ref 68), (1, .int x1), (2, .int (x2 + 1))] [] σ r σ'))
set_option maxRecDepth 100000 in
theorem w_X1_isWished_2 {X : Sx} {l : Launch} {D : Nat} {x1 : Int32} {x2 : Int32} {σ : AH} {r : Option Value} {σ' : AH} (hs : Sh σ) (h : W_X1_isWished_2 X l D x1 x2 σ r σ') : E X l m_X1_isWished D 2 [(0, .ref 68), (1, .int x1), (2, .int x2)] [] σ r σ' := by
  unfold W_X1_isWished_2 at h
  refine E_iload_n 2 dX1_isWished_2 rfl rfl ?_
  refine E_aload_n 0 dX1_isWished_3 rfl rfl ?_
  refine E_getI dX1_isWished_4 fl_X1_53 rfl (sk_68 hs) (sn hs (by decide)) ?_
  refine E_icmp_ge 28 dX1_isWished_7 (by decide) (fun c => ?_) (fun c => ?_)
  · rw [if_pos c] at h
    refine E_iconst (0 : Int32) dX1_isWished_28 (by decide) ?_
    obtain ⟨rfl, rfl⟩ := h
    exact E_zret dX1_isWished_29 rfl (Or.inl rfl)
  · rw [if_neg c] at h
    refine E_aload_n 0 dX1_isWished_10 rfl rfl ?_
    refine E_getR 69 dX1_isWished_11 fl_X1_9 rfl (sk_68 hs) (sn hs (by decide)) (sr_68_2 hs) ?_
    refine E_iload_n 2 dX1_isWished_14 rfl rfl ?_
    obtain ⟨g1, h⟩ := h
    refine E_iald2 (x2.toNatClampNeg) dX1_isWished_15 (sk_69 hs) (sn hs (by decide)) g1 rfl ?_
    refine E_iload_n 1 dX1_isWished_16 rfl rfl ?_
    refine E_icmp_ne 22 dX1_isWished_17 (by decide) (fun c => ?_) (fun c => ?_)
    · rw [if_neg c] at h
      refine E_iinc 2 (x2 + 1) [(2, .int (x2 + 1)), (0, .ref 68), (1, .int x1)] dX1_isWished_22 rfl (congrArg (x2 + ·) (by decide : Int32.ofInt 1 = 1)) (by decide) rfl ?_
      refine E_goto 2 dX1_isWished_25 (by decide) ?_
      exact E_lv [1, 2, 0] rfl h
    · rw [if_pos c] at h
      refine E_iconst (1 : Int32) dX1_isWished_20 (by decide) ?_
      obtain ⟨rfl, rfl⟩ := h
      exact E_zret dX1_isWished_21 rfl (Or.inr rfl)
def W_X1_openQuarter_37 (X : Sx) (l : Launch) (D : Nat) (x3 : Int32) (σ : AH) (r : Option Value) (σ' : AH) : Prop := ∃ d6 : Nat, ∃ σ7 : AH, d6 + 1 ≤ D ∧ Call X l m_X7_empty d6 [.ref 70] (sI (sI σ 68 6 (gI σ 68 4)) 68 7 x3) none σ7 ∧ E X l m_X1_openQuarter D 60 [(0, .ref 68), (4, .int (0 : Int32))] [] σ7 r σ'
set_option maxRecDepth 100000 in
theorem w_X1_openQuarter_37 {X : Sx} {l : Launch} {D : Nat} {x3 : Int32} {σ : AH} {r : Option Value} {σ' : AH} (hs : Sh σ) (h : W_X1_openQuarter_37 X l D x3 σ r σ') : E X l m_X1_openQuarter D 37 [(0, .ref 68), (3, .int x3)] [] σ r σ' := by
  unfold W_X1_openQuarter_37 at h
  refine E_aload_n 0 dX1_openQuarter_37 rfl rfl ?_
  refine E_aload_n 0 dX1_openQuarter_38 rfl rfl ?_
  refine E_getI dX1_openQuarter_39 fl_X1_56 rfl (sk_68 hs) (sn hs (by decide)) ?_
  refine E_putI dX1_openQuarter_42 fl_X1_22 rfl (Or.inl rfl) (sk_68 hs) (sn hs (by decide)) (Or.inl (by decide)) rfl rfl ?_
  refine E_aload_n 0 dX1_openQuarter_45 rfl rfl ?_
  refine E_iload_n 1 dX1_openQuarter_46 rfl rfl ?_
  refine E_putI dX1_openQuarter_47 fl_X1_26 rfl (Or.inl rfl) (sk_68 hs) (sn hs (by decide)) (Or.inl (by decide)) rfl rfl ?_
  refine E_aload_n 0 dX1_openQuarter_50 rfl rfl ?_
  refine E_getR 70 dX1_openQuarter_51 fl_X1_18 rfl (sk_68 hs) (sn hs (by decide)) (sr_68_5 hs) ?_
  obtain ⟨d6, σ7, hD8, hC9, h⟩ := h
  have hs10 := hC9.1.2.2.2.1 hs
  refine E_callV (As := []) (rest := []) (r1 := none) (b := 70) dX1_openQuarter_54 ok_X7_empty in_X7_empty se_X7_empty ml_X1_65 hD8 rfl rfl (Nat.le_of_ble_eq_true rfl) (sk_70 hs) (sn hs (by decide)) (by decide) rfl (by decide +kernel) hC9 ?_
  refine E_iconst (0 : Int32) dX1_openQuarter_57 (by decide) ?_
  refine E_istore [(4, .int (0 : Int32)), (0, .ref 68), (3, .int x3)] dX1_openQuarter_58 (by decide) rfl ?_
  exact E_lv [1, 0] rfl h
def W_X1_openQuarter_0 (X : Sx) (l : Launch) (D : Nat) (x1 : Int32) (x2 : Int32) (x3 : Int32) (σ : AH) (r : Option Value) (σ' : AH) : Prop := ∃ d1 : Nat, ∃ σ2 : AH, d1 + 1 ≤ D ∧ Call X l m_X10_prepare d1 [.ref 34, .int x2, .int (0 : Int32), .int x3] (sI σ 68 4 (x1 * (13 : Int32))) none σ2 ∧ (if (gI σ2 68 6) = (gI σ2 68 4) then (if (gI σ2 68 7) = x3 then (r = none ∧ σ' = σ2) else W_X1_openQuarter_37 X l D x3 σ2 r σ') else W_X1_openQuarter_37 X l D x3 σ2 r σ')
set_option maxRecDepth 100000 in
theorem w_X1_openQuarter_0 {X : Sx} {l : Launch} {D : Nat} {x1 : Int32} {x2 : Int32} {x3 : Int32} {σ : AH} {r : Option Value} {σ' : AH} (hs : Sh σ) (h : W_X1_openQuarter_0 X l D x1 x2 x3 σ r σ') : E X l m_X1_openQuarter D 0 [(0, .ref 68), (1, .int x1), (2, .int x2), (3, .int x3)] [] σ r σ' := by
  unfold W_X1_openQuarter_0 at h
  refine E_aload_n 0 dX1_openQuarter_0 rfl rfl ?_
  refine E_iload_n 1 dX1_openQuarter_1 rfl rfl ?_
  refine E_bipush (13 : Int32) dX1_openQuarter_2 (by decide) ?_
  refine E_imul dX1_openQuarter_4 ?_
  refine E_putI dX1_openQuarter_5 fl_X1_56 rfl (Or.inl rfl) (sk_68 hs) (sn hs (by decide)) (Or.inl (by decide)) rfl rfl ?_
  refine E_aload_n 0 dX1_openQuarter_8 rfl rfl ?_
  refine E_getR 34 dX1_openQuarter_9 fl_X1_49 rfl (sk_68 hs) (sn hs (by decide)) (sr_68_1 hs) ?_
  refine E_iload_n 2 dX1_openQuarter_12 rfl rfl ?_
  refine E_iconst (0 : Int32) dX1_openQuarter_13 (by decide) ?_
  refine E_iload_n 3 dX1_openQuarter_14 rfl rfl ?_
  obtain ⟨d1, σ2, hD3, hC4, h⟩ := h
  have hs5 := hC4.1.2.2.2.1 hs
  refine E_callV (As := [.int x2, .int (0 : Int32), .int x3]) (rest := []) (r1 := none) (b := 34) dX1_openQuarter_15 ok_X10_prepare in_X10_prepare se_X10_prepare ml_X1_59 hD3 rfl rfl (Nat.le_of_ble_eq_true rfl) (sk_34 hs) (sn hs (by decide)) (by decide) rfl (by decide +kernel) hC4 ?_
  refine E_aload_n 0 dX1_openQuarter_18 rfl rfl ?_
  refine E_getI dX1_openQuarter_19 fl_X1_22 rfl (sk_68 hs5) (sn hs5 (by decide)) ?_
  refine E_aload_n 0 dX1_openQuarter_22 rfl rfl ?_
  refine E_getI dX1_openQuarter_23 fl_X1_56 rfl (sk_68 hs5) (sn hs5 (by decide)) ?_
  refine E_icmp_ne 37 dX1_openQuarter_26 (by decide) (fun c => ?_) (fun c => ?_)
  · rw [if_neg c] at h
    exact E_lv [0, 3] rfl (w_X1_openQuarter_37 hs5 h)
  · rw [if_pos c] at h
    refine E_aload_n 0 dX1_openQuarter_29 rfl rfl ?_
    refine E_getI dX1_openQuarter_30 fl_X1_26 rfl (sk_68 hs5) (sn hs5 (by decide)) ?_
    refine E_iload_n 3 dX1_openQuarter_33 rfl rfl ?_
    refine E_icmp_eq 88 dX1_openQuarter_34 (by decide) (fun c => ?_) (fun c => ?_)
    · rw [if_pos c] at h
      obtain ⟨rfl, rfl⟩ := h
      exact E_vret dX1_openQuarter_88 rfl
    · rw [if_neg c] at h
      exact E_lv [0, 3] rfl (w_X1_openQuarter_37 hs5 h)
def W_X1_openQuarter_60 (X : Sx) (l : Launch) (D : Nat) (x4 : Int32) (σ : AH) (r : Option Value) (σ' : AH) : Prop := (if (gI σ 68 4) ≤ x4 then (r = none ∧ σ' = σ) else ∃ d11 : Nat, ∃ σ12 : AH, d11 + 1 ≤ D ∧ Call X l m_X10_passWeek d11 [.ref 34, .ref 70, .int x4] σ none σ12 ∧ E X l m_X1_openQuarter D 60 [(0, .ref 68), (4, .int (x4 + 1))] [] σ12 r σ')
set_option maxRecDepth 100000 in
theorem w_X1_openQuarter_60 {X : Sx} {l : Launch} {D : Nat} {x4 : Int32} {σ : AH} {r : Option Value} {σ' : AH} (hs : Sh σ) (h : W_X1_openQuarter_60 X l D x4 σ r σ') : E X l m_X1_openQuarter D 60 [(0, .ref 68), (4, .int x4)] [] σ r σ' := by
  unfold W_X1_openQuarter_60 at h
  refine E_iload 1 dX1_openQuarter_60 rfl ?_
  refine E_aload_n 0 dX1_openQuarter_62 rfl rfl ?_
  refine E_getI dX1_openQuarter_63 fl_X1_56 rfl (sk_68 hs) (sn hs (by decide)) ?_
  refine E_icmp_ge 88 dX1_openQuarter_66 (by decide) (fun c => ?_) (fun c => ?_)
  · rw [if_pos c] at h
    obtain ⟨rfl, rfl⟩ := h
    exact E_vret dX1_openQuarter_88 rfl
  · rw [if_neg c] at h
    refine E_aload_n 0 dX1_openQuarter_69 rfl rfl ?_
    refine E_getR 34 dX1_openQuarter_70 fl_X1_49 rfl (sk_68 hs) (sn hs (by decide)) (sr_68_1 hs) ?_
    refine E_aload_n 0 dX1_openQuarter_73 rfl rfl ?_
    refine E_getR 70 dX1_openQuarter_74 fl_X1_18 rfl (sk_68 hs) (sn hs (by decide)) (sr_68_5 hs) ?_
    refine E_iload 1 dX1_openQuarter_77 rfl ?_
    obtain ⟨d11, σ12, hD13, hC14, h⟩ := h
    have hs15 := hC14.1.2.2.2.1 hs
    refine E_callV (As := [.ref 70, .int x4]) (rest := []) (r1 := none) (b := 34) dX1_openQuarter_79 ok_X10_passWeek in_X10_passWeek se_X10_passWeek ml_X1_68 hD13 rfl rfl (Nat.le_of_ble_eq_true rfl) (sk_34 hs) (sn hs (by decide)) (by decide) rfl (by decide +kernel) hC14 ?_
    refine E_iinc 1 (x4 + 1) [(4, .int (x4 + 1)), (0, .ref 68)] dX1_openQuarter_82 rfl (congrArg (x4 + ·) (by decide : Int32.ofInt 1 = 1)) (by decide) rfl ?_
    refine E_goto 60 dX1_openQuarter_85 (by decide) ?_
    exact E_lv [1, 0] rfl h
def W_X1_forget_0 (X : Sx) (l : Launch) (D : Nat) (σ : AH) (r : Option Value) (σ' : AH) : Prop := 1 ≤ D ∧ (∀ τ2 : AH, τ2 = (sA σ 81 (filln (gI σ 81) 6 (0 : Int32))) → (r = none ∧ σ' = (sI (sI (sI τ2 68 12 (-1 : Int32)) 68 13 (-1 : Int32)) 68 11 (gI (sI (sI τ2 68 12 (-1 : Int32)) 68 13 (-1 : Int32)) 68 3))))
set_option maxRecDepth 100000 in
theorem w_X1_forget_0 {X : Sx} {l : Launch} {D : Nat} {σ : AH} {r : Option Value} {σ' : AH} (hs : Sh σ) (h : W_X1_forget_0 X l D σ r σ') : E X l m_X1_forget D 0 [(0, .ref 68)] [] σ r σ' := by
  unfold W_X1_forget_0 at h
  refine E_aload_n 0 dX1_forget_0 rfl rfl ?_
  refine E_getR 81 dX1_forget_1 fl_X1_33 rfl (sk_68 hs) (sn hs (by decide)) (sr_68_9 hs) ?_
  refine E_iconst (0 : Int32) dX1_forget_4 (by decide) ?_
  obtain ⟨g1, h⟩ := h
  refine E_fill dX1_forget_5 ml_X1_72 (sk_81 hs) (sn hs (by decide)) (Or.inl (by decide)) g1 (by decide) (Nat.le_of_ble_eq_true rfl) ?_
  obtain ⟨τ2, e3⟩ : ∃ τ : AH, τ = (sA σ 81 (filln (gI σ 81) 6 (0 : Int32))) := ⟨_, rfl⟩
  replace h := h τ2 e3
  rw [← e3]
  have hs4 : Sh τ2 := by rw [e3]; exact hs
  refine E_aload_n 0 dX1_forget_8 rfl rfl ?_
  refine E_iconst (-1 : Int32) dX1_forget_9 (by decide) ?_
  refine E_putI dX1_forget_10 fl_X1_39 rfl (Or.inl rfl) (sk_68 hs4) (sn hs4 (by decide)) (Or.inl (by decide)) rfl rfl ?_
  refine E_aload_n 0 dX1_forget_13 rfl rfl ?_
  refine E_iconst (-1 : Int32) dX1_forget_14 (by decide) ?_
  refine E_putI dX1_forget_15 fl_X1_42 rfl (Or.inl rfl) (sk_68 hs4) (sn hs4 (by decide)) (Or.inl (by decide)) rfl rfl ?_
  refine E_aload_n 0 dX1_forget_18 rfl rfl ?_
  refine E_aload_n 0 dX1_forget_19 rfl rfl ?_
  refine E_getI dX1_forget_20 fl_X1_53 rfl (sk_68 hs4) (sn hs4 (by decide)) ?_
  refine E_putI dX1_forget_23 fl_X1_78 rfl (Or.inl rfl) (sk_68 hs4) (sn hs4 (by decide)) (Or.inl (by decide)) rfl rfl ?_
  obtain ⟨rfl, rfl⟩ := h
  exact E_vret dX1_forget_26 rfl
def W_X1_tell_0 (X : Sx) (l : Launch) (D : Nat) (x1 : Int32) (σ : AH) (r : Option Value) (σ' : AH) : Prop := E X l m_X1_tell D 2 [(0, .ref 68), (1, .int x1), (2, .int (0 : Int32))] [] σ r σ'
set_option maxRecDepth 100000 in
theorem w_X1_tell_0 {X : Sx} {l : Launch} {D : Nat} {x1 : Int32} {σ : AH} {r : Option Value} {σ' : AH} (hs : Sh σ) (h : W_X1_tell_0 X l D x1 σ r σ') : E X l m_X1_tell D 0 [(0, .ref 68), (1, .int x1)] [] σ r σ' := by
  unfold W_X1_tell_0 at h
  refine E_iconst (0 : Int32) dX1_tell_0 (by decide) ?_
  refine E_istore_n [(2, .int (0 : Int32)), (0, .ref 68), (1, .int x1)] dX1_tell_1 rfl (by decide) rfl ?_
  exact E_lv [1, 2, 0] rfl h
def W_X1_tell_2 (X : Sx) (l : Launch) (D : Nat) (x1 : Int32) (x2 : Int32) (σ : AH) (r : Option Value) (σ' : AH) : Prop := (if (6 : Int32) ≤ x2 then (r = none ∧ σ' = σ) else vp_in x2 6 ∧ E X l m_X1_tell D 2 [(0, .ref 68), (1, .int x1), (2, .int (x2 + 1))] [] (sI σ 81 x2.toNatClampNeg ((x1 >>> (((2 : Int32) * x2) &&& 31)) &&& (3 : Int32))) r σ')
set_option maxRecDepth 100000 in
theorem w_X1_tell_2 {X : Sx} {l : Launch} {D : Nat} {x1 : Int32} {x2 : Int32} {σ : AH} {r : Option Value} {σ' : AH} (hs : Sh σ) (h : W_X1_tell_2 X l D x1 x2 σ r σ') : E X l m_X1_tell D 2 [(0, .ref 68), (1, .int x1), (2, .int x2)] [] σ r σ' := by
  unfold W_X1_tell_2 at h
  refine E_iload_n 2 dX1_tell_2 rfl rfl ?_
  refine E_bipush (6 : Int32) dX1_tell_3 (by decide) ?_
  refine E_icmp_ge 27 dX1_tell_5 (by decide) (fun c => ?_) (fun c => ?_)
  · rw [if_pos c] at h
    obtain ⟨rfl, rfl⟩ := h
    exact E_vret dX1_tell_27 rfl
  · rw [if_neg c] at h
    refine E_aload_n 0 dX1_tell_8 rfl rfl ?_
    refine E_getR 81 dX1_tell_9 fl_X1_33 rfl (sk_68 hs) (sn hs (by decide)) (sr_68_9 hs) ?_
    refine E_iload_n 2 dX1_tell_12 rfl rfl ?_
    refine E_iload_n 1 dX1_tell_13 rfl rfl ?_
    refine E_iconst (2 : Int32) dX1_tell_14 (by decide) ?_
    refine E_iload_n 2 dX1_tell_15 rfl rfl ?_
    refine E_imul dX1_tell_16 ?_
    refine E_ishr dX1_tell_17 ?_
    refine E_iconst (3 : Int32) dX1_tell_18 (by decide) ?_
    refine E_iand dX1_tell_19 ?_
    obtain ⟨g1, h⟩ := h
    refine E_iast2 (x2.toNatClampNeg) dX1_tell_20 (sk_81 hs) (sn hs (by decide)) (Or.inl (by decide)) g1 rfl ?_
    refine E_iinc 2 (x2 + 1) [(2, .int (x2 + 1)), (0, .ref 68), (1, .int x1)] dX1_tell_21 rfl (congrArg (x2 + ·) (by decide : Int32.ofInt 1 = 1)) (by decide) rfl ?_
    refine E_goto 2 dX1_tell_24 (by decide) ?_
    exact E_lv [1, 2, 0] rfl h
def W_X1_playRow_0 (X : Sx) (l : Launch) (D : Nat) (σ : AH) (r : Option Value) (σ' : AH) : Prop := vp_in (0 : Int32) 3 ∧ ∃ b1 : Nat, gR σ 80 (0 : Int32).toNatClampNeg = some b1 ∧ b1 ∈ siteIds ∧ ∃ d7 : Nat, ∃ v12 : Int32, ∃ σ8 : AH, d7 + 1 ≤ D ∧ Call X l m_X8_rows d7 [.ref 9] σ (some (.int v12)) σ8 ∧ ∃ d13 : Nat, ∃ σ14 : AH, d13 + 1 ≤ D ∧ Call X l m_X7_copyFrom d13 [.ref b1, .ref 70, .int v12] σ8 none σ14 ∧ E X l m_X1_playRow D 27 [(0, .ref 68), (1, .ref b1), (2, .int (0 : Int32))] [] σ14 r σ'
set_option maxRecDepth 100000 in
theorem w_X1_playRow_0 {X : Sx} {l : Launch} {D : Nat} {σ : AH} {r : Option Value} {σ' : AH} (hs : Sh σ) (h : W_X1_playRow_0 X l D σ r σ') : E X l m_X1_playRow D 0 [(0, .ref 68)] [] σ r σ' := by
  unfold W_X1_playRow_0 at h
  refine E_aload_n 0 dX1_playRow_0 rfl rfl ?_
  refine E_getR 80 dX1_playRow_1 fl_X1_29 rfl (sk_68 hs) (sn hs (by decide)) (sr_68_8 hs) ?_
  refine E_iconst (0 : Int32) dX1_playRow_4 (by decide) ?_
  obtain ⟨g5, b1, g2, hk3, h⟩ := h
  refine E_aald b1 dX1_playRow_5 (sk_80 hs) (sn hs (by decide)) (Or.inr (Or.inr rfl)) g5 g2 ?_
  refine E_astore_n [(1, .ref b1), (0, .ref 68)] dX1_playRow_6 rfl (by decide) rfl ?_
  refine E_aload_n 0 dX1_playRow_7 rfl rfl ?_
  refine E_aload_n 1 dX1_playRow_8 rfl rfl ?_
  refine E_getR 70 dX1_playRow_9 fl_X1_18 rfl (sk_68 hs) (sn hs (by decide)) (sr_68_5 hs) ?_
  refine E_aload_n 1 dX1_playRow_12 rfl rfl ?_
  refine E_getR 1 dX1_playRow_13 fl_X1_45 rfl (sk_68 hs) (sn hs (by decide)) (sr_68_0 hs) ?_
  refine E_getR 9 dX1_playRow_16 fl_X1_81 rfl (sk_1 hs) (sn hs (by decide)) (sr_1_5 hs) ?_
  obtain ⟨d7, v12, σ8, hD9, hC10, h⟩ := h
  have hs11 := hC10.1.2.2.2.1 hs
  refine E_callV (As := []) (rest := [.ref 70, .ref b1]) (r1 := (some (.int v12))) (b := 9) dX1_playRow_19 ok_X8_rows in_X8_rows se_X8_rows ml_X1_87 hD9 rfl rfl (Nat.le_of_ble_eq_true rfl) (sk_9 hs) (sn hs (by decide)) (by decide) rfl (by decide +kernel) hC10 ?_
  obtain ⟨d13, σ14, hD15, hC16, h⟩ := h
  have hs17 := hC16.1.2.2.2.1 hs11
  refine E_callV (As := [.ref 70, .int v12]) (rest := []) (r1 := none) (b := b1) dX1_playRow_22 ok_X7_copyFrom in_X7_copyFrom se_X7_copyFrom ml_X1_93 hD15 rfl rfl (Nat.le_of_ble_eq_true rfl) (st_k hs11 hk3) (st_n hs11 hk3 (j := 0) (by decide)) (by decide) rfl (by decide +kernel) hC16 ?_
  refine E_iconst (0 : Int32) dX1_playRow_25 (by decide) ?_
  refine E_istore_n [(2, .int (0 : Int32)), (1, .ref b1), (0, .ref 68)] dX1_playRow_26 rfl (by decide) rfl ?_
  exact E_lv [2, 1, 0] rfl h
def W_X1_playRow_27 (X : Sx) (l : Launch) (D : Nat) (x1 : Nat) (x2 : Int32) (σ : AH) (r : Option Value) (σ' : AH) : Prop := (if (3 : Int32) ≤ x2 then E X l m_X1_playRow D 48 [(0, .ref 68), (1, .ref x1), (2, .int (gI σ 68 4))] [] σ r σ' else ∃ d18 : Nat, ∃ σ19 : AH, d18 + 1 ≤ D ∧ Call X l m_X1_tellStarts d18 [.ref 68, .int x2] σ none σ19 ∧ E X l m_X1_playRow D 27 [(0, .ref 68), (1, .ref x1), (2, .int (x2 + 1))] [] σ19 r σ')
set_option maxRecDepth 100000 in
theorem w_X1_playRow_27 {X : Sx} {l : Launch} {D : Nat} {x1 : Nat} {x2 : Int32} {σ : AH} {r : Option Value} {σ' : AH} (hs : Sh σ) (hmx1 : x1 ∈ siteIds) (h : W_X1_playRow_27 X l D x1 x2 σ r σ') : E X l m_X1_playRow D 27 [(0, .ref 68), (1, .ref x1), (2, .int x2)] [] σ r σ' := by
  unfold W_X1_playRow_27 at h
  refine E_iload_n 2 dX1_playRow_27 rfl rfl ?_
  refine E_iconst (3 : Int32) dX1_playRow_28 (by decide) ?_
  refine E_icmp_ge 43 dX1_playRow_29 (by decide) (fun c => ?_) (fun c => ?_)
  · rw [if_pos c] at h
    refine E_aload_n 0 dX1_playRow_43 rfl rfl ?_
    refine E_getI dX1_playRow_44 fl_X1_56 rfl (sk_68 hs) (sn hs (by decide)) ?_
    refine E_istore_n [(2, .int (gI σ 68 4)), (0, .ref 68), (1, .ref x1)] dX1_playRow_47 rfl (by decide) rfl ?_
    exact E_lv [1, 2, 0] rfl h
  · rw [if_neg c] at h
    refine E_aload_n 0 dX1_playRow_32 rfl rfl ?_
    refine E_iload_n 2 dX1_playRow_33 rfl rfl ?_
    obtain ⟨d18, σ19, hD20, hC21, h⟩ := h
    have hs22 := hC21.1.2.2.2.1 hs
    refine E_callV (As := [.int x2]) (rest := []) (r1 := none) (b := 68) dX1_playRow_34 ok_X1_tellStarts in_X1_tellStarts se_X1_tellStarts ml_X1_96 hD20 rfl rfl (Nat.le_of_ble_eq_true rfl) (sk_68 hs) (sn hs (by decide)) (by decide) rfl (by decide +kernel) hC21 ?_
    refine E_iinc 2 (x2 + 1) [(2, .int (x2 + 1)), (0, .ref 68), (1, .ref x1)] dX1_playRow_37 rfl (congrArg (x2 + ·) (by decide : Int32.ofInt 1 = 1)) (by decide) rfl ?_
    refine E_goto 27 dX1_playRow_40 (by decide) ?_
    exact E_lv [1, 2, 0] rfl h
def W_X1_playRow_48 (X : Sx) (l : Launch) (D : Nat) (x1 : Nat) (x2 : Int32) (σ : AH) (r : Option Value) (σ' : AH) : Prop := (if ((gI σ 68 4) + (13 : Int32)) ≤ x2 then ∃ d23 : Nat, ∃ σ24 : AH, d23 + 1 ≤ D ∧ Call X l m_X1_dropStarts d23 [.ref 68] σ none σ24 ∧ (r = some (.ref x1) ∧ σ' = σ24) else ∃ d28 : Nat, ∃ σ29 : AH, d28 + 1 ≤ D ∧ Call X l m_X10_passWeek d28 [.ref 34, .ref x1, .int x2] σ none σ29 ∧ E X l m_X1_playRow D 48 [(0, .ref 68), (1, .ref x1), (2, .int (x2 + 1))] [] σ29 r σ')
set_option maxRecDepth 100000 in
theorem w_X1_playRow_48 {X : Sx} {l : Launch} {D : Nat} {x1 : Nat} {x2 : Int32} {σ : AH} {r : Option Value} {σ' : AH} (hs : Sh σ) (hmx1 : x1 ∈ siteIds) (h : W_X1_playRow_48 X l D x1 x2 σ r σ') : E X l m_X1_playRow D 48 [(0, .ref 68), (1, .ref x1), (2, .int x2)] [] σ r σ' := by
  unfold W_X1_playRow_48 at h
  refine E_iload_n 2 dX1_playRow_48 rfl rfl ?_
  refine E_aload_n 0 dX1_playRow_49 rfl rfl ?_
  refine E_getI dX1_playRow_50 fl_X1_56 rfl (sk_68 hs) (sn hs (by decide)) ?_
  refine E_bipush (13 : Int32) dX1_playRow_53 (by decide) ?_
  refine E_iadd dX1_playRow_55 ?_
  refine E_icmp_ge 74 dX1_playRow_56 (by decide) (fun c => ?_) (fun c => ?_)
  · rw [if_pos c] at h
    refine E_aload_n 0 dX1_playRow_74 rfl rfl ?_
    obtain ⟨d23, σ24, hD25, hC26, h⟩ := h
    have hs27 := hC26.1.2.2.2.1 hs
    refine E_callV (As := []) (rest := []) (r1 := none) (b := 68) dX1_playRow_75 ok_X1_dropStarts in_X1_dropStarts se_X1_dropStarts ml_X1_100 hD25 rfl rfl (Nat.le_of_ble_eq_true rfl) (sk_68 hs) (sn hs (by decide)) (by decide) rfl (by decide +kernel) hC26 ?_
    refine E_aload_n 1 dX1_playRow_78 rfl rfl ?_
    obtain ⟨rfl, rfl⟩ := h
    exact E_aret dX1_playRow_79 rfl (Or.inl ⟨_, rfl⟩)
  · rw [if_neg c] at h
    refine E_aload_n 0 dX1_playRow_59 rfl rfl ?_
    refine E_getR 34 dX1_playRow_60 fl_X1_49 rfl (sk_68 hs) (sn hs (by decide)) (sr_68_1 hs) ?_
    refine E_aload_n 1 dX1_playRow_63 rfl rfl ?_
    refine E_iload_n 2 dX1_playRow_64 rfl rfl ?_
    obtain ⟨d28, σ29, hD30, hC31, h⟩ := h
    have hs32 := hC31.1.2.2.2.1 hs
    refine E_callV (As := [.ref x1, .int x2]) (rest := []) (r1 := none) (b := 34) dX1_playRow_65 ok_X10_passWeek in_X10_passWeek se_X10_passWeek ml_X1_68 hD30 rfl rfl (Nat.le_of_ble_eq_true rfl) (sk_34 hs) (sn hs (by decide)) (by decide) rfl (by decide +kernel) hC31 ?_
    refine E_iinc 2 (x2 + 1) [(2, .int (x2 + 1)), (0, .ref 68), (1, .ref x1)] dX1_playRow_68 rfl (congrArg (x2 + ·) (by decide : Int32.ofInt 1 = 1)) (by decide) rfl ?_
    refine E_goto 48 dX1_playRow_71 (by decide) ?_
    exact E_lv [1, 2, 0] rfl h
def W_X1_tellStarts_0 (X : Sx) (l : Launch) (D : Nat) (x1 : Int32) (σ : AH) (r : Option Value) (σ' : AH) : Prop := E X l m_X1_tellStarts D 2 [(0, .ref 68), (1, .int x1), (2, .int (0 : Int32))] [] σ r σ'
set_option maxRecDepth 100000 in
theorem w_X1_tellStarts_0 {X : Sx} {l : Launch} {D : Nat} {x1 : Int32} {σ : AH} {r : Option Value} {σ' : AH} (hs : Sh σ) (h : W_X1_tellStarts_0 X l D x1 σ r σ') : E X l m_X1_tellStarts D 0 [(0, .ref 68), (1, .int x1)] [] σ r σ' := by
  unfold W_X1_tellStarts_0 at h
  refine E_iconst (0 : Int32) dX1_tellStarts_0 (by decide) ?_
  refine E_istore_n [(2, .int (0 : Int32)), (0, .ref 68), (1, .int x1)] dX1_tellStarts_1 rfl (by decide) rfl ?_
  exact E_lv [1, 2, 0] rfl h
def W_X1_tellStarts_43 (X : Sx) (l : Launch) (D : Nat) (x1 : Int32) (x2 : Int32) (σ : AH) (r : Option Value) (σ' : AH) : Prop := E X l m_X1_tellStarts D 2 [(0, .ref 68), (1, .int x1), (2, .int (x2 + 1))] [] σ r σ'
set_option maxRecDepth 100000 in
theorem w_X1_tellStarts_43 {X : Sx} {l : Launch} {D : Nat} {x1 : Int32} {x2 : Int32} {σ : AH} {r : Option Value} {σ' : AH} (hs : Sh σ) (h : W_X1_tellStarts_43 X l D x1 x2 σ r σ') : E X l m_X1_tellStarts D 43 [(0, .ref 68), (1, .int x1), (2, .int x2)] [] σ r σ' := by
  unfold W_X1_tellStarts_43 at h
  refine E_iinc 2 (x2 + 1) [(2, .int (x2 + 1)), (0, .ref 68), (1, .int x1)] dX1_tellStarts_43 rfl (congrArg (x2 + ·) (by decide : Int32.ofInt 1 = 1)) (by decide) rfl ?_
  refine E_goto 2 dX1_tellStarts_46 (by decide) ?_
  exact E_lv [1, 2, 0] rfl h
def W_X1_tellStarts_2 (X : Sx) (l : Launch) (D : Nat) (x1 : Int32) (x2 : Int32) (σ : AH) (r : Option Value) (σ' : AH) : Prop := (if (gI σ 68 3) ≤ x2 then (r = none ∧ σ' = σ) else vp_in x2 6 ∧ (if (gI σ 81 x2.toNatClampNeg) = (x1 + (1 : Int32)) then vp_in x2 6 ∧ ∃ d3 : Nat, ∃ σ4 : AH, d3 + 1 ≤ D ∧ Call X l m_X10_tellStart d3 [.ref 34, .int (gI σ 69 x2.toNatClampNeg), .int ((gI σ 68 4) + (x1 * (4 : Int32)))] σ none σ4 ∧ W_X1_tellStarts_43 X l D x1 x2 σ4 r σ' else W_X1_tellStarts_43 X l D x1 x2 σ r σ'))
set_option maxRecDepth 100000 in
theorem w_X1_tellStarts_2 {X : Sx} {l : Launch} {D : Nat} {x1 : Int32} {x2 : Int32} {σ : AH} {r : Option Value} {σ' : AH} (hs : Sh σ) (h : W_X1_tellStarts_2 X l D x1 x2 σ r σ') : E X l m_X1_tellStarts D 2 [(0, .ref 68), (1, .int x1), (2, .int x2)] [] σ r σ' := by
  unfold W_X1_tellStarts_2 at h
  refine E_iload_n 2 dX1_tellStarts_2 rfl rfl ?_
  refine E_aload_n 0 dX1_tellStarts_3 rfl rfl ?_
  refine E_getI dX1_tellStarts_4 fl_X1_53 rfl (sk_68 hs) (sn hs (by decide)) ?_
  refine E_icmp_ge 49 dX1_tellStarts_7 (by decide) (fun c => ?_) (fun c => ?_)
  · rw [if_pos c] at h
    obtain ⟨rfl, rfl⟩ := h
    exact E_vret dX1_tellStarts_49 rfl
  · rw [if_neg c] at h
    refine E_aload_n 0 dX1_tellStarts_10 rfl rfl ?_
    refine E_getR 81 dX1_tellStarts_11 fl_X1_33 rfl (sk_68 hs) (sn hs (by decide)) (sr_68_9 hs) ?_
    refine E_iload_n 2 dX1_tellStarts_14 rfl rfl ?_
    obtain ⟨g1, h⟩ := h
    refine E_iald2 (x2.toNatClampNeg) dX1_tellStarts_15 (sk_81 hs) (sn hs (by decide)) g1 rfl ?_
    refine E_iload_n 1 dX1_tellStarts_16 rfl rfl ?_
    refine E_iconst (1 : Int32) dX1_tellStarts_17 (by decide) ?_
    refine E_iadd dX1_tellStarts_18 ?_
    refine E_icmp_ne 43 dX1_tellStarts_19 (by decide) (fun c => ?_) (fun c => ?_)
    · rw [if_neg c] at h
      exact E_lv [0, 1, 2] rfl (w_X1_tellStarts_43 hs h)
    · rw [if_pos c] at h
      refine E_aload_n 0 dX1_tellStarts_22 rfl rfl ?_
      refine E_getR 34 dX1_tellStarts_23 fl_X1_49 rfl (sk_68 hs) (sn hs (by decide)) (sr_68_1 hs) ?_
      refine E_aload_n 0 dX1_tellStarts_26 rfl rfl ?_
      refine E_getR 69 dX1_tellStarts_27 fl_X1_9 rfl (sk_68 hs) (sn hs (by decide)) (sr_68_2 hs) ?_
      refine E_iload_n 2 dX1_tellStarts_30 rfl rfl ?_
      obtain ⟨g2, h⟩ := h
      refine E_iald2 (x2.toNatClampNeg) dX1_tellStarts_31 (sk_69 hs) (sn hs (by decide)) g2 rfl ?_
      refine E_aload_n 0 dX1_tellStarts_32 rfl rfl ?_
      refine E_getI dX1_tellStarts_33 fl_X1_56 rfl (sk_68 hs) (sn hs (by decide)) ?_
      refine E_iload_n 1 dX1_tellStarts_36 rfl rfl ?_
      refine E_iconst (4 : Int32) dX1_tellStarts_37 (by decide) ?_
      refine E_imul dX1_tellStarts_38 ?_
      refine E_iadd dX1_tellStarts_39 ?_
      obtain ⟨d3, σ4, hD5, hC6, h⟩ := h
      have hs7 := hC6.1.2.2.2.1 hs
      refine E_callV (As := [.int (gI σ 69 x2.toNatClampNeg), .int ((gI σ 68 4) + (x1 * (4 : Int32)))]) (rest := []) (r1 := none) (b := 34) dX1_tellStarts_40 ok_X10_tellStart in_X10_tellStart se_X10_tellStart ml_X1_103 hD5 rfl rfl (Nat.le_of_ble_eq_true rfl) (sk_34 hs) (sn hs (by decide)) (by decide) rfl (by decide +kernel) hC6 ?_
      exact E_lv [0, 1, 2] rfl (w_X1_tellStarts_43 hs7 h)
def W_X1_dropStarts_0 (X : Sx) (l : Launch) (D : Nat) (σ : AH) (r : Option Value) (σ' : AH) : Prop := E X l m_X1_dropStarts D 2 [(0, .ref 68), (1, .int (0 : Int32))] [] σ r σ'
set_option maxRecDepth 100000 in
theorem w_X1_dropStarts_0 {X : Sx} {l : Launch} {D : Nat} {σ : AH} {r : Option Value} {σ' : AH} (hs : Sh σ) (h : W_X1_dropStarts_0 X l D σ r σ') : E X l m_X1_dropStarts D 0 [(0, .ref 68)] [] σ r σ' := by
  unfold W_X1_dropStarts_0 at h
  refine E_iconst (0 : Int32) dX1_dropStarts_0 (by decide) ?_
  refine E_istore_n [(1, .int (0 : Int32)), (0, .ref 68)] dX1_dropStarts_1 rfl (by decide) rfl ?_
  exact E_lv [1, 0] rfl h
def W_X1_dropStarts_2 (X : Sx) (l : Launch) (D : Nat) (x1 : Int32) (σ : AH) (r : Option Value) (σ' : AH) : Prop := (if (gI σ 68 3) ≤ x1 then (r = none ∧ σ' = σ) else vp_in x1 6 ∧ ∃ d2 : Nat, ∃ σ3 : AH, d2 + 1 ≤ D ∧ Call X l m_X10_dropStart d2 [.ref 34, .int (gI σ 69 x1.toNatClampNeg)] σ none σ3 ∧ E X l m_X1_dropStarts D 2 [(0, .ref 68), (1, .int (x1 + 1))] [] σ3 r σ')
set_option maxRecDepth 100000 in
theorem w_X1_dropStarts_2 {X : Sx} {l : Launch} {D : Nat} {x1 : Int32} {σ : AH} {r : Option Value} {σ' : AH} (hs : Sh σ) (h : W_X1_dropStarts_2 X l D x1 σ r σ') : E X l m_X1_dropStarts D 2 [(0, .ref 68), (1, .int x1)] [] σ r σ' := by
  unfold W_X1_dropStarts_2 at h
  refine E_iload_n 1 dX1_dropStarts_2 rfl rfl ?_
  refine E_aload_n 0 dX1_dropStarts_3 rfl rfl ?_
  refine E_getI dX1_dropStarts_4 fl_X1_53 rfl (sk_68 hs) (sn hs (by decide)) ?_
  refine E_icmp_ge 29 dX1_dropStarts_7 (by decide) (fun c => ?_) (fun c => ?_)
  · rw [if_pos c] at h
    obtain ⟨rfl, rfl⟩ := h
    exact E_vret dX1_dropStarts_29 rfl
  · rw [if_neg c] at h
    refine E_aload_n 0 dX1_dropStarts_10 rfl rfl ?_
    refine E_getR 34 dX1_dropStarts_11 fl_X1_49 rfl (sk_68 hs) (sn hs (by decide)) (sr_68_1 hs) ?_
    refine E_aload_n 0 dX1_dropStarts_14 rfl rfl ?_
    refine E_getR 69 dX1_dropStarts_15 fl_X1_9 rfl (sk_68 hs) (sn hs (by decide)) (sr_68_2 hs) ?_
    refine E_iload_n 1 dX1_dropStarts_18 rfl rfl ?_
    obtain ⟨g1, h⟩ := h
    refine E_iald2 (x1.toNatClampNeg) dX1_dropStarts_19 (sk_69 hs) (sn hs (by decide)) g1 rfl ?_
    obtain ⟨d2, σ3, hD4, hC5, h⟩ := h
    have hs6 := hC5.1.2.2.2.1 hs
    refine E_callV (As := [.int (gI σ 69 x1.toNatClampNeg)]) (rest := []) (r1 := none) (b := 34) dX1_dropStarts_20 ok_X10_dropStart in_X10_dropStart se_X10_dropStart ml_X1_107 hD4 rfl rfl (Nat.le_of_ble_eq_true rfl) (sk_34 hs) (sn hs (by decide)) (by decide) rfl (by decide +kernel) hC5 ?_
    refine E_iinc 1 (x1 + 1) [(1, .int (x1 + 1)), (0, .ref 68)] dX1_dropStarts_23 rfl (congrArg (x1 + ·) (by decide : Int32.ofInt 1 = 1)) (by decide) rfl ?_
    refine E_goto 2 dX1_dropStarts_26 (by decide) ?_
    exact E_lv [1, 0] rfl h
def W_X1_playTime_60 (X : Sx) (l : Launch) (D : Nat) (x1 : Int32) (x3 : Int32) (x4 : Int32) (y0 : Nat) (y1 : Nat) (σ : AH) (r : Option Value) (σ' : AH) : Prop := ∃ d18 : Nat, ∃ v23 : Int32, ∃ σ19 : AH, d18 + 1 ≤ D ∧ Call X l m_X8_rows d18 [.ref 9] σ (some (.int v23)) σ19 ∧ ∃ d24 : Nat, ∃ σ25 : AH, d24 + 1 ≤ D ∧ Call X l m_X7_copyFrom d24 [.ref y1, .ref y0, .int v23] σ19 none σ25 ∧ ∃ d29 : Nat, ∃ σ30 : AH, d29 + 1 ≤ D ∧ Call X l m_X1_tellStarts d29 [.ref 68, .int x1] σ25 none σ30 ∧ E X l m_X1_playTime D 81 [(0, .ref 68), (1, .int x1), (4, .int x4), (5, .int x3)] [] σ30 r σ'
set_option maxRecDepth 100000 in
theorem w_X1_playTime_60 {X : Sx} {l : Launch} {D : Nat} {x1 : Int32} {x3 : Int32} {x4 : Int32} {y0 : Nat} {y1 : Nat} {σ : AH} {r : Option Value} {σ' : AH} (hs : Sh σ) (hmy0 : y0 ∈ siteIds) (hmy1 : y1 ∈ siteIds) (h : W_X1_playTime_60 X l D x1 x3 x4 y0 y1 σ r σ') : E X l m_X1_playTime D 60 [(0, .ref 68), (1, .int x1), (3, .int x3), (4, .int x4)] [.ref y0, .ref y1] σ r σ' := by
  unfold W_X1_playTime_60 at h
  refine E_aload_n 0 dX1_playTime_60 rfl rfl ?_
  refine E_getR 1 dX1_playTime_61 fl_X1_45 rfl (sk_68 hs) (sn hs (by decide)) (sr_68_0 hs) ?_
  refine E_getR 9 dX1_playTime_64 fl_X1_81 rfl (sk_1 hs) (sn hs (by decide)) (sr_1_5 hs) ?_
  obtain ⟨d18, v23, σ19, hD20, hC21, h⟩ := h
  have hs22 := hC21.1.2.2.2.1 hs
  refine E_callV (As := []) (rest := [.ref y0, .ref y1]) (r1 := (some (.int v23))) (b := 9) dX1_playTime_67 ok_X8_rows in_X8_rows se_X8_rows ml_X1_87 hD20 rfl rfl (Nat.le_of_ble_eq_true rfl) (sk_9 hs) (sn hs (by decide)) (by decide) rfl (by decide +kernel) hC21 ?_
  obtain ⟨d24, σ25, hD26, hC27, h⟩ := h
  have hs28 := hC27.1.2.2.2.1 hs22
  refine E_callV (As := [.ref y0, .int v23]) (rest := []) (r1 := none) (b := y1) dX1_playTime_70 ok_X7_copyFrom in_X7_copyFrom se_X7_copyFrom ml_X1_93 hD26 rfl rfl (Nat.le_of_ble_eq_true rfl) (st_k hs22 hmy1) (st_n hs22 hmy1 (j := 0) (by decide)) (by decide) rfl (by decide +kernel) hC27 ?_
  refine E_aload_n 0 dX1_playTime_73 rfl rfl ?_
  refine E_iload_n 1 dX1_playTime_74 rfl rfl ?_
  obtain ⟨d29, σ30, hD31, hC32, h⟩ := h
  have hs33 := hC32.1.2.2.2.1 hs28
  refine E_callV (As := [.int x1]) (rest := []) (r1 := none) (b := 68) dX1_playTime_75 ok_X1_tellStarts in_X1_tellStarts se_X1_tellStarts ml_X1_96 hD31 rfl rfl (Nat.le_of_ble_eq_true rfl) (sk_68 hs28) (sn hs28 (by decide)) (by decide) rfl (by decide +kernel) hC32 ?_
  refine E_iload_n 2 dX1_playTime_78 rfl rfl ?_
  refine E_istore [(5, .int x3), (0, .ref 68), (1, .int x1), (3, .int x3), (4, .int x4)] dX1_playTime_79 (by decide) rfl ?_
  exact E_lv [1, 2, 4, 0] rfl h
def W_X1_playTime_60b (X : Sx) (l : Launch) (D : Nat) (x1 : Int32) (x3 : Int32) (x4 : Int32) (y1 : Nat) (σ : AH) (r : Option Value) (σ' : AH) : Prop := ∃ d34 : Nat, ∃ v39 : Int32, ∃ σ35 : AH, d34 + 1 ≤ D ∧ Call X l m_X8_rows d34 [.ref 9] σ (some (.int v39)) σ35 ∧ ∃ d40 : Nat, ∃ σ41 : AH, d40 + 1 ≤ D ∧ Call X l m_X7_copyFrom d40 [.ref y1, .ref 70, .int v39] σ35 none σ41 ∧ ∃ d45 : Nat, ∃ σ46 : AH, d45 + 1 ≤ D ∧ Call X l m_X1_tellStarts d45 [.ref 68, .int x1] σ41 none σ46 ∧ E X l m_X1_playTime D 81 [(0, .ref 68), (1, .int x1), (4, .int x4), (5, .int x3)] [] σ46 r σ'
set_option maxRecDepth 100000 in
theorem w_X1_playTime_60b {X : Sx} {l : Launch} {D : Nat} {x1 : Int32} {x3 : Int32} {x4 : Int32} {y1 : Nat} {σ : AH} {r : Option Value} {σ' : AH} (hs : Sh σ) (hmy1 : y1 ∈ siteIds) (h : W_X1_playTime_60b X l D x1 x3 x4 y1 σ r σ') : E X l m_X1_playTime D 60 [(0, .ref 68), (1, .int x1), (3, .int x3), (4, .int x4)] [.ref 70, .ref y1] σ r σ' := by
  unfold W_X1_playTime_60b at h
  refine E_aload_n 0 dX1_playTime_60 rfl rfl ?_
  refine E_getR 1 dX1_playTime_61 fl_X1_45 rfl (sk_68 hs) (sn hs (by decide)) (sr_68_0 hs) ?_
  refine E_getR 9 dX1_playTime_64 fl_X1_81 rfl (sk_1 hs) (sn hs (by decide)) (sr_1_5 hs) ?_
  obtain ⟨d34, v39, σ35, hD36, hC37, h⟩ := h
  have hs38 := hC37.1.2.2.2.1 hs
  refine E_callV (As := []) (rest := [.ref 70, .ref y1]) (r1 := (some (.int v39))) (b := 9) dX1_playTime_67 ok_X8_rows in_X8_rows se_X8_rows ml_X1_87 hD36 rfl rfl (Nat.le_of_ble_eq_true rfl) (sk_9 hs) (sn hs (by decide)) (by decide) rfl (by decide +kernel) hC37 ?_
  obtain ⟨d40, σ41, hD42, hC43, h⟩ := h
  have hs44 := hC43.1.2.2.2.1 hs38
  refine E_callV (As := [.ref 70, .int v39]) (rest := []) (r1 := none) (b := y1) dX1_playTime_70 ok_X7_copyFrom in_X7_copyFrom se_X7_copyFrom ml_X1_93 hD42 rfl rfl (Nat.le_of_ble_eq_true rfl) (st_k hs38 hmy1) (st_n hs38 hmy1 (j := 0) (by decide)) (by decide) rfl (by decide +kernel) hC43 ?_
  refine E_aload_n 0 dX1_playTime_73 rfl rfl ?_
  refine E_iload_n 1 dX1_playTime_74 rfl rfl ?_
  obtain ⟨d45, σ46, hD47, hC48, h⟩ := h
  have hs49 := hC48.1.2.2.2.1 hs44
  refine E_callV (As := [.int x1]) (rest := []) (r1 := none) (b := 68) dX1_playTime_75 ok_X1_tellStarts in_X1_tellStarts se_X1_tellStarts ml_X1_96 hD47 rfl rfl (Nat.le_of_ble_eq_true rfl) (sk_68 hs44) (sn hs44 (by decide)) (by decide) rfl (by decide +kernel) hC48 ?_
  refine E_iload_n 2 dX1_playTime_78 rfl rfl ?_
  refine E_istore [(5, .int x3), (0, .ref 68), (1, .int x1), (3, .int x3), (4, .int x4)] dX1_playTime_79 (by decide) rfl ?_
  exact E_lv [1, 2, 4, 0] rfl h
def W_X1_playTime_33 (X : Sx) (l : Launch) (D : Nat) (x1 : Int32) (x3 : Int32) (y0 : Int32) (σ : AH) (r : Option Value) (σ' : AH) : Prop := vp_in x1 3 ∧ ∃ b6 : Nat, gR σ 80 x1.toNatClampNeg = some b6 ∧ b6 ∈ siteIds ∧ (if x1 = 0 then W_X1_playTime_60b X l D x1 x3 y0 b6 σ r σ' else vp_in (x1 - (1 : Int32)) 3 ∧ ∃ b12 : Nat, gR σ 80 (x1 - (1 : Int32)).toNatClampNeg = some b12 ∧ b12 ∈ siteIds ∧ W_X1_playTime_60 X l D x1 x3 y0 b12 b6 σ r σ')
set_option maxRecDepth 100000 in
theorem w_X1_playTime_33 {X : Sx} {l : Launch} {D : Nat} {x1 : Int32} {x3 : Int32} {y0 : Int32} {σ : AH} {r : Option Value} {σ' : AH} (hs : Sh σ) (h : W_X1_playTime_33 X l D x1 x3 y0 σ r σ') : E X l m_X1_playTime D 33 [(0, .ref 68), (1, .int x1), (3, .int x3)] [.int y0] σ r σ' := by
  unfold W_X1_playTime_33 at h
  refine E_istore [(4, .int y0), (0, .ref 68), (1, .int x1), (3, .int x3)] dX1_playTime_33 (by decide) rfl ?_
  refine E_aload_n 1 dX1_playTime_35 rfl rfl ?_
  refine E_getR 80 dX1_playTime_36 fl_X1_29 rfl (sk_68 hs) (sn hs (by decide)) (sr_68_8 hs) ?_
  refine E_iload_n 2 dX1_playTime_39 rfl rfl ?_
  obtain ⟨g10, b6, g7, hk8, h⟩ := h
  refine E_aald b6 dX1_playTime_40 (sk_80 hs) (sn hs (by decide)) (Or.inr (Or.inr rfl)) g10 g7 ?_
  refine E_iload_n 2 dX1_playTime_41 rfl rfl ?_
  refine E_if_ne 52 dX1_playTime_42 (by decide) (fun c => ?_) (fun c => ?_)
  · rw [if_neg c] at h
    refine E_aload_n 1 dX1_playTime_52 rfl rfl ?_
    refine E_getR 80 dX1_playTime_53 fl_X1_29 rfl (sk_68 hs) (sn hs (by decide)) (sr_68_8 hs) ?_
    refine E_iload_n 2 dX1_playTime_56 rfl rfl ?_
    refine E_iconst (1 : Int32) dX1_playTime_57 (by decide) ?_
    refine E_isub dX1_playTime_58 ?_
    obtain ⟨g16, b12, g13, hk14, h⟩ := h
    refine E_aald b12 dX1_playTime_59 (sk_80 hs) (sn hs (by decide)) (Or.inr (Or.inr rfl)) g16 g13 ?_
    exact E_lv [1, 2, 3, 0] rfl (w_X1_playTime_60 hs hk14 hk8 h)
  · rw [if_pos c] at h
    refine E_aload_n 1 dX1_playTime_45 rfl rfl ?_
    refine E_getR 70 dX1_playTime_46 fl_X1_18 rfl (sk_68 hs) (sn hs (by decide)) (sr_68_5 hs) ?_
    refine E_goto 60 dX1_playTime_49 (by decide) ?_
    exact E_lv [1, 2, 3, 0] rfl (w_X1_playTime_60b hs hk8 h)
def W_X1_playTime_0 (X : Sx) (l : Launch) (D : Nat) (x1 : Int32) (x2 : Int32) (σ : AH) (r : Option Value) (σ' : AH) : Prop := ∃ d1 : Nat, ∃ σ2 : AH, d1 + 1 ≤ D ∧ Call X l m_X1_putTime d1 [.ref 68, .int x1, .int x2] σ none σ2 ∧ (if x1 = (2 : Int32) then W_X1_playTime_33 X l D x1 ((gI σ2 68 4) + (x1 * (4 : Int32))) ((gI σ2 68 4) + (13 : Int32)) σ2 r σ' else W_X1_playTime_33 X l D x1 ((gI σ2 68 4) + (x1 * (4 : Int32))) (((gI σ2 68 4) + (x1 * (4 : Int32))) + (4 : Int32)) σ2 r σ')
set_option maxRecDepth 100000 in
theorem w_X1_playTime_0 {X : Sx} {l : Launch} {D : Nat} {x1 : Int32} {x2 : Int32} {σ : AH} {r : Option Value} {σ' : AH} (hs : Sh σ) (h : W_X1_playTime_0 X l D x1 x2 σ r σ') : E X l m_X1_playTime D 0 [(0, .ref 68), (1, .int x1), (2, .int x2)] [] σ r σ' := by
  unfold W_X1_playTime_0 at h
  refine E_aload_n 0 dX1_playTime_0 rfl rfl ?_
  refine E_iload_n 1 dX1_playTime_1 rfl rfl ?_
  refine E_iload_n 2 dX1_playTime_2 rfl rfl ?_
  obtain ⟨d1, σ2, hD3, hC4, h⟩ := h
  have hs5 := hC4.1.2.2.2.1 hs
  refine E_callV (As := [.int x1, .int x2]) (rest := []) (r1 := none) (b := 68) dX1_playTime_3 ok_X1_putTime in_X1_putTime se_X1_putTime ml_X1_110 hD3 rfl rfl (Nat.le_of_ble_eq_true rfl) (sk_68 hs) (sn hs (by decide)) (by decide) rfl (by decide +kernel) hC4 ?_
  refine E_aload_n 0 dX1_playTime_6 rfl rfl ?_
  refine E_getI dX1_playTime_7 fl_X1_56 rfl (sk_68 hs5) (sn hs5 (by decide)) ?_
  refine E_iload_n 1 dX1_playTime_10 rfl rfl ?_
  refine E_iconst (4 : Int32) dX1_playTime_11 (by decide) ?_
  refine E_imul dX1_playTime_12 ?_
  refine E_iadd dX1_playTime_13 ?_
  refine E_istore_n [(3, .int ((gI σ2 68 4) + (x1 * (4 : Int32)))), (0, .ref 68), (1, .int x1), (2, .int x2)] dX1_playTime_14 rfl (by decide) rfl ?_
  refine E_iload_n 2 dX1_playTime_15 rfl rfl ?_
  refine E_iconst (2 : Int32) dX1_playTime_16 (by decide) ?_
  refine E_icmp_ne 30 dX1_playTime_17 (by decide) (fun c => ?_) (fun c => ?_)
  · rw [if_neg c] at h
    refine E_iload_n 0 dX1_playTime_30 rfl rfl ?_
    refine E_iconst (4 : Int32) dX1_playTime_31 (by decide) ?_
    refine E_iadd dX1_playTime_32 ?_
    exact E_lv [1, 2, 0] rfl (w_X1_playTime_33 hs5 h)
  · rw [if_pos c] at h
    refine E_aload_n 1 dX1_playTime_20 rfl rfl ?_
    refine E_getI dX1_playTime_21 fl_X1_56 rfl (sk_68 hs5) (sn hs5 (by decide)) ?_
    refine E_bipush (13 : Int32) dX1_playTime_24 (by decide) ?_
    refine E_iadd dX1_playTime_26 ?_
    refine E_goto 33 dX1_playTime_27 (by decide) ?_
    exact E_lv [1, 2, 0] rfl (w_X1_playTime_33 hs5 h)
def W_X1_playTime_81 (X : Sx) (l : Launch) (D : Nat) (x1 : Int32) (x4 : Int32) (x5 : Int32) (σ : AH) (r : Option Value) (σ' : AH) : Prop := (if x4 ≤ x5 then ∃ d50 : Nat, ∃ σ51 : AH, d50 + 1 ≤ D ∧ Call X l m_X1_dropStarts d50 [.ref 68] σ none σ51 ∧ (r = none ∧ σ' = σ51) else vp_in x1 3 ∧ ∃ b55 : Nat, gR σ 80 x1.toNatClampNeg = some b55 ∧ b55 ∈ siteIds ∧ ∃ d61 : Nat, ∃ σ62 : AH, d61 + 1 ≤ D ∧ Call X l m_X10_passWeek d61 [.ref 34, .ref b55, .int x5] σ none σ62 ∧ E X l m_X1_playTime D 81 [(0, .ref 68), (1, .int x1), (4, .int x4), (5, .int (x5 + 1))] [] σ62 r σ')
set_option maxRecDepth 100000 in
theorem w_X1_playTime_81 {X : Sx} {l : Launch} {D : Nat} {x1 : Int32} {x4 : Int32} {x5 : Int32} {σ : AH} {r : Option Value} {σ' : AH} (hs : Sh σ) (h : W_X1_playTime_81 X l D x1 x4 x5 σ r σ') : E X l m_X1_playTime D 81 [(0, .ref 68), (1, .int x1), (4, .int x4), (5, .int x5)] [] σ r σ' := by
  unfold W_X1_playTime_81 at h
  refine E_iload 3 dX1_playTime_81 rfl ?_
  refine E_iload 2 dX1_playTime_83 rfl ?_
  refine E_icmp_ge 109 dX1_playTime_85 (by decide) (fun c => ?_) (fun c => ?_)
  · rw [if_pos c] at h
    refine E_aload_n 0 dX1_playTime_109 rfl rfl ?_
    obtain ⟨d50, σ51, hD52, hC53, h⟩ := h
    have hs54 := hC53.1.2.2.2.1 hs
    refine E_callV (As := []) (rest := []) (r1 := none) (b := 68) dX1_playTime_110 ok_X1_dropStarts in_X1_dropStarts se_X1_dropStarts ml_X1_100 hD52 rfl rfl (Nat.le_of_ble_eq_true rfl) (sk_68 hs) (sn hs (by decide)) (by decide) rfl (by decide +kernel) hC53 ?_
    obtain ⟨rfl, rfl⟩ := h
    exact E_vret dX1_playTime_113 rfl
  · rw [if_neg c] at h
    refine E_aload_n 0 dX1_playTime_88 rfl rfl ?_
    refine E_getR 34 dX1_playTime_89 fl_X1_49 rfl (sk_68 hs) (sn hs (by decide)) (sr_68_1 hs) ?_
    refine E_aload_n 0 dX1_playTime_92 rfl rfl ?_
    refine E_getR 80 dX1_playTime_93 fl_X1_29 rfl (sk_68 hs) (sn hs (by decide)) (sr_68_8 hs) ?_
    refine E_iload_n 1 dX1_playTime_96 rfl rfl ?_
    obtain ⟨g59, b55, g56, hk57, h⟩ := h
    refine E_aald b55 dX1_playTime_97 (sk_80 hs) (sn hs (by decide)) (Or.inr (Or.inr rfl)) g59 g56 ?_
    refine E_iload 3 dX1_playTime_98 rfl ?_
    obtain ⟨d61, σ62, hD63, hC64, h⟩ := h
    have hs65 := hC64.1.2.2.2.1 hs
    refine E_callV (As := [.ref b55, .int x5]) (rest := []) (r1 := none) (b := 34) dX1_playTime_100 ok_X10_passWeek in_X10_passWeek se_X10_passWeek ml_X1_68 hD63 rfl rfl (Nat.le_of_ble_eq_true rfl) (sk_34 hs) (sn hs (by decide)) (by decide) rfl (by decide +kernel) hC64 ?_
    refine E_iinc 3 (x5 + 1) [(5, .int (x5 + 1)), (0, .ref 68), (1, .int x1), (4, .int x4)] dX1_playTime_103 rfl (congrArg (x5 + ·) (by decide : Int32.ofInt 1 = 1)) (by decide) rfl ?_
    refine E_goto 81 dX1_playTime_106 (by decide) ?_
    exact E_lv [1, 2, 3, 0] rfl h
def W_X1_putTime_0 (X : Sx) (l : Launch) (D : Nat) (x1 : Int32) (x2 : Int32) (σ : AH) (r : Option Value) (σ' : AH) : Prop := E X l m_X1_putTime D 2 [(0, .ref 68), (1, .int x1), (2, .int x2), (3, .int (0 : Int32))] [] σ r σ'
set_option maxRecDepth 100000 in
theorem w_X1_putTime_0 {X : Sx} {l : Launch} {D : Nat} {x1 : Int32} {x2 : Int32} {σ : AH} {r : Option Value} {σ' : AH} (hs : Sh σ) (h : W_X1_putTime_0 X l D x1 x2 σ r σ') : E X l m_X1_putTime D 0 [(0, .ref 68), (1, .int x1), (2, .int x2)] [] σ r σ' := by
  unfold W_X1_putTime_0 at h
  refine E_iconst (0 : Int32) dX1_putTime_0 (by decide) ?_
  refine E_istore_n [(3, .int (0 : Int32)), (0, .ref 68), (1, .int x1), (2, .int x2)] dX1_putTime_1 rfl (by decide) rfl ?_
  exact E_lv [1, 2, 3, 0] rfl h
def W_X1_putTime_47 (X : Sx) (l : Launch) (D : Nat) (x1 : Int32) (x2 : Int32) (x3 : Int32) (σ : AH) (r : Option Value) (σ' : AH) : Prop := E X l m_X1_putTime D 2 [(0, .ref 68), (1, .int x1), (2, .int x2), (3, .int (x3 + 1))] [] σ r σ'
set_option maxRecDepth 100000 in
theorem w_X1_putTime_47 {X : Sx} {l : Launch} {D : Nat} {x1 : Int32} {x2 : Int32} {x3 : Int32} {σ : AH} {r : Option Value} {σ' : AH} (hs : Sh σ) (h : W_X1_putTime_47 X l D x1 x2 x3 σ r σ') : E X l m_X1_putTime D 47 [(0, .ref 68), (1, .int x1), (2, .int x2), (3, .int x3)] [] σ r σ' := by
  unfold W_X1_putTime_47 at h
  refine E_iinc 3 (x3 + 1) [(3, .int (x3 + 1)), (0, .ref 68), (1, .int x1), (2, .int x2)] dX1_putTime_47 rfl (congrArg (x3 + ·) (by decide : Int32.ofInt 1 = 1)) (by decide) rfl ?_
  refine E_goto 2 dX1_putTime_50 (by decide) ?_
  exact E_lv [1, 2, 3, 0] rfl h
def W_X1_putTime_2 (X : Sx) (l : Launch) (D : Nat) (x1 : Int32) (x2 : Int32) (x3 : Int32) (σ : AH) (r : Option Value) (σ' : AH) : Prop := (if (gI σ 68 3) ≤ x3 then (r = none ∧ σ' = σ) else ∃ d1 : Nat, ∃ v6 : Int32, ∃ σ2 : AH, d1 + 1 ≤ D ∧ Call X l m_X1_isAmong d1 [.int x3, .int x2] σ (some (.int v6)) σ2 ∧ (if v6 = 0 then vp_in x3 6 ∧ (if (gI σ2 81 x3.toNatClampNeg) ≤ x1 then W_X1_putTime_47 X l D x1 x2 x3 σ2 r σ' else vp_in x3 6 ∧ W_X1_putTime_47 X l D x1 x2 x3 (sI σ2 81 x3.toNatClampNeg (0 : Int32)) r σ') else vp_in x3 6 ∧ W_X1_putTime_47 X l D x1 x2 x3 (sI σ2 81 x3.toNatClampNeg (x1 + (1 : Int32))) r σ'))
set_option maxRecDepth 100000 in
theorem w_X1_putTime_2 {X : Sx} {l : Launch} {D : Nat} {x1 : Int32} {x2 : Int32} {x3 : Int32} {σ : AH} {r : Option Value} {σ' : AH} (hs : Sh σ) (h : W_X1_putTime_2 X l D x1 x2 x3 σ r σ') : E X l m_X1_putTime D 2 [(0, .ref 68), (1, .int x1), (2, .int x2), (3, .int x3)] [] σ r σ' := by
  unfold W_X1_putTime_2 at h
  refine E_iload_n 3 dX1_putTime_2 rfl rfl ?_
  refine E_aload_n 0 dX1_putTime_3 rfl rfl ?_
  refine E_getI dX1_putTime_4 fl_X1_53 rfl (sk_68 hs) (sn hs (by decide)) ?_
  refine E_icmp_ge 53 dX1_putTime_7 (by decide) (fun c => ?_) (fun c => ?_)
  · rw [if_pos c] at h
    obtain ⟨rfl, rfl⟩ := h
    exact E_vret dX1_putTime_53 rfl
  · rw [if_neg c] at h
    refine E_iload_n 3 dX1_putTime_10 rfl rfl ?_
    refine E_iload_n 2 dX1_putTime_11 rfl rfl ?_
    obtain ⟨d1, v6, σ2, hD3, hC4, h⟩ := h
    have hs5 := hC4.1.2.2.2.1 hs
    refine E_callS (As := [.int x3, .int x2]) (rest := []) (r1 := (some (.int v6))) dX1_putTime_12 ok_X1_isAmong is_X1_isAmong ml_X1_113 hD3 rfl rfl (Nat.le_of_ble_eq_true rfl) (by decide +kernel) hC4 ?_
    refine E_if_eq 30 dX1_putTime_15 (by decide) (fun c => ?_) (fun c => ?_)
    · rw [if_pos c] at h
      refine E_aload_n 0 dX1_putTime_30 rfl rfl ?_
      refine E_getR 81 dX1_putTime_31 fl_X1_33 rfl (sk_68 hs5) (sn hs5 (by decide)) (sr_68_9 hs5) ?_
      refine E_iload_n 3 dX1_putTime_34 rfl rfl ?_
      obtain ⟨g7, h⟩ := h
      refine E_iald2 (x3.toNatClampNeg) dX1_putTime_35 (sk_81 hs5) (sn hs5 (by decide)) g7 rfl ?_
      refine E_iload_n 1 dX1_putTime_36 rfl rfl ?_
      refine E_icmp_le 47 dX1_putTime_37 (by decide) (fun c => ?_) (fun c => ?_)
      · rw [if_pos c] at h
        exact E_lv [0, 1, 2, 3] rfl (w_X1_putTime_47 hs5 h)
      · rw [if_neg c] at h
        refine E_aload_n 0 dX1_putTime_40 rfl rfl ?_
        refine E_getR 81 dX1_putTime_41 fl_X1_33 rfl (sk_68 hs5) (sn hs5 (by decide)) (sr_68_9 hs5) ?_
        refine E_iload_n 3 dX1_putTime_44 rfl rfl ?_
        refine E_iconst (0 : Int32) dX1_putTime_45 (by decide) ?_
        obtain ⟨g8, h⟩ := h
        refine E_iast2 (x3.toNatClampNeg) dX1_putTime_46 (sk_81 hs5) (sn hs5 (by decide)) (Or.inl (by decide)) g8 rfl ?_
        exact E_lv [0, 1, 2, 3] rfl (w_X1_putTime_47 hs5 h)
    · rw [if_neg c] at h
      refine E_aload_n 0 dX1_putTime_18 rfl rfl ?_
      refine E_getR 81 dX1_putTime_19 fl_X1_33 rfl (sk_68 hs5) (sn hs5 (by decide)) (sr_68_9 hs5) ?_
      refine E_iload_n 3 dX1_putTime_22 rfl rfl ?_
      refine E_iload_n 1 dX1_putTime_23 rfl rfl ?_
      refine E_iconst (1 : Int32) dX1_putTime_24 (by decide) ?_
      refine E_iadd dX1_putTime_25 ?_
      obtain ⟨g9, h⟩ := h
      refine E_iast2 (x3.toNatClampNeg) dX1_putTime_26 (sk_81 hs5) (sn hs5 (by decide)) (Or.inl (by decide)) g9 rfl ?_
      refine E_goto 47 dX1_putTime_27 (by decide) ?_
      exact E_lv [0, 1, 2, 3] rfl (w_X1_putTime_47 hs5 h)
def W_X1_isAmong_0 (X : Sx) (l : Launch) (D : Nat) (x0 : Int32) (x1 : Int32) (σ : AH) (r : Option Value) (σ' : AH) : Prop := (if ((x1 >>> (x0 &&& 31)) &&& (1 : Int32)) = 0 then (r = some (.int (0 : Int32)) ∧ σ' = σ) else (r = some (.int (1 : Int32)) ∧ σ' = σ))
set_option maxRecDepth 100000 in
theorem w_X1_isAmong_0 {X : Sx} {l : Launch} {D : Nat} {x0 : Int32} {x1 : Int32} {σ : AH} {r : Option Value} {σ' : AH} (hs : Sh σ) (h : W_X1_isAmong_0 X l D x0 x1 σ r σ') : E X l m_X1_isAmong D 0 [(0, .int x0), (1, .int x1)] [] σ r σ' := by
  unfold W_X1_isAmong_0 at h
  refine E_iload_n 1 dX1_isAmong_0 rfl rfl ?_
  refine E_iload_n 0 dX1_isAmong_1 rfl rfl ?_
  refine E_ishr dX1_isAmong_2 ?_
  refine E_iconst (1 : Int32) dX1_isAmong_3 (by decide) ?_
  refine E_iand dX1_isAmong_4 ?_
  refine E_if_eq 12 dX1_isAmong_5 (by decide) (fun c => ?_) (fun c => ?_)
  · rw [if_pos c] at h
    refine E_iconst (0 : Int32) dX1_isAmong_12 (by decide) ?_
    obtain ⟨rfl, rfl⟩ := h
    exact E_zret dX1_isAmong_13 rfl (Or.inl rfl)
  · rw [if_neg c] at h
    refine E_iconst (1 : Int32) dX1_isAmong_8 (by decide) ?_
    refine E_goto 13 dX1_isAmong_9 (by decide) ?_
    obtain ⟨rfl, rfl⟩ := h
    exact E_zret dX1_isAmong_13 rfl (Or.inr rfl)
def W_X1_roomsOf_0 (X : Sx) (l : Launch) (D : Nat) (x1 : Int32) (σ : AH) (r : Option Value) (σ' : AH) : Prop := vp_in x1 6 ∧ ∃ d2 : Nat, ∃ v7 : Int32, ∃ σ3 : AH, d2 + 1 ≤ D ∧ Call X l m_X8_at d2 [.ref 9, .int (gI σ 69 x1.toNatClampNeg), .int (2 : Int32)] σ (some (.int v7)) σ3 ∧ (r = some (.int v7) ∧ σ' = σ3)
set_option maxRecDepth 100000 in
theorem w_X1_roomsOf_0 {X : Sx} {l : Launch} {D : Nat} {x1 : Int32} {σ : AH} {r : Option Value} {σ' : AH} (hs : Sh σ) (h : W_X1_roomsOf_0 X l D x1 σ r σ') : E X l m_X1_roomsOf D 0 [(0, .ref 68), (1, .int x1)] [] σ r σ' := by
  unfold W_X1_roomsOf_0 at h
  refine E_aload_n 0 dX1_roomsOf_0 rfl rfl ?_
  refine E_getR 1 dX1_roomsOf_1 fl_X1_45 rfl (sk_68 hs) (sn hs (by decide)) (sr_68_0 hs) ?_
  refine E_getR 9 dX1_roomsOf_4 fl_X1_81 rfl (sk_1 hs) (sn hs (by decide)) (sr_1_5 hs) ?_
  refine E_aload_n 0 dX1_roomsOf_7 rfl rfl ?_
  refine E_getR 69 dX1_roomsOf_8 fl_X1_9 rfl (sk_68 hs) (sn hs (by decide)) (sr_68_2 hs) ?_
  refine E_iload_n 1 dX1_roomsOf_11 rfl rfl ?_
  obtain ⟨g1, h⟩ := h
  refine E_iald2 (x1.toNatClampNeg) dX1_roomsOf_12 (sk_69 hs) (sn hs (by decide)) g1 rfl ?_
  refine E_iconst (2 : Int32) dX1_roomsOf_13 (by decide) ?_
  obtain ⟨d2, v7, σ3, hD4, hC5, h⟩ := h
  have hs6 := hC5.1.2.2.2.1 hs
  refine E_callV (As := [.int (gI σ 69 x1.toNatClampNeg), .int (2 : Int32)]) (rest := []) (r1 := (some (.int v7))) (b := 9) dX1_roomsOf_14 ok_X8_at in_X8_at se_X8_at ml_X1_117 hD4 rfl rfl (Nat.le_of_ble_eq_true rfl) (sk_9 hs) (sn hs (by decide)) (by decide) rfl (by decide +kernel) hC5 ?_
  obtain ⟨rfl, rfl⟩ := h
  exact E_iret dX1_roomsOf_17 rfl
def W_X1_roomsOfAll_0 (X : Sx) (l : Launch) (D : Nat) (x1 : Int32) (σ : AH) (r : Option Value) (σ' : AH) : Prop := E X l m_X1_roomsOfAll D 4 [(0, .ref 68), (1, .int x1), (2, .int (0 : Int32)), (3, .int (0 : Int32))] [] σ r σ'
set_option maxRecDepth 100000 in
theorem w_X1_roomsOfAll_0 {X : Sx} {l : Launch} {D : Nat} {x1 : Int32} {σ : AH} {r : Option Value} {σ' : AH} (hs : Sh σ) (h : W_X1_roomsOfAll_0 X l D x1 σ r σ') : E X l m_X1_roomsOfAll D 0 [(0, .ref 68), (1, .int x1)] [] σ r σ' := by
  unfold W_X1_roomsOfAll_0 at h
  refine E_iconst (0 : Int32) dX1_roomsOfAll_0 (by decide) ?_
  refine E_istore_n [(2, .int (0 : Int32)), (0, .ref 68), (1, .int x1)] dX1_roomsOfAll_1 rfl (by decide) rfl ?_
  refine E_iconst (0 : Int32) dX1_roomsOfAll_2 (by decide) ?_
  refine E_istore_n [(3, .int (0 : Int32)), (2, .int (0 : Int32)), (0, .ref 68), (1, .int x1)] dX1_roomsOfAll_3 rfl (by decide) rfl ?_
  exact E_lv [2, 3, 1, 0] rfl h
def W_X1_roomsOfAll_30 (X : Sx) (l : Launch) (D : Nat) (x1 : Int32) (x3 : Int32) (y0 : Int32) (y1 : Int32) (σ : AH) (r : Option Value) (σ' : AH) : Prop := E X l m_X1_roomsOfAll D 4 [(0, .ref 68), (1, .int x1), (2, .int (y1 + y0)), (3, .int (x3 + 1))] [] σ r σ'
set_option maxRecDepth 100000 in
theorem w_X1_roomsOfAll_30 {X : Sx} {l : Launch} {D : Nat} {x1 : Int32} {x3 : Int32} {y0 : Int32} {y1 : Int32} {σ : AH} {r : Option Value} {σ' : AH} (hs : Sh σ) (h : W_X1_roomsOfAll_30 X l D x1 x3 y0 y1 σ r σ') : E X l m_X1_roomsOfAll D 30 [(0, .ref 68), (1, .int x1), (3, .int x3)] [.int y0, .int y1] σ r σ' := by
  unfold W_X1_roomsOfAll_30 at h
  refine E_iadd dX1_roomsOfAll_30 ?_
  refine E_istore_n [(2, .int (y1 + y0)), (0, .ref 68), (1, .int x1), (3, .int x3)] dX1_roomsOfAll_31 rfl (by decide) rfl ?_
  refine E_iinc 3 (x3 + 1) [(3, .int (x3 + 1)), (2, .int (y1 + y0)), (0, .ref 68), (1, .int x1)] dX1_roomsOfAll_32 rfl (congrArg (x3 + ·) (by decide : Int32.ofInt 1 = 1)) (by decide) rfl ?_
  refine E_goto 4 dX1_roomsOfAll_35 (by decide) ?_
  exact E_lv [2, 3, 1, 0] rfl h
def W_X1_roomsOfAll_4 (X : Sx) (l : Launch) (D : Nat) (x1 : Int32) (x2 : Int32) (x3 : Int32) (σ : AH) (r : Option Value) (σ' : AH) : Prop := (if (gI σ 68 3) ≤ x3 then (r = some (.int x2) ∧ σ' = σ) else ∃ d1 : Nat, ∃ v6 : Int32, ∃ σ2 : AH, d1 + 1 ≤ D ∧ Call X l m_X1_isAmong d1 [.int x3, .int x1] σ (some (.int v6)) σ2 ∧ (if v6 = 0 then W_X1_roomsOfAll_30 X l D x1 x3 (0 : Int32) x2 σ2 r σ' else ∃ d7 : Nat, ∃ v12 : Int32, ∃ σ8 : AH, d7 + 1 ≤ D ∧ Call X l m_X1_roomsOf d7 [.ref 68, .int x3] σ2 (some (.int v12)) σ8 ∧ W_X1_roomsOfAll_30 X l D x1 x3 v12 x2 σ8 r σ'))
set_option maxRecDepth 100000 in
theorem w_X1_roomsOfAll_4 {X : Sx} {l : Launch} {D : Nat} {x1 : Int32} {x2 : Int32} {x3 : Int32} {σ : AH} {r : Option Value} {σ' : AH} (hs : Sh σ) (h : W_X1_roomsOfAll_4 X l D x1 x2 x3 σ r σ') : E X l m_X1_roomsOfAll D 4 [(0, .ref 68), (1, .int x1), (2, .int x2), (3, .int x3)] [] σ r σ' := by
  unfold W_X1_roomsOfAll_4 at h
  refine E_iload_n 3 dX1_roomsOfAll_4 rfl rfl ?_
  refine E_aload_n 0 dX1_roomsOfAll_5 rfl rfl ?_
  refine E_getI dX1_roomsOfAll_6 fl_X1_53 rfl (sk_68 hs) (sn hs (by decide)) ?_
  refine E_icmp_ge 38 dX1_roomsOfAll_9 (by decide) (fun c => ?_) (fun c => ?_)
  · rw [if_pos c] at h
    refine E_iload_n 2 dX1_roomsOfAll_38 rfl rfl ?_
    obtain ⟨rfl, rfl⟩ := h
    exact E_iret dX1_roomsOfAll_39 rfl
  · rw [if_neg c] at h
    refine E_iload_n 2 dX1_roomsOfAll_12 rfl rfl ?_
    refine E_iload_n 3 dX1_roomsOfAll_13 rfl rfl ?_
    refine E_iload_n 1 dX1_roomsOfAll_14 rfl rfl ?_
    obtain ⟨d1, v6, σ2, hD3, hC4, h⟩ := h
    have hs5 := hC4.1.2.2.2.1 hs
    refine E_callS (As := [.int x3, .int x1]) (rest := [.int x2]) (r1 := (some (.int v6))) dX1_roomsOfAll_15 ok_X1_isAmong is_X1_isAmong ml_X1_113 hD3 rfl rfl (Nat.le_of_ble_eq_true rfl) (by decide +kernel) hC4 ?_
    refine E_if_eq 29 dX1_roomsOfAll_18 (by decide) (fun c => ?_) (fun c => ?_)
    · rw [if_pos c] at h
      refine E_iconst (0 : Int32) dX1_roomsOfAll_29 (by decide) ?_
      exact E_lv [0, 1, 3] rfl (w_X1_roomsOfAll_30 hs5 h)
    · rw [if_neg c] at h
      refine E_aload_n 0 dX1_roomsOfAll_21 rfl rfl ?_
      refine E_iload_n 3 dX1_roomsOfAll_22 rfl rfl ?_
      obtain ⟨d7, v12, σ8, hD9, hC10, h⟩ := h
      have hs11 := hC10.1.2.2.2.1 hs5
      refine E_callV (As := [.int x3]) (rest := [.int x2]) (r1 := (some (.int v12))) (b := 68) dX1_roomsOfAll_23 ok_X1_roomsOf in_X1_roomsOf se_X1_roomsOf ml_X1_121 hD9 rfl rfl (Nat.le_of_ble_eq_true rfl) (sk_68 hs5) (sn hs5 (by decide)) (by decide) rfl (by decide +kernel) hC10 ?_
      refine E_goto 30 dX1_roomsOfAll_26 (by decide) ?_
      exact E_lv [0, 1, 3] rfl (w_X1_roomsOfAll_30 hs11 h)
def W_X1_housedIn_0 (X : Sx) (l : Launch) (D : Nat) (x1 : Nat) (σ : AH) (r : Option Value) (σ' : AH) : Prop := E X l m_X1_housedIn D 4 [(0, .ref 68), (1, .ref x1), (2, .int (0 : Int32)), (3, .int (0 : Int32))] [] σ r σ'
set_option maxRecDepth 100000 in
theorem w_X1_housedIn_0 {X : Sx} {l : Launch} {D : Nat} {x1 : Nat} {σ : AH} {r : Option Value} {σ' : AH} (hs : Sh σ) (hmx1 : x1 ∈ siteIds) (h : W_X1_housedIn_0 X l D x1 σ r σ') : E X l m_X1_housedIn D 0 [(0, .ref 68), (1, .ref x1)] [] σ r σ' := by
  unfold W_X1_housedIn_0 at h
  refine E_iconst (0 : Int32) dX1_housedIn_0 (by decide) ?_
  refine E_istore_n [(2, .int (0 : Int32)), (0, .ref 68), (1, .ref x1)] dX1_housedIn_1 rfl (by decide) rfl ?_
  refine E_iconst (0 : Int32) dX1_housedIn_2 (by decide) ?_
  refine E_istore_n [(3, .int (0 : Int32)), (2, .int (0 : Int32)), (0, .ref 68), (1, .ref x1)] dX1_housedIn_3 rfl (by decide) rfl ?_
  exact E_lv [2, 3, 1, 0] rfl h
def W_X1_housedIn_35 (X : Sx) (l : Launch) (D : Nat) (x1 : Nat) (x3 : Int32) (y0 : Int32) (y1 : Int32) (σ : AH) (r : Option Value) (σ' : AH) : Prop := E X l m_X1_housedIn D 4 [(0, .ref 68), (1, .ref x1), (2, .int (y1 + y0)), (3, .int (x3 + 1))] [] σ r σ'
set_option maxRecDepth 100000 in
theorem w_X1_housedIn_35 {X : Sx} {l : Launch} {D : Nat} {x1 : Nat} {x3 : Int32} {y0 : Int32} {y1 : Int32} {σ : AH} {r : Option Value} {σ' : AH} (hs : Sh σ) (hmx1 : x1 ∈ siteIds) (h : W_X1_housedIn_35 X l D x1 x3 y0 y1 σ r σ') : E X l m_X1_housedIn D 35 [(0, .ref 68), (1, .ref x1), (3, .int x3)] [.int y0, .int y1] σ r σ' := by
  unfold W_X1_housedIn_35 at h
  refine E_iadd dX1_housedIn_35 ?_
  refine E_istore_n [(2, .int (y1 + y0)), (0, .ref 68), (1, .ref x1), (3, .int x3)] dX1_housedIn_36 rfl (by decide) rfl ?_
  refine E_iinc 3 (x3 + 1) [(3, .int (x3 + 1)), (2, .int (y1 + y0)), (0, .ref 68), (1, .ref x1)] dX1_housedIn_37 rfl (congrArg (x3 + ·) (by decide : Int32.ofInt 1 = 1)) (by decide) rfl ?_
  refine E_goto 4 dX1_housedIn_40 (by decide) ?_
  exact E_lv [2, 3, 1, 0] rfl h
def W_X1_housedIn_4 (X : Sx) (l : Launch) (D : Nat) (x1 : Nat) (x2 : Int32) (x3 : Int32) (σ : AH) (r : Option Value) (σ' : AH) : Prop := (if (gI σ 68 3) ≤ x3 then (r = some (.int x2) ∧ σ' = σ) else vp_in x3 6 ∧ ∃ d2 : Nat, ∃ v7 : Int32, ∃ σ3 : AH, d2 + 1 ≤ D ∧ Call X l m_X7_isDone d2 [.ref x1, .int (gI σ 69 x3.toNatClampNeg)] σ (some (.int v7)) σ3 ∧ (if v7 = 0 then W_X1_housedIn_35 X l D x1 x3 (0 : Int32) x2 σ3 r σ' else ∃ d8 : Nat, ∃ v13 : Int32, ∃ σ9 : AH, d8 + 1 ≤ D ∧ Call X l m_X1_roomsOf d8 [.ref 68, .int x3] σ3 (some (.int v13)) σ9 ∧ W_X1_housedIn_35 X l D x1 x3 v13 x2 σ9 r σ'))
set_option maxRecDepth 100000 in
theorem w_X1_housedIn_4 {X : Sx} {l : Launch} {D : Nat} {x1 : Nat} {x2 : Int32} {x3 : Int32} {σ : AH} {r : Option Value} {σ' : AH} (hs : Sh σ) (hmx1 : x1 ∈ siteIds) (h : W_X1_housedIn_4 X l D x1 x2 x3 σ r σ') : E X l m_X1_housedIn D 4 [(0, .ref 68), (1, .ref x1), (2, .int x2), (3, .int x3)] [] σ r σ' := by
  unfold W_X1_housedIn_4 at h
  refine E_iload_n 3 dX1_housedIn_4 rfl rfl ?_
  refine E_aload_n 0 dX1_housedIn_5 rfl rfl ?_
  refine E_getI dX1_housedIn_6 fl_X1_53 rfl (sk_68 hs) (sn hs (by decide)) ?_
  refine E_icmp_ge 43 dX1_housedIn_9 (by decide) (fun c => ?_) (fun c => ?_)
  · rw [if_pos c] at h
    refine E_iload_n 2 dX1_housedIn_43 rfl rfl ?_
    obtain ⟨rfl, rfl⟩ := h
    exact E_iret dX1_housedIn_44 rfl
  · rw [if_neg c] at h
    refine E_iload_n 2 dX1_housedIn_12 rfl rfl ?_
    refine E_aload_n 1 dX1_housedIn_13 rfl rfl ?_
    refine E_aload_n 0 dX1_housedIn_14 rfl rfl ?_
    refine E_getR 69 dX1_housedIn_15 fl_X1_9 rfl (sk_68 hs) (sn hs (by decide)) (sr_68_2 hs) ?_
    refine E_iload_n 3 dX1_housedIn_18 rfl rfl ?_
    obtain ⟨g1, h⟩ := h
    refine E_iald2 (x3.toNatClampNeg) dX1_housedIn_19 (sk_69 hs) (sn hs (by decide)) g1 rfl ?_
    obtain ⟨d2, v7, σ3, hD4, hC5, h⟩ := h
    have hs6 := hC5.1.2.2.2.1 hs
    refine E_callV (As := [.int (gI σ 69 x3.toNatClampNeg)]) (rest := [.int x2]) (r1 := (some (.int v7))) (b := x1) dX1_housedIn_20 ok_X7_isDone in_X7_isDone se_X7_isDone ml_X1_125 hD4 rfl rfl (Nat.le_of_ble_eq_true rfl) (st_k hs hmx1) (st_n hs hmx1 (j := 0) (by decide)) (by decide) rfl (by decide +kernel) hC5 ?_
    refine E_if_eq 34 dX1_housedIn_23 (by decide) (fun c => ?_) (fun c => ?_)
    · rw [if_pos c] at h
      refine E_iconst (0 : Int32) dX1_housedIn_34 (by decide) ?_
      exact E_lv [0, 1, 3] rfl (w_X1_housedIn_35 hs6 hmx1 h)
    · rw [if_neg c] at h
      refine E_aload_n 0 dX1_housedIn_26 rfl rfl ?_
      refine E_iload_n 3 dX1_housedIn_27 rfl rfl ?_
      obtain ⟨d8, v13, σ9, hD10, hC11, h⟩ := h
      have hs12 := hC11.1.2.2.2.1 hs6
      refine E_callV (As := [.int x3]) (rest := [.int x2]) (r1 := (some (.int v13))) (b := 68) dX1_housedIn_28 ok_X1_roomsOf in_X1_roomsOf se_X1_roomsOf ml_X1_121 hD10 rfl rfl (Nat.le_of_ble_eq_true rfl) (sk_68 hs6) (sn hs6 (by decide)) (by decide) rfl (by decide +kernel) hC11 ?_
      refine E_goto 35 dX1_housedIn_31 (by decide) ?_
      exact E_lv [0, 1, 3] rfl (w_X1_housedIn_35 hs12 hmx1 h)
def W_X1_shellsIn_0 (X : Sx) (l : Launch) (D : Nat) (x1 : Nat) (σ : AH) (r : Option Value) (σ' : AH) : Prop := E X l m_X1_shellsIn D 4 [(0, .ref 68), (1, .ref x1), (2, .int (0 : Int32)), (3, .int (0 : Int32))] [] σ r σ'
set_option maxRecDepth 100000 in
theorem w_X1_shellsIn_0 {X : Sx} {l : Launch} {D : Nat} {x1 : Nat} {σ : AH} {r : Option Value} {σ' : AH} (hs : Sh σ) (hmx1 : x1 ∈ siteIds) (h : W_X1_shellsIn_0 X l D x1 σ r σ') : E X l m_X1_shellsIn D 0 [(0, .ref 68), (1, .ref x1)] [] σ r σ' := by
  unfold W_X1_shellsIn_0 at h
  refine E_iconst (0 : Int32) dX1_shellsIn_0 (by decide) ?_
  refine E_istore_n [(2, .int (0 : Int32)), (0, .ref 68), (1, .ref x1)] dX1_shellsIn_1 rfl (by decide) rfl ?_
  refine E_iconst (0 : Int32) dX1_shellsIn_2 (by decide) ?_
  refine E_istore_n [(3, .int (0 : Int32)), (2, .int (0 : Int32)), (0, .ref 68), (1, .ref x1)] dX1_shellsIn_3 rfl (by decide) rfl ?_
  exact E_lv [2, 3, 1, 0] rfl h
def W_X1_shellsIn_31 (X : Sx) (l : Launch) (D : Nat) (x1 : Nat) (x3 : Int32) (y0 : Int32) (y1 : Int32) (σ : AH) (r : Option Value) (σ' : AH) : Prop := E X l m_X1_shellsIn D 4 [(0, .ref 68), (1, .ref x1), (2, .int (y1 + y0)), (3, .int (x3 + 1))] [] σ r σ'
set_option maxRecDepth 100000 in
theorem w_X1_shellsIn_31 {X : Sx} {l : Launch} {D : Nat} {x1 : Nat} {x3 : Int32} {y0 : Int32} {y1 : Int32} {σ : AH} {r : Option Value} {σ' : AH} (hs : Sh σ) (hmx1 : x1 ∈ siteIds) (h : W_X1_shellsIn_31 X l D x1 x3 y0 y1 σ r σ') : E X l m_X1_shellsIn D 31 [(0, .ref 68), (1, .ref x1), (3, .int x3)] [.int y0, .int y1] σ r σ' := by
  unfold W_X1_shellsIn_31 at h
  refine E_iadd dX1_shellsIn_31 ?_
  refine E_istore_n [(2, .int (y1 + y0)), (0, .ref 68), (1, .ref x1), (3, .int x3)] dX1_shellsIn_32 rfl (by decide) rfl ?_
  refine E_iinc 3 (x3 + 1) [(3, .int (x3 + 1)), (2, .int (y1 + y0)), (0, .ref 68), (1, .ref x1)] dX1_shellsIn_33 rfl (congrArg (x3 + ·) (by decide : Int32.ofInt 1 = 1)) (by decide) rfl ?_
  refine E_goto 4 dX1_shellsIn_36 (by decide) ?_
  exact E_lv [2, 3, 1, 0] rfl h
def W_X1_shellsIn_4 (X : Sx) (l : Launch) (D : Nat) (x1 : Nat) (x2 : Int32) (x3 : Int32) (σ : AH) (r : Option Value) (σ' : AH) : Prop := (if (gI σ 68 3) ≤ x3 then (r = some (.int x2) ∧ σ' = σ) else vp_in x3 6 ∧ ∃ d2 : Nat, ∃ v7 : Int32, ∃ σ3 : AH, d2 + 1 ≤ D ∧ Call X l m_X7_isShell d2 [.ref x1, .int (gI σ 69 x3.toNatClampNeg)] σ (some (.int v7)) σ3 ∧ (if v7 = 0 then W_X1_shellsIn_31 X l D x1 x3 (0 : Int32) x2 σ3 r σ' else W_X1_shellsIn_31 X l D x1 x3 (1 : Int32) x2 σ3 r σ'))
set_option maxRecDepth 100000 in
theorem w_X1_shellsIn_4 {X : Sx} {l : Launch} {D : Nat} {x1 : Nat} {x2 : Int32} {x3 : Int32} {σ : AH} {r : Option Value} {σ' : AH} (hs : Sh σ) (hmx1 : x1 ∈ siteIds) (h : W_X1_shellsIn_4 X l D x1 x2 x3 σ r σ') : E X l m_X1_shellsIn D 4 [(0, .ref 68), (1, .ref x1), (2, .int x2), (3, .int x3)] [] σ r σ' := by
  unfold W_X1_shellsIn_4 at h
  refine E_iload_n 3 dX1_shellsIn_4 rfl rfl ?_
  refine E_aload_n 0 dX1_shellsIn_5 rfl rfl ?_
  refine E_getI dX1_shellsIn_6 fl_X1_53 rfl (sk_68 hs) (sn hs (by decide)) ?_
  refine E_icmp_ge 39 dX1_shellsIn_9 (by decide) (fun c => ?_) (fun c => ?_)
  · rw [if_pos c] at h
    refine E_iload_n 2 dX1_shellsIn_39 rfl rfl ?_
    obtain ⟨rfl, rfl⟩ := h
    exact E_iret dX1_shellsIn_40 rfl
  · rw [if_neg c] at h
    refine E_iload_n 2 dX1_shellsIn_12 rfl rfl ?_
    refine E_aload_n 1 dX1_shellsIn_13 rfl rfl ?_
    refine E_aload_n 0 dX1_shellsIn_14 rfl rfl ?_
    refine E_getR 69 dX1_shellsIn_15 fl_X1_9 rfl (sk_68 hs) (sn hs (by decide)) (sr_68_2 hs) ?_
    refine E_iload_n 3 dX1_shellsIn_18 rfl rfl ?_
    obtain ⟨g1, h⟩ := h
    refine E_iald2 (x3.toNatClampNeg) dX1_shellsIn_19 (sk_69 hs) (sn hs (by decide)) g1 rfl ?_
    obtain ⟨d2, v7, σ3, hD4, hC5, h⟩ := h
    have hs6 := hC5.1.2.2.2.1 hs
    refine E_callV (As := [.int (gI σ 69 x3.toNatClampNeg)]) (rest := [.int x2]) (r1 := (some (.int v7))) (b := x1) dX1_shellsIn_20 ok_X7_isShell in_X7_isShell se_X7_isShell ml_X1_129 hD4 rfl rfl (Nat.le_of_ble_eq_true rfl) (st_k hs hmx1) (st_n hs hmx1 (j := 0) (by decide)) (by decide) rfl (by decide +kernel) hC5 ?_
    refine E_if_eq 30 dX1_shellsIn_23 (by decide) (fun c => ?_) (fun c => ?_)
    · rw [if_pos c] at h
      refine E_iconst (0 : Int32) dX1_shellsIn_30 (by decide) ?_
      exact E_lv [0, 1, 3] rfl (w_X1_shellsIn_31 hs6 hmx1 h)
    · rw [if_neg c] at h
      refine E_iconst (1 : Int32) dX1_shellsIn_26 (by decide) ?_
      refine E_goto 31 dX1_shellsIn_27 (by decide) ?_
      exact E_lv [0, 1, 3] rfl (w_X1_shellsIn_31 hs6 hmx1 h)
def W_X1_keepIfBetter_61 (X : Sx) (l : Launch) (D : Nat) (x1 : Int32) (x2 : Int32) (σ : AH) (r : Option Value) (σ' : AH) : Prop := 0 + 6 ≤ 6 ∧ 0 + 6 ≤ 6 ∧ 1 ≤ D ∧ (∀ τ37 : AH, τ37 = (sA (sI (sI σ 68 12 x1) 68 13 x2) 82 (va_cpy (gI (sI (sI σ 68 12 x1) 68 13 x2) 81) (gI (sI (sI σ 68 12 x1) 68 13 x2) 82) 0 0 6)) → (r = none ∧ σ' = τ37))
set_option maxRecDepth 100000 in
theorem w_X1_keepIfBetter_61 {X : Sx} {l : Launch} {D : Nat} {x1 : Int32} {x2 : Int32} {σ : AH} {r : Option Value} {σ' : AH} (hs : Sh σ) (h : W_X1_keepIfBetter_61 X l D x1 x2 σ r σ') : E X l m_X1_keepIfBetter D 61 [(0, .ref 68), (1, .int x1), (2, .int x2)] [] σ r σ' := by
  unfold W_X1_keepIfBetter_61 at h
  refine E_aload_n 0 dX1_keepIfBetter_61 rfl rfl ?_
  refine E_iload_n 1 dX1_keepIfBetter_62 rfl rfl ?_
  refine E_putI dX1_keepIfBetter_63 fl_X1_39 rfl (Or.inl rfl) (sk_68 hs) (sn hs (by decide)) (Or.inl (by decide)) rfl rfl ?_
  refine E_aload_n 0 dX1_keepIfBetter_66 rfl rfl ?_
  refine E_iload_n 2 dX1_keepIfBetter_67 rfl rfl ?_
  refine E_putI dX1_keepIfBetter_68 fl_X1_42 rfl (Or.inl rfl) (sk_68 hs) (sn hs (by decide)) (Or.inl (by decide)) rfl rfl ?_
  refine E_aload_n 0 dX1_keepIfBetter_71 rfl rfl ?_
  refine E_getR 81 dX1_keepIfBetter_72 fl_X1_33 rfl (sk_68 hs) (sn hs (by decide)) (sr_68_9 hs) ?_
  refine E_iconst (0 : Int32) dX1_keepIfBetter_75 (by decide) ?_
  refine E_aload_n 0 dX1_keepIfBetter_76 rfl rfl ?_
  refine E_getR 82 dX1_keepIfBetter_77 fl_X1_36 rfl (sk_68 hs) (sn hs (by decide)) (sr_68_10 hs) ?_
  refine E_iconst (0 : Int32) dX1_keepIfBetter_80 (by decide) ?_
  refine E_bipush (6 : Int32) dX1_keepIfBetter_81 (by decide) ?_
  obtain ⟨g34, g35, g36, h⟩ := h
  refine E_copy2 (0) (0) (6) dX1_keepIfBetter_83 ma_X1_143 (sk_81 hs) (sn hs (by decide)) (sk_82 hs) (sn hs (by decide)) (by decide) (by decide) (by decide) (by decide) (by decide) (by decide) g34 g35 g36 (Nat.le_of_ble_eq_true rfl) (Or.inl (by decide)) ?_
  obtain ⟨τ37, e38⟩ : ∃ τ : AH, τ = (sA (sI (sI σ 68 12 x1) 68 13 x2) 82 (va_cpy (gI (sI (sI σ 68 12 x1) 68 13 x2) 81) (gI (sI (sI σ 68 12 x1) 68 13 x2) 82) 0 0 6)) := ⟨_, rfl⟩
  replace h := h τ37 e38
  rw [← e38]
  have hs39 : Sh τ37 := by rw [e38]; exact hs
  obtain ⟨rfl, rfl⟩ := h
  exact E_vret dX1_keepIfBetter_86 rfl
def W_X1_keepIfBetter_0 (X : Sx) (l : Launch) (D : Nat) (σ : AH) (r : Option Value) (σ' : AH) : Prop := vp_in (2 : Int32) 3 ∧ ∃ b1 : Nat, gR σ 80 (2 : Int32).toNatClampNeg = some b1 ∧ b1 ∈ siteIds ∧ ∃ d7 : Nat, ∃ v12 : Int32, ∃ σ8 : AH, d7 + 1 ≤ D ∧ Call X l m_X1_housedIn d7 [.ref 68, .ref b1] σ (some (.int v12)) σ8 ∧ vp_in (2 : Int32) 3 ∧ ∃ b13 : Nat, gR σ8 80 (2 : Int32).toNatClampNeg = some b13 ∧ b13 ∈ siteIds ∧ ∃ d19 : Nat, ∃ v24 : Int32, ∃ σ20 : AH, d19 + 1 ≤ D ∧ Call X l m_X1_shellsIn d19 [.ref 68, .ref b13] σ8 (some (.int v24)) σ20 ∧ (if (gI σ20 68 12) < v12 then W_X1_keepIfBetter_61 X l D v12 v24 σ20 r σ' else (if v12 = (gI σ20 68 12) then (if v24 < (gI σ20 68 13) then W_X1_keepIfBetter_61 X l D v12 v24 σ20 r σ' else (if v24 = (gI σ20 68 13) then ∃ d25 : Nat, ∃ v30 : Int32, ∃ σ26 : AH, d25 + 1 ≤ D ∧ Call X l m_X1_isRowAhead d25 [.ref 68] σ20 (some (.int v30)) σ26 ∧ (if v30 = 0 then (r = none ∧ σ' = σ26) else W_X1_keepIfBetter_61 X l D v12 v24 σ26 r σ') else (r = none ∧ σ' = σ20))) else (r = none ∧ σ' = σ20)))
set_option maxRecDepth 100000 in
theorem w_X1_keepIfBetter_0 {X : Sx} {l : Launch} {D : Nat} {σ : AH} {r : Option Value} {σ' : AH} (hs : Sh σ) (h : W_X1_keepIfBetter_0 X l D σ r σ') : E X l m_X1_keepIfBetter D 0 [(0, .ref 68)] [] σ r σ' := by
  unfold W_X1_keepIfBetter_0 at h
  refine E_aload_n 0 dX1_keepIfBetter_0 rfl rfl ?_
  refine E_aload_n 0 dX1_keepIfBetter_1 rfl rfl ?_
  refine E_getR 80 dX1_keepIfBetter_2 fl_X1_29 rfl (sk_68 hs) (sn hs (by decide)) (sr_68_8 hs) ?_
  refine E_iconst (2 : Int32) dX1_keepIfBetter_5 (by decide) ?_
  obtain ⟨g5, b1, g2, hk3, h⟩ := h
  refine E_aald b1 dX1_keepIfBetter_6 (sk_80 hs) (sn hs (by decide)) (Or.inr (Or.inr rfl)) g5 g2 ?_
  obtain ⟨d7, v12, σ8, hD9, hC10, h⟩ := h
  have hs11 := hC10.1.2.2.2.1 hs
  refine E_callV (As := [.ref b1]) (rest := []) (r1 := (some (.int v12))) (b := 68) dX1_keepIfBetter_7 ok_X1_housedIn in_X1_housedIn se_X1_housedIn ml_X1_132 hD9 rfl rfl (Nat.le_of_ble_eq_true rfl) (sk_68 hs) (sn hs (by decide)) (by decide) rfl (by decide +kernel) hC10 ?_
  refine E_istore_n [(1, .int v12), (0, .ref 68)] dX1_keepIfBetter_10 rfl (by decide) rfl ?_
  refine E_aload_n 1 dX1_keepIfBetter_11 rfl rfl ?_
  refine E_aload_n 1 dX1_keepIfBetter_12 rfl rfl ?_
  refine E_getR 80 dX1_keepIfBetter_13 fl_X1_29 rfl (sk_68 hs11) (sn hs11 (by decide)) (sr_68_8 hs11) ?_
  refine E_iconst (2 : Int32) dX1_keepIfBetter_16 (by decide) ?_
  obtain ⟨g17, b13, g14, hk15, h⟩ := h
  refine E_aald b13 dX1_keepIfBetter_17 (sk_80 hs11) (sn hs11 (by decide)) (Or.inr (Or.inr rfl)) g17 g14 ?_
  obtain ⟨d19, v24, σ20, hD21, hC22, h⟩ := h
  have hs23 := hC22.1.2.2.2.1 hs11
  refine E_callV (As := [.ref b13]) (rest := []) (r1 := (some (.int v24))) (b := 68) dX1_keepIfBetter_18 ok_X1_shellsIn in_X1_shellsIn se_X1_shellsIn ml_X1_136 hD21 rfl rfl (Nat.le_of_ble_eq_true rfl) (sk_68 hs11) (sn hs11 (by decide)) (by decide) rfl (by decide +kernel) hC22 ?_
  refine E_istore_n [(2, .int v24), (1, .int v12), (0, .ref 68)] dX1_keepIfBetter_21 rfl (by decide) rfl ?_
  refine E_iload_n 1 dX1_keepIfBetter_22 rfl rfl ?_
  refine E_aload_n 2 dX1_keepIfBetter_23 rfl rfl ?_
  refine E_getI dX1_keepIfBetter_24 fl_X1_39 rfl (sk_68 hs23) (sn hs23 (by decide)) ?_
  refine E_icmp_gt 61 dX1_keepIfBetter_27 (by decide) (fun c => ?_) (fun c => ?_)
  · rw [if_pos c] at h
    exact E_lv [2, 1, 0] rfl (w_X1_keepIfBetter_61 hs23 h)
  · rw [if_neg c] at h
    refine E_iload_n 1 dX1_keepIfBetter_30 rfl rfl ?_
    refine E_aload_n 2 dX1_keepIfBetter_31 rfl rfl ?_
    refine E_getI dX1_keepIfBetter_32 fl_X1_39 rfl (sk_68 hs23) (sn hs23 (by decide)) ?_
    refine E_icmp_ne 86 dX1_keepIfBetter_35 (by decide) (fun c => ?_) (fun c => ?_)
    · rw [if_neg c] at h
      obtain ⟨rfl, rfl⟩ := h
      exact E_vret dX1_keepIfBetter_86 rfl
    · rw [if_pos c] at h
      refine E_iload_n 0 dX1_keepIfBetter_38 rfl rfl ?_
      refine E_aload_n 2 dX1_keepIfBetter_39 rfl rfl ?_
      refine E_getI dX1_keepIfBetter_40 fl_X1_42 rfl (sk_68 hs23) (sn hs23 (by decide)) ?_
      refine E_icmp_lt 61 dX1_keepIfBetter_43 (by decide) (fun c => ?_) (fun c => ?_)
      · rw [if_pos c] at h
        exact E_lv [2, 1, 0] rfl (w_X1_keepIfBetter_61 hs23 h)
      · rw [if_neg c] at h
        refine E_iload_n 0 dX1_keepIfBetter_46 rfl rfl ?_
        refine E_aload_n 2 dX1_keepIfBetter_47 rfl rfl ?_
        refine E_getI dX1_keepIfBetter_48 fl_X1_42 rfl (sk_68 hs23) (sn hs23 (by decide)) ?_
        refine E_icmp_ne 86 dX1_keepIfBetter_51 (by decide) (fun c => ?_) (fun c => ?_)
        · rw [if_neg c] at h
          obtain ⟨rfl, rfl⟩ := h
          exact E_vret dX1_keepIfBetter_86 rfl
        · rw [if_pos c] at h
          refine E_aload_n 2 dX1_keepIfBetter_54 rfl rfl ?_
          obtain ⟨d25, v30, σ26, hD27, hC28, h⟩ := h
          have hs29 := hC28.1.2.2.2.1 hs23
          refine E_callV (As := []) (rest := []) (r1 := (some (.int v30))) (b := 68) dX1_keepIfBetter_55 ok_X1_isRowAhead in_X1_isRowAhead se_X1_isRowAhead ml_X1_139 hD27 rfl rfl (Nat.le_of_ble_eq_true rfl) (sk_68 hs23) (sn hs23 (by decide)) (by decide) rfl (by decide +kernel) hC28 ?_
          refine E_if_eq 86 dX1_keepIfBetter_58 (by decide) (fun c => ?_) (fun c => ?_)
          · rw [if_pos c] at h
            obtain ⟨rfl, rfl⟩ := h
            exact E_vret dX1_keepIfBetter_86 rfl
          · rw [if_neg c] at h
            exact E_lv [2, 1, 0] rfl (w_X1_keepIfBetter_61 hs29 h)
def W_X1_isRowAhead_0 (X : Sx) (l : Launch) (D : Nat) (σ : AH) (r : Option Value) (σ' : AH) : Prop := E X l m_X1_isRowAhead D 2 [(0, .ref 68), (1, .int (0 : Int32))] [] σ r σ'
set_option maxRecDepth 100000 in
theorem w_X1_isRowAhead_0 {X : Sx} {l : Launch} {D : Nat} {σ : AH} {r : Option Value} {σ' : AH} (hs : Sh σ) (h : W_X1_isRowAhead_0 X l D σ r σ') : E X l m_X1_isRowAhead D 0 [(0, .ref 68)] [] σ r σ' := by
  unfold W_X1_isRowAhead_0 at h
  refine E_iconst (0 : Int32) dX1_isRowAhead_0 (by decide) ?_
  refine E_istore_n [(1, .int (0 : Int32)), (0, .ref 68)] dX1_isRowAhead_1 rfl (by decide) rfl ?_
  exact E_lv [1, 0] rfl h
def W_X1_isRowAhead_2 (X : Sx) (l : Launch) (D : Nat) (x1 : Int32) (σ : AH) (r : Option Value) (σ' : AH) : Prop := (if (gI σ 68 3) ≤ x1 then (r = some (.int (0 : Int32)) ∧ σ' = σ) else vp_in x1 6 ∧ vp_in x1 6 ∧ (if (gI σ 81 x1.toNatClampNeg) = (gI σ 82 x1.toNatClampNeg) then E X l m_X1_isRowAhead D 2 [(0, .ref 68), (1, .int (x1 + 1))] [] σ r σ' else vp_in x1 6 ∧ vp_in x1 6 ∧ (if (gI σ 82 x1.toNatClampNeg) ≤ (gI σ 81 x1.toNatClampNeg) then (r = some (.int (0 : Int32)) ∧ σ' = σ) else (r = some (.int (1 : Int32)) ∧ σ' = σ))))
set_option maxRecDepth 100000 in
theorem w_X1_isRowAhead_2 {X : Sx} {l : Launch} {D : Nat} {x1 : Int32} {σ : AH} {r : Option Value} {σ' : AH} (hs : Sh σ) (h : W_X1_isRowAhead_2 X l D x1 σ r σ') : E X l m_X1_isRowAhead D 2 [(0, .ref 68), (1, .int x1)] [] σ r σ' := by
  unfold W_X1_isRowAhead_2 at h
  refine E_iload_n 1 dX1_isRowAhead_2 rfl rfl ?_
  refine E_aload_n 0 dX1_isRowAhead_3 rfl rfl ?_
  refine E_getI dX1_isRowAhead_4 fl_X1_53 rfl (sk_68 hs) (sn hs (by decide)) ?_
  refine E_icmp_ge 52 dX1_isRowAhead_7 (by decide) (fun c => ?_) (fun c => ?_)
  · rw [if_pos c] at h
    refine E_iconst (0 : Int32) dX1_isRowAhead_52 (by decide) ?_
    obtain ⟨rfl, rfl⟩ := h
    exact E_zret dX1_isRowAhead_53 rfl (Or.inl rfl)
  · rw [if_neg c] at h
    refine E_aload_n 0 dX1_isRowAhead_10 rfl rfl ?_
    refine E_getR 81 dX1_isRowAhead_11 fl_X1_33 rfl (sk_68 hs) (sn hs (by decide)) (sr_68_9 hs) ?_
    refine E_iload_n 1 dX1_isRowAhead_14 rfl rfl ?_
    obtain ⟨g1, h⟩ := h
    refine E_iald2 (x1.toNatClampNeg) dX1_isRowAhead_15 (sk_81 hs) (sn hs (by decide)) g1 rfl ?_
    refine E_aload_n 0 dX1_isRowAhead_16 rfl rfl ?_
    refine E_getR 82 dX1_isRowAhead_17 fl_X1_36 rfl (sk_68 hs) (sn hs (by decide)) (sr_68_10 hs) ?_
    refine E_iload_n 1 dX1_isRowAhead_20 rfl rfl ?_
    obtain ⟨g2, h⟩ := h
    refine E_iald2 (x1.toNatClampNeg) dX1_isRowAhead_21 (sk_82 hs) (sn hs (by decide)) g2 rfl ?_
    refine E_icmp_eq 46 dX1_isRowAhead_22 (by decide) (fun c => ?_) (fun c => ?_)
    · rw [if_pos c] at h
      refine E_iinc 1 (x1 + 1) [(1, .int (x1 + 1)), (0, .ref 68)] dX1_isRowAhead_46 rfl (congrArg (x1 + ·) (by decide : Int32.ofInt 1 = 1)) (by decide) rfl ?_
      refine E_goto 2 dX1_isRowAhead_49 (by decide) ?_
      exact E_lv [1, 0] rfl h
    · rw [if_neg c] at h
      refine E_aload_n 0 dX1_isRowAhead_25 rfl rfl ?_
      refine E_getR 81 dX1_isRowAhead_26 fl_X1_33 rfl (sk_68 hs) (sn hs (by decide)) (sr_68_9 hs) ?_
      refine E_iload_n 1 dX1_isRowAhead_29 rfl rfl ?_
      obtain ⟨g3, h⟩ := h
      refine E_iald2 (x1.toNatClampNeg) dX1_isRowAhead_30 (sk_81 hs) (sn hs (by decide)) g3 rfl ?_
      refine E_aload_n 0 dX1_isRowAhead_31 rfl rfl ?_
      refine E_getR 82 dX1_isRowAhead_32 fl_X1_36 rfl (sk_68 hs) (sn hs (by decide)) (sr_68_10 hs) ?_
      refine E_iload_n 1 dX1_isRowAhead_35 rfl rfl ?_
      obtain ⟨g4, h⟩ := h
      refine E_iald2 (x1.toNatClampNeg) dX1_isRowAhead_36 (sk_82 hs) (sn hs (by decide)) g4 rfl ?_
      refine E_icmp_ge 44 dX1_isRowAhead_37 (by decide) (fun c => ?_) (fun c => ?_)
      · rw [if_pos c] at h
        refine E_iconst (0 : Int32) dX1_isRowAhead_44 (by decide) ?_
        obtain ⟨rfl, rfl⟩ := h
        exact E_zret dX1_isRowAhead_45 rfl (Or.inl rfl)
      · rw [if_neg c] at h
        refine E_iconst (1 : Int32) dX1_isRowAhead_40 (by decide) ?_
        refine E_goto 45 dX1_isRowAhead_41 (by decide) ?_
        obtain ⟨rfl, rfl⟩ := h
        exact E_zret dX1_isRowAhead_45 rfl (Or.inr rfl)
def W_X2_init_0 (X : Sx) (l : Launch) (D : Nat) (x0 : Nat) (x1 : Nat) (x2 : Nat) (x3 : Nat) (σ : AH) (r : Option Value) (σ' : AH) : Prop := kd σ x0 = (2, NO 2) ∧ x0 < nx σ ∧ kd σ x1 = (9, NO 9) ∧ x1 < nx σ ∧ 1 ≤ D ∧ (∀ τ1 : AH, τ1 = (aw σ 100 30) → al m_X2_init x0 ∧ (Sh τ1 → Sh (sR τ1 x0 3 (some (nx σ)))) ∧ (∀ τ12 : AH, τ12 = (sR τ1 x0 3 (some (nx σ))) → (∀ τ19 : AH, τ19 = (aw τ12 100 30) → al m_X2_init x0 ∧ (Sh τ19 → Sh (sR τ19 x0 4 (some (nx τ12)))) ∧ (∀ τ30 : AH, τ30 = (sR τ19 x0 4 (some (nx τ12))) → (∀ τ37 : AH, τ37 = (aw τ30 100 60) → al m_X2_init x0 ∧ (Sh τ37 → Sh (sR τ37 x0 5 (some (nx τ30)))) ∧ (∀ τ48 : AH, τ48 = (sR τ37 x0 5 (some (nx τ30))) → (∀ τ55 : AH, τ55 = (aw τ48 100 60) → al m_X2_init x0 ∧ (Sh τ55 → Sh (sR τ55 x0 6 (some (nx τ48)))) ∧ (∀ τ66 : AH, τ66 = (sR τ55 x0 6 (some (nx τ48))) → al m_X2_init x0 ∧ (Sh τ66 → Sh (sR τ66 x0 0 (some x1))) ∧ (∀ τ75 : AH, τ75 = (sR τ66 x0 0 (some x1)) → al m_X2_init x0 ∧ (Sh τ75 → Sh (sR τ75 x0 1 (some x2))) ∧ (∀ τ84 : AH, τ84 = (sR τ75 x0 1 (some x2)) → al m_X2_init x0 ∧ (Sh τ84 → Sh (sR τ84 x0 2 (some x3))) ∧ (∀ τ93 : AH, τ93 = (sR τ84 x0 2 (some x3)) → (r = none ∧ σ' = τ93))))))))))))
set_option maxRecDepth 100000 in
theorem w_X2_init_0 {X : Sx} {l : Launch} {D : Nat} {x0 : Nat} {x1 : Nat} {x2 : Nat} {x3 : Nat} {σ : AH} {r : Option Value} {σ' : AH} (h : W_X2_init_0 X l D x0 x1 x2 x3 σ r σ') : E X l m_X2_init D 0 [(0, .ref x0), (1, .ref x1), (2, .ref x2), (3, .ref x3)] [] σ r σ' := by
  unfold W_X2_init_0 at h
  obtain ⟨hkx0, hbx0, h⟩ := h
  obtain ⟨hkx1, hbx1, h⟩ := h
  refine E_aload_n 0 dX2_init_0 rfl rfl ?_
  obtain ⟨g100, h⟩ := h
  refine E_objInit dX2_init_1 mo_X2_3 g100 (Nat.le_of_ble_eq_true rfl) ?_
  refine E_aload_n 0 dX2_init_4 rfl rfl ?_
  refine E_bipush (30 : Int32) dX2_init_5 (by decide) ?_
  refine E_newaI 30 dX2_init_7 ac_int (by decide) (by decide) (by decide) ?_
  obtain ⟨τ1, e2⟩ : ∃ τ : AH, τ = (aw σ 100 30) := ⟨_, rfl⟩
  replace h := h τ1 e2
  rw [← e2]
  have hk4 : kd _ x0 = (2, NO 2) := (congrFun (congrArg kd e2) _).trans ((up_ne _ _ _ (Nat.ne_of_lt hbx0)).trans hkx0)
  have hb5 := Nat.lt_of_lt_of_eq (Nat.lt_succ_of_lt hbx0) (congrArg nx e2).symm
  have hk6 : kd _ x1 = (9, NO 9) := (congrFun (congrArg kd e2) _).trans ((up_ne _ _ _ (Nat.ne_of_lt hbx1)).trans hkx1)
  have hb7 := Nat.lt_of_lt_of_eq (Nat.lt_succ_of_lt hbx1) (congrArg nx e2).symm
  have hk8 : kd _ (nx σ) = (100, 30) := (congrFun (congrArg kd e2) _).trans (up_same _ _ _)
  have hb9 := Nat.lt_of_lt_of_eq (Nat.lt_succ_self _) (congrArg nx e2).symm
  obtain ⟨ga10, h⟩ := h
  obtain ⟨g11, h⟩ := h
  refine E_putR dX2_init_9 fl_X2_9 rfl (Or.inr ⟨rfl, rfl, rfl⟩) hk4 hb5 ga10 g11 ?_
  obtain ⟨τ12, e13⟩ : ∃ τ : AH, τ = (sR τ1 x0 3 (some (nx σ))) := ⟨_, rfl⟩
  replace h := h τ12 e13
  rw [← e13]
  have hk15 : kd _ x0 = (2, NO 2) := (congrFun (congrArg kd e13) _).trans hk4
  have hb16 := Nat.lt_of_lt_of_eq hb5 (congrArg nx e13).symm
  have hk17 : kd _ x1 = (9, NO 9) := (congrFun (congrArg kd e13) _).trans hk6
  have hb18 := Nat.lt_of_lt_of_eq hb7 (congrArg nx e13).symm
  refine E_aload_n 0 dX2_init_12 rfl rfl ?_
  refine E_bipush (30 : Int32) dX2_init_13 (by decide) ?_
  refine E_newaI 30 dX2_init_15 ac_int (by decide) (by decide) (by decide) ?_
  obtain ⟨τ19, e20⟩ : ∃ τ : AH, τ = (aw τ12 100 30) := ⟨_, rfl⟩
  replace h := h τ19 e20
  rw [← e20]
  have hk22 : kd _ x0 = (2, NO 2) := (congrFun (congrArg kd e20) _).trans ((up_ne _ _ _ (Nat.ne_of_lt hb16)).trans hk15)
  have hb23 := Nat.lt_of_lt_of_eq (Nat.lt_succ_of_lt hb16) (congrArg nx e20).symm
  have hk24 : kd _ x1 = (9, NO 9) := (congrFun (congrArg kd e20) _).trans ((up_ne _ _ _ (Nat.ne_of_lt hb18)).trans hk17)
  have hb25 := Nat.lt_of_lt_of_eq (Nat.lt_succ_of_lt hb18) (congrArg nx e20).symm
  have hk26 : kd _ (nx τ12) = (100, 30) := (congrFun (congrArg kd e20) _).trans (up_same _ _ _)
  have hb27 := Nat.lt_of_lt_of_eq (Nat.lt_succ_self _) (congrArg nx e20).symm
  obtain ⟨ga28, h⟩ := h
  obtain ⟨g29, h⟩ := h
  refine E_putR dX2_init_17 fl_X2_15 rfl (Or.inr ⟨rfl, rfl, rfl⟩) hk22 hb23 ga28 g29 ?_
  obtain ⟨τ30, e31⟩ : ∃ τ : AH, τ = (sR τ19 x0 4 (some (nx τ12))) := ⟨_, rfl⟩
  replace h := h τ30 e31
  rw [← e31]
  have hk33 : kd _ x0 = (2, NO 2) := (congrFun (congrArg kd e31) _).trans hk22
  have hb34 := Nat.lt_of_lt_of_eq hb23 (congrArg nx e31).symm
  have hk35 : kd _ x1 = (9, NO 9) := (congrFun (congrArg kd e31) _).trans hk24
  have hb36 := Nat.lt_of_lt_of_eq hb25 (congrArg nx e31).symm
  refine E_aload_n 0 dX2_init_20 rfl rfl ?_
  refine E_bipush (60 : Int32) dX2_init_21 (by decide) ?_
  refine E_newaI 60 dX2_init_23 ac_int (by decide) (by decide) (by decide) ?_
  obtain ⟨τ37, e38⟩ : ∃ τ : AH, τ = (aw τ30 100 60) := ⟨_, rfl⟩
  replace h := h τ37 e38
  rw [← e38]
  have hk40 : kd _ x0 = (2, NO 2) := (congrFun (congrArg kd e38) _).trans ((up_ne _ _ _ (Nat.ne_of_lt hb34)).trans hk33)
  have hb41 := Nat.lt_of_lt_of_eq (Nat.lt_succ_of_lt hb34) (congrArg nx e38).symm
  have hk42 : kd _ x1 = (9, NO 9) := (congrFun (congrArg kd e38) _).trans ((up_ne _ _ _ (Nat.ne_of_lt hb36)).trans hk35)
  have hb43 := Nat.lt_of_lt_of_eq (Nat.lt_succ_of_lt hb36) (congrArg nx e38).symm
  have hk44 : kd _ (nx τ30) = (100, 60) := (congrFun (congrArg kd e38) _).trans (up_same _ _ _)
  have hb45 := Nat.lt_of_lt_of_eq (Nat.lt_succ_self _) (congrArg nx e38).symm
  obtain ⟨ga46, h⟩ := h
  obtain ⟨g47, h⟩ := h
  refine E_putR dX2_init_25 fl_X2_18 rfl (Or.inr ⟨rfl, rfl, rfl⟩) hk40 hb41 ga46 g47 ?_
  obtain ⟨τ48, e49⟩ : ∃ τ : AH, τ = (sR τ37 x0 5 (some (nx τ30))) := ⟨_, rfl⟩
  replace h := h τ48 e49
  rw [← e49]
  have hk51 : kd _ x0 = (2, NO 2) := (congrFun (congrArg kd e49) _).trans hk40
  have hb52 := Nat.lt_of_lt_of_eq hb41 (congrArg nx e49).symm
  have hk53 : kd _ x1 = (9, NO 9) := (congrFun (congrArg kd e49) _).trans hk42
  have hb54 := Nat.lt_of_lt_of_eq hb43 (congrArg nx e49).symm
  refine E_aload_n 0 dX2_init_28 rfl rfl ?_
  refine E_bipush (60 : Int32) dX2_init_29 (by decide) ?_
  refine E_newaI 60 dX2_init_31 ac_int (by decide) (by decide) (by decide) ?_
  obtain ⟨τ55, e56⟩ : ∃ τ : AH, τ = (aw τ48 100 60) := ⟨_, rfl⟩
  replace h := h τ55 e56
  rw [← e56]
  have hk58 : kd _ x0 = (2, NO 2) := (congrFun (congrArg kd e56) _).trans ((up_ne _ _ _ (Nat.ne_of_lt hb52)).trans hk51)
  have hb59 := Nat.lt_of_lt_of_eq (Nat.lt_succ_of_lt hb52) (congrArg nx e56).symm
  have hk60 : kd _ x1 = (9, NO 9) := (congrFun (congrArg kd e56) _).trans ((up_ne _ _ _ (Nat.ne_of_lt hb54)).trans hk53)
  have hb61 := Nat.lt_of_lt_of_eq (Nat.lt_succ_of_lt hb54) (congrArg nx e56).symm
  have hk62 : kd _ (nx τ48) = (100, 60) := (congrFun (congrArg kd e56) _).trans (up_same _ _ _)
  have hb63 := Nat.lt_of_lt_of_eq (Nat.lt_succ_self _) (congrArg nx e56).symm
  obtain ⟨ga64, h⟩ := h
  obtain ⟨g65, h⟩ := h
  refine E_putR dX2_init_33 fl_X2_21 rfl (Or.inr ⟨rfl, rfl, rfl⟩) hk58 hb59 ga64 g65 ?_
  obtain ⟨τ66, e67⟩ : ∃ τ : AH, τ = (sR τ55 x0 6 (some (nx τ48))) := ⟨_, rfl⟩
  replace h := h τ66 e67
  rw [← e67]
  have hk69 : kd _ x0 = (2, NO 2) := (congrFun (congrArg kd e67) _).trans hk58
  have hb70 := Nat.lt_of_lt_of_eq hb59 (congrArg nx e67).symm
  have hk71 : kd _ x1 = (9, NO 9) := (congrFun (congrArg kd e67) _).trans hk60
  have hb72 := Nat.lt_of_lt_of_eq hb61 (congrArg nx e67).symm
  refine E_aload_n 0 dX2_init_36 rfl rfl ?_
  refine E_aload_n 1 dX2_init_37 rfl rfl ?_
  obtain ⟨ga73, h⟩ := h
  obtain ⟨g74, h⟩ := h
  refine E_putR dX2_init_38 fl_X2_24 rfl (Or.inr ⟨rfl, rfl, rfl⟩) hk69 hb70 ga73 g74 ?_
  obtain ⟨τ75, e76⟩ : ∃ τ : AH, τ = (sR τ66 x0 0 (some x1)) := ⟨_, rfl⟩
  replace h := h τ75 e76
  rw [← e76]
  have hk78 : kd _ x0 = (2, NO 2) := (congrFun (congrArg kd e76) _).trans hk69
  have hb79 := Nat.lt_of_lt_of_eq hb70 (congrArg nx e76).symm
  have hk80 : kd _ x1 = (9, NO 9) := (congrFun (congrArg kd e76) _).trans hk71
  have hb81 := Nat.lt_of_lt_of_eq hb72 (congrArg nx e76).symm
  refine E_aload_n 0 dX2_init_41 rfl rfl ?_
  refine E_aload_n 2 dX2_init_42 rfl rfl ?_
  obtain ⟨ga82, h⟩ := h
  obtain ⟨g83, h⟩ := h
  refine E_putR dX2_init_43 fl_X2_28 rfl (Or.inr ⟨rfl, rfl, rfl⟩) hk78 hb79 ga82 g83 ?_
  obtain ⟨τ84, e85⟩ : ∃ τ : AH, τ = (sR τ75 x0 1 (some x2)) := ⟨_, rfl⟩
  replace h := h τ84 e85
  rw [← e85]
  have hk87 : kd _ x0 = (2, NO 2) := (congrFun (congrArg kd e85) _).trans hk78
  have hb88 := Nat.lt_of_lt_of_eq hb79 (congrArg nx e85).symm
  have hk89 : kd _ x1 = (9, NO 9) := (congrFun (congrArg kd e85) _).trans hk80
  have hb90 := Nat.lt_of_lt_of_eq hb81 (congrArg nx e85).symm
  refine E_aload_n 0 dX2_init_46 rfl rfl ?_
  refine E_aload_n 3 dX2_init_47 rfl rfl ?_
  obtain ⟨ga91, h⟩ := h
  obtain ⟨g92, h⟩ := h
  refine E_putR dX2_init_48 fl_X2_32 rfl (Or.inr ⟨rfl, rfl, rfl⟩) hk87 hb88 ga91 g92 ?_
  obtain ⟨τ93, e94⟩ : ∃ τ : AH, τ = (sR τ84 x0 2 (some x3)) := ⟨_, rfl⟩
  replace h := h τ93 e94
  rw [← e94]
  have hk96 : kd _ x0 = (2, NO 2) := (congrFun (congrArg kd e94) _).trans hk87
  have hb97 := Nat.lt_of_lt_of_eq hb88 (congrArg nx e94).symm
  have hk98 : kd _ x1 = (9, NO 9) := (congrFun (congrArg kd e94) _).trans hk89
  have hb99 := Nat.lt_of_lt_of_eq hb90 (congrArg nx e94).symm
  obtain ⟨rfl, rfl⟩ := h
  exact E_vret dX2_init_51 rfl
def W_X2_endOf_0 (X : Sx) (l : Launch) (D : Nat) (x1 : Int32) (x2 : Nat) (x3 : Int32) (σ : AH) (r : Option Value) (σ' : AH) : Prop := ∃ d1 : Nat, ∃ v6 : Int32, ∃ σ2 : AH, d1 + 1 ≤ D ∧ Call X l m_X8_at d1 [.ref 9, .int x1, .int (1 : Int32)] σ (some (.int v6)) σ2 ∧ (if v6 = (2 : Int32) then ∃ d7 : Nat, ∃ v12 : Int32, ∃ σ8 : AH, d7 + 1 ≤ D ∧ Call X l m_X6_doneWeek d7 [.ref x2, .int x1] σ2 (some (.int v12)) σ8 ∧ ∃ d13 : Nat, ∃ σ14 : AH, d13 + 1 ≤ D ∧ Call X l m_X3_settle d13 [.ref 28, .int v12, .int x3] σ8 none σ14 ∧ ∃ d18 : Nat, ∃ σ19 : AH, d18 + 1 ≤ D ∧ Call X l m_X3_ask d18 [.ref 28, .int (0 : Int32), .int v12] σ14 none σ19 ∧ ∃ d23 : Nat, ∃ v28 : Int32, ∃ σ24 : AH, d23 + 1 ≤ D ∧ Call X l m_X3_counted d23 [.ref 28, .int (59 : Int32)] σ19 (some (.int v28)) σ24 ∧ (if v28 = (-1 : Int32) then (r = some (.int (2000000000 : Int32)) ∧ σ' = σ24) else (r = some (.int (v12 + v28)) ∧ σ' = σ24)) else (r = some (.int (2000000000 : Int32)) ∧ σ' = σ2))
set_option maxRecDepth 100000 in
theorem w_X2_endOf_0 {X : Sx} {l : Launch} {D : Nat} {x1 : Int32} {x2 : Nat} {x3 : Int32} {σ : AH} {r : Option Value} {σ' : AH} (hs : Sh σ) (hmx2 : x2 ∈ runIds) (h : W_X2_endOf_0 X l D x1 x2 x3 σ r σ') : E X l m_X2_endOf D 0 [(0, .ref 119), (1, .int x1), (2, .ref x2), (3, .int x3)] [] σ r σ' := by
  unfold W_X2_endOf_0 at h
  refine E_aload_n 0 dX2_endOf_0 rfl rfl ?_
  refine E_getR 1 dX2_endOf_1 fl_X2_24 rfl (sk_119 hs) (sn hs (by decide)) (sr_119_0 hs) ?_
  refine E_getR 9 dX2_endOf_4 fl_X2_36 rfl (sk_1 hs) (sn hs (by decide)) (sr_1_5 hs) ?_
  refine E_iload_n 1 dX2_endOf_7 rfl rfl ?_
  refine E_iconst (1 : Int32) dX2_endOf_8 (by decide) ?_
  obtain ⟨d1, v6, σ2, hD3, hC4, h⟩ := h
  have hs5 := hC4.1.2.2.2.1 hs
  refine E_callV (As := [.int x1, .int (1 : Int32)]) (rest := []) (r1 := (some (.int v6))) (b := 9) dX2_endOf_9 ok_X8_at in_X8_at se_X8_at ml_X2_42 hD3 rfl rfl (Nat.le_of_ble_eq_true rfl) (sk_9 hs) (sn hs (by decide)) (by decide) rfl (by decide +kernel) hC4 ?_
  refine E_iconst (2 : Int32) dX2_endOf_12 (by decide) ?_
  refine E_icmp_eq 19 dX2_endOf_13 (by decide) (fun c => ?_) (fun c => ?_)
  · rw [if_pos c] at h
    refine E_aload_n 2 dX2_endOf_19 rfl rfl ?_
    refine E_iload_n 1 dX2_endOf_20 rfl rfl ?_
    obtain ⟨d7, v12, σ8, hD9, hC10, h⟩ := h
    have hs11 := hC10.1.2.2.2.1 hs5
    refine E_callV (As := [.int x1]) (rest := []) (r1 := (some (.int v12))) (b := x2) dX2_endOf_21 ok_X6_doneWeek in_X6_doneWeek se_X6_doneWeek ml_X2_49 hD9 rfl rfl (Nat.le_of_ble_eq_true rfl) (rn_k hs5 hmx2) (rn_n hs5 hmx2 (j := 0) (by decide)) (by decide) rfl (by decide +kernel) hC10 ?_
    refine E_istore [(4, .int v12), (0, .ref 119), (1, .int x1), (2, .ref x2), (3, .int x3)] dX2_endOf_24 (by decide) rfl ?_
    refine E_aload_n 1 dX2_endOf_26 rfl rfl ?_
    refine E_getR 28 dX2_endOf_27 fl_X2_28 rfl (sk_119 hs11) (sn hs11 (by decide)) (sr_119_1 hs11) ?_
    refine E_iload 0 dX2_endOf_30 rfl ?_
    refine E_iload_n 4 dX2_endOf_32 rfl rfl ?_
    obtain ⟨d13, σ14, hD15, hC16, h⟩ := h
    have hs17 := hC16.1.2.2.2.1 hs11
    refine E_callV (As := [.int v12, .int x3]) (rest := []) (r1 := none) (b := 28) dX2_endOf_33 ok_X3_settle in_X3_settle se_X3_settle ml_X2_55 hD15 rfl rfl (Nat.le_of_ble_eq_true rfl) (sk_28 hs11) (sn hs11 (by decide)) (by decide) rfl (by decide +kernel) hC16 ?_
    refine E_aload_n 1 dX2_endOf_36 rfl rfl ?_
    refine E_getR 28 dX2_endOf_37 fl_X2_28 rfl (sk_119 hs17) (sn hs17 (by decide)) (sr_119_1 hs17) ?_
    refine E_iconst (0 : Int32) dX2_endOf_40 (by decide) ?_
    refine E_iload 0 dX2_endOf_41 rfl ?_
    obtain ⟨d18, σ19, hD20, hC21, h⟩ := h
    have hs22 := hC21.1.2.2.2.1 hs17
    refine E_callV (As := [.int (0 : Int32), .int v12]) (rest := []) (r1 := none) (b := 28) dX2_endOf_43 ok_X3_ask in_X3_ask se_X3_ask ml_X2_61 hD20 rfl rfl (Nat.le_of_ble_eq_true rfl) (sk_28 hs17) (sn hs17 (by decide)) (by decide) rfl (by decide +kernel) hC21 ?_
    refine E_aload_n 1 dX2_endOf_46 rfl rfl ?_
    refine E_getR 28 dX2_endOf_47 fl_X2_28 rfl (sk_119 hs22) (sn hs22 (by decide)) (sr_119_1 hs22) ?_
    refine E_bipush (59 : Int32) dX2_endOf_50 (by decide) ?_
    obtain ⟨d23, v28, σ24, hD25, hC26, h⟩ := h
    have hs27 := hC26.1.2.2.2.1 hs22
    refine E_callV (As := [.int (59 : Int32)]) (rest := []) (r1 := (some (.int v28))) (b := 28) dX2_endOf_52 ok_X3_counted in_X3_counted se_X3_counted ml_X2_64 hD25 rfl rfl (Nat.le_of_ble_eq_true rfl) (sk_28 hs22) (sn hs22 (by decide)) (by decide) rfl (by decide +kernel) hC26 ?_
    refine E_istore [(5, .int v28), (4, .int v12), (0, .ref 119), (1, .int x1), (2, .ref x2), (3, .int x3)] dX2_endOf_55 (by decide) rfl ?_
    refine E_iload 0 dX2_endOf_57 rfl ?_
    refine E_iconst (-1 : Int32) dX2_endOf_59 (by decide) ?_
    refine E_icmp_ne 68 dX2_endOf_60 (by decide) (fun c => ?_) (fun c => ?_)
    · rw [if_neg c] at h
      refine E_iload 1 dX2_endOf_68 rfl ?_
      refine E_iload 0 dX2_endOf_70 rfl ?_
      refine E_iadd dX2_endOf_72 ?_
      obtain ⟨rfl, rfl⟩ := h
      exact E_iret dX2_endOf_73 rfl
    · rw [if_pos c] at h
      refine E_ldc (2000000000 : Int32) dX2_endOf_63 ct_X2_48 ?_
      refine E_goto 73 dX2_endOf_65 (by decide) ?_
      obtain ⟨rfl, rfl⟩ := h
      exact E_iret dX2_endOf_73 rfl
  · rw [if_neg c] at h
    refine E_ldc (2000000000 : Int32) dX2_endOf_16 ct_X2_48 ?_
    obtain ⟨rfl, rfl⟩ := h
    exact E_iret dX2_endOf_18 rfl
def W_X2_isLived_0 (X : Sx) (l : Launch) (D : Nat) (x1 : Int32) (x2 : Int32) (σ : AH) (r : Option Value) (σ' : AH) : Prop := ∃ d1 : Nat, ∃ v6 : Int32, ∃ σ2 : AH, d1 + 1 ≤ D ∧ Call X l m_X8_at d1 [.ref 17, .int x1, .int (3 : Int32)] σ (some (.int v6)) σ2 ∧ (if x2 < v6 then (r = some (.int (0 : Int32)) ∧ σ' = σ2) else (r = some (.int (1 : Int32)) ∧ σ' = σ2))
set_option maxRecDepth 100000 in
theorem w_X2_isLived_0 {X : Sx} {l : Launch} {D : Nat} {x1 : Int32} {x2 : Int32} {σ : AH} {r : Option Value} {σ' : AH} (hs : Sh σ) (h : W_X2_isLived_0 X l D x1 x2 σ r σ') : E X l m_X2_isLived D 0 [(0, .ref 119), (1, .int x1), (2, .int x2)] [] σ r σ' := by
  unfold W_X2_isLived_0 at h
  refine E_aload_n 0 dX2_isLived_0 rfl rfl ?_
  refine E_getR 1 dX2_isLived_1 fl_X2_24 rfl (sk_119 hs) (sn hs (by decide)) (sr_119_0 hs) ?_
  refine E_getR 17 dX2_isLived_4 fl_X2_67 rfl (sk_1 hs) (sn hs (by decide)) (sr_1_9 hs) ?_
  refine E_iload_n 1 dX2_isLived_7 rfl rfl ?_
  refine E_iconst (3 : Int32) dX2_isLived_8 (by decide) ?_
  obtain ⟨d1, v6, σ2, hD3, hC4, h⟩ := h
  have hs5 := hC4.1.2.2.2.1 hs
  refine E_callV (As := [.int x1, .int (3 : Int32)]) (rest := []) (r1 := (some (.int v6))) (b := 17) dX2_isLived_9 ok_X8_at in_X8_at se_X8_at ml_X2_42 hD3 rfl rfl (Nat.le_of_ble_eq_true rfl) (sk_17 hs) (sn hs (by decide)) (by decide) rfl (by decide +kernel) hC4 ?_
  refine E_iload_n 2 dX2_isLived_12 rfl rfl ?_
  refine E_icmp_gt 20 dX2_isLived_13 (by decide) (fun c => ?_) (fun c => ?_)
  · rw [if_pos c] at h
    refine E_iconst (0 : Int32) dX2_isLived_20 (by decide) ?_
    obtain ⟨rfl, rfl⟩ := h
    exact E_zret dX2_isLived_21 rfl (Or.inl rfl)
  · rw [if_neg c] at h
    refine E_iconst (1 : Int32) dX2_isLived_16 (by decide) ?_
    refine E_goto 21 dX2_isLived_17 (by decide) ?_
    obtain ⟨rfl, rfl⟩ := h
    exact E_zret dX2_isLived_21 rfl (Or.inr rfl)
def W_X2_stayIn_0 (X : Sx) (l : Launch) (D : Nat) (x1 : Int32) (x2 : Int32) (σ : AH) (r : Option Value) (σ' : AH) : Prop := E X l m_X2_stayIn D 2 [(0, .ref 119), (1, .int x1), (2, .int x2), (3, .int (0 : Int32))] [] σ r σ'
set_option maxRecDepth 100000 in
theorem w_X2_stayIn_0 {X : Sx} {l : Launch} {D : Nat} {x1 : Int32} {x2 : Int32} {σ : AH} {r : Option Value} {σ' : AH} (hs : Sh σ) (h : W_X2_stayIn_0 X l D x1 x2 σ r σ') : E X l m_X2_stayIn D 0 [(0, .ref 119), (1, .int x1), (2, .int x2)] [] σ r σ' := by
  unfold W_X2_stayIn_0 at h
  refine E_iconst (0 : Int32) dX2_stayIn_0 (by decide) ?_
  refine E_istore_n [(3, .int (0 : Int32)), (0, .ref 119), (1, .int x1), (2, .int x2)] dX2_stayIn_1 rfl (by decide) rfl ?_
  exact E_lv [1, 2, 3, 0] rfl h
def W_X2_stayIn_82 (X : Sx) (l : Launch) (D : Nat) (x1 : Int32) (x2 : Int32) (x3 : Int32) (σ : AH) (r : Option Value) (σ' : AH) : Prop := E X l m_X2_stayIn D 2 [(0, .ref 119), (1, .int x1), (2, .int x2), (3, .int (x3 + 1))] [] σ r σ'
set_option maxRecDepth 100000 in
theorem w_X2_stayIn_82 {X : Sx} {l : Launch} {D : Nat} {x1 : Int32} {x2 : Int32} {x3 : Int32} {σ : AH} {r : Option Value} {σ' : AH} (hs : Sh σ) (h : W_X2_stayIn_82 X l D x1 x2 x3 σ r σ') : E X l m_X2_stayIn D 82 [(0, .ref 119), (1, .int x1), (2, .int x2), (3, .int x3)] [] σ r σ' := by
  unfold W_X2_stayIn_82 at h
  refine E_iinc 3 (x3 + 1) [(3, .int (x3 + 1)), (0, .ref 119), (1, .int x1), (2, .int x2)] dX2_stayIn_82 rfl (congrArg (x3 + ·) (by decide : Int32.ofInt 1 = 1)) (by decide) rfl ?_
  refine E_goto 2 dX2_stayIn_85 (by decide) ?_
  exact E_lv [1, 2, 3, 0] rfl h
def W_X2_stayIn_2 (X : Sx) (l : Launch) (D : Nat) (x1 : Int32) (x2 : Int32) (x3 : Int32) (σ : AH) (r : Option Value) (σ' : AH) : Prop := ∃ d1 : Nat, ∃ v6 : Int32, ∃ σ2 : AH, d1 + 1 ≤ D ∧ Call X l m_X8_rows d1 [.ref 17] σ (some (.int v6)) σ2 ∧ (if v6 ≤ x3 then (r = some (.int (-1 : Int32)) ∧ σ' = σ2) else ∃ d7 : Nat, ∃ v12 : Int32, ∃ σ8 : AH, d7 + 1 ≤ D ∧ Call X l m_X8_at d7 [.ref 17, .int x3, .int (0 : Int32)] σ2 (some (.int v12)) σ8 ∧ (if v12 = x1 then ∃ d13 : Nat, ∃ v18 : Int32, ∃ σ14 : AH, d13 + 1 ≤ D ∧ Call X l m_X8_at d13 [.ref 17, .int x3, .int (2 : Int32)] σ8 (some (.int v18)) σ14 ∧ (if x2 < v18 then W_X2_stayIn_82 X l D x1 x2 x3 σ14 r σ' else ∃ d19 : Nat, ∃ v24 : Int32, ∃ σ20 : AH, d19 + 1 ≤ D ∧ Call X l m_X8_at d19 [.ref 17, .int x3, .int (4 : Int32)] σ14 (some (.int v24)) σ20 ∧ (if v24 ≤ x2 then W_X2_stayIn_82 X l D x1 x2 x3 σ20 r σ' else ∃ d25 : Nat, ∃ v30 : Int32, ∃ σ26 : AH, d25 + 1 ≤ D ∧ Call X l m_X8_at d25 [.ref 17, .int x3, .int (5 : Int32)] σ20 (some (.int v30)) σ26 ∧ (if v30 ≤ x2 then W_X2_stayIn_82 X l D x1 x2 x3 σ26 r σ' else (r = some (.int x3) ∧ σ' = σ26)))) else W_X2_stayIn_82 X l D x1 x2 x3 σ8 r σ'))
set_option maxRecDepth 100000 in
theorem w_X2_stayIn_2 {X : Sx} {l : Launch} {D : Nat} {x1 : Int32} {x2 : Int32} {x3 : Int32} {σ : AH} {r : Option Value} {σ' : AH} (hs : Sh σ) (h : W_X2_stayIn_2 X l D x1 x2 x3 σ r σ') : E X l m_X2_stayIn D 2 [(0, .ref 119), (1, .int x1), (2, .int x2), (3, .int x3)] [] σ r σ' := by
  unfold W_X2_stayIn_2 at h
  refine E_iload_n 3 dX2_stayIn_2 rfl rfl ?_
  refine E_aload_n 0 dX2_stayIn_3 rfl rfl ?_
  refine E_getR 1 dX2_stayIn_4 fl_X2_24 rfl (sk_119 hs) (sn hs (by decide)) (sr_119_0 hs) ?_
  refine E_getR 17 dX2_stayIn_7 fl_X2_67 rfl (sk_1 hs) (sn hs (by decide)) (sr_1_9 hs) ?_
  obtain ⟨d1, v6, σ2, hD3, hC4, h⟩ := h
  have hs5 := hC4.1.2.2.2.1 hs
  refine E_callV (As := []) (rest := [.int x3]) (r1 := (some (.int v6))) (b := 17) dX2_stayIn_10 ok_X8_rows in_X8_rows se_X8_rows ml_X2_70 hD3 rfl rfl (Nat.le_of_ble_eq_true rfl) (sk_17 hs) (sn hs (by decide)) (by decide) rfl (by decide +kernel) hC4 ?_
  refine E_icmp_ge 88 dX2_stayIn_13 (by decide) (fun c => ?_) (fun c => ?_)
  · rw [if_pos c] at h
    refine E_iconst (-1 : Int32) dX2_stayIn_88 (by decide) ?_
    obtain ⟨rfl, rfl⟩ := h
    exact E_iret dX2_stayIn_89 rfl
  · rw [if_neg c] at h
    refine E_aload_n 0 dX2_stayIn_16 rfl rfl ?_
    refine E_getR 1 dX2_stayIn_17 fl_X2_24 rfl (sk_119 hs5) (sn hs5 (by decide)) (sr_119_0 hs5) ?_
    refine E_getR 17 dX2_stayIn_20 fl_X2_67 rfl (sk_1 hs5) (sn hs5 (by decide)) (sr_1_9 hs5) ?_
    refine E_iload_n 3 dX2_stayIn_23 rfl rfl ?_
    refine E_iconst (0 : Int32) dX2_stayIn_24 (by decide) ?_
    obtain ⟨d7, v12, σ8, hD9, hC10, h⟩ := h
    have hs11 := hC10.1.2.2.2.1 hs5
    refine E_callV (As := [.int x3, .int (0 : Int32)]) (rest := []) (r1 := (some (.int v12))) (b := 17) dX2_stayIn_25 ok_X8_at in_X8_at se_X8_at ml_X2_42 hD9 rfl rfl (Nat.le_of_ble_eq_true rfl) (sk_17 hs5) (sn hs5 (by decide)) (by decide) rfl (by decide +kernel) hC10 ?_
    refine E_iload_n 1 dX2_stayIn_28 rfl rfl ?_
    refine E_icmp_ne 82 dX2_stayIn_29 (by decide) (fun c => ?_) (fun c => ?_)
    · rw [if_neg c] at h
      exact E_lv [0, 1, 2, 3] rfl (w_X2_stayIn_82 hs11 h)
    · rw [if_pos c] at h
      refine E_aload_n 0 dX2_stayIn_32 rfl rfl ?_
      refine E_getR 1 dX2_stayIn_33 fl_X2_24 rfl (sk_119 hs11) (sn hs11 (by decide)) (sr_119_0 hs11) ?_
      refine E_getR 17 dX2_stayIn_36 fl_X2_67 rfl (sk_1 hs11) (sn hs11 (by decide)) (sr_1_9 hs11) ?_
      refine E_iload_n 3 dX2_stayIn_39 rfl rfl ?_
      refine E_iconst (2 : Int32) dX2_stayIn_40 (by decide) ?_
      obtain ⟨d13, v18, σ14, hD15, hC16, h⟩ := h
      have hs17 := hC16.1.2.2.2.1 hs11
      refine E_callV (As := [.int x3, .int (2 : Int32)]) (rest := []) (r1 := (some (.int v18))) (b := 17) dX2_stayIn_41 ok_X8_at in_X8_at se_X8_at ml_X2_42 hD15 rfl rfl (Nat.le_of_ble_eq_true rfl) (sk_17 hs11) (sn hs11 (by decide)) (by decide) rfl (by decide +kernel) hC16 ?_
      refine E_iload_n 2 dX2_stayIn_44 rfl rfl ?_
      refine E_icmp_gt 82 dX2_stayIn_45 (by decide) (fun c => ?_) (fun c => ?_)
      · rw [if_pos c] at h
        exact E_lv [0, 1, 2, 3] rfl (w_X2_stayIn_82 hs17 h)
      · rw [if_neg c] at h
        refine E_aload_n 0 dX2_stayIn_48 rfl rfl ?_
        refine E_getR 1 dX2_stayIn_49 fl_X2_24 rfl (sk_119 hs17) (sn hs17 (by decide)) (sr_119_0 hs17) ?_
        refine E_getR 17 dX2_stayIn_52 fl_X2_67 rfl (sk_1 hs17) (sn hs17 (by decide)) (sr_1_9 hs17) ?_
        refine E_iload_n 3 dX2_stayIn_55 rfl rfl ?_
        refine E_iconst (4 : Int32) dX2_stayIn_56 (by decide) ?_
        obtain ⟨d19, v24, σ20, hD21, hC22, h⟩ := h
        have hs23 := hC22.1.2.2.2.1 hs17
        refine E_callV (As := [.int x3, .int (4 : Int32)]) (rest := []) (r1 := (some (.int v24))) (b := 17) dX2_stayIn_57 ok_X8_at in_X8_at se_X8_at ml_X2_42 hD21 rfl rfl (Nat.le_of_ble_eq_true rfl) (sk_17 hs17) (sn hs17 (by decide)) (by decide) rfl (by decide +kernel) hC22 ?_
        refine E_iload_n 2 dX2_stayIn_60 rfl rfl ?_
        refine E_icmp_le 82 dX2_stayIn_61 (by decide) (fun c => ?_) (fun c => ?_)
        · rw [if_pos c] at h
          exact E_lv [0, 1, 2, 3] rfl (w_X2_stayIn_82 hs23 h)
        · rw [if_neg c] at h
          refine E_aload_n 0 dX2_stayIn_64 rfl rfl ?_
          refine E_getR 1 dX2_stayIn_65 fl_X2_24 rfl (sk_119 hs23) (sn hs23 (by decide)) (sr_119_0 hs23) ?_
          refine E_getR 17 dX2_stayIn_68 fl_X2_67 rfl (sk_1 hs23) (sn hs23 (by decide)) (sr_1_9 hs23) ?_
          refine E_iload_n 3 dX2_stayIn_71 rfl rfl ?_
          refine E_iconst (5 : Int32) dX2_stayIn_72 (by decide) ?_
          obtain ⟨d25, v30, σ26, hD27, hC28, h⟩ := h
          have hs29 := hC28.1.2.2.2.1 hs23
          refine E_callV (As := [.int x3, .int (5 : Int32)]) (rest := []) (r1 := (some (.int v30))) (b := 17) dX2_stayIn_73 ok_X8_at in_X8_at se_X8_at ml_X2_42 hD27 rfl rfl (Nat.le_of_ble_eq_true rfl) (sk_17 hs23) (sn hs23 (by decide)) (by decide) rfl (by decide +kernel) hC28 ?_
          refine E_iload_n 2 dX2_stayIn_76 rfl rfl ?_
          refine E_icmp_le 82 dX2_stayIn_77 (by decide) (fun c => ?_) (fun c => ?_)
          · rw [if_pos c] at h
            exact E_lv [0, 1, 2, 3] rfl (w_X2_stayIn_82 hs29 h)
          · rw [if_neg c] at h
            refine E_iload_n 3 dX2_stayIn_80 rfl rfl ?_
            obtain ⟨rfl, rfl⟩ := h
            exact E_iret dX2_stayIn_81 rfl
def W_X2_livedStay_0 (X : Sx) (l : Launch) (D : Nat) (x1 : Int32) (x2 : Int32) (σ : AH) (r : Option Value) (σ' : AH) : Prop := ∃ d1 : Nat, ∃ v6 : Int32, ∃ σ2 : AH, d1 + 1 ≤ D ∧ Call X l m_X2_stayIn d1 [.ref 119, .int x1, .int x2] σ (some (.int v6)) σ2 ∧ (if v6 = (-1 : Int32) then (r = some (.int (-1 : Int32)) ∧ σ' = σ2) else ∃ d7 : Nat, ∃ v12 : Int32, ∃ σ8 : AH, d7 + 1 ≤ D ∧ Call X l m_X2_isLived d7 [.ref 119, .int v6, .int x2] σ2 (some (.int v12)) σ8 ∧ (if v12 = 0 then (r = some (.int (-1 : Int32)) ∧ σ' = σ8) else (r = some (.int v6) ∧ σ' = σ8)))
set_option maxRecDepth 100000 in
theorem w_X2_livedStay_0 {X : Sx} {l : Launch} {D : Nat} {x1 : Int32} {x2 : Int32} {σ : AH} {r : Option Value} {σ' : AH} (hs : Sh σ) (h : W_X2_livedStay_0 X l D x1 x2 σ r σ') : E X l m_X2_livedStay D 0 [(0, .ref 119), (1, .int x1), (2, .int x2)] [] σ r σ' := by
  unfold W_X2_livedStay_0 at h
  refine E_aload_n 0 dX2_livedStay_0 rfl rfl ?_
  refine E_iload_n 1 dX2_livedStay_1 rfl rfl ?_
  refine E_iload_n 2 dX2_livedStay_2 rfl rfl ?_
  obtain ⟨d1, v6, σ2, hD3, hC4, h⟩ := h
  have hs5 := hC4.1.2.2.2.1 hs
  refine E_callV (As := [.int x1, .int x2]) (rest := []) (r1 := (some (.int v6))) (b := 119) dX2_livedStay_3 ok_X2_stayIn in_X2_stayIn se_X2_stayIn ml_X2_74 hD3 rfl rfl (Nat.le_of_ble_eq_true rfl) (sk_119 hs) (sn hs (by decide)) (by decide) rfl (by decide +kernel) hC4 ?_
  refine E_istore_n [(3, .int v6), (0, .ref 119), (1, .int x1), (2, .int x2)] dX2_livedStay_6 rfl (by decide) rfl ?_
  refine E_iload_n 0 dX2_livedStay_7 rfl rfl ?_
  refine E_iconst (-1 : Int32) dX2_livedStay_8 (by decide) ?_
  refine E_icmp_eq 25 dX2_livedStay_9 (by decide) (fun c => ?_) (fun c => ?_)
  · rw [if_pos c] at h
    refine E_iconst (-1 : Int32) dX2_livedStay_25 (by decide) ?_
    obtain ⟨rfl, rfl⟩ := h
    exact E_iret dX2_livedStay_26 rfl
  · rw [if_neg c] at h
    refine E_aload_n 1 dX2_livedStay_12 rfl rfl ?_
    refine E_iload_n 0 dX2_livedStay_13 rfl rfl ?_
    refine E_iload_n 3 dX2_livedStay_14 rfl rfl ?_
    obtain ⟨d7, v12, σ8, hD9, hC10, h⟩ := h
    have hs11 := hC10.1.2.2.2.1 hs5
    refine E_callV (As := [.int v6, .int x2]) (rest := []) (r1 := (some (.int v12))) (b := 119) dX2_livedStay_15 ok_X2_isLived in_X2_isLived se_X2_isLived ml_X2_77 hD9 rfl rfl (Nat.le_of_ble_eq_true rfl) (sk_119 hs5) (sn hs5 (by decide)) (by decide) rfl (by decide +kernel) hC10 ?_
    refine E_if_eq 25 dX2_livedStay_18 (by decide) (fun c => ?_) (fun c => ?_)
    · rw [if_pos c] at h
      refine E_iconst (-1 : Int32) dX2_livedStay_25 (by decide) ?_
      obtain ⟨rfl, rfl⟩ := h
      exact E_iret dX2_livedStay_26 rfl
    · rw [if_neg c] at h
      refine E_iload_n 0 dX2_livedStay_21 rfl rfl ?_
      refine E_goto 26 dX2_livedStay_22 (by decide) ?_
      obtain ⟨rfl, rfl⟩ := h
      exact E_iret dX2_livedStay_26 rfl
def W_X2_roofOf_0 (X : Sx) (l : Launch) (D : Nat) (x1 : Int32) (x2 : Int32) (σ : AH) (r : Option Value) (σ' : AH) : Prop := E X l m_X2_roofOf D 2 [(0, .ref 119), (1, .int x1), (2, .int x2), (3, .int (0 : Int32))] [] σ r σ'
set_option maxRecDepth 100000 in
theorem w_X2_roofOf_0 {X : Sx} {l : Launch} {D : Nat} {x1 : Int32} {x2 : Int32} {σ : AH} {r : Option Value} {σ' : AH} (hs : Sh σ) (h : W_X2_roofOf_0 X l D x1 x2 σ r σ') : E X l m_X2_roofOf D 0 [(0, .ref 119), (1, .int x1), (2, .int x2)] [] σ r σ' := by
  unfold W_X2_roofOf_0 at h
  refine E_iconst (0 : Int32) dX2_roofOf_0 (by decide) ?_
  refine E_istore_n [(3, .int (0 : Int32)), (0, .ref 119), (1, .int x1), (2, .int x2)] dX2_roofOf_1 rfl (by decide) rfl ?_
  exact E_lv [1, 2, 3, 0] rfl h
def W_X2_roofOf_57 (X : Sx) (l : Launch) (D : Nat) (x1 : Int32) (x2 : Int32) (x3 : Int32) (σ : AH) (r : Option Value) (σ' : AH) : Prop := E X l m_X2_roofOf D 2 [(0, .ref 119), (1, .int x1), (2, .int x2), (3, .int (x3 + 1))] [] σ r σ'
set_option maxRecDepth 100000 in
theorem w_X2_roofOf_57 {X : Sx} {l : Launch} {D : Nat} {x1 : Int32} {x2 : Int32} {x3 : Int32} {σ : AH} {r : Option Value} {σ' : AH} (hs : Sh σ) (h : W_X2_roofOf_57 X l D x1 x2 x3 σ r σ') : E X l m_X2_roofOf D 57 [(0, .ref 119), (1, .int x1), (2, .int x2), (3, .int x3)] [] σ r σ' := by
  unfold W_X2_roofOf_57 at h
  refine E_iinc 3 (x3 + 1) [(3, .int (x3 + 1)), (0, .ref 119), (1, .int x1), (2, .int x2)] dX2_roofOf_57 rfl (congrArg (x3 + ·) (by decide : Int32.ofInt 1 = 1)) (by decide) rfl ?_
  refine E_goto 2 dX2_roofOf_60 (by decide) ?_
  exact E_lv [1, 2, 3, 0] rfl h
def W_X2_roofOf_2 (X : Sx) (l : Launch) (D : Nat) (x1 : Int32) (x2 : Int32) (x3 : Int32) (σ : AH) (r : Option Value) (σ' : AH) : Prop := ∃ d1 : Nat, ∃ v6 : Int32, ∃ σ2 : AH, d1 + 1 ≤ D ∧ Call X l m_X8_rows d1 [.ref 9] σ (some (.int v6)) σ2 ∧ (if v6 ≤ x3 then (r = some (.int (-1 : Int32)) ∧ σ' = σ2) else ∃ d7 : Nat, ∃ v12 : Int32, ∃ σ8 : AH, d7 + 1 ≤ D ∧ Call X l m_X2_livedStay d7 [.ref 119, .int x3, .int x2] σ2 (some (.int v12)) σ8 ∧ (if v12 = (-1 : Int32) then W_X2_roofOf_57 X l D x1 x2 x3 σ8 r σ' else ∃ d13 : Nat, ∃ v18 : Int32, ∃ σ14 : AH, d13 + 1 ≤ D ∧ Call X l m_X8_at d13 [.ref 17, .int v12, .int (1 : Int32)] σ8 (some (.int v18)) σ14 ∧ vp_in v18 60 ∧ (if (gI σ14 114 v18.toNatClampNeg) = x1 then (r = some (.int x3) ∧ σ' = σ14) else W_X2_roofOf_57 X l D x1 x2 x3 σ14 r σ')))
set_option maxRecDepth 100000 in
theorem w_X2_roofOf_2 {X : Sx} {l : Launch} {D : Nat} {x1 : Int32} {x2 : Int32} {x3 : Int32} {σ : AH} {r : Option Value} {σ' : AH} (hs : Sh σ) (h : W_X2_roofOf_2 X l D x1 x2 x3 σ r σ') : E X l m_X2_roofOf D 2 [(0, .ref 119), (1, .int x1), (2, .int x2), (3, .int x3)] [] σ r σ' := by
  unfold W_X2_roofOf_2 at h
  refine E_iload_n 3 dX2_roofOf_2 rfl rfl ?_
  refine E_aload_n 0 dX2_roofOf_3 rfl rfl ?_
  refine E_getR 1 dX2_roofOf_4 fl_X2_24 rfl (sk_119 hs) (sn hs (by decide)) (sr_119_0 hs) ?_
  refine E_getR 9 dX2_roofOf_7 fl_X2_36 rfl (sk_1 hs) (sn hs (by decide)) (sr_1_5 hs) ?_
  obtain ⟨d1, v6, σ2, hD3, hC4, h⟩ := h
  have hs5 := hC4.1.2.2.2.1 hs
  refine E_callV (As := []) (rest := [.int x3]) (r1 := (some (.int v6))) (b := 9) dX2_roofOf_10 ok_X8_rows in_X8_rows se_X8_rows ml_X2_70 hD3 rfl rfl (Nat.le_of_ble_eq_true rfl) (sk_9 hs) (sn hs (by decide)) (by decide) rfl (by decide +kernel) hC4 ?_
  refine E_icmp_ge 63 dX2_roofOf_13 (by decide) (fun c => ?_) (fun c => ?_)
  · rw [if_pos c] at h
    refine E_iconst (-1 : Int32) dX2_roofOf_63 (by decide) ?_
    obtain ⟨rfl, rfl⟩ := h
    exact E_iret dX2_roofOf_64 rfl
  · rw [if_neg c] at h
    refine E_aload_n 0 dX2_roofOf_16 rfl rfl ?_
    refine E_iload_n 3 dX2_roofOf_17 rfl rfl ?_
    refine E_iload_n 2 dX2_roofOf_18 rfl rfl ?_
    obtain ⟨d7, v12, σ8, hD9, hC10, h⟩ := h
    have hs11 := hC10.1.2.2.2.1 hs5
    refine E_callV (As := [.int x3, .int x2]) (rest := []) (r1 := (some (.int v12))) (b := 119) dX2_roofOf_19 ok_X2_livedStay in_X2_livedStay se_X2_livedStay ml_X2_81 hD9 rfl rfl (Nat.le_of_ble_eq_true rfl) (sk_119 hs5) (sn hs5 (by decide)) (by decide) rfl (by decide +kernel) hC10 ?_
    refine E_istore [(4, .int v12), (0, .ref 119), (1, .int x1), (2, .int x2), (3, .int x3)] dX2_roofOf_22 (by decide) rfl ?_
    refine E_iload 0 dX2_roofOf_24 rfl ?_
    refine E_iconst (-1 : Int32) dX2_roofOf_26 (by decide) ?_
    refine E_icmp_eq 57 dX2_roofOf_27 (by decide) (fun c => ?_) (fun c => ?_)
    · rw [if_pos c] at h
      exact E_lv [1, 2, 3, 4] rfl (w_X2_roofOf_57 hs11 h)
    · rw [if_neg c] at h
      refine E_aload_n 1 dX2_roofOf_30 rfl rfl ?_
      refine E_getR 113 dX2_roofOf_31 fl_X2_32 rfl (sk_119 hs11) (sn hs11 (by decide)) (sr_119_2 hs11) ?_
      refine E_getR 114 dX2_roofOf_34 fl_X2_84 rfl (sk_113 hs11) (sn hs11 (by decide)) (sr_113_2 hs11) ?_
      refine E_aload_n 1 dX2_roofOf_37 rfl rfl ?_
      refine E_getR 1 dX2_roofOf_38 fl_X2_24 rfl (sk_119 hs11) (sn hs11 (by decide)) (sr_119_0 hs11) ?_
      refine E_getR 17 dX2_roofOf_41 fl_X2_67 rfl (sk_1 hs11) (sn hs11 (by decide)) (sr_1_9 hs11) ?_
      refine E_iload 0 dX2_roofOf_44 rfl ?_
      refine E_iconst (1 : Int32) dX2_roofOf_46 (by decide) ?_
      obtain ⟨d13, v18, σ14, hD15, hC16, h⟩ := h
      have hs17 := hC16.1.2.2.2.1 hs11
      refine E_callV (As := [.int v12, .int (1 : Int32)]) (rest := [.ref 114]) (r1 := (some (.int v18))) (b := 17) dX2_roofOf_47 ok_X8_at in_X8_at se_X8_at ml_X2_42 hD15 rfl rfl (Nat.le_of_ble_eq_true rfl) (sk_17 hs11) (sn hs11 (by decide)) (by decide) rfl (by decide +kernel) hC16 ?_
      obtain ⟨g19, h⟩ := h
      refine E_iald2 (v18.toNatClampNeg) dX2_roofOf_50 (sk_114 hs17) (sn hs17 (by decide)) g19 rfl ?_
      refine E_iload_n 2 dX2_roofOf_51 rfl rfl ?_
      refine E_icmp_ne 57 dX2_roofOf_52 (by decide) (fun c => ?_) (fun c => ?_)
      · rw [if_neg c] at h
        exact E_lv [1, 2, 3, 4] rfl (w_X2_roofOf_57 hs17 h)
      · rw [if_pos c] at h
        refine E_iload_n 4 dX2_roofOf_55 rfl rfl ?_
        obtain ⟨rfl, rfl⟩ := h
        exact E_iret dX2_roofOf_56 rfl
def W_X2_lookRound_0 (X : Sx) (l : Launch) (D : Nat) (x1 : Int32) (x2 : Nat) (σ : AH) (r : Option Value) (σ' : AH) : Prop := E X l m_X2_lookRound D 2 [(0, .ref 119), (1, .int x1), (2, .ref x2), (3, .int (0 : Int32))] [] σ r σ'
set_option maxRecDepth 100000 in
theorem w_X2_lookRound_0 {X : Sx} {l : Launch} {D : Nat} {x1 : Int32} {x2 : Nat} {σ : AH} {r : Option Value} {σ' : AH} (hs : Sh σ) (hmx2 : x2 ∈ runIds) (h : W_X2_lookRound_0 X l D x1 x2 σ r σ') : E X l m_X2_lookRound D 0 [(0, .ref 119), (1, .int x1), (2, .ref x2)] [] σ r σ' := by
  unfold W_X2_lookRound_0 at h
  refine E_iconst (0 : Int32) dX2_lookRound_0 (by decide) ?_
  refine E_istore_n [(3, .int (0 : Int32)), (0, .ref 119), (1, .int x1), (2, .ref x2)] dX2_lookRound_1 rfl (by decide) rfl ?_
  exact E_lv [1, 2, 3, 0] rfl h
def W_X2_lookRound_55 (X : Sx) (l : Launch) (D : Nat) (x1 : Int32) (x2 : Nat) (x3 : Int32) (y0 : Int32) (y1 : Int32) (σ : AH) (r : Option Value) (σ' : AH) : Prop := vp_in y1 30 ∧ ∃ d25 : Nat, ∃ v30 : Int32, ∃ σ26 : AH, d25 + 1 ≤ D ∧ Call X l m_X2_stayIn d25 [.ref 119, .int x3, .int x1] (sI σ 120 y1.toNatClampNeg y0) (some (.int v30)) σ26 ∧ vp_in x3 30 ∧ E X l m_X2_lookRound D 2 [(0, .ref 119), (1, .int x1), (2, .ref x2), (3, .int (x3 + 1))] [] (sI σ26 121 x3.toNatClampNeg v30) r σ'
set_option maxRecDepth 100000 in
theorem w_X2_lookRound_55 {X : Sx} {l : Launch} {D : Nat} {x1 : Int32} {x2 : Nat} {x3 : Int32} {y0 : Int32} {y1 : Int32} {σ : AH} {r : Option Value} {σ' : AH} (hs : Sh σ) (hmx2 : x2 ∈ runIds) (h : W_X2_lookRound_55 X l D x1 x2 x3 y0 y1 σ r σ') : E X l m_X2_lookRound D 55 [(0, .ref 119), (1, .int x1), (2, .ref x2), (3, .int x3)] [.int y0, .int y1, .ref 120] σ r σ' := by
  unfold W_X2_lookRound_55 at h
  obtain ⟨g24, h⟩ := h
  refine E_iast2 (y1.toNatClampNeg) dX2_lookRound_55 (sk_120 hs) (sn hs (by decide)) (Or.inl (by decide)) g24 rfl ?_
  refine E_aload_n 0 dX2_lookRound_56 rfl rfl ?_
  refine E_getR 121 dX2_lookRound_57 fl_X2_15 rfl (sk_119 hs) (sn hs (by decide)) (sr_119_4 hs) ?_
  refine E_iload_n 3 dX2_lookRound_60 rfl rfl ?_
  refine E_aload_n 0 dX2_lookRound_61 rfl rfl ?_
  refine E_iload_n 3 dX2_lookRound_62 rfl rfl ?_
  refine E_iload_n 1 dX2_lookRound_63 rfl rfl ?_
  obtain ⟨d25, v30, σ26, hD27, hC28, h⟩ := h
  have hs29 := hC28.1.2.2.2.1 hs
  refine E_callV (As := [.int x3, .int x1]) (rest := [.int x3, .ref 121]) (r1 := (some (.int v30))) (b := 119) dX2_lookRound_64 ok_X2_stayIn in_X2_stayIn se_X2_stayIn ml_X2_74 hD27 rfl rfl (Nat.le_of_ble_eq_true rfl) (sk_119 hs) (sn hs (by decide)) (by decide) rfl (by decide +kernel) hC28 ?_
  obtain ⟨g31, h⟩ := h
  refine E_iast2 (x3.toNatClampNeg) dX2_lookRound_67 (sk_121 hs29) (sn hs29 (by decide)) (Or.inl (by decide)) g31 rfl ?_
  refine E_iinc 3 (x3 + 1) [(3, .int (x3 + 1)), (0, .ref 119), (1, .int x1), (2, .ref x2)] dX2_lookRound_68 rfl (congrArg (x3 + ·) (by decide : Int32.ofInt 1 = 1)) (by decide) rfl ?_
  refine E_goto 2 dX2_lookRound_71 (by decide) ?_
  exact E_lv [1, 2, 3, 0] rfl h
def W_X2_lookRound_36 (X : Sx) (l : Launch) (D : Nat) (x1 : Int32) (x2 : Nat) (x3 : Int32) (y0 : Int32) (σ : AH) (r : Option Value) (σ' : AH) : Prop := (if y0 ≤ x1 then W_X2_lookRound_55 X l D x1 x2 x3 (0 : Int32) x3 σ r σ' else W_X2_lookRound_55 X l D x1 x2 x3 y0 x3 σ r σ')
set_option maxRecDepth 100000 in
theorem w_X2_lookRound_36 {X : Sx} {l : Launch} {D : Nat} {x1 : Int32} {x2 : Nat} {x3 : Int32} {y0 : Int32} {σ : AH} {r : Option Value} {σ' : AH} (hs : Sh σ) (hmx2 : x2 ∈ runIds) (h : W_X2_lookRound_36 X l D x1 x2 x3 y0 σ r σ') : E X l m_X2_lookRound D 36 [(0, .ref 119), (1, .int x1), (2, .ref x2), (3, .int x3)] [.int y0] σ r σ' := by
  unfold W_X2_lookRound_36 at h
  refine E_istore [(4, .int y0), (0, .ref 119), (1, .int x1), (2, .ref x2), (3, .int x3)] dX2_lookRound_36 (by decide) rfl ?_
  refine E_aload_n 1 dX2_lookRound_38 rfl rfl ?_
  refine E_getR 120 dX2_lookRound_39 fl_X2_9 rfl (sk_119 hs) (sn hs (by decide)) (sr_119_3 hs) ?_
  refine E_iload_n 4 dX2_lookRound_42 rfl rfl ?_
  refine E_iload 0 dX2_lookRound_43 rfl ?_
  refine E_iload_n 2 dX2_lookRound_45 rfl rfl ?_
  refine E_icmp_le 54 dX2_lookRound_46 (by decide) (fun c => ?_) (fun c => ?_)
  · rw [if_pos c] at h
    refine E_iconst (0 : Int32) dX2_lookRound_54 (by decide) ?_
    exact E_lv [1, 2, 3, 4] rfl (w_X2_lookRound_55 hs hmx2 h)
  · rw [if_neg c] at h
    refine E_iload 0 dX2_lookRound_49 rfl ?_
    refine E_goto 55 dX2_lookRound_51 (by decide) ?_
    exact E_lv [1, 2, 3, 4] rfl (w_X2_lookRound_55 hs hmx2 h)
def W_X2_lookRound_2 (X : Sx) (l : Launch) (D : Nat) (x1 : Int32) (x2 : Nat) (x3 : Int32) (σ : AH) (r : Option Value) (σ' : AH) : Prop := ∃ d1 : Nat, ∃ v6 : Int32, ∃ σ2 : AH, d1 + 1 ≤ D ∧ Call X l m_X8_rows d1 [.ref 9] σ (some (.int v6)) σ2 ∧ (if v6 ≤ x3 then ∃ d7 : Nat, ∃ σ8 : AH, d7 + 1 ≤ D ∧ Call X l m_X2_findRoofs d7 [.ref 119, .int x1] σ2 none σ8 ∧ (r = none ∧ σ' = σ8) else ∃ d12 : Nat, ∃ v17 : Int32, ∃ σ13 : AH, d12 + 1 ≤ D ∧ Call X l m_X6_isDoneBy d12 [.ref x2, .int x3, .int x1] σ2 (some (.int v17)) σ13 ∧ (if v17 = 0 then W_X2_lookRound_36 X l D x1 x2 x3 (0 : Int32) σ13 r σ' else ∃ d18 : Nat, ∃ v23 : Int32, ∃ σ19 : AH, d18 + 1 ≤ D ∧ Call X l m_X2_endOf d18 [.ref 119, .int x3, .ref x2, .int x1] σ13 (some (.int v23)) σ19 ∧ W_X2_lookRound_36 X l D x1 x2 x3 v23 σ19 r σ'))
set_option maxRecDepth 100000 in
theorem w_X2_lookRound_2 {X : Sx} {l : Launch} {D : Nat} {x1 : Int32} {x2 : Nat} {x3 : Int32} {σ : AH} {r : Option Value} {σ' : AH} (hs : Sh σ) (hmx2 : x2 ∈ runIds) (h : W_X2_lookRound_2 X l D x1 x2 x3 σ r σ') : E X l m_X2_lookRound D 2 [(0, .ref 119), (1, .int x1), (2, .ref x2), (3, .int x3)] [] σ r σ' := by
  unfold W_X2_lookRound_2 at h
  refine E_iload_n 3 dX2_lookRound_2 rfl rfl ?_
  refine E_aload_n 0 dX2_lookRound_3 rfl rfl ?_
  refine E_getR 1 dX2_lookRound_4 fl_X2_24 rfl (sk_119 hs) (sn hs (by decide)) (sr_119_0 hs) ?_
  refine E_getR 9 dX2_lookRound_7 fl_X2_36 rfl (sk_1 hs) (sn hs (by decide)) (sr_1_5 hs) ?_
  obtain ⟨d1, v6, σ2, hD3, hC4, h⟩ := h
  have hs5 := hC4.1.2.2.2.1 hs
  refine E_callV (As := []) (rest := [.int x3]) (r1 := (some (.int v6))) (b := 9) dX2_lookRound_10 ok_X8_rows in_X8_rows se_X8_rows ml_X2_70 hD3 rfl rfl (Nat.le_of_ble_eq_true rfl) (sk_9 hs) (sn hs (by decide)) (by decide) rfl (by decide +kernel) hC4 ?_
  refine E_icmp_ge 74 dX2_lookRound_13 (by decide) (fun c => ?_) (fun c => ?_)
  · rw [if_pos c] at h
    refine E_aload_n 0 dX2_lookRound_74 rfl rfl ?_
    refine E_iload_n 1 dX2_lookRound_75 rfl rfl ?_
    obtain ⟨d7, σ8, hD9, hC10, h⟩ := h
    have hs11 := hC10.1.2.2.2.1 hs5
    refine E_callV (As := [.int x1]) (rest := []) (r1 := none) (b := 119) dX2_lookRound_76 ok_X2_findRoofs in_X2_findRoofs se_X2_findRoofs ml_X2_96 hD9 rfl rfl (Nat.le_of_ble_eq_true rfl) (sk_119 hs5) (sn hs5 (by decide)) (by decide) rfl (by decide +kernel) hC10 ?_
    obtain ⟨rfl, rfl⟩ := h
    exact E_vret dX2_lookRound_79 rfl
  · rw [if_neg c] at h
    refine E_aload_n 2 dX2_lookRound_16 rfl rfl ?_
    refine E_iload_n 3 dX2_lookRound_17 rfl rfl ?_
    refine E_iload_n 1 dX2_lookRound_18 rfl rfl ?_
    obtain ⟨d12, v17, σ13, hD14, hC15, h⟩ := h
    have hs16 := hC15.1.2.2.2.1 hs5
    refine E_callV (As := [.int x3, .int x1]) (rest := []) (r1 := (some (.int v17))) (b := x2) dX2_lookRound_19 ok_X6_isDoneBy in_X6_isDoneBy se_X6_isDoneBy ml_X2_89 hD14 rfl rfl (Nat.le_of_ble_eq_true rfl) (rn_k hs5 hmx2) (rn_n hs5 hmx2 (j := 0) (by decide)) (by decide) rfl (by decide +kernel) hC15 ?_
    refine E_if_eq 35 dX2_lookRound_22 (by decide) (fun c => ?_) (fun c => ?_)
    · rw [if_pos c] at h
      refine E_iconst (0 : Int32) dX2_lookRound_35 (by decide) ?_
      exact E_lv [0, 1, 2, 3] rfl (w_X2_lookRound_36 hs16 hmx2 h)
    · rw [if_neg c] at h
      refine E_aload_n 0 dX2_lookRound_25 rfl rfl ?_
      refine E_iload_n 3 dX2_lookRound_26 rfl rfl ?_
      refine E_aload_n 2 dX2_lookRound_27 rfl rfl ?_
      refine E_iload_n 1 dX2_lookRound_28 rfl rfl ?_
      obtain ⟨d18, v23, σ19, hD20, hC21, h⟩ := h
      have hs22 := hC21.1.2.2.2.1 hs16
      refine E_callV (As := [.int x3, .ref x2, .int x1]) (rest := []) (r1 := (some (.int v23))) (b := 119) dX2_lookRound_29 ok_X2_endOf in_X2_endOf se_X2_endOf ml_X2_92 hD20 rfl rfl (Nat.le_of_ble_eq_true rfl) (sk_119 hs16) (sn hs16 (by decide)) (by decide) rfl (by decide +kernel) hC21 ?_
      refine E_goto 36 dX2_lookRound_32 (by decide) ?_
      exact E_lv [0, 1, 2, 3] rfl (w_X2_lookRound_36 hs22 hmx2 h)
def W_X2_findRoofs_0 (X : Sx) (l : Launch) (D : Nat) (x1 : Int32) (σ : AH) (r : Option Value) (σ' : AH) : Prop := 1 ≤ D ∧ (∀ τ2 : AH, τ2 = (sA σ 122 (filln (gI σ 122) 60 (-1 : Int32))) → 1 ≤ D ∧ (∀ τ6 : AH, τ6 = (sA τ2 123 (filln (gI τ2 123) 60 (-1 : Int32))) → ∃ d9 : Nat, ∃ v14 : Int32, ∃ σ10 : AH, d9 + 1 ≤ D ∧ Call X l m_X8_rows d9 [.ref 9] τ6 (some (.int v14)) σ10 ∧ E X l m_X2_findRoofs D 29 [(0, .ref 119), (1, .int x1), (2, .int (v14 - (1 : Int32)))] [] σ10 r σ'))
set_option maxRecDepth 100000 in
theorem w_X2_findRoofs_0 {X : Sx} {l : Launch} {D : Nat} {x1 : Int32} {σ : AH} {r : Option Value} {σ' : AH} (hs : Sh σ) (h : W_X2_findRoofs_0 X l D x1 σ r σ') : E X l m_X2_findRoofs D 0 [(0, .ref 119), (1, .int x1)] [] σ r σ' := by
  unfold W_X2_findRoofs_0 at h
  refine E_aload_n 0 dX2_findRoofs_0 rfl rfl ?_
  refine E_getR 122 dX2_findRoofs_1 fl_X2_18 rfl (sk_119 hs) (sn hs (by decide)) (sr_119_5 hs) ?_
  refine E_iconst (-1 : Int32) dX2_findRoofs_4 (by decide) ?_
  obtain ⟨g1, h⟩ := h
  refine E_fill dX2_findRoofs_5 ml_X2_100 (sk_122 hs) (sn hs (by decide)) (Or.inl (by decide)) g1 (by decide) (Nat.le_of_ble_eq_true rfl) ?_
  obtain ⟨τ2, e3⟩ : ∃ τ : AH, τ = (sA σ 122 (filln (gI σ 122) 60 (-1 : Int32))) := ⟨_, rfl⟩
  replace h := h τ2 e3
  rw [← e3]
  have hs4 : Sh τ2 := by rw [e3]; exact hs
  refine E_aload_n 0 dX2_findRoofs_8 rfl rfl ?_
  refine E_getR 123 dX2_findRoofs_9 fl_X2_21 rfl (sk_119 hs4) (sn hs4 (by decide)) (sr_119_6 hs4) ?_
  refine E_iconst (-1 : Int32) dX2_findRoofs_12 (by decide) ?_
  obtain ⟨g5, h⟩ := h
  refine E_fill dX2_findRoofs_13 ml_X2_100 (sk_123 hs4) (sn hs4 (by decide)) (Or.inl (by decide)) g5 (by decide) (Nat.le_of_ble_eq_true rfl) ?_
  obtain ⟨τ6, e7⟩ : ∃ τ : AH, τ = (sA τ2 123 (filln (gI τ2 123) 60 (-1 : Int32))) := ⟨_, rfl⟩
  replace h := h τ6 e7
  rw [← e7]
  have hs8 : Sh τ6 := by rw [e7]; exact hs4
  refine E_aload_n 0 dX2_findRoofs_16 rfl rfl ?_
  refine E_getR 1 dX2_findRoofs_17 fl_X2_24 rfl (sk_119 hs8) (sn hs8 (by decide)) (sr_119_0 hs8) ?_
  refine E_getR 9 dX2_findRoofs_20 fl_X2_36 rfl (sk_1 hs8) (sn hs8 (by decide)) (sr_1_5 hs8) ?_
  obtain ⟨d9, v14, σ10, hD11, hC12, h⟩ := h
  have hs13 := hC12.1.2.2.2.1 hs8
  refine E_callV (As := []) (rest := []) (r1 := (some (.int v14))) (b := 9) dX2_findRoofs_23 ok_X8_rows in_X8_rows se_X8_rows ml_X2_70 hD11 rfl rfl (Nat.le_of_ble_eq_true rfl) (sk_9 hs8) (sn hs8 (by decide)) (by decide) rfl (by decide +kernel) hC12 ?_
  refine E_iconst (1 : Int32) dX2_findRoofs_26 (by decide) ?_
  refine E_isub dX2_findRoofs_27 ?_
  refine E_istore_n [(2, .int (v14 - (1 : Int32))), (0, .ref 119), (1, .int x1)] dX2_findRoofs_28 rfl (by decide) rfl ?_
  exact E_lv [1, 2, 0] rfl h
def W_X2_findRoofs_109 (X : Sx) (l : Launch) (D : Nat) (x1 : Int32) (x2 : Int32) (σ : AH) (r : Option Value) (σ' : AH) : Prop := E X l m_X2_findRoofs D 29 [(0, .ref 119), (1, .int x1), (2, .int (x2 + (-1)))] [] σ r σ'
set_option maxRecDepth 100000 in
theorem w_X2_findRoofs_109 {X : Sx} {l : Launch} {D : Nat} {x1 : Int32} {x2 : Int32} {σ : AH} {r : Option Value} {σ' : AH} (hs : Sh σ) (h : W_X2_findRoofs_109 X l D x1 x2 σ r σ') : E X l m_X2_findRoofs D 109 [(0, .ref 119), (1, .int x1), (2, .int x2)] [] σ r σ' := by
  unfold W_X2_findRoofs_109 at h
  refine E_iinc 2 (x2 + (-1)) [(2, .int (x2 + (-1))), (0, .ref 119), (1, .int x1)] dX2_findRoofs_109 rfl (congrArg (x2 + ·) (by decide : Int32.ofInt (-1) = -1)) (by decide) rfl ?_
  refine E_goto 29 dX2_findRoofs_112 (by decide) ?_
  exact E_lv [1, 2, 0] rfl h
def W_X2_findRoofs_72 (X : Sx) (l : Launch) (D : Nat) (x1 : Int32) (x2 : Int32) (y0 : Int32) (σ : AH) (r : Option Value) (σ' : AH) : Prop := (if y0 = (-1 : Int32) then W_X2_findRoofs_109 X l D x1 x2 σ r σ' else vp_in x2 30 ∧ ∃ d25 : Nat, ∃ v30 : Int32, ∃ σ26 : AH, d25 + 1 ≤ D ∧ Call X l m_X2_isLived d25 [.ref 119, .int (gI σ 121 x2.toNatClampNeg), .int x1] σ (some (.int v30)) σ26 ∧ (if v30 = 0 then vp_in y0 60 ∧ W_X2_findRoofs_109 X l D x1 x2 (sI σ26 123 y0.toNatClampNeg x2) r σ' else vp_in y0 60 ∧ W_X2_findRoofs_109 X l D x1 x2 (sI σ26 122 y0.toNatClampNeg x2) r σ'))
set_option maxRecDepth 100000 in
theorem w_X2_findRoofs_72 {X : Sx} {l : Launch} {D : Nat} {x1 : Int32} {x2 : Int32} {y0 : Int32} {σ : AH} {r : Option Value} {σ' : AH} (hs : Sh σ) (h : W_X2_findRoofs_72 X l D x1 x2 y0 σ r σ') : E X l m_X2_findRoofs D 72 [(0, .ref 119), (1, .int x1), (2, .int x2)] [.int y0] σ r σ' := by
  unfold W_X2_findRoofs_72 at h
  refine E_istore_n [(3, .int y0), (0, .ref 119), (1, .int x1), (2, .int x2)] dX2_findRoofs_72 rfl (by decide) rfl ?_
  refine E_iload_n 0 dX2_findRoofs_73 rfl rfl ?_
  refine E_iconst (-1 : Int32) dX2_findRoofs_74 (by decide) ?_
  refine E_icmp_eq 109 dX2_findRoofs_75 (by decide) (fun c => ?_) (fun c => ?_)
  · rw [if_pos c] at h
    exact E_lv [1, 2, 3] rfl (w_X2_findRoofs_109 hs h)
  · rw [if_neg c] at h
    refine E_aload_n 1 dX2_findRoofs_78 rfl rfl ?_
    refine E_aload_n 1 dX2_findRoofs_79 rfl rfl ?_
    refine E_getR 121 dX2_findRoofs_80 fl_X2_15 rfl (sk_119 hs) (sn hs (by decide)) (sr_119_4 hs) ?_
    refine E_iload_n 3 dX2_findRoofs_83 rfl rfl ?_
    obtain ⟨g24, h⟩ := h
    refine E_iald2 (x2.toNatClampNeg) dX2_findRoofs_84 (sk_121 hs) (sn hs (by decide)) g24 rfl ?_
    refine E_iload_n 2 dX2_findRoofs_85 rfl rfl ?_
    obtain ⟨d25, v30, σ26, hD27, hC28, h⟩ := h
    have hs29 := hC28.1.2.2.2.1 hs
    refine E_callV (As := [.int (gI σ 121 x2.toNatClampNeg), .int x1]) (rest := []) (r1 := (some (.int v30))) (b := 119) dX2_findRoofs_86 ok_X2_isLived in_X2_isLived se_X2_isLived ml_X2_77 hD27 rfl rfl (Nat.le_of_ble_eq_true rfl) (sk_119 hs) (sn hs (by decide)) (by decide) rfl (by decide +kernel) hC28 ?_
    refine E_if_eq 102 dX2_findRoofs_89 (by decide) (fun c => ?_) (fun c => ?_)
    · rw [if_pos c] at h
      refine E_aload_n 1 dX2_findRoofs_102 rfl rfl ?_
      refine E_getR 123 dX2_findRoofs_103 fl_X2_21 rfl (sk_119 hs29) (sn hs29 (by decide)) (sr_119_6 hs29) ?_
      refine E_iload_n 0 dX2_findRoofs_106 rfl rfl ?_
      refine E_iload_n 3 dX2_findRoofs_107 rfl rfl ?_
      obtain ⟨g31, h⟩ := h
      refine E_iast2 (y0.toNatClampNeg) dX2_findRoofs_108 (sk_123 hs29) (sn hs29 (by decide)) (Or.inl (by decide)) g31 rfl ?_
      exact E_lv [1, 2, 3] rfl (w_X2_findRoofs_109 hs29 h)
    · rw [if_neg c] at h
      refine E_aload_n 1 dX2_findRoofs_92 rfl rfl ?_
      refine E_getR 122 dX2_findRoofs_93 fl_X2_18 rfl (sk_119 hs29) (sn hs29 (by decide)) (sr_119_5 hs29) ?_
      refine E_iload_n 0 dX2_findRoofs_96 rfl rfl ?_
      refine E_iload_n 3 dX2_findRoofs_97 rfl rfl ?_
      obtain ⟨g32, h⟩ := h
      refine E_iast2 (y0.toNatClampNeg) dX2_findRoofs_98 (sk_122 hs29) (sn hs29 (by decide)) (Or.inl (by decide)) g32 rfl ?_
      refine E_goto 109 dX2_findRoofs_99 (by decide) ?_
      exact E_lv [1, 2, 3] rfl (w_X2_findRoofs_109 hs29 h)
def W_X2_findRoofs_29 (X : Sx) (l : Launch) (D : Nat) (x1 : Int32) (x2 : Int32) (σ : AH) (r : Option Value) (σ' : AH) : Prop := (if x2 < 0 then (r = none ∧ σ' = σ) else vp_in x2 30 ∧ (if (gI σ 121 x2.toNatClampNeg) = (-1 : Int32) then W_X2_findRoofs_72 X l D x1 x2 (-1 : Int32) σ r σ' else vp_in x2 30 ∧ ∃ d17 : Nat, ∃ v22 : Int32, ∃ σ18 : AH, d17 + 1 ≤ D ∧ Call X l m_X8_at d17 [.ref 17, .int (gI σ 121 x2.toNatClampNeg), .int (1 : Int32)] σ (some (.int v22)) σ18 ∧ vp_in v22 60 ∧ W_X2_findRoofs_72 X l D x1 x2 (gI σ18 114 v22.toNatClampNeg) σ18 r σ'))
set_option maxRecDepth 100000 in
theorem w_X2_findRoofs_29 {X : Sx} {l : Launch} {D : Nat} {x1 : Int32} {x2 : Int32} {σ : AH} {r : Option Value} {σ' : AH} (hs : Sh σ) (h : W_X2_findRoofs_29 X l D x1 x2 σ r σ') : E X l m_X2_findRoofs D 29 [(0, .ref 119), (1, .int x1), (2, .int x2)] [] σ r σ' := by
  unfold W_X2_findRoofs_29 at h
  refine E_iload_n 2 dX2_findRoofs_29 rfl rfl ?_
  refine E_if_lt 115 dX2_findRoofs_30 (by decide) (fun c => ?_) (fun c => ?_)
  · rw [if_pos c] at h
    obtain ⟨rfl, rfl⟩ := h
    exact E_vret dX2_findRoofs_115 rfl
  · rw [if_neg c] at h
    refine E_aload_n 0 dX2_findRoofs_33 rfl rfl ?_
    refine E_getR 121 dX2_findRoofs_34 fl_X2_15 rfl (sk_119 hs) (sn hs (by decide)) (sr_119_4 hs) ?_
    refine E_iload_n 2 dX2_findRoofs_37 rfl rfl ?_
    obtain ⟨g15, h⟩ := h
    refine E_iald2 (x2.toNatClampNeg) dX2_findRoofs_38 (sk_121 hs) (sn hs (by decide)) g15 rfl ?_
    refine E_iconst (-1 : Int32) dX2_findRoofs_39 (by decide) ?_
    refine E_icmp_ne 47 dX2_findRoofs_40 (by decide) (fun c => ?_) (fun c => ?_)
    · rw [if_neg c] at h
      refine E_aload_n 0 dX2_findRoofs_47 rfl rfl ?_
      refine E_getR 113 dX2_findRoofs_48 fl_X2_32 rfl (sk_119 hs) (sn hs (by decide)) (sr_119_2 hs) ?_
      refine E_getR 114 dX2_findRoofs_51 fl_X2_84 rfl (sk_113 hs) (sn hs (by decide)) (sr_113_2 hs) ?_
      refine E_aload_n 0 dX2_findRoofs_54 rfl rfl ?_
      refine E_getR 1 dX2_findRoofs_55 fl_X2_24 rfl (sk_119 hs) (sn hs (by decide)) (sr_119_0 hs) ?_
      refine E_getR 17 dX2_findRoofs_58 fl_X2_67 rfl (sk_1 hs) (sn hs (by decide)) (sr_1_9 hs) ?_
      refine E_aload_n 0 dX2_findRoofs_61 rfl rfl ?_
      refine E_getR 121 dX2_findRoofs_62 fl_X2_15 rfl (sk_119 hs) (sn hs (by decide)) (sr_119_4 hs) ?_
      refine E_iload_n 2 dX2_findRoofs_65 rfl rfl ?_
      obtain ⟨g16, h⟩ := h
      refine E_iald2 (x2.toNatClampNeg) dX2_findRoofs_66 (sk_121 hs) (sn hs (by decide)) g16 rfl ?_
      refine E_iconst (1 : Int32) dX2_findRoofs_67 (by decide) ?_
      obtain ⟨d17, v22, σ18, hD19, hC20, h⟩ := h
      have hs21 := hC20.1.2.2.2.1 hs
      refine E_callV (As := [.int (gI σ 121 x2.toNatClampNeg), .int (1 : Int32)]) (rest := [.ref 114]) (r1 := (some (.int v22))) (b := 17) dX2_findRoofs_68 ok_X8_at in_X8_at se_X8_at ml_X2_42 hD19 rfl rfl (Nat.le_of_ble_eq_true rfl) (sk_17 hs) (sn hs (by decide)) (by decide) rfl (by decide +kernel) hC20 ?_
      obtain ⟨g23, h⟩ := h
      refine E_iald2 (v22.toNatClampNeg) dX2_findRoofs_71 (sk_114 hs21) (sn hs21 (by decide)) g23 rfl ?_
      exact E_lv [0, 1, 2] rfl (w_X2_findRoofs_72 hs21 h)
    · rw [if_pos c] at h
      refine E_iconst (-1 : Int32) dX2_findRoofs_43 (by decide) ?_
      refine E_goto 72 dX2_findRoofs_44 (by decide) ?_
      exact E_lv [0, 1, 2] rfl (w_X2_findRoofs_72 hs h)
def W_X2_isFree_0 (X : Sx) (l : Launch) (D : Nat) (x1 : Int32) (σ : AH) (r : Option Value) (σ' : AH) : Prop := vp_in x1 30 ∧ (if (gI σ 120 x1.toNatClampNeg) ≤ 0 then (r = some (.int (0 : Int32)) ∧ σ' = σ) else vp_in x1 30 ∧ (if (gI σ 121 x1.toNatClampNeg) = (-1 : Int32) then (r = some (.int (1 : Int32)) ∧ σ' = σ) else (r = some (.int (0 : Int32)) ∧ σ' = σ)))
set_option maxRecDepth 100000 in
theorem w_X2_isFree_0 {X : Sx} {l : Launch} {D : Nat} {x1 : Int32} {σ : AH} {r : Option Value} {σ' : AH} (hs : Sh σ) (h : W_X2_isFree_0 X l D x1 σ r σ') : E X l m_X2_isFree D 0 [(0, .ref 119), (1, .int x1)] [] σ r σ' := by
  unfold W_X2_isFree_0 at h
  refine E_aload_n 0 dX2_isFree_0 rfl rfl ?_
  refine E_getR 120 dX2_isFree_1 fl_X2_9 rfl (sk_119 hs) (sn hs (by decide)) (sr_119_3 hs) ?_
  refine E_iload_n 1 dX2_isFree_4 rfl rfl ?_
  obtain ⟨g1, h⟩ := h
  refine E_iald2 (x1.toNatClampNeg) dX2_isFree_5 (sk_120 hs) (sn hs (by decide)) g1 rfl ?_
  refine E_if_le 23 dX2_isFree_6 (by decide) (fun c => ?_) (fun c => ?_)
  · rw [if_pos c] at h
    refine E_iconst (0 : Int32) dX2_isFree_23 (by decide) ?_
    obtain ⟨rfl, rfl⟩ := h
    exact E_zret dX2_isFree_24 rfl (Or.inl rfl)
  · rw [if_neg c] at h
    refine E_aload_n 0 dX2_isFree_9 rfl rfl ?_
    refine E_getR 121 dX2_isFree_10 fl_X2_15 rfl (sk_119 hs) (sn hs (by decide)) (sr_119_4 hs) ?_
    refine E_iload_n 1 dX2_isFree_13 rfl rfl ?_
    obtain ⟨g2, h⟩ := h
    refine E_iald2 (x1.toNatClampNeg) dX2_isFree_14 (sk_121 hs) (sn hs (by decide)) g2 rfl ?_
    refine E_iconst (-1 : Int32) dX2_isFree_15 (by decide) ?_
    refine E_icmp_ne 23 dX2_isFree_16 (by decide) (fun c => ?_) (fun c => ?_)
    · rw [if_neg c] at h
      refine E_iconst (0 : Int32) dX2_isFree_23 (by decide) ?_
      obtain ⟨rfl, rfl⟩ := h
      exact E_zret dX2_isFree_24 rfl (Or.inl rfl)
    · rw [if_pos c] at h
      refine E_iconst (1 : Int32) dX2_isFree_19 (by decide) ?_
      refine E_goto 24 dX2_isFree_20 (by decide) ?_
      obtain ⟨rfl, rfl⟩ := h
      exact E_zret dX2_isFree_24 rfl (Or.inr rfl)
def W_X2_isRoofless_0 (X : Sx) (l : Launch) (D : Nat) (x1 : Int32) (σ : AH) (r : Option Value) (σ' : AH) : Prop := vp_in x1 60 ∧ (if (gI σ 122 x1.toNatClampNeg) = (-1 : Int32) then vp_in x1 60 ∧ (if (gI σ 123 x1.toNatClampNeg) = (-1 : Int32) then (r = some (.int (1 : Int32)) ∧ σ' = σ) else (r = some (.int (0 : Int32)) ∧ σ' = σ)) else (r = some (.int (0 : Int32)) ∧ σ' = σ))
set_option maxRecDepth 100000 in
theorem w_X2_isRoofless_0 {X : Sx} {l : Launch} {D : Nat} {x1 : Int32} {σ : AH} {r : Option Value} {σ' : AH} (hs : Sh σ) (h : W_X2_isRoofless_0 X l D x1 σ r σ') : E X l m_X2_isRoofless D 0 [(0, .ref 119), (1, .int x1)] [] σ r σ' := by
  unfold W_X2_isRoofless_0 at h
  refine E_aload_n 0 dX2_isRoofless_0 rfl rfl ?_
  refine E_getR 122 dX2_isRoofless_1 fl_X2_18 rfl (sk_119 hs) (sn hs (by decide)) (sr_119_5 hs) ?_
  refine E_iload_n 1 dX2_isRoofless_4 rfl rfl ?_
  obtain ⟨g1, h⟩ := h
  refine E_iald2 (x1.toNatClampNeg) dX2_isRoofless_5 (sk_122 hs) (sn hs (by decide)) g1 rfl ?_
  refine E_iconst (-1 : Int32) dX2_isRoofless_6 (by decide) ?_
  refine E_icmp_ne 24 dX2_isRoofless_7 (by decide) (fun c => ?_) (fun c => ?_)
  · rw [if_neg c] at h
    refine E_iconst (0 : Int32) dX2_isRoofless_24 (by decide) ?_
    obtain ⟨rfl, rfl⟩ := h
    exact E_zret dX2_isRoofless_25 rfl (Or.inl rfl)
  · rw [if_pos c] at h
    refine E_aload_n 0 dX2_isRoofless_10 rfl rfl ?_
    refine E_getR 123 dX2_isRoofless_11 fl_X2_21 rfl (sk_119 hs) (sn hs (by decide)) (sr_119_6 hs) ?_
    refine E_iload_n 1 dX2_isRoofless_14 rfl rfl ?_
    obtain ⟨g2, h⟩ := h
    refine E_iald2 (x1.toNatClampNeg) dX2_isRoofless_15 (sk_123 hs) (sn hs (by decide)) g2 rfl ?_
    refine E_iconst (-1 : Int32) dX2_isRoofless_16 (by decide) ?_
    refine E_icmp_ne 24 dX2_isRoofless_17 (by decide) (fun c => ?_) (fun c => ?_)
    · rw [if_neg c] at h
      refine E_iconst (0 : Int32) dX2_isRoofless_24 (by decide) ?_
      obtain ⟨rfl, rfl⟩ := h
      exact E_zret dX2_isRoofless_25 rfl (Or.inl rfl)
    · rw [if_pos c] at h
      refine E_iconst (1 : Int32) dX2_isRoofless_20 (by decide) ?_
      refine E_goto 25 dX2_isRoofless_21 (by decide) ?_
      obtain ⟨rfl, rfl⟩ := h
      exact E_zret dX2_isRoofless_25 rfl (Or.inr rfl)
def W_X2_giveAll_0 (X : Sx) (l : Launch) (D : Nat) (x1 : Int32) (σ : AH) (r : Option Value) (σ' : AH) : Prop := E X l m_X2_giveAll D 4 [(0, .ref 119), (1, .int x1), (2, .int (0 : Int32)), (3, .int (0 : Int32))] [] σ r σ'
set_option maxRecDepth 100000 in
theorem w_X2_giveAll_0 {X : Sx} {l : Launch} {D : Nat} {x1 : Int32} {σ : AH} {r : Option Value} {σ' : AH} (hs : Sh σ) (h : W_X2_giveAll_0 X l D x1 σ r σ') : E X l m_X2_giveAll D 0 [(0, .ref 119), (1, .int x1)] [] σ r σ' := by
  unfold W_X2_giveAll_0 at h
  refine E_iconst (0 : Int32) dX2_giveAll_0 (by decide) ?_
  refine E_istore_n [(2, .int (0 : Int32)), (0, .ref 119), (1, .int x1)] dX2_giveAll_1 rfl (by decide) rfl ?_
  refine E_iconst (0 : Int32) dX2_giveAll_2 (by decide) ?_
  refine E_istore_n [(3, .int (0 : Int32)), (2, .int (0 : Int32)), (0, .ref 119), (1, .int x1)] dX2_giveAll_3 rfl (by decide) rfl ?_
  exact E_lv [2, 3, 1, 0] rfl h
def W_X2_giveAll_4 (X : Sx) (l : Launch) (D : Nat) (x1 : Int32) (x2 : Int32) (x3 : Int32) (σ : AH) (r : Option Value) (σ' : AH) : Prop := ∃ d1 : Nat, ∃ v6 : Int32, ∃ σ2 : AH, d1 + 1 ≤ D ∧ Call X l m_X8_rows d1 [.ref 9] σ (some (.int v6)) σ2 ∧ (if v6 ≤ x3 then (r = some (.int x2) ∧ σ' = σ2) else ∃ d7 : Nat, ∃ v12 : Int32, ∃ σ8 : AH, d7 + 1 ≤ D ∧ Call X l m_X2_giveInChain d7 [.ref 119, .int x3, .int x1] σ2 (some (.int v12)) σ8 ∧ E X l m_X2_giveAll D 4 [(0, .ref 119), (1, .int x1), (2, .int (x2 + v12)), (3, .int (x3 + 1))] [] σ8 r σ')
set_option maxRecDepth 100000 in
theorem w_X2_giveAll_4 {X : Sx} {l : Launch} {D : Nat} {x1 : Int32} {x2 : Int32} {x3 : Int32} {σ : AH} {r : Option Value} {σ' : AH} (hs : Sh σ) (h : W_X2_giveAll_4 X l D x1 x2 x3 σ r σ') : E X l m_X2_giveAll D 4 [(0, .ref 119), (1, .int x1), (2, .int x2), (3, .int x3)] [] σ r σ' := by
  unfold W_X2_giveAll_4 at h
  refine E_iload_n 3 dX2_giveAll_4 rfl rfl ?_
  refine E_aload_n 0 dX2_giveAll_5 rfl rfl ?_
  refine E_getR 1 dX2_giveAll_6 fl_X2_24 rfl (sk_119 hs) (sn hs (by decide)) (sr_119_0 hs) ?_
  refine E_getR 9 dX2_giveAll_9 fl_X2_36 rfl (sk_1 hs) (sn hs (by decide)) (sr_1_5 hs) ?_
  obtain ⟨d1, v6, σ2, hD3, hC4, h⟩ := h
  have hs5 := hC4.1.2.2.2.1 hs
  refine E_callV (As := []) (rest := [.int x3]) (r1 := (some (.int v6))) (b := 9) dX2_giveAll_12 ok_X8_rows in_X8_rows se_X8_rows ml_X2_70 hD3 rfl rfl (Nat.le_of_ble_eq_true rfl) (sk_9 hs) (sn hs (by decide)) (by decide) rfl (by decide +kernel) hC4 ?_
  refine E_icmp_ge 33 dX2_giveAll_15 (by decide) (fun c => ?_) (fun c => ?_)
  · rw [if_pos c] at h
    refine E_iload_n 2 dX2_giveAll_33 rfl rfl ?_
    obtain ⟨rfl, rfl⟩ := h
    exact E_iret dX2_giveAll_34 rfl
  · rw [if_neg c] at h
    refine E_iload_n 2 dX2_giveAll_18 rfl rfl ?_
    refine E_aload_n 0 dX2_giveAll_19 rfl rfl ?_
    refine E_iload_n 3 dX2_giveAll_20 rfl rfl ?_
    refine E_iload_n 1 dX2_giveAll_21 rfl rfl ?_
    obtain ⟨d7, v12, σ8, hD9, hC10, h⟩ := h
    have hs11 := hC10.1.2.2.2.1 hs5
    refine E_callV (As := [.int x3, .int x1]) (rest := [.int x2]) (r1 := (some (.int v12))) (b := 119) dX2_giveAll_22 ok_X2_giveInChain in_X2_giveInChain se_X2_giveInChain ml_X2_106 hD9 rfl rfl (Nat.le_of_ble_eq_true rfl) (sk_119 hs5) (sn hs5 (by decide)) (by decide) rfl (by decide +kernel) hC10 ?_
    refine E_iadd dX2_giveAll_25 ?_
    refine E_istore_n [(2, .int (x2 + v12)), (0, .ref 119), (1, .int x1), (3, .int x3)] dX2_giveAll_26 rfl (by decide) rfl ?_
    refine E_iinc 3 (x3 + 1) [(3, .int (x3 + 1)), (2, .int (x2 + v12)), (0, .ref 119), (1, .int x1)] dX2_giveAll_27 rfl (congrArg (x3 + ·) (by decide : Int32.ofInt 1 = 1)) (by decide) rfl ?_
    refine E_goto 4 dX2_giveAll_30 (by decide) ?_
    exact E_lv [2, 3, 1, 0] rfl h
def W_X2_giveInChain_0 (X : Sx) (l : Launch) (D : Nat) (x1 : Int32) (x2 : Int32) (σ : AH) (r : Option Value) (σ' : AH) : Prop := E X l m_X2_giveInChain D 5 [(0, .ref 119), (2, .int x2), (3, .int x1), (4, .int (0 : Int32))] [] σ r σ'
set_option maxRecDepth 100000 in
theorem w_X2_giveInChain_0 {X : Sx} {l : Launch} {D : Nat} {x1 : Int32} {x2 : Int32} {σ : AH} {r : Option Value} {σ' : AH} (hs : Sh σ) (h : W_X2_giveInChain_0 X l D x1 x2 σ r σ') : E X l m_X2_giveInChain D 0 [(0, .ref 119), (1, .int x1), (2, .int x2)] [] σ r σ' := by
  unfold W_X2_giveInChain_0 at h
  refine E_iload_n 1 dX2_giveInChain_0 rfl rfl ?_
  refine E_istore_n [(3, .int x1), (0, .ref 119), (1, .int x1), (2, .int x2)] dX2_giveInChain_1 rfl (by decide) rfl ?_
  refine E_iconst (0 : Int32) dX2_giveInChain_2 (by decide) ?_
  refine E_istore [(4, .int (0 : Int32)), (3, .int x1), (0, .ref 119), (1, .int x1), (2, .int x2)] dX2_giveInChain_3 (by decide) rfl ?_
  exact E_lv [2, 4, 1, 0] rfl h
def W_X2_giveInChain_85 (X : Sx) (l : Launch) (D : Nat) (x2 : Int32) (x3 : Int32) (x4 : Int32) (x5 : Int32) (x6 : Int32) (y0 : Int32) (σ : AH) (r : Option Value) (σ' : AH) : Prop := vp_in x6 60 ∧ ∃ d18 : Nat, ∃ σ19 : AH, d18 + 1 ≤ D ∧ Call X l m_X2_leave d18 [.ref 119, .int (gI σ 122 x6.toNatClampNeg), .int x2] σ none σ19 ∧ vp_in x6 60 ∧ ∃ d24 : Nat, ∃ σ25 : AH, d24 + 1 ≤ D ∧ Call X l m_X2_leave d24 [.ref 119, .int (gI σ19 123 x6.toNatClampNeg), .int x2] σ19 none σ25 ∧ ∃ d29 : Nat, ∃ σ30 : AH, d29 + 1 ≤ D ∧ Call X l m_X2_goIn d29 [.ref 119, .int x5, .int x3, .int x2, .int x2, .int x4] σ25 none σ30 ∧ ∃ d34 : Nat, ∃ σ35 : AH, d34 + 1 ≤ D ∧ Call X l m_X2_findRoofs d34 [.ref 119, .int x2] σ30 none σ35 ∧ E X l m_X2_giveInChain D 5 [(0, .ref 119), (2, .int x2), (3, .int y0), (4, .int (x4 + 1))] [] σ35 r σ'
set_option maxRecDepth 100000 in
theorem w_X2_giveInChain_85 {X : Sx} {l : Launch} {D : Nat} {x2 : Int32} {x3 : Int32} {x4 : Int32} {x5 : Int32} {x6 : Int32} {y0 : Int32} {σ : AH} {r : Option Value} {σ' : AH} (hs : Sh σ) (h : W_X2_giveInChain_85 X l D x2 x3 x4 x5 x6 y0 σ r σ') : E X l m_X2_giveInChain D 85 [(0, .ref 119), (2, .int x2), (3, .int x3), (4, .int x4), (5, .int x5), (6, .int x6)] [.int y0] σ r σ' := by
  unfold W_X2_giveInChain_85 at h
  refine E_istore [(7, .int y0), (0, .ref 119), (2, .int x2), (3, .int x3), (4, .int x4), (5, .int x5), (6, .int x6)] dX2_giveInChain_85 (by decide) rfl ?_
  refine E_aload_n 1 dX2_giveInChain_87 rfl rfl ?_
  refine E_aload_n 1 dX2_giveInChain_88 rfl rfl ?_
  refine E_getR 122 dX2_giveInChain_89 fl_X2_18 rfl (sk_119 hs) (sn hs (by decide)) (sr_119_5 hs) ?_
  refine E_iload 6 dX2_giveInChain_92 rfl ?_
  obtain ⟨g17, h⟩ := h
  refine E_iald2 (x6.toNatClampNeg) dX2_giveInChain_94 (sk_122 hs) (sn hs (by decide)) g17 rfl ?_
  refine E_iload_n 2 dX2_giveInChain_95 rfl rfl ?_
  obtain ⟨d18, σ19, hD20, hC21, h⟩ := h
  have hs22 := hC21.1.2.2.2.1 hs
  refine E_callV (As := [.int (gI σ 122 x6.toNatClampNeg), .int x2]) (rest := []) (r1 := none) (b := 119) dX2_giveInChain_96 ok_X2_leave in_X2_leave se_X2_leave ml_X2_116 hD20 rfl rfl (Nat.le_of_ble_eq_true rfl) (sk_119 hs) (sn hs (by decide)) (by decide) rfl (by decide +kernel) hC21 ?_
  refine E_aload_n 1 dX2_giveInChain_99 rfl rfl ?_
  refine E_aload_n 1 dX2_giveInChain_100 rfl rfl ?_
  refine E_getR 123 dX2_giveInChain_101 fl_X2_21 rfl (sk_119 hs22) (sn hs22 (by decide)) (sr_119_6 hs22) ?_
  refine E_iload 6 dX2_giveInChain_104 rfl ?_
  obtain ⟨g23, h⟩ := h
  refine E_iald2 (x6.toNatClampNeg) dX2_giveInChain_106 (sk_123 hs22) (sn hs22 (by decide)) g23 rfl ?_
  refine E_iload_n 2 dX2_giveInChain_107 rfl rfl ?_
  obtain ⟨d24, σ25, hD26, hC27, h⟩ := h
  have hs28 := hC27.1.2.2.2.1 hs22
  refine E_callV (As := [.int (gI σ19 123 x6.toNatClampNeg), .int x2]) (rest := []) (r1 := none) (b := 119) dX2_giveInChain_108 ok_X2_leave in_X2_leave se_X2_leave ml_X2_116 hD26 rfl rfl (Nat.le_of_ble_eq_true rfl) (sk_119 hs22) (sn hs22 (by decide)) (by decide) rfl (by decide +kernel) hC27 ?_
  refine E_aload_n 1 dX2_giveInChain_111 rfl rfl ?_
  refine E_iload 5 dX2_giveInChain_112 rfl ?_
  refine E_iload_n 3 dX2_giveInChain_114 rfl rfl ?_
  refine E_iload_n 2 dX2_giveInChain_115 rfl rfl ?_
  refine E_iload_n 2 dX2_giveInChain_116 rfl rfl ?_
  refine E_iload 4 dX2_giveInChain_117 rfl ?_
  obtain ⟨d29, σ30, hD31, hC32, h⟩ := h
  have hs33 := hC32.1.2.2.2.1 hs28
  refine E_callV (As := [.int x5, .int x3, .int x2, .int x2, .int x4]) (rest := []) (r1 := none) (b := 119) dX2_giveInChain_119 ok_X2_goIn in_X2_goIn se_X2_goIn ml_X2_119 hD31 rfl rfl (Nat.le_of_ble_eq_true rfl) (sk_119 hs28) (sn hs28 (by decide)) (by decide) rfl (by decide +kernel) hC32 ?_
  refine E_aload_n 1 dX2_giveInChain_122 rfl rfl ?_
  refine E_iload_n 2 dX2_giveInChain_123 rfl rfl ?_
  obtain ⟨d34, σ35, hD36, hC37, h⟩ := h
  have hs38 := hC37.1.2.2.2.1 hs33
  refine E_callV (As := [.int x2]) (rest := []) (r1 := none) (b := 119) dX2_giveInChain_124 ok_X2_findRoofs in_X2_findRoofs se_X2_findRoofs ml_X2_96 hD36 rfl rfl (Nat.le_of_ble_eq_true rfl) (sk_119 hs33) (sn hs33 (by decide)) (by decide) rfl (by decide +kernel) hC37 ?_
  refine E_iload 0 dX2_giveInChain_127 rfl ?_
  refine E_istore_n [(3, .int y0), (7, .int y0), (0, .ref 119), (2, .int x2), (4, .int x4), (5, .int x5), (6, .int x6)] dX2_giveInChain_129 rfl (by decide) rfl ?_
  refine E_iinc 4 (x4 + 1) [(4, .int (x4 + 1)), (3, .int y0), (7, .int y0), (0, .ref 119), (2, .int x2), (5, .int x5), (6, .int x6)] dX2_giveInChain_130 rfl (congrArg (x4 + ·) (by decide : Int32.ofInt 1 = 1)) (by decide) rfl ?_
  refine E_goto 5 dX2_giveInChain_133 (by decide) ?_
  exact E_lv [3, 4, 1, 0] rfl h
def W_X2_giveInChain_34 (X : Sx) (l : Launch) (D : Nat) (x2 : Int32) (x3 : Int32) (x4 : Int32) (y0 : Int32) (σ : AH) (r : Option Value) (σ' : AH) : Prop := (if y0 = (-1 : Int32) then (r = some (.int x4) ∧ σ' = σ) else vp_in y0 60 ∧ vp_in (gI σ 114 y0.toNatClampNeg) 60 ∧ (if (gI σ 122 (gI σ 114 y0.toNatClampNeg).toNatClampNeg) = (-1 : Int32) then vp_in (gI σ 114 y0.toNatClampNeg) 60 ∧ W_X2_giveInChain_85 X l D x2 x3 x4 y0 (gI σ 114 y0.toNatClampNeg) (gI σ 123 (gI σ 114 y0.toNatClampNeg).toNatClampNeg) σ r σ' else vp_in (gI σ 114 y0.toNatClampNeg) 60 ∧ W_X2_giveInChain_85 X l D x2 x3 x4 y0 (gI σ 114 y0.toNatClampNeg) (gI σ 122 (gI σ 114 y0.toNatClampNeg).toNatClampNeg) σ r σ'))
set_option maxRecDepth 100000 in
theorem w_X2_giveInChain_34 {X : Sx} {l : Launch} {D : Nat} {x2 : Int32} {x3 : Int32} {x4 : Int32} {y0 : Int32} {σ : AH} {r : Option Value} {σ' : AH} (hs : Sh σ) (h : W_X2_giveInChain_34 X l D x2 x3 x4 y0 σ r σ') : E X l m_X2_giveInChain D 34 [(0, .ref 119), (2, .int x2), (3, .int x3), (4, .int x4)] [.int y0] σ r σ' := by
  unfold W_X2_giveInChain_34 at h
  refine E_istore [(5, .int y0), (0, .ref 119), (2, .int x2), (3, .int x3), (4, .int x4)] dX2_giveInChain_34 (by decide) rfl ?_
  refine E_iload 0 dX2_giveInChain_36 rfl ?_
  refine E_iconst (-1 : Int32) dX2_giveInChain_38 (by decide) ?_
  refine E_icmp_ne 45 dX2_giveInChain_39 (by decide) (fun c => ?_) (fun c => ?_)
  · rw [if_neg c] at h
    refine E_aload_n 1 dX2_giveInChain_45 rfl rfl ?_
    refine E_getR 113 dX2_giveInChain_46 fl_X2_32 rfl (sk_119 hs) (sn hs (by decide)) (sr_119_2 hs) ?_
    refine E_getR 114 dX2_giveInChain_49 fl_X2_84 rfl (sk_113 hs) (sn hs (by decide)) (sr_113_2 hs) ?_
    refine E_iload 0 dX2_giveInChain_52 rfl ?_
    obtain ⟨g13, h⟩ := h
    refine E_iald2 (y0.toNatClampNeg) dX2_giveInChain_54 (sk_114 hs) (sn hs (by decide)) g13 rfl ?_
    refine E_istore [(6, .int (gI σ 114 y0.toNatClampNeg)), (5, .int y0), (0, .ref 119), (2, .int x2), (3, .int x3), (4, .int x4)] dX2_giveInChain_55 (by decide) rfl ?_
    refine E_aload_n 2 dX2_giveInChain_57 rfl rfl ?_
    refine E_getR 122 dX2_giveInChain_58 fl_X2_18 rfl (sk_119 hs) (sn hs (by decide)) (sr_119_5 hs) ?_
    refine E_iload 0 dX2_giveInChain_61 rfl ?_
    obtain ⟨g14, h⟩ := h
    refine E_iald2 ((gI σ 114 y0.toNatClampNeg).toNatClampNeg) dX2_giveInChain_63 (sk_122 hs) (sn hs (by decide)) g14 rfl ?_
    refine E_iconst (-1 : Int32) dX2_giveInChain_64 (by decide) ?_
    refine E_icmp_eq 78 dX2_giveInChain_65 (by decide) (fun c => ?_) (fun c => ?_)
    · rw [if_pos c] at h
      refine E_aload_n 2 dX2_giveInChain_78 rfl rfl ?_
      refine E_getR 123 dX2_giveInChain_79 fl_X2_21 rfl (sk_119 hs) (sn hs (by decide)) (sr_119_6 hs) ?_
      refine E_iload 0 dX2_giveInChain_82 rfl ?_
      obtain ⟨g15, h⟩ := h
      refine E_iald2 ((gI σ 114 y0.toNatClampNeg).toNatClampNeg) dX2_giveInChain_84 (sk_123 hs) (sn hs (by decide)) g15 rfl ?_
      exact E_lv [2, 3, 4, 5, 1, 0] rfl (w_X2_giveInChain_85 hs h)
    · rw [if_neg c] at h
      refine E_aload_n 2 dX2_giveInChain_68 rfl rfl ?_
      refine E_getR 122 dX2_giveInChain_69 fl_X2_18 rfl (sk_119 hs) (sn hs (by decide)) (sr_119_5 hs) ?_
      refine E_iload 0 dX2_giveInChain_72 rfl ?_
      obtain ⟨g16, h⟩ := h
      refine E_iald2 ((gI σ 114 y0.toNatClampNeg).toNatClampNeg) dX2_giveInChain_74 (sk_122 hs) (sn hs (by decide)) g16 rfl ?_
      refine E_goto 85 dX2_giveInChain_75 (by decide) ?_
      exact E_lv [2, 3, 4, 5, 1, 0] rfl (w_X2_giveInChain_85 hs h)
  · rw [if_pos c] at h
    refine E_iload 4 dX2_giveInChain_42 rfl ?_
    obtain ⟨rfl, rfl⟩ := h
    exact E_iret dX2_giveInChain_44 rfl
def W_X2_giveInChain_33 (X : Sx) (l : Launch) (D : Nat) (x2 : Int32) (x3 : Int32) (x4 : Int32) (σ : AH) (r : Option Value) (σ' : AH) : Prop := W_X2_giveInChain_34 X l D x2 x3 x4 (-1 : Int32) σ r σ'
set_option maxRecDepth 100000 in
theorem w_X2_giveInChain_33 {X : Sx} {l : Launch} {D : Nat} {x2 : Int32} {x3 : Int32} {x4 : Int32} {σ : AH} {r : Option Value} {σ' : AH} (hs : Sh σ) (h : W_X2_giveInChain_33 X l D x2 x3 x4 σ r σ') : E X l m_X2_giveInChain D 33 [(0, .ref 119), (2, .int x2), (3, .int x3), (4, .int x4)] [] σ r σ' := by
  unfold W_X2_giveInChain_33 at h
  refine E_iconst (-1 : Int32) dX2_giveInChain_33 (by decide) ?_
  exact E_lv [0, 1, 2, 3] rfl (w_X2_giveInChain_34 hs h)
def W_X2_giveInChain_5 (X : Sx) (l : Launch) (D : Nat) (x2 : Int32) (x3 : Int32) (x4 : Int32) (σ : AH) (r : Option Value) (σ' : AH) : Prop := (if (10 : Int32) ≤ x4 then (r = some (.int (10 : Int32)) ∧ σ' = σ) else (if x3 = (-1 : Int32) then W_X2_giveInChain_33 X l D x2 x3 x4 σ r σ' else ∃ d1 : Nat, ∃ v6 : Int32, ∃ σ2 : AH, d1 + 1 ≤ D ∧ Call X l m_X2_isFree d1 [.ref 119, .int x3] σ (some (.int v6)) σ2 ∧ (if v6 = 0 then W_X2_giveInChain_33 X l D x2 x3 x4 σ2 r σ' else ∃ d7 : Nat, ∃ v12 : Int32, ∃ σ8 : AH, d7 + 1 ≤ D ∧ Call X l m_X2_firstFor d7 [.ref 119, .int x3] σ2 (some (.int v12)) σ8 ∧ W_X2_giveInChain_34 X l D x2 x3 x4 v12 σ8 r σ')))
set_option maxRecDepth 100000 in
theorem w_X2_giveInChain_5 {X : Sx} {l : Launch} {D : Nat} {x2 : Int32} {x3 : Int32} {x4 : Int32} {σ : AH} {r : Option Value} {σ' : AH} (hs : Sh σ) (h : W_X2_giveInChain_5 X l D x2 x3 x4 σ r σ') : E X l m_X2_giveInChain D 5 [(0, .ref 119), (2, .int x2), (3, .int x3), (4, .int x4)] [] σ r σ' := by
  unfold W_X2_giveInChain_5 at h
  refine E_iload 3 dX2_giveInChain_5 rfl ?_
  refine E_bipush (10 : Int32) dX2_giveInChain_7 (by decide) ?_
  refine E_icmp_ge 136 dX2_giveInChain_9 (by decide) (fun c => ?_) (fun c => ?_)
  · rw [if_pos c] at h
    refine E_bipush (10 : Int32) dX2_giveInChain_136 (by decide) ?_
    obtain ⟨rfl, rfl⟩ := h
    exact E_iret dX2_giveInChain_138 rfl
  · rw [if_neg c] at h
    refine E_iload_n 2 dX2_giveInChain_12 rfl rfl ?_
    refine E_iconst (-1 : Int32) dX2_giveInChain_13 (by decide) ?_
    refine E_icmp_eq 33 dX2_giveInChain_14 (by decide) (fun c => ?_) (fun c => ?_)
    · rw [if_pos c] at h
      exact E_lv [0, 1, 2, 3] rfl (w_X2_giveInChain_33 hs h)
    · rw [if_neg c] at h
      refine E_aload_n 0 dX2_giveInChain_17 rfl rfl ?_
      refine E_iload_n 2 dX2_giveInChain_18 rfl rfl ?_
      obtain ⟨d1, v6, σ2, hD3, hC4, h⟩ := h
      have hs5 := hC4.1.2.2.2.1 hs
      refine E_callV (As := [.int x3]) (rest := []) (r1 := (some (.int v6))) (b := 119) dX2_giveInChain_19 ok_X2_isFree in_X2_isFree se_X2_isFree ml_X2_109 hD3 rfl rfl (Nat.le_of_ble_eq_true rfl) (sk_119 hs) (sn hs (by decide)) (by decide) rfl (by decide +kernel) hC4 ?_
      refine E_if_eq 33 dX2_giveInChain_22 (by decide) (fun c => ?_) (fun c => ?_)
      · rw [if_pos c] at h
        exact E_lv [0, 1, 2, 3] rfl (w_X2_giveInChain_33 hs5 h)
      · rw [if_neg c] at h
        refine E_aload_n 0 dX2_giveInChain_25 rfl rfl ?_
        refine E_iload_n 2 dX2_giveInChain_26 rfl rfl ?_
        obtain ⟨d7, v12, σ8, hD9, hC10, h⟩ := h
        have hs11 := hC10.1.2.2.2.1 hs5
        refine E_callV (As := [.int x3]) (rest := []) (r1 := (some (.int v12))) (b := 119) dX2_giveInChain_27 ok_X2_firstFor in_X2_firstFor se_X2_firstFor ml_X2_113 hD9 rfl rfl (Nat.le_of_ble_eq_true rfl) (sk_119 hs5) (sn hs5 (by decide)) (by decide) rfl (by decide +kernel) hC10 ?_
        refine E_goto 34 dX2_giveInChain_30 (by decide) ?_
        exact E_lv [0, 1, 2, 3] rfl (w_X2_giveInChain_34 hs11 h)
