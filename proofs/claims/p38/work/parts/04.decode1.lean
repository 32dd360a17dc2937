theorem dX0_init_0 : decode cX0_init 0 = .ok (.aload_n 0, 1) := by decide +kernel
theorem dX0_init_1 : decode cX0_init 1 = .ok (.invokespecial 3, 3) := by decide +kernel
theorem dX0_init_4 : decode cX0_init 4 = .ok (.aload_n 0, 1) := by decide +kernel
theorem dX0_init_5 : decode cX0_init 5 = .ok (.iconst (-1), 1) := by decide +kernel
theorem dX0_init_6 : decode cX0_init 6 = .ok (.putfield 9, 3) := by decide +kernel
theorem dX0_init_9 : decode cX0_init 9 = .ok (.return_, 1) := by decide +kernel
theorem dX0_start_0 : decode cX0_start 0 = .ok (.aload_n 0, 1) := by decide +kernel
theorem dX0_start_1 : decode cX0_start 1 = .ok (.iload_n 1, 1) := by decide +kernel
theorem dX0_start_2 : decode cX0_start 2 = .ok (.putfield 15, 3) := by decide +kernel
theorem dX0_start_5 : decode cX0_start 5 = .ok (.aload_n 0, 1) := by decide +kernel
theorem dX0_start_6 : decode cX0_start 6 = .ok (.iload_n 2, 1) := by decide +kernel
theorem dX0_start_7 : decode cX0_start 7 = .ok (.putfield 18, 3) := by decide +kernel
theorem dX0_start_10 : decode cX0_start 10 = .ok (.aload_n 0, 1) := by decide +kernel
theorem dX0_start_11 : decode cX0_start 11 = .ok (.iload_n 3, 1) := by decide +kernel
theorem dX0_start_12 : decode cX0_start 12 = .ok (.putfield 21, 3) := by decide +kernel
theorem dX0_start_15 : decode cX0_start 15 = .ok (.aload_n 0, 1) := by decide +kernel
theorem dX0_start_16 : decode cX0_start 16 = .ok (.iload 4, 2) := by decide +kernel
theorem dX0_start_18 : decode cX0_start 18 = .ok (.putfield 24, 3) := by decide +kernel
theorem dX0_start_21 : decode cX0_start 21 = .ok (.aload_n 0, 1) := by decide +kernel
theorem dX0_start_22 : decode cX0_start 22 = .ok (.iconst (-1), 1) := by decide +kernel
theorem dX0_start_23 : decode cX0_start 23 = .ok (.putfield 9, 3) := by decide +kernel
theorem dX0_start_26 : decode cX0_start 26 = .ok (.return_, 1) := by decide +kernel
theorem dX0_copyFrom_0 : decode cX0_copyFrom 0 = .ok (.aload_n 0, 1) := by decide +kernel
theorem dX0_copyFrom_1 : decode cX0_copyFrom 1 = .ok (.aload_n 1, 1) := by decide +kernel
theorem dX0_copyFrom_2 : decode cX0_copyFrom 2 = .ok (.getfield 15, 3) := by decide +kernel
theorem dX0_copyFrom_5 : decode cX0_copyFrom 5 = .ok (.putfield 15, 3) := by decide +kernel
theorem dX0_copyFrom_8 : decode cX0_copyFrom 8 = .ok (.aload_n 0, 1) := by decide +kernel
theorem dX0_copyFrom_9 : decode cX0_copyFrom 9 = .ok (.aload_n 1, 1) := by decide +kernel
theorem dX0_copyFrom_10 : decode cX0_copyFrom 10 = .ok (.getfield 18, 3) := by decide +kernel
theorem dX0_copyFrom_13 : decode cX0_copyFrom 13 = .ok (.putfield 18, 3) := by decide +kernel
theorem dX0_copyFrom_16 : decode cX0_copyFrom 16 = .ok (.aload_n 0, 1) := by decide +kernel
theorem dX0_copyFrom_17 : decode cX0_copyFrom 17 = .ok (.aload_n 1, 1) := by decide +kernel
theorem dX0_copyFrom_18 : decode cX0_copyFrom 18 = .ok (.getfield 21, 3) := by decide +kernel
theorem dX0_copyFrom_21 : decode cX0_copyFrom 21 = .ok (.putfield 21, 3) := by decide +kernel
theorem dX0_copyFrom_24 : decode cX0_copyFrom 24 = .ok (.aload_n 0, 1) := by decide +kernel
theorem dX0_copyFrom_25 : decode cX0_copyFrom 25 = .ok (.aload_n 1, 1) := by decide +kernel
theorem dX0_copyFrom_26 : decode cX0_copyFrom 26 = .ok (.getfield 24, 3) := by decide +kernel
theorem dX0_copyFrom_29 : decode cX0_copyFrom 29 = .ok (.putfield 24, 3) := by decide +kernel
theorem dX0_copyFrom_32 : decode cX0_copyFrom 32 = .ok (.aload_n 0, 1) := by decide +kernel
theorem dX0_copyFrom_33 : decode cX0_copyFrom 33 = .ok (.aload_n 1, 1) := by decide +kernel
theorem dX0_copyFrom_34 : decode cX0_copyFrom 34 = .ok (.getfield 9, 3) := by decide +kernel
theorem dX0_copyFrom_37 : decode cX0_copyFrom 37 = .ok (.putfield 9, 3) := by decide +kernel
theorem dX0_copyFrom_40 : decode cX0_copyFrom 40 = .ok (.return_, 1) := by decide +kernel
theorem dX1_init_0 : decode cX1_init 0 = .ok (.aload_n 0, 1) := by decide +kernel
theorem dX1_init_1 : decode cX1_init 1 = .ok (.invokespecial 3, 3) := by decide +kernel
theorem dX1_init_4 : decode cX1_init 4 = .ok (.aload_n 0, 1) := by decide +kernel
theorem dX1_init_5 : decode cX1_init 5 = .ok (.bipush 8, 2) := by decide +kernel
theorem dX1_init_7 : decode cX1_init 7 = .ok (.anewarray 9, 3) := by decide +kernel
theorem dX1_init_10 : decode cX1_init 10 = .ok (.putfield 11, 3) := by decide +kernel
theorem dX1_init_13 : decode cX1_init 13 = .ok (.iconst 0, 1) := by decide +kernel
theorem dX1_init_14 : decode cX1_init 14 = .ok (.istore_n 1, 1) := by decide +kernel
theorem dX1_init_15 : decode cX1_init 15 = .ok (.iload_n 1, 1) := by decide +kernel
theorem dX1_init_16 : decode cX1_init 16 = .ok (.bipush 8, 2) := by decide +kernel
theorem dX1_init_18 : decode cX1_init 18 = .ok (.if_icmp .ge 22, 3) := by decide +kernel
theorem dX1_init_21 : decode cX1_init 21 = .ok (.aload_n 0, 1) := by decide +kernel
theorem dX1_init_22 : decode cX1_init 22 = .ok (.getfield 11, 3) := by decide +kernel
theorem dX1_init_25 : decode cX1_init 25 = .ok (.iload_n 1, 1) := by decide +kernel
theorem dX1_init_26 : decode cX1_init 26 = .ok (.new 9, 3) := by decide +kernel
theorem dX1_init_29 : decode cX1_init 29 = .ok (.dup, 1) := by decide +kernel
theorem dX1_init_30 : decode cX1_init 30 = .ok (.invokespecial 17, 3) := by decide +kernel
theorem dX1_init_33 : decode cX1_init 33 = .ok (.aastore, 1) := by decide +kernel
theorem dX1_init_34 : decode cX1_init 34 = .ok (.iinc 1 1, 3) := by decide +kernel
theorem dX1_init_37 : decode cX1_init 37 = .ok (.goto (-22), 3) := by decide +kernel
theorem dX1_init_40 : decode cX1_init 40 = .ok (.return_, 1) := by decide +kernel
theorem dX1_keep_0 : decode cX1_keep 0 = .ok (.aload_n 0, 1) := by decide +kernel
theorem dX1_keep_1 : decode cX1_keep 1 = .ok (.aload_n 0, 1) := by decide +kernel
theorem dX1_keep_2 : decode cX1_keep 2 = .ok (.getfield 18, 3) := by decide +kernel
theorem dX1_keep_5 : decode cX1_keep 5 = .ok (.iconst 1, 1) := by decide +kernel
theorem dX1_keep_6 : decode cX1_keep 6 = .ok (.iadd, 1) := by decide +kernel
theorem dX1_keep_7 : decode cX1_keep 7 = .ok (.bipush 8, 2) := by decide +kernel
theorem dX1_keep_9 : decode cX1_keep 9 = .ok (.invokestatic 22, 3) := by decide +kernel
theorem dX1_keep_12 : decode cX1_keep 12 = .ok (.putfield 18, 3) := by decide +kernel
theorem dX1_keep_15 : decode cX1_keep 15 = .ok (.aload_n 0, 1) := by decide +kernel
theorem dX1_keep_16 : decode cX1_keep 16 = .ok (.getfield 11, 3) := by decide +kernel
theorem dX1_keep_19 : decode cX1_keep 19 = .ok (.aload_n 0, 1) := by decide +kernel
theorem dX1_keep_20 : decode cX1_keep 20 = .ok (.getfield 18, 3) := by decide +kernel
theorem dX1_keep_23 : decode cX1_keep 23 = .ok (.aaload, 1) := by decide +kernel
theorem dX1_keep_24 : decode cX1_keep 24 = .ok (.aload_n 1, 1) := by decide +kernel
theorem dX1_keep_25 : decode cX1_keep 25 = .ok (.invokevirtual 28, 3) := by decide +kernel
theorem dX1_keep_28 : decode cX1_keep 28 = .ok (.aload_n 0, 1) := by decide +kernel
theorem dX1_keep_29 : decode cX1_keep 29 = .ok (.bipush 8, 2) := by decide +kernel
theorem dX1_keep_31 : decode cX1_keep 31 = .ok (.aload_n 0, 1) := by decide +kernel
theorem dX1_keep_32 : decode cX1_keep 32 = .ok (.getfield 32, 3) := by decide +kernel
theorem dX1_keep_35 : decode cX1_keep 35 = .ok (.iconst 1, 1) := by decide +kernel
theorem dX1_keep_36 : decode cX1_keep 36 = .ok (.iadd, 1) := by decide +kernel
theorem dX1_keep_37 : decode cX1_keep 37 = .ok (.invokestatic 35, 3) := by decide +kernel
theorem dX1_keep_40 : decode cX1_keep 40 = .ok (.putfield 32, 3) := by decide +kernel
theorem dX1_keep_43 : decode cX1_keep 43 = .ok (.return_, 1) := by decide +kernel
theorem dX1_giveBackTo_0 : decode cX1_giveBackTo 0 = .ok (.aload_n 1, 1) := by decide +kernel
theorem dX1_giveBackTo_1 : decode cX1_giveBackTo 1 = .ok (.aload_n 0, 1) := by decide +kernel
theorem dX1_giveBackTo_2 : decode cX1_giveBackTo 2 = .ok (.getfield 11, 3) := by decide +kernel
theorem dX1_giveBackTo_5 : decode cX1_giveBackTo 5 = .ok (.aload_n 0, 1) := by decide +kernel
theorem dX1_giveBackTo_6 : decode cX1_giveBackTo 6 = .ok (.getfield 18, 3) := by decide +kernel
theorem dX1_giveBackTo_9 : decode cX1_giveBackTo 9 = .ok (.bipush 8, 2) := by decide +kernel
theorem dX1_giveBackTo_11 : decode cX1_giveBackTo 11 = .ok (.invokestatic 22, 3) := by decide +kernel
theorem dX1_giveBackTo_14 : decode cX1_giveBackTo 14 = .ok (.aaload, 1) := by decide +kernel
theorem dX1_giveBackTo_15 : decode cX1_giveBackTo 15 = .ok (.invokevirtual 28, 3) := by decide +kernel
theorem dX1_giveBackTo_18 : decode cX1_giveBackTo 18 = .ok (.aload_n 0, 1) := by decide +kernel
theorem dX1_giveBackTo_19 : decode cX1_giveBackTo 19 = .ok (.aload_n 0, 1) := by decide +kernel
theorem dX1_giveBackTo_20 : decode cX1_giveBackTo 20 = .ok (.getfield 18, 3) := by decide +kernel
theorem dX1_giveBackTo_23 : decode cX1_giveBackTo 23 = .ok (.iconst 1, 1) := by decide +kernel
theorem dX1_giveBackTo_24 : decode cX1_giveBackTo 24 = .ok (.isub, 1) := by decide +kernel
theorem dX1_giveBackTo_25 : decode cX1_giveBackTo 25 = .ok (.bipush 8, 2) := by decide +kernel
theorem dX1_giveBackTo_27 : decode cX1_giveBackTo 27 = .ok (.invokestatic 22, 3) := by decide +kernel
theorem dX1_giveBackTo_30 : decode cX1_giveBackTo 30 = .ok (.putfield 18, 3) := by decide +kernel
theorem dX1_giveBackTo_33 : decode cX1_giveBackTo 33 = .ok (.aload_n 0, 1) := by decide +kernel
theorem dX1_giveBackTo_34 : decode cX1_giveBackTo 34 = .ok (.dup, 1) := by decide +kernel
theorem dX1_giveBackTo_35 : decode cX1_giveBackTo 35 = .ok (.getfield 32, 3) := by decide +kernel
theorem dX1_giveBackTo_38 : decode cX1_giveBackTo 38 = .ok (.iconst 1, 1) := by decide +kernel
theorem dX1_giveBackTo_39 : decode cX1_giveBackTo 39 = .ok (.isub, 1) := by decide +kernel
theorem dX1_giveBackTo_40 : decode cX1_giveBackTo 40 = .ok (.putfield 32, 3) := by decide +kernel
theorem dX1_giveBackTo_43 : decode cX1_giveBackTo 43 = .ok (.return_, 1) := by decide +kernel
theorem dX2_init_0 : decode cX2_init 0 = .ok (.aload_n 0, 1) := by decide +kernel
theorem dX2_init_1 : decode cX2_init 1 = .ok (.invokespecial 3, 3) := by decide +kernel
theorem dX2_init_4 : decode cX2_init 4 = .ok (.aload_n 0, 1) := by decide +kernel
theorem dX2_init_5 : decode cX2_init 5 = .ok (.bipush 100, 2) := by decide +kernel
theorem dX2_init_7 : decode cX2_init 7 = .ok (.putfield 9, 3) := by decide +kernel
theorem dX2_init_10 : decode cX2_init 10 = .ok (.aload_n 0, 1) := by decide +kernel
theorem dX2_init_11 : decode cX2_init 11 = .ok (.bipush 24, 2) := by decide +kernel
theorem dX2_init_13 : decode cX2_init 13 = .ok (.newarray .int, 2) := by decide +kernel
theorem dX2_init_15 : decode cX2_init 15 = .ok (.putfield 15, 3) := by decide +kernel
theorem dX2_init_18 : decode cX2_init 18 = .ok (.aload_n 0, 1) := by decide +kernel
theorem dX2_init_19 : decode cX2_init 19 = .ok (.iconst 3, 1) := by decide +kernel
theorem dX2_init_20 : decode cX2_init 20 = .ok (.newarray .int, 2) := by decide +kernel
theorem dX2_init_22 : decode cX2_init 22 = .ok (.putfield 19, 3) := by decide +kernel
theorem dX2_init_25 : decode cX2_init 25 = .ok (.aload_n 0, 1) := by decide +kernel
theorem dX2_init_26 : decode cX2_init 26 = .ok (.iconst 3, 1) := by decide +kernel
theorem dX2_init_27 : decode cX2_init 27 = .ok (.newarray .int, 2) := by decide +kernel
theorem dX2_init_29 : decode cX2_init 29 = .ok (.putfield 22, 3) := by decide +kernel
theorem dX2_init_32 : decode cX2_init 32 = .ok (.aload_n 0, 1) := by decide +kernel
theorem dX2_init_33 : decode cX2_init 33 = .ok (.iconst 4, 1) := by decide +kernel
theorem dX2_init_34 : decode cX2_init 34 = .ok (.anewarray 25, 3) := by decide +kernel
theorem dX2_init_37 : decode cX2_init 37 = .ok (.putfield 27, 3) := by decide +kernel
theorem dX2_init_40 : decode cX2_init 40 = .ok (.aload_n 0, 1) := by decide +kernel
theorem dX2_init_41 : decode cX2_init 41 = .ok (.bipush 6, 2) := by decide +kernel
theorem dX2_init_43 : decode cX2_init 43 = .ok (.anewarray 31, 3) := by decide +kernel
theorem dX2_init_46 : decode cX2_init 46 = .ok (.putfield 33, 3) := by decide +kernel
theorem dX2_init_49 : decode cX2_init 49 = .ok (.aload_n 0, 1) := by decide +kernel
theorem dX2_init_50 : decode cX2_init 50 = .ok (.bipush 6, 2) := by decide +kernel
theorem dX2_init_52 : decode cX2_init 52 = .ok (.anewarray 37, 3) := by decide +kernel
theorem dX2_init_55 : decode cX2_init 55 = .ok (.putfield 39, 3) := by decide +kernel
theorem dX2_init_58 : decode cX2_init 58 = .ok (.iconst 0, 1) := by decide +kernel
theorem dX2_init_59 : decode cX2_init 59 = .ok (.istore_n 1, 1) := by decide +kernel
theorem dX2_init_60 : decode cX2_init 60 = .ok (.iload_n 1, 1) := by decide +kernel
theorem dX2_init_61 : decode cX2_init 61 = .ok (.bipush 24, 2) := by decide +kernel
theorem dX2_init_63 : decode cX2_init 63 = .ok (.if_icmp .ge 17, 3) := by decide +kernel
theorem dX2_init_66 : decode cX2_init 66 = .ok (.aload_n 0, 1) := by decide +kernel
theorem dX2_init_67 : decode cX2_init 67 = .ok (.getfield 15, 3) := by decide +kernel
theorem dX2_init_70 : decode cX2_init 70 = .ok (.iload_n 1, 1) := by decide +kernel
theorem dX2_init_71 : decode cX2_init 71 = .ok (.bipush 45, 2) := by decide +kernel
theorem dX2_init_73 : decode cX2_init 73 = .ok (.iastore, 1) := by decide +kernel
theorem dX2_init_74 : decode cX2_init 74 = .ok (.iinc 1 1, 3) := by decide +kernel
theorem dX2_init_77 : decode cX2_init 77 = .ok (.goto (-17), 3) := by decide +kernel
theorem dX2_init_80 : decode cX2_init 80 = .ok (.iconst 0, 1) := by decide +kernel
theorem dX2_init_81 : decode cX2_init 81 = .ok (.istore_n 1, 1) := by decide +kernel
theorem dX2_init_82 : decode cX2_init 82 = .ok (.iload_n 1, 1) := by decide +kernel
theorem dX2_init_83 : decode cX2_init 83 = .ok (.iconst 4, 1) := by decide +kernel
theorem dX2_init_84 : decode cX2_init 84 = .ok (.if_icmp .ge 22, 3) := by decide +kernel
theorem dX2_init_87 : decode cX2_init 87 = .ok (.aload_n 0, 1) := by decide +kernel
theorem dX2_init_88 : decode cX2_init 88 = .ok (.getfield 27, 3) := by decide +kernel
theorem dX2_init_91 : decode cX2_init 91 = .ok (.iload_n 1, 1) := by decide +kernel
theorem dX2_init_92 : decode cX2_init 92 = .ok (.new 25, 3) := by decide +kernel
theorem dX2_init_95 : decode cX2_init 95 = .ok (.dup, 1) := by decide +kernel
theorem dX2_init_96 : decode cX2_init 96 = .ok (.invokespecial 43, 3) := by decide +kernel
theorem dX2_init_99 : decode cX2_init 99 = .ok (.aastore, 1) := by decide +kernel
theorem dX2_init_100 : decode cX2_init 100 = .ok (.iinc 1 1, 3) := by decide +kernel
theorem dX2_init_103 : decode cX2_init 103 = .ok (.goto (-21), 3) := by decide +kernel
theorem dX2_init_106 : decode cX2_init 106 = .ok (.iconst 0, 1) := by decide +kernel
theorem dX2_init_107 : decode cX2_init 107 = .ok (.istore_n 1, 1) := by decide +kernel
theorem dX2_init_108 : decode cX2_init 108 = .ok (.iload_n 1, 1) := by decide +kernel
theorem dX2_init_109 : decode cX2_init 109 = .ok (.bipush 6, 2) := by decide +kernel
theorem dX2_init_111 : decode cX2_init 111 = .ok (.if_icmp .ge 22, 3) := by decide +kernel
theorem dX2_init_114 : decode cX2_init 114 = .ok (.aload_n 0, 1) := by decide +kernel
theorem dX2_init_115 : decode cX2_init 115 = .ok (.getfield 33, 3) := by decide +kernel
theorem dX2_init_118 : decode cX2_init 118 = .ok (.iload_n 1, 1) := by decide +kernel
theorem dX2_init_119 : decode cX2_init 119 = .ok (.new 31, 3) := by decide +kernel
theorem dX2_init_122 : decode cX2_init 122 = .ok (.dup, 1) := by decide +kernel
theorem dX2_init_123 : decode cX2_init 123 = .ok (.invokespecial 44, 3) := by decide +kernel
theorem dX2_init_126 : decode cX2_init 126 = .ok (.aastore, 1) := by decide +kernel
theorem dX2_init_127 : decode cX2_init 127 = .ok (.iinc 1 1, 3) := by decide +kernel
theorem dX2_init_130 : decode cX2_init 130 = .ok (.goto (-22), 3) := by decide +kernel
theorem dX2_init_133 : decode cX2_init 133 = .ok (.iconst 0, 1) := by decide +kernel
theorem dX2_init_134 : decode cX2_init 134 = .ok (.istore_n 1, 1) := by decide +kernel
theorem dX2_init_135 : decode cX2_init 135 = .ok (.iload_n 1, 1) := by decide +kernel
theorem dX2_init_136 : decode cX2_init 136 = .ok (.bipush 6, 2) := by decide +kernel
theorem dX2_init_138 : decode cX2_init 138 = .ok (.if_icmp .ge 22, 3) := by decide +kernel
theorem dX2_init_141 : decode cX2_init 141 = .ok (.aload_n 0, 1) := by decide +kernel
theorem dX2_init_142 : decode cX2_init 142 = .ok (.getfield 39, 3) := by decide +kernel
theorem dX2_init_145 : decode cX2_init 145 = .ok (.iload_n 1, 1) := by decide +kernel
theorem dX2_init_146 : decode cX2_init 146 = .ok (.new 37, 3) := by decide +kernel
theorem dX2_init_149 : decode cX2_init 149 = .ok (.dup, 1) := by decide +kernel
theorem dX2_init_150 : decode cX2_init 150 = .ok (.invokespecial 45, 3) := by decide +kernel
theorem dX2_init_153 : decode cX2_init 153 = .ok (.aastore, 1) := by decide +kernel
theorem dX2_init_154 : decode cX2_init 154 = .ok (.iinc 1 1, 3) := by decide +kernel
theorem dX2_init_157 : decode cX2_init 157 = .ok (.goto (-22), 3) := by decide +kernel
theorem dX2_init_160 : decode cX2_init 160 = .ok (.return_, 1) := by decide +kernel
theorem dX2_copyFrom_0 : decode cX2_copyFrom 0 = .ok (.aload_n 0, 1) := by decide +kernel
theorem dX2_copyFrom_1 : decode cX2_copyFrom 1 = .ok (.aload_n 1, 1) := by decide +kernel
theorem dX2_copyFrom_2 : decode cX2_copyFrom 2 = .ok (.getfield 46, 3) := by decide +kernel
theorem dX2_copyFrom_5 : decode cX2_copyFrom 5 = .ok (.putfield 46, 3) := by decide +kernel
theorem dX2_copyFrom_8 : decode cX2_copyFrom 8 = .ok (.aload_n 0, 1) := by decide +kernel
theorem dX2_copyFrom_9 : decode cX2_copyFrom 9 = .ok (.aload_n 1, 1) := by decide +kernel
theorem dX2_copyFrom_10 : decode cX2_copyFrom 10 = .ok (.getfield 9, 3) := by decide +kernel
theorem dX2_copyFrom_13 : decode cX2_copyFrom 13 = .ok (.putfield 9, 3) := by decide +kernel
theorem dX2_copyFrom_16 : decode cX2_copyFrom 16 = .ok (.aload_n 1, 1) := by decide +kernel
theorem dX2_copyFrom_17 : decode cX2_copyFrom 17 = .ok (.getfield 15, 3) := by decide +kernel
theorem dX2_copyFrom_20 : decode cX2_copyFrom 20 = .ok (.iconst 0, 1) := by decide +kernel
theorem dX2_copyFrom_21 : decode cX2_copyFrom 21 = .ok (.aload_n 0, 1) := by decide +kernel
theorem dX2_copyFrom_22 : decode cX2_copyFrom 22 = .ok (.getfield 15, 3) := by decide +kernel
theorem dX2_copyFrom_25 : decode cX2_copyFrom 25 = .ok (.iconst 0, 1) := by decide +kernel
theorem dX2_copyFrom_26 : decode cX2_copyFrom 26 = .ok (.bipush 24, 2) := by decide +kernel
theorem dX2_copyFrom_28 : decode cX2_copyFrom 28 = .ok (.invokestatic 49, 3) := by decide +kernel
theorem dX2_copyFrom_31 : decode cX2_copyFrom 31 = .ok (.aload_n 1, 1) := by decide +kernel
theorem dX2_copyFrom_32 : decode cX2_copyFrom 32 = .ok (.getfield 19, 3) := by decide +kernel
theorem dX2_copyFrom_35 : decode cX2_copyFrom 35 = .ok (.iconst 0, 1) := by decide +kernel
theorem dX2_copyFrom_36 : decode cX2_copyFrom 36 = .ok (.aload_n 0, 1) := by decide +kernel
theorem dX2_copyFrom_37 : decode cX2_copyFrom 37 = .ok (.getfield 19, 3) := by decide +kernel
theorem dX2_copyFrom_40 : decode cX2_copyFrom 40 = .ok (.iconst 0, 1) := by decide +kernel
theorem dX2_copyFrom_41 : decode cX2_copyFrom 41 = .ok (.iconst 3, 1) := by decide +kernel
theorem dX2_copyFrom_42 : decode cX2_copyFrom 42 = .ok (.invokestatic 49, 3) := by decide +kernel
theorem dX2_copyFrom_45 : decode cX2_copyFrom 45 = .ok (.aload_n 1, 1) := by decide +kernel
theorem dX2_copyFrom_46 : decode cX2_copyFrom 46 = .ok (.getfield 22, 3) := by decide +kernel
theorem dX2_copyFrom_49 : decode cX2_copyFrom 49 = .ok (.iconst 0, 1) := by decide +kernel
theorem dX2_copyFrom_50 : decode cX2_copyFrom 50 = .ok (.aload_n 0, 1) := by decide +kernel
theorem dX2_copyFrom_51 : decode cX2_copyFrom 51 = .ok (.getfield 22, 3) := by decide +kernel
theorem dX2_copyFrom_54 : decode cX2_copyFrom 54 = .ok (.iconst 0, 1) := by decide +kernel
theorem dX2_copyFrom_55 : decode cX2_copyFrom 55 = .ok (.iconst 3, 1) := by decide +kernel
theorem dX2_copyFrom_56 : decode cX2_copyFrom 56 = .ok (.invokestatic 49, 3) := by decide +kernel
theorem dX2_copyFrom_59 : decode cX2_copyFrom 59 = .ok (.aload_n 0, 1) := by decide +kernel
theorem dX2_copyFrom_60 : decode cX2_copyFrom 60 = .ok (.aload_n 1, 1) := by decide +kernel
theorem dX2_copyFrom_61 : decode cX2_copyFrom 61 = .ok (.getfield 55, 3) := by decide +kernel
theorem dX2_copyFrom_64 : decode cX2_copyFrom 64 = .ok (.putfield 55, 3) := by decide +kernel
theorem dX2_copyFrom_67 : decode cX2_copyFrom 67 = .ok (.iconst 0, 1) := by decide +kernel
theorem dX2_copyFrom_68 : decode cX2_copyFrom 68 = .ok (.istore_n 2, 1) := by decide +kernel
theorem dX2_copyFrom_69 : decode cX2_copyFrom 69 = .ok (.iload_n 2, 1) := by decide +kernel
theorem dX2_copyFrom_70 : decode cX2_copyFrom 70 = .ok (.iconst 4, 1) := by decide +kernel
theorem dX2_copyFrom_71 : decode cX2_copyFrom 71 = .ok (.if_icmp .ge 24, 3) := by decide +kernel
theorem dX2_copyFrom_74 : decode cX2_copyFrom 74 = .ok (.aload_n 0, 1) := by decide +kernel
theorem dX2_copyFrom_75 : decode cX2_copyFrom 75 = .ok (.getfield 27, 3) := by decide +kernel
theorem dX2_copyFrom_78 : decode cX2_copyFrom 78 = .ok (.iload_n 2, 1) := by decide +kernel
theorem dX2_copyFrom_79 : decode cX2_copyFrom 79 = .ok (.aaload, 1) := by decide +kernel
theorem dX2_copyFrom_80 : decode cX2_copyFrom 80 = .ok (.aload_n 1, 1) := by decide +kernel
theorem dX2_copyFrom_81 : decode cX2_copyFrom 81 = .ok (.getfield 27, 3) := by decide +kernel
theorem dX2_copyFrom_84 : decode cX2_copyFrom 84 = .ok (.iload_n 2, 1) := by decide +kernel
theorem dX2_copyFrom_85 : decode cX2_copyFrom 85 = .ok (.aaload, 1) := by decide +kernel
theorem dX2_copyFrom_86 : decode cX2_copyFrom 86 = .ok (.invokevirtual 58, 3) := by decide +kernel
theorem dX2_copyFrom_89 : decode cX2_copyFrom 89 = .ok (.iinc 2 1, 3) := by decide +kernel
theorem dX2_copyFrom_92 : decode cX2_copyFrom 92 = .ok (.goto (-23), 3) := by decide +kernel
theorem dX2_copyFrom_95 : decode cX2_copyFrom 95 = .ok (.aload_n 0, 1) := by decide +kernel
theorem dX2_copyFrom_96 : decode cX2_copyFrom 96 = .ok (.aload_n 1, 1) := by decide +kernel
theorem dX2_copyFrom_97 : decode cX2_copyFrom 97 = .ok (.getfield 62, 3) := by decide +kernel
theorem dX2_copyFrom_100 : decode cX2_copyFrom 100 = .ok (.putfield 62, 3) := by decide +kernel
theorem dX2_copyFrom_103 : decode cX2_copyFrom 103 = .ok (.iconst 0, 1) := by decide +kernel
theorem dX2_copyFrom_104 : decode cX2_copyFrom 104 = .ok (.istore_n 2, 1) := by decide +kernel
theorem dX2_copyFrom_105 : decode cX2_copyFrom 105 = .ok (.iload_n 2, 1) := by decide +kernel
theorem dX2_copyFrom_106 : decode cX2_copyFrom 106 = .ok (.bipush 6, 2) := by decide +kernel
theorem dX2_copyFrom_108 : decode cX2_copyFrom 108 = .ok (.if_icmp .ge 24, 3) := by decide +kernel
theorem dX2_copyFrom_111 : decode cX2_copyFrom 111 = .ok (.aload_n 0, 1) := by decide +kernel
theorem dX2_copyFrom_112 : decode cX2_copyFrom 112 = .ok (.getfield 33, 3) := by decide +kernel
theorem dX2_copyFrom_115 : decode cX2_copyFrom 115 = .ok (.iload_n 2, 1) := by decide +kernel
theorem dX2_copyFrom_116 : decode cX2_copyFrom 116 = .ok (.aaload, 1) := by decide +kernel
theorem dX2_copyFrom_117 : decode cX2_copyFrom 117 = .ok (.aload_n 1, 1) := by decide +kernel
theorem dX2_copyFrom_118 : decode cX2_copyFrom 118 = .ok (.getfield 33, 3) := by decide +kernel
theorem dX2_copyFrom_121 : decode cX2_copyFrom 121 = .ok (.iload_n 2, 1) := by decide +kernel
theorem dX2_copyFrom_122 : decode cX2_copyFrom 122 = .ok (.aaload, 1) := by decide +kernel
theorem dX2_copyFrom_123 : decode cX2_copyFrom 123 = .ok (.invokevirtual 65, 3) := by decide +kernel
theorem dX2_copyFrom_126 : decode cX2_copyFrom 126 = .ok (.iinc 2 1, 3) := by decide +kernel
theorem dX2_copyFrom_129 : decode cX2_copyFrom 129 = .ok (.goto (-24), 3) := by decide +kernel
theorem dX2_copyFrom_132 : decode cX2_copyFrom 132 = .ok (.aload_n 0, 1) := by decide +kernel
theorem dX2_copyFrom_133 : decode cX2_copyFrom 133 = .ok (.aload_n 1, 1) := by decide +kernel
theorem dX2_copyFrom_134 : decode cX2_copyFrom 134 = .ok (.getfield 68, 3) := by decide +kernel
theorem dX2_copyFrom_137 : decode cX2_copyFrom 137 = .ok (.putfield 68, 3) := by decide +kernel
theorem dX2_copyFrom_140 : decode cX2_copyFrom 140 = .ok (.iconst 0, 1) := by decide +kernel
theorem dX2_copyFrom_141 : decode cX2_copyFrom 141 = .ok (.istore_n 2, 1) := by decide +kernel
theorem dX2_copyFrom_142 : decode cX2_copyFrom 142 = .ok (.iload_n 2, 1) := by decide +kernel
theorem dX2_copyFrom_143 : decode cX2_copyFrom 143 = .ok (.bipush 6, 2) := by decide +kernel
theorem dX2_copyFrom_145 : decode cX2_copyFrom 145 = .ok (.if_icmp .ge 24, 3) := by decide +kernel
theorem dX2_copyFrom_148 : decode cX2_copyFrom 148 = .ok (.aload_n 0, 1) := by decide +kernel
theorem dX2_copyFrom_149 : decode cX2_copyFrom 149 = .ok (.getfield 39, 3) := by decide +kernel
theorem dX2_copyFrom_152 : decode cX2_copyFrom 152 = .ok (.iload_n 2, 1) := by decide +kernel
theorem dX2_copyFrom_153 : decode cX2_copyFrom 153 = .ok (.aaload, 1) := by decide +kernel
theorem dX2_copyFrom_154 : decode cX2_copyFrom 154 = .ok (.aload_n 1, 1) := by decide +kernel
theorem dX2_copyFrom_155 : decode cX2_copyFrom 155 = .ok (.getfield 39, 3) := by decide +kernel
theorem dX2_copyFrom_158 : decode cX2_copyFrom 158 = .ok (.iload_n 2, 1) := by decide +kernel
theorem dX2_copyFrom_159 : decode cX2_copyFrom 159 = .ok (.aaload, 1) := by decide +kernel
theorem dX2_copyFrom_160 : decode cX2_copyFrom 160 = .ok (.invokevirtual 71, 3) := by decide +kernel
theorem dX2_copyFrom_163 : decode cX2_copyFrom 163 = .ok (.iinc 2 1, 3) := by decide +kernel
theorem dX2_copyFrom_166 : decode cX2_copyFrom 166 = .ok (.goto (-24), 3) := by decide +kernel
theorem dX2_copyFrom_169 : decode cX2_copyFrom 169 = .ok (.aload_n 0, 1) := by decide +kernel
theorem dX2_copyFrom_170 : decode cX2_copyFrom 170 = .ok (.aload_n 1, 1) := by decide +kernel
theorem dX2_copyFrom_171 : decode cX2_copyFrom 171 = .ok (.getfield 74, 3) := by decide +kernel
theorem dX2_copyFrom_174 : decode cX2_copyFrom 174 = .ok (.putfield 74, 3) := by decide +kernel
theorem dX2_copyFrom_177 : decode cX2_copyFrom 177 = .ok (.aload_n 0, 1) := by decide +kernel
theorem dX2_copyFrom_178 : decode cX2_copyFrom 178 = .ok (.aload_n 1, 1) := by decide +kernel
theorem dX2_copyFrom_179 : decode cX2_copyFrom 179 = .ok (.getfield 77, 3) := by decide +kernel
theorem dX2_copyFrom_182 : decode cX2_copyFrom 182 = .ok (.putfield 77, 3) := by decide +kernel
theorem dX2_copyFrom_185 : decode cX2_copyFrom 185 = .ok (.aload_n 0, 1) := by decide +kernel
theorem dX2_copyFrom_186 : decode cX2_copyFrom 186 = .ok (.aload_n 1, 1) := by decide +kernel
theorem dX2_copyFrom_187 : decode cX2_copyFrom 187 = .ok (.getfield 80, 3) := by decide +kernel
theorem dX2_copyFrom_190 : decode cX2_copyFrom 190 = .ok (.putfield 80, 3) := by decide +kernel
theorem dX2_copyFrom_193 : decode cX2_copyFrom 193 = .ok (.aload_n 0, 1) := by decide +kernel
theorem dX2_copyFrom_194 : decode cX2_copyFrom 194 = .ok (.aload_n 1, 1) := by decide +kernel
theorem dX2_copyFrom_195 : decode cX2_copyFrom 195 = .ok (.getfield 83, 3) := by decide +kernel
theorem dX2_copyFrom_198 : decode cX2_copyFrom 198 = .ok (.putfield 83, 3) := by decide +kernel
theorem dX2_copyFrom_201 : decode cX2_copyFrom 201 = .ok (.aload_n 0, 1) := by decide +kernel
theorem dX2_copyFrom_202 : decode cX2_copyFrom 202 = .ok (.aload_n 1, 1) := by decide +kernel
theorem dX2_copyFrom_203 : decode cX2_copyFrom 203 = .ok (.getfield 86, 3) := by decide +kernel
theorem dX2_copyFrom_206 : decode cX2_copyFrom 206 = .ok (.putfield 86, 3) := by decide +kernel
theorem dX2_copyFrom_209 : decode cX2_copyFrom 209 = .ok (.aload_n 0, 1) := by decide +kernel
theorem dX2_copyFrom_210 : decode cX2_copyFrom 210 = .ok (.aload_n 1, 1) := by decide +kernel
theorem dX2_copyFrom_211 : decode cX2_copyFrom 211 = .ok (.getfield 89, 3) := by decide +kernel
theorem dX2_copyFrom_214 : decode cX2_copyFrom 214 = .ok (.putfield 89, 3) := by decide +kernel
theorem dX2_copyFrom_217 : decode cX2_copyFrom 217 = .ok (.return_, 1) := by decide +kernel
theorem dX2_humidityAfter_0 : decode cX2_humidityAfter 0 = .ok (.aload_n 0, 1) := by decide +kernel
theorem dX2_humidityAfter_1 : decode cX2_humidityAfter 1 = .ok (.getfield 15, 3) := by decide +kernel
theorem dX2_humidityAfter_4 : decode cX2_humidityAfter 4 = .ok (.aload_n 0, 1) := by decide +kernel
theorem dX2_humidityAfter_5 : decode cX2_humidityAfter 5 = .ok (.getfield 46, 3) := by decide +kernel
theorem dX2_humidityAfter_8 : decode cX2_humidityAfter 8 = .ok (.iload_n 1, 1) := by decide +kernel
theorem dX2_humidityAfter_9 : decode cX2_humidityAfter 9 = .ok (.iadd, 1) := by decide +kernel
theorem dX2_humidityAfter_10 : decode cX2_humidityAfter 10 = .ok (.bipush 24, 2) := by decide +kernel
theorem dX2_humidityAfter_12 : decode cX2_humidityAfter 12 = .ok (.invokestatic 92, 3) := by decide +kernel
theorem dX2_humidityAfter_15 : decode cX2_humidityAfter 15 = .ok (.iaload, 1) := by decide +kernel
theorem dX2_humidityAfter_16 : decode cX2_humidityAfter 16 = .ok (.ireturn, 1) := by decide +kernel
theorem dX2_setHumidity_0 : decode cX2_setHumidity 0 = .ok (.iload_n 1, 1) := by decide +kernel
theorem dX2_setHumidity_1 : decode cX2_setHumidity 1 = .ok (.bipush 24, 2) := by decide +kernel
theorem dX2_setHumidity_3 : decode cX2_setHumidity 3 = .ok (.invokestatic 92, 3) := by decide +kernel
theorem dX2_setHumidity_6 : decode cX2_setHumidity 6 = .ok (.istore_n 3, 1) := by decide +kernel
theorem dX2_setHumidity_7 : decode cX2_setHumidity 7 = .ok (.aload_n 0, 1) := by decide +kernel
theorem dX2_setHumidity_8 : decode cX2_setHumidity 8 = .ok (.getfield 15, 3) := by decide +kernel
theorem dX2_setHumidity_11 : decode cX2_setHumidity 11 = .ok (.iload_n 3, 1) := by decide +kernel
theorem dX2_setHumidity_12 : decode cX2_setHumidity 12 = .ok (.iaload, 1) := by decide +kernel
theorem dX2_setHumidity_13 : decode cX2_setHumidity 13 = .ok (.istore 4, 2) := by decide +kernel
theorem dX2_setHumidity_15 : decode cX2_setHumidity 15 = .ok (.aload_n 0, 1) := by decide +kernel
theorem dX2_setHumidity_16 : decode cX2_setHumidity 16 = .ok (.getfield 15, 3) := by decide +kernel
theorem dX2_setHumidity_19 : decode cX2_setHumidity 19 = .ok (.iload_n 3, 1) := by decide +kernel
theorem dX2_setHumidity_20 : decode cX2_setHumidity 20 = .ok (.iload_n 2, 1) := by decide +kernel
theorem dX2_setHumidity_21 : decode cX2_setHumidity 21 = .ok (.iastore, 1) := by decide +kernel
theorem dX2_setHumidity_22 : decode cX2_setHumidity 22 = .ok (.iload 4, 2) := by decide +kernel
theorem dX2_setHumidity_24 : decode cX2_setHumidity 24 = .ok (.ireturn, 1) := by decide +kernel
theorem dX2_stockOf_0 : decode cX2_stockOf 0 = .ok (.iload_n 1, 1) := by decide +kernel
theorem dX2_stockOf_1 : decode cX2_stockOf 1 = .ok (.invokestatic 98, 3) := by decide +kernel
theorem dX2_stockOf_4 : decode cX2_stockOf 4 = .ok (.ifCond .eq 12, 3) := by decide +kernel
theorem dX2_stockOf_7 : decode cX2_stockOf 7 = .ok (.aload_n 0, 1) := by decide +kernel
theorem dX2_stockOf_8 : decode cX2_stockOf 8 = .ok (.getfield 19, 3) := by decide +kernel
theorem dX2_stockOf_11 : decode cX2_stockOf 11 = .ok (.iload_n 1, 1) := by decide +kernel
theorem dX2_stockOf_12 : decode cX2_stockOf 12 = .ok (.iaload, 1) := by decide +kernel
theorem dX2_stockOf_13 : decode cX2_stockOf 13 = .ok (.goto 4, 3) := by decide +kernel
theorem dX2_stockOf_16 : decode cX2_stockOf 16 = .ok (.iconst 0, 1) := by decide +kernel
theorem dX2_stockOf_17 : decode cX2_stockOf 17 = .ok (.ireturn, 1) := by decide +kernel
theorem dX2_reasonAgainstBuying_0 : decode cX2_reasonAgainstBuying 0 = .ok (.aload_n 0, 1) := by decide +kernel
theorem dX2_reasonAgainstBuying_1 : decode cX2_reasonAgainstBuying 1 = .ok (.iload_n 2, 1) := by decide +kernel
theorem dX2_reasonAgainstBuying_2 : decode cX2_reasonAgainstBuying 2 = .ok (.invokevirtual 102, 3) := by decide +kernel
theorem dX2_reasonAgainstBuying_5 : decode cX2_reasonAgainstBuying 5 = .ok (.istore 4, 2) := by decide +kernel
theorem dX2_reasonAgainstBuying_7 : decode cX2_reasonAgainstBuying 7 = .ok (.iload 4, 2) := by decide +kernel
theorem dX2_reasonAgainstBuying_9 : decode cX2_reasonAgainstBuying 9 = .ok (.iload_n 3, 1) := by decide +kernel
theorem dX2_reasonAgainstBuying_10 : decode cX2_reasonAgainstBuying 10 = .ok (.iadd, 1) := by decide +kernel
theorem dX2_reasonAgainstBuying_11 : decode cX2_reasonAgainstBuying 11 = .ok (.sipush 300, 3) := by decide +kernel
theorem dX2_reasonAgainstBuying_14 : decode cX2_reasonAgainstBuying 14 = .ok (.if_icmp .le 11, 3) := by decide +kernel
theorem dX2_reasonAgainstBuying_17 : decode cX2_reasonAgainstBuying 17 = .ok (.aload_n 1, 1) := by decide +kernel
theorem dX2_reasonAgainstBuying_18 : decode cX2_reasonAgainstBuying 18 = .ok (.iconst 3, 1) := by decide +kernel
theorem dX2_reasonAgainstBuying_19 : decode cX2_reasonAgainstBuying 19 = .ok (.iload 4, 2) := by decide +kernel
theorem dX2_reasonAgainstBuying_21 : decode cX2_reasonAgainstBuying 21 = .ok (.invokevirtual 106, 3) := by decide +kernel
theorem dX2_reasonAgainstBuying_24 : decode cX2_reasonAgainstBuying 24 = .ok (.ireturn, 1) := by decide +kernel
theorem dX2_reasonAgainstBuying_25 : decode cX2_reasonAgainstBuying 25 = .ok (.iload_n 3, 1) := by decide +kernel
theorem dX2_reasonAgainstBuying_26 : decode cX2_reasonAgainstBuying 26 = .ok (.iload_n 2, 1) := by decide +kernel
theorem dX2_reasonAgainstBuying_27 : decode cX2_reasonAgainstBuying 27 = .ok (.invokestatic 111, 3) := by decide +kernel
theorem dX2_reasonAgainstBuying_30 : decode cX2_reasonAgainstBuying 30 = .ok (.imul, 1) := by decide +kernel
theorem dX2_reasonAgainstBuying_31 : decode cX2_reasonAgainstBuying 31 = .ok (.aload_n 0, 1) := by decide +kernel
theorem dX2_reasonAgainstBuying_32 : decode cX2_reasonAgainstBuying 32 = .ok (.getfield 9, 3) := by decide +kernel
theorem dX2_reasonAgainstBuying_35 : decode cX2_reasonAgainstBuying 35 = .ok (.isub, 1) := by decide +kernel
theorem dX2_reasonAgainstBuying_36 : decode cX2_reasonAgainstBuying 36 = .ok (.istore 5, 2) := by decide +kernel
theorem dX2_reasonAgainstBuying_38 : decode cX2_reasonAgainstBuying 38 = .ok (.iload 5, 2) := by decide +kernel
theorem dX2_reasonAgainstBuying_40 : decode cX2_reasonAgainstBuying 40 = .ok (.ifCond .le 13, 3) := by decide +kernel
theorem dX2_reasonAgainstBuying_43 : decode cX2_reasonAgainstBuying 43 = .ok (.aload_n 1, 1) := by decide +kernel
theorem dX2_reasonAgainstBuying_44 : decode cX2_reasonAgainstBuying 44 = .ok (.iconst 2, 1) := by decide +kernel
theorem dX2_reasonAgainstBuying_45 : decode cX2_reasonAgainstBuying 45 = .ok (.iload 5, 2) := by decide +kernel
theorem dX2_reasonAgainstBuying_47 : decode cX2_reasonAgainstBuying 47 = .ok (.invokevirtual 106, 3) := by decide +kernel
theorem dX2_reasonAgainstBuying_50 : decode cX2_reasonAgainstBuying 50 = .ok (.goto 4, 3) := by decide +kernel
theorem dX2_reasonAgainstBuying_53 : decode cX2_reasonAgainstBuying 53 = .ok (.iconst 0, 1) := by decide +kernel
theorem dX2_reasonAgainstBuying_54 : decode cX2_reasonAgainstBuying 54 = .ok (.ireturn, 1) := by decide +kernel
theorem dX2_buyCubes_0 : decode cX2_buyCubes 0 = .ok (.iload_n 1, 1) := by decide +kernel
theorem dX2_buyCubes_1 : decode cX2_buyCubes 1 = .ok (.invokestatic 98, 3) := by decide +kernel
theorem dX2_buyCubes_4 : decode cX2_buyCubes 4 = .ok (.ifCond .eq 38, 3) := by decide +kernel
theorem dX2_buyCubes_7 : decode cX2_buyCubes 7 = .ok (.aload_n 0, 1) := by decide +kernel
theorem dX2_buyCubes_8 : decode cX2_buyCubes 8 = .ok (.getfield 19, 3) := by decide +kernel
theorem dX2_buyCubes_11 : decode cX2_buyCubes 11 = .ok (.iload_n 1, 1) := by decide +kernel
theorem dX2_buyCubes_12 : decode cX2_buyCubes 12 = .ok (.dup2, 1) := by decide +kernel
theorem dX2_buyCubes_13 : decode cX2_buyCubes 13 = .ok (.iaload, 1) := by decide +kernel
theorem dX2_buyCubes_14 : decode cX2_buyCubes 14 = .ok (.iload_n 2, 1) := by decide +kernel
theorem dX2_buyCubes_15 : decode cX2_buyCubes 15 = .ok (.iadd, 1) := by decide +kernel
theorem dX2_buyCubes_16 : decode cX2_buyCubes 16 = .ok (.iastore, 1) := by decide +kernel
theorem dX2_buyCubes_17 : decode cX2_buyCubes 17 = .ok (.aload_n 0, 1) := by decide +kernel
theorem dX2_buyCubes_18 : decode cX2_buyCubes 18 = .ok (.getfield 22, 3) := by decide +kernel
theorem dX2_buyCubes_21 : decode cX2_buyCubes 21 = .ok (.iload_n 1, 1) := by decide +kernel
theorem dX2_buyCubes_22 : decode cX2_buyCubes 22 = .ok (.dup2, 1) := by decide +kernel
theorem dX2_buyCubes_23 : decode cX2_buyCubes 23 = .ok (.iaload, 1) := by decide +kernel
theorem dX2_buyCubes_24 : decode cX2_buyCubes 24 = .ok (.iload_n 2, 1) := by decide +kernel
theorem dX2_buyCubes_25 : decode cX2_buyCubes 25 = .ok (.iadd, 1) := by decide +kernel
theorem dX2_buyCubes_26 : decode cX2_buyCubes 26 = .ok (.iastore, 1) := by decide +kernel
theorem dX2_buyCubes_27 : decode cX2_buyCubes 27 = .ok (.aload_n 0, 1) := by decide +kernel
theorem dX2_buyCubes_28 : decode cX2_buyCubes 28 = .ok (.dup, 1) := by decide +kernel
theorem dX2_buyCubes_29 : decode cX2_buyCubes 29 = .ok (.getfield 9, 3) := by decide +kernel
theorem dX2_buyCubes_32 : decode cX2_buyCubes 32 = .ok (.iload_n 2, 1) := by decide +kernel
theorem dX2_buyCubes_33 : decode cX2_buyCubes 33 = .ok (.iload_n 1, 1) := by decide +kernel
theorem dX2_buyCubes_34 : decode cX2_buyCubes 34 = .ok (.invokestatic 111, 3) := by decide +kernel
theorem dX2_buyCubes_37 : decode cX2_buyCubes 37 = .ok (.imul, 1) := by decide +kernel
theorem dX2_buyCubes_38 : decode cX2_buyCubes 38 = .ok (.isub, 1) := by decide +kernel
theorem dX2_buyCubes_39 : decode cX2_buyCubes 39 = .ok (.putfield 9, 3) := by decide +kernel
theorem dX2_buyCubes_42 : decode cX2_buyCubes 42 = .ok (.aload_n 0, 1) := by decide +kernel
theorem dX2_buyCubes_43 : decode cX2_buyCubes 43 = .ok (.iload_n 1, 1) := by decide +kernel
theorem dX2_buyCubes_44 : decode cX2_buyCubes 44 = .ok (.invokevirtual 102, 3) := by decide +kernel
theorem dX2_buyCubes_47 : decode cX2_buyCubes 47 = .ok (.ireturn, 1) := by decide +kernel
theorem dX2_tongsAt_0 : decode cX2_tongsAt 0 = .ok (.iload_n 1, 1) := by decide +kernel
theorem dX2_tongsAt_1 : decode cX2_tongsAt 1 = .ok (.ifCond .lt 25, 3) := by decide +kernel
theorem dX2_tongsAt_4 : decode cX2_tongsAt 4 = .ok (.iload_n 1, 1) := by decide +kernel
theorem dX2_tongsAt_5 : decode cX2_tongsAt 5 = .ok (.aload_n 0, 1) := by decide +kernel
theorem dX2_tongsAt_6 : decode cX2_tongsAt 6 = .ok (.getfield 55, 3) := by decide +kernel
theorem dX2_tongsAt_9 : decode cX2_tongsAt 9 = .ok (.if_icmp .ge 17, 3) := by decide +kernel
theorem dX2_tongsAt_12 : decode cX2_tongsAt 12 = .ok (.iload_n 1, 1) := by decide +kernel
theorem dX2_tongsAt_13 : decode cX2_tongsAt 13 = .ok (.iconst 4, 1) := by decide +kernel
theorem dX2_tongsAt_14 : decode cX2_tongsAt 14 = .ok (.if_icmp .ge 12, 3) := by decide +kernel
theorem dX2_tongsAt_17 : decode cX2_tongsAt 17 = .ok (.aload_n 0, 1) := by decide +kernel
theorem dX2_tongsAt_18 : decode cX2_tongsAt 18 = .ok (.getfield 27, 3) := by decide +kernel
theorem dX2_tongsAt_21 : decode cX2_tongsAt 21 = .ok (.iload_n 1, 1) := by decide +kernel
theorem dX2_tongsAt_22 : decode cX2_tongsAt 22 = .ok (.aaload, 1) := by decide +kernel
theorem dX2_tongsAt_23 : decode cX2_tongsAt 23 = .ok (.goto 4, 3) := by decide +kernel
theorem dX2_tongsAt_26 : decode cX2_tongsAt 26 = .ok (.aconst_null, 1) := by decide +kernel
theorem dX2_tongsAt_27 : decode cX2_tongsAt 27 = .ok (.areturn, 1) := by decide +kernel
theorem dX2_addTongs_0 : decode cX2_addTongs 0 = .ok (.aload_n 0, 1) := by decide +kernel
theorem dX2_addTongs_1 : decode cX2_addTongs 1 = .ok (.getfield 55, 3) := by decide +kernel
theorem dX2_addTongs_4 : decode cX2_addTongs 4 = .ok (.istore_n 2, 1) := by decide +kernel
theorem dX2_addTongs_5 : decode cX2_addTongs 5 = .ok (.iload_n 2, 1) := by decide +kernel
theorem dX2_addTongs_6 : decode cX2_addTongs 6 = .ok (.ifCond .lt 28, 3) := by decide +kernel
theorem dX2_addTongs_9 : decode cX2_addTongs 9 = .ok (.iload_n 2, 1) := by decide +kernel
theorem dX2_addTongs_10 : decode cX2_addTongs 10 = .ok (.iconst 4, 1) := by decide +kernel
theorem dX2_addTongs_11 : decode cX2_addTongs 11 = .ok (.if_icmp .ge 23, 3) := by decide +kernel
theorem dX2_addTongs_14 : decode cX2_addTongs 14 = .ok (.aload_n 0, 1) := by decide +kernel
theorem dX2_addTongs_15 : decode cX2_addTongs 15 = .ok (.getfield 27, 3) := by decide +kernel
theorem dX2_addTongs_18 : decode cX2_addTongs 18 = .ok (.iload_n 2, 1) := by decide +kernel
theorem dX2_addTongs_19 : decode cX2_addTongs 19 = .ok (.aaload, 1) := by decide +kernel
theorem dX2_addTongs_20 : decode cX2_addTongs 20 = .ok (.iload_n 1, 1) := by decide +kernel
theorem dX2_addTongs_21 : decode cX2_addTongs 21 = .ok (.invokevirtual 114, 3) := by decide +kernel
theorem dX2_addTongs_24 : decode cX2_addTongs 24 = .ok (.aload_n 0, 1) := by decide +kernel
theorem dX2_addTongs_25 : decode cX2_addTongs 25 = .ok (.dup, 1) := by decide +kernel
theorem dX2_addTongs_26 : decode cX2_addTongs 26 = .ok (.getfield 55, 3) := by decide +kernel
theorem dX2_addTongs_29 : decode cX2_addTongs 29 = .ok (.iconst 1, 1) := by decide +kernel
theorem dX2_addTongs_30 : decode cX2_addTongs 30 = .ok (.iadd, 1) := by decide +kernel
theorem dX2_addTongs_31 : decode cX2_addTongs 31 = .ok (.putfield 55, 3) := by decide +kernel
theorem dX2_addTongs_34 : decode cX2_addTongs 34 = .ok (.iload_n 2, 1) := by decide +kernel
theorem dX2_addTongs_35 : decode cX2_addTongs 35 = .ok (.ireturn, 1) := by decide +kernel
theorem dX2_busyTongs_0 : decode cX2_busyTongs 0 = .ok (.iconst 0, 1) := by decide +kernel
theorem dX2_busyTongs_1 : decode cX2_busyTongs 1 = .ok (.istore_n 1, 1) := by decide +kernel
theorem dX2_busyTongs_2 : decode cX2_busyTongs 2 = .ok (.iconst 0, 1) := by decide +kernel
theorem dX2_busyTongs_3 : decode cX2_busyTongs 3 = .ok (.istore_n 2, 1) := by decide +kernel
theorem dX2_busyTongs_4 : decode cX2_busyTongs 4 = .ok (.iload_n 2, 1) := by decide +kernel
theorem dX2_busyTongs_5 : decode cX2_busyTongs 5 = .ok (.aload_n 0, 1) := by decide +kernel
theorem dX2_busyTongs_6 : decode cX2_busyTongs 6 = .ok (.getfield 55, 3) := by decide +kernel
theorem dX2_busyTongs_9 : decode cX2_busyTongs 9 = .ok (.if_icmp .ge 34, 3) := by decide +kernel
theorem dX2_busyTongs_12 : decode cX2_busyTongs 12 = .ok (.iload_n 2, 1) := by decide +kernel
theorem dX2_busyTongs_13 : decode cX2_busyTongs 13 = .ok (.iconst 4, 1) := by decide +kernel
theorem dX2_busyTongs_14 : decode cX2_busyTongs 14 = .ok (.if_icmp .ge 29, 3) := by decide +kernel
theorem dX2_busyTongs_17 : decode cX2_busyTongs 17 = .ok (.iload_n 1, 1) := by decide +kernel
theorem dX2_busyTongs_18 : decode cX2_busyTongs 18 = .ok (.aload_n 0, 1) := by decide +kernel
theorem dX2_busyTongs_19 : decode cX2_busyTongs 19 = .ok (.getfield 27, 3) := by decide +kernel
theorem dX2_busyTongs_22 : decode cX2_busyTongs 22 = .ok (.iload_n 2, 1) := by decide +kernel
theorem dX2_busyTongs_23 : decode cX2_busyTongs 23 = .ok (.aaload, 1) := by decide +kernel
theorem dX2_busyTongs_24 : decode cX2_busyTongs 24 = .ok (.getfield 118, 3) := by decide +kernel
theorem dX2_busyTongs_27 : decode cX2_busyTongs 27 = .ok (.ifCond .le 7, 3) := by decide +kernel
theorem dX2_busyTongs_30 : decode cX2_busyTongs 30 = .ok (.iconst 1, 1) := by decide +kernel
theorem dX2_busyTongs_31 : decode cX2_busyTongs 31 = .ok (.goto 4, 3) := by decide +kernel
theorem dX2_busyTongs_34 : decode cX2_busyTongs 34 = .ok (.iconst 0, 1) := by decide +kernel
theorem dX2_busyTongs_35 : decode cX2_busyTongs 35 = .ok (.iadd, 1) := by decide +kernel
theorem dX2_busyTongs_36 : decode cX2_busyTongs 36 = .ok (.istore_n 1, 1) := by decide +kernel
theorem dX2_busyTongs_37 : decode cX2_busyTongs 37 = .ok (.iinc 2 1, 3) := by decide +kernel
theorem dX2_busyTongs_40 : decode cX2_busyTongs 40 = .ok (.goto (-36), 3) := by decide +kernel
theorem dX2_busyTongs_43 : decode cX2_busyTongs 43 = .ok (.iload_n 1, 1) := by decide +kernel
theorem dX2_busyTongs_44 : decode cX2_busyTongs 44 = .ok (.ireturn, 1) := by decide +kernel
theorem dX2_towerAt_0 : decode cX2_towerAt 0 = .ok (.iload_n 1, 1) := by decide +kernel
theorem dX2_towerAt_1 : decode cX2_towerAt 1 = .ok (.ifCond .lt 26, 3) := by decide +kernel
theorem dX2_towerAt_4 : decode cX2_towerAt 4 = .ok (.iload_n 1, 1) := by decide +kernel
theorem dX2_towerAt_5 : decode cX2_towerAt 5 = .ok (.aload_n 0, 1) := by decide +kernel
theorem dX2_towerAt_6 : decode cX2_towerAt 6 = .ok (.getfield 62, 3) := by decide +kernel
theorem dX2_towerAt_9 : decode cX2_towerAt 9 = .ok (.if_icmp .ge 18, 3) := by decide +kernel
theorem dX2_towerAt_12 : decode cX2_towerAt 12 = .ok (.iload_n 1, 1) := by decide +kernel
theorem dX2_towerAt_13 : decode cX2_towerAt 13 = .ok (.bipush 6, 2) := by decide +kernel
theorem dX2_towerAt_15 : decode cX2_towerAt 15 = .ok (.if_icmp .ge 12, 3) := by decide +kernel
theorem dX2_towerAt_18 : decode cX2_towerAt 18 = .ok (.aload_n 0, 1) := by decide +kernel
theorem dX2_towerAt_19 : decode cX2_towerAt 19 = .ok (.getfield 33, 3) := by decide +kernel
theorem dX2_towerAt_22 : decode cX2_towerAt 22 = .ok (.iload_n 1, 1) := by decide +kernel
theorem dX2_towerAt_23 : decode cX2_towerAt 23 = .ok (.aaload, 1) := by decide +kernel
theorem dX2_towerAt_24 : decode cX2_towerAt 24 = .ok (.goto 4, 3) := by decide +kernel
theorem dX2_towerAt_27 : decode cX2_towerAt 27 = .ok (.aconst_null, 1) := by decide +kernel
theorem dX2_towerAt_28 : decode cX2_towerAt 28 = .ok (.areturn, 1) := by decide +kernel
theorem dX2_addTower_0 : decode cX2_addTower 0 = .ok (.aload_n 0, 1) := by decide +kernel
theorem dX2_addTower_1 : decode cX2_addTower 1 = .ok (.getfield 62, 3) := by decide +kernel
theorem dX2_addTower_4 : decode cX2_addTower 4 = .ok (.istore_n 1, 1) := by decide +kernel
theorem dX2_addTower_5 : decode cX2_addTower 5 = .ok (.iload_n 1, 1) := by decide +kernel
theorem dX2_addTower_6 : decode cX2_addTower 6 = .ok (.ifCond .lt 28, 3) := by decide +kernel
theorem dX2_addTower_9 : decode cX2_addTower 9 = .ok (.iload_n 1, 1) := by decide +kernel
theorem dX2_addTower_10 : decode cX2_addTower 10 = .ok (.bipush 6, 2) := by decide +kernel
theorem dX2_addTower_12 : decode cX2_addTower 12 = .ok (.if_icmp .ge 22, 3) := by decide +kernel
theorem dX2_addTower_15 : decode cX2_addTower 15 = .ok (.aload_n 0, 1) := by decide +kernel
theorem dX2_addTower_16 : decode cX2_addTower 16 = .ok (.getfield 33, 3) := by decide +kernel
theorem dX2_addTower_19 : decode cX2_addTower 19 = .ok (.iload_n 1, 1) := by decide +kernel
theorem dX2_addTower_20 : decode cX2_addTower 20 = .ok (.aaload, 1) := by decide +kernel
theorem dX2_addTower_21 : decode cX2_addTower 21 = .ok (.invokevirtual 124, 3) := by decide +kernel
theorem dX2_addTower_24 : decode cX2_addTower 24 = .ok (.aload_n 0, 1) := by decide +kernel
theorem dX2_addTower_25 : decode cX2_addTower 25 = .ok (.dup, 1) := by decide +kernel
theorem dX2_addTower_26 : decode cX2_addTower 26 = .ok (.getfield 62, 3) := by decide +kernel
theorem dX2_addTower_29 : decode cX2_addTower 29 = .ok (.iconst 1, 1) := by decide +kernel
theorem dX2_addTower_30 : decode cX2_addTower 30 = .ok (.iadd, 1) := by decide +kernel
theorem dX2_addTower_31 : decode cX2_addTower 31 = .ok (.putfield 62, 3) := by decide +kernel
theorem dX2_addTower_34 : decode cX2_addTower 34 = .ok (.iload_n 1, 1) := by decide +kernel
theorem dX2_addTower_35 : decode cX2_addTower 35 = .ok (.ireturn, 1) := by decide +kernel
theorem dX2_reasonAgainstLaying_0 : decode cX2_reasonAgainstLaying 0 = .ok (.aload_n 0, 1) := by decide +kernel
theorem dX2_reasonAgainstLaying_1 : decode cX2_reasonAgainstLaying 1 = .ok (.iload_n 2, 1) := by decide +kernel
theorem dX2_reasonAgainstLaying_2 : decode cX2_reasonAgainstLaying 2 = .ok (.invokevirtual 126, 3) := by decide +kernel
theorem dX2_reasonAgainstLaying_5 : decode cX2_reasonAgainstLaying 5 = .ok (.astore 6, 2) := by decide +kernel
theorem dX2_reasonAgainstLaying_7 : decode cX2_reasonAgainstLaying 7 = .ok (.aload_n 0, 1) := by decide +kernel
theorem dX2_reasonAgainstLaying_8 : decode cX2_reasonAgainstLaying 8 = .ok (.iload_n 3, 1) := by decide +kernel
theorem dX2_reasonAgainstLaying_9 : decode cX2_reasonAgainstLaying 9 = .ok (.invokevirtual 130, 3) := by decide +kernel
theorem dX2_reasonAgainstLaying_12 : decode cX2_reasonAgainstLaying 12 = .ok (.astore 7, 2) := by decide +kernel
theorem dX2_reasonAgainstLaying_14 : decode cX2_reasonAgainstLaying 14 = .ok (.aload 6, 2) := by decide +kernel
theorem dX2_reasonAgainstLaying_16 : decode cX2_reasonAgainstLaying 16 = .ok (.ifnull 8, 3) := by decide +kernel
theorem dX2_reasonAgainstLaying_19 : decode cX2_reasonAgainstLaying 19 = .ok (.aload 7, 2) := by decide +kernel
theorem dX2_reasonAgainstLaying_21 : decode cX2_reasonAgainstLaying 21 = .ok (.ifnonnull 5, 3) := by decide +kernel
theorem dX2_reasonAgainstLaying_24 : decode cX2_reasonAgainstLaying 24 = .ok (.iconst 0, 1) := by decide +kernel
theorem dX2_reasonAgainstLaying_25 : decode cX2_reasonAgainstLaying 25 = .ok (.ireturn, 1) := by decide +kernel
theorem dX2_reasonAgainstLaying_26 : decode cX2_reasonAgainstLaying 26 = .ok (.aload 6, 2) := by decide +kernel
theorem dX2_reasonAgainstLaying_28 : decode cX2_reasonAgainstLaying 28 = .ok (.getfield 134, 3) := by decide +kernel
theorem dX2_reasonAgainstLaying_31 : decode cX2_reasonAgainstLaying 31 = .ok (.istore 8, 2) := by decide +kernel
theorem dX2_reasonAgainstLaying_33 : decode cX2_reasonAgainstLaying 33 = .ok (.iload 8, 2) := by decide +kernel
theorem dX2_reasonAgainstLaying_35 : decode cX2_reasonAgainstLaying 35 = .ok (.bipush 10, 2) := by decide +kernel
theorem dX2_reasonAgainstLaying_37 : decode cX2_reasonAgainstLaying 37 = .ok (.if_icmp .lt 11, 3) := by decide +kernel
theorem dX2_reasonAgainstLaying_40 : decode cX2_reasonAgainstLaying 40 = .ok (.aload_n 1, 1) := by decide +kernel
theorem dX2_reasonAgainstLaying_41 : decode cX2_reasonAgainstLaying 41 = .ok (.iconst 1, 1) := by decide +kernel
theorem dX2_reasonAgainstLaying_42 : decode cX2_reasonAgainstLaying 42 = .ok (.bipush 10, 2) := by decide +kernel
theorem dX2_reasonAgainstLaying_44 : decode cX2_reasonAgainstLaying 44 = .ok (.invokevirtual 106, 3) := by decide +kernel
theorem dX2_reasonAgainstLaying_47 : decode cX2_reasonAgainstLaying 47 = .ok (.ireturn, 1) := by decide +kernel
theorem dX2_reasonAgainstLaying_48 : decode cX2_reasonAgainstLaying 48 = .ok (.aload 7, 2) := by decide +kernel
theorem dX2_reasonAgainstLaying_50 : decode cX2_reasonAgainstLaying 50 = .ok (.getfield 118, 3) := by decide +kernel
theorem dX2_reasonAgainstLaying_53 : decode cX2_reasonAgainstLaying 53 = .ok (.ifCond .le 14, 3) := by decide +kernel
theorem dX2_reasonAgainstLaying_56 : decode cX2_reasonAgainstLaying 56 = .ok (.aload_n 1, 1) := by decide +kernel
theorem dX2_reasonAgainstLaying_57 : decode cX2_reasonAgainstLaying 57 = .ok (.iconst 4, 1) := by decide +kernel
theorem dX2_reasonAgainstLaying_58 : decode cX2_reasonAgainstLaying 58 = .ok (.aload 7, 2) := by decide +kernel
theorem dX2_reasonAgainstLaying_60 : decode cX2_reasonAgainstLaying 60 = .ok (.getfield 118, 3) := by decide +kernel
theorem dX2_reasonAgainstLaying_63 : decode cX2_reasonAgainstLaying 63 = .ok (.invokevirtual 106, 3) := by decide +kernel
theorem dX2_reasonAgainstLaying_66 : decode cX2_reasonAgainstLaying 66 = .ok (.ireturn, 1) := by decide +kernel
theorem dX2_reasonAgainstLaying_67 : decode cX2_reasonAgainstLaying 67 = .ok (.iload 8, 2) := by decide +kernel
theorem dX2_reasonAgainstLaying_69 : decode cX2_reasonAgainstLaying 69 = .ok (.aload 7, 2) := by decide +kernel
theorem dX2_reasonAgainstLaying_71 : decode cX2_reasonAgainstLaying 71 = .ok (.getfield 121, 3) := by decide +kernel
theorem dX2_reasonAgainstLaying_74 : decode cX2_reasonAgainstLaying 74 = .ok (.if_icmp .lt 14, 3) := by decide +kernel
theorem dX2_reasonAgainstLaying_77 : decode cX2_reasonAgainstLaying 77 = .ok (.aload_n 1, 1) := by decide +kernel
theorem dX2_reasonAgainstLaying_78 : decode cX2_reasonAgainstLaying 78 = .ok (.iconst 5, 1) := by decide +kernel
theorem dX2_reasonAgainstLaying_79 : decode cX2_reasonAgainstLaying 79 = .ok (.aload 7, 2) := by decide +kernel
theorem dX2_reasonAgainstLaying_81 : decode cX2_reasonAgainstLaying 81 = .ok (.getfield 121, 3) := by decide +kernel
theorem dX2_reasonAgainstLaying_84 : decode cX2_reasonAgainstLaying 84 = .ok (.invokevirtual 106, 3) := by decide +kernel
theorem dX2_reasonAgainstLaying_87 : decode cX2_reasonAgainstLaying 87 = .ok (.ireturn, 1) := by decide +kernel
theorem dX2_reasonAgainstLaying_88 : decode cX2_reasonAgainstLaying 88 = .ok (.aload_n 0, 1) := by decide +kernel
theorem dX2_reasonAgainstLaying_89 : decode cX2_reasonAgainstLaying 89 = .ok (.iload 4, 2) := by decide +kernel
theorem dX2_reasonAgainstLaying_91 : decode cX2_reasonAgainstLaying 91 = .ok (.invokevirtual 102, 3) := by decide +kernel
theorem dX2_reasonAgainstLaying_94 : decode cX2_reasonAgainstLaying 94 = .ok (.iload 5, 2) := by decide +kernel
theorem dX2_reasonAgainstLaying_96 : decode cX2_reasonAgainstLaying 96 = .ok (.if_icmp .ge 16, 3) := by decide +kernel
theorem dX2_reasonAgainstLaying_99 : decode cX2_reasonAgainstLaying 99 = .ok (.aload_n 1, 1) := by decide +kernel
theorem dX2_reasonAgainstLaying_100 : decode cX2_reasonAgainstLaying 100 = .ok (.bipush 6, 2) := by decide +kernel
theorem dX2_reasonAgainstLaying_102 : decode cX2_reasonAgainstLaying 102 = .ok (.aload_n 0, 1) := by decide +kernel
theorem dX2_reasonAgainstLaying_103 : decode cX2_reasonAgainstLaying 103 = .ok (.iload 4, 2) := by decide +kernel
theorem dX2_reasonAgainstLaying_105 : decode cX2_reasonAgainstLaying 105 = .ok (.invokevirtual 102, 3) := by decide +kernel
theorem dX2_reasonAgainstLaying_108 : decode cX2_reasonAgainstLaying 108 = .ok (.invokevirtual 106, 3) := by decide +kernel
theorem dX2_reasonAgainstLaying_111 : decode cX2_reasonAgainstLaying 111 = .ok (.ireturn, 1) := by decide +kernel
theorem dX2_reasonAgainstLaying_112 : decode cX2_reasonAgainstLaying 112 = .ok (.iload 8, 2) := by decide +kernel
theorem dX2_reasonAgainstLaying_114 : decode cX2_reasonAgainstLaying 114 = .ok (.ifCond .le 33, 3) := by decide +kernel
theorem dX2_reasonAgainstLaying_117 : decode cX2_reasonAgainstLaying 117 = .ok (.iload 5, 2) := by decide +kernel
theorem dX2_reasonAgainstLaying_119 : decode cX2_reasonAgainstLaying 119 = .ok (.aload 6, 2) := by decide +kernel
theorem dX2_reasonAgainstLaying_121 : decode cX2_reasonAgainstLaying 121 = .ok (.iload 8, 2) := by decide +kernel
theorem dX2_reasonAgainstLaying_123 : decode cX2_reasonAgainstLaying 123 = .ok (.iconst 1, 1) := by decide +kernel
theorem dX2_reasonAgainstLaying_124 : decode cX2_reasonAgainstLaying 124 = .ok (.isub, 1) := by decide +kernel
theorem dX2_reasonAgainstLaying_125 : decode cX2_reasonAgainstLaying 125 = .ok (.invokevirtual 137, 3) := by decide +kernel
theorem dX2_reasonAgainstLaying_128 : decode cX2_reasonAgainstLaying 128 = .ok (.if_icmp .le 19, 3) := by decide +kernel
theorem dX2_reasonAgainstLaying_131 : decode cX2_reasonAgainstLaying 131 = .ok (.aload_n 1, 1) := by decide +kernel
theorem dX2_reasonAgainstLaying_132 : decode cX2_reasonAgainstLaying 132 = .ok (.bipush 7, 2) := by decide +kernel
theorem dX2_reasonAgainstLaying_134 : decode cX2_reasonAgainstLaying 134 = .ok (.aload 6, 2) := by decide +kernel
theorem dX2_reasonAgainstLaying_136 : decode cX2_reasonAgainstLaying 136 = .ok (.iload 8, 2) := by decide +kernel
theorem dX2_reasonAgainstLaying_138 : decode cX2_reasonAgainstLaying 138 = .ok (.iconst 1, 1) := by decide +kernel
theorem dX2_reasonAgainstLaying_139 : decode cX2_reasonAgainstLaying 139 = .ok (.isub, 1) := by decide +kernel
theorem dX2_reasonAgainstLaying_140 : decode cX2_reasonAgainstLaying 140 = .ok (.invokevirtual 137, 3) := by decide +kernel
theorem dX2_reasonAgainstLaying_143 : decode cX2_reasonAgainstLaying 143 = .ok (.invokevirtual 106, 3) := by decide +kernel
theorem dX2_reasonAgainstLaying_146 : decode cX2_reasonAgainstLaying 146 = .ok (.ireturn, 1) := by decide +kernel
theorem dX2_reasonAgainstLaying_147 : decode cX2_reasonAgainstLaying 147 = .ok (.aload 6, 2) := by decide +kernel
theorem dX2_reasonAgainstLaying_149 : decode cX2_reasonAgainstLaying 149 = .ok (.aload 6, 2) := by decide +kernel
theorem dX2_reasonAgainstLaying_151 : decode cX2_reasonAgainstLaying 151 = .ok (.getfield 140, 3) := by decide +kernel
theorem dX2_reasonAgainstLaying_154 : decode cX2_reasonAgainstLaying 154 = .ok (.iload 5, 2) := by decide +kernel
theorem dX2_reasonAgainstLaying_156 : decode cX2_reasonAgainstLaying 156 = .ok (.invokevirtual 143, 3) := by decide +kernel
theorem dX2_reasonAgainstLaying_159 : decode cX2_reasonAgainstLaying 159 = .ok (.istore 9, 2) := by decide +kernel
theorem dX2_reasonAgainstLaying_161 : decode cX2_reasonAgainstLaying 161 = .ok (.iload 9, 2) := by decide +kernel
theorem dX2_reasonAgainstLaying_163 : decode cX2_reasonAgainstLaying 163 = .ok (.iconst (-1), 1) := by decide +kernel
theorem dX2_reasonAgainstLaying_164 : decode cX2_reasonAgainstLaying 164 = .ok (.if_icmp .ne 7, 3) := by decide +kernel
theorem dX2_reasonAgainstLaying_167 : decode cX2_reasonAgainstLaying 167 = .ok (.iconst 0, 1) := by decide +kernel
theorem dX2_reasonAgainstLaying_168 : decode cX2_reasonAgainstLaying 168 = .ok (.goto 11, 3) := by decide +kernel
theorem dX2_reasonAgainstLaying_171 : decode cX2_reasonAgainstLaying 171 = .ok (.aload_n 1, 1) := by decide +kernel
theorem dX2_reasonAgainstLaying_172 : decode cX2_reasonAgainstLaying 172 = .ok (.bipush 8, 2) := by decide +kernel
theorem dX2_reasonAgainstLaying_174 : decode cX2_reasonAgainstLaying 174 = .ok (.iload 9, 2) := by decide +kernel
theorem dX2_reasonAgainstLaying_176 : decode cX2_reasonAgainstLaying 176 = .ok (.invokevirtual 106, 3) := by decide +kernel
theorem dX2_reasonAgainstLaying_179 : decode cX2_reasonAgainstLaying 179 = .ok (.ireturn, 1) := by decide +kernel
theorem dX2_layCourse_0 : decode cX2_layCourse 0 = .ok (.aload_n 0, 1) := by decide +kernel
theorem dX2_layCourse_1 : decode cX2_layCourse 1 = .ok (.iload_n 1, 1) := by decide +kernel
theorem dX2_layCourse_2 : decode cX2_layCourse 2 = .ok (.invokevirtual 126, 3) := by decide +kernel
theorem dX2_layCourse_5 : decode cX2_layCourse 5 = .ok (.astore 5, 2) := by decide +kernel
theorem dX2_layCourse_7 : decode cX2_layCourse 7 = .ok (.aload_n 0, 1) := by decide +kernel
theorem dX2_layCourse_8 : decode cX2_layCourse 8 = .ok (.iload_n 2, 1) := by decide +kernel
theorem dX2_layCourse_9 : decode cX2_layCourse 9 = .ok (.invokevirtual 130, 3) := by decide +kernel
theorem dX2_layCourse_12 : decode cX2_layCourse 12 = .ok (.astore 6, 2) := by decide +kernel
theorem dX2_layCourse_14 : decode cX2_layCourse 14 = .ok (.aload 5, 2) := by decide +kernel
theorem dX2_layCourse_16 : decode cX2_layCourse 16 = .ok (.ifnull 15, 3) := by decide +kernel
theorem dX2_layCourse_19 : decode cX2_layCourse 19 = .ok (.aload 6, 2) := by decide +kernel
theorem dX2_layCourse_21 : decode cX2_layCourse 21 = .ok (.ifnull 10, 3) := by decide +kernel
theorem dX2_layCourse_24 : decode cX2_layCourse 24 = .ok (.iload_n 3, 1) := by decide +kernel
theorem dX2_layCourse_25 : decode cX2_layCourse 25 = .ok (.invokestatic 98, 3) := by decide +kernel
theorem dX2_layCourse_28 : decode cX2_layCourse 28 = .ok (.ifCond .ne 5, 3) := by decide +kernel
theorem dX2_layCourse_31 : decode cX2_layCourse 31 = .ok (.iconst (-1), 1) := by decide +kernel
theorem dX2_layCourse_32 : decode cX2_layCourse 32 = .ok (.ireturn, 1) := by decide +kernel
theorem dX2_layCourse_33 : decode cX2_layCourse 33 = .ok (.aload_n 0, 1) := by decide +kernel
theorem dX2_layCourse_34 : decode cX2_layCourse 34 = .ok (.getfield 19, 3) := by decide +kernel
theorem dX2_layCourse_37 : decode cX2_layCourse 37 = .ok (.iload_n 3, 1) := by decide +kernel
theorem dX2_layCourse_38 : decode cX2_layCourse 38 = .ok (.dup2, 1) := by decide +kernel
theorem dX2_layCourse_39 : decode cX2_layCourse 39 = .ok (.iaload, 1) := by decide +kernel
theorem dX2_layCourse_40 : decode cX2_layCourse 40 = .ok (.iload 4, 2) := by decide +kernel
theorem dX2_layCourse_42 : decode cX2_layCourse 42 = .ok (.isub, 1) := by decide +kernel
theorem dX2_layCourse_43 : decode cX2_layCourse 43 = .ok (.iastore, 1) := by decide +kernel
theorem dX2_layCourse_44 : decode cX2_layCourse 44 = .ok (.aload 6, 2) := by decide +kernel
theorem dX2_layCourse_46 : decode cX2_layCourse 46 = .ok (.iload 4, 2) := by decide +kernel
theorem dX2_layCourse_48 : decode cX2_layCourse 48 = .ok (.iconst 5, 1) := by decide +kernel
theorem dX2_layCourse_49 : decode cX2_layCourse 49 = .ok (.idiv, 1) := by decide +kernel
theorem dX2_layCourse_50 : decode cX2_layCourse 50 = .ok (.iconst 1, 1) := by decide +kernel
theorem dX2_layCourse_51 : decode cX2_layCourse 51 = .ok (.iadd, 1) := by decide +kernel
theorem dX2_layCourse_52 : decode cX2_layCourse 52 = .ok (.putfield 118, 3) := by decide +kernel
theorem dX2_layCourse_55 : decode cX2_layCourse 55 = .ok (.aload 6, 2) := by decide +kernel
theorem dX2_layCourse_57 : decode cX2_layCourse 57 = .ok (.dup, 1) := by decide +kernel
theorem dX2_layCourse_58 : decode cX2_layCourse 58 = .ok (.getfield 146, 3) := by decide +kernel
theorem dX2_layCourse_61 : decode cX2_layCourse 61 = .ok (.iload 4, 2) := by decide +kernel
theorem dX2_layCourse_63 : decode cX2_layCourse 63 = .ok (.iadd, 1) := by decide +kernel
theorem dX2_layCourse_64 : decode cX2_layCourse 64 = .ok (.putfield 146, 3) := by decide +kernel
theorem dX2_layCourse_67 : decode cX2_layCourse 67 = .ok (.aload 5, 2) := by decide +kernel
theorem dX2_layCourse_69 : decode cX2_layCourse 69 = .ok (.iload_n 3, 1) := by decide +kernel
theorem dX2_layCourse_70 : decode cX2_layCourse 70 = .ok (.iload 4, 2) := by decide +kernel
theorem dX2_layCourse_72 : decode cX2_layCourse 72 = .ok (.invokevirtual 149, 3) := by decide +kernel
theorem dX2_layCourse_75 : decode cX2_layCourse 75 = .ok (.ireturn, 1) := by decide +kernel
theorem dX2_takeCourse_0 : decode cX2_takeCourse 0 = .ok (.aload_n 1, 1) := by decide +kernel
theorem dX2_takeCourse_1 : decode cX2_takeCourse 1 = .ok (.getfield 134, 3) := by decide +kernel
theorem dX2_takeCourse_4 : decode cX2_takeCourse 4 = .ok (.iconst 1, 1) := by decide +kernel
theorem dX2_takeCourse_5 : decode cX2_takeCourse 5 = .ok (.isub, 1) := by decide +kernel
theorem dX2_takeCourse_6 : decode cX2_takeCourse 6 = .ok (.istore_n 2, 1) := by decide +kernel
theorem dX2_takeCourse_7 : decode cX2_takeCourse 7 = .ok (.aload_n 1, 1) := by decide +kernel
theorem dX2_takeCourse_8 : decode cX2_takeCourse 8 = .ok (.iload_n 2, 1) := by decide +kernel
theorem dX2_takeCourse_9 : decode cX2_takeCourse 9 = .ok (.invokevirtual 152, 3) := by decide +kernel
theorem dX2_takeCourse_12 : decode cX2_takeCourse 12 = .ok (.istore_n 3, 1) := by decide +kernel
theorem dX2_takeCourse_13 : decode cX2_takeCourse 13 = .ok (.aload_n 1, 1) := by decide +kernel
theorem dX2_takeCourse_14 : decode cX2_takeCourse 14 = .ok (.iload_n 2, 1) := by decide +kernel
theorem dX2_takeCourse_15 : decode cX2_takeCourse 15 = .ok (.invokevirtual 155, 3) := by decide +kernel
theorem dX2_takeCourse_18 : decode cX2_takeCourse 18 = .ok (.istore 4, 2) := by decide +kernel
theorem dX2_takeCourse_20 : decode cX2_takeCourse 20 = .ok (.iload 4, 2) := by decide +kernel
theorem dX2_takeCourse_22 : decode cX2_takeCourse 22 = .ok (.sipush 300, 3) := by decide +kernel
theorem dX2_takeCourse_25 : decode cX2_takeCourse 25 = .ok (.aload_n 0, 1) := by decide +kernel
theorem dX2_takeCourse_26 : decode cX2_takeCourse 26 = .ok (.iload_n 3, 1) := by decide +kernel
theorem dX2_takeCourse_27 : decode cX2_takeCourse 27 = .ok (.invokevirtual 102, 3) := by decide +kernel
theorem dX2_takeCourse_30 : decode cX2_takeCourse 30 = .ok (.isub, 1) := by decide +kernel
theorem dX2_takeCourse_31 : decode cX2_takeCourse 31 = .ok (.invokestatic 158, 3) := by decide +kernel
theorem dX2_takeCourse_34 : decode cX2_takeCourse 34 = .ok (.istore 5, 2) := by decide +kernel
theorem dX2_takeCourse_36 : decode cX2_takeCourse 36 = .ok (.iload_n 3, 1) := by decide +kernel
theorem dX2_takeCourse_37 : decode cX2_takeCourse 37 = .ok (.invokestatic 98, 3) := by decide +kernel
theorem dX2_takeCourse_40 : decode cX2_takeCourse 40 = .ok (.ifCond .eq 14, 3) := by decide +kernel
theorem dX2_takeCourse_43 : decode cX2_takeCourse 43 = .ok (.aload_n 0, 1) := by decide +kernel
theorem dX2_takeCourse_44 : decode cX2_takeCourse 44 = .ok (.getfield 19, 3) := by decide +kernel
theorem dX2_takeCourse_47 : decode cX2_takeCourse 47 = .ok (.iload_n 3, 1) := by decide +kernel
theorem dX2_takeCourse_48 : decode cX2_takeCourse 48 = .ok (.dup2, 1) := by decide +kernel
theorem dX2_takeCourse_49 : decode cX2_takeCourse 49 = .ok (.iaload, 1) := by decide +kernel
theorem dX2_takeCourse_50 : decode cX2_takeCourse 50 = .ok (.iload 5, 2) := by decide +kernel
theorem dX2_takeCourse_52 : decode cX2_takeCourse 52 = .ok (.iadd, 1) := by decide +kernel
theorem dX2_takeCourse_53 : decode cX2_takeCourse 53 = .ok (.iastore, 1) := by decide +kernel
theorem dX2_takeCourse_54 : decode cX2_takeCourse 54 = .ok (.aload_n 0, 1) := by decide +kernel
theorem dX2_takeCourse_55 : decode cX2_takeCourse 55 = .ok (.dup, 1) := by decide +kernel
theorem dX2_takeCourse_56 : decode cX2_takeCourse 56 = .ok (.getfield 86, 3) := by decide +kernel
theorem dX2_takeCourse_59 : decode cX2_takeCourse 59 = .ok (.iload 4, 2) := by decide +kernel
theorem dX2_takeCourse_61 : decode cX2_takeCourse 61 = .ok (.iload 5, 2) := by decide +kernel
theorem dX2_takeCourse_63 : decode cX2_takeCourse 63 = .ok (.isub, 1) := by decide +kernel
theorem dX2_takeCourse_64 : decode cX2_takeCourse 64 = .ok (.iadd, 1) := by decide +kernel
theorem dX2_takeCourse_65 : decode cX2_takeCourse 65 = .ok (.putfield 86, 3) := by decide +kernel
theorem dX2_takeCourse_68 : decode cX2_takeCourse 68 = .ok (.iload 4, 2) := by decide +kernel
theorem dX2_takeCourse_70 : decode cX2_takeCourse 70 = .ok (.ireturn, 1) := by decide +kernel
theorem dX2_placeOfBanquet_0 : decode cX2_placeOfBanquet 0 = .ok (.iconst 0, 1) := by decide +kernel
theorem dX2_placeOfBanquet_1 : decode cX2_placeOfBanquet 1 = .ok (.istore_n 2, 1) := by decide +kernel
theorem dX2_placeOfBanquet_2 : decode cX2_placeOfBanquet 2 = .ok (.iload_n 2, 1) := by decide +kernel
theorem dX2_placeOfBanquet_3 : decode cX2_placeOfBanquet 3 = .ok (.aload_n 0, 1) := by decide +kernel
theorem dX2_placeOfBanquet_4 : decode cX2_placeOfBanquet 4 = .ok (.getfield 68, 3) := by decide +kernel
theorem dX2_placeOfBanquet_7 : decode cX2_placeOfBanquet 7 = .ok (.if_icmp .ge 30, 3) := by decide +kernel
theorem dX2_placeOfBanquet_10 : decode cX2_placeOfBanquet 10 = .ok (.iload_n 2, 1) := by decide +kernel
theorem dX2_placeOfBanquet_11 : decode cX2_placeOfBanquet 11 = .ok (.bipush 6, 2) := by decide +kernel
theorem dX2_placeOfBanquet_13 : decode cX2_placeOfBanquet 13 = .ok (.if_icmp .ge 24, 3) := by decide +kernel
theorem dX2_placeOfBanquet_16 : decode cX2_placeOfBanquet 16 = .ok (.aload_n 0, 1) := by decide +kernel
theorem dX2_placeOfBanquet_17 : decode cX2_placeOfBanquet 17 = .ok (.getfield 39, 3) := by decide +kernel
theorem dX2_placeOfBanquet_20 : decode cX2_placeOfBanquet 20 = .ok (.iload_n 2, 1) := by decide +kernel
theorem dX2_placeOfBanquet_21 : decode cX2_placeOfBanquet 21 = .ok (.aaload, 1) := by decide +kernel
theorem dX2_placeOfBanquet_22 : decode cX2_placeOfBanquet 22 = .ok (.getfield 167, 3) := by decide +kernel
theorem dX2_placeOfBanquet_25 : decode cX2_placeOfBanquet 25 = .ok (.iload_n 1, 1) := by decide +kernel
theorem dX2_placeOfBanquet_26 : decode cX2_placeOfBanquet 26 = .ok (.if_icmp .ne 5, 3) := by decide +kernel
theorem dX2_placeOfBanquet_29 : decode cX2_placeOfBanquet 29 = .ok (.iload_n 2, 1) := by decide +kernel
theorem dX2_placeOfBanquet_30 : decode cX2_placeOfBanquet 30 = .ok (.ireturn, 1) := by decide +kernel
theorem dX2_placeOfBanquet_31 : decode cX2_placeOfBanquet 31 = .ok (.iinc 2 1, 3) := by decide +kernel
theorem dX2_placeOfBanquet_34 : decode cX2_placeOfBanquet 34 = .ok (.goto (-32), 3) := by decide +kernel
theorem dX2_placeOfBanquet_37 : decode cX2_placeOfBanquet 37 = .ok (.iconst (-1), 1) := by decide +kernel
theorem dX2_placeOfBanquet_38 : decode cX2_placeOfBanquet 38 = .ok (.ireturn, 1) := by decide +kernel
theorem dX2_banquetAt_0 : decode cX2_banquetAt 0 = .ok (.iload_n 1, 1) := by decide +kernel
theorem dX2_banquetAt_1 : decode cX2_banquetAt 1 = .ok (.ifCond .lt 26, 3) := by decide +kernel
theorem dX2_banquetAt_4 : decode cX2_banquetAt 4 = .ok (.iload_n 1, 1) := by decide +kernel
theorem dX2_banquetAt_5 : decode cX2_banquetAt 5 = .ok (.aload_n 0, 1) := by decide +kernel
theorem dX2_banquetAt_6 : decode cX2_banquetAt 6 = .ok (.getfield 68, 3) := by decide +kernel
theorem dX2_banquetAt_9 : decode cX2_banquetAt 9 = .ok (.if_icmp .ge 18, 3) := by decide +kernel
theorem dX2_banquetAt_12 : decode cX2_banquetAt 12 = .ok (.iload_n 1, 1) := by decide +kernel
theorem dX2_banquetAt_13 : decode cX2_banquetAt 13 = .ok (.bipush 6, 2) := by decide +kernel
theorem dX2_banquetAt_15 : decode cX2_banquetAt 15 = .ok (.if_icmp .ge 12, 3) := by decide +kernel
theorem dX2_banquetAt_18 : decode cX2_banquetAt 18 = .ok (.aload_n 0, 1) := by decide +kernel
theorem dX2_banquetAt_19 : decode cX2_banquetAt 19 = .ok (.getfield 39, 3) := by decide +kernel
theorem dX2_banquetAt_22 : decode cX2_banquetAt 22 = .ok (.iload_n 1, 1) := by decide +kernel
theorem dX2_banquetAt_23 : decode cX2_banquetAt 23 = .ok (.aaload, 1) := by decide +kernel
theorem dX2_banquetAt_24 : decode cX2_banquetAt 24 = .ok (.goto 4, 3) := by decide +kernel
theorem dX2_banquetAt_27 : decode cX2_banquetAt 27 = .ok (.aconst_null, 1) := by decide +kernel
theorem dX2_banquetAt_28 : decode cX2_banquetAt 28 = .ok (.areturn, 1) := by decide +kernel
theorem dX2_reasonAgainstBanquet_0 : decode cX2_reasonAgainstBanquet 0 = .ok (.aload_n 0, 1) := by decide +kernel
theorem dX2_reasonAgainstBanquet_1 : decode cX2_reasonAgainstBanquet 1 = .ok (.getfield 68, 3) := by decide +kernel
theorem dX2_reasonAgainstBanquet_4 : decode cX2_reasonAgainstBanquet 4 = .ok (.bipush 6, 2) := by decide +kernel
theorem dX2_reasonAgainstBanquet_6 : decode cX2_reasonAgainstBanquet 6 = .ok (.if_icmp .lt 11, 3) := by decide +kernel
theorem dX2_reasonAgainstBanquet_9 : decode cX2_reasonAgainstBanquet 9 = .ok (.aload_n 1, 1) := by decide +kernel
theorem dX2_reasonAgainstBanquet_10 : decode cX2_reasonAgainstBanquet 10 = .ok (.iconst 1, 1) := by decide +kernel
theorem dX2_reasonAgainstBanquet_11 : decode cX2_reasonAgainstBanquet 11 = .ok (.bipush 6, 2) := by decide +kernel
theorem dX2_reasonAgainstBanquet_13 : decode cX2_reasonAgainstBanquet 13 = .ok (.invokevirtual 106, 3) := by decide +kernel
theorem dX2_reasonAgainstBanquet_16 : decode cX2_reasonAgainstBanquet 16 = .ok (.ireturn, 1) := by decide +kernel
theorem dX2_reasonAgainstBanquet_17 : decode cX2_reasonAgainstBanquet 17 = .ok (.iload_n 2, 1) := by decide +kernel
theorem dX2_reasonAgainstBanquet_18 : decode cX2_reasonAgainstBanquet 18 = .ok (.aload_n 0, 1) := by decide +kernel
theorem dX2_reasonAgainstBanquet_19 : decode cX2_reasonAgainstBanquet 19 = .ok (.getfield 46, 3) := by decide +kernel
theorem dX2_reasonAgainstBanquet_22 : decode cX2_reasonAgainstBanquet 22 = .ok (.if_icmp .gt 16, 3) := by decide +kernel
theorem dX2_reasonAgainstBanquet_25 : decode cX2_reasonAgainstBanquet 25 = .ok (.aload_n 1, 1) := by decide +kernel
theorem dX2_reasonAgainstBanquet_26 : decode cX2_reasonAgainstBanquet 26 = .ok (.bipush 10, 2) := by decide +kernel
theorem dX2_reasonAgainstBanquet_28 : decode cX2_reasonAgainstBanquet 28 = .ok (.aload_n 0, 1) := by decide +kernel
theorem dX2_reasonAgainstBanquet_29 : decode cX2_reasonAgainstBanquet 29 = .ok (.getfield 46, 3) := by decide +kernel
theorem dX2_reasonAgainstBanquet_32 : decode cX2_reasonAgainstBanquet 32 = .ok (.invokevirtual 106, 3) := by decide +kernel
theorem dX2_reasonAgainstBanquet_35 : decode cX2_reasonAgainstBanquet 35 = .ok (.goto 4, 3) := by decide +kernel
theorem dX2_reasonAgainstBanquet_38 : decode cX2_reasonAgainstBanquet 38 = .ok (.iconst 0, 1) := by decide +kernel
theorem dX2_reasonAgainstBanquet_39 : decode cX2_reasonAgainstBanquet 39 = .ok (.ireturn, 1) := by decide +kernel
theorem dX2_addBanquet_0 : decode cX2_addBanquet 0 = .ok (.aload_n 0, 1) := by decide +kernel
theorem dX2_addBanquet_1 : decode cX2_addBanquet 1 = .ok (.getfield 74, 3) := by decide +kernel
theorem dX2_addBanquet_4 : decode cX2_addBanquet 4 = .ok (.istore 4, 2) := by decide +kernel
theorem dX2_addBanquet_6 : decode cX2_addBanquet 6 = .ok (.aload_n 0, 1) := by decide +kernel
theorem dX2_addBanquet_7 : decode cX2_addBanquet 7 = .ok (.getfield 68, 3) := by decide +kernel
theorem dX2_addBanquet_10 : decode cX2_addBanquet 10 = .ok (.ifCond .lt 49, 3) := by decide +kernel
theorem dX2_addBanquet_13 : decode cX2_addBanquet 13 = .ok (.aload_n 0, 1) := by decide +kernel
theorem dX2_addBanquet_14 : decode cX2_addBanquet 14 = .ok (.getfield 68, 3) := by decide +kernel
theorem dX2_addBanquet_17 : decode cX2_addBanquet 17 = .ok (.bipush 6, 2) := by decide +kernel
theorem dX2_addBanquet_19 : decode cX2_addBanquet 19 = .ok (.if_icmp .ge 40, 3) := by decide +kernel
theorem dX2_addBanquet_22 : decode cX2_addBanquet 22 = .ok (.aload_n 0, 1) := by decide +kernel
theorem dX2_addBanquet_23 : decode cX2_addBanquet 23 = .ok (.getfield 39, 3) := by decide +kernel
theorem dX2_addBanquet_26 : decode cX2_addBanquet 26 = .ok (.aload_n 0, 1) := by decide +kernel
theorem dX2_addBanquet_27 : decode cX2_addBanquet 27 = .ok (.getfield 68, 3) := by decide +kernel
theorem dX2_addBanquet_30 : decode cX2_addBanquet 30 = .ok (.aaload, 1) := by decide +kernel
theorem dX2_addBanquet_31 : decode cX2_addBanquet 31 = .ok (.iload 4, 2) := by decide +kernel
theorem dX2_addBanquet_33 : decode cX2_addBanquet 33 = .ok (.iload_n 1, 1) := by decide +kernel
theorem dX2_addBanquet_34 : decode cX2_addBanquet 34 = .ok (.iload_n 2, 1) := by decide +kernel
theorem dX2_addBanquet_35 : decode cX2_addBanquet 35 = .ok (.iload_n 3, 1) := by decide +kernel
theorem dX2_addBanquet_36 : decode cX2_addBanquet 36 = .ok (.invokevirtual 170, 3) := by decide +kernel
theorem dX2_addBanquet_39 : decode cX2_addBanquet 39 = .ok (.aload_n 0, 1) := by decide +kernel
theorem dX2_addBanquet_40 : decode cX2_addBanquet 40 = .ok (.dup, 1) := by decide +kernel
theorem dX2_addBanquet_41 : decode cX2_addBanquet 41 = .ok (.getfield 68, 3) := by decide +kernel
theorem dX2_addBanquet_44 : decode cX2_addBanquet 44 = .ok (.iconst 1, 1) := by decide +kernel
theorem dX2_addBanquet_45 : decode cX2_addBanquet 45 = .ok (.iadd, 1) := by decide +kernel
theorem dX2_addBanquet_46 : decode cX2_addBanquet 46 = .ok (.putfield 68, 3) := by decide +kernel
theorem dX2_addBanquet_49 : decode cX2_addBanquet 49 = .ok (.aload_n 0, 1) := by decide +kernel
theorem dX2_addBanquet_50 : decode cX2_addBanquet 50 = .ok (.dup, 1) := by decide +kernel
theorem dX2_addBanquet_51 : decode cX2_addBanquet 51 = .ok (.getfield 74, 3) := by decide +kernel
theorem dX2_addBanquet_54 : decode cX2_addBanquet 54 = .ok (.iconst 1, 1) := by decide +kernel
theorem dX2_addBanquet_55 : decode cX2_addBanquet 55 = .ok (.iadd, 1) := by decide +kernel
theorem dX2_addBanquet_56 : decode cX2_addBanquet 56 = .ok (.putfield 74, 3) := by decide +kernel
theorem dX2_addBanquet_59 : decode cX2_addBanquet 59 = .ok (.iload 4, 2) := by decide +kernel
theorem dX2_addBanquet_61 : decode cX2_addBanquet 61 = .ok (.ireturn, 1) := by decide +kernel
theorem dX2_dropBanquet_0 : decode cX2_dropBanquet 0 = .ok (.aload_n 0, 1) := by decide +kernel
theorem dX2_dropBanquet_1 : decode cX2_dropBanquet 1 = .ok (.iload_n 1, 1) := by decide +kernel
theorem dX2_dropBanquet_2 : decode cX2_dropBanquet 2 = .ok (.invokevirtual 173, 3) := by decide +kernel
theorem dX2_dropBanquet_5 : decode cX2_dropBanquet 5 = .ok (.ifnonnull 4, 3) := by decide +kernel
theorem dX2_dropBanquet_8 : decode cX2_dropBanquet 8 = .ok (.return_, 1) := by decide +kernel
theorem dX2_dropBanquet_9 : decode cX2_dropBanquet 9 = .ok (.iload_n 1, 1) := by decide +kernel
theorem dX2_dropBanquet_10 : decode cX2_dropBanquet 10 = .ok (.istore_n 2, 1) := by decide +kernel
theorem dX2_dropBanquet_11 : decode cX2_dropBanquet 11 = .ok (.iload_n 2, 1) := by decide +kernel
theorem dX2_dropBanquet_12 : decode cX2_dropBanquet 12 = .ok (.aload_n 0, 1) := by decide +kernel
theorem dX2_dropBanquet_13 : decode cX2_dropBanquet 13 = .ok (.getfield 68, 3) := by decide +kernel
theorem dX2_dropBanquet_16 : decode cX2_dropBanquet 16 = .ok (.iconst 1, 1) := by decide +kernel
theorem dX2_dropBanquet_17 : decode cX2_dropBanquet 17 = .ok (.isub, 1) := by decide +kernel
theorem dX2_dropBanquet_18 : decode cX2_dropBanquet 18 = .ok (.if_icmp .ge 31, 3) := by decide +kernel
theorem dX2_dropBanquet_21 : decode cX2_dropBanquet 21 = .ok (.iload_n 2, 1) := by decide +kernel
theorem dX2_dropBanquet_22 : decode cX2_dropBanquet 22 = .ok (.iconst 5, 1) := by decide +kernel
theorem dX2_dropBanquet_23 : decode cX2_dropBanquet 23 = .ok (.if_icmp .ge 26, 3) := by decide +kernel
theorem dX2_dropBanquet_26 : decode cX2_dropBanquet 26 = .ok (.aload_n 0, 1) := by decide +kernel
theorem dX2_dropBanquet_27 : decode cX2_dropBanquet 27 = .ok (.getfield 39, 3) := by decide +kernel
theorem dX2_dropBanquet_30 : decode cX2_dropBanquet 30 = .ok (.iload_n 2, 1) := by decide +kernel
theorem dX2_dropBanquet_31 : decode cX2_dropBanquet 31 = .ok (.aaload, 1) := by decide +kernel
theorem dX2_dropBanquet_32 : decode cX2_dropBanquet 32 = .ok (.aload_n 0, 1) := by decide +kernel
theorem dX2_dropBanquet_33 : decode cX2_dropBanquet 33 = .ok (.getfield 39, 3) := by decide +kernel
theorem dX2_dropBanquet_36 : decode cX2_dropBanquet 36 = .ok (.iload_n 2, 1) := by decide +kernel
theorem dX2_dropBanquet_37 : decode cX2_dropBanquet 37 = .ok (.iconst 1, 1) := by decide +kernel
theorem dX2_dropBanquet_38 : decode cX2_dropBanquet 38 = .ok (.iadd, 1) := by decide +kernel
theorem dX2_dropBanquet_39 : decode cX2_dropBanquet 39 = .ok (.aaload, 1) := by decide +kernel
theorem dX2_dropBanquet_40 : decode cX2_dropBanquet 40 = .ok (.invokevirtual 71, 3) := by decide +kernel
theorem dX2_dropBanquet_43 : decode cX2_dropBanquet 43 = .ok (.iinc 2 1, 3) := by decide +kernel
theorem dX2_dropBanquet_46 : decode cX2_dropBanquet 46 = .ok (.goto (-35), 3) := by decide +kernel
theorem dX2_dropBanquet_49 : decode cX2_dropBanquet 49 = .ok (.aload_n 0, 1) := by decide +kernel
theorem dX2_dropBanquet_50 : decode cX2_dropBanquet 50 = .ok (.dup, 1) := by decide +kernel
theorem dX2_dropBanquet_51 : decode cX2_dropBanquet 51 = .ok (.getfield 68, 3) := by decide +kernel
theorem dX2_dropBanquet_54 : decode cX2_dropBanquet 54 = .ok (.iconst 1, 1) := by decide +kernel
theorem dX2_dropBanquet_55 : decode cX2_dropBanquet 55 = .ok (.isub, 1) := by decide +kernel
theorem dX2_dropBanquet_56 : decode cX2_dropBanquet 56 = .ok (.putfield 68, 3) := by decide +kernel
theorem dX2_dropBanquet_59 : decode cX2_dropBanquet 59 = .ok (.return_, 1) := by decide +kernel
theorem dX2_missingCourses_0 : decode cX2_missingCourses 0 = .ok (.aload_n 0, 1) := by decide +kernel
theorem dX2_missingCourses_1 : decode cX2_missingCourses 1 = .ok (.aload_n 1, 1) := by decide +kernel
theorem dX2_missingCourses_2 : decode cX2_missingCourses 2 = .ok (.getfield 177, 3) := by decide +kernel
theorem dX2_missingCourses_5 : decode cX2_missingCourses 5 = .ok (.invokevirtual 126, 3) := by decide +kernel
theorem dX2_missingCourses_8 : decode cX2_missingCourses 8 = .ok (.astore_n 2, 1) := by decide +kernel
theorem dX2_missingCourses_9 : decode cX2_missingCourses 9 = .ok (.aload_n 2, 1) := by decide +kernel
theorem dX2_missingCourses_10 : decode cX2_missingCourses 10 = .ok (.ifnonnull 7, 3) := by decide +kernel
theorem dX2_missingCourses_13 : decode cX2_missingCourses 13 = .ok (.iconst 0, 1) := by decide +kernel
theorem dX2_missingCourses_14 : decode cX2_missingCourses 14 = .ok (.goto 7, 3) := by decide +kernel
theorem dX2_missingCourses_17 : decode cX2_missingCourses 17 = .ok (.aload_n 2, 1) := by decide +kernel
theorem dX2_missingCourses_18 : decode cX2_missingCourses 18 = .ok (.getfield 134, 3) := by decide +kernel
theorem dX2_missingCourses_21 : decode cX2_missingCourses 21 = .ok (.istore_n 3, 1) := by decide +kernel
theorem dX2_missingCourses_22 : decode cX2_missingCourses 22 = .ok (.iconst 0, 1) := by decide +kernel
theorem dX2_missingCourses_23 : decode cX2_missingCourses 23 = .ok (.aload_n 1, 1) := by decide +kernel
theorem dX2_missingCourses_24 : decode cX2_missingCourses 24 = .ok (.getfield 180, 3) := by decide +kernel
theorem dX2_missingCourses_27 : decode cX2_missingCourses 27 = .ok (.iload_n 3, 1) := by decide +kernel
theorem dX2_missingCourses_28 : decode cX2_missingCourses 28 = .ok (.isub, 1) := by decide +kernel
theorem dX2_missingCourses_29 : decode cX2_missingCourses 29 = .ok (.invokestatic 183, 3) := by decide +kernel
theorem dX2_missingCourses_32 : decode cX2_missingCourses 32 = .ok (.ireturn, 1) := by decide +kernel
theorem dX2_banquetsWith_0 : decode cX2_banquetsWith 0 = .ok (.iconst 0, 1) := by decide +kernel
theorem dX2_banquetsWith_1 : decode cX2_banquetsWith 1 = .ok (.istore_n 2, 1) := by decide +kernel
theorem dX2_banquetsWith_2 : decode cX2_banquetsWith 2 = .ok (.iconst 0, 1) := by decide +kernel
theorem dX2_banquetsWith_3 : decode cX2_banquetsWith 3 = .ok (.istore_n 3, 1) := by decide +kernel
theorem dX2_banquetsWith_4 : decode cX2_banquetsWith 4 = .ok (.iload_n 3, 1) := by decide +kernel
theorem dX2_banquetsWith_5 : decode cX2_banquetsWith 5 = .ok (.aload_n 0, 1) := by decide +kernel
theorem dX2_banquetsWith_6 : decode cX2_banquetsWith 6 = .ok (.getfield 68, 3) := by decide +kernel
theorem dX2_banquetsWith_9 : decode cX2_banquetsWith 9 = .ok (.if_icmp .ge 36, 3) := by decide +kernel
theorem dX2_banquetsWith_12 : decode cX2_banquetsWith 12 = .ok (.iload_n 3, 1) := by decide +kernel
theorem dX2_banquetsWith_13 : decode cX2_banquetsWith 13 = .ok (.bipush 6, 2) := by decide +kernel
theorem dX2_banquetsWith_15 : decode cX2_banquetsWith 15 = .ok (.if_icmp .ge 30, 3) := by decide +kernel
theorem dX2_banquetsWith_18 : decode cX2_banquetsWith 18 = .ok (.iload_n 2, 1) := by decide +kernel
theorem dX2_banquetsWith_19 : decode cX2_banquetsWith 19 = .ok (.aload_n 0, 1) := by decide +kernel
theorem dX2_banquetsWith_20 : decode cX2_banquetsWith 20 = .ok (.getfield 39, 3) := by decide +kernel
theorem dX2_banquetsWith_23 : decode cX2_banquetsWith 23 = .ok (.iload_n 3, 1) := by decide +kernel
theorem dX2_banquetsWith_24 : decode cX2_banquetsWith 24 = .ok (.aaload, 1) := by decide +kernel
theorem dX2_banquetsWith_25 : decode cX2_banquetsWith 25 = .ok (.getfield 177, 3) := by decide +kernel
theorem dX2_banquetsWith_28 : decode cX2_banquetsWith 28 = .ok (.iload_n 1, 1) := by decide +kernel
theorem dX2_banquetsWith_29 : decode cX2_banquetsWith 29 = .ok (.if_icmp .ne 7, 3) := by decide +kernel
theorem dX2_banquetsWith_32 : decode cX2_banquetsWith 32 = .ok (.iconst 1, 1) := by decide +kernel
theorem dX2_banquetsWith_33 : decode cX2_banquetsWith 33 = .ok (.goto 4, 3) := by decide +kernel
theorem dX2_banquetsWith_36 : decode cX2_banquetsWith 36 = .ok (.iconst 0, 1) := by decide +kernel
theorem dX2_banquetsWith_37 : decode cX2_banquetsWith 37 = .ok (.iadd, 1) := by decide +kernel
theorem dX2_banquetsWith_38 : decode cX2_banquetsWith 38 = .ok (.istore_n 2, 1) := by decide +kernel
theorem dX2_banquetsWith_39 : decode cX2_banquetsWith 39 = .ok (.iinc 3 1, 3) := by decide +kernel
theorem dX2_banquetsWith_42 : decode cX2_banquetsWith 42 = .ok (.goto (-38), 3) := by decide +kernel
theorem dX2_banquetsWith_45 : decode cX2_banquetsWith 45 = .ok (.iload_n 2, 1) := by decide +kernel
theorem dX2_banquetsWith_46 : decode cX2_banquetsWith 46 = .ok (.ireturn, 1) := by decide +kernel
theorem dX2_letHoursGoBy_0 : decode cX2_letHoursGoBy 0 = .ok (.iconst 0, 1) := by decide +kernel
theorem dX2_letHoursGoBy_1 : decode cX2_letHoursGoBy 1 = .ok (.istore_n 2, 1) := by decide +kernel
theorem dX2_letHoursGoBy_2 : decode cX2_letHoursGoBy 2 = .ok (.iconst 0, 1) := by decide +kernel
theorem dX2_letHoursGoBy_3 : decode cX2_letHoursGoBy 3 = .ok (.istore_n 3, 1) := by decide +kernel
theorem dX2_letHoursGoBy_4 : decode cX2_letHoursGoBy 4 = .ok (.iload_n 3, 1) := by decide +kernel
theorem dX2_letHoursGoBy_5 : decode cX2_letHoursGoBy 5 = .ok (.iload_n 1, 1) := by decide +kernel
theorem dX2_letHoursGoBy_6 : decode cX2_letHoursGoBy 6 = .ok (.if_icmp .ge 42, 3) := by decide +kernel
theorem dX2_letHoursGoBy_9 : decode cX2_letHoursGoBy 9 = .ok (.aload_n 0, 1) := by decide +kernel
theorem dX2_letHoursGoBy_10 : decode cX2_letHoursGoBy 10 = .ok (.invokevirtual 187, 3) := by decide +kernel
theorem dX2_letHoursGoBy_13 : decode cX2_letHoursGoBy 13 = .ok (.iload_n 2, 1) := by decide +kernel
theorem dX2_letHoursGoBy_14 : decode cX2_letHoursGoBy 14 = .ok (.aload_n 0, 1) := by decide +kernel
theorem dX2_letHoursGoBy_15 : decode cX2_letHoursGoBy 15 = .ok (.invokevirtual 190, 3) := by decide +kernel
theorem dX2_letHoursGoBy_18 : decode cX2_letHoursGoBy 18 = .ok (.iadd, 1) := by decide +kernel
theorem dX2_letHoursGoBy_19 : decode cX2_letHoursGoBy 19 = .ok (.istore_n 2, 1) := by decide +kernel
theorem dX2_letHoursGoBy_20 : decode cX2_letHoursGoBy 20 = .ok (.aload_n 0, 1) := by decide +kernel
theorem dX2_letHoursGoBy_21 : decode cX2_letHoursGoBy 21 = .ok (.invokevirtual 194, 3) := by decide +kernel
theorem dX2_letHoursGoBy_24 : decode cX2_letHoursGoBy 24 = .ok (.aload_n 0, 1) := by decide +kernel
theorem dX2_letHoursGoBy_25 : decode cX2_letHoursGoBy 25 = .ok (.dup, 1) := by decide +kernel
theorem dX2_letHoursGoBy_26 : decode cX2_letHoursGoBy 26 = .ok (.getfield 46, 3) := by decide +kernel
theorem dX2_letHoursGoBy_29 : decode cX2_letHoursGoBy 29 = .ok (.iconst 1, 1) := by decide +kernel
theorem dX2_letHoursGoBy_30 : decode cX2_letHoursGoBy 30 = .ok (.iadd, 1) := by decide +kernel
theorem dX2_letHoursGoBy_31 : decode cX2_letHoursGoBy 31 = .ok (.putfield 46, 3) := by decide +kernel
theorem dX2_letHoursGoBy_34 : decode cX2_letHoursGoBy 34 = .ok (.aload_n 0, 1) := by decide +kernel
theorem dX2_letHoursGoBy_35 : decode cX2_letHoursGoBy 35 = .ok (.invokevirtual 197, 3) := by decide +kernel
theorem dX2_letHoursGoBy_38 : decode cX2_letHoursGoBy 38 = .ok (.aload_n 0, 1) := by decide +kernel
theorem dX2_letHoursGoBy_39 : decode cX2_letHoursGoBy 39 = .ok (.invokevirtual 200, 3) := by decide +kernel
theorem dX2_letHoursGoBy_42 : decode cX2_letHoursGoBy 42 = .ok (.iinc 3 1, 3) := by decide +kernel
theorem dX2_letHoursGoBy_45 : decode cX2_letHoursGoBy 45 = .ok (.goto (-41), 3) := by decide +kernel
theorem dX2_letHoursGoBy_48 : decode cX2_letHoursGoBy 48 = .ok (.iload_n 2, 1) := by decide +kernel
theorem dX2_letHoursGoBy_49 : decode cX2_letHoursGoBy 49 = .ok (.ireturn, 1) := by decide +kernel
theorem dX2_makeTowersDamp_0 : decode cX2_makeTowersDamp 0 = .ok (.aload_n 0, 1) := by decide +kernel
theorem dX2_makeTowersDamp_1 : decode cX2_makeTowersDamp 1 = .ok (.iconst 0, 1) := by decide +kernel
theorem dX2_makeTowersDamp_2 : decode cX2_makeTowersDamp 2 = .ok (.invokevirtual 161, 3) := by decide +kernel
theorem dX2_makeTowersDamp_5 : decode cX2_makeTowersDamp 5 = .ok (.istore_n 1, 1) := by decide +kernel
theorem dX2_makeTowersDamp_6 : decode cX2_makeTowersDamp 6 = .ok (.iconst 0, 1) := by decide +kernel
theorem dX2_makeTowersDamp_7 : decode cX2_makeTowersDamp 7 = .ok (.istore_n 2, 1) := by decide +kernel
theorem dX2_makeTowersDamp_8 : decode cX2_makeTowersDamp 8 = .ok (.iload_n 2, 1) := by decide +kernel
theorem dX2_makeTowersDamp_9 : decode cX2_makeTowersDamp 9 = .ok (.aload_n 0, 1) := by decide +kernel
theorem dX2_makeTowersDamp_10 : decode cX2_makeTowersDamp 10 = .ok (.getfield 62, 3) := by decide +kernel
theorem dX2_makeTowersDamp_13 : decode cX2_makeTowersDamp 13 = .ok (.if_icmp .ge 37, 3) := by decide +kernel
theorem dX2_makeTowersDamp_16 : decode cX2_makeTowersDamp 16 = .ok (.iload_n 2, 1) := by decide +kernel
theorem dX2_makeTowersDamp_17 : decode cX2_makeTowersDamp 17 = .ok (.bipush 6, 2) := by decide +kernel
theorem dX2_makeTowersDamp_19 : decode cX2_makeTowersDamp 19 = .ok (.if_icmp .ge 31, 3) := by decide +kernel
theorem dX2_makeTowersDamp_22 : decode cX2_makeTowersDamp 22 = .ok (.aload_n 0, 1) := by decide +kernel
theorem dX2_makeTowersDamp_23 : decode cX2_makeTowersDamp 23 = .ok (.getfield 33, 3) := by decide +kernel
theorem dX2_makeTowersDamp_26 : decode cX2_makeTowersDamp 26 = .ok (.iload_n 2, 1) := by decide +kernel
theorem dX2_makeTowersDamp_27 : decode cX2_makeTowersDamp 27 = .ok (.aaload, 1) := by decide +kernel
theorem dX2_makeTowersDamp_28 : decode cX2_makeTowersDamp 28 = .ok (.aload_n 0, 1) := by decide +kernel
theorem dX2_makeTowersDamp_29 : decode cX2_makeTowersDamp 29 = .ok (.getfield 33, 3) := by decide +kernel
theorem dX2_makeTowersDamp_32 : decode cX2_makeTowersDamp 32 = .ok (.iload_n 2, 1) := by decide +kernel
theorem dX2_makeTowersDamp_33 : decode cX2_makeTowersDamp 33 = .ok (.aaload, 1) := by decide +kernel
theorem dX2_makeTowersDamp_34 : decode cX2_makeTowersDamp 34 = .ok (.getfield 140, 3) := by decide +kernel
theorem dX2_makeTowersDamp_37 : decode cX2_makeTowersDamp 37 = .ok (.iload_n 1, 1) := by decide +kernel
theorem dX2_makeTowersDamp_38 : decode cX2_makeTowersDamp 38 = .ok (.invokestatic 164, 3) := by decide +kernel
theorem dX2_makeTowersDamp_41 : decode cX2_makeTowersDamp 41 = .ok (.putfield 140, 3) := by decide +kernel
theorem dX2_makeTowersDamp_44 : decode cX2_makeTowersDamp 44 = .ok (.iinc 2 1, 3) := by decide +kernel
theorem dX2_makeTowersDamp_47 : decode cX2_makeTowersDamp 47 = .ok (.goto (-39), 3) := by decide +kernel
theorem dX2_makeTowersDamp_50 : decode cX2_makeTowersDamp 50 = .ok (.return_, 1) := by decide +kernel
theorem dX2_breakWeakTowers_0 : decode cX2_breakWeakTowers 0 = .ok (.iconst 0, 1) := by decide +kernel
theorem dX2_breakWeakTowers_1 : decode cX2_breakWeakTowers 1 = .ok (.istore_n 1, 1) := by decide +kernel
theorem dX2_breakWeakTowers_2 : decode cX2_breakWeakTowers 2 = .ok (.iconst 0, 1) := by decide +kernel
theorem dX2_breakWeakTowers_3 : decode cX2_breakWeakTowers 3 = .ok (.istore_n 2, 1) := by decide +kernel
theorem dX2_breakWeakTowers_4 : decode cX2_breakWeakTowers 4 = .ok (.iload_n 2, 1) := by decide +kernel
theorem dX2_breakWeakTowers_5 : decode cX2_breakWeakTowers 5 = .ok (.aload_n 0, 1) := by decide +kernel
theorem dX2_breakWeakTowers_6 : decode cX2_breakWeakTowers 6 = .ok (.getfield 62, 3) := by decide +kernel
theorem dX2_breakWeakTowers_9 : decode cX2_breakWeakTowers 9 = .ok (.if_icmp .ge 79, 3) := by decide +kernel
theorem dX2_breakWeakTowers_12 : decode cX2_breakWeakTowers 12 = .ok (.iload_n 2, 1) := by decide +kernel
theorem dX2_breakWeakTowers_13 : decode cX2_breakWeakTowers 13 = .ok (.bipush 6, 2) := by decide +kernel
theorem dX2_breakWeakTowers_15 : decode cX2_breakWeakTowers 15 = .ok (.if_icmp .ge 73, 3) := by decide +kernel
theorem dX2_breakWeakTowers_18 : decode cX2_breakWeakTowers 18 = .ok (.aload_n 0, 1) := by decide +kernel
theorem dX2_breakWeakTowers_19 : decode cX2_breakWeakTowers 19 = .ok (.getfield 33, 3) := by decide +kernel
theorem dX2_breakWeakTowers_22 : decode cX2_breakWeakTowers 22 = .ok (.iload_n 2, 1) := by decide +kernel
theorem dX2_breakWeakTowers_23 : decode cX2_breakWeakTowers 23 = .ok (.aaload, 1) := by decide +kernel
theorem dX2_breakWeakTowers_24 : decode cX2_breakWeakTowers 24 = .ok (.astore_n 3, 1) := by decide +kernel
theorem dX2_breakWeakTowers_25 : decode cX2_breakWeakTowers 25 = .ok (.aload_n 3, 1) := by decide +kernel
theorem dX2_breakWeakTowers_26 : decode cX2_breakWeakTowers 26 = .ok (.aload_n 3, 1) := by decide +kernel
theorem dX2_breakWeakTowers_27 : decode cX2_breakWeakTowers 27 = .ok (.getfield 140, 3) := by decide +kernel
theorem dX2_breakWeakTowers_30 : decode cX2_breakWeakTowers 30 = .ok (.iconst 0, 1) := by decide +kernel
theorem dX2_breakWeakTowers_31 : decode cX2_breakWeakTowers 31 = .ok (.invokevirtual 143, 3) := by decide +kernel
theorem dX2_breakWeakTowers_34 : decode cX2_breakWeakTowers 34 = .ok (.istore 4, 2) := by decide +kernel
theorem dX2_breakWeakTowers_36 : decode cX2_breakWeakTowers 36 = .ok (.iload 4, 2) := by decide +kernel
theorem dX2_breakWeakTowers_38 : decode cX2_breakWeakTowers 38 = .ok (.iconst (-1), 1) := by decide +kernel
theorem dX2_breakWeakTowers_39 : decode cX2_breakWeakTowers 39 = .ok (.if_icmp .eq 43, 3) := by decide +kernel
theorem dX2_breakWeakTowers_42 : decode cX2_breakWeakTowers 42 = .ok (.aload_n 3, 1) := by decide +kernel
theorem dX2_breakWeakTowers_43 : decode cX2_breakWeakTowers 43 = .ok (.getfield 134, 3) := by decide +kernel
theorem dX2_breakWeakTowers_46 : decode cX2_breakWeakTowers 46 = .ok (.iload 4, 2) := by decide +kernel
theorem dX2_breakWeakTowers_48 : decode cX2_breakWeakTowers 48 = .ok (.isub, 1) := by decide +kernel
theorem dX2_breakWeakTowers_49 : decode cX2_breakWeakTowers 49 = .ok (.istore 5, 2) := by decide +kernel
theorem dX2_breakWeakTowers_51 : decode cX2_breakWeakTowers 51 = .ok (.aload_n 3, 1) := by decide +kernel
theorem dX2_breakWeakTowers_52 : decode cX2_breakWeakTowers 52 = .ok (.dup, 1) := by decide +kernel
theorem dX2_breakWeakTowers_53 : decode cX2_breakWeakTowers 53 = .ok (.getfield 203, 3) := by decide +kernel
theorem dX2_breakWeakTowers_56 : decode cX2_breakWeakTowers 56 = .ok (.iload 5, 2) := by decide +kernel
theorem dX2_breakWeakTowers_58 : decode cX2_breakWeakTowers 58 = .ok (.iadd, 1) := by decide +kernel
theorem dX2_breakWeakTowers_59 : decode cX2_breakWeakTowers 59 = .ok (.putfield 203, 3) := by decide +kernel
theorem dX2_breakWeakTowers_62 : decode cX2_breakWeakTowers 62 = .ok (.iload_n 1, 1) := by decide +kernel
theorem dX2_breakWeakTowers_63 : decode cX2_breakWeakTowers 63 = .ok (.iload 5, 2) := by decide +kernel
theorem dX2_breakWeakTowers_65 : decode cX2_breakWeakTowers 65 = .ok (.iadd, 1) := by decide +kernel
theorem dX2_breakWeakTowers_66 : decode cX2_breakWeakTowers 66 = .ok (.istore_n 1, 1) := by decide +kernel
theorem dX2_breakWeakTowers_67 : decode cX2_breakWeakTowers 67 = .ok (.aload_n 0, 1) := by decide +kernel
theorem dX2_breakWeakTowers_68 : decode cX2_breakWeakTowers 68 = .ok (.dup, 1) := by decide +kernel
theorem dX2_breakWeakTowers_69 : decode cX2_breakWeakTowers 69 = .ok (.getfield 86, 3) := by decide +kernel
theorem dX2_breakWeakTowers_72 : decode cX2_breakWeakTowers 72 = .ok (.aload_n 3, 1) := by decide +kernel
theorem dX2_breakWeakTowers_73 : decode cX2_breakWeakTowers 73 = .ok (.iload 4, 2) := by decide +kernel
theorem dX2_breakWeakTowers_75 : decode cX2_breakWeakTowers 75 = .ok (.invokevirtual 155, 3) := by decide +kernel
theorem dX2_breakWeakTowers_78 : decode cX2_breakWeakTowers 78 = .ok (.iadd, 1) := by decide +kernel
theorem dX2_breakWeakTowers_79 : decode cX2_breakWeakTowers 79 = .ok (.putfield 86, 3) := by decide +kernel
theorem dX2_breakWeakTowers_82 : decode cX2_breakWeakTowers 82 = .ok (.iinc 2 1, 3) := by decide +kernel
theorem dX2_breakWeakTowers_85 : decode cX2_breakWeakTowers 85 = .ok (.goto (-81), 3) := by decide +kernel
theorem dX2_breakWeakTowers_88 : decode cX2_breakWeakTowers 88 = .ok (.iload_n 1, 1) := by decide +kernel
theorem dX2_breakWeakTowers_89 : decode cX2_breakWeakTowers 89 = .ok (.ireturn, 1) := by decide +kernel
theorem dX2_restTongs_0 : decode cX2_restTongs 0 = .ok (.iconst 0, 1) := by decide +kernel
theorem dX2_restTongs_1 : decode cX2_restTongs 1 = .ok (.istore_n 1, 1) := by decide +kernel
theorem dX2_restTongs_2 : decode cX2_restTongs 2 = .ok (.iload_n 1, 1) := by decide +kernel
theorem dX2_restTongs_3 : decode cX2_restTongs 3 = .ok (.aload_n 0, 1) := by decide +kernel
theorem dX2_restTongs_4 : decode cX2_restTongs 4 = .ok (.getfield 55, 3) := by decide +kernel
theorem dX2_restTongs_7 : decode cX2_restTongs 7 = .ok (.if_icmp .ge 38, 3) := by decide +kernel
theorem dX2_restTongs_10 : decode cX2_restTongs 10 = .ok (.iload_n 1, 1) := by decide +kernel
theorem dX2_restTongs_11 : decode cX2_restTongs 11 = .ok (.iconst 4, 1) := by decide +kernel
theorem dX2_restTongs_12 : decode cX2_restTongs 12 = .ok (.if_icmp .ge 33, 3) := by decide +kernel
theorem dX2_restTongs_15 : decode cX2_restTongs 15 = .ok (.aload_n 0, 1) := by decide +kernel
theorem dX2_restTongs_16 : decode cX2_restTongs 16 = .ok (.getfield 27, 3) := by decide +kernel
theorem dX2_restTongs_19 : decode cX2_restTongs 19 = .ok (.iload_n 1, 1) := by decide +kernel
theorem dX2_restTongs_20 : decode cX2_restTongs 20 = .ok (.aaload, 1) := by decide +kernel
theorem dX2_restTongs_21 : decode cX2_restTongs 21 = .ok (.iconst 0, 1) := by decide +kernel
theorem dX2_restTongs_22 : decode cX2_restTongs 22 = .ok (.aload_n 0, 1) := by decide +kernel
theorem dX2_restTongs_23 : decode cX2_restTongs 23 = .ok (.getfield 27, 3) := by decide +kernel
theorem dX2_restTongs_26 : decode cX2_restTongs 26 = .ok (.iload_n 1, 1) := by decide +kernel
theorem dX2_restTongs_27 : decode cX2_restTongs 27 = .ok (.aaload, 1) := by decide +kernel
theorem dX2_restTongs_28 : decode cX2_restTongs 28 = .ok (.getfield 118, 3) := by decide +kernel
theorem dX2_restTongs_31 : decode cX2_restTongs 31 = .ok (.iconst 1, 1) := by decide +kernel
theorem dX2_restTongs_32 : decode cX2_restTongs 32 = .ok (.isub, 1) := by decide +kernel
theorem dX2_restTongs_33 : decode cX2_restTongs 33 = .ok (.invokestatic 183, 3) := by decide +kernel
theorem dX2_restTongs_36 : decode cX2_restTongs 36 = .ok (.putfield 118, 3) := by decide +kernel
theorem dX2_restTongs_39 : decode cX2_restTongs 39 = .ok (.iinc 1 1, 3) := by decide +kernel
theorem dX2_restTongs_42 : decode cX2_restTongs 42 = .ok (.goto (-40), 3) := by decide +kernel
theorem dX2_restTongs_45 : decode cX2_restTongs 45 = .ok (.return_, 1) := by decide +kernel
theorem dX2_holdBanquets_0 : decode cX2_holdBanquets 0 = .ok (.iconst 0, 1) := by decide +kernel
theorem dX2_holdBanquets_1 : decode cX2_holdBanquets 1 = .ok (.istore_n 1, 1) := by decide +kernel
theorem dX2_holdBanquets_2 : decode cX2_holdBanquets 2 = .ok (.iload_n 1, 1) := by decide +kernel
theorem dX2_holdBanquets_3 : decode cX2_holdBanquets 3 = .ok (.aload_n 0, 1) := by decide +kernel
theorem dX2_holdBanquets_4 : decode cX2_holdBanquets 4 = .ok (.getfield 68, 3) := by decide +kernel
theorem dX2_holdBanquets_7 : decode cX2_holdBanquets 7 = .ok (.if_icmp .ge 128, 3) := by decide +kernel
theorem dX2_holdBanquets_10 : decode cX2_holdBanquets 10 = .ok (.iload_n 1, 1) := by decide +kernel
theorem dX2_holdBanquets_11 : decode cX2_holdBanquets 11 = .ok (.bipush 6, 2) := by decide +kernel
theorem dX2_holdBanquets_13 : decode cX2_holdBanquets 13 = .ok (.if_icmp .ge 122, 3) := by decide +kernel
theorem dX2_holdBanquets_16 : decode cX2_holdBanquets 16 = .ok (.aload_n 0, 1) := by decide +kernel
theorem dX2_holdBanquets_17 : decode cX2_holdBanquets 17 = .ok (.getfield 39, 3) := by decide +kernel
theorem dX2_holdBanquets_20 : decode cX2_holdBanquets 20 = .ok (.iload_n 1, 1) := by decide +kernel
theorem dX2_holdBanquets_21 : decode cX2_holdBanquets 21 = .ok (.aaload, 1) := by decide +kernel
theorem dX2_holdBanquets_22 : decode cX2_holdBanquets 22 = .ok (.astore_n 2, 1) := by decide +kernel
theorem dX2_holdBanquets_23 : decode cX2_holdBanquets 23 = .ok (.aload_n 2, 1) := by decide +kernel
theorem dX2_holdBanquets_24 : decode cX2_holdBanquets 24 = .ok (.getfield 186, 3) := by decide +kernel
theorem dX2_holdBanquets_27 : decode cX2_holdBanquets 27 = .ok (.aload_n 0, 1) := by decide +kernel
theorem dX2_holdBanquets_28 : decode cX2_holdBanquets 28 = .ok (.getfield 46, 3) := by decide +kernel
theorem dX2_holdBanquets_31 : decode cX2_holdBanquets 31 = .ok (.if_icmp .eq 6, 3) := by decide +kernel
theorem dX2_holdBanquets_34 : decode cX2_holdBanquets 34 = .ok (.goto 95, 3) := by decide +kernel
theorem dX2_holdBanquets_37 : decode cX2_holdBanquets 37 = .ok (.aload_n 0, 1) := by decide +kernel
theorem dX2_holdBanquets_38 : decode cX2_holdBanquets 38 = .ok (.aload_n 2, 1) := by decide +kernel
theorem dX2_holdBanquets_39 : decode cX2_holdBanquets 39 = .ok (.getfield 177, 3) := by decide +kernel
theorem dX2_holdBanquets_42 : decode cX2_holdBanquets 42 = .ok (.invokevirtual 126, 3) := by decide +kernel
theorem dX2_holdBanquets_45 : decode cX2_holdBanquets 45 = .ok (.astore_n 3, 1) := by decide +kernel
theorem dX2_holdBanquets_46 : decode cX2_holdBanquets 46 = .ok (.aload_n 3, 1) := by decide +kernel
theorem dX2_holdBanquets_47 : decode cX2_holdBanquets 47 = .ok (.ifnull 14, 3) := by decide +kernel
theorem dX2_holdBanquets_50 : decode cX2_holdBanquets 50 = .ok (.aload_n 3, 1) := by decide +kernel
theorem dX2_holdBanquets_51 : decode cX2_holdBanquets 51 = .ok (.getfield 134, 3) := by decide +kernel
theorem dX2_holdBanquets_54 : decode cX2_holdBanquets 54 = .ok (.aload_n 2, 1) := by decide +kernel
theorem dX2_holdBanquets_55 : decode cX2_holdBanquets 55 = .ok (.getfield 180, 3) := by decide +kernel
theorem dX2_holdBanquets_58 : decode cX2_holdBanquets 58 = .ok (.if_icmp .ge 16, 3) := by decide +kernel
theorem dX2_holdBanquets_61 : decode cX2_holdBanquets 61 = .ok (.aload_n 0, 1) := by decide +kernel
theorem dX2_holdBanquets_62 : decode cX2_holdBanquets 62 = .ok (.dup, 1) := by decide +kernel
theorem dX2_holdBanquets_63 : decode cX2_holdBanquets 63 = .ok (.getfield 80, 3) := by decide +kernel
theorem dX2_holdBanquets_66 : decode cX2_holdBanquets 66 = .ok (.iconst 1, 1) := by decide +kernel
theorem dX2_holdBanquets_67 : decode cX2_holdBanquets 67 = .ok (.iadd, 1) := by decide +kernel
theorem dX2_holdBanquets_68 : decode cX2_holdBanquets 68 = .ok (.putfield 80, 3) := by decide +kernel
theorem dX2_holdBanquets_71 : decode cX2_holdBanquets 71 = .ok (.goto 58, 3) := by decide +kernel
theorem dX2_holdBanquets_74 : decode cX2_holdBanquets 74 = .ok (.aload_n 0, 1) := by decide +kernel
theorem dX2_holdBanquets_75 : decode cX2_holdBanquets 75 = .ok (.dup, 1) := by decide +kernel
theorem dX2_holdBanquets_76 : decode cX2_holdBanquets 76 = .ok (.getfield 77, 3) := by decide +kernel
theorem dX2_holdBanquets_79 : decode cX2_holdBanquets 79 = .ok (.iconst 1, 1) := by decide +kernel
theorem dX2_holdBanquets_80 : decode cX2_holdBanquets 80 = .ok (.iadd, 1) := by decide +kernel
theorem dX2_holdBanquets_81 : decode cX2_holdBanquets 81 = .ok (.putfield 77, 3) := by decide +kernel
theorem dX2_holdBanquets_84 : decode cX2_holdBanquets 84 = .ok (.aload_n 0, 1) := by decide +kernel
theorem dX2_holdBanquets_85 : decode cX2_holdBanquets 85 = .ok (.dup, 1) := by decide +kernel
theorem dX2_holdBanquets_86 : decode cX2_holdBanquets 86 = .ok (.getfield 9, 3) := by decide +kernel
theorem dX2_holdBanquets_89 : decode cX2_holdBanquets 89 = .ok (.aload_n 2, 1) := by decide +kernel
theorem dX2_holdBanquets_90 : decode cX2_holdBanquets 90 = .ok (.getfield 206, 3) := by decide +kernel
theorem dX2_holdBanquets_93 : decode cX2_holdBanquets 93 = .ok (.iadd, 1) := by decide +kernel
theorem dX2_holdBanquets_94 : decode cX2_holdBanquets 94 = .ok (.putfield 9, 3) := by decide +kernel
theorem dX2_holdBanquets_97 : decode cX2_holdBanquets 97 = .ok (.aload_n 0, 1) := by decide +kernel
theorem dX2_holdBanquets_98 : decode cX2_holdBanquets 98 = .ok (.dup, 1) := by decide +kernel
theorem dX2_holdBanquets_99 : decode cX2_holdBanquets 99 = .ok (.getfield 83, 3) := by decide +kernel
theorem dX2_holdBanquets_102 : decode cX2_holdBanquets 102 = .ok (.aload_n 2, 1) := by decide +kernel
theorem dX2_holdBanquets_103 : decode cX2_holdBanquets 103 = .ok (.getfield 206, 3) := by decide +kernel
theorem dX2_holdBanquets_106 : decode cX2_holdBanquets 106 = .ok (.iadd, 1) := by decide +kernel
theorem dX2_holdBanquets_107 : decode cX2_holdBanquets 107 = .ok (.putfield 83, 3) := by decide +kernel
theorem dX2_holdBanquets_110 : decode cX2_holdBanquets 110 = .ok (.aload_n 0, 1) := by decide +kernel
theorem dX2_holdBanquets_111 : decode cX2_holdBanquets 111 = .ok (.dup, 1) := by decide +kernel
theorem dX2_holdBanquets_112 : decode cX2_holdBanquets 112 = .ok (.getfield 89, 3) := by decide +kernel
theorem dX2_holdBanquets_115 : decode cX2_holdBanquets 115 = .ok (.aload_n 3, 1) := by decide +kernel
theorem dX2_holdBanquets_116 : decode cX2_holdBanquets 116 = .ok (.iconst 0, 1) := by decide +kernel
theorem dX2_holdBanquets_117 : decode cX2_holdBanquets 117 = .ok (.invokevirtual 155, 3) := by decide +kernel
theorem dX2_holdBanquets_120 : decode cX2_holdBanquets 120 = .ok (.iadd, 1) := by decide +kernel
theorem dX2_holdBanquets_121 : decode cX2_holdBanquets 121 = .ok (.putfield 89, 3) := by decide +kernel
theorem dX2_holdBanquets_124 : decode cX2_holdBanquets 124 = .ok (.aload_n 3, 1) := by decide +kernel
theorem dX2_holdBanquets_125 : decode cX2_holdBanquets 125 = .ok (.iconst 0, 1) := by decide +kernel
theorem dX2_holdBanquets_126 : decode cX2_holdBanquets 126 = .ok (.putfield 140, 3) := by decide +kernel
theorem dX2_holdBanquets_129 : decode cX2_holdBanquets 129 = .ok (.iinc 1 1, 3) := by decide +kernel
theorem dX2_holdBanquets_132 : decode cX2_holdBanquets 132 = .ok (.goto (-130), 3) := by decide +kernel
theorem dX2_holdBanquets_135 : decode cX2_holdBanquets 135 = .ok (.return_, 1) := by decide +kernel
theorem dX2_dropHeldBanquets_0 : decode cX2_dropHeldBanquets 0 = .ok (.iconst 5, 1) := by decide +kernel
theorem dX2_dropHeldBanquets_1 : decode cX2_dropHeldBanquets 1 = .ok (.istore_n 1, 1) := by decide +kernel
theorem dX2_dropHeldBanquets_2 : decode cX2_dropHeldBanquets 2 = .ok (.iload_n 1, 1) := by decide +kernel
theorem dX2_dropHeldBanquets_3 : decode cX2_dropHeldBanquets 3 = .ok (.ifCond .lt 38, 3) := by decide +kernel
theorem dX2_dropHeldBanquets_6 : decode cX2_dropHeldBanquets 6 = .ok (.iload_n 1, 1) := by decide +kernel
theorem dX2_dropHeldBanquets_7 : decode cX2_dropHeldBanquets 7 = .ok (.aload_n 0, 1) := by decide +kernel
theorem dX2_dropHeldBanquets_8 : decode cX2_dropHeldBanquets 8 = .ok (.getfield 68, 3) := by decide +kernel
theorem dX2_dropHeldBanquets_11 : decode cX2_dropHeldBanquets 11 = .ok (.if_icmp .ge 24, 3) := by decide +kernel
theorem dX2_dropHeldBanquets_14 : decode cX2_dropHeldBanquets 14 = .ok (.aload_n 0, 1) := by decide +kernel
theorem dX2_dropHeldBanquets_15 : decode cX2_dropHeldBanquets 15 = .ok (.getfield 39, 3) := by decide +kernel
theorem dX2_dropHeldBanquets_18 : decode cX2_dropHeldBanquets 18 = .ok (.iload_n 1, 1) := by decide +kernel
theorem dX2_dropHeldBanquets_19 : decode cX2_dropHeldBanquets 19 = .ok (.aaload, 1) := by decide +kernel
theorem dX2_dropHeldBanquets_20 : decode cX2_dropHeldBanquets 20 = .ok (.getfield 186, 3) := by decide +kernel
theorem dX2_dropHeldBanquets_23 : decode cX2_dropHeldBanquets 23 = .ok (.aload_n 0, 1) := by decide +kernel
theorem dX2_dropHeldBanquets_24 : decode cX2_dropHeldBanquets 24 = .ok (.getfield 46, 3) := by decide +kernel
theorem dX2_dropHeldBanquets_27 : decode cX2_dropHeldBanquets 27 = .ok (.if_icmp .ne 8, 3) := by decide +kernel
theorem dX2_dropHeldBanquets_30 : decode cX2_dropHeldBanquets 30 = .ok (.aload_n 0, 1) := by decide +kernel
theorem dX2_dropHeldBanquets_31 : decode cX2_dropHeldBanquets 31 = .ok (.iload_n 1, 1) := by decide +kernel
theorem dX2_dropHeldBanquets_32 : decode cX2_dropHeldBanquets 32 = .ok (.invokevirtual 207, 3) := by decide +kernel
theorem dX2_dropHeldBanquets_35 : decode cX2_dropHeldBanquets 35 = .ok (.iinc 1 (-1), 3) := by decide +kernel
theorem dX2_dropHeldBanquets_38 : decode cX2_dropHeldBanquets 38 = .ok (.goto (-36), 3) := by decide +kernel
theorem dX2_dropHeldBanquets_41 : decode cX2_dropHeldBanquets 41 = .ok (.return_, 1) := by decide +kernel
theorem dX2_cubesInTowers_0 : decode cX2_cubesInTowers 0 = .ok (.iconst 0, 1) := by decide +kernel
theorem dX2_cubesInTowers_1 : decode cX2_cubesInTowers 1 = .ok (.istore_n 1, 1) := by decide +kernel
theorem dX2_cubesInTowers_2 : decode cX2_cubesInTowers 2 = .ok (.iconst 0, 1) := by decide +kernel
theorem dX2_cubesInTowers_3 : decode cX2_cubesInTowers 3 = .ok (.istore_n 2, 1) := by decide +kernel
theorem dX2_cubesInTowers_4 : decode cX2_cubesInTowers 4 = .ok (.iload_n 2, 1) := by decide +kernel
theorem dX2_cubesInTowers_5 : decode cX2_cubesInTowers 5 = .ok (.aload_n 0, 1) := by decide +kernel
theorem dX2_cubesInTowers_6 : decode cX2_cubesInTowers 6 = .ok (.getfield 62, 3) := by decide +kernel
theorem dX2_cubesInTowers_9 : decode cX2_cubesInTowers 9 = .ok (.if_icmp .ge 28, 3) := by decide +kernel
theorem dX2_cubesInTowers_12 : decode cX2_cubesInTowers 12 = .ok (.iload_n 2, 1) := by decide +kernel
theorem dX2_cubesInTowers_13 : decode cX2_cubesInTowers 13 = .ok (.bipush 6, 2) := by decide +kernel
theorem dX2_cubesInTowers_15 : decode cX2_cubesInTowers 15 = .ok (.if_icmp .ge 22, 3) := by decide +kernel
theorem dX2_cubesInTowers_18 : decode cX2_cubesInTowers 18 = .ok (.iload_n 1, 1) := by decide +kernel
theorem dX2_cubesInTowers_19 : decode cX2_cubesInTowers 19 = .ok (.aload_n 0, 1) := by decide +kernel
theorem dX2_cubesInTowers_20 : decode cX2_cubesInTowers 20 = .ok (.getfield 33, 3) := by decide +kernel
theorem dX2_cubesInTowers_23 : decode cX2_cubesInTowers 23 = .ok (.iload_n 2, 1) := by decide +kernel
theorem dX2_cubesInTowers_24 : decode cX2_cubesInTowers 24 = .ok (.aaload, 1) := by decide +kernel
theorem dX2_cubesInTowers_25 : decode cX2_cubesInTowers 25 = .ok (.iconst 0, 1) := by decide +kernel
theorem dX2_cubesInTowers_26 : decode cX2_cubesInTowers 26 = .ok (.invokevirtual 210, 3) := by decide +kernel
theorem dX2_cubesInTowers_29 : decode cX2_cubesInTowers 29 = .ok (.iadd, 1) := by decide +kernel
theorem dX2_cubesInTowers_30 : decode cX2_cubesInTowers 30 = .ok (.istore_n 1, 1) := by decide +kernel
theorem dX2_cubesInTowers_31 : decode cX2_cubesInTowers 31 = .ok (.iinc 2 1, 3) := by decide +kernel
theorem dX2_cubesInTowers_34 : decode cX2_cubesInTowers 34 = .ok (.goto (-30), 3) := by decide +kernel
theorem dX2_cubesInTowers_37 : decode cX2_cubesInTowers 37 = .ok (.iload_n 1, 1) := by decide +kernel
theorem dX2_cubesInTowers_38 : decode cX2_cubesInTowers 38 = .ok (.ireturn, 1) := by decide +kernel
theorem dX2_coursesInTowers_0 : decode cX2_coursesInTowers 0 = .ok (.iconst 0, 1) := by decide +kernel
theorem dX2_coursesInTowers_1 : decode cX2_coursesInTowers 1 = .ok (.istore_n 1, 1) := by decide +kernel
theorem dX2_coursesInTowers_2 : decode cX2_coursesInTowers 2 = .ok (.iconst 0, 1) := by decide +kernel
theorem dX2_coursesInTowers_3 : decode cX2_coursesInTowers 3 = .ok (.istore_n 2, 1) := by decide +kernel
theorem dX2_coursesInTowers_4 : decode cX2_coursesInTowers 4 = .ok (.iload_n 2, 1) := by decide +kernel
theorem dX2_coursesInTowers_5 : decode cX2_coursesInTowers 5 = .ok (.aload_n 0, 1) := by decide +kernel
theorem dX2_coursesInTowers_6 : decode cX2_coursesInTowers 6 = .ok (.getfield 62, 3) := by decide +kernel
theorem dX2_coursesInTowers_9 : decode cX2_coursesInTowers 9 = .ok (.if_icmp .ge 27, 3) := by decide +kernel
theorem dX2_coursesInTowers_12 : decode cX2_coursesInTowers 12 = .ok (.iload_n 2, 1) := by decide +kernel
theorem dX2_coursesInTowers_13 : decode cX2_coursesInTowers 13 = .ok (.bipush 6, 2) := by decide +kernel
theorem dX2_coursesInTowers_15 : decode cX2_coursesInTowers 15 = .ok (.if_icmp .ge 21, 3) := by decide +kernel
theorem dX2_coursesInTowers_18 : decode cX2_coursesInTowers 18 = .ok (.iload_n 1, 1) := by decide +kernel
theorem dX2_coursesInTowers_19 : decode cX2_coursesInTowers 19 = .ok (.aload_n 0, 1) := by decide +kernel
theorem dX2_coursesInTowers_20 : decode cX2_coursesInTowers 20 = .ok (.getfield 33, 3) := by decide +kernel
theorem dX2_coursesInTowers_23 : decode cX2_coursesInTowers 23 = .ok (.iload_n 2, 1) := by decide +kernel
theorem dX2_coursesInTowers_24 : decode cX2_coursesInTowers 24 = .ok (.aaload, 1) := by decide +kernel
theorem dX2_coursesInTowers_25 : decode cX2_coursesInTowers 25 = .ok (.getfield 134, 3) := by decide +kernel
theorem dX2_coursesInTowers_28 : decode cX2_coursesInTowers 28 = .ok (.iadd, 1) := by decide +kernel
theorem dX2_coursesInTowers_29 : decode cX2_coursesInTowers 29 = .ok (.istore_n 1, 1) := by decide +kernel
theorem dX2_coursesInTowers_30 : decode cX2_coursesInTowers 30 = .ok (.iinc 2 1, 3) := by decide +kernel
theorem dX2_coursesInTowers_33 : decode cX2_coursesInTowers 33 = .ok (.goto (-29), 3) := by decide +kernel
theorem dX2_coursesInTowers_36 : decode cX2_coursesInTowers 36 = .ok (.iload_n 1, 1) := by decide +kernel
theorem dX2_coursesInTowers_37 : decode cX2_coursesInTowers 37 = .ok (.ireturn, 1) := by decide +kernel
theorem dX3_init_0 : decode cX3_init 0 = .ok (.aload_n 0, 1) := by decide +kernel
theorem dX3_init_1 : decode cX3_init 1 = .ok (.invokespecial 3, 3) := by decide +kernel
theorem dX3_init_4 : decode cX3_init 4 = .ok (.aload_n 0, 1) := by decide +kernel
theorem dX3_init_5 : decode cX3_init 5 = .ok (.iconst 4, 1) := by decide +kernel
theorem dX3_init_6 : decode cX3_init 6 = .ok (.newarray .int, 2) := by decide +kernel
theorem dX3_init_8 : decode cX3_init 8 = .ok (.putfield 9, 3) := by decide +kernel
theorem dX3_init_11 : decode cX3_init 11 = .ok (.return_, 1) := by decide +kernel
theorem dX4_init_0 : decode cX4_init 0 = .ok (.aload_n 0, 1) := by decide +kernel
theorem dX4_init_1 : decode cX4_init 1 = .ok (.invokespecial 3, 3) := by decide +kernel
theorem dX4_init_4 : decode cX4_init 4 = .ok (.aload_n 0, 1) := by decide +kernel
theorem dX4_init_5 : decode cX4_init 5 = .ok (.iconst 0, 1) := by decide +kernel
theorem dX4_init_6 : decode cX4_init 6 = .ok (.putfield 9, 3) := by decide +kernel
theorem dX4_init_9 : decode cX4_init 9 = .ok (.return_, 1) := by decide +kernel
theorem dX4_because_0 : decode cX4_because 0 = .ok (.aload_n 0, 1) := by decide +kernel
theorem dX4_because_1 : decode cX4_because 1 = .ok (.iload_n 1, 1) := by decide +kernel
theorem dX4_because_2 : decode cX4_because 2 = .ok (.putfield 9, 3) := by decide +kernel
theorem dX4_because_5 : decode cX4_because 5 = .ok (.aload_n 0, 1) := by decide +kernel
theorem dX4_because_6 : decode cX4_because 6 = .ok (.iload_n 2, 1) := by decide +kernel
theorem dX4_because_7 : decode cX4_because 7 = .ok (.putfield 15, 3) := by decide +kernel
theorem dX4_because_10 : decode cX4_because 10 = .ok (.iload_n 1, 1) := by decide +kernel
theorem dX4_because_11 : decode cX4_because 11 = .ok (.ireturn, 1) := by decide +kernel
theorem dX5_init_0 : decode cX5_init 0 = .ok (.aload_n 0, 1) := by decide +kernel
theorem dX5_init_1 : decode cX5_init 1 = .ok (.invokespecial 3, 3) := by decide +kernel
theorem dX5_init_4 : decode cX5_init 4 = .ok (.aload_n 0, 1) := by decide +kernel
theorem dX5_init_5 : decode cX5_init 5 = .ok (.bipush 60, 2) := by decide +kernel
theorem dX5_init_7 : decode cX5_init 7 = .ok (.newarray .char, 2) := by decide +kernel
theorem dX5_init_9 : decode cX5_init 9 = .ok (.putfield 9, 3) := by decide +kernel
theorem dX5_init_12 : decode cX5_init 12 = .ok (.aload_n 0, 1) := by decide +kernel
theorem dX5_init_13 : decode cX5_init 13 = .ok (.bipush 20, 2) := by decide +kernel
theorem dX5_init_15 : decode cX5_init 15 = .ok (.anewarray 15, 3) := by decide +kernel
theorem dX5_init_18 : decode cX5_init 18 = .ok (.putfield 17, 3) := by decide +kernel
theorem dX5_init_21 : decode cX5_init 21 = .ok (.iconst 0, 1) := by decide +kernel
theorem dX5_init_22 : decode cX5_init 22 = .ok (.istore_n 1, 1) := by decide +kernel
theorem dX5_init_23 : decode cX5_init 23 = .ok (.iload_n 1, 1) := by decide +kernel
theorem dX5_init_24 : decode cX5_init 24 = .ok (.bipush 20, 2) := by decide +kernel
theorem dX5_init_26 : decode cX5_init 26 = .ok (.if_icmp .ge 22, 3) := by decide +kernel
theorem dX5_init_29 : decode cX5_init 29 = .ok (.aload_n 0, 1) := by decide +kernel
theorem dX5_init_30 : decode cX5_init 30 = .ok (.getfield 17, 3) := by decide +kernel
theorem dX5_init_33 : decode cX5_init 33 = .ok (.iload_n 1, 1) := by decide +kernel
theorem dX5_init_34 : decode cX5_init 34 = .ok (.new 15, 3) := by decide +kernel
theorem dX5_init_37 : decode cX5_init 37 = .ok (.dup, 1) := by decide +kernel
theorem dX5_init_38 : decode cX5_init 38 = .ok (.invokespecial 21, 3) := by decide +kernel
theorem dX5_init_41 : decode cX5_init 41 = .ok (.aastore, 1) := by decide +kernel
theorem dX5_init_42 : decode cX5_init 42 = .ok (.iinc 1 1, 3) := by decide +kernel
theorem dX5_init_45 : decode cX5_init 45 = .ok (.goto (-22), 3) := by decide +kernel
theorem dX5_init_48 : decode cX5_init 48 = .ok (.return_, 1) := by decide +kernel
theorem dX5_addSign_0 : decode cX5_addSign 0 = .ok (.aload_n 0, 1) := by decide +kernel
theorem dX5_addSign_1 : decode cX5_addSign 1 = .ok (.getfield 22, 3) := by decide +kernel
theorem dX5_addSign_4 : decode cX5_addSign 4 = .ok (.ifCond .lt 32, 3) := by decide +kernel
theorem dX5_addSign_7 : decode cX5_addSign 7 = .ok (.aload_n 0, 1) := by decide +kernel
theorem dX5_addSign_8 : decode cX5_addSign 8 = .ok (.getfield 22, 3) := by decide +kernel
theorem dX5_addSign_11 : decode cX5_addSign 11 = .ok (.bipush 60, 2) := by decide +kernel
theorem dX5_addSign_13 : decode cX5_addSign 13 = .ok (.if_icmp .ge 23, 3) := by decide +kernel
theorem dX5_addSign_16 : decode cX5_addSign 16 = .ok (.aload_n 0, 1) := by decide +kernel
theorem dX5_addSign_17 : decode cX5_addSign 17 = .ok (.getfield 9, 3) := by decide +kernel
theorem dX5_addSign_20 : decode cX5_addSign 20 = .ok (.aload_n 0, 1) := by decide +kernel
theorem dX5_addSign_21 : decode cX5_addSign 21 = .ok (.getfield 22, 3) := by decide +kernel
theorem dX5_addSign_24 : decode cX5_addSign 24 = .ok (.iload_n 1, 1) := by decide +kernel
theorem dX5_addSign_25 : decode cX5_addSign 25 = .ok (.castore, 1) := by decide +kernel
theorem dX5_addSign_26 : decode cX5_addSign 26 = .ok (.aload_n 0, 1) := by decide +kernel
theorem dX5_addSign_27 : decode cX5_addSign 27 = .ok (.dup, 1) := by decide +kernel
theorem dX5_addSign_28 : decode cX5_addSign 28 = .ok (.getfield 22, 3) := by decide +kernel
theorem dX5_addSign_31 : decode cX5_addSign 31 = .ok (.iconst 1, 1) := by decide +kernel
theorem dX5_addSign_32 : decode cX5_addSign 32 = .ok (.iadd, 1) := by decide +kernel
theorem dX5_addSign_33 : decode cX5_addSign 33 = .ok (.putfield 22, 3) := by decide +kernel
theorem dX5_addSign_36 : decode cX5_addSign 36 = .ok (.aload_n 0, 1) := by decide +kernel
theorem dX5_addSign_37 : decode cX5_addSign 37 = .ok (.getfield 22, 3) := by decide +kernel
theorem dX5_addSign_40 : decode cX5_addSign 40 = .ok (.ireturn, 1) := by decide +kernel
theorem dX5_orderAt_0 : decode cX5_orderAt 0 = .ok (.iload_n 1, 1) := by decide +kernel
theorem dX5_orderAt_1 : decode cX5_orderAt 1 = .ok (.ifCond .lt 26, 3) := by decide +kernel
theorem dX5_orderAt_4 : decode cX5_orderAt 4 = .ok (.iload_n 1, 1) := by decide +kernel
theorem dX5_orderAt_5 : decode cX5_orderAt 5 = .ok (.aload_n 0, 1) := by decide +kernel
theorem dX5_orderAt_6 : decode cX5_orderAt 6 = .ok (.getfield 26, 3) := by decide +kernel
theorem dX5_orderAt_9 : decode cX5_orderAt 9 = .ok (.if_icmp .ge 18, 3) := by decide +kernel
theorem dX5_orderAt_12 : decode cX5_orderAt 12 = .ok (.iload_n 1, 1) := by decide +kernel
theorem dX5_orderAt_13 : decode cX5_orderAt 13 = .ok (.bipush 20, 2) := by decide +kernel
theorem dX5_orderAt_15 : decode cX5_orderAt 15 = .ok (.if_icmp .ge 12, 3) := by decide +kernel
theorem dX5_orderAt_18 : decode cX5_orderAt 18 = .ok (.aload_n 0, 1) := by decide +kernel
theorem dX5_orderAt_19 : decode cX5_orderAt 19 = .ok (.getfield 17, 3) := by decide +kernel
theorem dX5_orderAt_22 : decode cX5_orderAt 22 = .ok (.iload_n 1, 1) := by decide +kernel
theorem dX5_orderAt_23 : decode cX5_orderAt 23 = .ok (.aaload, 1) := by decide +kernel
theorem dX5_orderAt_24 : decode cX5_orderAt 24 = .ok (.goto 4, 3) := by decide +kernel
theorem dX5_orderAt_27 : decode cX5_orderAt 27 = .ok (.aconst_null, 1) := by decide +kernel
theorem dX5_orderAt_28 : decode cX5_orderAt 28 = .ok (.areturn, 1) := by decide +kernel
theorem dX5_parseOrders_0 : decode cX5_parseOrders 0 = .ok (.aload_n 0, 1) := by decide +kernel
theorem dX5_parseOrders_1 : decode cX5_parseOrders 1 = .ok (.iconst 0, 1) := by decide +kernel
theorem dX5_parseOrders_2 : decode cX5_parseOrders 2 = .ok (.putfield 29, 3) := by decide +kernel
theorem dX5_parseOrders_5 : decode cX5_parseOrders 5 = .ok (.aload_n 0, 1) := by decide +kernel
theorem dX5_parseOrders_6 : decode cX5_parseOrders 6 = .ok (.iconst 0, 1) := by decide +kernel
theorem dX5_parseOrders_7 : decode cX5_parseOrders 7 = .ok (.putfield 26, 3) := by decide +kernel
theorem dX5_parseOrders_10 : decode cX5_parseOrders 10 = .ok (.iconst 0, 1) := by decide +kernel
theorem dX5_parseOrders_11 : decode cX5_parseOrders 11 = .ok (.istore_n 1, 1) := by decide +kernel
theorem dX5_parseOrders_12 : decode cX5_parseOrders 12 = .ok (.iload_n 1, 1) := by decide +kernel
theorem dX5_parseOrders_13 : decode cX5_parseOrders 13 = .ok (.bipush 20, 2) := by decide +kernel
theorem dX5_parseOrders_15 : decode cX5_parseOrders 15 = .ok (.if_icmp .ge 74, 3) := by decide +kernel
theorem dX5_parseOrders_18 : decode cX5_parseOrders 18 = .ok (.aload_n 0, 1) := by decide +kernel
theorem dX5_parseOrders_19 : decode cX5_parseOrders 19 = .ok (.aload_n 0, 1) := by decide +kernel
theorem dX5_parseOrders_20 : decode cX5_parseOrders 20 = .ok (.getfield 17, 3) := by decide +kernel
theorem dX5_parseOrders_23 : decode cX5_parseOrders 23 = .ok (.iload_n 1, 1) := by decide +kernel
theorem dX5_parseOrders_24 : decode cX5_parseOrders 24 = .ok (.aaload, 1) := by decide +kernel
theorem dX5_parseOrders_25 : decode cX5_parseOrders 25 = .ok (.invokevirtual 32, 3) := by decide +kernel
theorem dX5_parseOrders_28 : decode cX5_parseOrders 28 = .ok (.ifCond .ne 8, 3) := by decide +kernel
theorem dX5_parseOrders_31 : decode cX5_parseOrders 31 = .ok (.aload_n 0, 1) := by decide +kernel
theorem dX5_parseOrders_32 : decode cX5_parseOrders 32 = .ok (.getfield 29, 3) := by decide +kernel
theorem dX5_parseOrders_35 : decode cX5_parseOrders 35 = .ok (.ireturn, 1) := by decide +kernel
theorem dX5_parseOrders_36 : decode cX5_parseOrders 36 = .ok (.aload_n 0, 1) := by decide +kernel
theorem dX5_parseOrders_37 : decode cX5_parseOrders 37 = .ok (.dup, 1) := by decide +kernel
theorem dX5_parseOrders_38 : decode cX5_parseOrders 38 = .ok (.getfield 26, 3) := by decide +kernel
theorem dX5_parseOrders_41 : decode cX5_parseOrders 41 = .ok (.iconst 1, 1) := by decide +kernel
theorem dX5_parseOrders_42 : decode cX5_parseOrders 42 = .ok (.iadd, 1) := by decide +kernel
theorem dX5_parseOrders_43 : decode cX5_parseOrders 43 = .ok (.putfield 26, 3) := by decide +kernel
theorem dX5_parseOrders_46 : decode cX5_parseOrders 46 = .ok (.aload_n 0, 1) := by decide +kernel
theorem dX5_parseOrders_47 : decode cX5_parseOrders 47 = .ok (.getfield 29, 3) := by decide +kernel
theorem dX5_parseOrders_50 : decode cX5_parseOrders 50 = .ok (.aload_n 0, 1) := by decide +kernel
theorem dX5_parseOrders_51 : decode cX5_parseOrders 51 = .ok (.getfield 22, 3) := by decide +kernel
theorem dX5_parseOrders_54 : decode cX5_parseOrders 54 = .ok (.if_icmp .lt 5, 3) := by decide +kernel
theorem dX5_parseOrders_57 : decode cX5_parseOrders 57 = .ok (.iconst (-1), 1) := by decide +kernel
theorem dX5_parseOrders_58 : decode cX5_parseOrders 58 = .ok (.ireturn, 1) := by decide +kernel
theorem dX5_parseOrders_59 : decode cX5_parseOrders 59 = .ok (.aload_n 0, 1) := by decide +kernel
theorem dX5_parseOrders_60 : decode cX5_parseOrders 60 = .ok (.invokevirtual 36, 3) := by decide +kernel
theorem dX5_parseOrders_63 : decode cX5_parseOrders 63 = .ok (.bipush 59, 2) := by decide +kernel
theorem dX5_parseOrders_65 : decode cX5_parseOrders 65 = .ok (.if_icmp .eq 8, 3) := by decide +kernel
theorem dX5_parseOrders_68 : decode cX5_parseOrders 68 = .ok (.aload_n 0, 1) := by decide +kernel
theorem dX5_parseOrders_69 : decode cX5_parseOrders 69 = .ok (.getfield 29, 3) := by decide +kernel
theorem dX5_parseOrders_72 : decode cX5_parseOrders 72 = .ok (.ireturn, 1) := by decide +kernel
theorem dX5_parseOrders_73 : decode cX5_parseOrders 73 = .ok (.aload_n 0, 1) := by decide +kernel
theorem dX5_parseOrders_74 : decode cX5_parseOrders 74 = .ok (.dup, 1) := by decide +kernel
theorem dX5_parseOrders_75 : decode cX5_parseOrders 75 = .ok (.getfield 29, 3) := by decide +kernel
theorem dX5_parseOrders_78 : decode cX5_parseOrders 78 = .ok (.iconst 1, 1) := by decide +kernel
theorem dX5_parseOrders_79 : decode cX5_parseOrders 79 = .ok (.iadd, 1) := by decide +kernel
theorem dX5_parseOrders_80 : decode cX5_parseOrders 80 = .ok (.putfield 29, 3) := by decide +kernel
theorem dX5_parseOrders_83 : decode cX5_parseOrders 83 = .ok (.iinc 1 1, 3) := by decide +kernel
theorem dX5_parseOrders_86 : decode cX5_parseOrders 86 = .ok (.goto (-74), 3) := by decide +kernel
theorem dX5_parseOrders_89 : decode cX5_parseOrders 89 = .ok (.aload_n 0, 1) := by decide +kernel
theorem dX5_parseOrders_90 : decode cX5_parseOrders 90 = .ok (.getfield 29, 3) := by decide +kernel
theorem dX5_parseOrders_93 : decode cX5_parseOrders 93 = .ok (.ireturn, 1) := by decide +kernel
theorem dX5_parseOrder_0 : decode cX5_parseOrder 0 = .ok (.aload_n 1, 1) := by decide +kernel
theorem dX5_parseOrder_1 : decode cX5_parseOrder 1 = .ok (.aload_n 0, 1) := by decide +kernel
theorem dX5_parseOrder_2 : decode cX5_parseOrder 2 = .ok (.invokevirtual 36, 3) := by decide +kernel
theorem dX5_parseOrder_5 : decode cX5_parseOrder 5 = .ok (.putfield 40, 3) := by decide +kernel
theorem dX5_parseOrder_8 : decode cX5_parseOrder 8 = .ok (.aload_n 1, 1) := by decide +kernel
theorem dX5_parseOrder_9 : decode cX5_parseOrder 9 = .ok (.getfield 40, 3) := by decide +kernel
theorem dX5_parseOrder_12 : decode cX5_parseOrder 12 = .ok (.invokestatic 43, 3) := by decide +kernel
theorem dX5_parseOrder_15 : decode cX5_parseOrder 15 = .ok (.astore_n 2, 1) := by decide +kernel
theorem dX5_parseOrder_16 : decode cX5_parseOrder 16 = .ok (.aload_n 2, 1) := by decide +kernel
theorem dX5_parseOrder_17 : decode cX5_parseOrder 17 = .ok (.invokevirtual 47, 3) := by decide +kernel
theorem dX5_parseOrder_20 : decode cX5_parseOrder 20 = .ok (.ifCond .eq 5, 3) := by decide +kernel
theorem dX5_parseOrder_23 : decode cX5_parseOrder 23 = .ok (.iconst 0, 1) := by decide +kernel
theorem dX5_parseOrder_24 : decode cX5_parseOrder 24 = .ok (.ireturn, 1) := by decide +kernel
theorem dX5_parseOrder_25 : decode cX5_parseOrder 25 = .ok (.aload_n 0, 1) := by decide +kernel
theorem dX5_parseOrder_26 : decode cX5_parseOrder 26 = .ok (.dup, 1) := by decide +kernel
theorem dX5_parseOrder_27 : decode cX5_parseOrder 27 = .ok (.getfield 29, 3) := by decide +kernel
theorem dX5_parseOrder_30 : decode cX5_parseOrder 30 = .ok (.iconst 1, 1) := by decide +kernel
theorem dX5_parseOrder_31 : decode cX5_parseOrder 31 = .ok (.iadd, 1) := by decide +kernel
theorem dX5_parseOrder_32 : decode cX5_parseOrder 32 = .ok (.putfield 29, 3) := by decide +kernel
theorem dX5_parseOrder_35 : decode cX5_parseOrder 35 = .ok (.iconst 0, 1) := by decide +kernel
theorem dX5_parseOrder_36 : decode cX5_parseOrder 36 = .ok (.istore_n 3, 1) := by decide +kernel
theorem dX5_parseOrder_37 : decode cX5_parseOrder 37 = .ok (.iconst 0, 1) := by decide +kernel
theorem dX5_parseOrder_38 : decode cX5_parseOrder 38 = .ok (.istore 4, 2) := by decide +kernel
theorem dX5_parseOrder_40 : decode cX5_parseOrder 40 = .ok (.iload 4, 2) := by decide +kernel
theorem dX5_parseOrder_42 : decode cX5_parseOrder 42 = .ok (.aload_n 2, 1) := by decide +kernel
theorem dX5_parseOrder_43 : decode cX5_parseOrder 43 = .ok (.invokevirtual 53, 3) := by decide +kernel
theorem dX5_parseOrder_46 : decode cX5_parseOrder 46 = .ok (.if_icmp .ge 100, 3) := by decide +kernel
theorem dX5_parseOrder_49 : decode cX5_parseOrder 49 = .ok (.aload_n 2, 1) := by decide +kernel
theorem dX5_parseOrder_50 : decode cX5_parseOrder 50 = .ok (.iload 4, 2) := by decide +kernel
theorem dX5_parseOrder_52 : decode cX5_parseOrder 52 = .ok (.invokevirtual 55, 3) := by decide +kernel
theorem dX5_parseOrder_55 : decode cX5_parseOrder 55 = .ok (.istore 5, 2) := by decide +kernel
theorem dX5_parseOrder_57 : decode cX5_parseOrder 57 = .ok (.iload 5, 2) := by decide +kernel
theorem dX5_parseOrder_59 : decode cX5_parseOrder 59 = .ok (.bipush 100, 2) := by decide +kernel
theorem dX5_parseOrder_61 : decode cX5_parseOrder 61 = .ok (.if_icmp .eq 10, 3) := by decide +kernel
theorem dX5_parseOrder_64 : decode cX5_parseOrder 64 = .ok (.iload 5, 2) := by decide +kernel
theorem dX5_parseOrder_66 : decode cX5_parseOrder 66 = .ok (.bipush 110, 2) := by decide +kernel
theorem dX5_parseOrder_68 : decode cX5_parseOrder 68 = .ok (.if_icmp .ne 48, 3) := by decide +kernel
theorem dX5_parseOrder_71 : decode cX5_parseOrder 71 = .ok (.aload_n 0, 1) := by decide +kernel
theorem dX5_parseOrder_72 : decode cX5_parseOrder 72 = .ok (.iload 5, 2) := by decide +kernel
theorem dX5_parseOrder_74 : decode cX5_parseOrder 74 = .ok (.bipush 100, 2) := by decide +kernel
theorem dX5_parseOrder_76 : decode cX5_parseOrder 76 = .ok (.if_icmp .ne 7, 3) := by decide +kernel
theorem dX5_parseOrder_79 : decode cX5_parseOrder 79 = .ok (.iconst 1, 1) := by decide +kernel
theorem dX5_parseOrder_80 : decode cX5_parseOrder 80 = .ok (.goto 4, 3) := by decide +kernel
theorem dX5_parseOrder_83 : decode cX5_parseOrder 83 = .ok (.iconst 2, 1) := by decide +kernel
theorem dX5_parseOrder_84 : decode cX5_parseOrder 84 = .ok (.invokevirtual 59, 3) := by decide +kernel
theorem dX5_parseOrder_87 : decode cX5_parseOrder 87 = .ok (.istore 6, 2) := by decide +kernel
theorem dX5_parseOrder_89 : decode cX5_parseOrder 89 = .ok (.iload 6, 2) := by decide +kernel
theorem dX5_parseOrder_91 : decode cX5_parseOrder 91 = .ok (.iconst (-1), 1) := by decide +kernel
theorem dX5_parseOrder_92 : decode cX5_parseOrder 92 = .ok (.if_icmp .eq 8, 3) := by decide +kernel
theorem dX5_parseOrder_95 : decode cX5_parseOrder 95 = .ok (.iload_n 3, 1) := by decide +kernel
theorem dX5_parseOrder_96 : decode cX5_parseOrder 96 = .ok (.iconst 4, 1) := by decide +kernel
theorem dX5_parseOrder_97 : decode cX5_parseOrder 97 = .ok (.if_icmp .lt 5, 3) := by decide +kernel
theorem dX5_parseOrder_100 : decode cX5_parseOrder 100 = .ok (.iconst 0, 1) := by decide +kernel
theorem dX5_parseOrder_101 : decode cX5_parseOrder 101 = .ok (.ireturn, 1) := by decide +kernel
theorem dX5_parseOrder_102 : decode cX5_parseOrder 102 = .ok (.aload_n 1, 1) := by decide +kernel
theorem dX5_parseOrder_103 : decode cX5_parseOrder 103 = .ok (.getfield 63, 3) := by decide +kernel
theorem dX5_parseOrder_106 : decode cX5_parseOrder 106 = .ok (.iload_n 3, 1) := by decide +kernel
theorem dX5_parseOrder_107 : decode cX5_parseOrder 107 = .ok (.iload 6, 2) := by decide +kernel
theorem dX5_parseOrder_109 : decode cX5_parseOrder 109 = .ok (.iastore, 1) := by decide +kernel
theorem dX5_parseOrder_110 : decode cX5_parseOrder 110 = .ok (.iinc 3 1, 3) := by decide +kernel
theorem dX5_parseOrder_113 : decode cX5_parseOrder 113 = .ok (.goto 27, 3) := by decide +kernel
theorem dX5_parseOrder_116 : decode cX5_parseOrder 116 = .ok (.aload_n 0, 1) := by decide +kernel
theorem dX5_parseOrder_117 : decode cX5_parseOrder 117 = .ok (.invokevirtual 36, 3) := by decide +kernel
theorem dX5_parseOrder_120 : decode cX5_parseOrder 120 = .ok (.iload 5, 2) := by decide +kernel
theorem dX5_parseOrder_122 : decode cX5_parseOrder 122 = .ok (.if_icmp .ne 16, 3) := by decide +kernel
theorem dX5_parseOrder_125 : decode cX5_parseOrder 125 = .ok (.aload_n 0, 1) := by decide +kernel
theorem dX5_parseOrder_126 : decode cX5_parseOrder 126 = .ok (.dup, 1) := by decide +kernel
theorem dX5_parseOrder_127 : decode cX5_parseOrder 127 = .ok (.getfield 29, 3) := by decide +kernel
theorem dX5_parseOrder_130 : decode cX5_parseOrder 130 = .ok (.iconst 1, 1) := by decide +kernel
theorem dX5_parseOrder_131 : decode cX5_parseOrder 131 = .ok (.iadd, 1) := by decide +kernel
theorem dX5_parseOrder_132 : decode cX5_parseOrder 132 = .ok (.putfield 29, 3) := by decide +kernel
theorem dX5_parseOrder_135 : decode cX5_parseOrder 135 = .ok (.goto 5, 3) := by decide +kernel
theorem dX5_parseOrder_138 : decode cX5_parseOrder 138 = .ok (.iconst 0, 1) := by decide +kernel
theorem dX5_parseOrder_139 : decode cX5_parseOrder 139 = .ok (.ireturn, 1) := by decide +kernel
theorem dX5_parseOrder_140 : decode cX5_parseOrder 140 = .ok (.iinc 4 1, 3) := by decide +kernel
theorem dX5_parseOrder_143 : decode cX5_parseOrder 143 = .ok (.goto (-103), 3) := by decide +kernel
theorem dX5_parseOrder_146 : decode cX5_parseOrder 146 = .ok (.iconst 1, 1) := by decide +kernel
theorem dX5_parseOrder_147 : decode cX5_parseOrder 147 = .ok (.ireturn, 1) := by decide +kernel
theorem dX5_formOf_0 : decode cX5_formOf 0 = .ok (.iload_n 0, 1) := by decide +kernel
theorem dX5_formOf_1 : decode cX5_formOf 1 = .ok (.lookupswitch 66 #[(98, 51), (104, 63), (108, 54), (115, 60), (116, 57)], 51) := by decide +kernel
theorem dX5_formOf_52 : decode cX5_formOf 52 = .ok (.ldc 67, 2) := by decide +kernel
theorem dX5_formOf_54 : decode cX5_formOf 54 = .ok (.areturn, 1) := by decide +kernel
theorem dX5_formOf_55 : decode cX5_formOf 55 = .ok (.ldc 69, 2) := by decide +kernel
theorem dX5_formOf_57 : decode cX5_formOf 57 = .ok (.areturn, 1) := by decide +kernel
theorem dX5_formOf_58 : decode cX5_formOf 58 = .ok (.ldc 71, 2) := by decide +kernel
theorem dX5_formOf_60 : decode cX5_formOf 60 = .ok (.areturn, 1) := by decide +kernel
theorem dX5_formOf_61 : decode cX5_formOf 61 = .ok (.ldc 73, 2) := by decide +kernel
theorem dX5_formOf_63 : decode cX5_formOf 63 = .ok (.areturn, 1) := by decide +kernel
theorem dX5_formOf_64 : decode cX5_formOf 64 = .ok (.ldc 75, 2) := by decide +kernel
theorem dX5_formOf_66 : decode cX5_formOf 66 = .ok (.areturn, 1) := by decide +kernel
theorem dX5_formOf_67 : decode cX5_formOf 67 = .ok (.ldc 77, 2) := by decide +kernel
theorem dX5_formOf_69 : decode cX5_formOf 69 = .ok (.areturn, 1) := by decide +kernel
theorem dX5_parseNumber_0 : decode cX5_parseNumber 0 = .ok (.iconst (-1), 1) := by decide +kernel
theorem dX5_parseNumber_1 : decode cX5_parseNumber 1 = .ok (.istore_n 2, 1) := by decide +kernel
theorem dX5_parseNumber_2 : decode cX5_parseNumber 2 = .ok (.iconst 0, 1) := by decide +kernel
theorem dX5_parseNumber_3 : decode cX5_parseNumber 3 = .ok (.istore_n 3, 1) := by decide +kernel
theorem dX5_parseNumber_4 : decode cX5_parseNumber 4 = .ok (.iload_n 3, 1) := by decide +kernel
theorem dX5_parseNumber_5 : decode cX5_parseNumber 5 = .ok (.iload_n 1, 1) := by decide +kernel
theorem dX5_parseNumber_6 : decode cX5_parseNumber 6 = .ok (.if_icmp .ge 61, 3) := by decide +kernel
theorem dX5_parseNumber_9 : decode cX5_parseNumber 9 = .ok (.aload_n 0, 1) := by decide +kernel
theorem dX5_parseNumber_10 : decode cX5_parseNumber 10 = .ok (.invokevirtual 36, 3) := by decide +kernel
theorem dX5_parseNumber_13 : decode cX5_parseNumber 13 = .ok (.istore 4, 2) := by decide +kernel
theorem dX5_parseNumber_15 : decode cX5_parseNumber 15 = .ok (.iload 4, 2) := by decide +kernel
theorem dX5_parseNumber_17 : decode cX5_parseNumber 17 = .ok (.bipush 48, 2) := by decide +kernel
theorem dX5_parseNumber_19 : decode cX5_parseNumber 19 = .ok (.if_icmp .lt 10, 3) := by decide +kernel
theorem dX5_parseNumber_22 : decode cX5_parseNumber 22 = .ok (.iload 4, 2) := by decide +kernel
theorem dX5_parseNumber_24 : decode cX5_parseNumber 24 = .ok (.bipush 57, 2) := by decide +kernel
theorem dX5_parseNumber_26 : decode cX5_parseNumber 26 = .ok (.if_icmp .le 5, 3) := by decide +kernel
theorem dX5_parseNumber_29 : decode cX5_parseNumber 29 = .ok (.iload_n 2, 1) := by decide +kernel
theorem dX5_parseNumber_30 : decode cX5_parseNumber 30 = .ok (.ireturn, 1) := by decide +kernel
theorem dX5_parseNumber_31 : decode cX5_parseNumber 31 = .ok (.iload_n 2, 1) := by decide +kernel
theorem dX5_parseNumber_32 : decode cX5_parseNumber 32 = .ok (.iconst (-1), 1) := by decide +kernel
theorem dX5_parseNumber_33 : decode cX5_parseNumber 33 = .ok (.if_icmp .ne 7, 3) := by decide +kernel
theorem dX5_parseNumber_36 : decode cX5_parseNumber 36 = .ok (.iconst 0, 1) := by decide +kernel
theorem dX5_parseNumber_37 : decode cX5_parseNumber 37 = .ok (.goto 7, 3) := by decide +kernel
theorem dX5_parseNumber_40 : decode cX5_parseNumber 40 = .ok (.iload_n 2, 1) := by decide +kernel
theorem dX5_parseNumber_41 : decode cX5_parseNumber 41 = .ok (.bipush 10, 2) := by decide +kernel
theorem dX5_parseNumber_43 : decode cX5_parseNumber 43 = .ok (.imul, 1) := by decide +kernel
theorem dX5_parseNumber_44 : decode cX5_parseNumber 44 = .ok (.iload 4, 2) := by decide +kernel
theorem dX5_parseNumber_46 : decode cX5_parseNumber 46 = .ok (.iadd, 1) := by decide +kernel
theorem dX5_parseNumber_47 : decode cX5_parseNumber 47 = .ok (.bipush 48, 2) := by decide +kernel
theorem dX5_parseNumber_49 : decode cX5_parseNumber 49 = .ok (.isub, 1) := by decide +kernel
theorem dX5_parseNumber_50 : decode cX5_parseNumber 50 = .ok (.istore_n 2, 1) := by decide +kernel
theorem dX5_parseNumber_51 : decode cX5_parseNumber 51 = .ok (.aload_n 0, 1) := by decide +kernel
theorem dX5_parseNumber_52 : decode cX5_parseNumber 52 = .ok (.dup, 1) := by decide +kernel
theorem dX5_parseNumber_53 : decode cX5_parseNumber 53 = .ok (.getfield 29, 3) := by decide +kernel
theorem dX5_parseNumber_56 : decode cX5_parseNumber 56 = .ok (.iconst 1, 1) := by decide +kernel
theorem dX5_parseNumber_57 : decode cX5_parseNumber 57 = .ok (.iadd, 1) := by decide +kernel
theorem dX5_parseNumber_58 : decode cX5_parseNumber 58 = .ok (.putfield 29, 3) := by decide +kernel
theorem dX5_parseNumber_61 : decode cX5_parseNumber 61 = .ok (.iinc 3 1, 3) := by decide +kernel
theorem dX5_parseNumber_64 : decode cX5_parseNumber 64 = .ok (.goto (-60), 3) := by decide +kernel
theorem dX5_parseNumber_67 : decode cX5_parseNumber 67 = .ok (.iload_n 2, 1) := by decide +kernel
theorem dX5_parseNumber_68 : decode cX5_parseNumber 68 = .ok (.ireturn, 1) := by decide +kernel
theorem dX5_signHere_0 : decode cX5_signHere 0 = .ok (.aload_n 0, 1) := by decide +kernel
theorem dX5_signHere_1 : decode cX5_signHere 1 = .ok (.getfield 29, 3) := by decide +kernel
theorem dX5_signHere_4 : decode cX5_signHere 4 = .ok (.ifCond .lt 35, 3) := by decide +kernel
theorem dX5_signHere_7 : decode cX5_signHere 7 = .ok (.aload_n 0, 1) := by decide +kernel
theorem dX5_signHere_8 : decode cX5_signHere 8 = .ok (.getfield 29, 3) := by decide +kernel
theorem dX5_signHere_11 : decode cX5_signHere 11 = .ok (.aload_n 0, 1) := by decide +kernel
theorem dX5_signHere_12 : decode cX5_signHere 12 = .ok (.getfield 22, 3) := by decide +kernel
theorem dX5_signHere_15 : decode cX5_signHere 15 = .ok (.if_icmp .ge 24, 3) := by decide +kernel
theorem dX5_signHere_18 : decode cX5_signHere 18 = .ok (.aload_n 0, 1) := by decide +kernel
theorem dX5_signHere_19 : decode cX5_signHere 19 = .ok (.getfield 29, 3) := by decide +kernel
theorem dX5_signHere_22 : decode cX5_signHere 22 = .ok (.bipush 60, 2) := by decide +kernel
theorem dX5_signHere_24 : decode cX5_signHere 24 = .ok (.if_icmp .ge 15, 3) := by decide +kernel
theorem dX5_signHere_27 : decode cX5_signHere 27 = .ok (.aload_n 0, 1) := by decide +kernel
theorem dX5_signHere_28 : decode cX5_signHere 28 = .ok (.getfield 9, 3) := by decide +kernel
theorem dX5_signHere_31 : decode cX5_signHere 31 = .ok (.aload_n 0, 1) := by decide +kernel
theorem dX5_signHere_32 : decode cX5_signHere 32 = .ok (.getfield 29, 3) := by decide +kernel
theorem dX5_signHere_35 : decode cX5_signHere 35 = .ok (.caload, 1) := by decide +kernel
theorem dX5_signHere_36 : decode cX5_signHere 36 = .ok (.goto 4, 3) := by decide +kernel
theorem dX5_signHere_39 : decode cX5_signHere 39 = .ok (.iconst (-1), 1) := by decide +kernel
theorem dX5_signHere_40 : decode cX5_signHere 40 = .ok (.ireturn, 1) := by decide +kernel
theorem dX6_init_0 : decode cX6_init 0 = .ok (.aload_n 0, 1) := by decide +kernel
theorem dX6_init_1 : decode cX6_init 1 = .ok (.invokespecial 1, 3) := by decide +kernel
theorem dX6_init_4 : decode cX6_init 4 = .ok (.return_, 1) := by decide +kernel
theorem dX6_start_0 : decode cX6_start 0 = .ok (.aload_n 0, 1) := by decide +kernel
theorem dX6_start_1 : decode cX6_start 1 = .ok (.iload_n 1, 1) := by decide +kernel
theorem dX6_start_2 : decode cX6_start 2 = .ok (.putfield 7, 3) := by decide +kernel
theorem dX6_start_5 : decode cX6_start 5 = .ok (.aload_n 0, 1) := by decide +kernel
theorem dX6_start_6 : decode cX6_start 6 = .ok (.iconst 0, 1) := by decide +kernel
theorem dX6_start_7 : decode cX6_start 7 = .ok (.putfield 13, 3) := by decide +kernel
theorem dX6_start_10 : decode cX6_start 10 = .ok (.aload_n 0, 1) := by decide +kernel
theorem dX6_start_11 : decode cX6_start 11 = .ok (.iconst 0, 1) := by decide +kernel
theorem dX6_start_12 : decode cX6_start 12 = .ok (.putfield 16, 3) := by decide +kernel
theorem dX6_start_15 : decode cX6_start 15 = .ok (.return_, 1) := by decide +kernel
theorem dX6_copyFrom_0 : decode cX6_copyFrom 0 = .ok (.aload_n 0, 1) := by decide +kernel
theorem dX6_copyFrom_1 : decode cX6_copyFrom 1 = .ok (.aload_n 1, 1) := by decide +kernel
theorem dX6_copyFrom_2 : decode cX6_copyFrom 2 = .ok (.getfield 7, 3) := by decide +kernel
theorem dX6_copyFrom_5 : decode cX6_copyFrom 5 = .ok (.putfield 7, 3) := by decide +kernel
theorem dX6_copyFrom_8 : decode cX6_copyFrom 8 = .ok (.aload_n 0, 1) := by decide +kernel
theorem dX6_copyFrom_9 : decode cX6_copyFrom 9 = .ok (.aload_n 1, 1) := by decide +kernel
theorem dX6_copyFrom_10 : decode cX6_copyFrom 10 = .ok (.getfield 13, 3) := by decide +kernel
theorem dX6_copyFrom_13 : decode cX6_copyFrom 13 = .ok (.putfield 13, 3) := by decide +kernel
theorem dX6_copyFrom_16 : decode cX6_copyFrom 16 = .ok (.aload_n 0, 1) := by decide +kernel
theorem dX6_copyFrom_17 : decode cX6_copyFrom 17 = .ok (.aload_n 1, 1) := by decide +kernel
theorem dX6_copyFrom_18 : decode cX6_copyFrom 18 = .ok (.getfield 16, 3) := by decide +kernel
theorem dX6_copyFrom_21 : decode cX6_copyFrom 21 = .ok (.putfield 16, 3) := by decide +kernel
theorem dX6_copyFrom_24 : decode cX6_copyFrom 24 = .ok (.return_, 1) := by decide +kernel
theorem dX7_init_0 : decode cX7_init 0 = .ok (.aload_n 0, 1) := by decide +kernel
theorem dX7_init_1 : decode cX7_init 1 = .ok (.invokespecial 3, 3) := by decide +kernel
theorem dX7_init_4 : decode cX7_init 4 = .ok (.aload_n 0, 1) := by decide +kernel
theorem dX7_init_5 : decode cX7_init 5 = .ok (.bipush 10, 2) := by decide +kernel
theorem dX7_init_7 : decode cX7_init 7 = .ok (.newarray .int, 2) := by decide +kernel
theorem dX7_init_9 : decode cX7_init 9 = .ok (.putfield 9, 3) := by decide +kernel
theorem dX7_init_12 : decode cX7_init 12 = .ok (.aload_n 0, 1) := by decide +kernel
theorem dX7_init_13 : decode cX7_init 13 = .ok (.bipush 10, 2) := by decide +kernel
theorem dX7_init_15 : decode cX7_init 15 = .ok (.newarray .int, 2) := by decide +kernel
theorem dX7_init_17 : decode cX7_init 17 = .ok (.putfield 15, 3) := by decide +kernel
theorem dX7_init_20 : decode cX7_init 20 = .ok (.return_, 1) := by decide +kernel
theorem dX7_start_0 : decode cX7_start 0 = .ok (.aload_n 0, 1) := by decide +kernel
theorem dX7_start_1 : decode cX7_start 1 = .ok (.iconst 0, 1) := by decide +kernel
theorem dX7_start_2 : decode cX7_start 2 = .ok (.putfield 18, 3) := by decide +kernel
theorem dX7_start_5 : decode cX7_start 5 = .ok (.aload_n 0, 1) := by decide +kernel
theorem dX7_start_6 : decode cX7_start 6 = .ok (.iconst 0, 1) := by decide +kernel
theorem dX7_start_7 : decode cX7_start 7 = .ok (.putfield 22, 3) := by decide +kernel
theorem dX7_start_10 : decode cX7_start 10 = .ok (.aload_n 0, 1) := by decide +kernel
theorem dX7_start_11 : decode cX7_start 11 = .ok (.iconst 0, 1) := by decide +kernel
theorem dX7_start_12 : decode cX7_start 12 = .ok (.putfield 25, 3) := by decide +kernel
theorem dX7_start_15 : decode cX7_start 15 = .ok (.return_, 1) := by decide +kernel
theorem dX7_copyFrom_0 : decode cX7_copyFrom 0 = .ok (.aload_n 1, 1) := by decide +kernel
theorem dX7_copyFrom_1 : decode cX7_copyFrom 1 = .ok (.getfield 9, 3) := by decide +kernel
theorem dX7_copyFrom_4 : decode cX7_copyFrom 4 = .ok (.iconst 0, 1) := by decide +kernel
theorem dX7_copyFrom_5 : decode cX7_copyFrom 5 = .ok (.aload_n 0, 1) := by decide +kernel
theorem dX7_copyFrom_6 : decode cX7_copyFrom 6 = .ok (.getfield 9, 3) := by decide +kernel
theorem dX7_copyFrom_9 : decode cX7_copyFrom 9 = .ok (.iconst 0, 1) := by decide +kernel
theorem dX7_copyFrom_10 : decode cX7_copyFrom 10 = .ok (.bipush 10, 2) := by decide +kernel
theorem dX7_copyFrom_12 : decode cX7_copyFrom 12 = .ok (.invokestatic 28, 3) := by decide +kernel
theorem dX7_copyFrom_15 : decode cX7_copyFrom 15 = .ok (.aload_n 1, 1) := by decide +kernel
theorem dX7_copyFrom_16 : decode cX7_copyFrom 16 = .ok (.getfield 15, 3) := by decide +kernel
theorem dX7_copyFrom_19 : decode cX7_copyFrom 19 = .ok (.iconst 0, 1) := by decide +kernel
theorem dX7_copyFrom_20 : decode cX7_copyFrom 20 = .ok (.aload_n 0, 1) := by decide +kernel
theorem dX7_copyFrom_21 : decode cX7_copyFrom 21 = .ok (.getfield 15, 3) := by decide +kernel
theorem dX7_copyFrom_24 : decode cX7_copyFrom 24 = .ok (.iconst 0, 1) := by decide +kernel
theorem dX7_copyFrom_25 : decode cX7_copyFrom 25 = .ok (.bipush 10, 2) := by decide +kernel
theorem dX7_copyFrom_27 : decode cX7_copyFrom 27 = .ok (.invokestatic 28, 3) := by decide +kernel
theorem dX7_copyFrom_30 : decode cX7_copyFrom 30 = .ok (.aload_n 0, 1) := by decide +kernel
theorem dX7_copyFrom_31 : decode cX7_copyFrom 31 = .ok (.aload_n 1, 1) := by decide +kernel
theorem dX7_copyFrom_32 : decode cX7_copyFrom 32 = .ok (.getfield 18, 3) := by decide +kernel
theorem dX7_copyFrom_35 : decode cX7_copyFrom 35 = .ok (.putfield 18, 3) := by decide +kernel
theorem dX7_copyFrom_38 : decode cX7_copyFrom 38 = .ok (.aload_n 0, 1) := by decide +kernel
theorem dX7_copyFrom_39 : decode cX7_copyFrom 39 = .ok (.aload_n 1, 1) := by decide +kernel
theorem dX7_copyFrom_40 : decode cX7_copyFrom 40 = .ok (.getfield 22, 3) := by decide +kernel
theorem dX7_copyFrom_43 : decode cX7_copyFrom 43 = .ok (.putfield 22, 3) := by decide +kernel
theorem dX7_copyFrom_46 : decode cX7_copyFrom 46 = .ok (.aload_n 0, 1) := by decide +kernel
theorem dX7_copyFrom_47 : decode cX7_copyFrom 47 = .ok (.aload_n 1, 1) := by decide +kernel
theorem dX7_copyFrom_48 : decode cX7_copyFrom 48 = .ok (.getfield 25, 3) := by decide +kernel
theorem dX7_copyFrom_51 : decode cX7_copyFrom 51 = .ok (.putfield 25, 3) := by decide +kernel
theorem dX7_copyFrom_54 : decode cX7_copyFrom 54 = .ok (.return_, 1) := by decide +kernel
theorem dX7_hasCourse_0 : decode cX7_hasCourse 0 = .ok (.iload_n 1, 1) := by decide +kernel
theorem dX7_hasCourse_1 : decode cX7_hasCourse 1 = .ok (.ifCond .lt 21, 3) := by decide +kernel
theorem dX7_hasCourse_4 : decode cX7_hasCourse 4 = .ok (.iload_n 1, 1) := by decide +kernel
theorem dX7_hasCourse_5 : decode cX7_hasCourse 5 = .ok (.aload_n 0, 1) := by decide +kernel
theorem dX7_hasCourse_6 : decode cX7_hasCourse 6 = .ok (.getfield 18, 3) := by decide +kernel
theorem dX7_hasCourse_9 : decode cX7_hasCourse 9 = .ok (.if_icmp .ge 13, 3) := by decide +kernel
theorem dX7_hasCourse_12 : decode cX7_hasCourse 12 = .ok (.iload_n 1, 1) := by decide +kernel
theorem dX7_hasCourse_13 : decode cX7_hasCourse 13 = .ok (.bipush 10, 2) := by decide +kernel
theorem dX7_hasCourse_15 : decode cX7_hasCourse 15 = .ok (.if_icmp .ge 7, 3) := by decide +kernel
theorem dX7_hasCourse_18 : decode cX7_hasCourse 18 = .ok (.iconst 1, 1) := by decide +kernel
theorem dX7_hasCourse_19 : decode cX7_hasCourse 19 = .ok (.goto 4, 3) := by decide +kernel
theorem dX7_hasCourse_22 : decode cX7_hasCourse 22 = .ok (.iconst 0, 1) := by decide +kernel
theorem dX7_hasCourse_23 : decode cX7_hasCourse 23 = .ok (.ireturn, 1) := by decide +kernel
theorem dX7_gradeAt_0 : decode cX7_gradeAt 0 = .ok (.aload_n 0, 1) := by decide +kernel
theorem dX7_gradeAt_1 : decode cX7_gradeAt 1 = .ok (.iload_n 1, 1) := by decide +kernel
theorem dX7_gradeAt_2 : decode cX7_gradeAt 2 = .ok (.invokevirtual 34, 3) := by decide +kernel
theorem dX7_gradeAt_5 : decode cX7_gradeAt 5 = .ok (.ifCond .eq 12, 3) := by decide +kernel
theorem dX7_gradeAt_8 : decode cX7_gradeAt 8 = .ok (.aload_n 0, 1) := by decide +kernel
theorem dX7_gradeAt_9 : decode cX7_gradeAt 9 = .ok (.getfield 9, 3) := by decide +kernel
theorem dX7_gradeAt_12 : decode cX7_gradeAt 12 = .ok (.iload_n 1, 1) := by decide +kernel
theorem dX7_gradeAt_13 : decode cX7_gradeAt 13 = .ok (.iaload, 1) := by decide +kernel
theorem dX7_gradeAt_14 : decode cX7_gradeAt 14 = .ok (.goto 4, 3) := by decide +kernel
theorem dX7_gradeAt_17 : decode cX7_gradeAt 17 = .ok (.iconst 0, 1) := by decide +kernel
theorem dX7_gradeAt_18 : decode cX7_gradeAt 18 = .ok (.ireturn, 1) := by decide +kernel
theorem dX7_cubesAt_0 : decode cX7_cubesAt 0 = .ok (.aload_n 0, 1) := by decide +kernel
theorem dX7_cubesAt_1 : decode cX7_cubesAt 1 = .ok (.iload_n 1, 1) := by decide +kernel
theorem dX7_cubesAt_2 : decode cX7_cubesAt 2 = .ok (.invokevirtual 34, 3) := by decide +kernel
theorem dX7_cubesAt_5 : decode cX7_cubesAt 5 = .ok (.ifCond .eq 12, 3) := by decide +kernel
theorem dX7_cubesAt_8 : decode cX7_cubesAt 8 = .ok (.aload_n 0, 1) := by decide +kernel
theorem dX7_cubesAt_9 : decode cX7_cubesAt 9 = .ok (.getfield 15, 3) := by decide +kernel
theorem dX7_cubesAt_12 : decode cX7_cubesAt 12 = .ok (.iload_n 1, 1) := by decide +kernel
theorem dX7_cubesAt_13 : decode cX7_cubesAt 13 = .ok (.iaload, 1) := by decide +kernel
theorem dX7_cubesAt_14 : decode cX7_cubesAt 14 = .ok (.goto 4, 3) := by decide +kernel
theorem dX7_cubesAt_17 : decode cX7_cubesAt 17 = .ok (.iconst 0, 1) := by decide +kernel
theorem dX7_cubesAt_18 : decode cX7_cubesAt 18 = .ok (.ireturn, 1) := by decide +kernel
theorem dX7_cubesFrom_0 : decode cX7_cubesFrom 0 = .ok (.iconst 0, 1) := by decide +kernel
theorem dX7_cubesFrom_1 : decode cX7_cubesFrom 1 = .ok (.istore_n 2, 1) := by decide +kernel
theorem dX7_cubesFrom_2 : decode cX7_cubesFrom 2 = .ok (.iconst 0, 1) := by decide +kernel
theorem dX7_cubesFrom_3 : decode cX7_cubesFrom 3 = .ok (.iload_n 1, 1) := by decide +kernel
theorem dX7_cubesFrom_4 : decode cX7_cubesFrom 4 = .ok (.invokestatic 38, 3) := by decide +kernel
theorem dX7_cubesFrom_7 : decode cX7_cubesFrom 7 = .ok (.istore_n 3, 1) := by decide +kernel
theorem dX7_cubesFrom_8 : decode cX7_cubesFrom 8 = .ok (.iload_n 3, 1) := by decide +kernel
theorem dX7_cubesFrom_9 : decode cX7_cubesFrom 9 = .ok (.aload_n 0, 1) := by decide +kernel
theorem dX7_cubesFrom_10 : decode cX7_cubesFrom 10 = .ok (.getfield 18, 3) := by decide +kernel
theorem dX7_cubesFrom_13 : decode cX7_cubesFrom 13 = .ok (.if_icmp .ge 24, 3) := by decide +kernel
theorem dX7_cubesFrom_16 : decode cX7_cubesFrom 16 = .ok (.iload_n 3, 1) := by decide +kernel
theorem dX7_cubesFrom_17 : decode cX7_cubesFrom 17 = .ok (.bipush 10, 2) := by decide +kernel
theorem dX7_cubesFrom_19 : decode cX7_cubesFrom 19 = .ok (.if_icmp .ge 18, 3) := by decide +kernel
theorem dX7_cubesFrom_22 : decode cX7_cubesFrom 22 = .ok (.iload_n 2, 1) := by decide +kernel
theorem dX7_cubesFrom_23 : decode cX7_cubesFrom 23 = .ok (.aload_n 0, 1) := by decide +kernel
theorem dX7_cubesFrom_24 : decode cX7_cubesFrom 24 = .ok (.getfield 15, 3) := by decide +kernel
theorem dX7_cubesFrom_27 : decode cX7_cubesFrom 27 = .ok (.iload_n 3, 1) := by decide +kernel
theorem dX7_cubesFrom_28 : decode cX7_cubesFrom 28 = .ok (.iaload, 1) := by decide +kernel
theorem dX7_cubesFrom_29 : decode cX7_cubesFrom 29 = .ok (.iadd, 1) := by decide +kernel
theorem dX7_cubesFrom_30 : decode cX7_cubesFrom 30 = .ok (.istore_n 2, 1) := by decide +kernel
theorem dX7_cubesFrom_31 : decode cX7_cubesFrom 31 = .ok (.iinc 3 1, 3) := by decide +kernel
theorem dX7_cubesFrom_34 : decode cX7_cubesFrom 34 = .ok (.goto (-26), 3) := by decide +kernel
theorem dX7_cubesFrom_37 : decode cX7_cubesFrom 37 = .ok (.iload_n 2, 1) := by decide +kernel
theorem dX7_cubesFrom_38 : decode cX7_cubesFrom 38 = .ok (.ireturn, 1) := by decide +kernel
theorem dX7_addCourse_0 : decode cX7_addCourse 0 = .ok (.aload_n 0, 1) := by decide +kernel
theorem dX7_addCourse_1 : decode cX7_addCourse 1 = .ok (.getfield 18, 3) := by decide +kernel
theorem dX7_addCourse_4 : decode cX7_addCourse 4 = .ok (.istore_n 3, 1) := by decide +kernel
theorem dX7_addCourse_5 : decode cX7_addCourse 5 = .ok (.iload_n 3, 1) := by decide +kernel
theorem dX7_addCourse_6 : decode cX7_addCourse 6 = .ok (.ifCond .lt 33, 3) := by decide +kernel
theorem dX7_addCourse_9 : decode cX7_addCourse 9 = .ok (.iload_n 3, 1) := by decide +kernel
theorem dX7_addCourse_10 : decode cX7_addCourse 10 = .ok (.bipush 10, 2) := by decide +kernel
theorem dX7_addCourse_12 : decode cX7_addCourse 12 = .ok (.if_icmp .ge 27, 3) := by decide +kernel
theorem dX7_addCourse_15 : decode cX7_addCourse 15 = .ok (.aload_n 0, 1) := by decide +kernel
theorem dX7_addCourse_16 : decode cX7_addCourse 16 = .ok (.getfield 9, 3) := by decide +kernel
theorem dX7_addCourse_19 : decode cX7_addCourse 19 = .ok (.iload_n 3, 1) := by decide +kernel
theorem dX7_addCourse_20 : decode cX7_addCourse 20 = .ok (.iload_n 1, 1) := by decide +kernel
theorem dX7_addCourse_21 : decode cX7_addCourse 21 = .ok (.iastore, 1) := by decide +kernel
theorem dX7_addCourse_22 : decode cX7_addCourse 22 = .ok (.aload_n 0, 1) := by decide +kernel
theorem dX7_addCourse_23 : decode cX7_addCourse 23 = .ok (.getfield 15, 3) := by decide +kernel
theorem dX7_addCourse_26 : decode cX7_addCourse 26 = .ok (.iload_n 3, 1) := by decide +kernel
theorem dX7_addCourse_27 : decode cX7_addCourse 27 = .ok (.iload_n 2, 1) := by decide +kernel
theorem dX7_addCourse_28 : decode cX7_addCourse 28 = .ok (.iastore, 1) := by decide +kernel
theorem dX7_addCourse_29 : decode cX7_addCourse 29 = .ok (.aload_n 0, 1) := by decide +kernel
theorem dX7_addCourse_30 : decode cX7_addCourse 30 = .ok (.dup, 1) := by decide +kernel
theorem dX7_addCourse_31 : decode cX7_addCourse 31 = .ok (.getfield 18, 3) := by decide +kernel
theorem dX7_addCourse_34 : decode cX7_addCourse 34 = .ok (.iconst 1, 1) := by decide +kernel
theorem dX7_addCourse_35 : decode cX7_addCourse 35 = .ok (.iadd, 1) := by decide +kernel
theorem dX7_addCourse_36 : decode cX7_addCourse 36 = .ok (.putfield 18, 3) := by decide +kernel
theorem dX7_addCourse_39 : decode cX7_addCourse 39 = .ok (.iload_n 3, 1) := by decide +kernel
theorem dX7_addCourse_40 : decode cX7_addCourse 40 = .ok (.ireturn, 1) := by decide +kernel
theorem dX7_removeFrom_0 : decode cX7_removeFrom 0 = .ok (.aload_n 0, 1) := by decide +kernel
theorem dX7_removeFrom_1 : decode cX7_removeFrom 1 = .ok (.iload_n 1, 1) := by decide +kernel
theorem dX7_removeFrom_2 : decode cX7_removeFrom 2 = .ok (.invokevirtual 44, 3) := by decide +kernel
theorem dX7_removeFrom_5 : decode cX7_removeFrom 5 = .ok (.istore_n 2, 1) := by decide +kernel
theorem dX7_removeFrom_6 : decode cX7_removeFrom 6 = .ok (.aload_n 0, 1) := by decide +kernel
theorem dX7_removeFrom_7 : decode cX7_removeFrom 7 = .ok (.iload_n 1, 1) := by decide +kernel
theorem dX7_removeFrom_8 : decode cX7_removeFrom 8 = .ok (.invokevirtual 34, 3) := by decide +kernel
theorem dX7_removeFrom_11 : decode cX7_removeFrom 11 = .ok (.ifCond .eq 8, 3) := by decide +kernel
theorem dX7_removeFrom_14 : decode cX7_removeFrom 14 = .ok (.aload_n 0, 1) := by decide +kernel
theorem dX7_removeFrom_15 : decode cX7_removeFrom 15 = .ok (.iload_n 1, 1) := by decide +kernel
theorem dX7_removeFrom_16 : decode cX7_removeFrom 16 = .ok (.putfield 18, 3) := by decide +kernel
theorem dX7_removeFrom_19 : decode cX7_removeFrom 19 = .ok (.iload_n 2, 1) := by decide +kernel
theorem dX7_removeFrom_20 : decode cX7_removeFrom 20 = .ok (.ireturn, 1) := by decide +kernel
theorem dX7_lowestWeakCourse_0 : decode cX7_lowestWeakCourse 0 = .ok (.iconst (-1), 1) := by decide +kernel
theorem dX7_lowestWeakCourse_1 : decode cX7_lowestWeakCourse 1 = .ok (.istore_n 3, 1) := by decide +kernel
theorem dX7_lowestWeakCourse_2 : decode cX7_lowestWeakCourse 2 = .ok (.iload_n 2, 1) := by decide +kernel
theorem dX7_lowestWeakCourse_3 : decode cX7_lowestWeakCourse 3 = .ok (.istore 4, 2) := by decide +kernel
theorem dX7_lowestWeakCourse_5 : decode cX7_lowestWeakCourse 5 = .ok (.aload_n 0, 1) := by decide +kernel
theorem dX7_lowestWeakCourse_6 : decode cX7_lowestWeakCourse 6 = .ok (.getfield 18, 3) := by decide +kernel
theorem dX7_lowestWeakCourse_9 : decode cX7_lowestWeakCourse 9 = .ok (.bipush 10, 2) := by decide +kernel
theorem dX7_lowestWeakCourse_11 : decode cX7_lowestWeakCourse 11 = .ok (.invokestatic 48, 3) := by decide +kernel
theorem dX7_lowestWeakCourse_14 : decode cX7_lowestWeakCourse 14 = .ok (.iconst 1, 1) := by decide +kernel
theorem dX7_lowestWeakCourse_15 : decode cX7_lowestWeakCourse 15 = .ok (.isub, 1) := by decide +kernel
theorem dX7_lowestWeakCourse_16 : decode cX7_lowestWeakCourse 16 = .ok (.istore 5, 2) := by decide +kernel
theorem dX7_lowestWeakCourse_18 : decode cX7_lowestWeakCourse 18 = .ok (.iload 5, 2) := by decide +kernel
theorem dX7_lowestWeakCourse_20 : decode cX7_lowestWeakCourse 20 = .ok (.ifCond .lt 48, 3) := by decide +kernel
theorem dX7_lowestWeakCourse_23 : decode cX7_lowestWeakCourse 23 = .ok (.aload_n 0, 1) := by decide +kernel
theorem dX7_lowestWeakCourse_24 : decode cX7_lowestWeakCourse 24 = .ok (.getfield 15, 3) := by decide +kernel
theorem dX7_lowestWeakCourse_27 : decode cX7_lowestWeakCourse 27 = .ok (.iload 5, 2) := by decide +kernel
theorem dX7_lowestWeakCourse_29 : decode cX7_lowestWeakCourse 29 = .ok (.iaload, 1) := by decide +kernel
theorem dX7_lowestWeakCourse_30 : decode cX7_lowestWeakCourse 30 = .ok (.aload_n 0, 1) := by decide +kernel
theorem dX7_lowestWeakCourse_31 : decode cX7_lowestWeakCourse 31 = .ok (.getfield 9, 3) := by decide +kernel
theorem dX7_lowestWeakCourse_34 : decode cX7_lowestWeakCourse 34 = .ok (.iload 5, 2) := by decide +kernel
theorem dX7_lowestWeakCourse_36 : decode cX7_lowestWeakCourse 36 = .ok (.iaload, 1) := by decide +kernel
theorem dX7_lowestWeakCourse_37 : decode cX7_lowestWeakCourse 37 = .ok (.iload_n 1, 1) := by decide +kernel
theorem dX7_lowestWeakCourse_38 : decode cX7_lowestWeakCourse 38 = .ok (.invokestatic 51, 3) := by decide +kernel
theorem dX7_lowestWeakCourse_41 : decode cX7_lowestWeakCourse 41 = .ok (.imul, 1) := by decide +kernel
theorem dX7_lowestWeakCourse_42 : decode cX7_lowestWeakCourse 42 = .ok (.iload 4, 2) := by decide +kernel
theorem dX7_lowestWeakCourse_44 : decode cX7_lowestWeakCourse 44 = .ok (.if_icmp .ge 6, 3) := by decide +kernel
theorem dX7_lowestWeakCourse_47 : decode cX7_lowestWeakCourse 47 = .ok (.iload 5, 2) := by decide +kernel
theorem dX7_lowestWeakCourse_49 : decode cX7_lowestWeakCourse 49 = .ok (.istore_n 3, 1) := by decide +kernel
theorem dX7_lowestWeakCourse_50 : decode cX7_lowestWeakCourse 50 = .ok (.iload 4, 2) := by decide +kernel
theorem dX7_lowestWeakCourse_52 : decode cX7_lowestWeakCourse 52 = .ok (.aload_n 0, 1) := by decide +kernel
theorem dX7_lowestWeakCourse_53 : decode cX7_lowestWeakCourse 53 = .ok (.getfield 15, 3) := by decide +kernel
theorem dX7_lowestWeakCourse_56 : decode cX7_lowestWeakCourse 56 = .ok (.iload 5, 2) := by decide +kernel
theorem dX7_lowestWeakCourse_58 : decode cX7_lowestWeakCourse 58 = .ok (.iaload, 1) := by decide +kernel
theorem dX7_lowestWeakCourse_59 : decode cX7_lowestWeakCourse 59 = .ok (.iadd, 1) := by decide +kernel
theorem dX7_lowestWeakCourse_60 : decode cX7_lowestWeakCourse 60 = .ok (.istore 4, 2) := by decide +kernel
theorem dX7_lowestWeakCourse_62 : decode cX7_lowestWeakCourse 62 = .ok (.iinc 5 (-1), 3) := by decide +kernel
theorem dX7_lowestWeakCourse_65 : decode cX7_lowestWeakCourse 65 = .ok (.goto (-47), 3) := by decide +kernel
theorem dX7_lowestWeakCourse_68 : decode cX7_lowestWeakCourse 68 = .ok (.iload_n 3, 1) := by decide +kernel
theorem dX7_lowestWeakCourse_69 : decode cX7_lowestWeakCourse 69 = .ok (.ireturn, 1) := by decide +kernel
theorem dX7_spareCubes_0 : decode cX7_spareCubes 0 = .ok (.bipush 20, 2) := by decide +kernel
theorem dX7_spareCubes_2 : decode cX7_spareCubes 2 = .ok (.istore_n 1, 1) := by decide +kernel
theorem dX7_spareCubes_3 : decode cX7_spareCubes 3 = .ok (.iconst 0, 1) := by decide +kernel
theorem dX7_spareCubes_4 : decode cX7_spareCubes 4 = .ok (.istore_n 2, 1) := by decide +kernel
theorem dX7_spareCubes_5 : decode cX7_spareCubes 5 = .ok (.aload_n 0, 1) := by decide +kernel
theorem dX7_spareCubes_6 : decode cX7_spareCubes 6 = .ok (.getfield 18, 3) := by decide +kernel
theorem dX7_spareCubes_9 : decode cX7_spareCubes 9 = .ok (.bipush 10, 2) := by decide +kernel
theorem dX7_spareCubes_11 : decode cX7_spareCubes 11 = .ok (.invokestatic 48, 3) := by decide +kernel
theorem dX7_spareCubes_14 : decode cX7_spareCubes 14 = .ok (.iconst 1, 1) := by decide +kernel
theorem dX7_spareCubes_15 : decode cX7_spareCubes 15 = .ok (.isub, 1) := by decide +kernel
theorem dX7_spareCubes_16 : decode cX7_spareCubes 16 = .ok (.istore_n 3, 1) := by decide +kernel
theorem dX7_spareCubes_17 : decode cX7_spareCubes 17 = .ok (.iload_n 3, 1) := by decide +kernel
theorem dX7_spareCubes_18 : decode cX7_spareCubes 18 = .ok (.ifCond .lt 45, 3) := by decide +kernel
theorem dX7_spareCubes_21 : decode cX7_spareCubes 21 = .ok (.iload_n 1, 1) := by decide +kernel
theorem dX7_spareCubes_22 : decode cX7_spareCubes 22 = .ok (.aload_n 0, 1) := by decide +kernel
theorem dX7_spareCubes_23 : decode cX7_spareCubes 23 = .ok (.getfield 15, 3) := by decide +kernel
theorem dX7_spareCubes_26 : decode cX7_spareCubes 26 = .ok (.iload_n 3, 1) := by decide +kernel
theorem dX7_spareCubes_27 : decode cX7_spareCubes 27 = .ok (.iaload, 1) := by decide +kernel
theorem dX7_spareCubes_28 : decode cX7_spareCubes 28 = .ok (.aload_n 0, 1) := by decide +kernel
theorem dX7_spareCubes_29 : decode cX7_spareCubes 29 = .ok (.getfield 9, 3) := by decide +kernel
theorem dX7_spareCubes_32 : decode cX7_spareCubes 32 = .ok (.iload_n 3, 1) := by decide +kernel
theorem dX7_spareCubes_33 : decode cX7_spareCubes 33 = .ok (.iaload, 1) := by decide +kernel
theorem dX7_spareCubes_34 : decode cX7_spareCubes 34 = .ok (.aload_n 0, 1) := by decide +kernel
theorem dX7_spareCubes_35 : decode cX7_spareCubes 35 = .ok (.getfield 22, 3) := by decide +kernel
theorem dX7_spareCubes_38 : decode cX7_spareCubes 38 = .ok (.invokestatic 51, 3) := by decide +kernel
theorem dX7_spareCubes_41 : decode cX7_spareCubes 41 = .ok (.imul, 1) := by decide +kernel
theorem dX7_spareCubes_42 : decode cX7_spareCubes 42 = .ok (.iload_n 2, 1) := by decide +kernel
theorem dX7_spareCubes_43 : decode cX7_spareCubes 43 = .ok (.isub, 1) := by decide +kernel
theorem dX7_spareCubes_44 : decode cX7_spareCubes 44 = .ok (.invokestatic 48, 3) := by decide +kernel
theorem dX7_spareCubes_47 : decode cX7_spareCubes 47 = .ok (.istore_n 1, 1) := by decide +kernel
theorem dX7_spareCubes_48 : decode cX7_spareCubes 48 = .ok (.iload_n 2, 1) := by decide +kernel
theorem dX7_spareCubes_49 : decode cX7_spareCubes 49 = .ok (.aload_n 0, 1) := by decide +kernel
theorem dX7_spareCubes_50 : decode cX7_spareCubes 50 = .ok (.getfield 15, 3) := by decide +kernel
theorem dX7_spareCubes_53 : decode cX7_spareCubes 53 = .ok (.iload_n 3, 1) := by decide +kernel
theorem dX7_spareCubes_54 : decode cX7_spareCubes 54 = .ok (.iaload, 1) := by decide +kernel
theorem dX7_spareCubes_55 : decode cX7_spareCubes 55 = .ok (.iadd, 1) := by decide +kernel
theorem dX7_spareCubes_56 : decode cX7_spareCubes 56 = .ok (.istore_n 2, 1) := by decide +kernel
theorem dX7_spareCubes_57 : decode cX7_spareCubes 57 = .ok (.iinc 3 (-1), 3) := by decide +kernel
theorem dX7_spareCubes_60 : decode cX7_spareCubes 60 = .ok (.goto (-43), 3) := by decide +kernel
theorem dX7_spareCubes_63 : decode cX7_spareCubes 63 = .ok (.iload_n 1, 1) := by decide +kernel
theorem dX7_spareCubes_64 : decode cX7_spareCubes 64 = .ok (.ireturn, 1) := by decide +kernel
theorem dJ9_floorMod_7cf53_0 : decode cJ9_floorMod_7cf53 0 = .ok (.iload_n 0, 1) := by decide +kernel
theorem dJ9_floorMod_7cf53_1 : decode cJ9_floorMod_7cf53 1 = .ok (.iload_n 1, 1) := by decide +kernel
theorem dJ9_floorMod_7cf53_2 : decode cJ9_floorMod_7cf53 2 = .ok (.irem, 1) := by decide +kernel
theorem dJ9_floorMod_7cf53_3 : decode cJ9_floorMod_7cf53 3 = .ok (.istore_n 2, 1) := by decide +kernel
theorem dJ9_floorMod_7cf53_4 : decode cJ9_floorMod_7cf53 4 = .ok (.iload_n 0, 1) := by decide +kernel
theorem dJ9_floorMod_7cf53_5 : decode cJ9_floorMod_7cf53 5 = .ok (.iload_n 1, 1) := by decide +kernel
theorem dJ9_floorMod_7cf53_6 : decode cJ9_floorMod_7cf53 6 = .ok (.ixor, 1) := by decide +kernel
theorem dJ9_floorMod_7cf53_7 : decode cJ9_floorMod_7cf53 7 = .ok (.ifCond .ge 11, 3) := by decide +kernel
theorem dJ9_floorMod_7cf53_10 : decode cJ9_floorMod_7cf53 10 = .ok (.iload_n 2, 1) := by decide +kernel
theorem dJ9_floorMod_7cf53_11 : decode cJ9_floorMod_7cf53 11 = .ok (.ifCond .eq 7, 3) := by decide +kernel
theorem dJ9_floorMod_7cf53_14 : decode cJ9_floorMod_7cf53 14 = .ok (.iload_n 2, 1) := by decide +kernel
theorem dJ9_floorMod_7cf53_15 : decode cJ9_floorMod_7cf53 15 = .ok (.iload_n 1, 1) := by decide +kernel
theorem dJ9_floorMod_7cf53_16 : decode cJ9_floorMod_7cf53 16 = .ok (.iadd, 1) := by decide +kernel
theorem dJ9_floorMod_7cf53_17 : decode cJ9_floorMod_7cf53 17 = .ok (.ireturn, 1) := by decide +kernel
theorem dJ9_floorMod_7cf53_18 : decode cJ9_floorMod_7cf53 18 = .ok (.iload_n 2, 1) := by decide +kernel
theorem dJ9_floorMod_7cf53_19 : decode cJ9_floorMod_7cf53 19 = .ok (.ireturn, 1) := by decide +kernel
theorem dJ9_max_7cf53_0 : decode cJ9_max_7cf53 0 = .ok (.iload_n 0, 1) := by decide +kernel
theorem dJ9_max_7cf53_1 : decode cJ9_max_7cf53 1 = .ok (.iload_n 1, 1) := by decide +kernel
theorem dJ9_max_7cf53_2 : decode cJ9_max_7cf53 2 = .ok (.if_icmp .lt 7, 3) := by decide +kernel
theorem dJ9_max_7cf53_5 : decode cJ9_max_7cf53 5 = .ok (.iload_n 0, 1) := by decide +kernel
theorem dJ9_max_7cf53_6 : decode cJ9_max_7cf53 6 = .ok (.goto 4, 3) := by decide +kernel
theorem dJ9_max_7cf53_9 : decode cJ9_max_7cf53 9 = .ok (.iload_n 1, 1) := by decide +kernel
theorem dJ9_max_7cf53_10 : decode cJ9_max_7cf53 10 = .ok (.ireturn, 1) := by decide +kernel
theorem dJ9_min_7cf53_0 : decode cJ9_min_7cf53 0 = .ok (.iload_n 0, 1) := by decide +kernel
theorem dJ9_min_7cf53_1 : decode cJ9_min_7cf53 1 = .ok (.iload_n 1, 1) := by decide +kernel
theorem dJ9_min_7cf53_2 : decode cJ9_min_7cf53 2 = .ok (.if_icmp .gt 7, 3) := by decide +kernel
theorem dJ9_min_7cf53_5 : decode cJ9_min_7cf53 5 = .ok (.iload_n 0, 1) := by decide +kernel
theorem dJ9_min_7cf53_6 : decode cJ9_min_7cf53 6 = .ok (.goto 4, 3) := by decide +kernel
theorem dJ9_min_7cf53_9 : decode cJ9_min_7cf53 9 = .ok (.iload_n 1, 1) := by decide +kernel
theorem dJ9_min_7cf53_10 : decode cJ9_min_7cf53 10 = .ok (.ireturn, 1) := by decide +kernel
theorem dJ0_length_8abf5_0 : decode cJ0_length_8abf5 0 = .ok (.aload_n 0, 1) := by decide +kernel
theorem dJ0_length_8abf5_1 : decode cJ0_length_8abf5 1 = .ok (.getfield 9, 3) := by decide +kernel
theorem dJ0_length_8abf5_4 : decode cJ0_length_8abf5 4 = .ok (.arraylength, 1) := by decide +kernel
theorem dJ0_length_8abf5_5 : decode cJ0_length_8abf5 5 = .ok (.aload_n 0, 1) := by decide +kernel
theorem dJ0_length_8abf5_6 : decode cJ0_length_8abf5 6 = .ok (.invokevirtual 335, 3) := by decide +kernel
theorem dJ0_length_8abf5_9 : decode cJ0_length_8abf5 9 = .ok (.ishr, 1) := by decide +kernel
theorem dJ0_length_8abf5_10 : decode cJ0_length_8abf5 10 = .ok (.ireturn, 1) := by decide +kernel
theorem dJ0_isEmpty_aae02_0 : decode cJ0_isEmpty_aae02 0 = .ok (.aload_n 0, 1) := by decide +kernel
theorem dJ0_isEmpty_aae02_1 : decode cJ0_isEmpty_aae02 1 = .ok (.getfield 9, 3) := by decide +kernel
theorem dJ0_isEmpty_aae02_4 : decode cJ0_isEmpty_aae02 4 = .ok (.arraylength, 1) := by decide +kernel
theorem dJ0_isEmpty_aae02_5 : decode cJ0_isEmpty_aae02 5 = .ok (.ifCond .ne 7, 3) := by decide +kernel
theorem dJ0_isEmpty_aae02_8 : decode cJ0_isEmpty_aae02 8 = .ok (.iconst 1, 1) := by decide +kernel
theorem dJ0_isEmpty_aae02_9 : decode cJ0_isEmpty_aae02 9 = .ok (.goto 4, 3) := by decide +kernel
theorem dJ0_isEmpty_aae02_12 : decode cJ0_isEmpty_aae02 12 = .ok (.iconst 0, 1) := by decide +kernel
theorem dJ0_isEmpty_aae02_13 : decode cJ0_isEmpty_aae02 13 = .ok (.ireturn, 1) := by decide +kernel
theorem dJ0_charAt_5068e_0 : decode cJ0_charAt_5068e 0 = .ok (.aload_n 0, 1) := by decide +kernel
theorem dJ0_charAt_5068e_1 : decode cJ0_charAt_5068e 1 = .ok (.invokevirtual 492, 3) := by decide +kernel
theorem dJ0_charAt_5068e_4 : decode cJ0_charAt_5068e 4 = .ok (.ifCond .eq 12, 3) := by decide +kernel
theorem dJ0_charAt_5068e_7 : decode cJ0_charAt_5068e 7 = .ok (.aload_n 0, 1) := by decide +kernel
theorem dJ0_charAt_5068e_8 : decode cJ0_charAt_5068e 8 = .ok (.getfield 9, 3) := by decide +kernel
theorem dJ0_charAt_5068e_11 : decode cJ0_charAt_5068e 11 = .ok (.iload_n 1, 1) := by decide +kernel
theorem dJ0_charAt_5068e_12 : decode cJ0_charAt_5068e 12 = .ok (.invokestatic 495, 3) := by decide +kernel
theorem dJ0_charAt_5068e_15 : decode cJ0_charAt_5068e 15 = .ok (.ireturn, 1) := by decide +kernel
theorem dJ0_charAt_5068e_16 : decode cJ0_charAt_5068e 16 = .ok (.aload_n 0, 1) := by decide +kernel
theorem dJ0_charAt_5068e_17 : decode cJ0_charAt_5068e 17 = .ok (.getfield 9, 3) := by decide +kernel
theorem dJ0_charAt_5068e_20 : decode cJ0_charAt_5068e 20 = .ok (.iload_n 1, 1) := by decide +kernel
theorem dJ0_charAt_5068e_21 : decode cJ0_charAt_5068e 21 = .ok (.invokestatic 498, 3) := by decide +kernel
theorem dJ0_charAt_5068e_24 : decode cJ0_charAt_5068e 24 = .ok (.ireturn, 1) := by decide +kernel
theorem dJ0_coder_7d493_0 : decode cJ0_coder_7d493 0 = .ok (.getstatic 38, 3) := by decide +kernel
theorem dJ0_coder_7d493_3 : decode cJ0_coder_7d493 3 = .ok (.ifCond .eq 10, 3) := by decide +kernel
theorem dJ0_coder_7d493_6 : decode cJ0_coder_7d493 6 = .ok (.aload_n 0, 1) := by decide +kernel
theorem dJ0_coder_7d493_7 : decode cJ0_coder_7d493 7 = .ok (.getfield 15, 3) := by decide +kernel
theorem dJ0_coder_7d493_10 : decode cJ0_coder_7d493 10 = .ok (.goto 4, 3) := by decide +kernel
theorem dJ0_coder_7d493_13 : decode cJ0_coder_7d493 13 = .ok (.iconst 1, 1) := by decide +kernel
theorem dJ0_coder_7d493_14 : decode cJ0_coder_7d493 14 = .ok (.ireturn, 1) := by decide +kernel
theorem dJ0_isLatin1_aae02_0 : decode cJ0_isLatin1_aae02 0 = .ok (.getstatic 38, 3) := by decide +kernel
theorem dJ0_isLatin1_aae02_3 : decode cJ0_isLatin1_aae02 3 = .ok (.ifCond .eq 14, 3) := by decide +kernel
theorem dJ0_isLatin1_aae02_6 : decode cJ0_isLatin1_aae02 6 = .ok (.aload_n 0, 1) := by decide +kernel
theorem dJ0_isLatin1_aae02_7 : decode cJ0_isLatin1_aae02 7 = .ok (.getfield 15, 3) := by decide +kernel
theorem dJ0_isLatin1_aae02_10 : decode cJ0_isLatin1_aae02 10 = .ok (.ifCond .ne 7, 3) := by decide +kernel
theorem dJ0_isLatin1_aae02_13 : decode cJ0_isLatin1_aae02 13 = .ok (.iconst 1, 1) := by decide +kernel
theorem dJ0_isLatin1_aae02_14 : decode cJ0_isLatin1_aae02 14 = .ok (.goto 4, 3) := by decide +kernel
theorem dJ0_isLatin1_aae02_17 : decode cJ0_isLatin1_aae02 17 = .ok (.iconst 0, 1) := by decide +kernel
theorem dJ0_isLatin1_aae02_18 : decode cJ0_isLatin1_aae02 18 = .ok (.ireturn, 1) := by decide +kernel
theorem dJ0_checkIndex_df160_0 : decode cJ0_checkIndex_df160 0 = .ok (.iload_n 0, 1) := by decide +kernel
theorem dJ0_checkIndex_df160_1 : decode cJ0_checkIndex_df160 1 = .ok (.iload_n 1, 1) := by decide +kernel
theorem dJ0_checkIndex_df160_2 : decode cJ0_checkIndex_df160 2 = .ok (.getstatic 1053, 3) := by decide +kernel
theorem dJ0_checkIndex_df160_5 : decode cJ0_checkIndex_df160 5 = .ok (.invokestatic 1059, 3) := by decide +kernel
theorem dJ0_checkIndex_df160_8 : decode cJ0_checkIndex_df160 8 = .ok (.pop, 1) := by decide +kernel
theorem dJ0_checkIndex_df160_9 : decode cJ0_checkIndex_df160 9 = .ok (.return_, 1) := by decide +kernel
theorem dJ1_charAt_3b067_0 : decode cJ1_charAt_3b067 0 = .ok (.iload_n 1, 1) := by decide +kernel
theorem dJ1_charAt_3b067_1 : decode cJ1_charAt_3b067 1 = .ok (.aload_n 0, 1) := by decide +kernel
theorem dJ1_charAt_3b067_2 : decode cJ1_charAt_3b067 2 = .ok (.arraylength, 1) := by decide +kernel
theorem dJ1_charAt_3b067_3 : decode cJ1_charAt_3b067 3 = .ok (.invokestatic 9, 3) := by decide +kernel
theorem dJ1_charAt_3b067_6 : decode cJ1_charAt_3b067 6 = .ok (.aload_n 0, 1) := by decide +kernel
theorem dJ1_charAt_3b067_7 : decode cJ1_charAt_3b067 7 = .ok (.iload_n 1, 1) := by decide +kernel
theorem dJ1_charAt_3b067_8 : decode cJ1_charAt_3b067 8 = .ok (.baload, 1) := by decide +kernel
theorem dJ1_charAt_3b067_9 : decode cJ1_charAt_3b067 9 = .ok (.sipush 255, 3) := by decide +kernel
theorem dJ1_charAt_3b067_12 : decode cJ1_charAt_3b067 12 = .ok (.iand, 1) := by decide +kernel
theorem dJ1_charAt_3b067_13 : decode cJ1_charAt_3b067 13 = .ok (.i2c, 1) := by decide +kernel
theorem dJ1_charAt_3b067_14 : decode cJ1_charAt_3b067 14 = .ok (.ireturn, 1) := by decide +kernel
theorem dJ2_getChar_3b067_0 : decode cJ2_getChar_3b067 0 = .ok (.getstatic 44, 3) := by decide +kernel
theorem dJ2_getChar_3b067_3 : decode cJ2_getChar_3b067 3 = .ok (.ifCond .ne 25, 3) := by decide +kernel
theorem dJ2_getChar_3b067_6 : decode cJ2_getChar_3b067 6 = .ok (.iload_n 1, 1) := by decide +kernel
theorem dJ2_getChar_3b067_7 : decode cJ2_getChar_3b067 7 = .ok (.ifCond .lt 11, 3) := by decide +kernel
theorem dJ2_getChar_3b067_10 : decode cJ2_getChar_3b067 10 = .ok (.iload_n 1, 1) := by decide +kernel
theorem dJ2_getChar_3b067_11 : decode cJ2_getChar_3b067 11 = .ok (.aload_n 0, 1) := by decide +kernel
theorem dJ2_getChar_3b067_12 : decode cJ2_getChar_3b067 12 = .ok (.invokestatic 48, 3) := by decide +kernel
theorem dJ2_getChar_3b067_15 : decode cJ2_getChar_3b067 15 = .ok (.if_icmp .lt 13, 3) := by decide +kernel
theorem dJ2_getChar_3b067_18 : decode cJ2_getChar_3b067 18 = .ok (.new 52, 3) := by decide +kernel
theorem dJ2_getChar_3b067_21 : decode cJ2_getChar_3b067 21 = .ok (.dup, 1) := by decide +kernel
theorem dJ2_getChar_3b067_22 : decode cJ2_getChar_3b067 22 = .ok (.ldc 54, 2) := by decide +kernel
theorem dJ2_getChar_3b067_24 : decode cJ2_getChar_3b067 24 = .ok (.invokespecial 56, 3) := by decide +kernel
theorem dJ2_getChar_3b067_27 : decode cJ2_getChar_3b067 27 = .ok (.athrow, 1) := by decide +kernel
theorem dJ2_getChar_3b067_28 : decode cJ2_getChar_3b067 28 = .ok (.iload_n 1, 1) := by decide +kernel
theorem dJ2_getChar_3b067_29 : decode cJ2_getChar_3b067 29 = .ok (.iconst 1, 1) := by decide +kernel
theorem dJ2_getChar_3b067_30 : decode cJ2_getChar_3b067 30 = .ok (.ishl, 1) := by decide +kernel
theorem dJ2_getChar_3b067_31 : decode cJ2_getChar_3b067 31 = .ok (.istore_n 1, 1) := by decide +kernel
theorem dJ2_getChar_3b067_32 : decode cJ2_getChar_3b067 32 = .ok (.aload_n 0, 1) := by decide +kernel
theorem dJ2_getChar_3b067_33 : decode cJ2_getChar_3b067 33 = .ok (.iload_n 1, 1) := by decide +kernel
theorem dJ2_getChar_3b067_34 : decode cJ2_getChar_3b067 34 = .ok (.iinc 1 1, 3) := by decide +kernel
theorem dJ2_getChar_3b067_37 : decode cJ2_getChar_3b067 37 = .ok (.baload, 1) := by decide +kernel
theorem dJ2_getChar_3b067_38 : decode cJ2_getChar_3b067 38 = .ok (.sipush 255, 3) := by decide +kernel
theorem dJ2_getChar_3b067_41 : decode cJ2_getChar_3b067 41 = .ok (.iand, 1) := by decide +kernel
theorem dJ2_getChar_3b067_42 : decode cJ2_getChar_3b067 42 = .ok (.getstatic 59, 3) := by decide +kernel
theorem dJ2_getChar_3b067_45 : decode cJ2_getChar_3b067 45 = .ok (.ishl, 1) := by decide +kernel
theorem dJ2_getChar_3b067_46 : decode cJ2_getChar_3b067 46 = .ok (.aload_n 0, 1) := by decide +kernel
theorem dJ2_getChar_3b067_47 : decode cJ2_getChar_3b067 47 = .ok (.iload_n 1, 1) := by decide +kernel
theorem dJ2_getChar_3b067_48 : decode cJ2_getChar_3b067 48 = .ok (.baload, 1) := by decide +kernel
theorem dJ2_getChar_3b067_49 : decode cJ2_getChar_3b067 49 = .ok (.sipush 255, 3) := by decide +kernel
theorem dJ2_getChar_3b067_52 : decode cJ2_getChar_3b067 52 = .ok (.iand, 1) := by decide +kernel
theorem dJ2_getChar_3b067_53 : decode cJ2_getChar_3b067 53 = .ok (.getstatic 63, 3) := by decide +kernel
theorem dJ2_getChar_3b067_56 : decode cJ2_getChar_3b067 56 = .ok (.ishl, 1) := by decide +kernel
theorem dJ2_getChar_3b067_57 : decode cJ2_getChar_3b067 57 = .ok (.ior, 1) := by decide +kernel
theorem dJ2_getChar_3b067_58 : decode cJ2_getChar_3b067 58 = .ok (.i2c, 1) := by decide +kernel
theorem dJ2_getChar_3b067_59 : decode cJ2_getChar_3b067 59 = .ok (.ireturn, 1) := by decide +kernel
theorem dJ2_length_9d52b_0 : decode cJ2_length_9d52b 0 = .ok (.aload_n 0, 1) := by decide +kernel
theorem dJ2_length_9d52b_1 : decode cJ2_length_9d52b 1 = .ok (.arraylength, 1) := by decide +kernel
theorem dJ2_length_9d52b_2 : decode cJ2_length_9d52b 2 = .ok (.iconst 1, 1) := by decide +kernel
theorem dJ2_length_9d52b_3 : decode cJ2_length_9d52b 3 = .ok (.ishr, 1) := by decide +kernel
theorem dJ2_length_9d52b_4 : decode cJ2_length_9d52b 4 = .ok (.ireturn, 1) := by decide +kernel
theorem dJ2_charAt_3b067_0 : decode cJ2_charAt_3b067 0 = .ok (.iload_n 1, 1) := by decide +kernel
theorem dJ2_charAt_3b067_1 : decode cJ2_charAt_3b067 1 = .ok (.aload_n 0, 1) := by decide +kernel
theorem dJ2_charAt_3b067_2 : decode cJ2_charAt_3b067 2 = .ok (.invokestatic 67, 3) := by decide +kernel
theorem dJ2_charAt_3b067_5 : decode cJ2_charAt_3b067 5 = .ok (.aload_n 0, 1) := by decide +kernel
theorem dJ2_charAt_3b067_6 : decode cJ2_charAt_3b067 6 = .ok (.iload_n 1, 1) := by decide +kernel
theorem dJ2_charAt_3b067_7 : decode cJ2_charAt_3b067 7 = .ok (.invokestatic 71, 3) := by decide +kernel
theorem dJ2_charAt_3b067_10 : decode cJ2_charAt_3b067 10 = .ok (.ireturn, 1) := by decide +kernel
theorem dJ2_checkIndex_2214a_0 : decode cJ2_checkIndex_2214a 0 = .ok (.iload_n 0, 1) := by decide +kernel
theorem dJ2_checkIndex_2214a_1 : decode cJ2_checkIndex_2214a 1 = .ok (.aload_n 1, 1) := by decide +kernel
theorem dJ2_checkIndex_2214a_2 : decode cJ2_checkIndex_2214a 2 = .ok (.invokestatic 48, 3) := by decide +kernel
theorem dJ2_checkIndex_2214a_5 : decode cJ2_checkIndex_2214a 5 = .ok (.invokestatic 414, 3) := by decide +kernel
theorem dJ2_checkIndex_2214a_8 : decode cJ2_checkIndex_2214a 8 = .ok (.return_, 1) := by decide +kernel
theorem dJ3_checkIndex_8e157_0 : decode cJ3_checkIndex_8e157 0 = .ok (.iload_n 0, 1) := by decide +kernel
theorem dJ3_checkIndex_8e157_1 : decode cJ3_checkIndex_8e157 1 = .ok (.ifCond .lt 8, 3) := by decide +kernel
theorem dJ3_checkIndex_8e157_4 : decode cJ3_checkIndex_8e157 4 = .ok (.iload_n 0, 1) := by decide +kernel
theorem dJ3_checkIndex_8e157_5 : decode cJ3_checkIndex_8e157 5 = .ok (.iload_n 1, 1) := by decide +kernel
theorem dJ3_checkIndex_8e157_6 : decode cJ3_checkIndex_8e157 6 = .ok (.if_icmp .lt 10, 3) := by decide +kernel
theorem dJ3_checkIndex_8e157_9 : decode cJ3_checkIndex_8e157 9 = .ok (.aload_n 2, 1) := by decide +kernel
theorem dJ3_checkIndex_8e157_10 : decode cJ3_checkIndex_8e157 10 = .ok (.iload_n 0, 1) := by decide +kernel
theorem dJ3_checkIndex_8e157_11 : decode cJ3_checkIndex_8e157 11 = .ok (.iload_n 1, 1) := by decide +kernel
theorem dJ3_checkIndex_8e157_12 : decode cJ3_checkIndex_8e157 12 = .ok (.invokestatic 95, 3) := by decide +kernel
theorem dJ3_checkIndex_8e157_15 : decode cJ3_checkIndex_8e157 15 = .ok (.athrow, 1) := by decide +kernel
theorem dJ3_checkIndex_8e157_16 : decode cJ3_checkIndex_8e157 16 = .ok (.iload_n 0, 1) := by decide +kernel
theorem dJ3_checkIndex_8e157_17 : decode cJ3_checkIndex_8e157 17 = .ok (.ireturn, 1) := by decide +kernel
