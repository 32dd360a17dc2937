theorem dX9_init_0 : decode cX9_init 0 = .ok (.aload_n 0, 1) := by decide +kernel
theorem dX9_init_1 : decode cX9_init 1 = .ok (.invokespecial 1, 3) := by decide +kernel
theorem dX9_init_4 : decode cX9_init 4 = .ok (.aload_n 0, 1) := by decide +kernel
theorem dX9_init_5 : decode cX9_init 5 = .ok (.sipush 220, 3) := by decide +kernel
theorem dX9_init_8 : decode cX9_init 8 = .ok (.newarray .int, 2) := by decide +kernel
theorem dX9_init_10 : decode cX9_init 10 = .ok (.putfield 7, 3) := by decide +kernel
theorem dX9_init_13 : decode cX9_init 13 = .ok (.aload_n 0, 1) := by decide +kernel
theorem dX9_init_14 : decode cX9_init 14 = .ok (.sipush 220, 3) := by decide +kernel
theorem dX9_init_17 : decode cX9_init 17 = .ok (.newarray .int, 2) := by decide +kernel
theorem dX9_init_19 : decode cX9_init 19 = .ok (.putfield 13, 3) := by decide +kernel
theorem dX9_init_22 : decode cX9_init 22 = .ok (.aload_n 0, 1) := by decide +kernel
theorem dX9_init_23 : decode cX9_init 23 = .ok (.sipush 1760, 3) := by decide +kernel
theorem dX9_init_26 : decode cX9_init 26 = .ok (.newarray .int, 2) := by decide +kernel
theorem dX9_init_28 : decode cX9_init 28 = .ok (.putfield 16, 3) := by decide +kernel
theorem dX9_init_31 : decode cX9_init 31 = .ok (.aload_n 0, 1) := by decide +kernel
theorem dX9_init_32 : decode cX9_init 32 = .ok (.sipush 220, 3) := by decide +kernel
theorem dX9_init_35 : decode cX9_init 35 = .ok (.newarray .int, 2) := by decide +kernel
theorem dX9_init_37 : decode cX9_init 37 = .ok (.putfield 19, 3) := by decide +kernel
theorem dX9_init_40 : decode cX9_init 40 = .ok (.aload_n 0, 1) := by decide +kernel
theorem dX9_init_41 : decode cX9_init 41 = .ok (.bipush 60, 2) := by decide +kernel
theorem dX9_init_43 : decode cX9_init 43 = .ok (.newarray .char, 2) := by decide +kernel
theorem dX9_init_45 : decode cX9_init 45 = .ok (.putfield 22, 3) := by decide +kernel
theorem dX9_init_48 : decode cX9_init 48 = .ok (.aload_n 0, 1) := by decide +kernel
theorem dX9_init_49 : decode cX9_init 49 = .ok (.iconst (-1), 1) := by decide +kernel
theorem dX9_init_50 : decode cX9_init 50 = .ok (.putfield 26, 3) := by decide +kernel
theorem dX9_init_53 : decode cX9_init 53 = .ok (.aload_n 0, 1) := by decide +kernel
theorem dX9_init_54 : decode cX9_init 54 = .ok (.sipush 300, 3) := by decide +kernel
theorem dX9_init_57 : decode cX9_init 57 = .ok (.newarray .int, 2) := by decide +kernel
theorem dX9_init_59 : decode cX9_init 59 = .ok (.putfield 30, 3) := by decide +kernel
theorem dX9_init_62 : decode cX9_init 62 = .ok (.aload_n 0, 1) := by decide +kernel
theorem dX9_init_63 : decode cX9_init 63 = .ok (.getfield 7, 3) := by decide +kernel
theorem dX9_init_66 : decode cX9_init 66 = .ok (.iconst 1, 1) := by decide +kernel
theorem dX9_init_67 : decode cX9_init 67 = .ok (.bipush 100, 2) := by decide +kernel
theorem dX9_init_69 : decode cX9_init 69 = .ok (.iastore, 1) := by decide +kernel
theorem dX9_init_70 : decode cX9_init 70 = .ok (.iconst 0, 1) := by decide +kernel
theorem dX9_init_71 : decode cX9_init 71 = .ok (.istore_n 1, 1) := by decide +kernel
theorem dX9_init_72 : decode cX9_init 72 = .ok (.iload_n 1, 1) := by decide +kernel
theorem dX9_init_73 : decode cX9_init 73 = .ok (.bipush 24, 2) := by decide +kernel
theorem dX9_init_75 : decode cX9_init 75 = .ok (.if_icmp .ge 19, 3) := by decide +kernel
theorem dX9_init_78 : decode cX9_init 78 = .ok (.aload_n 0, 1) := by decide +kernel
theorem dX9_init_79 : decode cX9_init 79 = .ok (.getfield 7, 3) := by decide +kernel
theorem dX9_init_82 : decode cX9_init 82 = .ok (.iconst 2, 1) := by decide +kernel
theorem dX9_init_83 : decode cX9_init 83 = .ok (.iload_n 1, 1) := by decide +kernel
theorem dX9_init_84 : decode cX9_init 84 = .ok (.iadd, 1) := by decide +kernel
theorem dX9_init_85 : decode cX9_init 85 = .ok (.bipush 45, 2) := by decide +kernel
theorem dX9_init_87 : decode cX9_init 87 = .ok (.iastore, 1) := by decide +kernel
theorem dX9_init_88 : decode cX9_init 88 = .ok (.iinc 1 1, 3) := by decide +kernel
theorem dX9_init_91 : decode cX9_init 91 = .ok (.goto (-19), 3) := by decide +kernel
theorem dX9_init_94 : decode cX9_init 94 = .ok (.return_, 1) := by decide +kernel
theorem dX9_thrown_0 : decode cX9_thrown 0 = .ok (.aload_n 0, 1) := by decide +kernel
theorem dX9_thrown_1 : decode cX9_thrown 1 = .ok (.getfield 33, 3) := by decide +kernel
theorem dX9_thrown_4 : decode cX9_thrown 4 = .ok (.ireturn, 1) := by decide +kernel
theorem dX9_in_0 : decode cX9_in 0 = .ok (.iload_n 0, 1) := by decide +kernel
theorem dX9_in_1 : decode cX9_in 1 = .ok (.iload_n 1, 1) := by decide +kernel
theorem dX9_in_2 : decode cX9_in 2 = .ok (.if_icmp .lt 12, 3) := by decide +kernel
theorem dX9_in_5 : decode cX9_in 5 = .ok (.iload_n 0, 1) := by decide +kernel
theorem dX9_in_6 : decode cX9_in 6 = .ok (.iload_n 2, 1) := by decide +kernel
theorem dX9_in_7 : decode cX9_in 7 = .ok (.if_icmp .gt 7, 3) := by decide +kernel
theorem dX9_in_10 : decode cX9_in 10 = .ok (.iconst 1, 1) := by decide +kernel
theorem dX9_in_11 : decode cX9_in 11 = .ok (.goto 4, 3) := by decide +kernel
theorem dX9_in_14 : decode cX9_in 14 = .ok (.iconst 0, 1) := by decide +kernel
theorem dX9_in_15 : decode cX9_in 15 = .ok (.ireturn, 1) := by decide +kernel
theorem dX9_done_0 : decode cX9_done 0 = .ok (.aload_n 0, 1) := by decide +kernel
theorem dX9_done_1 : decode cX9_done 1 = .ok (.iconst 0, 1) := by decide +kernel
theorem dX9_done_2 : decode cX9_done 2 = .ok (.putfield 33, 3) := by decide +kernel
theorem dX9_done_5 : decode cX9_done 5 = .ok (.iload_n 1, 1) := by decide +kernel
theorem dX9_done_6 : decode cX9_done 6 = .ok (.ireturn, 1) := by decide +kernel
theorem dX9_fails_0 : decode cX9_fails 0 = .ok (.aload_n 0, 1) := by decide +kernel
theorem dX9_fails_1 : decode cX9_fails 1 = .ok (.iload_n 1, 1) := by decide +kernel
theorem dX9_fails_2 : decode cX9_fails 2 = .ok (.putfield 33, 3) := by decide +kernel
theorem dX9_fails_5 : decode cX9_fails 5 = .ok (.aload_n 0, 1) := by decide +kernel
theorem dX9_fails_6 : decode cX9_fails 6 = .ok (.iconst 0, 1) := by decide +kernel
theorem dX9_fails_7 : decode cX9_fails 7 = .ok (.putfield 36, 3) := by decide +kernel
theorem dX9_fails_10 : decode cX9_fails 10 = .ok (.iconst 0, 1) := by decide +kernel
theorem dX9_fails_11 : decode cX9_fails 11 = .ok (.ireturn, 1) := by decide +kernel
theorem dX9_refused_0 : decode cX9_refused 0 = .ok (.aload_n 0, 1) := by decide +kernel
theorem dX9_refused_1 : decode cX9_refused 1 = .ok (.iload_n 1, 1) := by decide +kernel
theorem dX9_refused_2 : decode cX9_refused 2 = .ok (.putfield 40, 3) := by decide +kernel
theorem dX9_refused_5 : decode cX9_refused 5 = .ok (.aload_n 0, 1) := by decide +kernel
theorem dX9_refused_6 : decode cX9_refused 6 = .ok (.iload_n 2, 1) := by decide +kernel
theorem dX9_refused_7 : decode cX9_refused 7 = .ok (.putfield 43, 3) := by decide +kernel
theorem dX9_refused_10 : decode cX9_refused 10 = .ok (.aload_n 0, 1) := by decide +kernel
theorem dX9_refused_11 : decode cX9_refused 11 = .ok (.iload_n 3, 1) := by decide +kernel
theorem dX9_refused_12 : decode cX9_refused 12 = .ok (.putfield 33, 3) := by decide +kernel
theorem dX9_refused_15 : decode cX9_refused 15 = .ok (.aload_n 0, 1) := by decide +kernel
theorem dX9_refused_16 : decode cX9_refused 16 = .ok (.iconst 1, 1) := by decide +kernel
theorem dX9_refused_17 : decode cX9_refused 17 = .ok (.putfield 36, 3) := by decide +kernel
theorem dX9_refused_20 : decode cX9_refused 20 = .ok (.iconst 0, 1) := by decide +kernel
theorem dX9_refused_21 : decode cX9_refused 21 = .ok (.ireturn, 1) := by decide +kernel
theorem dX9_copy_0 : decode cX9_copy 0 = .ok (.iconst 0, 1) := by decide +kernel
theorem dX9_copy_1 : decode cX9_copy 1 = .ok (.istore 4, 2) := by decide +kernel
theorem dX9_copy_3 : decode cX9_copy 3 = .ok (.iload 4, 2) := by decide +kernel
theorem dX9_copy_5 : decode cX9_copy 5 = .ok (.sipush 220, 3) := by decide +kernel
theorem dX9_copy_8 : decode cX9_copy 8 = .ok (.if_icmp .ge 21, 3) := by decide +kernel
theorem dX9_copy_11 : decode cX9_copy 11 = .ok (.aload_n 2, 1) := by decide +kernel
theorem dX9_copy_12 : decode cX9_copy 12 = .ok (.iload_n 3, 1) := by decide +kernel
theorem dX9_copy_13 : decode cX9_copy 13 = .ok (.iload 4, 2) := by decide +kernel
theorem dX9_copy_15 : decode cX9_copy 15 = .ok (.iadd, 1) := by decide +kernel
theorem dX9_copy_16 : decode cX9_copy 16 = .ok (.aload_n 0, 1) := by decide +kernel
theorem dX9_copy_17 : decode cX9_copy 17 = .ok (.iload_n 1, 1) := by decide +kernel
theorem dX9_copy_18 : decode cX9_copy 18 = .ok (.iload 4, 2) := by decide +kernel
theorem dX9_copy_20 : decode cX9_copy 20 = .ok (.iadd, 1) := by decide +kernel
theorem dX9_copy_21 : decode cX9_copy 21 = .ok (.iaload, 1) := by decide +kernel
theorem dX9_copy_22 : decode cX9_copy 22 = .ok (.iastore, 1) := by decide +kernel
theorem dX9_copy_23 : decode cX9_copy 23 = .ok (.iinc 4 1, 3) := by decide +kernel
theorem dX9_copy_26 : decode cX9_copy 26 = .ok (.goto (-23), 3) := by decide +kernel
theorem dX9_copy_29 : decode cX9_copy 29 = .ok (.return_, 1) := by decide +kernel
theorem dX9_looksBack_0 : decode cX9_looksBack 0 = .ok (.aload_n 0, 1) := by decide +kernel
theorem dX9_looksBack_1 : decode cX9_looksBack 1 = .ok (.getfield 7, 3) := by decide +kernel
theorem dX9_looksBack_4 : decode cX9_looksBack 4 = .ok (.iconst 0, 1) := by decide +kernel
theorem dX9_looksBack_5 : decode cX9_looksBack 5 = .ok (.aload_n 0, 1) := by decide +kernel
theorem dX9_looksBack_6 : decode cX9_looksBack 6 = .ok (.getfield 13, 3) := by decide +kernel
theorem dX9_looksBack_9 : decode cX9_looksBack 9 = .ok (.iconst 0, 1) := by decide +kernel
theorem dX9_looksBack_10 : decode cX9_looksBack 10 = .ok (.invokestatic 46, 3) := by decide +kernel
theorem dX9_looksBack_13 : decode cX9_looksBack 13 = .ok (.return_, 1) := by decide +kernel
theorem dX9_kept_0 : decode cX9_kept 0 = .ok (.aload_n 0, 1) := by decide +kernel
theorem dX9_kept_1 : decode cX9_kept 1 = .ok (.getfield 33, 3) := by decide +kernel
theorem dX9_kept_4 : decode cX9_kept 4 = .ok (.ifCond .eq 18, 3) := by decide +kernel
theorem dX9_kept_7 : decode cX9_kept 7 = .ok (.aload_n 0, 1) := by decide +kernel
theorem dX9_kept_8 : decode cX9_kept 8 = .ok (.getfield 13, 3) := by decide +kernel
theorem dX9_kept_11 : decode cX9_kept 11 = .ok (.iconst 0, 1) := by decide +kernel
theorem dX9_kept_12 : decode cX9_kept 12 = .ok (.aload_n 0, 1) := by decide +kernel
theorem dX9_kept_13 : decode cX9_kept 13 = .ok (.getfield 7, 3) := by decide +kernel
theorem dX9_kept_16 : decode cX9_kept 16 = .ok (.iconst 0, 1) := by decide +kernel
theorem dX9_kept_17 : decode cX9_kept 17 = .ok (.invokestatic 46, 3) := by decide +kernel
theorem dX9_kept_20 : decode cX9_kept 20 = .ok (.iconst 0, 1) := by decide +kernel
theorem dX9_kept_21 : decode cX9_kept 21 = .ok (.ireturn, 1) := by decide +kernel
theorem dX9_kept_22 : decode cX9_kept 22 = .ok (.aload_n 0, 1) := by decide +kernel
theorem dX9_kept_23 : decode cX9_kept 23 = .ok (.getfield 50, 3) := by decide +kernel
theorem dX9_kept_26 : decode cX9_kept 26 = .ok (.bipush 8, 2) := by decide +kernel
theorem dX9_kept_28 : decode cX9_kept 28 = .ok (.if_icmp .ne 44, 3) := by decide +kernel
theorem dX9_kept_31 : decode cX9_kept 31 = .ok (.iconst 0, 1) := by decide +kernel
theorem dX9_kept_32 : decode cX9_kept 32 = .ok (.istore_n 2, 1) := by decide +kernel
theorem dX9_kept_33 : decode cX9_kept 33 = .ok (.iload_n 2, 1) := by decide +kernel
theorem dX9_kept_34 : decode cX9_kept 34 = .ok (.sipush 1540, 3) := by decide +kernel
theorem dX9_kept_37 : decode cX9_kept 37 = .ok (.if_icmp .ge 25, 3) := by decide +kernel
theorem dX9_kept_40 : decode cX9_kept 40 = .ok (.aload_n 0, 1) := by decide +kernel
theorem dX9_kept_41 : decode cX9_kept 41 = .ok (.getfield 16, 3) := by decide +kernel
theorem dX9_kept_44 : decode cX9_kept 44 = .ok (.iload_n 2, 1) := by decide +kernel
theorem dX9_kept_45 : decode cX9_kept 45 = .ok (.aload_n 0, 1) := by decide +kernel
theorem dX9_kept_46 : decode cX9_kept 46 = .ok (.getfield 16, 3) := by decide +kernel
theorem dX9_kept_49 : decode cX9_kept 49 = .ok (.iload_n 2, 1) := by decide +kernel
theorem dX9_kept_50 : decode cX9_kept 50 = .ok (.sipush 220, 3) := by decide +kernel
theorem dX9_kept_53 : decode cX9_kept 53 = .ok (.iadd, 1) := by decide +kernel
theorem dX9_kept_54 : decode cX9_kept 54 = .ok (.iaload, 1) := by decide +kernel
theorem dX9_kept_55 : decode cX9_kept 55 = .ok (.iastore, 1) := by decide +kernel
theorem dX9_kept_56 : decode cX9_kept 56 = .ok (.iinc 2 1, 3) := by decide +kernel
theorem dX9_kept_59 : decode cX9_kept 59 = .ok (.goto (-26), 3) := by decide +kernel
theorem dX9_kept_62 : decode cX9_kept 62 = .ok (.aload_n 0, 1) := by decide +kernel
theorem dX9_kept_63 : decode cX9_kept 63 = .ok (.dup, 1) := by decide +kernel
theorem dX9_kept_64 : decode cX9_kept 64 = .ok (.getfield 50, 3) := by decide +kernel
theorem dX9_kept_67 : decode cX9_kept 67 = .ok (.iconst 1, 1) := by decide +kernel
theorem dX9_kept_68 : decode cX9_kept 68 = .ok (.isub, 1) := by decide +kernel
theorem dX9_kept_69 : decode cX9_kept 69 = .ok (.putfield 50, 3) := by decide +kernel
theorem dX9_kept_72 : decode cX9_kept 72 = .ok (.aload_n 0, 1) := by decide +kernel
theorem dX9_kept_73 : decode cX9_kept 73 = .ok (.getfield 13, 3) := by decide +kernel
theorem dX9_kept_76 : decode cX9_kept 76 = .ok (.iconst 0, 1) := by decide +kernel
theorem dX9_kept_77 : decode cX9_kept 77 = .ok (.aload_n 0, 1) := by decide +kernel
theorem dX9_kept_78 : decode cX9_kept 78 = .ok (.getfield 16, 3) := by decide +kernel
theorem dX9_kept_81 : decode cX9_kept 81 = .ok (.aload_n 0, 1) := by decide +kernel
theorem dX9_kept_82 : decode cX9_kept 82 = .ok (.getfield 50, 3) := by decide +kernel
theorem dX9_kept_85 : decode cX9_kept 85 = .ok (.sipush 220, 3) := by decide +kernel
theorem dX9_kept_88 : decode cX9_kept 88 = .ok (.imul, 1) := by decide +kernel
theorem dX9_kept_89 : decode cX9_kept 89 = .ok (.invokestatic 46, 3) := by decide +kernel
theorem dX9_kept_92 : decode cX9_kept 92 = .ok (.aload_n 0, 1) := by decide +kernel
theorem dX9_kept_93 : decode cX9_kept 93 = .ok (.dup, 1) := by decide +kernel
theorem dX9_kept_94 : decode cX9_kept 94 = .ok (.getfield 50, 3) := by decide +kernel
theorem dX9_kept_97 : decode cX9_kept 97 = .ok (.iconst 1, 1) := by decide +kernel
theorem dX9_kept_98 : decode cX9_kept 98 = .ok (.iadd, 1) := by decide +kernel
theorem dX9_kept_99 : decode cX9_kept 99 = .ok (.putfield 50, 3) := by decide +kernel
theorem dX9_kept_102 : decode cX9_kept 102 = .ok (.iload_n 1, 1) := by decide +kernel
theorem dX9_kept_103 : decode cX9_kept 103 = .ok (.ireturn, 1) := by decide +kernel
theorem dX9_sum_0 : decode cX9_sum 0 = .ok (.iconst 0, 1) := by decide +kernel
theorem dX9_sum_1 : decode cX9_sum 1 = .ok (.istore_n 3, 1) := by decide +kernel
theorem dX9_sum_2 : decode cX9_sum 2 = .ok (.iconst 0, 1) := by decide +kernel
theorem dX9_sum_3 : decode cX9_sum 3 = .ok (.istore 4, 2) := by decide +kernel
theorem dX9_sum_5 : decode cX9_sum 5 = .ok (.iload 4, 2) := by decide +kernel
theorem dX9_sum_7 : decode cX9_sum 7 = .ok (.iload_n 2, 1) := by decide +kernel
theorem dX9_sum_8 : decode cX9_sum 8 = .ok (.if_icmp .ge 21, 3) := by decide +kernel
theorem dX9_sum_11 : decode cX9_sum 11 = .ok (.iload_n 3, 1) := by decide +kernel
theorem dX9_sum_12 : decode cX9_sum 12 = .ok (.aload_n 0, 1) := by decide +kernel
theorem dX9_sum_13 : decode cX9_sum 13 = .ok (.getfield 7, 3) := by decide +kernel
theorem dX9_sum_16 : decode cX9_sum 16 = .ok (.iload_n 1, 1) := by decide +kernel
theorem dX9_sum_17 : decode cX9_sum 17 = .ok (.iload 4, 2) := by decide +kernel
theorem dX9_sum_19 : decode cX9_sum 19 = .ok (.iadd, 1) := by decide +kernel
theorem dX9_sum_20 : decode cX9_sum 20 = .ok (.iaload, 1) := by decide +kernel
theorem dX9_sum_21 : decode cX9_sum 21 = .ok (.iadd, 1) := by decide +kernel
theorem dX9_sum_22 : decode cX9_sum 22 = .ok (.istore_n 3, 1) := by decide +kernel
theorem dX9_sum_23 : decode cX9_sum 23 = .ok (.iinc 4 1, 3) := by decide +kernel
theorem dX9_sum_26 : decode cX9_sum 26 = .ok (.goto (-21), 3) := by decide +kernel
theorem dX9_sum_29 : decode cX9_sum 29 = .ok (.iload_n 3, 1) := by decide +kernel
theorem dX9_sum_30 : decode cX9_sum 30 = .ok (.ireturn, 1) := by decide +kernel
theorem dX9_humidity_0 : decode cX9_humidity 0 = .ok (.iload_n 1, 1) := by decide +kernel
theorem dX9_humidity_1 : decode cX9_humidity 1 = .ok (.iconst 0, 1) := by decide +kernel
theorem dX9_humidity_2 : decode cX9_humidity 2 = .ok (.bipush 23, 2) := by decide +kernel
theorem dX9_humidity_4 : decode cX9_humidity 4 = .ok (.invokestatic 53, 3) := by decide +kernel
theorem dX9_humidity_7 : decode cX9_humidity 7 = .ok (.ifCond .ne 9, 3) := by decide +kernel
theorem dX9_humidity_10 : decode cX9_humidity 10 = .ok (.aload_n 0, 1) := by decide +kernel
theorem dX9_humidity_11 : decode cX9_humidity 11 = .ok (.iconst 1, 1) := by decide +kernel
theorem dX9_humidity_12 : decode cX9_humidity 12 = .ok (.invokevirtual 57, 3) := by decide +kernel
theorem dX9_humidity_15 : decode cX9_humidity 15 = .ok (.ireturn, 1) := by decide +kernel
theorem dX9_humidity_16 : decode cX9_humidity 16 = .ok (.iload_n 2, 1) := by decide +kernel
theorem dX9_humidity_17 : decode cX9_humidity 17 = .ok (.iconst 0, 1) := by decide +kernel
theorem dX9_humidity_18 : decode cX9_humidity 18 = .ok (.bipush 99, 2) := by decide +kernel
theorem dX9_humidity_20 : decode cX9_humidity 20 = .ok (.invokestatic 53, 3) := by decide +kernel
theorem dX9_humidity_23 : decode cX9_humidity 23 = .ok (.ifCond .ne 9, 3) := by decide +kernel
theorem dX9_humidity_26 : decode cX9_humidity 26 = .ok (.aload_n 0, 1) := by decide +kernel
theorem dX9_humidity_27 : decode cX9_humidity 27 = .ok (.iconst 2, 1) := by decide +kernel
theorem dX9_humidity_28 : decode cX9_humidity 28 = .ok (.invokevirtual 57, 3) := by decide +kernel
theorem dX9_humidity_31 : decode cX9_humidity 31 = .ok (.ireturn, 1) := by decide +kernel
theorem dX9_humidity_32 : decode cX9_humidity 32 = .ok (.aload_n 0, 1) := by decide +kernel
theorem dX9_humidity_33 : decode cX9_humidity 33 = .ok (.invokevirtual 61, 3) := by decide +kernel
theorem dX9_humidity_36 : decode cX9_humidity 36 = .ok (.aload_n 0, 1) := by decide +kernel
theorem dX9_humidity_37 : decode cX9_humidity 37 = .ok (.getfield 7, 3) := by decide +kernel
theorem dX9_humidity_40 : decode cX9_humidity 40 = .ok (.iconst 2, 1) := by decide +kernel
theorem dX9_humidity_41 : decode cX9_humidity 41 = .ok (.iload_n 1, 1) := by decide +kernel
theorem dX9_humidity_42 : decode cX9_humidity 42 = .ok (.iadd, 1) := by decide +kernel
theorem dX9_humidity_43 : decode cX9_humidity 43 = .ok (.iaload, 1) := by decide +kernel
theorem dX9_humidity_44 : decode cX9_humidity 44 = .ok (.istore_n 3, 1) := by decide +kernel
theorem dX9_humidity_45 : decode cX9_humidity 45 = .ok (.aload_n 0, 1) := by decide +kernel
theorem dX9_humidity_46 : decode cX9_humidity 46 = .ok (.getfield 7, 3) := by decide +kernel
theorem dX9_humidity_49 : decode cX9_humidity 49 = .ok (.iconst 2, 1) := by decide +kernel
theorem dX9_humidity_50 : decode cX9_humidity 50 = .ok (.iload_n 1, 1) := by decide +kernel
theorem dX9_humidity_51 : decode cX9_humidity 51 = .ok (.iadd, 1) := by decide +kernel
theorem dX9_humidity_52 : decode cX9_humidity 52 = .ok (.iload_n 2, 1) := by decide +kernel
theorem dX9_humidity_53 : decode cX9_humidity 53 = .ok (.iastore, 1) := by decide +kernel
theorem dX9_humidity_54 : decode cX9_humidity 54 = .ok (.aload_n 0, 1) := by decide +kernel
theorem dX9_humidity_55 : decode cX9_humidity 55 = .ok (.aload_n 0, 1) := by decide +kernel
theorem dX9_humidity_56 : decode cX9_humidity 56 = .ok (.iload_n 3, 1) := by decide +kernel
theorem dX9_humidity_57 : decode cX9_humidity 57 = .ok (.invokevirtual 64, 3) := by decide +kernel
theorem dX9_humidity_60 : decode cX9_humidity 60 = .ok (.invokevirtual 67, 3) := by decide +kernel
theorem dX9_humidity_63 : decode cX9_humidity 63 = .ok (.ireturn, 1) := by decide +kernel
theorem dX9_humidAt_0 : decode cX9_humidAt 0 = .ok (.aload_n 0, 1) := by decide +kernel
theorem dX9_humidAt_1 : decode cX9_humidAt 1 = .ok (.getfield 7, 3) := by decide +kernel
theorem dX9_humidAt_4 : decode cX9_humidAt 4 = .ok (.iconst 2, 1) := by decide +kernel
theorem dX9_humidAt_5 : decode cX9_humidAt 5 = .ok (.iload_n 1, 1) := by decide +kernel
theorem dX9_humidAt_6 : decode cX9_humidAt 6 = .ok (.bipush 24, 2) := by decide +kernel
theorem dX9_humidAt_8 : decode cX9_humidAt 8 = .ok (.irem, 1) := by decide +kernel
theorem dX9_humidAt_9 : decode cX9_humidAt 9 = .ok (.iadd, 1) := by decide +kernel
theorem dX9_humidAt_10 : decode cX9_humidAt 10 = .ok (.iaload, 1) := by decide +kernel
theorem dX9_humidAt_11 : decode cX9_humidAt 11 = .ok (.ireturn, 1) := by decide +kernel
theorem dX9_humidityIn_0 : decode cX9_humidityIn 0 = .ok (.iload_n 1, 1) := by decide +kernel
theorem dX9_humidityIn_1 : decode cX9_humidityIn 1 = .ok (.iconst 0, 1) := by decide +kernel
theorem dX9_humidityIn_2 : decode cX9_humidityIn 2 = .ok (.bipush 99, 2) := by decide +kernel
theorem dX9_humidityIn_4 : decode cX9_humidityIn 4 = .ok (.invokestatic 53, 3) := by decide +kernel
theorem dX9_humidityIn_7 : decode cX9_humidityIn 7 = .ok (.ifCond .eq 22, 3) := by decide +kernel
theorem dX9_humidityIn_10 : decode cX9_humidityIn 10 = .ok (.aload_n 0, 1) := by decide +kernel
theorem dX9_humidityIn_11 : decode cX9_humidityIn 11 = .ok (.aload_n 0, 1) := by decide +kernel
theorem dX9_humidityIn_12 : decode cX9_humidityIn 12 = .ok (.aload_n 0, 1) := by decide +kernel
theorem dX9_humidityIn_13 : decode cX9_humidityIn 13 = .ok (.getfield 7, 3) := by decide +kernel
theorem dX9_humidityIn_16 : decode cX9_humidityIn 16 = .ok (.iconst 0, 1) := by decide +kernel
theorem dX9_humidityIn_17 : decode cX9_humidityIn 17 = .ok (.iaload, 1) := by decide +kernel
theorem dX9_humidityIn_18 : decode cX9_humidityIn 18 = .ok (.iload_n 1, 1) := by decide +kernel
theorem dX9_humidityIn_19 : decode cX9_humidityIn 19 = .ok (.iadd, 1) := by decide +kernel
theorem dX9_humidityIn_20 : decode cX9_humidityIn 20 = .ok (.invokevirtual 70, 3) := by decide +kernel
theorem dX9_humidityIn_23 : decode cX9_humidityIn 23 = .ok (.invokevirtual 64, 3) := by decide +kernel
theorem dX9_humidityIn_26 : decode cX9_humidityIn 26 = .ok (.goto 8, 3) := by decide +kernel
theorem dX9_humidityIn_29 : decode cX9_humidityIn 29 = .ok (.aload_n 0, 1) := by decide +kernel
theorem dX9_humidityIn_30 : decode cX9_humidityIn 30 = .ok (.iconst 1, 1) := by decide +kernel
theorem dX9_humidityIn_31 : decode cX9_humidityIn 31 = .ok (.invokevirtual 57, 3) := by decide +kernel
theorem dX9_humidityIn_34 : decode cX9_humidityIn 34 = .ok (.ireturn, 1) := by decide +kernel
theorem dX9_isGrade_0 : decode cX9_isGrade 0 = .ok (.iload_n 0, 1) := by decide +kernel
theorem dX9_isGrade_1 : decode cX9_isGrade 1 = .ok (.iconst 0, 1) := by decide +kernel
theorem dX9_isGrade_2 : decode cX9_isGrade 2 = .ok (.iconst 2, 1) := by decide +kernel
theorem dX9_isGrade_3 : decode cX9_isGrade 3 = .ok (.invokestatic 53, 3) := by decide +kernel
theorem dX9_isGrade_6 : decode cX9_isGrade 6 = .ok (.ireturn, 1) := by decide +kernel
theorem dX9_buys_0 : decode cX9_buys 0 = .ok (.iload_n 1, 1) := by decide +kernel
theorem dX9_buys_1 : decode cX9_buys 1 = .ok (.invokestatic 73, 3) := by decide +kernel
theorem dX9_buys_4 : decode cX9_buys 4 = .ok (.ifCond .eq 13, 3) := by decide +kernel
theorem dX9_buys_7 : decode cX9_buys 7 = .ok (.iload_n 2, 1) := by decide +kernel
theorem dX9_buys_8 : decode cX9_buys 8 = .ok (.iconst 1, 1) := by decide +kernel
theorem dX9_buys_9 : decode cX9_buys 9 = .ok (.bipush 99, 2) := by decide +kernel
theorem dX9_buys_11 : decode cX9_buys 11 = .ok (.invokestatic 53, 3) := by decide +kernel
theorem dX9_buys_14 : decode cX9_buys 14 = .ok (.ifCond .ne 9, 3) := by decide +kernel
theorem dX9_buys_17 : decode cX9_buys 17 = .ok (.aload_n 0, 1) := by decide +kernel
theorem dX9_buys_18 : decode cX9_buys 18 = .ok (.iconst 1, 1) := by decide +kernel
theorem dX9_buys_19 : decode cX9_buys 19 = .ok (.invokevirtual 57, 3) := by decide +kernel
theorem dX9_buys_22 : decode cX9_buys 22 = .ok (.ireturn, 1) := by decide +kernel
theorem dX9_buys_23 : decode cX9_buys 23 = .ok (.aload_n 0, 1) := by decide +kernel
theorem dX9_buys_24 : decode cX9_buys 24 = .ok (.getfield 7, 3) := by decide +kernel
theorem dX9_buys_27 : decode cX9_buys 27 = .ok (.bipush 26, 2) := by decide +kernel
theorem dX9_buys_29 : decode cX9_buys 29 = .ok (.iload_n 1, 1) := by decide +kernel
theorem dX9_buys_30 : decode cX9_buys 30 = .ok (.iadd, 1) := by decide +kernel
theorem dX9_buys_31 : decode cX9_buys 31 = .ok (.iaload, 1) := by decide +kernel
theorem dX9_buys_32 : decode cX9_buys 32 = .ok (.iload_n 2, 1) := by decide +kernel
theorem dX9_buys_33 : decode cX9_buys 33 = .ok (.iadd, 1) := by decide +kernel
theorem dX9_buys_34 : decode cX9_buys 34 = .ok (.sipush 300, 3) := by decide +kernel
theorem dX9_buys_37 : decode cX9_buys 37 = .ok (.if_icmp .le 19, 3) := by decide +kernel
theorem dX9_buys_40 : decode cX9_buys 40 = .ok (.aload_n 0, 1) := by decide +kernel
theorem dX9_buys_41 : decode cX9_buys 41 = .ok (.iconst 3, 1) := by decide +kernel
theorem dX9_buys_42 : decode cX9_buys 42 = .ok (.aload_n 0, 1) := by decide +kernel
theorem dX9_buys_43 : decode cX9_buys 43 = .ok (.getfield 7, 3) := by decide +kernel
theorem dX9_buys_46 : decode cX9_buys 46 = .ok (.bipush 26, 2) := by decide +kernel
theorem dX9_buys_48 : decode cX9_buys 48 = .ok (.iload_n 1, 1) := by decide +kernel
theorem dX9_buys_49 : decode cX9_buys 49 = .ok (.iadd, 1) := by decide +kernel
theorem dX9_buys_50 : decode cX9_buys 50 = .ok (.iaload, 1) := by decide +kernel
theorem dX9_buys_51 : decode cX9_buys 51 = .ok (.iconst 2, 1) := by decide +kernel
theorem dX9_buys_52 : decode cX9_buys 52 = .ok (.invokevirtual 77, 3) := by decide +kernel
theorem dX9_buys_55 : decode cX9_buys 55 = .ok (.ireturn, 1) := by decide +kernel
theorem dX9_buys_56 : decode cX9_buys 56 = .ok (.iload_n 2, 1) := by decide +kernel
theorem dX9_buys_57 : decode cX9_buys 57 = .ok (.iload_n 1, 1) := by decide +kernel
theorem dX9_buys_58 : decode cX9_buys 58 = .ok (.iconst 1, 1) := by decide +kernel
theorem dX9_buys_59 : decode cX9_buys 59 = .ok (.iadd, 1) := by decide +kernel
theorem dX9_buys_60 : decode cX9_buys 60 = .ok (.imul, 1) := by decide +kernel
theorem dX9_buys_61 : decode cX9_buys 61 = .ok (.istore_n 3, 1) := by decide +kernel
theorem dX9_buys_62 : decode cX9_buys 62 = .ok (.aload_n 0, 1) := by decide +kernel
theorem dX9_buys_63 : decode cX9_buys 63 = .ok (.getfield 7, 3) := by decide +kernel
theorem dX9_buys_66 : decode cX9_buys 66 = .ok (.iconst 1, 1) := by decide +kernel
theorem dX9_buys_67 : decode cX9_buys 67 = .ok (.iaload, 1) := by decide +kernel
theorem dX9_buys_68 : decode cX9_buys 68 = .ok (.iload_n 3, 1) := by decide +kernel
theorem dX9_buys_69 : decode cX9_buys 69 = .ok (.if_icmp .ge 18, 3) := by decide +kernel
theorem dX9_buys_72 : decode cX9_buys 72 = .ok (.aload_n 0, 1) := by decide +kernel
theorem dX9_buys_73 : decode cX9_buys 73 = .ok (.iconst 2, 1) := by decide +kernel
theorem dX9_buys_74 : decode cX9_buys 74 = .ok (.iload_n 3, 1) := by decide +kernel
theorem dX9_buys_75 : decode cX9_buys 75 = .ok (.aload_n 0, 1) := by decide +kernel
theorem dX9_buys_76 : decode cX9_buys 76 = .ok (.getfield 7, 3) := by decide +kernel
theorem dX9_buys_79 : decode cX9_buys 79 = .ok (.iconst 1, 1) := by decide +kernel
theorem dX9_buys_80 : decode cX9_buys 80 = .ok (.iaload, 1) := by decide +kernel
theorem dX9_buys_81 : decode cX9_buys 81 = .ok (.isub, 1) := by decide +kernel
theorem dX9_buys_82 : decode cX9_buys 82 = .ok (.iconst 2, 1) := by decide +kernel
theorem dX9_buys_83 : decode cX9_buys 83 = .ok (.invokevirtual 77, 3) := by decide +kernel
theorem dX9_buys_86 : decode cX9_buys 86 = .ok (.ireturn, 1) := by decide +kernel
theorem dX9_buys_87 : decode cX9_buys 87 = .ok (.aload_n 0, 1) := by decide +kernel
theorem dX9_buys_88 : decode cX9_buys 88 = .ok (.getfield 7, 3) := by decide +kernel
theorem dX9_buys_91 : decode cX9_buys 91 = .ok (.iconst 1, 1) := by decide +kernel
theorem dX9_buys_92 : decode cX9_buys 92 = .ok (.dup2, 1) := by decide +kernel
theorem dX9_buys_93 : decode cX9_buys 93 = .ok (.iaload, 1) := by decide +kernel
theorem dX9_buys_94 : decode cX9_buys 94 = .ok (.iload_n 3, 1) := by decide +kernel
theorem dX9_buys_95 : decode cX9_buys 95 = .ok (.isub, 1) := by decide +kernel
theorem dX9_buys_96 : decode cX9_buys 96 = .ok (.iastore, 1) := by decide +kernel
theorem dX9_buys_97 : decode cX9_buys 97 = .ok (.aload_n 0, 1) := by decide +kernel
theorem dX9_buys_98 : decode cX9_buys 98 = .ok (.getfield 7, 3) := by decide +kernel
theorem dX9_buys_101 : decode cX9_buys 101 = .ok (.bipush 99, 2) := by decide +kernel
theorem dX9_buys_103 : decode cX9_buys 103 = .ok (.dup2, 1) := by decide +kernel
theorem dX9_buys_104 : decode cX9_buys 104 = .ok (.iaload, 1) := by decide +kernel
theorem dX9_buys_105 : decode cX9_buys 105 = .ok (.iload_n 3, 1) := by decide +kernel
theorem dX9_buys_106 : decode cX9_buys 106 = .ok (.iadd, 1) := by decide +kernel
theorem dX9_buys_107 : decode cX9_buys 107 = .ok (.iastore, 1) := by decide +kernel
theorem dX9_buys_108 : decode cX9_buys 108 = .ok (.aload_n 0, 1) := by decide +kernel
theorem dX9_buys_109 : decode cX9_buys 109 = .ok (.getfield 7, 3) := by decide +kernel
theorem dX9_buys_112 : decode cX9_buys 112 = .ok (.bipush 95, 2) := by decide +kernel
theorem dX9_buys_114 : decode cX9_buys 114 = .ok (.dup2, 1) := by decide +kernel
theorem dX9_buys_115 : decode cX9_buys 115 = .ok (.iaload, 1) := by decide +kernel
theorem dX9_buys_116 : decode cX9_buys 116 = .ok (.iload_n 2, 1) := by decide +kernel
theorem dX9_buys_117 : decode cX9_buys 117 = .ok (.iadd, 1) := by decide +kernel
theorem dX9_buys_118 : decode cX9_buys 118 = .ok (.iastore, 1) := by decide +kernel
theorem dX9_buys_119 : decode cX9_buys 119 = .ok (.aload_n 0, 1) := by decide +kernel
theorem dX9_buys_120 : decode cX9_buys 120 = .ok (.getfield 7, 3) := by decide +kernel
theorem dX9_buys_123 : decode cX9_buys 123 = .ok (.bipush 26, 2) := by decide +kernel
theorem dX9_buys_125 : decode cX9_buys 125 = .ok (.iload_n 1, 1) := by decide +kernel
theorem dX9_buys_126 : decode cX9_buys 126 = .ok (.iadd, 1) := by decide +kernel
theorem dX9_buys_127 : decode cX9_buys 127 = .ok (.dup2, 1) := by decide +kernel
theorem dX9_buys_128 : decode cX9_buys 128 = .ok (.iaload, 1) := by decide +kernel
theorem dX9_buys_129 : decode cX9_buys 129 = .ok (.iload_n 2, 1) := by decide +kernel
theorem dX9_buys_130 : decode cX9_buys 130 = .ok (.iadd, 1) := by decide +kernel
theorem dX9_buys_131 : decode cX9_buys 131 = .ok (.iastore, 1) := by decide +kernel
theorem dX9_buys_132 : decode cX9_buys 132 = .ok (.aload_n 0, 1) := by decide +kernel
theorem dX9_buys_133 : decode cX9_buys 133 = .ok (.aload_n 0, 1) := by decide +kernel
theorem dX9_buys_134 : decode cX9_buys 134 = .ok (.getfield 7, 3) := by decide +kernel
theorem dX9_buys_137 : decode cX9_buys 137 = .ok (.bipush 26, 2) := by decide +kernel
theorem dX9_buys_139 : decode cX9_buys 139 = .ok (.iload_n 1, 1) := by decide +kernel
theorem dX9_buys_140 : decode cX9_buys 140 = .ok (.iadd, 1) := by decide +kernel
theorem dX9_buys_141 : decode cX9_buys 141 = .ok (.iaload, 1) := by decide +kernel
theorem dX9_buys_142 : decode cX9_buys 142 = .ok (.invokevirtual 64, 3) := by decide +kernel
theorem dX9_buys_145 : decode cX9_buys 145 = .ok (.ireturn, 1) := by decide +kernel
theorem dX9_buy_0 : decode cX9_buy 0 = .ok (.aload_n 0, 1) := by decide +kernel
theorem dX9_buy_1 : decode cX9_buy 1 = .ok (.invokevirtual 61, 3) := by decide +kernel
theorem dX9_buy_4 : decode cX9_buy 4 = .ok (.aload_n 0, 1) := by decide +kernel
theorem dX9_buy_5 : decode cX9_buy 5 = .ok (.aload_n 0, 1) := by decide +kernel
theorem dX9_buy_6 : decode cX9_buy 6 = .ok (.iload_n 1, 1) := by decide +kernel
theorem dX9_buy_7 : decode cX9_buy 7 = .ok (.iload_n 2, 1) := by decide +kernel
theorem dX9_buy_8 : decode cX9_buy 8 = .ok (.invokevirtual 81, 3) := by decide +kernel
theorem dX9_buy_11 : decode cX9_buy 11 = .ok (.invokevirtual 67, 3) := by decide +kernel
theorem dX9_buy_14 : decode cX9_buy 14 = .ok (.ireturn, 1) := by decide +kernel
theorem dX9_stock_0 : decode cX9_stock 0 = .ok (.iload_n 1, 1) := by decide +kernel
theorem dX9_stock_1 : decode cX9_stock 1 = .ok (.invokestatic 73, 3) := by decide +kernel
theorem dX9_stock_4 : decode cX9_stock 4 = .ok (.ifCond .eq 19, 3) := by decide +kernel
theorem dX9_stock_7 : decode cX9_stock 7 = .ok (.aload_n 0, 1) := by decide +kernel
theorem dX9_stock_8 : decode cX9_stock 8 = .ok (.aload_n 0, 1) := by decide +kernel
theorem dX9_stock_9 : decode cX9_stock 9 = .ok (.getfield 7, 3) := by decide +kernel
theorem dX9_stock_12 : decode cX9_stock 12 = .ok (.bipush 26, 2) := by decide +kernel
theorem dX9_stock_14 : decode cX9_stock 14 = .ok (.iload_n 1, 1) := by decide +kernel
theorem dX9_stock_15 : decode cX9_stock 15 = .ok (.iadd, 1) := by decide +kernel
theorem dX9_stock_16 : decode cX9_stock 16 = .ok (.iaload, 1) := by decide +kernel
theorem dX9_stock_17 : decode cX9_stock 17 = .ok (.invokevirtual 64, 3) := by decide +kernel
theorem dX9_stock_20 : decode cX9_stock 20 = .ok (.goto 8, 3) := by decide +kernel
theorem dX9_stock_23 : decode cX9_stock 23 = .ok (.aload_n 0, 1) := by decide +kernel
theorem dX9_stock_24 : decode cX9_stock 24 = .ok (.iconst 1, 1) := by decide +kernel
theorem dX9_stock_25 : decode cX9_stock 25 = .ok (.invokevirtual 57, 3) := by decide +kernel
theorem dX9_stock_28 : decode cX9_stock 28 = .ok (.ireturn, 1) := by decide +kernel
theorem dX9_tongs_0 : decode cX9_tongs 0 = .ok (.iload_n 1, 1) := by decide +kernel
theorem dX9_tongs_1 : decode cX9_tongs 1 = .ok (.iconst 1, 1) := by decide +kernel
theorem dX9_tongs_2 : decode cX9_tongs 2 = .ok (.bipush 10, 2) := by decide +kernel
theorem dX9_tongs_4 : decode cX9_tongs 4 = .ok (.invokestatic 53, 3) := by decide +kernel
theorem dX9_tongs_7 : decode cX9_tongs 7 = .ok (.ifCond .ne 9, 3) := by decide +kernel
theorem dX9_tongs_10 : decode cX9_tongs 10 = .ok (.aload_n 0, 1) := by decide +kernel
theorem dX9_tongs_11 : decode cX9_tongs 11 = .ok (.iconst 1, 1) := by decide +kernel
theorem dX9_tongs_12 : decode cX9_tongs 12 = .ok (.invokevirtual 57, 3) := by decide +kernel
theorem dX9_tongs_15 : decode cX9_tongs 15 = .ok (.ireturn, 1) := by decide +kernel
theorem dX9_tongs_16 : decode cX9_tongs 16 = .ok (.aload_n 0, 1) := by decide +kernel
theorem dX9_tongs_17 : decode cX9_tongs 17 = .ok (.getfield 7, 3) := by decide +kernel
theorem dX9_tongs_20 : decode cX9_tongs 20 = .ok (.bipush 48, 2) := by decide +kernel
theorem dX9_tongs_22 : decode cX9_tongs 22 = .ok (.iaload, 1) := by decide +kernel
theorem dX9_tongs_23 : decode cX9_tongs 23 = .ok (.istore_n 2, 1) := by decide +kernel
theorem dX9_tongs_24 : decode cX9_tongs 24 = .ok (.iload_n 2, 1) := by decide +kernel
theorem dX9_tongs_25 : decode cX9_tongs 25 = .ok (.iconst 4, 1) := by decide +kernel
theorem dX9_tongs_26 : decode cX9_tongs 26 = .ok (.if_icmp .ne 11, 3) := by decide +kernel
theorem dX9_tongs_29 : decode cX9_tongs 29 = .ok (.aload_n 0, 1) := by decide +kernel
theorem dX9_tongs_30 : decode cX9_tongs 30 = .ok (.iconst 1, 1) := by decide +kernel
theorem dX9_tongs_31 : decode cX9_tongs 31 = .ok (.iconst 4, 1) := by decide +kernel
theorem dX9_tongs_32 : decode cX9_tongs 32 = .ok (.iconst 2, 1) := by decide +kernel
theorem dX9_tongs_33 : decode cX9_tongs 33 = .ok (.invokevirtual 77, 3) := by decide +kernel
theorem dX9_tongs_36 : decode cX9_tongs 36 = .ok (.ireturn, 1) := by decide +kernel
theorem dX9_tongs_37 : decode cX9_tongs 37 = .ok (.aload_n 0, 1) := by decide +kernel
theorem dX9_tongs_38 : decode cX9_tongs 38 = .ok (.invokevirtual 61, 3) := by decide +kernel
theorem dX9_tongs_41 : decode cX9_tongs 41 = .ok (.aload_n 0, 1) := by decide +kernel
theorem dX9_tongs_42 : decode cX9_tongs 42 = .ok (.getfield 7, 3) := by decide +kernel
theorem dX9_tongs_45 : decode cX9_tongs 45 = .ok (.bipush 49, 2) := by decide +kernel
theorem dX9_tongs_47 : decode cX9_tongs 47 = .ok (.iload_n 2, 1) := by decide +kernel
theorem dX9_tongs_48 : decode cX9_tongs 48 = .ok (.iadd, 1) := by decide +kernel
theorem dX9_tongs_49 : decode cX9_tongs 49 = .ok (.iload_n 1, 1) := by decide +kernel
theorem dX9_tongs_50 : decode cX9_tongs 50 = .ok (.iastore, 1) := by decide +kernel
theorem dX9_tongs_51 : decode cX9_tongs 51 = .ok (.aload_n 0, 1) := by decide +kernel
theorem dX9_tongs_52 : decode cX9_tongs 52 = .ok (.getfield 7, 3) := by decide +kernel
theorem dX9_tongs_55 : decode cX9_tongs 55 = .ok (.bipush 48, 2) := by decide +kernel
theorem dX9_tongs_57 : decode cX9_tongs 57 = .ok (.dup2, 1) := by decide +kernel
theorem dX9_tongs_58 : decode cX9_tongs 58 = .ok (.iaload, 1) := by decide +kernel
theorem dX9_tongs_59 : decode cX9_tongs 59 = .ok (.iconst 1, 1) := by decide +kernel
theorem dX9_tongs_60 : decode cX9_tongs 60 = .ok (.iadd, 1) := by decide +kernel
theorem dX9_tongs_61 : decode cX9_tongs 61 = .ok (.iastore, 1) := by decide +kernel
theorem dX9_tongs_62 : decode cX9_tongs 62 = .ok (.aload_n 0, 1) := by decide +kernel
theorem dX9_tongs_63 : decode cX9_tongs 63 = .ok (.aload_n 0, 1) := by decide +kernel
theorem dX9_tongs_64 : decode cX9_tongs 64 = .ok (.iload_n 2, 1) := by decide +kernel
theorem dX9_tongs_65 : decode cX9_tongs 65 = .ok (.invokevirtual 64, 3) := by decide +kernel
theorem dX9_tongs_68 : decode cX9_tongs 68 = .ok (.invokevirtual 67, 3) := by decide +kernel
theorem dX9_tongs_71 : decode cX9_tongs 71 = .ok (.ireturn, 1) := by decide +kernel
theorem dX9_isTongs_0 : decode cX9_isTongs 0 = .ok (.iload_n 1, 1) := by decide +kernel
theorem dX9_isTongs_1 : decode cX9_isTongs 1 = .ok (.iconst 0, 1) := by decide +kernel
theorem dX9_isTongs_2 : decode cX9_isTongs 2 = .ok (.aload_n 0, 1) := by decide +kernel
theorem dX9_isTongs_3 : decode cX9_isTongs 3 = .ok (.getfield 7, 3) := by decide +kernel
theorem dX9_isTongs_6 : decode cX9_isTongs 6 = .ok (.bipush 48, 2) := by decide +kernel
theorem dX9_isTongs_8 : decode cX9_isTongs 8 = .ok (.iaload, 1) := by decide +kernel
theorem dX9_isTongs_9 : decode cX9_isTongs 9 = .ok (.iconst 1, 1) := by decide +kernel
theorem dX9_isTongs_10 : decode cX9_isTongs 10 = .ok (.isub, 1) := by decide +kernel
theorem dX9_isTongs_11 : decode cX9_isTongs 11 = .ok (.invokestatic 53, 3) := by decide +kernel
theorem dX9_isTongs_14 : decode cX9_isTongs 14 = .ok (.ireturn, 1) := by decide +kernel
theorem dX9_tongsOf_0 : decode cX9_tongsOf 0 = .ok (.aload_n 0, 1) := by decide +kernel
theorem dX9_tongsOf_1 : decode cX9_tongsOf 1 = .ok (.iload_n 1, 1) := by decide +kernel
theorem dX9_tongsOf_2 : decode cX9_tongsOf 2 = .ok (.invokevirtual 85, 3) := by decide +kernel
theorem dX9_tongsOf_5 : decode cX9_tongsOf 5 = .ok (.ifCond .ne 9, 3) := by decide +kernel
theorem dX9_tongsOf_8 : decode cX9_tongsOf 8 = .ok (.aload_n 0, 1) := by decide +kernel
theorem dX9_tongsOf_9 : decode cX9_tongsOf 9 = .ok (.iconst 1, 1) := by decide +kernel
theorem dX9_tongsOf_10 : decode cX9_tongsOf 10 = .ok (.invokevirtual 57, 3) := by decide +kernel
theorem dX9_tongsOf_13 : decode cX9_tongsOf 13 = .ok (.ireturn, 1) := by decide +kernel
theorem dX9_tongsOf_14 : decode cX9_tongsOf 14 = .ok (.iload_n 2, 1) := by decide +kernel
theorem dX9_tongsOf_15 : decode cX9_tongsOf 15 = .ok (.iconst 0, 1) := by decide +kernel
theorem dX9_tongsOf_16 : decode cX9_tongsOf 16 = .ok (.iconst 2, 1) := by decide +kernel
theorem dX9_tongsOf_17 : decode cX9_tongsOf 17 = .ok (.invokestatic 53, 3) := by decide +kernel
theorem dX9_tongsOf_20 : decode cX9_tongsOf 20 = .ok (.ifCond .eq 23, 3) := by decide +kernel
theorem dX9_tongsOf_23 : decode cX9_tongsOf 23 = .ok (.aload_n 0, 1) := by decide +kernel
theorem dX9_tongsOf_24 : decode cX9_tongsOf 24 = .ok (.aload_n 0, 1) := by decide +kernel
theorem dX9_tongsOf_25 : decode cX9_tongsOf 25 = .ok (.getfield 7, 3) := by decide +kernel
theorem dX9_tongsOf_28 : decode cX9_tongsOf 28 = .ok (.bipush 49, 2) := by decide +kernel
theorem dX9_tongsOf_30 : decode cX9_tongsOf 30 = .ok (.iconst 4, 1) := by decide +kernel
theorem dX9_tongsOf_31 : decode cX9_tongsOf 31 = .ok (.iload_n 2, 1) := by decide +kernel
theorem dX9_tongsOf_32 : decode cX9_tongsOf 32 = .ok (.imul, 1) := by decide +kernel
theorem dX9_tongsOf_33 : decode cX9_tongsOf 33 = .ok (.iadd, 1) := by decide +kernel
theorem dX9_tongsOf_34 : decode cX9_tongsOf 34 = .ok (.iload_n 1, 1) := by decide +kernel
theorem dX9_tongsOf_35 : decode cX9_tongsOf 35 = .ok (.iadd, 1) := by decide +kernel
theorem dX9_tongsOf_36 : decode cX9_tongsOf 36 = .ok (.iaload, 1) := by decide +kernel
theorem dX9_tongsOf_37 : decode cX9_tongsOf 37 = .ok (.invokevirtual 64, 3) := by decide +kernel
theorem dX9_tongsOf_40 : decode cX9_tongsOf 40 = .ok (.goto 8, 3) := by decide +kernel
theorem dX9_tongsOf_43 : decode cX9_tongsOf 43 = .ok (.aload_n 0, 1) := by decide +kernel
theorem dX9_tongsOf_44 : decode cX9_tongsOf 44 = .ok (.iconst 2, 1) := by decide +kernel
theorem dX9_tongsOf_45 : decode cX9_tongsOf 45 = .ok (.invokevirtual 57, 3) := by decide +kernel
theorem dX9_tongsOf_48 : decode cX9_tongsOf 48 = .ok (.ireturn, 1) := by decide +kernel
theorem dX9_tongsFor_0 : decode cX9_tongsFor 0 = .ok (.iload_n 1, 1) := by decide +kernel
theorem dX9_tongsFor_1 : decode cX9_tongsFor 1 = .ok (.iconst 0, 1) := by decide +kernel
theorem dX9_tongsFor_2 : decode cX9_tongsFor 2 = .ok (.bipush 9, 2) := by decide +kernel
theorem dX9_tongsFor_4 : decode cX9_tongsFor 4 = .ok (.invokestatic 53, 3) := by decide +kernel
theorem dX9_tongsFor_7 : decode cX9_tongsFor 7 = .ok (.ifCond .ne 9, 3) := by decide +kernel
theorem dX9_tongsFor_10 : decode cX9_tongsFor 10 = .ok (.aload_n 0, 1) := by decide +kernel
theorem dX9_tongsFor_11 : decode cX9_tongsFor 11 = .ok (.iconst 1, 1) := by decide +kernel
theorem dX9_tongsFor_12 : decode cX9_tongsFor 12 = .ok (.invokevirtual 57, 3) := by decide +kernel
theorem dX9_tongsFor_15 : decode cX9_tongsFor 15 = .ok (.ireturn, 1) := by decide +kernel
theorem dX9_tongsFor_16 : decode cX9_tongsFor 16 = .ok (.iconst (-1), 1) := by decide +kernel
theorem dX9_tongsFor_17 : decode cX9_tongsFor 17 = .ok (.istore_n 2, 1) := by decide +kernel
theorem dX9_tongsFor_18 : decode cX9_tongsFor 18 = .ok (.iconst 0, 1) := by decide +kernel
theorem dX9_tongsFor_19 : decode cX9_tongsFor 19 = .ok (.istore_n 3, 1) := by decide +kernel
theorem dX9_tongsFor_20 : decode cX9_tongsFor 20 = .ok (.iload_n 3, 1) := by decide +kernel
theorem dX9_tongsFor_21 : decode cX9_tongsFor 21 = .ok (.aload_n 0, 1) := by decide +kernel
theorem dX9_tongsFor_22 : decode cX9_tongsFor 22 = .ok (.getfield 7, 3) := by decide +kernel
theorem dX9_tongsFor_25 : decode cX9_tongsFor 25 = .ok (.bipush 48, 2) := by decide +kernel
theorem dX9_tongsFor_27 : decode cX9_tongsFor 27 = .ok (.iaload, 1) := by decide +kernel
theorem dX9_tongsFor_28 : decode cX9_tongsFor 28 = .ok (.if_icmp .ge 78, 3) := by decide +kernel
theorem dX9_tongsFor_31 : decode cX9_tongsFor 31 = .ok (.aload_n 0, 1) := by decide +kernel
theorem dX9_tongsFor_32 : decode cX9_tongsFor 32 = .ok (.getfield 7, 3) := by decide +kernel
theorem dX9_tongsFor_35 : decode cX9_tongsFor 35 = .ok (.bipush 53, 2) := by decide +kernel
theorem dX9_tongsFor_37 : decode cX9_tongsFor 37 = .ok (.iload_n 3, 1) := by decide +kernel
theorem dX9_tongsFor_38 : decode cX9_tongsFor 38 = .ok (.iadd, 1) := by decide +kernel
theorem dX9_tongsFor_39 : decode cX9_tongsFor 39 = .ok (.iaload, 1) := by decide +kernel
theorem dX9_tongsFor_40 : decode cX9_tongsFor 40 = .ok (.ifCond .ne 20, 3) := by decide +kernel
theorem dX9_tongsFor_43 : decode cX9_tongsFor 43 = .ok (.aload_n 0, 1) := by decide +kernel
theorem dX9_tongsFor_44 : decode cX9_tongsFor 44 = .ok (.getfield 7, 3) := by decide +kernel
theorem dX9_tongsFor_47 : decode cX9_tongsFor 47 = .ok (.bipush 49, 2) := by decide +kernel
theorem dX9_tongsFor_49 : decode cX9_tongsFor 49 = .ok (.iload_n 3, 1) := by decide +kernel
theorem dX9_tongsFor_50 : decode cX9_tongsFor 50 = .ok (.iadd, 1) := by decide +kernel
theorem dX9_tongsFor_51 : decode cX9_tongsFor 51 = .ok (.iaload, 1) := by decide +kernel
theorem dX9_tongsFor_52 : decode cX9_tongsFor 52 = .ok (.iload_n 1, 1) := by decide +kernel
theorem dX9_tongsFor_53 : decode cX9_tongsFor 53 = .ok (.if_icmp .le 7, 3) := by decide +kernel
theorem dX9_tongsFor_56 : decode cX9_tongsFor 56 = .ok (.iconst 1, 1) := by decide +kernel
theorem dX9_tongsFor_57 : decode cX9_tongsFor 57 = .ok (.goto 4, 3) := by decide +kernel
theorem dX9_tongsFor_60 : decode cX9_tongsFor 60 = .ok (.iconst 0, 1) := by decide +kernel
theorem dX9_tongsFor_61 : decode cX9_tongsFor 61 = .ok (.istore 4, 2) := by decide +kernel
theorem dX9_tongsFor_63 : decode cX9_tongsFor 63 = .ok (.iload 4, 2) := by decide +kernel
theorem dX9_tongsFor_65 : decode cX9_tongsFor 65 = .ok (.ifCond .eq 33, 3) := by decide +kernel
theorem dX9_tongsFor_68 : decode cX9_tongsFor 68 = .ok (.iload_n 2, 1) := by decide +kernel
theorem dX9_tongsFor_69 : decode cX9_tongsFor 69 = .ok (.iconst (-1), 1) := by decide +kernel
theorem dX9_tongsFor_70 : decode cX9_tongsFor 70 = .ok (.if_icmp .eq 24, 3) := by decide +kernel
theorem dX9_tongsFor_73 : decode cX9_tongsFor 73 = .ok (.aload_n 0, 1) := by decide +kernel
theorem dX9_tongsFor_74 : decode cX9_tongsFor 74 = .ok (.getfield 7, 3) := by decide +kernel
theorem dX9_tongsFor_77 : decode cX9_tongsFor 77 = .ok (.bipush 49, 2) := by decide +kernel
theorem dX9_tongsFor_79 : decode cX9_tongsFor 79 = .ok (.iload_n 3, 1) := by decide +kernel
theorem dX9_tongsFor_80 : decode cX9_tongsFor 80 = .ok (.iadd, 1) := by decide +kernel
theorem dX9_tongsFor_81 : decode cX9_tongsFor 81 = .ok (.iaload, 1) := by decide +kernel
theorem dX9_tongsFor_82 : decode cX9_tongsFor 82 = .ok (.aload_n 0, 1) := by decide +kernel
theorem dX9_tongsFor_83 : decode cX9_tongsFor 83 = .ok (.getfield 7, 3) := by decide +kernel
theorem dX9_tongsFor_86 : decode cX9_tongsFor 86 = .ok (.bipush 49, 2) := by decide +kernel
theorem dX9_tongsFor_88 : decode cX9_tongsFor 88 = .ok (.iload_n 2, 1) := by decide +kernel
theorem dX9_tongsFor_89 : decode cX9_tongsFor 89 = .ok (.iadd, 1) := by decide +kernel
theorem dX9_tongsFor_90 : decode cX9_tongsFor 90 = .ok (.iaload, 1) := by decide +kernel
theorem dX9_tongsFor_91 : decode cX9_tongsFor 91 = .ok (.if_icmp .ge 7, 3) := by decide +kernel
theorem dX9_tongsFor_94 : decode cX9_tongsFor 94 = .ok (.iload_n 3, 1) := by decide +kernel
theorem dX9_tongsFor_95 : decode cX9_tongsFor 95 = .ok (.goto 4, 3) := by decide +kernel
theorem dX9_tongsFor_98 : decode cX9_tongsFor 98 = .ok (.iload_n 2, 1) := by decide +kernel
theorem dX9_tongsFor_99 : decode cX9_tongsFor 99 = .ok (.istore_n 2, 1) := by decide +kernel
theorem dX9_tongsFor_100 : decode cX9_tongsFor 100 = .ok (.iinc 3 1, 3) := by decide +kernel
theorem dX9_tongsFor_103 : decode cX9_tongsFor 103 = .ok (.goto (-83), 3) := by decide +kernel
theorem dX9_tongsFor_106 : decode cX9_tongsFor 106 = .ok (.iload_n 2, 1) := by decide +kernel
theorem dX9_tongsFor_107 : decode cX9_tongsFor 107 = .ok (.iconst (-1), 1) := by decide +kernel
theorem dX9_tongsFor_108 : decode cX9_tongsFor 108 = .ok (.if_icmp .ne 11, 3) := by decide +kernel
theorem dX9_tongsFor_111 : decode cX9_tongsFor 111 = .ok (.aload_n 0, 1) := by decide +kernel
theorem dX9_tongsFor_112 : decode cX9_tongsFor 112 = .ok (.iconst 2, 1) := by decide +kernel
theorem dX9_tongsFor_113 : decode cX9_tongsFor 113 = .ok (.invokevirtual 57, 3) := by decide +kernel
theorem dX9_tongsFor_116 : decode cX9_tongsFor 116 = .ok (.goto 8, 3) := by decide +kernel
theorem dX9_tongsFor_119 : decode cX9_tongsFor 119 = .ok (.aload_n 0, 1) := by decide +kernel
theorem dX9_tongsFor_120 : decode cX9_tongsFor 120 = .ok (.iload_n 2, 1) := by decide +kernel
theorem dX9_tongsFor_121 : decode cX9_tongsFor 121 = .ok (.invokevirtual 64, 3) := by decide +kernel
theorem dX9_tongsFor_124 : decode cX9_tongsFor 124 = .ok (.ireturn, 1) := by decide +kernel
theorem dX9_isTower_0 : decode cX9_isTower 0 = .ok (.iload_n 1, 1) := by decide +kernel
theorem dX9_isTower_1 : decode cX9_isTower 1 = .ok (.iconst 0, 1) := by decide +kernel
theorem dX9_isTower_2 : decode cX9_isTower 2 = .ok (.aload_n 0, 1) := by decide +kernel
theorem dX9_isTower_3 : decode cX9_isTower 3 = .ok (.getfield 7, 3) := by decide +kernel
theorem dX9_isTower_6 : decode cX9_isTower 6 = .ok (.bipush 29, 2) := by decide +kernel
theorem dX9_isTower_8 : decode cX9_isTower 8 = .ok (.iaload, 1) := by decide +kernel
theorem dX9_isTower_9 : decode cX9_isTower 9 = .ok (.iconst 1, 1) := by decide +kernel
theorem dX9_isTower_10 : decode cX9_isTower 10 = .ok (.isub, 1) := by decide +kernel
theorem dX9_isTower_11 : decode cX9_isTower 11 = .ok (.invokestatic 53, 3) := by decide +kernel
theorem dX9_isTower_14 : decode cX9_isTower 14 = .ok (.ireturn, 1) := by decide +kernel
theorem dX9_isCourse_0 : decode cX9_isCourse 0 = .ok (.aload_n 0, 1) := by decide +kernel
theorem dX9_isCourse_1 : decode cX9_isCourse 1 = .ok (.iload_n 1, 1) := by decide +kernel
theorem dX9_isCourse_2 : decode cX9_isCourse 2 = .ok (.invokevirtual 88, 3) := by decide +kernel
theorem dX9_isCourse_5 : decode cX9_isCourse 5 = .ok (.ifCond .eq 26, 3) := by decide +kernel
theorem dX9_isCourse_8 : decode cX9_isCourse 8 = .ok (.iload_n 2, 1) := by decide +kernel
theorem dX9_isCourse_9 : decode cX9_isCourse 9 = .ok (.iconst 0, 1) := by decide +kernel
theorem dX9_isCourse_10 : decode cX9_isCourse 10 = .ok (.aload_n 0, 1) := by decide +kernel
theorem dX9_isCourse_11 : decode cX9_isCourse 11 = .ok (.getfield 7, 3) := by decide +kernel
theorem dX9_isCourse_14 : decode cX9_isCourse 14 = .ok (.bipush 36, 2) := by decide +kernel
theorem dX9_isCourse_16 : decode cX9_isCourse 16 = .ok (.iload_n 1, 1) := by decide +kernel
theorem dX9_isCourse_17 : decode cX9_isCourse 17 = .ok (.iadd, 1) := by decide +kernel
theorem dX9_isCourse_18 : decode cX9_isCourse 18 = .ok (.iaload, 1) := by decide +kernel
theorem dX9_isCourse_19 : decode cX9_isCourse 19 = .ok (.iconst 1, 1) := by decide +kernel
theorem dX9_isCourse_20 : decode cX9_isCourse 20 = .ok (.isub, 1) := by decide +kernel
theorem dX9_isCourse_21 : decode cX9_isCourse 21 = .ok (.invokestatic 53, 3) := by decide +kernel
theorem dX9_isCourse_24 : decode cX9_isCourse 24 = .ok (.ifCond .eq 7, 3) := by decide +kernel
theorem dX9_isCourse_27 : decode cX9_isCourse 27 = .ok (.iconst 1, 1) := by decide +kernel
theorem dX9_isCourse_28 : decode cX9_isCourse 28 = .ok (.goto 4, 3) := by decide +kernel
theorem dX9_isCourse_31 : decode cX9_isCourse 31 = .ok (.iconst 0, 1) := by decide +kernel
theorem dX9_isCourse_32 : decode cX9_isCourse 32 = .ok (.ireturn, 1) := by decide +kernel
theorem dX9_tower_0 : decode cX9_tower 0 = .ok (.aload_n 0, 1) := by decide +kernel
theorem dX9_tower_1 : decode cX9_tower 1 = .ok (.getfield 7, 3) := by decide +kernel
theorem dX9_tower_4 : decode cX9_tower 4 = .ok (.bipush 29, 2) := by decide +kernel
theorem dX9_tower_6 : decode cX9_tower 6 = .ok (.iaload, 1) := by decide +kernel
theorem dX9_tower_7 : decode cX9_tower 7 = .ok (.istore_n 1, 1) := by decide +kernel
theorem dX9_tower_8 : decode cX9_tower 8 = .ok (.iload_n 1, 1) := by decide +kernel
theorem dX9_tower_9 : decode cX9_tower 9 = .ok (.bipush 6, 2) := by decide +kernel
theorem dX9_tower_11 : decode cX9_tower 11 = .ok (.if_icmp .ne 12, 3) := by decide +kernel
theorem dX9_tower_14 : decode cX9_tower 14 = .ok (.aload_n 0, 1) := by decide +kernel
theorem dX9_tower_15 : decode cX9_tower 15 = .ok (.iconst 1, 1) := by decide +kernel
theorem dX9_tower_16 : decode cX9_tower 16 = .ok (.bipush 6, 2) := by decide +kernel
theorem dX9_tower_18 : decode cX9_tower 18 = .ok (.iconst 1, 1) := by decide +kernel
theorem dX9_tower_19 : decode cX9_tower 19 = .ok (.invokevirtual 77, 3) := by decide +kernel
theorem dX9_tower_22 : decode cX9_tower 22 = .ok (.ireturn, 1) := by decide +kernel
theorem dX9_tower_23 : decode cX9_tower 23 = .ok (.aload_n 0, 1) := by decide +kernel
theorem dX9_tower_24 : decode cX9_tower 24 = .ok (.invokevirtual 61, 3) := by decide +kernel
theorem dX9_tower_27 : decode cX9_tower 27 = .ok (.aload_n 0, 1) := by decide +kernel
theorem dX9_tower_28 : decode cX9_tower 28 = .ok (.getfield 7, 3) := by decide +kernel
theorem dX9_tower_31 : decode cX9_tower 31 = .ok (.bipush 29, 2) := by decide +kernel
theorem dX9_tower_33 : decode cX9_tower 33 = .ok (.dup2, 1) := by decide +kernel
theorem dX9_tower_34 : decode cX9_tower 34 = .ok (.iaload, 1) := by decide +kernel
theorem dX9_tower_35 : decode cX9_tower 35 = .ok (.iconst 1, 1) := by decide +kernel
theorem dX9_tower_36 : decode cX9_tower 36 = .ok (.iadd, 1) := by decide +kernel
theorem dX9_tower_37 : decode cX9_tower 37 = .ok (.iastore, 1) := by decide +kernel
theorem dX9_tower_38 : decode cX9_tower 38 = .ok (.aload_n 0, 1) := by decide +kernel
theorem dX9_tower_39 : decode cX9_tower 39 = .ok (.aload_n 0, 1) := by decide +kernel
theorem dX9_tower_40 : decode cX9_tower 40 = .ok (.iload_n 1, 1) := by decide +kernel
theorem dX9_tower_41 : decode cX9_tower 41 = .ok (.invokevirtual 64, 3) := by decide +kernel
theorem dX9_tower_44 : decode cX9_tower 44 = .ok (.invokevirtual 67, 3) := by decide +kernel
theorem dX9_tower_47 : decode cX9_tower 47 = .ok (.ireturn, 1) := by decide +kernel
theorem dX9_cubesOf_0 : decode cX9_cubesOf 0 = .ok (.aload_n 0, 1) := by decide +kernel
theorem dX9_cubesOf_1 : decode cX9_cubesOf 1 = .ok (.getfield 7, 3) := by decide +kernel
theorem dX9_cubesOf_4 : decode cX9_cubesOf 4 = .ok (.sipush 160, 3) := by decide +kernel
theorem dX9_cubesOf_7 : decode cX9_cubesOf 7 = .ok (.bipush 10, 2) := by decide +kernel
theorem dX9_cubesOf_9 : decode cX9_cubesOf 9 = .ok (.iload_n 1, 1) := by decide +kernel
theorem dX9_cubesOf_10 : decode cX9_cubesOf 10 = .ok (.imul, 1) := by decide +kernel
theorem dX9_cubesOf_11 : decode cX9_cubesOf 11 = .ok (.iadd, 1) := by decide +kernel
theorem dX9_cubesOf_12 : decode cX9_cubesOf 12 = .ok (.iload_n 2, 1) := by decide +kernel
theorem dX9_cubesOf_13 : decode cX9_cubesOf 13 = .ok (.iadd, 1) := by decide +kernel
theorem dX9_cubesOf_14 : decode cX9_cubesOf 14 = .ok (.iaload, 1) := by decide +kernel
theorem dX9_cubesOf_15 : decode cX9_cubesOf 15 = .ok (.ireturn, 1) := by decide +kernel
theorem dX9_strength_0 : decode cX9_strength 0 = .ok (.iload_n 0, 1) := by decide +kernel
theorem dX9_strength_1 : decode cX9_strength 1 = .ok (.ifCond .ne 7, 3) := by decide +kernel
theorem dX9_strength_4 : decode cX9_strength 4 = .ok (.iconst 4, 1) := by decide +kernel
theorem dX9_strength_5 : decode cX9_strength 5 = .ok (.goto 15, 3) := by decide +kernel
theorem dX9_strength_8 : decode cX9_strength 8 = .ok (.iload_n 0, 1) := by decide +kernel
theorem dX9_strength_9 : decode cX9_strength 9 = .ok (.iconst 1, 1) := by decide +kernel
theorem dX9_strength_10 : decode cX9_strength 10 = .ok (.if_icmp .ne 8, 3) := by decide +kernel
theorem dX9_strength_13 : decode cX9_strength 13 = .ok (.bipush 8, 2) := by decide +kernel
theorem dX9_strength_15 : decode cX9_strength 15 = .ok (.goto 5, 3) := by decide +kernel
theorem dX9_strength_18 : decode cX9_strength 18 = .ok (.bipush 15, 2) := by decide +kernel
theorem dX9_strength_20 : decode cX9_strength 20 = .ok (.ireturn, 1) := by decide +kernel
theorem dX9_bearsAt_0 : decode cX9_bearsAt 0 = .ok (.aload_n 0, 1) := by decide +kernel
theorem dX9_bearsAt_1 : decode cX9_bearsAt 1 = .ok (.getfield 7, 3) := by decide +kernel
theorem dX9_bearsAt_4 : decode cX9_bearsAt 4 = .ok (.bipush 100, 2) := by decide +kernel
theorem dX9_bearsAt_6 : decode cX9_bearsAt 6 = .ok (.bipush 10, 2) := by decide +kernel
theorem dX9_bearsAt_8 : decode cX9_bearsAt 8 = .ok (.iload_n 1, 1) := by decide +kernel
theorem dX9_bearsAt_9 : decode cX9_bearsAt 9 = .ok (.imul, 1) := by decide +kernel
theorem dX9_bearsAt_10 : decode cX9_bearsAt 10 = .ok (.iadd, 1) := by decide +kernel
theorem dX9_bearsAt_11 : decode cX9_bearsAt 11 = .ok (.iload_n 2, 1) := by decide +kernel
theorem dX9_bearsAt_12 : decode cX9_bearsAt 12 = .ok (.iadd, 1) := by decide +kernel
theorem dX9_bearsAt_13 : decode cX9_bearsAt 13 = .ok (.iaload, 1) := by decide +kernel
theorem dX9_bearsAt_14 : decode cX9_bearsAt 14 = .ok (.invokestatic 91, 3) := by decide +kernel
theorem dX9_bearsAt_17 : decode cX9_bearsAt 17 = .ok (.iload_n 3, 1) := by decide +kernel
theorem dX9_bearsAt_18 : decode cX9_bearsAt 18 = .ok (.bipush 10, 2) := by decide +kernel
theorem dX9_bearsAt_20 : decode cX9_bearsAt 20 = .ok (.idiv, 1) := by decide +kernel
theorem dX9_bearsAt_21 : decode cX9_bearsAt 21 = .ok (.isub, 1) := by decide +kernel
theorem dX9_bearsAt_22 : decode cX9_bearsAt 22 = .ok (.istore 4, 2) := by decide +kernel
theorem dX9_bearsAt_24 : decode cX9_bearsAt 24 = .ok (.iload 4, 2) := by decide +kernel
theorem dX9_bearsAt_26 : decode cX9_bearsAt 26 = .ok (.ifCond .ge 7, 3) := by decide +kernel
theorem dX9_bearsAt_29 : decode cX9_bearsAt 29 = .ok (.iconst 0, 1) := by decide +kernel
theorem dX9_bearsAt_30 : decode cX9_bearsAt 30 = .ok (.goto 12, 3) := by decide +kernel
theorem dX9_bearsAt_33 : decode cX9_bearsAt 33 = .ok (.iload 4, 2) := by decide +kernel
theorem dX9_bearsAt_35 : decode cX9_bearsAt 35 = .ok (.aload_n 0, 1) := by decide +kernel
theorem dX9_bearsAt_36 : decode cX9_bearsAt 36 = .ok (.iload_n 1, 1) := by decide +kernel
theorem dX9_bearsAt_37 : decode cX9_bearsAt 37 = .ok (.iload_n 2, 1) := by decide +kernel
theorem dX9_bearsAt_38 : decode cX9_bearsAt 38 = .ok (.invokevirtual 94, 3) := by decide +kernel
theorem dX9_bearsAt_41 : decode cX9_bearsAt 41 = .ok (.imul, 1) := by decide +kernel
theorem dX9_bearsAt_42 : decode cX9_bearsAt 42 = .ok (.ireturn, 1) := by decide +kernel
theorem dX9_above_0 : decode cX9_above 0 = .ok (.iconst 0, 1) := by decide +kernel
theorem dX9_above_1 : decode cX9_above 1 = .ok (.istore_n 3, 1) := by decide +kernel
theorem dX9_above_2 : decode cX9_above 2 = .ok (.iload_n 2, 1) := by decide +kernel
theorem dX9_above_3 : decode cX9_above 3 = .ok (.iconst 1, 1) := by decide +kernel
theorem dX9_above_4 : decode cX9_above 4 = .ok (.iadd, 1) := by decide +kernel
theorem dX9_above_5 : decode cX9_above 5 = .ok (.istore 4, 2) := by decide +kernel
theorem dX9_above_7 : decode cX9_above 7 = .ok (.iload 4, 2) := by decide +kernel
theorem dX9_above_9 : decode cX9_above 9 = .ok (.aload_n 0, 1) := by decide +kernel
theorem dX9_above_10 : decode cX9_above 10 = .ok (.getfield 7, 3) := by decide +kernel
theorem dX9_above_13 : decode cX9_above 13 = .ok (.bipush 36, 2) := by decide +kernel
theorem dX9_above_15 : decode cX9_above 15 = .ok (.iload_n 1, 1) := by decide +kernel
theorem dX9_above_16 : decode cX9_above 16 = .ok (.iadd, 1) := by decide +kernel
theorem dX9_above_17 : decode cX9_above 17 = .ok (.iaload, 1) := by decide +kernel
theorem dX9_above_18 : decode cX9_above 18 = .ok (.if_icmp .ge 19, 3) := by decide +kernel
theorem dX9_above_21 : decode cX9_above 21 = .ok (.iload_n 3, 1) := by decide +kernel
theorem dX9_above_22 : decode cX9_above 22 = .ok (.aload_n 0, 1) := by decide +kernel
theorem dX9_above_23 : decode cX9_above 23 = .ok (.iload_n 1, 1) := by decide +kernel
theorem dX9_above_24 : decode cX9_above 24 = .ok (.iload 4, 2) := by decide +kernel
theorem dX9_above_26 : decode cX9_above 26 = .ok (.invokevirtual 94, 3) := by decide +kernel
theorem dX9_above_29 : decode cX9_above 29 = .ok (.iadd, 1) := by decide +kernel
theorem dX9_above_30 : decode cX9_above 30 = .ok (.istore_n 3, 1) := by decide +kernel
theorem dX9_above_31 : decode cX9_above 31 = .ok (.iinc 4 1, 3) := by decide +kernel
theorem dX9_above_34 : decode cX9_above 34 = .ok (.goto (-27), 3) := by decide +kernel
theorem dX9_above_37 : decode cX9_above 37 = .ok (.iload_n 3, 1) := by decide +kernel
theorem dX9_above_38 : decode cX9_above 38 = .ok (.ireturn, 1) := by decide +kernel
theorem dX9_weakAt_0 : decode cX9_weakAt 0 = .ok (.iconst 0, 1) := by decide +kernel
theorem dX9_weakAt_1 : decode cX9_weakAt 1 = .ok (.istore 4, 2) := by decide +kernel
theorem dX9_weakAt_3 : decode cX9_weakAt 3 = .ok (.iload 4, 2) := by decide +kernel
theorem dX9_weakAt_5 : decode cX9_weakAt 5 = .ok (.aload_n 0, 1) := by decide +kernel
theorem dX9_weakAt_6 : decode cX9_weakAt 6 = .ok (.getfield 7, 3) := by decide +kernel
theorem dX9_weakAt_9 : decode cX9_weakAt 9 = .ok (.bipush 36, 2) := by decide +kernel
theorem dX9_weakAt_11 : decode cX9_weakAt 11 = .ok (.iload_n 1, 1) := by decide +kernel
theorem dX9_weakAt_12 : decode cX9_weakAt 12 = .ok (.iadd, 1) := by decide +kernel
theorem dX9_weakAt_13 : decode cX9_weakAt 13 = .ok (.iaload, 1) := by decide +kernel
theorem dX9_weakAt_14 : decode cX9_weakAt 14 = .ok (.if_icmp .ge 32, 3) := by decide +kernel
theorem dX9_weakAt_17 : decode cX9_weakAt 17 = .ok (.aload_n 0, 1) := by decide +kernel
theorem dX9_weakAt_18 : decode cX9_weakAt 18 = .ok (.iload_n 1, 1) := by decide +kernel
theorem dX9_weakAt_19 : decode cX9_weakAt 19 = .ok (.iload 4, 2) := by decide +kernel
theorem dX9_weakAt_21 : decode cX9_weakAt 21 = .ok (.iload_n 2, 1) := by decide +kernel
theorem dX9_weakAt_22 : decode cX9_weakAt 22 = .ok (.invokevirtual 97, 3) := by decide +kernel
theorem dX9_weakAt_25 : decode cX9_weakAt 25 = .ok (.aload_n 0, 1) := by decide +kernel
theorem dX9_weakAt_26 : decode cX9_weakAt 26 = .ok (.iload_n 1, 1) := by decide +kernel
theorem dX9_weakAt_27 : decode cX9_weakAt 27 = .ok (.iload 4, 2) := by decide +kernel
theorem dX9_weakAt_29 : decode cX9_weakAt 29 = .ok (.invokevirtual 100, 3) := by decide +kernel
theorem dX9_weakAt_32 : decode cX9_weakAt 32 = .ok (.iload_n 3, 1) := by decide +kernel
theorem dX9_weakAt_33 : decode cX9_weakAt 33 = .ok (.iadd, 1) := by decide +kernel
theorem dX9_weakAt_34 : decode cX9_weakAt 34 = .ok (.if_icmp .ge 6, 3) := by decide +kernel
theorem dX9_weakAt_37 : decode cX9_weakAt 37 = .ok (.iload 4, 2) := by decide +kernel
theorem dX9_weakAt_39 : decode cX9_weakAt 39 = .ok (.ireturn, 1) := by decide +kernel
theorem dX9_weakAt_40 : decode cX9_weakAt 40 = .ok (.iinc 4 1, 3) := by decide +kernel
theorem dX9_weakAt_43 : decode cX9_weakAt 43 = .ok (.goto (-40), 3) := by decide +kernel
theorem dX9_weakAt_46 : decode cX9_weakAt 46 = .ok (.iconst (-1), 1) := by decide +kernel
theorem dX9_weakAt_47 : decode cX9_weakAt 47 = .ok (.ireturn, 1) := by decide +kernel
theorem dX9_hinder_0 : decode cX9_hinder 0 = .ok (.aload_n 0, 1) := by decide +kernel
theorem dX9_hinder_1 : decode cX9_hinder 1 = .ok (.iload_n 1, 1) := by decide +kernel
theorem dX9_hinder_2 : decode cX9_hinder 2 = .ok (.putfield 103, 3) := by decide +kernel
theorem dX9_hinder_5 : decode cX9_hinder 5 = .ok (.aload_n 0, 1) := by decide +kernel
theorem dX9_hinder_6 : decode cX9_hinder 6 = .ok (.iload_n 2, 1) := by decide +kernel
theorem dX9_hinder_7 : decode cX9_hinder 7 = .ok (.putfield 106, 3) := by decide +kernel
theorem dX9_hinder_10 : decode cX9_hinder 10 = .ok (.return_, 1) := by decide +kernel
theorem dX9_looks_0 : decode cX9_looks 0 = .ok (.aload_n 0, 1) := by decide +kernel
theorem dX9_looks_1 : decode cX9_looks 1 = .ok (.getfield 7, 3) := by decide +kernel
theorem dX9_looks_4 : decode cX9_looks 4 = .ok (.bipush 36, 2) := by decide +kernel
theorem dX9_looks_6 : decode cX9_looks 6 = .ok (.iload_n 1, 1) := by decide +kernel
theorem dX9_looks_7 : decode cX9_looks 7 = .ok (.iadd, 1) := by decide +kernel
theorem dX9_looks_8 : decode cX9_looks 8 = .ok (.iaload, 1) := by decide +kernel
theorem dX9_looks_9 : decode cX9_looks 9 = .ok (.istore 5, 2) := by decide +kernel
theorem dX9_looks_11 : decode cX9_looks 11 = .ok (.iload 5, 2) := by decide +kernel
theorem dX9_looks_13 : decode cX9_looks 13 = .ok (.ifCond .ne 8, 3) := by decide +kernel
theorem dX9_looks_16 : decode cX9_looks 16 = .ok (.bipush 20, 2) := by decide +kernel
theorem dX9_looks_18 : decode cX9_looks 18 = .ok (.goto 12, 3) := by decide +kernel
theorem dX9_looks_21 : decode cX9_looks 21 = .ok (.aload_n 0, 1) := by decide +kernel
theorem dX9_looks_22 : decode cX9_looks 22 = .ok (.iload_n 1, 1) := by decide +kernel
theorem dX9_looks_23 : decode cX9_looks 23 = .ok (.iload 5, 2) := by decide +kernel
theorem dX9_looks_25 : decode cX9_looks 25 = .ok (.iconst 1, 1) := by decide +kernel
theorem dX9_looks_26 : decode cX9_looks 26 = .ok (.isub, 1) := by decide +kernel
theorem dX9_looks_27 : decode cX9_looks 27 = .ok (.invokevirtual 94, 3) := by decide +kernel
theorem dX9_looks_30 : decode cX9_looks 30 = .ok (.istore 6, 2) := by decide +kernel
theorem dX9_looks_32 : decode cX9_looks 32 = .ok (.aload_n 0, 1) := by decide +kernel
theorem dX9_looks_33 : decode cX9_looks 33 = .ok (.iload_n 1, 1) := by decide +kernel
theorem dX9_looks_34 : decode cX9_looks 34 = .ok (.aload_n 0, 1) := by decide +kernel
theorem dX9_looks_35 : decode cX9_looks 35 = .ok (.getfield 7, 3) := by decide +kernel
theorem dX9_looks_38 : decode cX9_looks 38 = .ok (.bipush 30, 2) := by decide +kernel
theorem dX9_looks_40 : decode cX9_looks 40 = .ok (.iload_n 1, 1) := by decide +kernel
theorem dX9_looks_41 : decode cX9_looks 41 = .ok (.iadd, 1) := by decide +kernel
theorem dX9_looks_42 : decode cX9_looks 42 = .ok (.iaload, 1) := by decide +kernel
theorem dX9_looks_43 : decode cX9_looks 43 = .ok (.iload 4, 2) := by decide +kernel
theorem dX9_looks_45 : decode cX9_looks 45 = .ok (.invokevirtual 109, 3) := by decide +kernel
theorem dX9_looks_48 : decode cX9_looks 48 = .ok (.istore 7, 2) := by decide +kernel
theorem dX9_looks_50 : decode cX9_looks 50 = .ok (.iload 5, 2) := by decide +kernel
theorem dX9_looks_52 : decode cX9_looks 52 = .ok (.bipush 10, 2) := by decide +kernel
theorem dX9_looks_54 : decode cX9_looks 54 = .ok (.if_icmp .ne 13, 3) := by decide +kernel
theorem dX9_looks_57 : decode cX9_looks 57 = .ok (.aload_n 0, 1) := by decide +kernel
theorem dX9_looks_58 : decode cX9_looks 58 = .ok (.iconst 1, 1) := by decide +kernel
theorem dX9_looks_59 : decode cX9_looks 59 = .ok (.bipush 10, 2) := by decide +kernel
theorem dX9_looks_61 : decode cX9_looks 61 = .ok (.invokevirtual 112, 3) := by decide +kernel
theorem dX9_looks_64 : decode cX9_looks 64 = .ok (.goto 136, 3) := by decide +kernel
theorem dX9_looks_67 : decode cX9_looks 67 = .ok (.aload_n 0, 1) := by decide +kernel
theorem dX9_looks_68 : decode cX9_looks 68 = .ok (.getfield 7, 3) := by decide +kernel
theorem dX9_looks_71 : decode cX9_looks 71 = .ok (.bipush 53, 2) := by decide +kernel
theorem dX9_looks_73 : decode cX9_looks 73 = .ok (.iload_n 2, 1) := by decide +kernel
theorem dX9_looks_74 : decode cX9_looks 74 = .ok (.iadd, 1) := by decide +kernel
theorem dX9_looks_75 : decode cX9_looks 75 = .ok (.iaload, 1) := by decide +kernel
theorem dX9_looks_76 : decode cX9_looks 76 = .ok (.ifCond .le 20, 3) := by decide +kernel
theorem dX9_looks_79 : decode cX9_looks 79 = .ok (.aload_n 0, 1) := by decide +kernel
theorem dX9_looks_80 : decode cX9_looks 80 = .ok (.iconst 4, 1) := by decide +kernel
theorem dX9_looks_81 : decode cX9_looks 81 = .ok (.aload_n 0, 1) := by decide +kernel
theorem dX9_looks_82 : decode cX9_looks 82 = .ok (.getfield 7, 3) := by decide +kernel
theorem dX9_looks_85 : decode cX9_looks 85 = .ok (.bipush 53, 2) := by decide +kernel
theorem dX9_looks_87 : decode cX9_looks 87 = .ok (.iload_n 2, 1) := by decide +kernel
theorem dX9_looks_88 : decode cX9_looks 88 = .ok (.iadd, 1) := by decide +kernel
theorem dX9_looks_89 : decode cX9_looks 89 = .ok (.iaload, 1) := by decide +kernel
theorem dX9_looks_90 : decode cX9_looks 90 = .ok (.invokevirtual 112, 3) := by decide +kernel
theorem dX9_looks_93 : decode cX9_looks 93 = .ok (.goto 107, 3) := by decide +kernel
theorem dX9_looks_96 : decode cX9_looks 96 = .ok (.iload 5, 2) := by decide +kernel
theorem dX9_looks_98 : decode cX9_looks 98 = .ok (.aload_n 0, 1) := by decide +kernel
theorem dX9_looks_99 : decode cX9_looks 99 = .ok (.getfield 7, 3) := by decide +kernel
theorem dX9_looks_102 : decode cX9_looks 102 = .ok (.bipush 49, 2) := by decide +kernel
theorem dX9_looks_104 : decode cX9_looks 104 = .ok (.iload_n 2, 1) := by decide +kernel
theorem dX9_looks_105 : decode cX9_looks 105 = .ok (.iadd, 1) := by decide +kernel
theorem dX9_looks_106 : decode cX9_looks 106 = .ok (.iaload, 1) := by decide +kernel
theorem dX9_looks_107 : decode cX9_looks 107 = .ok (.if_icmp .lt 20, 3) := by decide +kernel
theorem dX9_looks_110 : decode cX9_looks 110 = .ok (.aload_n 0, 1) := by decide +kernel
theorem dX9_looks_111 : decode cX9_looks 111 = .ok (.iconst 5, 1) := by decide +kernel
theorem dX9_looks_112 : decode cX9_looks 112 = .ok (.aload_n 0, 1) := by decide +kernel
theorem dX9_looks_113 : decode cX9_looks 113 = .ok (.getfield 7, 3) := by decide +kernel
theorem dX9_looks_116 : decode cX9_looks 116 = .ok (.bipush 49, 2) := by decide +kernel
theorem dX9_looks_118 : decode cX9_looks 118 = .ok (.iload_n 2, 1) := by decide +kernel
theorem dX9_looks_119 : decode cX9_looks 119 = .ok (.iadd, 1) := by decide +kernel
theorem dX9_looks_120 : decode cX9_looks 120 = .ok (.iaload, 1) := by decide +kernel
theorem dX9_looks_121 : decode cX9_looks 121 = .ok (.invokevirtual 112, 3) := by decide +kernel
theorem dX9_looks_124 : decode cX9_looks 124 = .ok (.goto 76, 3) := by decide +kernel
theorem dX9_looks_127 : decode cX9_looks 127 = .ok (.aload_n 0, 1) := by decide +kernel
theorem dX9_looks_128 : decode cX9_looks 128 = .ok (.getfield 7, 3) := by decide +kernel
theorem dX9_looks_131 : decode cX9_looks 131 = .ok (.bipush 26, 2) := by decide +kernel
theorem dX9_looks_133 : decode cX9_looks 133 = .ok (.iload_n 3, 1) := by decide +kernel
theorem dX9_looks_134 : decode cX9_looks 134 = .ok (.iadd, 1) := by decide +kernel
theorem dX9_looks_135 : decode cX9_looks 135 = .ok (.iaload, 1) := by decide +kernel
theorem dX9_looks_136 : decode cX9_looks 136 = .ok (.iload 4, 2) := by decide +kernel
theorem dX9_looks_138 : decode cX9_looks 138 = .ok (.if_icmp .ge 21, 3) := by decide +kernel
theorem dX9_looks_141 : decode cX9_looks 141 = .ok (.aload_n 0, 1) := by decide +kernel
theorem dX9_looks_142 : decode cX9_looks 142 = .ok (.bipush 6, 2) := by decide +kernel
theorem dX9_looks_144 : decode cX9_looks 144 = .ok (.aload_n 0, 1) := by decide +kernel
theorem dX9_looks_145 : decode cX9_looks 145 = .ok (.getfield 7, 3) := by decide +kernel
theorem dX9_looks_148 : decode cX9_looks 148 = .ok (.bipush 26, 2) := by decide +kernel
theorem dX9_looks_150 : decode cX9_looks 150 = .ok (.iload_n 3, 1) := by decide +kernel
theorem dX9_looks_151 : decode cX9_looks 151 = .ok (.iadd, 1) := by decide +kernel
theorem dX9_looks_152 : decode cX9_looks 152 = .ok (.iaload, 1) := by decide +kernel
theorem dX9_looks_153 : decode cX9_looks 153 = .ok (.invokevirtual 112, 3) := by decide +kernel
theorem dX9_looks_156 : decode cX9_looks 156 = .ok (.goto 44, 3) := by decide +kernel
theorem dX9_looks_159 : decode cX9_looks 159 = .ok (.iload 4, 2) := by decide +kernel
theorem dX9_looks_161 : decode cX9_looks 161 = .ok (.iload 6, 2) := by decide +kernel
theorem dX9_looks_163 : decode cX9_looks 163 = .ok (.if_icmp .le 14, 3) := by decide +kernel
theorem dX9_looks_166 : decode cX9_looks 166 = .ok (.aload_n 0, 1) := by decide +kernel
theorem dX9_looks_167 : decode cX9_looks 167 = .ok (.bipush 7, 2) := by decide +kernel
theorem dX9_looks_169 : decode cX9_looks 169 = .ok (.iload 6, 2) := by decide +kernel
theorem dX9_looks_171 : decode cX9_looks 171 = .ok (.invokevirtual 112, 3) := by decide +kernel
theorem dX9_looks_174 : decode cX9_looks 174 = .ok (.goto 26, 3) := by decide +kernel
theorem dX9_looks_177 : decode cX9_looks 177 = .ok (.iload 7, 2) := by decide +kernel
theorem dX9_looks_179 : decode cX9_looks 179 = .ok (.iconst (-1), 1) := by decide +kernel
theorem dX9_looks_180 : decode cX9_looks 180 = .ok (.if_icmp .eq 14, 3) := by decide +kernel
theorem dX9_looks_183 : decode cX9_looks 183 = .ok (.aload_n 0, 1) := by decide +kernel
theorem dX9_looks_184 : decode cX9_looks 184 = .ok (.bipush 8, 2) := by decide +kernel
theorem dX9_looks_186 : decode cX9_looks 186 = .ok (.iload 7, 2) := by decide +kernel
theorem dX9_looks_188 : decode cX9_looks 188 = .ok (.invokevirtual 112, 3) := by decide +kernel
theorem dX9_looks_191 : decode cX9_looks 191 = .ok (.goto 9, 3) := by decide +kernel
theorem dX9_looks_194 : decode cX9_looks 194 = .ok (.aload_n 0, 1) := by decide +kernel
theorem dX9_looks_195 : decode cX9_looks 195 = .ok (.iconst 0, 1) := by decide +kernel
theorem dX9_looks_196 : decode cX9_looks 196 = .ok (.iconst 0, 1) := by decide +kernel
theorem dX9_looks_197 : decode cX9_looks 197 = .ok (.invokevirtual 112, 3) := by decide +kernel
theorem dX9_looks_200 : decode cX9_looks 200 = .ok (.return_, 1) := by decide +kernel
theorem dX9_lays_0 : decode cX9_lays 0 = .ok (.aload_n 0, 1) := by decide +kernel
theorem dX9_lays_1 : decode cX9_lays 1 = .ok (.iload_n 1, 1) := by decide +kernel
theorem dX9_lays_2 : decode cX9_lays 2 = .ok (.invokevirtual 88, 3) := by decide +kernel
theorem dX9_lays_5 : decode cX9_lays 5 = .ok (.ifCond .eq 11, 3) := by decide +kernel
theorem dX9_lays_8 : decode cX9_lays 8 = .ok (.aload_n 0, 1) := by decide +kernel
theorem dX9_lays_9 : decode cX9_lays 9 = .ok (.iload_n 2, 1) := by decide +kernel
theorem dX9_lays_10 : decode cX9_lays 10 = .ok (.invokevirtual 85, 3) := by decide +kernel
theorem dX9_lays_13 : decode cX9_lays 13 = .ok (.ifCond .ne 9, 3) := by decide +kernel
theorem dX9_lays_16 : decode cX9_lays 16 = .ok (.aload_n 0, 1) := by decide +kernel
theorem dX9_lays_17 : decode cX9_lays 17 = .ok (.iconst 1, 1) := by decide +kernel
theorem dX9_lays_18 : decode cX9_lays 18 = .ok (.invokevirtual 57, 3) := by decide +kernel
theorem dX9_lays_21 : decode cX9_lays 21 = .ok (.ireturn, 1) := by decide +kernel
theorem dX9_lays_22 : decode cX9_lays 22 = .ok (.iload_n 3, 1) := by decide +kernel
theorem dX9_lays_23 : decode cX9_lays 23 = .ok (.invokestatic 73, 3) := by decide +kernel
theorem dX9_lays_26 : decode cX9_lays 26 = .ok (.ifCond .eq 14, 3) := by decide +kernel
theorem dX9_lays_29 : decode cX9_lays 29 = .ok (.iload 4, 2) := by decide +kernel
theorem dX9_lays_31 : decode cX9_lays 31 = .ok (.iconst 1, 1) := by decide +kernel
theorem dX9_lays_32 : decode cX9_lays 32 = .ok (.bipush 20, 2) := by decide +kernel
theorem dX9_lays_34 : decode cX9_lays 34 = .ok (.invokestatic 53, 3) := by decide +kernel
theorem dX9_lays_37 : decode cX9_lays 37 = .ok (.ifCond .ne 9, 3) := by decide +kernel
theorem dX9_lays_40 : decode cX9_lays 40 = .ok (.aload_n 0, 1) := by decide +kernel
theorem dX9_lays_41 : decode cX9_lays 41 = .ok (.iconst 2, 1) := by decide +kernel
theorem dX9_lays_42 : decode cX9_lays 42 = .ok (.invokevirtual 57, 3) := by decide +kernel
theorem dX9_lays_45 : decode cX9_lays 45 = .ok (.ireturn, 1) := by decide +kernel
theorem dX9_lays_46 : decode cX9_lays 46 = .ok (.aload_n 0, 1) := by decide +kernel
theorem dX9_lays_47 : decode cX9_lays 47 = .ok (.iload_n 1, 1) := by decide +kernel
theorem dX9_lays_48 : decode cX9_lays 48 = .ok (.iload_n 2, 1) := by decide +kernel
theorem dX9_lays_49 : decode cX9_lays 49 = .ok (.iload_n 3, 1) := by decide +kernel
theorem dX9_lays_50 : decode cX9_lays 50 = .ok (.iload 4, 2) := by decide +kernel
theorem dX9_lays_52 : decode cX9_lays 52 = .ok (.invokevirtual 116, 3) := by decide +kernel
theorem dX9_lays_55 : decode cX9_lays 55 = .ok (.aload_n 0, 1) := by decide +kernel
theorem dX9_lays_56 : decode cX9_lays 56 = .ok (.getfield 103, 3) := by decide +kernel
theorem dX9_lays_59 : decode cX9_lays 59 = .ok (.ifCond .eq 17, 3) := by decide +kernel
theorem dX9_lays_62 : decode cX9_lays 62 = .ok (.aload_n 0, 1) := by decide +kernel
theorem dX9_lays_63 : decode cX9_lays 63 = .ok (.aload_n 0, 1) := by decide +kernel
theorem dX9_lays_64 : decode cX9_lays 64 = .ok (.getfield 103, 3) := by decide +kernel
theorem dX9_lays_67 : decode cX9_lays 67 = .ok (.aload_n 0, 1) := by decide +kernel
theorem dX9_lays_68 : decode cX9_lays 68 = .ok (.getfield 106, 3) := by decide +kernel
theorem dX9_lays_71 : decode cX9_lays 71 = .ok (.iconst 3, 1) := by decide +kernel
theorem dX9_lays_72 : decode cX9_lays 72 = .ok (.invokevirtual 77, 3) := by decide +kernel
theorem dX9_lays_75 : decode cX9_lays 75 = .ok (.ireturn, 1) := by decide +kernel
theorem dX9_lays_76 : decode cX9_lays 76 = .ok (.aload_n 0, 1) := by decide +kernel
theorem dX9_lays_77 : decode cX9_lays 77 = .ok (.getfield 7, 3) := by decide +kernel
theorem dX9_lays_80 : decode cX9_lays 80 = .ok (.bipush 36, 2) := by decide +kernel
theorem dX9_lays_82 : decode cX9_lays 82 = .ok (.iload_n 1, 1) := by decide +kernel
theorem dX9_lays_83 : decode cX9_lays 83 = .ok (.iadd, 1) := by decide +kernel
theorem dX9_lays_84 : decode cX9_lays 84 = .ok (.iaload, 1) := by decide +kernel
theorem dX9_lays_85 : decode cX9_lays 85 = .ok (.istore 5, 2) := by decide +kernel
theorem dX9_lays_87 : decode cX9_lays 87 = .ok (.aload_n 0, 1) := by decide +kernel
theorem dX9_lays_88 : decode cX9_lays 88 = .ok (.getfield 7, 3) := by decide +kernel
theorem dX9_lays_91 : decode cX9_lays 91 = .ok (.bipush 100, 2) := by decide +kernel
theorem dX9_lays_93 : decode cX9_lays 93 = .ok (.bipush 10, 2) := by decide +kernel
theorem dX9_lays_95 : decode cX9_lays 95 = .ok (.iload_n 1, 1) := by decide +kernel
theorem dX9_lays_96 : decode cX9_lays 96 = .ok (.imul, 1) := by decide +kernel
theorem dX9_lays_97 : decode cX9_lays 97 = .ok (.iadd, 1) := by decide +kernel
theorem dX9_lays_98 : decode cX9_lays 98 = .ok (.iload 5, 2) := by decide +kernel
theorem dX9_lays_100 : decode cX9_lays 100 = .ok (.iadd, 1) := by decide +kernel
theorem dX9_lays_101 : decode cX9_lays 101 = .ok (.iload_n 3, 1) := by decide +kernel
theorem dX9_lays_102 : decode cX9_lays 102 = .ok (.iastore, 1) := by decide +kernel
theorem dX9_lays_103 : decode cX9_lays 103 = .ok (.aload_n 0, 1) := by decide +kernel
theorem dX9_lays_104 : decode cX9_lays 104 = .ok (.getfield 7, 3) := by decide +kernel
theorem dX9_lays_107 : decode cX9_lays 107 = .ok (.sipush 160, 3) := by decide +kernel
theorem dX9_lays_110 : decode cX9_lays 110 = .ok (.bipush 10, 2) := by decide +kernel
theorem dX9_lays_112 : decode cX9_lays 112 = .ok (.iload_n 1, 1) := by decide +kernel
theorem dX9_lays_113 : decode cX9_lays 113 = .ok (.imul, 1) := by decide +kernel
theorem dX9_lays_114 : decode cX9_lays 114 = .ok (.iadd, 1) := by decide +kernel
theorem dX9_lays_115 : decode cX9_lays 115 = .ok (.iload 5, 2) := by decide +kernel
theorem dX9_lays_117 : decode cX9_lays 117 = .ok (.iadd, 1) := by decide +kernel
theorem dX9_lays_118 : decode cX9_lays 118 = .ok (.iload 4, 2) := by decide +kernel
theorem dX9_lays_120 : decode cX9_lays 120 = .ok (.iastore, 1) := by decide +kernel
theorem dX9_lays_121 : decode cX9_lays 121 = .ok (.aload_n 0, 1) := by decide +kernel
theorem dX9_lays_122 : decode cX9_lays 122 = .ok (.getfield 7, 3) := by decide +kernel
theorem dX9_lays_125 : decode cX9_lays 125 = .ok (.bipush 36, 2) := by decide +kernel
theorem dX9_lays_127 : decode cX9_lays 127 = .ok (.iload_n 1, 1) := by decide +kernel
theorem dX9_lays_128 : decode cX9_lays 128 = .ok (.iadd, 1) := by decide +kernel
theorem dX9_lays_129 : decode cX9_lays 129 = .ok (.dup2, 1) := by decide +kernel
theorem dX9_lays_130 : decode cX9_lays 130 = .ok (.iaload, 1) := by decide +kernel
theorem dX9_lays_131 : decode cX9_lays 131 = .ok (.iconst 1, 1) := by decide +kernel
theorem dX9_lays_132 : decode cX9_lays 132 = .ok (.iadd, 1) := by decide +kernel
theorem dX9_lays_133 : decode cX9_lays 133 = .ok (.iastore, 1) := by decide +kernel
theorem dX9_lays_134 : decode cX9_lays 134 = .ok (.aload_n 0, 1) := by decide +kernel
theorem dX9_lays_135 : decode cX9_lays 135 = .ok (.getfield 7, 3) := by decide +kernel
theorem dX9_lays_138 : decode cX9_lays 138 = .ok (.bipush 26, 2) := by decide +kernel
theorem dX9_lays_140 : decode cX9_lays 140 = .ok (.iload_n 3, 1) := by decide +kernel
theorem dX9_lays_141 : decode cX9_lays 141 = .ok (.iadd, 1) := by decide +kernel
theorem dX9_lays_142 : decode cX9_lays 142 = .ok (.dup2, 1) := by decide +kernel
theorem dX9_lays_143 : decode cX9_lays 143 = .ok (.iaload, 1) := by decide +kernel
theorem dX9_lays_144 : decode cX9_lays 144 = .ok (.iload 4, 2) := by decide +kernel
theorem dX9_lays_146 : decode cX9_lays 146 = .ok (.isub, 1) := by decide +kernel
theorem dX9_lays_147 : decode cX9_lays 147 = .ok (.iastore, 1) := by decide +kernel
theorem dX9_lays_148 : decode cX9_lays 148 = .ok (.aload_n 0, 1) := by decide +kernel
theorem dX9_lays_149 : decode cX9_lays 149 = .ok (.getfield 7, 3) := by decide +kernel
theorem dX9_lays_152 : decode cX9_lays 152 = .ok (.bipush 53, 2) := by decide +kernel
theorem dX9_lays_154 : decode cX9_lays 154 = .ok (.iload_n 2, 1) := by decide +kernel
theorem dX9_lays_155 : decode cX9_lays 155 = .ok (.iadd, 1) := by decide +kernel
theorem dX9_lays_156 : decode cX9_lays 156 = .ok (.iload 4, 2) := by decide +kernel
theorem dX9_lays_158 : decode cX9_lays 158 = .ok (.iconst 5, 1) := by decide +kernel
theorem dX9_lays_159 : decode cX9_lays 159 = .ok (.idiv, 1) := by decide +kernel
theorem dX9_lays_160 : decode cX9_lays 160 = .ok (.iconst 1, 1) := by decide +kernel
theorem dX9_lays_161 : decode cX9_lays 161 = .ok (.iadd, 1) := by decide +kernel
theorem dX9_lays_162 : decode cX9_lays 162 = .ok (.iastore, 1) := by decide +kernel
theorem dX9_lays_163 : decode cX9_lays 163 = .ok (.aload_n 0, 1) := by decide +kernel
theorem dX9_lays_164 : decode cX9_lays 164 = .ok (.getfield 7, 3) := by decide +kernel
theorem dX9_lays_167 : decode cX9_lays 167 = .ok (.bipush 57, 2) := by decide +kernel
theorem dX9_lays_169 : decode cX9_lays 169 = .ok (.iload_n 2, 1) := by decide +kernel
theorem dX9_lays_170 : decode cX9_lays 170 = .ok (.iadd, 1) := by decide +kernel
theorem dX9_lays_171 : decode cX9_lays 171 = .ok (.dup2, 1) := by decide +kernel
theorem dX9_lays_172 : decode cX9_lays 172 = .ok (.iaload, 1) := by decide +kernel
theorem dX9_lays_173 : decode cX9_lays 173 = .ok (.iload 4, 2) := by decide +kernel
theorem dX9_lays_175 : decode cX9_lays 175 = .ok (.iadd, 1) := by decide +kernel
theorem dX9_lays_176 : decode cX9_lays 176 = .ok (.iastore, 1) := by decide +kernel
theorem dX9_lays_177 : decode cX9_lays 177 = .ok (.aload_n 0, 1) := by decide +kernel
theorem dX9_lays_178 : decode cX9_lays 178 = .ok (.iload 5, 2) := by decide +kernel
theorem dX9_lays_180 : decode cX9_lays 180 = .ok (.invokevirtual 64, 3) := by decide +kernel
theorem dX9_lays_183 : decode cX9_lays 183 = .ok (.ireturn, 1) := by decide +kernel
theorem dX9_lay_0 : decode cX9_lay 0 = .ok (.aload_n 0, 1) := by decide +kernel
theorem dX9_lay_1 : decode cX9_lay 1 = .ok (.invokevirtual 61, 3) := by decide +kernel
theorem dX9_lay_4 : decode cX9_lay 4 = .ok (.aload_n 0, 1) := by decide +kernel
theorem dX9_lay_5 : decode cX9_lay 5 = .ok (.aload_n 0, 1) := by decide +kernel
theorem dX9_lay_6 : decode cX9_lay 6 = .ok (.iload_n 1, 1) := by decide +kernel
theorem dX9_lay_7 : decode cX9_lay 7 = .ok (.iload_n 2, 1) := by decide +kernel
theorem dX9_lay_8 : decode cX9_lay 8 = .ok (.iload_n 3, 1) := by decide +kernel
theorem dX9_lay_9 : decode cX9_lay 9 = .ok (.iload 4, 2) := by decide +kernel
theorem dX9_lay_11 : decode cX9_lay 11 = .ok (.invokevirtual 120, 3) := by decide +kernel
theorem dX9_lay_14 : decode cX9_lay 14 = .ok (.invokevirtual 67, 3) := by decide +kernel
theorem dX9_lay_17 : decode cX9_lay 17 = .ok (.ireturn, 1) := by decide +kernel
theorem dX9_why_0 : decode cX9_why 0 = .ok (.aload_n 0, 1) := by decide +kernel
theorem dX9_why_1 : decode cX9_why 1 = .ok (.iload_n 1, 1) := by decide +kernel
theorem dX9_why_2 : decode cX9_why 2 = .ok (.invokevirtual 88, 3) := by decide +kernel
theorem dX9_why_5 : decode cX9_why 5 = .ok (.ifCond .eq 11, 3) := by decide +kernel
theorem dX9_why_8 : decode cX9_why 8 = .ok (.aload_n 0, 1) := by decide +kernel
theorem dX9_why_9 : decode cX9_why 9 = .ok (.iload_n 2, 1) := by decide +kernel
theorem dX9_why_10 : decode cX9_why 10 = .ok (.invokevirtual 85, 3) := by decide +kernel
theorem dX9_why_13 : decode cX9_why 13 = .ok (.ifCond .ne 9, 3) := by decide +kernel
theorem dX9_why_16 : decode cX9_why 16 = .ok (.aload_n 0, 1) := by decide +kernel
theorem dX9_why_17 : decode cX9_why 17 = .ok (.iconst 1, 1) := by decide +kernel
theorem dX9_why_18 : decode cX9_why 18 = .ok (.invokevirtual 57, 3) := by decide +kernel
theorem dX9_why_21 : decode cX9_why 21 = .ok (.ireturn, 1) := by decide +kernel
theorem dX9_why_22 : decode cX9_why 22 = .ok (.iload_n 3, 1) := by decide +kernel
theorem dX9_why_23 : decode cX9_why 23 = .ok (.invokestatic 73, 3) := by decide +kernel
theorem dX9_why_26 : decode cX9_why 26 = .ok (.ifCond .eq 14, 3) := by decide +kernel
theorem dX9_why_29 : decode cX9_why 29 = .ok (.iload 4, 2) := by decide +kernel
theorem dX9_why_31 : decode cX9_why 31 = .ok (.iconst 1, 1) := by decide +kernel
theorem dX9_why_32 : decode cX9_why 32 = .ok (.bipush 20, 2) := by decide +kernel
theorem dX9_why_34 : decode cX9_why 34 = .ok (.invokestatic 53, 3) := by decide +kernel
theorem dX9_why_37 : decode cX9_why 37 = .ok (.ifCond .ne 9, 3) := by decide +kernel
theorem dX9_why_40 : decode cX9_why 40 = .ok (.aload_n 0, 1) := by decide +kernel
theorem dX9_why_41 : decode cX9_why 41 = .ok (.iconst 2, 1) := by decide +kernel
theorem dX9_why_42 : decode cX9_why 42 = .ok (.invokevirtual 57, 3) := by decide +kernel
theorem dX9_why_45 : decode cX9_why 45 = .ok (.ireturn, 1) := by decide +kernel
theorem dX9_why_46 : decode cX9_why 46 = .ok (.aload_n 0, 1) := by decide +kernel
theorem dX9_why_47 : decode cX9_why 47 = .ok (.iload_n 1, 1) := by decide +kernel
theorem dX9_why_48 : decode cX9_why 48 = .ok (.iload_n 2, 1) := by decide +kernel
theorem dX9_why_49 : decode cX9_why 49 = .ok (.iload_n 3, 1) := by decide +kernel
theorem dX9_why_50 : decode cX9_why 50 = .ok (.iload 4, 2) := by decide +kernel
theorem dX9_why_52 : decode cX9_why 52 = .ok (.invokevirtual 116, 3) := by decide +kernel
theorem dX9_why_55 : decode cX9_why 55 = .ok (.aload_n 0, 1) := by decide +kernel
theorem dX9_why_56 : decode cX9_why 56 = .ok (.aload_n 0, 1) := by decide +kernel
theorem dX9_why_57 : decode cX9_why 57 = .ok (.getfield 103, 3) := by decide +kernel
theorem dX9_why_60 : decode cX9_why 60 = .ok (.invokevirtual 64, 3) := by decide +kernel
theorem dX9_why_63 : decode cX9_why 63 = .ok (.ireturn, 1) := by decide +kernel
theorem dX9_takes_0 : decode cX9_takes 0 = .ok (.aload_n 0, 1) := by decide +kernel
theorem dX9_takes_1 : decode cX9_takes 1 = .ok (.iload_n 1, 1) := by decide +kernel
theorem dX9_takes_2 : decode cX9_takes 2 = .ok (.invokevirtual 88, 3) := by decide +kernel
theorem dX9_takes_5 : decode cX9_takes 5 = .ok (.ifCond .ne 9, 3) := by decide +kernel
theorem dX9_takes_8 : decode cX9_takes 8 = .ok (.aload_n 0, 1) := by decide +kernel
theorem dX9_takes_9 : decode cX9_takes 9 = .ok (.iconst 1, 1) := by decide +kernel
theorem dX9_takes_10 : decode cX9_takes 10 = .ok (.invokevirtual 57, 3) := by decide +kernel
theorem dX9_takes_13 : decode cX9_takes 13 = .ok (.ireturn, 1) := by decide +kernel
theorem dX9_takes_14 : decode cX9_takes 14 = .ok (.aload_n 0, 1) := by decide +kernel
theorem dX9_takes_15 : decode cX9_takes 15 = .ok (.getfield 7, 3) := by decide +kernel
theorem dX9_takes_18 : decode cX9_takes 18 = .ok (.bipush 36, 2) := by decide +kernel
theorem dX9_takes_20 : decode cX9_takes 20 = .ok (.iload_n 1, 1) := by decide +kernel
theorem dX9_takes_21 : decode cX9_takes 21 = .ok (.iadd, 1) := by decide +kernel
theorem dX9_takes_22 : decode cX9_takes 22 = .ok (.iaload, 1) := by decide +kernel
theorem dX9_takes_23 : decode cX9_takes 23 = .ok (.ifCond .ne 12, 3) := by decide +kernel
theorem dX9_takes_26 : decode cX9_takes 26 = .ok (.aload_n 0, 1) := by decide +kernel
theorem dX9_takes_27 : decode cX9_takes 27 = .ok (.bipush 9, 2) := by decide +kernel
theorem dX9_takes_29 : decode cX9_takes 29 = .ok (.iload_n 1, 1) := by decide +kernel
theorem dX9_takes_30 : decode cX9_takes 30 = .ok (.iconst 2, 1) := by decide +kernel
theorem dX9_takes_31 : decode cX9_takes 31 = .ok (.invokevirtual 77, 3) := by decide +kernel
theorem dX9_takes_34 : decode cX9_takes 34 = .ok (.ireturn, 1) := by decide +kernel
theorem dX9_takes_35 : decode cX9_takes 35 = .ok (.aload_n 0, 1) := by decide +kernel
theorem dX9_takes_36 : decode cX9_takes 36 = .ok (.getfield 7, 3) := by decide +kernel
theorem dX9_takes_39 : decode cX9_takes 39 = .ok (.bipush 36, 2) := by decide +kernel
theorem dX9_takes_41 : decode cX9_takes 41 = .ok (.iload_n 1, 1) := by decide +kernel
theorem dX9_takes_42 : decode cX9_takes 42 = .ok (.iadd, 1) := by decide +kernel
theorem dX9_takes_43 : decode cX9_takes 43 = .ok (.dup2, 1) := by decide +kernel
theorem dX9_takes_44 : decode cX9_takes 44 = .ok (.iaload, 1) := by decide +kernel
theorem dX9_takes_45 : decode cX9_takes 45 = .ok (.iconst 1, 1) := by decide +kernel
theorem dX9_takes_46 : decode cX9_takes 46 = .ok (.isub, 1) := by decide +kernel
theorem dX9_takes_47 : decode cX9_takes 47 = .ok (.iastore, 1) := by decide +kernel
theorem dX9_takes_48 : decode cX9_takes 48 = .ok (.aload_n 0, 1) := by decide +kernel
theorem dX9_takes_49 : decode cX9_takes 49 = .ok (.iload_n 1, 1) := by decide +kernel
theorem dX9_takes_50 : decode cX9_takes 50 = .ok (.aload_n 0, 1) := by decide +kernel
theorem dX9_takes_51 : decode cX9_takes 51 = .ok (.getfield 7, 3) := by decide +kernel
theorem dX9_takes_54 : decode cX9_takes 54 = .ok (.bipush 36, 2) := by decide +kernel
theorem dX9_takes_56 : decode cX9_takes 56 = .ok (.iload_n 1, 1) := by decide +kernel
theorem dX9_takes_57 : decode cX9_takes 57 = .ok (.iadd, 1) := by decide +kernel
theorem dX9_takes_58 : decode cX9_takes 58 = .ok (.iaload, 1) := by decide +kernel
theorem dX9_takes_59 : decode cX9_takes 59 = .ok (.invokevirtual 94, 3) := by decide +kernel
theorem dX9_takes_62 : decode cX9_takes 62 = .ok (.istore_n 2, 1) := by decide +kernel
theorem dX9_takes_63 : decode cX9_takes 63 = .ok (.bipush 26, 2) := by decide +kernel
theorem dX9_takes_65 : decode cX9_takes 65 = .ok (.aload_n 0, 1) := by decide +kernel
theorem dX9_takes_66 : decode cX9_takes 66 = .ok (.getfield 7, 3) := by decide +kernel
theorem dX9_takes_69 : decode cX9_takes 69 = .ok (.bipush 100, 2) := by decide +kernel
theorem dX9_takes_71 : decode cX9_takes 71 = .ok (.bipush 10, 2) := by decide +kernel
theorem dX9_takes_73 : decode cX9_takes 73 = .ok (.iload_n 1, 1) := by decide +kernel
theorem dX9_takes_74 : decode cX9_takes 74 = .ok (.imul, 1) := by decide +kernel
theorem dX9_takes_75 : decode cX9_takes 75 = .ok (.iadd, 1) := by decide +kernel
theorem dX9_takes_76 : decode cX9_takes 76 = .ok (.aload_n 0, 1) := by decide +kernel
theorem dX9_takes_77 : decode cX9_takes 77 = .ok (.getfield 7, 3) := by decide +kernel
theorem dX9_takes_80 : decode cX9_takes 80 = .ok (.bipush 36, 2) := by decide +kernel
theorem dX9_takes_82 : decode cX9_takes 82 = .ok (.iload_n 1, 1) := by decide +kernel
theorem dX9_takes_83 : decode cX9_takes 83 = .ok (.iadd, 1) := by decide +kernel
theorem dX9_takes_84 : decode cX9_takes 84 = .ok (.iaload, 1) := by decide +kernel
theorem dX9_takes_85 : decode cX9_takes 85 = .ok (.iadd, 1) := by decide +kernel
theorem dX9_takes_86 : decode cX9_takes 86 = .ok (.iaload, 1) := by decide +kernel
theorem dX9_takes_87 : decode cX9_takes 87 = .ok (.iadd, 1) := by decide +kernel
theorem dX9_takes_88 : decode cX9_takes 88 = .ok (.istore_n 3, 1) := by decide +kernel
theorem dX9_takes_89 : decode cX9_takes 89 = .ok (.aload_n 0, 1) := by decide +kernel
theorem dX9_takes_90 : decode cX9_takes 90 = .ok (.getfield 7, 3) := by decide +kernel
theorem dX9_takes_93 : decode cX9_takes 93 = .ok (.iload_n 3, 1) := by decide +kernel
theorem dX9_takes_94 : decode cX9_takes 94 = .ok (.iaload, 1) := by decide +kernel
theorem dX9_takes_95 : decode cX9_takes 95 = .ok (.iload_n 2, 1) := by decide +kernel
theorem dX9_takes_96 : decode cX9_takes 96 = .ok (.iadd, 1) := by decide +kernel
theorem dX9_takes_97 : decode cX9_takes 97 = .ok (.sipush 300, 3) := by decide +kernel
theorem dX9_takes_100 : decode cX9_takes 100 = .ok (.if_icmp .le 16, 3) := by decide +kernel
theorem dX9_takes_103 : decode cX9_takes 103 = .ok (.sipush 300, 3) := by decide +kernel
theorem dX9_takes_106 : decode cX9_takes 106 = .ok (.aload_n 0, 1) := by decide +kernel
theorem dX9_takes_107 : decode cX9_takes 107 = .ok (.getfield 7, 3) := by decide +kernel
theorem dX9_takes_110 : decode cX9_takes 110 = .ok (.iload_n 3, 1) := by decide +kernel
theorem dX9_takes_111 : decode cX9_takes 111 = .ok (.iaload, 1) := by decide +kernel
theorem dX9_takes_112 : decode cX9_takes 112 = .ok (.isub, 1) := by decide +kernel
theorem dX9_takes_113 : decode cX9_takes 113 = .ok (.goto 4, 3) := by decide +kernel
theorem dX9_takes_116 : decode cX9_takes 116 = .ok (.iload_n 2, 1) := by decide +kernel
theorem dX9_takes_117 : decode cX9_takes 117 = .ok (.istore 4, 2) := by decide +kernel
theorem dX9_takes_119 : decode cX9_takes 119 = .ok (.aload_n 0, 1) := by decide +kernel
theorem dX9_takes_120 : decode cX9_takes 120 = .ok (.getfield 7, 3) := by decide +kernel
theorem dX9_takes_123 : decode cX9_takes 123 = .ok (.iload_n 3, 1) := by decide +kernel
theorem dX9_takes_124 : decode cX9_takes 124 = .ok (.dup2, 1) := by decide +kernel
theorem dX9_takes_125 : decode cX9_takes 125 = .ok (.iaload, 1) := by decide +kernel
theorem dX9_takes_126 : decode cX9_takes 126 = .ok (.iload 4, 2) := by decide +kernel
theorem dX9_takes_128 : decode cX9_takes 128 = .ok (.iadd, 1) := by decide +kernel
theorem dX9_takes_129 : decode cX9_takes 129 = .ok (.iastore, 1) := by decide +kernel
theorem dX9_takes_130 : decode cX9_takes 130 = .ok (.aload_n 0, 1) := by decide +kernel
theorem dX9_takes_131 : decode cX9_takes 131 = .ok (.getfield 7, 3) := by decide +kernel
theorem dX9_takes_134 : decode cX9_takes 134 = .ok (.bipush 96, 2) := by decide +kernel
theorem dX9_takes_136 : decode cX9_takes 136 = .ok (.dup2, 1) := by decide +kernel
theorem dX9_takes_137 : decode cX9_takes 137 = .ok (.iaload, 1) := by decide +kernel
theorem dX9_takes_138 : decode cX9_takes 138 = .ok (.iload_n 2, 1) := by decide +kernel
theorem dX9_takes_139 : decode cX9_takes 139 = .ok (.iload 4, 2) := by decide +kernel
theorem dX9_takes_141 : decode cX9_takes 141 = .ok (.isub, 1) := by decide +kernel
theorem dX9_takes_142 : decode cX9_takes 142 = .ok (.iadd, 1) := by decide +kernel
theorem dX9_takes_143 : decode cX9_takes 143 = .ok (.iastore, 1) := by decide +kernel
theorem dX9_takes_144 : decode cX9_takes 144 = .ok (.aload_n 0, 1) := by decide +kernel
theorem dX9_takes_145 : decode cX9_takes 145 = .ok (.iload_n 2, 1) := by decide +kernel
theorem dX9_takes_146 : decode cX9_takes 146 = .ok (.invokevirtual 64, 3) := by decide +kernel
theorem dX9_takes_149 : decode cX9_takes 149 = .ok (.ireturn, 1) := by decide +kernel
theorem dX9_take_0 : decode cX9_take 0 = .ok (.aload_n 0, 1) := by decide +kernel
theorem dX9_take_1 : decode cX9_take 1 = .ok (.invokevirtual 61, 3) := by decide +kernel
theorem dX9_take_4 : decode cX9_take 4 = .ok (.aload_n 0, 1) := by decide +kernel
theorem dX9_take_5 : decode cX9_take 5 = .ok (.aload_n 0, 1) := by decide +kernel
theorem dX9_take_6 : decode cX9_take 6 = .ok (.iload_n 1, 1) := by decide +kernel
theorem dX9_take_7 : decode cX9_take 7 = .ok (.invokevirtual 124, 3) := by decide +kernel
theorem dX9_take_10 : decode cX9_take 10 = .ok (.invokevirtual 67, 3) := by decide +kernel
theorem dX9_take_13 : decode cX9_take 13 = .ok (.ireturn, 1) := by decide +kernel
theorem dX9_courseOf_0 : decode cX9_courseOf 0 = .ok (.aload_n 0, 1) := by decide +kernel
theorem dX9_courseOf_1 : decode cX9_courseOf 1 = .ok (.iload_n 1, 1) := by decide +kernel
theorem dX9_courseOf_2 : decode cX9_courseOf 2 = .ok (.iload_n 2, 1) := by decide +kernel
theorem dX9_courseOf_3 : decode cX9_courseOf 3 = .ok (.invokevirtual 127, 3) := by decide +kernel
theorem dX9_courseOf_6 : decode cX9_courseOf 6 = .ok (.ifCond .ne 9, 3) := by decide +kernel
theorem dX9_courseOf_9 : decode cX9_courseOf 9 = .ok (.aload_n 0, 1) := by decide +kernel
theorem dX9_courseOf_10 : decode cX9_courseOf 10 = .ok (.iconst 1, 1) := by decide +kernel
theorem dX9_courseOf_11 : decode cX9_courseOf 11 = .ok (.invokevirtual 57, 3) := by decide +kernel
theorem dX9_courseOf_14 : decode cX9_courseOf 14 = .ok (.ireturn, 1) := by decide +kernel
theorem dX9_courseOf_15 : decode cX9_courseOf 15 = .ok (.iload_n 3, 1) := by decide +kernel
theorem dX9_courseOf_16 : decode cX9_courseOf 16 = .ok (.tableswitch 93 0 3 #[32, 51, 62, 73], 32) := by decide +kernel
theorem dX9_courseOf_48 : decode cX9_courseOf 48 = .ok (.aload_n 0, 1) := by decide +kernel
theorem dX9_courseOf_49 : decode cX9_courseOf 49 = .ok (.aload_n 0, 1) := by decide +kernel
theorem dX9_courseOf_50 : decode cX9_courseOf 50 = .ok (.getfield 7, 3) := by decide +kernel
theorem dX9_courseOf_53 : decode cX9_courseOf 53 = .ok (.bipush 100, 2) := by decide +kernel
theorem dX9_courseOf_55 : decode cX9_courseOf 55 = .ok (.bipush 10, 2) := by decide +kernel
theorem dX9_courseOf_57 : decode cX9_courseOf 57 = .ok (.iload_n 1, 1) := by decide +kernel
theorem dX9_courseOf_58 : decode cX9_courseOf 58 = .ok (.imul, 1) := by decide +kernel
theorem dX9_courseOf_59 : decode cX9_courseOf 59 = .ok (.iadd, 1) := by decide +kernel
theorem dX9_courseOf_60 : decode cX9_courseOf 60 = .ok (.iload_n 2, 1) := by decide +kernel
theorem dX9_courseOf_61 : decode cX9_courseOf 61 = .ok (.iadd, 1) := by decide +kernel
theorem dX9_courseOf_62 : decode cX9_courseOf 62 = .ok (.iaload, 1) := by decide +kernel
theorem dX9_courseOf_63 : decode cX9_courseOf 63 = .ok (.invokevirtual 64, 3) := by decide +kernel
theorem dX9_courseOf_66 : decode cX9_courseOf 66 = .ok (.ireturn, 1) := by decide +kernel
theorem dX9_courseOf_67 : decode cX9_courseOf 67 = .ok (.aload_n 0, 1) := by decide +kernel
theorem dX9_courseOf_68 : decode cX9_courseOf 68 = .ok (.aload_n 0, 1) := by decide +kernel
theorem dX9_courseOf_69 : decode cX9_courseOf 69 = .ok (.iload_n 1, 1) := by decide +kernel
theorem dX9_courseOf_70 : decode cX9_courseOf 70 = .ok (.iload_n 2, 1) := by decide +kernel
theorem dX9_courseOf_71 : decode cX9_courseOf 71 = .ok (.invokevirtual 94, 3) := by decide +kernel
theorem dX9_courseOf_74 : decode cX9_courseOf 74 = .ok (.invokevirtual 64, 3) := by decide +kernel
theorem dX9_courseOf_77 : decode cX9_courseOf 77 = .ok (.ireturn, 1) := by decide +kernel
theorem dX9_courseOf_78 : decode cX9_courseOf 78 = .ok (.aload_n 0, 1) := by decide +kernel
theorem dX9_courseOf_79 : decode cX9_courseOf 79 = .ok (.aload_n 0, 1) := by decide +kernel
theorem dX9_courseOf_80 : decode cX9_courseOf 80 = .ok (.iload_n 1, 1) := by decide +kernel
theorem dX9_courseOf_81 : decode cX9_courseOf 81 = .ok (.iload_n 2, 1) := by decide +kernel
theorem dX9_courseOf_82 : decode cX9_courseOf 82 = .ok (.invokevirtual 100, 3) := by decide +kernel
theorem dX9_courseOf_85 : decode cX9_courseOf 85 = .ok (.invokevirtual 64, 3) := by decide +kernel
theorem dX9_courseOf_88 : decode cX9_courseOf 88 = .ok (.ireturn, 1) := by decide +kernel
theorem dX9_courseOf_89 : decode cX9_courseOf 89 = .ok (.aload_n 0, 1) := by decide +kernel
theorem dX9_courseOf_90 : decode cX9_courseOf 90 = .ok (.aload_n 0, 1) := by decide +kernel
theorem dX9_courseOf_91 : decode cX9_courseOf 91 = .ok (.iload_n 1, 1) := by decide +kernel
theorem dX9_courseOf_92 : decode cX9_courseOf 92 = .ok (.iload_n 2, 1) := by decide +kernel
theorem dX9_courseOf_93 : decode cX9_courseOf 93 = .ok (.aload_n 0, 1) := by decide +kernel
theorem dX9_courseOf_94 : decode cX9_courseOf 94 = .ok (.getfield 7, 3) := by decide +kernel
theorem dX9_courseOf_97 : decode cX9_courseOf 97 = .ok (.bipush 30, 2) := by decide +kernel
theorem dX9_courseOf_99 : decode cX9_courseOf 99 = .ok (.iload_n 1, 1) := by decide +kernel
theorem dX9_courseOf_100 : decode cX9_courseOf 100 = .ok (.iadd, 1) := by decide +kernel
theorem dX9_courseOf_101 : decode cX9_courseOf 101 = .ok (.iaload, 1) := by decide +kernel
theorem dX9_courseOf_102 : decode cX9_courseOf 102 = .ok (.invokevirtual 97, 3) := by decide +kernel
theorem dX9_courseOf_105 : decode cX9_courseOf 105 = .ok (.invokevirtual 64, 3) := by decide +kernel
theorem dX9_courseOf_108 : decode cX9_courseOf 108 = .ok (.ireturn, 1) := by decide +kernel
theorem dX9_courseOf_109 : decode cX9_courseOf 109 = .ok (.aload_n 0, 1) := by decide +kernel
theorem dX9_courseOf_110 : decode cX9_courseOf 110 = .ok (.iconst 2, 1) := by decide +kernel
theorem dX9_courseOf_111 : decode cX9_courseOf 111 = .ok (.invokevirtual 57, 3) := by decide +kernel
theorem dX9_courseOf_114 : decode cX9_courseOf 114 = .ok (.ireturn, 1) := by decide +kernel
theorem dX9_bearsAgain_0 : decode cX9_bearsAgain 0 = .ok (.aload_n 0, 1) := by decide +kernel
theorem dX9_bearsAgain_1 : decode cX9_bearsAgain 1 = .ok (.iload_n 1, 1) := by decide +kernel
theorem dX9_bearsAgain_2 : decode cX9_bearsAgain 2 = .ok (.iload_n 2, 1) := by decide +kernel
theorem dX9_bearsAgain_3 : decode cX9_bearsAgain 3 = .ok (.invokevirtual 127, 3) := by decide +kernel
theorem dX9_bearsAgain_6 : decode cX9_bearsAgain 6 = .ok (.ifCond .ne 9, 3) := by decide +kernel
theorem dX9_bearsAgain_9 : decode cX9_bearsAgain 9 = .ok (.aload_n 0, 1) := by decide +kernel
theorem dX9_bearsAgain_10 : decode cX9_bearsAgain 10 = .ok (.iconst 1, 1) := by decide +kernel
theorem dX9_bearsAgain_11 : decode cX9_bearsAgain 11 = .ok (.invokevirtual 57, 3) := by decide +kernel
theorem dX9_bearsAgain_14 : decode cX9_bearsAgain 14 = .ok (.ireturn, 1) := by decide +kernel
theorem dX9_bearsAgain_15 : decode cX9_bearsAgain 15 = .ok (.iconst 0, 1) := by decide +kernel
theorem dX9_bearsAgain_16 : decode cX9_bearsAgain 16 = .ok (.istore_n 3, 1) := by decide +kernel
theorem dX9_bearsAgain_17 : decode cX9_bearsAgain 17 = .ok (.iconst 0, 1) := by decide +kernel
theorem dX9_bearsAgain_18 : decode cX9_bearsAgain 18 = .ok (.istore 4, 2) := by decide +kernel
theorem dX9_bearsAgain_20 : decode cX9_bearsAgain 20 = .ok (.iload 4, 2) := by decide +kernel
theorem dX9_bearsAgain_22 : decode cX9_bearsAgain 22 = .ok (.aload_n 0, 1) := by decide +kernel
theorem dX9_bearsAgain_23 : decode cX9_bearsAgain 23 = .ok (.iload_n 1, 1) := by decide +kernel
theorem dX9_bearsAgain_24 : decode cX9_bearsAgain 24 = .ok (.iload_n 2, 1) := by decide +kernel
theorem dX9_bearsAgain_25 : decode cX9_bearsAgain 25 = .ok (.invokevirtual 94, 3) := by decide +kernel
theorem dX9_bearsAgain_28 : decode cX9_bearsAgain 28 = .ok (.if_icmp .ge 55, 3) := by decide +kernel
theorem dX9_bearsAgain_31 : decode cX9_bearsAgain 31 = .ok (.aload_n 0, 1) := by decide +kernel
theorem dX9_bearsAgain_32 : decode cX9_bearsAgain 32 = .ok (.getfield 7, 3) := by decide +kernel
theorem dX9_bearsAgain_35 : decode cX9_bearsAgain 35 = .ok (.bipush 100, 2) := by decide +kernel
theorem dX9_bearsAgain_37 : decode cX9_bearsAgain 37 = .ok (.bipush 10, 2) := by decide +kernel
theorem dX9_bearsAgain_39 : decode cX9_bearsAgain 39 = .ok (.iload_n 1, 1) := by decide +kernel
theorem dX9_bearsAgain_40 : decode cX9_bearsAgain 40 = .ok (.imul, 1) := by decide +kernel
theorem dX9_bearsAgain_41 : decode cX9_bearsAgain 41 = .ok (.iadd, 1) := by decide +kernel
theorem dX9_bearsAgain_42 : decode cX9_bearsAgain 42 = .ok (.iload_n 2, 1) := by decide +kernel
theorem dX9_bearsAgain_43 : decode cX9_bearsAgain 43 = .ok (.iadd, 1) := by decide +kernel
theorem dX9_bearsAgain_44 : decode cX9_bearsAgain 44 = .ok (.iaload, 1) := by decide +kernel
theorem dX9_bearsAgain_45 : decode cX9_bearsAgain 45 = .ok (.invokestatic 91, 3) := by decide +kernel
theorem dX9_bearsAgain_48 : decode cX9_bearsAgain 48 = .ok (.aload_n 0, 1) := by decide +kernel
theorem dX9_bearsAgain_49 : decode cX9_bearsAgain 49 = .ok (.getfield 7, 3) := by decide +kernel
theorem dX9_bearsAgain_52 : decode cX9_bearsAgain 52 = .ok (.bipush 30, 2) := by decide +kernel
theorem dX9_bearsAgain_54 : decode cX9_bearsAgain 54 = .ok (.iload_n 1, 1) := by decide +kernel
theorem dX9_bearsAgain_55 : decode cX9_bearsAgain 55 = .ok (.iadd, 1) := by decide +kernel
theorem dX9_bearsAgain_56 : decode cX9_bearsAgain 56 = .ok (.iaload, 1) := by decide +kernel
theorem dX9_bearsAgain_57 : decode cX9_bearsAgain 57 = .ok (.bipush 10, 2) := by decide +kernel
theorem dX9_bearsAgain_59 : decode cX9_bearsAgain 59 = .ok (.idiv, 1) := by decide +kernel
theorem dX9_bearsAgain_60 : decode cX9_bearsAgain 60 = .ok (.isub, 1) := by decide +kernel
theorem dX9_bearsAgain_61 : decode cX9_bearsAgain 61 = .ok (.istore 5, 2) := by decide +kernel
theorem dX9_bearsAgain_63 : decode cX9_bearsAgain 63 = .ok (.iload_n 3, 1) := by decide +kernel
theorem dX9_bearsAgain_64 : decode cX9_bearsAgain 64 = .ok (.iload 5, 2) := by decide +kernel
theorem dX9_bearsAgain_66 : decode cX9_bearsAgain 66 = .ok (.ifCond .le 8, 3) := by decide +kernel
theorem dX9_bearsAgain_69 : decode cX9_bearsAgain 69 = .ok (.iload 5, 2) := by decide +kernel
theorem dX9_bearsAgain_71 : decode cX9_bearsAgain 71 = .ok (.goto 4, 3) := by decide +kernel
theorem dX9_bearsAgain_74 : decode cX9_bearsAgain 74 = .ok (.iconst 0, 1) := by decide +kernel
theorem dX9_bearsAgain_75 : decode cX9_bearsAgain 75 = .ok (.iadd, 1) := by decide +kernel
theorem dX9_bearsAgain_76 : decode cX9_bearsAgain 76 = .ok (.istore_n 3, 1) := by decide +kernel
theorem dX9_bearsAgain_77 : decode cX9_bearsAgain 77 = .ok (.iinc 4 1, 3) := by decide +kernel
theorem dX9_bearsAgain_80 : decode cX9_bearsAgain 80 = .ok (.goto (-60), 3) := by decide +kernel
theorem dX9_bearsAgain_83 : decode cX9_bearsAgain 83 = .ok (.aload_n 0, 1) := by decide +kernel
theorem dX9_bearsAgain_84 : decode cX9_bearsAgain 84 = .ok (.iload_n 3, 1) := by decide +kernel
theorem dX9_bearsAgain_85 : decode cX9_bearsAgain 85 = .ok (.invokevirtual 64, 3) := by decide +kernel
theorem dX9_bearsAgain_88 : decode cX9_bearsAgain 88 = .ok (.ireturn, 1) := by decide +kernel
theorem dX9_cubesIn_0 : decode cX9_cubesIn 0 = .ok (.aload_n 0, 1) := by decide +kernel
theorem dX9_cubesIn_1 : decode cX9_cubesIn 1 = .ok (.sipush 160, 3) := by decide +kernel
theorem dX9_cubesIn_4 : decode cX9_cubesIn 4 = .ok (.bipush 10, 2) := by decide +kernel
theorem dX9_cubesIn_6 : decode cX9_cubesIn 6 = .ok (.iload_n 1, 1) := by decide +kernel
theorem dX9_cubesIn_7 : decode cX9_cubesIn 7 = .ok (.imul, 1) := by decide +kernel
theorem dX9_cubesIn_8 : decode cX9_cubesIn 8 = .ok (.iadd, 1) := by decide +kernel
theorem dX9_cubesIn_9 : decode cX9_cubesIn 9 = .ok (.aload_n 0, 1) := by decide +kernel
theorem dX9_cubesIn_10 : decode cX9_cubesIn 10 = .ok (.getfield 7, 3) := by decide +kernel
theorem dX9_cubesIn_13 : decode cX9_cubesIn 13 = .ok (.bipush 36, 2) := by decide +kernel
theorem dX9_cubesIn_15 : decode cX9_cubesIn 15 = .ok (.iload_n 1, 1) := by decide +kernel
theorem dX9_cubesIn_16 : decode cX9_cubesIn 16 = .ok (.iadd, 1) := by decide +kernel
theorem dX9_cubesIn_17 : decode cX9_cubesIn 17 = .ok (.iaload, 1) := by decide +kernel
theorem dX9_cubesIn_18 : decode cX9_cubesIn 18 = .ok (.invokevirtual 131, 3) := by decide +kernel
theorem dX9_cubesIn_21 : decode cX9_cubesIn 21 = .ok (.ireturn, 1) := by decide +kernel
theorem dX9_shownAt_0 : decode cX9_shownAt 0 = .ok (.iconst 0, 1) := by decide +kernel
theorem dX9_shownAt_1 : decode cX9_shownAt 1 = .ok (.istore_n 2, 1) := by decide +kernel
theorem dX9_shownAt_2 : decode cX9_shownAt 2 = .ok (.iconst 0, 1) := by decide +kernel
theorem dX9_shownAt_3 : decode cX9_shownAt 3 = .ok (.istore_n 3, 1) := by decide +kernel
theorem dX9_shownAt_4 : decode cX9_shownAt 4 = .ok (.iload_n 3, 1) := by decide +kernel
theorem dX9_shownAt_5 : decode cX9_shownAt 5 = .ok (.aload_n 0, 1) := by decide +kernel
theorem dX9_shownAt_6 : decode cX9_shownAt 6 = .ok (.getfield 7, 3) := by decide +kernel
theorem dX9_shownAt_9 : decode cX9_shownAt 9 = .ok (.bipush 61, 2) := by decide +kernel
theorem dX9_shownAt_11 : decode cX9_shownAt 11 = .ok (.iaload, 1) := by decide +kernel
theorem dX9_shownAt_12 : decode cX9_shownAt 12 = .ok (.if_icmp .ge 30, 3) := by decide +kernel
theorem dX9_shownAt_15 : decode cX9_shownAt 15 = .ok (.iload_n 2, 1) := by decide +kernel
theorem dX9_shownAt_16 : decode cX9_shownAt 16 = .ok (.aload_n 0, 1) := by decide +kernel
theorem dX9_shownAt_17 : decode cX9_shownAt 17 = .ok (.getfield 7, 3) := by decide +kernel
theorem dX9_shownAt_20 : decode cX9_shownAt 20 = .ok (.bipush 86, 2) := by decide +kernel
theorem dX9_shownAt_22 : decode cX9_shownAt 22 = .ok (.iload_n 3, 1) := by decide +kernel
theorem dX9_shownAt_23 : decode cX9_shownAt 23 = .ok (.iadd, 1) := by decide +kernel
theorem dX9_shownAt_24 : decode cX9_shownAt 24 = .ok (.iaload, 1) := by decide +kernel
theorem dX9_shownAt_25 : decode cX9_shownAt 25 = .ok (.iload_n 1, 1) := by decide +kernel
theorem dX9_shownAt_26 : decode cX9_shownAt 26 = .ok (.if_icmp .ne 7, 3) := by decide +kernel
theorem dX9_shownAt_29 : decode cX9_shownAt 29 = .ok (.iconst 1, 1) := by decide +kernel
theorem dX9_shownAt_30 : decode cX9_shownAt 30 = .ok (.goto 4, 3) := by decide +kernel
theorem dX9_shownAt_33 : decode cX9_shownAt 33 = .ok (.iconst 0, 1) := by decide +kernel
theorem dX9_shownAt_34 : decode cX9_shownAt 34 = .ok (.iadd, 1) := by decide +kernel
theorem dX9_shownAt_35 : decode cX9_shownAt 35 = .ok (.istore_n 2, 1) := by decide +kernel
theorem dX9_shownAt_36 : decode cX9_shownAt 36 = .ok (.iinc 3 1, 3) := by decide +kernel
theorem dX9_shownAt_39 : decode cX9_shownAt 39 = .ok (.goto (-35), 3) := by decide +kernel
theorem dX9_shownAt_42 : decode cX9_shownAt 42 = .ok (.iload_n 2, 1) := by decide +kernel
theorem dX9_shownAt_43 : decode cX9_shownAt 43 = .ok (.ireturn, 1) := by decide +kernel
theorem dX9_towerOf_0 : decode cX9_towerOf 0 = .ok (.aload_n 0, 1) := by decide +kernel
theorem dX9_towerOf_1 : decode cX9_towerOf 1 = .ok (.iload_n 1, 1) := by decide +kernel
theorem dX9_towerOf_2 : decode cX9_towerOf 2 = .ok (.invokevirtual 88, 3) := by decide +kernel
theorem dX9_towerOf_5 : decode cX9_towerOf 5 = .ok (.ifCond .ne 9, 3) := by decide +kernel
theorem dX9_towerOf_8 : decode cX9_towerOf 8 = .ok (.aload_n 0, 1) := by decide +kernel
theorem dX9_towerOf_9 : decode cX9_towerOf 9 = .ok (.iconst 1, 1) := by decide +kernel
theorem dX9_towerOf_10 : decode cX9_towerOf 10 = .ok (.invokevirtual 57, 3) := by decide +kernel
theorem dX9_towerOf_13 : decode cX9_towerOf 13 = .ok (.ireturn, 1) := by decide +kernel
theorem dX9_towerOf_14 : decode cX9_towerOf 14 = .ok (.iload_n 2, 1) := by decide +kernel
theorem dX9_towerOf_15 : decode cX9_towerOf 15 = .ok (.tableswitch 95 0 4 #[33, 47, 57, 71, 81], 33) := by decide +kernel
theorem dX9_towerOf_48 : decode cX9_towerOf 48 = .ok (.aload_n 0, 1) := by decide +kernel
theorem dX9_towerOf_49 : decode cX9_towerOf 49 = .ok (.aload_n 0, 1) := by decide +kernel
theorem dX9_towerOf_50 : decode cX9_towerOf 50 = .ok (.getfield 7, 3) := by decide +kernel
theorem dX9_towerOf_53 : decode cX9_towerOf 53 = .ok (.bipush 36, 2) := by decide +kernel
theorem dX9_towerOf_55 : decode cX9_towerOf 55 = .ok (.iload_n 1, 1) := by decide +kernel
theorem dX9_towerOf_56 : decode cX9_towerOf 56 = .ok (.iadd, 1) := by decide +kernel
theorem dX9_towerOf_57 : decode cX9_towerOf 57 = .ok (.iaload, 1) := by decide +kernel
theorem dX9_towerOf_58 : decode cX9_towerOf 58 = .ok (.invokevirtual 64, 3) := by decide +kernel
theorem dX9_towerOf_61 : decode cX9_towerOf 61 = .ok (.ireturn, 1) := by decide +kernel
theorem dX9_towerOf_62 : decode cX9_towerOf 62 = .ok (.aload_n 0, 1) := by decide +kernel
theorem dX9_towerOf_63 : decode cX9_towerOf 63 = .ok (.aload_n 0, 1) := by decide +kernel
theorem dX9_towerOf_64 : decode cX9_towerOf 64 = .ok (.iload_n 1, 1) := by decide +kernel
theorem dX9_towerOf_65 : decode cX9_towerOf 65 = .ok (.invokevirtual 134, 3) := by decide +kernel
theorem dX9_towerOf_68 : decode cX9_towerOf 68 = .ok (.invokevirtual 64, 3) := by decide +kernel
theorem dX9_towerOf_71 : decode cX9_towerOf 71 = .ok (.ireturn, 1) := by decide +kernel
theorem dX9_towerOf_72 : decode cX9_towerOf 72 = .ok (.aload_n 0, 1) := by decide +kernel
theorem dX9_towerOf_73 : decode cX9_towerOf 73 = .ok (.aload_n 0, 1) := by decide +kernel
theorem dX9_towerOf_74 : decode cX9_towerOf 74 = .ok (.getfield 7, 3) := by decide +kernel
theorem dX9_towerOf_77 : decode cX9_towerOf 77 = .ok (.bipush 30, 2) := by decide +kernel
theorem dX9_towerOf_79 : decode cX9_towerOf 79 = .ok (.iload_n 1, 1) := by decide +kernel
theorem dX9_towerOf_80 : decode cX9_towerOf 80 = .ok (.iadd, 1) := by decide +kernel
theorem dX9_towerOf_81 : decode cX9_towerOf 81 = .ok (.iaload, 1) := by decide +kernel
theorem dX9_towerOf_82 : decode cX9_towerOf 82 = .ok (.invokevirtual 64, 3) := by decide +kernel
theorem dX9_towerOf_85 : decode cX9_towerOf 85 = .ok (.ireturn, 1) := by decide +kernel
theorem dX9_towerOf_86 : decode cX9_towerOf 86 = .ok (.aload_n 0, 1) := by decide +kernel
theorem dX9_towerOf_87 : decode cX9_towerOf 87 = .ok (.aload_n 0, 1) := by decide +kernel
theorem dX9_towerOf_88 : decode cX9_towerOf 88 = .ok (.iload_n 1, 1) := by decide +kernel
theorem dX9_towerOf_89 : decode cX9_towerOf 89 = .ok (.invokevirtual 137, 3) := by decide +kernel
theorem dX9_towerOf_92 : decode cX9_towerOf 92 = .ok (.invokevirtual 64, 3) := by decide +kernel
theorem dX9_towerOf_95 : decode cX9_towerOf 95 = .ok (.ireturn, 1) := by decide +kernel
theorem dX9_towerOf_96 : decode cX9_towerOf 96 = .ok (.aload_n 0, 1) := by decide +kernel
theorem dX9_towerOf_97 : decode cX9_towerOf 97 = .ok (.aload_n 0, 1) := by decide +kernel
theorem dX9_towerOf_98 : decode cX9_towerOf 98 = .ok (.getfield 7, 3) := by decide +kernel
theorem dX9_towerOf_101 : decode cX9_towerOf 101 = .ok (.bipush 42, 2) := by decide +kernel
theorem dX9_towerOf_103 : decode cX9_towerOf 103 = .ok (.iload_n 1, 1) := by decide +kernel
theorem dX9_towerOf_104 : decode cX9_towerOf 104 = .ok (.iadd, 1) := by decide +kernel
theorem dX9_towerOf_105 : decode cX9_towerOf 105 = .ok (.iaload, 1) := by decide +kernel
theorem dX9_towerOf_106 : decode cX9_towerOf 106 = .ok (.invokevirtual 64, 3) := by decide +kernel
theorem dX9_towerOf_109 : decode cX9_towerOf 109 = .ok (.ireturn, 1) := by decide +kernel
theorem dX9_towerOf_110 : decode cX9_towerOf 110 = .ok (.aload_n 0, 1) := by decide +kernel
theorem dX9_towerOf_111 : decode cX9_towerOf 111 = .ok (.iconst 2, 1) := by decide +kernel
theorem dX9_towerOf_112 : decode cX9_towerOf 112 = .ok (.invokevirtual 57, 3) := by decide +kernel
theorem dX9_towerOf_115 : decode cX9_towerOf 115 = .ok (.ireturn, 1) := by decide +kernel
theorem dX9_spareOf_0 : decode cX9_spareOf 0 = .ok (.bipush 20, 2) := by decide +kernel
theorem dX9_spareOf_2 : decode cX9_spareOf 2 = .ok (.istore_n 2, 1) := by decide +kernel
theorem dX9_spareOf_3 : decode cX9_spareOf 3 = .ok (.iconst 0, 1) := by decide +kernel
theorem dX9_spareOf_4 : decode cX9_spareOf 4 = .ok (.istore_n 3, 1) := by decide +kernel
theorem dX9_spareOf_5 : decode cX9_spareOf 5 = .ok (.iload_n 3, 1) := by decide +kernel
theorem dX9_spareOf_6 : decode cX9_spareOf 6 = .ok (.aload_n 0, 1) := by decide +kernel
theorem dX9_spareOf_7 : decode cX9_spareOf 7 = .ok (.getfield 7, 3) := by decide +kernel
theorem dX9_spareOf_10 : decode cX9_spareOf 10 = .ok (.bipush 36, 2) := by decide +kernel
theorem dX9_spareOf_12 : decode cX9_spareOf 12 = .ok (.iload_n 1, 1) := by decide +kernel
theorem dX9_spareOf_13 : decode cX9_spareOf 13 = .ok (.iadd, 1) := by decide +kernel
theorem dX9_spareOf_14 : decode cX9_spareOf 14 = .ok (.iaload, 1) := by decide +kernel
theorem dX9_spareOf_15 : decode cX9_spareOf 15 = .ok (.if_icmp .ge 46, 3) := by decide +kernel
theorem dX9_spareOf_18 : decode cX9_spareOf 18 = .ok (.aload_n 0, 1) := by decide +kernel
theorem dX9_spareOf_19 : decode cX9_spareOf 19 = .ok (.iload_n 1, 1) := by decide +kernel
theorem dX9_spareOf_20 : decode cX9_spareOf 20 = .ok (.iload_n 3, 1) := by decide +kernel
theorem dX9_spareOf_21 : decode cX9_spareOf 21 = .ok (.aload_n 0, 1) := by decide +kernel
theorem dX9_spareOf_22 : decode cX9_spareOf 22 = .ok (.getfield 7, 3) := by decide +kernel
theorem dX9_spareOf_25 : decode cX9_spareOf 25 = .ok (.bipush 30, 2) := by decide +kernel
theorem dX9_spareOf_27 : decode cX9_spareOf 27 = .ok (.iload_n 1, 1) := by decide +kernel
theorem dX9_spareOf_28 : decode cX9_spareOf 28 = .ok (.iadd, 1) := by decide +kernel
theorem dX9_spareOf_29 : decode cX9_spareOf 29 = .ok (.iaload, 1) := by decide +kernel
theorem dX9_spareOf_30 : decode cX9_spareOf 30 = .ok (.invokevirtual 97, 3) := by decide +kernel
theorem dX9_spareOf_33 : decode cX9_spareOf 33 = .ok (.aload_n 0, 1) := by decide +kernel
theorem dX9_spareOf_34 : decode cX9_spareOf 34 = .ok (.iload_n 1, 1) := by decide +kernel
theorem dX9_spareOf_35 : decode cX9_spareOf 35 = .ok (.iload_n 3, 1) := by decide +kernel
theorem dX9_spareOf_36 : decode cX9_spareOf 36 = .ok (.invokevirtual 100, 3) := by decide +kernel
theorem dX9_spareOf_39 : decode cX9_spareOf 39 = .ok (.isub, 1) := by decide +kernel
theorem dX9_spareOf_40 : decode cX9_spareOf 40 = .ok (.istore 4, 2) := by decide +kernel
theorem dX9_spareOf_42 : decode cX9_spareOf 42 = .ok (.iload 4, 2) := by decide +kernel
theorem dX9_spareOf_44 : decode cX9_spareOf 44 = .ok (.iload_n 2, 1) := by decide +kernel
theorem dX9_spareOf_45 : decode cX9_spareOf 45 = .ok (.if_icmp .ge 8, 3) := by decide +kernel
theorem dX9_spareOf_48 : decode cX9_spareOf 48 = .ok (.iload 4, 2) := by decide +kernel
theorem dX9_spareOf_50 : decode cX9_spareOf 50 = .ok (.goto 4, 3) := by decide +kernel
theorem dX9_spareOf_53 : decode cX9_spareOf 53 = .ok (.iload_n 2, 1) := by decide +kernel
theorem dX9_spareOf_54 : decode cX9_spareOf 54 = .ok (.istore_n 2, 1) := by decide +kernel
theorem dX9_spareOf_55 : decode cX9_spareOf 55 = .ok (.iinc 3 1, 3) := by decide +kernel
theorem dX9_spareOf_58 : decode cX9_spareOf 58 = .ok (.goto (-53), 3) := by decide +kernel
theorem dX9_spareOf_61 : decode cX9_spareOf 61 = .ok (.iload_n 2, 1) := by decide +kernel
theorem dX9_spareOf_62 : decode cX9_spareOf 62 = .ok (.ifCond .ge 7, 3) := by decide +kernel
theorem dX9_spareOf_65 : decode cX9_spareOf 65 = .ok (.iconst 0, 1) := by decide +kernel
theorem dX9_spareOf_66 : decode cX9_spareOf 66 = .ok (.goto 4, 3) := by decide +kernel
theorem dX9_spareOf_69 : decode cX9_spareOf 69 = .ok (.iload_n 2, 1) := by decide +kernel
theorem dX9_spareOf_70 : decode cX9_spareOf 70 = .ok (.ireturn, 1) := by decide +kernel
theorem dX9_spare_0 : decode cX9_spare 0 = .ok (.aload_n 0, 1) := by decide +kernel
theorem dX9_spare_1 : decode cX9_spare 1 = .ok (.iload_n 1, 1) := by decide +kernel
theorem dX9_spare_2 : decode cX9_spare 2 = .ok (.invokevirtual 88, 3) := by decide +kernel
theorem dX9_spare_5 : decode cX9_spare 5 = .ok (.ifCond .eq 15, 3) := by decide +kernel
theorem dX9_spare_8 : decode cX9_spare 8 = .ok (.aload_n 0, 1) := by decide +kernel
theorem dX9_spare_9 : decode cX9_spare 9 = .ok (.aload_n 0, 1) := by decide +kernel
theorem dX9_spare_10 : decode cX9_spare 10 = .ok (.iload_n 1, 1) := by decide +kernel
theorem dX9_spare_11 : decode cX9_spare 11 = .ok (.invokevirtual 140, 3) := by decide +kernel
theorem dX9_spare_14 : decode cX9_spare 14 = .ok (.invokevirtual 64, 3) := by decide +kernel
theorem dX9_spare_17 : decode cX9_spare 17 = .ok (.goto 8, 3) := by decide +kernel
theorem dX9_spare_20 : decode cX9_spare 20 = .ok (.aload_n 0, 1) := by decide +kernel
theorem dX9_spare_21 : decode cX9_spare 21 = .ok (.iconst 1, 1) := by decide +kernel
theorem dX9_spare_22 : decode cX9_spare 22 = .ok (.invokevirtual 57, 3) := by decide +kernel
theorem dX9_spare_25 : decode cX9_spare 25 = .ok (.ireturn, 1) := by decide +kernel
theorem dX9_sign_0 : decode cX9_sign 0 = .ok (.aload_n 0, 1) := by decide +kernel
theorem dX9_sign_1 : decode cX9_sign 1 = .ok (.aload_n 0, 1) := by decide +kernel
theorem dX9_sign_2 : decode cX9_sign 2 = .ok (.iload_n 1, 1) := by decide +kernel
theorem dX9_sign_3 : decode cX9_sign 3 = .ok (.invokevirtual 88, 3) := by decide +kernel
theorem dX9_sign_6 : decode cX9_sign 6 = .ok (.ifCond .eq 7, 3) := by decide +kernel
theorem dX9_sign_9 : decode cX9_sign 9 = .ok (.iconst 0, 1) := by decide +kernel
theorem dX9_sign_10 : decode cX9_sign 10 = .ok (.goto 4, 3) := by decide +kernel
theorem dX9_sign_13 : decode cX9_sign 13 = .ok (.iconst 1, 1) := by decide +kernel
theorem dX9_sign_14 : decode cX9_sign 14 = .ok (.putfield 33, 3) := by decide +kernel
theorem dX9_sign_17 : decode cX9_sign 17 = .ok (.aload_n 0, 1) := by decide +kernel
theorem dX9_sign_18 : decode cX9_sign 18 = .ok (.getfield 33, 3) := by decide +kernel
theorem dX9_sign_21 : decode cX9_sign 21 = .ok (.ifCond .eq 5, 3) := by decide +kernel
theorem dX9_sign_24 : decode cX9_sign 24 = .ok (.iconst 0, 1) := by decide +kernel
theorem dX9_sign_25 : decode cX9_sign 25 = .ok (.ireturn, 1) := by decide +kernel
theorem dX9_sign_26 : decode cX9_sign 26 = .ok (.aload_n 0, 1) := by decide +kernel
theorem dX9_sign_27 : decode cX9_sign 27 = .ok (.getfield 7, 3) := by decide +kernel
theorem dX9_sign_30 : decode cX9_sign 30 = .ok (.bipush 36, 2) := by decide +kernel
theorem dX9_sign_32 : decode cX9_sign 32 = .ok (.iload_n 1, 1) := by decide +kernel
theorem dX9_sign_33 : decode cX9_sign 33 = .ok (.iadd, 1) := by decide +kernel
theorem dX9_sign_34 : decode cX9_sign 34 = .ok (.iaload, 1) := by decide +kernel
theorem dX9_sign_35 : decode cX9_sign 35 = .ok (.ifCond .ne 8, 3) := by decide +kernel
theorem dX9_sign_38 : decode cX9_sign 38 = .ok (.bipush 110, 2) := by decide +kernel
theorem dX9_sign_40 : decode cX9_sign 40 = .ok (.goto 18, 3) := by decide +kernel
theorem dX9_sign_43 : decode cX9_sign 43 = .ok (.aload_n 0, 1) := by decide +kernel
theorem dX9_sign_44 : decode cX9_sign 44 = .ok (.iload_n 1, 1) := by decide +kernel
theorem dX9_sign_45 : decode cX9_sign 45 = .ok (.invokevirtual 140, 3) := by decide +kernel
theorem dX9_sign_48 : decode cX9_sign 48 = .ok (.ifCond .ne 8, 3) := by decide +kernel
theorem dX9_sign_51 : decode cX9_sign 51 = .ok (.bipush 119, 2) := by decide +kernel
theorem dX9_sign_53 : decode cX9_sign 53 = .ok (.goto 5, 3) := by decide +kernel
theorem dX9_sign_56 : decode cX9_sign 56 = .ok (.bipush 115, 2) := by decide +kernel
theorem dX9_sign_58 : decode cX9_sign 58 = .ok (.ireturn, 1) := by decide +kernel
theorem dX9_stands_0 : decode cX9_stands 0 = .ok (.aload_n 0, 1) := by decide +kernel
theorem dX9_stands_1 : decode cX9_stands 1 = .ok (.aload_n 0, 1) := by decide +kernel
theorem dX9_stands_2 : decode cX9_stands 2 = .ok (.iload_n 1, 1) := by decide +kernel
theorem dX9_stands_3 : decode cX9_stands 3 = .ok (.invokevirtual 88, 3) := by decide +kernel
theorem dX9_stands_6 : decode cX9_stands 6 = .ok (.ifCond .ne 7, 3) := by decide +kernel
theorem dX9_stands_9 : decode cX9_stands 9 = .ok (.iconst 1, 1) := by decide +kernel
theorem dX9_stands_10 : decode cX9_stands 10 = .ok (.goto 18, 3) := by decide +kernel
theorem dX9_stands_13 : decode cX9_stands 13 = .ok (.iload_n 2, 1) := by decide +kernel
theorem dX9_stands_14 : decode cX9_stands 14 = .ok (.iconst 0, 1) := by decide +kernel
theorem dX9_stands_15 : decode cX9_stands 15 = .ok (.bipush 99, 2) := by decide +kernel
theorem dX9_stands_17 : decode cX9_stands 17 = .ok (.invokestatic 53, 3) := by decide +kernel
theorem dX9_stands_20 : decode cX9_stands 20 = .ok (.ifCond .ne 7, 3) := by decide +kernel
theorem dX9_stands_23 : decode cX9_stands 23 = .ok (.iconst 2, 1) := by decide +kernel
theorem dX9_stands_24 : decode cX9_stands 24 = .ok (.goto 4, 3) := by decide +kernel
theorem dX9_stands_27 : decode cX9_stands 27 = .ok (.iconst 0, 1) := by decide +kernel
theorem dX9_stands_28 : decode cX9_stands 28 = .ok (.putfield 33, 3) := by decide +kernel
theorem dX9_stands_31 : decode cX9_stands 31 = .ok (.aload_n 0, 1) := by decide +kernel
theorem dX9_stands_32 : decode cX9_stands 32 = .ok (.getfield 33, 3) := by decide +kernel
theorem dX9_stands_35 : decode cX9_stands 35 = .ok (.ifCond .ne 18, 3) := by decide +kernel
theorem dX9_stands_38 : decode cX9_stands 38 = .ok (.aload_n 0, 1) := by decide +kernel
theorem dX9_stands_39 : decode cX9_stands 39 = .ok (.iload_n 1, 1) := by decide +kernel
theorem dX9_stands_40 : decode cX9_stands 40 = .ok (.iload_n 2, 1) := by decide +kernel
theorem dX9_stands_41 : decode cX9_stands 41 = .ok (.iconst 0, 1) := by decide +kernel
theorem dX9_stands_42 : decode cX9_stands 42 = .ok (.invokevirtual 109, 3) := by decide +kernel
theorem dX9_stands_45 : decode cX9_stands 45 = .ok (.iconst (-1), 1) := by decide +kernel
theorem dX9_stands_46 : decode cX9_stands 46 = .ok (.if_icmp .ne 7, 3) := by decide +kernel
theorem dX9_stands_49 : decode cX9_stands 49 = .ok (.iconst 1, 1) := by decide +kernel
theorem dX9_stands_50 : decode cX9_stands 50 = .ok (.goto 4, 3) := by decide +kernel
theorem dX9_stands_53 : decode cX9_stands 53 = .ok (.iconst 0, 1) := by decide +kernel
theorem dX9_stands_54 : decode cX9_stands 54 = .ok (.ireturn, 1) := by decide +kernel
theorem dX9_damper_0 : decode cX9_damper 0 = .ok (.iload_n 1, 1) := by decide +kernel
theorem dX9_damper_1 : decode cX9_damper 1 = .ok (.bipush 50, 2) := by decide +kernel
theorem dX9_damper_3 : decode cX9_damper 3 = .ok (.if_icmp .le 13, 3) := by decide +kernel
theorem dX9_damper_6 : decode cX9_damper 6 = .ok (.iload_n 1, 1) := by decide +kernel
theorem dX9_damper_7 : decode cX9_damper 7 = .ok (.bipush 50, 2) := by decide +kernel
theorem dX9_damper_9 : decode cX9_damper 9 = .ok (.isub, 1) := by decide +kernel
theorem dX9_damper_10 : decode cX9_damper 10 = .ok (.bipush 10, 2) := by decide +kernel
theorem dX9_damper_12 : decode cX9_damper 12 = .ok (.idiv, 1) := by decide +kernel
theorem dX9_damper_13 : decode cX9_damper 13 = .ok (.goto 14, 3) := by decide +kernel
theorem dX9_damper_16 : decode cX9_damper 16 = .ok (.iload_n 1, 1) := by decide +kernel
theorem dX9_damper_17 : decode cX9_damper 17 = .ok (.bipush 40, 2) := by decide +kernel
theorem dX9_damper_19 : decode cX9_damper 19 = .ok (.if_icmp .ge 7, 3) := by decide +kernel
theorem dX9_damper_22 : decode cX9_damper 22 = .ok (.iconst (-1), 1) := by decide +kernel
theorem dX9_damper_23 : decode cX9_damper 23 = .ok (.goto 4, 3) := by decide +kernel
theorem dX9_damper_26 : decode cX9_damper 26 = .ok (.iconst 0, 1) := by decide +kernel
theorem dX9_damper_27 : decode cX9_damper 27 = .ok (.istore_n 2, 1) := by decide +kernel
theorem dX9_damper_28 : decode cX9_damper 28 = .ok (.iload_n 0, 1) := by decide +kernel
theorem dX9_damper_29 : decode cX9_damper 29 = .ok (.iload_n 2, 1) := by decide +kernel
theorem dX9_damper_30 : decode cX9_damper 30 = .ok (.iadd, 1) := by decide +kernel
theorem dX9_damper_31 : decode cX9_damper 31 = .ok (.istore_n 3, 1) := by decide +kernel
theorem dX9_damper_32 : decode cX9_damper 32 = .ok (.iload_n 3, 1) := by decide +kernel
theorem dX9_damper_33 : decode cX9_damper 33 = .ok (.ifCond .ge 7, 3) := by decide +kernel
theorem dX9_damper_36 : decode cX9_damper 36 = .ok (.iconst 0, 1) := by decide +kernel
theorem dX9_damper_37 : decode cX9_damper 37 = .ok (.goto 15, 3) := by decide +kernel
theorem dX9_damper_40 : decode cX9_damper 40 = .ok (.iload_n 3, 1) := by decide +kernel
theorem dX9_damper_41 : decode cX9_damper 41 = .ok (.bipush 99, 2) := by decide +kernel
theorem dX9_damper_43 : decode cX9_damper 43 = .ok (.if_icmp .le 8, 3) := by decide +kernel
theorem dX9_damper_46 : decode cX9_damper 46 = .ok (.bipush 99, 2) := by decide +kernel
theorem dX9_damper_48 : decode cX9_damper 48 = .ok (.goto 4, 3) := by decide +kernel
theorem dX9_damper_51 : decode cX9_damper 51 = .ok (.iload_n 3, 1) := by decide +kernel
theorem dX9_damper_52 : decode cX9_damper 52 = .ok (.ireturn, 1) := by decide +kernel
theorem dX9_breaksIn_0 : decode cX9_breaksIn 0 = .ok (.aload_n 0, 1) := by decide +kernel
theorem dX9_breaksIn_1 : decode cX9_breaksIn 1 = .ok (.iload_n 1, 1) := by decide +kernel
theorem dX9_breaksIn_2 : decode cX9_breaksIn 2 = .ok (.invokevirtual 88, 3) := by decide +kernel
theorem dX9_breaksIn_5 : decode cX9_breaksIn 5 = .ok (.ifCond .ne 9, 3) := by decide +kernel
theorem dX9_breaksIn_8 : decode cX9_breaksIn 8 = .ok (.aload_n 0, 1) := by decide +kernel
theorem dX9_breaksIn_9 : decode cX9_breaksIn 9 = .ok (.iconst 1, 1) := by decide +kernel
theorem dX9_breaksIn_10 : decode cX9_breaksIn 10 = .ok (.invokevirtual 57, 3) := by decide +kernel
theorem dX9_breaksIn_13 : decode cX9_breaksIn 13 = .ok (.ireturn, 1) := by decide +kernel
theorem dX9_breaksIn_14 : decode cX9_breaksIn 14 = .ok (.aload_n 0, 1) := by decide +kernel
theorem dX9_breaksIn_15 : decode cX9_breaksIn 15 = .ok (.getfield 7, 3) := by decide +kernel
theorem dX9_breaksIn_18 : decode cX9_breaksIn 18 = .ok (.bipush 30, 2) := by decide +kernel
theorem dX9_breaksIn_20 : decode cX9_breaksIn 20 = .ok (.iload_n 1, 1) := by decide +kernel
theorem dX9_breaksIn_21 : decode cX9_breaksIn 21 = .ok (.iadd, 1) := by decide +kernel
theorem dX9_breaksIn_22 : decode cX9_breaksIn 22 = .ok (.iaload, 1) := by decide +kernel
theorem dX9_breaksIn_23 : decode cX9_breaksIn 23 = .ok (.istore_n 2, 1) := by decide +kernel
theorem dX9_breaksIn_24 : decode cX9_breaksIn 24 = .ok (.iconst 1, 1) := by decide +kernel
theorem dX9_breaksIn_25 : decode cX9_breaksIn 25 = .ok (.istore_n 3, 1) := by decide +kernel
theorem dX9_breaksIn_26 : decode cX9_breaksIn 26 = .ok (.iload_n 3, 1) := by decide +kernel
theorem dX9_breaksIn_27 : decode cX9_breaksIn 27 = .ok (.bipush 72, 2) := by decide +kernel
theorem dX9_breaksIn_29 : decode cX9_breaksIn 29 = .ok (.if_icmp .gt 45, 3) := by decide +kernel
theorem dX9_breaksIn_32 : decode cX9_breaksIn 32 = .ok (.iload_n 2, 1) := by decide +kernel
theorem dX9_breaksIn_33 : decode cX9_breaksIn 33 = .ok (.aload_n 0, 1) := by decide +kernel
theorem dX9_breaksIn_34 : decode cX9_breaksIn 34 = .ok (.aload_n 0, 1) := by decide +kernel
theorem dX9_breaksIn_35 : decode cX9_breaksIn 35 = .ok (.getfield 7, 3) := by decide +kernel
theorem dX9_breaksIn_38 : decode cX9_breaksIn 38 = .ok (.iconst 0, 1) := by decide +kernel
theorem dX9_breaksIn_39 : decode cX9_breaksIn 39 = .ok (.iaload, 1) := by decide +kernel
theorem dX9_breaksIn_40 : decode cX9_breaksIn 40 = .ok (.iload_n 3, 1) := by decide +kernel
theorem dX9_breaksIn_41 : decode cX9_breaksIn 41 = .ok (.iadd, 1) := by decide +kernel
theorem dX9_breaksIn_42 : decode cX9_breaksIn 42 = .ok (.iconst 1, 1) := by decide +kernel
theorem dX9_breaksIn_43 : decode cX9_breaksIn 43 = .ok (.isub, 1) := by decide +kernel
theorem dX9_breaksIn_44 : decode cX9_breaksIn 44 = .ok (.invokevirtual 70, 3) := by decide +kernel
theorem dX9_breaksIn_47 : decode cX9_breaksIn 47 = .ok (.invokestatic 143, 3) := by decide +kernel
theorem dX9_breaksIn_50 : decode cX9_breaksIn 50 = .ok (.istore_n 2, 1) := by decide +kernel
theorem dX9_breaksIn_51 : decode cX9_breaksIn 51 = .ok (.aload_n 0, 1) := by decide +kernel
theorem dX9_breaksIn_52 : decode cX9_breaksIn 52 = .ok (.iload_n 1, 1) := by decide +kernel
theorem dX9_breaksIn_53 : decode cX9_breaksIn 53 = .ok (.iload_n 2, 1) := by decide +kernel
theorem dX9_breaksIn_54 : decode cX9_breaksIn 54 = .ok (.iconst 0, 1) := by decide +kernel
theorem dX9_breaksIn_55 : decode cX9_breaksIn 55 = .ok (.invokevirtual 109, 3) := by decide +kernel
theorem dX9_breaksIn_58 : decode cX9_breaksIn 58 = .ok (.iconst (-1), 1) := by decide +kernel
theorem dX9_breaksIn_59 : decode cX9_breaksIn 59 = .ok (.if_icmp .eq 9, 3) := by decide +kernel
theorem dX9_breaksIn_62 : decode cX9_breaksIn 62 = .ok (.aload_n 0, 1) := by decide +kernel
theorem dX9_breaksIn_63 : decode cX9_breaksIn 63 = .ok (.iload_n 3, 1) := by decide +kernel
theorem dX9_breaksIn_64 : decode cX9_breaksIn 64 = .ok (.invokevirtual 64, 3) := by decide +kernel
theorem dX9_breaksIn_67 : decode cX9_breaksIn 67 = .ok (.ireturn, 1) := by decide +kernel
theorem dX9_breaksIn_68 : decode cX9_breaksIn 68 = .ok (.iinc 3 1, 3) := by decide +kernel
theorem dX9_breaksIn_71 : decode cX9_breaksIn 71 = .ok (.goto (-45), 3) := by decide +kernel
theorem dX9_breaksIn_74 : decode cX9_breaksIn 74 = .ok (.aload_n 0, 1) := by decide +kernel
theorem dX9_breaksIn_75 : decode cX9_breaksIn 75 = .ok (.iconst 2, 1) := by decide +kernel
theorem dX9_breaksIn_76 : decode cX9_breaksIn 76 = .ok (.invokevirtual 57, 3) := by decide +kernel
theorem dX9_breaksIn_79 : decode cX9_breaksIn 79 = .ok (.ireturn, 1) := by decide +kernel
theorem dX9_banquet_0 : decode cX9_banquet 0 = .ok (.iload_n 1, 1) := by decide +kernel
theorem dX9_banquet_1 : decode cX9_banquet 1 = .ok (.iconst 0, 1) := by decide +kernel
theorem dX9_banquet_2 : decode cX9_banquet 2 = .ok (.sipush 9999, 3) := by decide +kernel
theorem dX9_banquet_5 : decode cX9_banquet 5 = .ok (.invokestatic 53, 3) := by decide +kernel
theorem dX9_banquet_8 : decode cX9_banquet 8 = .ok (.ifCond .eq 24, 3) := by decide +kernel
theorem dX9_banquet_11 : decode cX9_banquet 11 = .ok (.iload_n 2, 1) := by decide +kernel
theorem dX9_banquet_12 : decode cX9_banquet 12 = .ok (.iconst 1, 1) := by decide +kernel
theorem dX9_banquet_13 : decode cX9_banquet 13 = .ok (.bipush 10, 2) := by decide +kernel
theorem dX9_banquet_15 : decode cX9_banquet 15 = .ok (.invokestatic 53, 3) := by decide +kernel
theorem dX9_banquet_18 : decode cX9_banquet 18 = .ok (.ifCond .eq 14, 3) := by decide +kernel
theorem dX9_banquet_21 : decode cX9_banquet 21 = .ok (.iload_n 3, 1) := by decide +kernel
theorem dX9_banquet_22 : decode cX9_banquet 22 = .ok (.iconst 1, 1) := by decide +kernel
theorem dX9_banquet_23 : decode cX9_banquet 23 = .ok (.sipush 200, 3) := by decide +kernel
theorem dX9_banquet_26 : decode cX9_banquet 26 = .ok (.invokestatic 53, 3) := by decide +kernel
theorem dX9_banquet_29 : decode cX9_banquet 29 = .ok (.ifCond .ne 9, 3) := by decide +kernel
theorem dX9_banquet_32 : decode cX9_banquet 32 = .ok (.aload_n 0, 1) := by decide +kernel
theorem dX9_banquet_33 : decode cX9_banquet 33 = .ok (.iconst 1, 1) := by decide +kernel
theorem dX9_banquet_34 : decode cX9_banquet 34 = .ok (.invokevirtual 57, 3) := by decide +kernel
theorem dX9_banquet_37 : decode cX9_banquet 37 = .ok (.ireturn, 1) := by decide +kernel
theorem dX9_banquet_38 : decode cX9_banquet 38 = .ok (.aload_n 0, 1) := by decide +kernel
theorem dX9_banquet_39 : decode cX9_banquet 39 = .ok (.getfield 7, 3) := by decide +kernel
theorem dX9_banquet_42 : decode cX9_banquet 42 = .ok (.bipush 61, 2) := by decide +kernel
theorem dX9_banquet_44 : decode cX9_banquet 44 = .ok (.iaload, 1) := by decide +kernel
theorem dX9_banquet_45 : decode cX9_banquet 45 = .ok (.istore 4, 2) := by decide +kernel
theorem dX9_banquet_47 : decode cX9_banquet 47 = .ok (.iload 4, 2) := by decide +kernel
theorem dX9_banquet_49 : decode cX9_banquet 49 = .ok (.bipush 6, 2) := by decide +kernel
theorem dX9_banquet_51 : decode cX9_banquet 51 = .ok (.if_icmp .ne 12, 3) := by decide +kernel
theorem dX9_banquet_54 : decode cX9_banquet 54 = .ok (.aload_n 0, 1) := by decide +kernel
theorem dX9_banquet_55 : decode cX9_banquet 55 = .ok (.iconst 1, 1) := by decide +kernel
theorem dX9_banquet_56 : decode cX9_banquet 56 = .ok (.bipush 6, 2) := by decide +kernel
theorem dX9_banquet_58 : decode cX9_banquet 58 = .ok (.iconst 2, 1) := by decide +kernel
theorem dX9_banquet_59 : decode cX9_banquet 59 = .ok (.invokevirtual 77, 3) := by decide +kernel
theorem dX9_banquet_62 : decode cX9_banquet 62 = .ok (.ireturn, 1) := by decide +kernel
theorem dX9_banquet_63 : decode cX9_banquet 63 = .ok (.iload_n 1, 1) := by decide +kernel
theorem dX9_banquet_64 : decode cX9_banquet 64 = .ok (.aload_n 0, 1) := by decide +kernel
theorem dX9_banquet_65 : decode cX9_banquet 65 = .ok (.getfield 7, 3) := by decide +kernel
theorem dX9_banquet_68 : decode cX9_banquet 68 = .ok (.iconst 0, 1) := by decide +kernel
theorem dX9_banquet_69 : decode cX9_banquet 69 = .ok (.iaload, 1) := by decide +kernel
theorem dX9_banquet_70 : decode cX9_banquet 70 = .ok (.if_icmp .gt 17, 3) := by decide +kernel
theorem dX9_banquet_73 : decode cX9_banquet 73 = .ok (.aload_n 0, 1) := by decide +kernel
theorem dX9_banquet_74 : decode cX9_banquet 74 = .ok (.bipush 10, 2) := by decide +kernel
theorem dX9_banquet_76 : decode cX9_banquet 76 = .ok (.aload_n 0, 1) := by decide +kernel
theorem dX9_banquet_77 : decode cX9_banquet 77 = .ok (.getfield 7, 3) := by decide +kernel
theorem dX9_banquet_80 : decode cX9_banquet 80 = .ok (.iconst 0, 1) := by decide +kernel
theorem dX9_banquet_81 : decode cX9_banquet 81 = .ok (.iaload, 1) := by decide +kernel
theorem dX9_banquet_82 : decode cX9_banquet 82 = .ok (.iconst 2, 1) := by decide +kernel
theorem dX9_banquet_83 : decode cX9_banquet 83 = .ok (.invokevirtual 77, 3) := by decide +kernel
theorem dX9_banquet_86 : decode cX9_banquet 86 = .ok (.ireturn, 1) := by decide +kernel
theorem dX9_banquet_87 : decode cX9_banquet 87 = .ok (.aload_n 0, 1) := by decide +kernel
theorem dX9_banquet_88 : decode cX9_banquet 88 = .ok (.invokevirtual 61, 3) := by decide +kernel
theorem dX9_banquet_91 : decode cX9_banquet 91 = .ok (.aload_n 0, 1) := by decide +kernel
theorem dX9_banquet_92 : decode cX9_banquet 92 = .ok (.getfield 7, 3) := by decide +kernel
theorem dX9_banquet_95 : decode cX9_banquet 95 = .ok (.bipush 62, 2) := by decide +kernel
theorem dX9_banquet_97 : decode cX9_banquet 97 = .ok (.iload 4, 2) := by decide +kernel
theorem dX9_banquet_99 : decode cX9_banquet 99 = .ok (.iadd, 1) := by decide +kernel
theorem dX9_banquet_100 : decode cX9_banquet 100 = .ok (.aload_n 0, 1) := by decide +kernel
theorem dX9_banquet_101 : decode cX9_banquet 101 = .ok (.getfield 7, 3) := by decide +kernel
theorem dX9_banquet_104 : decode cX9_banquet 104 = .ok (.bipush 92, 2) := by decide +kernel
theorem dX9_banquet_106 : decode cX9_banquet 106 = .ok (.iaload, 1) := by decide +kernel
theorem dX9_banquet_107 : decode cX9_banquet 107 = .ok (.iastore, 1) := by decide +kernel
theorem dX9_banquet_108 : decode cX9_banquet 108 = .ok (.aload_n 0, 1) := by decide +kernel
theorem dX9_banquet_109 : decode cX9_banquet 109 = .ok (.getfield 7, 3) := by decide +kernel
theorem dX9_banquet_112 : decode cX9_banquet 112 = .ok (.bipush 68, 2) := by decide +kernel
theorem dX9_banquet_114 : decode cX9_banquet 114 = .ok (.iload 4, 2) := by decide +kernel
theorem dX9_banquet_116 : decode cX9_banquet 116 = .ok (.iadd, 1) := by decide +kernel
theorem dX9_banquet_117 : decode cX9_banquet 117 = .ok (.iload_n 1, 1) := by decide +kernel
theorem dX9_banquet_118 : decode cX9_banquet 118 = .ok (.iastore, 1) := by decide +kernel
theorem dX9_banquet_119 : decode cX9_banquet 119 = .ok (.aload_n 0, 1) := by decide +kernel
theorem dX9_banquet_120 : decode cX9_banquet 120 = .ok (.getfield 7, 3) := by decide +kernel
theorem dX9_banquet_123 : decode cX9_banquet 123 = .ok (.bipush 74, 2) := by decide +kernel
theorem dX9_banquet_125 : decode cX9_banquet 125 = .ok (.iload 4, 2) := by decide +kernel
theorem dX9_banquet_127 : decode cX9_banquet 127 = .ok (.iadd, 1) := by decide +kernel
theorem dX9_banquet_128 : decode cX9_banquet 128 = .ok (.iload_n 2, 1) := by decide +kernel
theorem dX9_banquet_129 : decode cX9_banquet 129 = .ok (.iastore, 1) := by decide +kernel
theorem dX9_banquet_130 : decode cX9_banquet 130 = .ok (.aload_n 0, 1) := by decide +kernel
theorem dX9_banquet_131 : decode cX9_banquet 131 = .ok (.getfield 7, 3) := by decide +kernel
theorem dX9_banquet_134 : decode cX9_banquet 134 = .ok (.bipush 80, 2) := by decide +kernel
theorem dX9_banquet_136 : decode cX9_banquet 136 = .ok (.iload 4, 2) := by decide +kernel
theorem dX9_banquet_138 : decode cX9_banquet 138 = .ok (.iadd, 1) := by decide +kernel
theorem dX9_banquet_139 : decode cX9_banquet 139 = .ok (.iload_n 3, 1) := by decide +kernel
theorem dX9_banquet_140 : decode cX9_banquet 140 = .ok (.iastore, 1) := by decide +kernel
theorem dX9_banquet_141 : decode cX9_banquet 141 = .ok (.aload_n 0, 1) := by decide +kernel
theorem dX9_banquet_142 : decode cX9_banquet 142 = .ok (.getfield 7, 3) := by decide +kernel
theorem dX9_banquet_145 : decode cX9_banquet 145 = .ok (.bipush 86, 2) := by decide +kernel
theorem dX9_banquet_147 : decode cX9_banquet 147 = .ok (.iload 4, 2) := by decide +kernel
theorem dX9_banquet_149 : decode cX9_banquet 149 = .ok (.iadd, 1) := by decide +kernel
theorem dX9_banquet_150 : decode cX9_banquet 150 = .ok (.iconst (-1), 1) := by decide +kernel
theorem dX9_banquet_151 : decode cX9_banquet 151 = .ok (.iastore, 1) := by decide +kernel
theorem dX9_banquet_152 : decode cX9_banquet 152 = .ok (.aload_n 0, 1) := by decide +kernel
theorem dX9_banquet_153 : decode cX9_banquet 153 = .ok (.getfield 7, 3) := by decide +kernel
theorem dX9_banquet_156 : decode cX9_banquet 156 = .ok (.bipush 61, 2) := by decide +kernel
theorem dX9_banquet_158 : decode cX9_banquet 158 = .ok (.dup2, 1) := by decide +kernel
theorem dX9_banquet_159 : decode cX9_banquet 159 = .ok (.iaload, 1) := by decide +kernel
theorem dX9_banquet_160 : decode cX9_banquet 160 = .ok (.iconst 1, 1) := by decide +kernel
theorem dX9_banquet_161 : decode cX9_banquet 161 = .ok (.iadd, 1) := by decide +kernel
theorem dX9_banquet_162 : decode cX9_banquet 162 = .ok (.iastore, 1) := by decide +kernel
theorem dX9_banquet_163 : decode cX9_banquet 163 = .ok (.aload_n 0, 1) := by decide +kernel
theorem dX9_banquet_164 : decode cX9_banquet 164 = .ok (.getfield 7, 3) := by decide +kernel
theorem dX9_banquet_167 : decode cX9_banquet 167 = .ok (.bipush 92, 2) := by decide +kernel
theorem dX9_banquet_169 : decode cX9_banquet 169 = .ok (.dup2, 1) := by decide +kernel
theorem dX9_banquet_170 : decode cX9_banquet 170 = .ok (.iaload, 1) := by decide +kernel
theorem dX9_banquet_171 : decode cX9_banquet 171 = .ok (.iconst 1, 1) := by decide +kernel
theorem dX9_banquet_172 : decode cX9_banquet 172 = .ok (.iadd, 1) := by decide +kernel
theorem dX9_banquet_173 : decode cX9_banquet 173 = .ok (.iastore, 1) := by decide +kernel
theorem dX9_banquet_174 : decode cX9_banquet 174 = .ok (.aload_n 0, 1) := by decide +kernel
theorem dX9_banquet_175 : decode cX9_banquet 175 = .ok (.aload_n 0, 1) := by decide +kernel
theorem dX9_banquet_176 : decode cX9_banquet 176 = .ok (.aload_n 0, 1) := by decide +kernel
theorem dX9_banquet_177 : decode cX9_banquet 177 = .ok (.getfield 7, 3) := by decide +kernel
theorem dX9_banquet_180 : decode cX9_banquet 180 = .ok (.bipush 62, 2) := by decide +kernel
theorem dX9_banquet_182 : decode cX9_banquet 182 = .ok (.iload 4, 2) := by decide +kernel
theorem dX9_banquet_184 : decode cX9_banquet 184 = .ok (.iadd, 1) := by decide +kernel
theorem dX9_banquet_185 : decode cX9_banquet 185 = .ok (.iaload, 1) := by decide +kernel
theorem dX9_banquet_186 : decode cX9_banquet 186 = .ok (.invokevirtual 64, 3) := by decide +kernel
theorem dX9_banquet_189 : decode cX9_banquet 189 = .ok (.invokevirtual 67, 3) := by decide +kernel
theorem dX9_banquet_192 : decode cX9_banquet 192 = .ok (.ireturn, 1) := by decide +kernel
theorem dX9_placeOf_0 : decode cX9_placeOf 0 = .ok (.iconst 0, 1) := by decide +kernel
theorem dX9_placeOf_1 : decode cX9_placeOf 1 = .ok (.istore_n 2, 1) := by decide +kernel
theorem dX9_placeOf_2 : decode cX9_placeOf 2 = .ok (.iload_n 2, 1) := by decide +kernel
theorem dX9_placeOf_3 : decode cX9_placeOf 3 = .ok (.aload_n 0, 1) := by decide +kernel
theorem dX9_placeOf_4 : decode cX9_placeOf 4 = .ok (.getfield 7, 3) := by decide +kernel
theorem dX9_placeOf_7 : decode cX9_placeOf 7 = .ok (.bipush 61, 2) := by decide +kernel
theorem dX9_placeOf_9 : decode cX9_placeOf 9 = .ok (.iaload, 1) := by decide +kernel
theorem dX9_placeOf_10 : decode cX9_placeOf 10 = .ok (.if_icmp .ge 24, 3) := by decide +kernel
theorem dX9_placeOf_13 : decode cX9_placeOf 13 = .ok (.aload_n 0, 1) := by decide +kernel
theorem dX9_placeOf_14 : decode cX9_placeOf 14 = .ok (.getfield 7, 3) := by decide +kernel
theorem dX9_placeOf_17 : decode cX9_placeOf 17 = .ok (.bipush 62, 2) := by decide +kernel
theorem dX9_placeOf_19 : decode cX9_placeOf 19 = .ok (.iload_n 2, 1) := by decide +kernel
theorem dX9_placeOf_20 : decode cX9_placeOf 20 = .ok (.iadd, 1) := by decide +kernel
theorem dX9_placeOf_21 : decode cX9_placeOf 21 = .ok (.iaload, 1) := by decide +kernel
theorem dX9_placeOf_22 : decode cX9_placeOf 22 = .ok (.iload_n 1, 1) := by decide +kernel
theorem dX9_placeOf_23 : decode cX9_placeOf 23 = .ok (.if_icmp .ne 5, 3) := by decide +kernel
theorem dX9_placeOf_26 : decode cX9_placeOf 26 = .ok (.iload_n 2, 1) := by decide +kernel
theorem dX9_placeOf_27 : decode cX9_placeOf 27 = .ok (.ireturn, 1) := by decide +kernel
theorem dX9_placeOf_28 : decode cX9_placeOf 28 = .ok (.iinc 2 1, 3) := by decide +kernel
theorem dX9_placeOf_31 : decode cX9_placeOf 31 = .ok (.goto (-29), 3) := by decide +kernel
theorem dX9_placeOf_34 : decode cX9_placeOf 34 = .ok (.iconst (-1), 1) := by decide +kernel
theorem dX9_placeOf_35 : decode cX9_placeOf 35 = .ok (.ireturn, 1) := by decide +kernel
theorem dX9_missing_0 : decode cX9_missing 0 = .ok (.aload_n 0, 1) := by decide +kernel
theorem dX9_missing_1 : decode cX9_missing 1 = .ok (.getfield 7, 3) := by decide +kernel
theorem dX9_missing_4 : decode cX9_missing 4 = .ok (.bipush 74, 2) := by decide +kernel
theorem dX9_missing_6 : decode cX9_missing 6 = .ok (.iload_n 1, 1) := by decide +kernel
theorem dX9_missing_7 : decode cX9_missing 7 = .ok (.iadd, 1) := by decide +kernel
theorem dX9_missing_8 : decode cX9_missing 8 = .ok (.iaload, 1) := by decide +kernel
theorem dX9_missing_9 : decode cX9_missing 9 = .ok (.aload_n 0, 1) := by decide +kernel
theorem dX9_missing_10 : decode cX9_missing 10 = .ok (.getfield 7, 3) := by decide +kernel
theorem dX9_missing_13 : decode cX9_missing 13 = .ok (.bipush 86, 2) := by decide +kernel
theorem dX9_missing_15 : decode cX9_missing 15 = .ok (.iload_n 1, 1) := by decide +kernel
theorem dX9_missing_16 : decode cX9_missing 16 = .ok (.iadd, 1) := by decide +kernel
theorem dX9_missing_17 : decode cX9_missing 17 = .ok (.iaload, 1) := by decide +kernel
theorem dX9_missing_18 : decode cX9_missing 18 = .ok (.iconst (-1), 1) := by decide +kernel
theorem dX9_missing_19 : decode cX9_missing 19 = .ok (.if_icmp .ne 7, 3) := by decide +kernel
theorem dX9_missing_22 : decode cX9_missing 22 = .ok (.iconst 0, 1) := by decide +kernel
theorem dX9_missing_23 : decode cX9_missing 23 = .ok (.goto 20, 3) := by decide +kernel
theorem dX9_missing_26 : decode cX9_missing 26 = .ok (.aload_n 0, 1) := by decide +kernel
theorem dX9_missing_27 : decode cX9_missing 27 = .ok (.getfield 7, 3) := by decide +kernel
theorem dX9_missing_30 : decode cX9_missing 30 = .ok (.bipush 36, 2) := by decide +kernel
theorem dX9_missing_32 : decode cX9_missing 32 = .ok (.aload_n 0, 1) := by decide +kernel
theorem dX9_missing_33 : decode cX9_missing 33 = .ok (.getfield 7, 3) := by decide +kernel
theorem dX9_missing_36 : decode cX9_missing 36 = .ok (.bipush 86, 2) := by decide +kernel
theorem dX9_missing_38 : decode cX9_missing 38 = .ok (.iload_n 1, 1) := by decide +kernel
theorem dX9_missing_39 : decode cX9_missing 39 = .ok (.iadd, 1) := by decide +kernel
theorem dX9_missing_40 : decode cX9_missing 40 = .ok (.iaload, 1) := by decide +kernel
theorem dX9_missing_41 : decode cX9_missing 41 = .ok (.iadd, 1) := by decide +kernel
theorem dX9_missing_42 : decode cX9_missing 42 = .ok (.iaload, 1) := by decide +kernel
theorem dX9_missing_43 : decode cX9_missing 43 = .ok (.isub, 1) := by decide +kernel
theorem dX9_missing_44 : decode cX9_missing 44 = .ok (.istore_n 2, 1) := by decide +kernel
theorem dX9_missing_45 : decode cX9_missing 45 = .ok (.iload_n 2, 1) := by decide +kernel
theorem dX9_missing_46 : decode cX9_missing 46 = .ok (.ifCond .ge 7, 3) := by decide +kernel
theorem dX9_missing_49 : decode cX9_missing 49 = .ok (.iconst 0, 1) := by decide +kernel
theorem dX9_missing_50 : decode cX9_missing 50 = .ok (.goto 4, 3) := by decide +kernel
theorem dX9_missing_53 : decode cX9_missing 53 = .ok (.iload_n 2, 1) := by decide +kernel
theorem dX9_missing_54 : decode cX9_missing 54 = .ok (.ireturn, 1) := by decide +kernel
theorem dX9_shows_0 : decode cX9_shows 0 = .ok (.aload_n 0, 1) := by decide +kernel
theorem dX9_shows_1 : decode cX9_shows 1 = .ok (.iload_n 1, 1) := by decide +kernel
theorem dX9_shows_2 : decode cX9_shows 2 = .ok (.invokevirtual 146, 3) := by decide +kernel
theorem dX9_shows_5 : decode cX9_shows 5 = .ok (.istore_n 3, 1) := by decide +kernel
theorem dX9_shows_6 : decode cX9_shows 6 = .ok (.iload_n 3, 1) := by decide +kernel
theorem dX9_shows_7 : decode cX9_shows 7 = .ok (.iconst (-1), 1) := by decide +kernel
theorem dX9_shows_8 : decode cX9_shows 8 = .ok (.if_icmp .ne 9, 3) := by decide +kernel
theorem dX9_shows_11 : decode cX9_shows 11 = .ok (.aload_n 0, 1) := by decide +kernel
theorem dX9_shows_12 : decode cX9_shows 12 = .ok (.iconst 1, 1) := by decide +kernel
theorem dX9_shows_13 : decode cX9_shows 13 = .ok (.invokevirtual 57, 3) := by decide +kernel
theorem dX9_shows_16 : decode cX9_shows 16 = .ok (.ireturn, 1) := by decide +kernel
theorem dX9_shows_17 : decode cX9_shows 17 = .ok (.aload_n 0, 1) := by decide +kernel
theorem dX9_shows_18 : decode cX9_shows 18 = .ok (.iload_n 2, 1) := by decide +kernel
theorem dX9_shows_19 : decode cX9_shows 19 = .ok (.invokevirtual 88, 3) := by decide +kernel
theorem dX9_shows_22 : decode cX9_shows 22 = .ok (.ifCond .ne 9, 3) := by decide +kernel
theorem dX9_shows_25 : decode cX9_shows 25 = .ok (.aload_n 0, 1) := by decide +kernel
theorem dX9_shows_26 : decode cX9_shows 26 = .ok (.iconst 2, 1) := by decide +kernel
theorem dX9_shows_27 : decode cX9_shows 27 = .ok (.invokevirtual 57, 3) := by decide +kernel
theorem dX9_shows_30 : decode cX9_shows 30 = .ok (.ireturn, 1) := by decide +kernel
theorem dX9_shows_31 : decode cX9_shows 31 = .ok (.aload_n 0, 1) := by decide +kernel
theorem dX9_shows_32 : decode cX9_shows 32 = .ok (.getfield 7, 3) := by decide +kernel
theorem dX9_shows_35 : decode cX9_shows 35 = .ok (.bipush 86, 2) := by decide +kernel
theorem dX9_shows_37 : decode cX9_shows 37 = .ok (.iload_n 3, 1) := by decide +kernel
theorem dX9_shows_38 : decode cX9_shows 38 = .ok (.iadd, 1) := by decide +kernel
theorem dX9_shows_39 : decode cX9_shows 39 = .ok (.iload_n 2, 1) := by decide +kernel
theorem dX9_shows_40 : decode cX9_shows 40 = .ok (.iastore, 1) := by decide +kernel
theorem dX9_shows_41 : decode cX9_shows 41 = .ok (.aload_n 0, 1) := by decide +kernel
theorem dX9_shows_42 : decode cX9_shows 42 = .ok (.aload_n 0, 1) := by decide +kernel
theorem dX9_shows_43 : decode cX9_shows 43 = .ok (.iload_n 3, 1) := by decide +kernel
theorem dX9_shows_44 : decode cX9_shows 44 = .ok (.invokevirtual 149, 3) := by decide +kernel
theorem dX9_shows_47 : decode cX9_shows 47 = .ok (.invokevirtual 64, 3) := by decide +kernel
theorem dX9_shows_50 : decode cX9_shows 50 = .ok (.ireturn, 1) := by decide +kernel
theorem dX9_show_0 : decode cX9_show 0 = .ok (.aload_n 0, 1) := by decide +kernel
theorem dX9_show_1 : decode cX9_show 1 = .ok (.invokevirtual 61, 3) := by decide +kernel
theorem dX9_show_4 : decode cX9_show 4 = .ok (.aload_n 0, 1) := by decide +kernel
theorem dX9_show_5 : decode cX9_show 5 = .ok (.aload_n 0, 1) := by decide +kernel
theorem dX9_show_6 : decode cX9_show 6 = .ok (.iload_n 1, 1) := by decide +kernel
theorem dX9_show_7 : decode cX9_show 7 = .ok (.iload_n 2, 1) := by decide +kernel
theorem dX9_show_8 : decode cX9_show 8 = .ok (.invokevirtual 152, 3) := by decide +kernel
theorem dX9_show_11 : decode cX9_show 11 = .ok (.invokevirtual 67, 3) := by decide +kernel
theorem dX9_show_14 : decode cX9_show 14 = .ok (.ireturn, 1) := by decide +kernel
theorem dX9_drops_0 : decode cX9_drops 0 = .ok (.aload_n 0, 1) := by decide +kernel
theorem dX9_drops_1 : decode cX9_drops 1 = .ok (.getfield 7, 3) := by decide +kernel
theorem dX9_drops_4 : decode cX9_drops 4 = .ok (.bipush 61, 2) := by decide +kernel
theorem dX9_drops_6 : decode cX9_drops 6 = .ok (.dup2, 1) := by decide +kernel
theorem dX9_drops_7 : decode cX9_drops 7 = .ok (.iaload, 1) := by decide +kernel
theorem dX9_drops_8 : decode cX9_drops 8 = .ok (.iconst 1, 1) := by decide +kernel
theorem dX9_drops_9 : decode cX9_drops 9 = .ok (.isub, 1) := by decide +kernel
theorem dX9_drops_10 : decode cX9_drops 10 = .ok (.iastore, 1) := by decide +kernel
theorem dX9_drops_11 : decode cX9_drops 11 = .ok (.iconst 0, 1) := by decide +kernel
theorem dX9_drops_12 : decode cX9_drops 12 = .ok (.istore_n 2, 1) := by decide +kernel
theorem dX9_drops_13 : decode cX9_drops 13 = .ok (.iload_n 2, 1) := by decide +kernel
theorem dX9_drops_14 : decode cX9_drops 14 = .ok (.iconst 5, 1) := by decide +kernel
theorem dX9_drops_15 : decode cX9_drops 15 = .ok (.if_icmp .ge 58, 3) := by decide +kernel
theorem dX9_drops_18 : decode cX9_drops 18 = .ok (.iload_n 1, 1) := by decide +kernel
theorem dX9_drops_19 : decode cX9_drops 19 = .ok (.istore_n 3, 1) := by decide +kernel
theorem dX9_drops_20 : decode cX9_drops 20 = .ok (.iload_n 3, 1) := by decide +kernel
theorem dX9_drops_21 : decode cX9_drops 21 = .ok (.aload_n 0, 1) := by decide +kernel
theorem dX9_drops_22 : decode cX9_drops 22 = .ok (.getfield 7, 3) := by decide +kernel
theorem dX9_drops_25 : decode cX9_drops 25 = .ok (.bipush 61, 2) := by decide +kernel
theorem dX9_drops_27 : decode cX9_drops 27 = .ok (.iaload, 1) := by decide +kernel
theorem dX9_drops_28 : decode cX9_drops 28 = .ok (.if_icmp .ge 39, 3) := by decide +kernel
theorem dX9_drops_31 : decode cX9_drops 31 = .ok (.aload_n 0, 1) := by decide +kernel
theorem dX9_drops_32 : decode cX9_drops 32 = .ok (.getfield 7, 3) := by decide +kernel
theorem dX9_drops_35 : decode cX9_drops 35 = .ok (.bipush 62, 2) := by decide +kernel
theorem dX9_drops_37 : decode cX9_drops 37 = .ok (.bipush 6, 2) := by decide +kernel
theorem dX9_drops_39 : decode cX9_drops 39 = .ok (.iload_n 2, 1) := by decide +kernel
theorem dX9_drops_40 : decode cX9_drops 40 = .ok (.imul, 1) := by decide +kernel
theorem dX9_drops_41 : decode cX9_drops 41 = .ok (.iadd, 1) := by decide +kernel
theorem dX9_drops_42 : decode cX9_drops 42 = .ok (.iload_n 3, 1) := by decide +kernel
theorem dX9_drops_43 : decode cX9_drops 43 = .ok (.iadd, 1) := by decide +kernel
theorem dX9_drops_44 : decode cX9_drops 44 = .ok (.aload_n 0, 1) := by decide +kernel
theorem dX9_drops_45 : decode cX9_drops 45 = .ok (.getfield 7, 3) := by decide +kernel
theorem dX9_drops_48 : decode cX9_drops 48 = .ok (.bipush 62, 2) := by decide +kernel
theorem dX9_drops_50 : decode cX9_drops 50 = .ok (.bipush 6, 2) := by decide +kernel
theorem dX9_drops_52 : decode cX9_drops 52 = .ok (.iload_n 2, 1) := by decide +kernel
theorem dX9_drops_53 : decode cX9_drops 53 = .ok (.imul, 1) := by decide +kernel
theorem dX9_drops_54 : decode cX9_drops 54 = .ok (.iadd, 1) := by decide +kernel
theorem dX9_drops_55 : decode cX9_drops 55 = .ok (.iload_n 3, 1) := by decide +kernel
theorem dX9_drops_56 : decode cX9_drops 56 = .ok (.iadd, 1) := by decide +kernel
theorem dX9_drops_57 : decode cX9_drops 57 = .ok (.iconst 1, 1) := by decide +kernel
theorem dX9_drops_58 : decode cX9_drops 58 = .ok (.iadd, 1) := by decide +kernel
theorem dX9_drops_59 : decode cX9_drops 59 = .ok (.iaload, 1) := by decide +kernel
theorem dX9_drops_60 : decode cX9_drops 60 = .ok (.iastore, 1) := by decide +kernel
theorem dX9_drops_61 : decode cX9_drops 61 = .ok (.iinc 3 1, 3) := by decide +kernel
theorem dX9_drops_64 : decode cX9_drops 64 = .ok (.goto (-44), 3) := by decide +kernel
theorem dX9_drops_67 : decode cX9_drops 67 = .ok (.iinc 2 1, 3) := by decide +kernel
theorem dX9_drops_70 : decode cX9_drops 70 = .ok (.goto (-57), 3) := by decide +kernel
theorem dX9_drops_73 : decode cX9_drops 73 = .ok (.return_, 1) := by decide +kernel
theorem dX9_cancel_0 : decode cX9_cancel 0 = .ok (.aload_n 0, 1) := by decide +kernel
theorem dX9_cancel_1 : decode cX9_cancel 1 = .ok (.iload_n 1, 1) := by decide +kernel
theorem dX9_cancel_2 : decode cX9_cancel 2 = .ok (.invokevirtual 146, 3) := by decide +kernel
theorem dX9_cancel_5 : decode cX9_cancel 5 = .ok (.istore_n 2, 1) := by decide +kernel
theorem dX9_cancel_6 : decode cX9_cancel 6 = .ok (.iload_n 2, 1) := by decide +kernel
theorem dX9_cancel_7 : decode cX9_cancel 7 = .ok (.iconst (-1), 1) := by decide +kernel
theorem dX9_cancel_8 : decode cX9_cancel 8 = .ok (.if_icmp .ne 9, 3) := by decide +kernel
theorem dX9_cancel_11 : decode cX9_cancel 11 = .ok (.aload_n 0, 1) := by decide +kernel
theorem dX9_cancel_12 : decode cX9_cancel 12 = .ok (.iconst 1, 1) := by decide +kernel
theorem dX9_cancel_13 : decode cX9_cancel 13 = .ok (.invokevirtual 57, 3) := by decide +kernel
theorem dX9_cancel_16 : decode cX9_cancel 16 = .ok (.ireturn, 1) := by decide +kernel
theorem dX9_cancel_17 : decode cX9_cancel 17 = .ok (.aload_n 0, 1) := by decide +kernel
theorem dX9_cancel_18 : decode cX9_cancel 18 = .ok (.invokevirtual 61, 3) := by decide +kernel
theorem dX9_cancel_21 : decode cX9_cancel 21 = .ok (.aload_n 0, 1) := by decide +kernel
theorem dX9_cancel_22 : decode cX9_cancel 22 = .ok (.iload_n 2, 1) := by decide +kernel
theorem dX9_cancel_23 : decode cX9_cancel 23 = .ok (.invokevirtual 155, 3) := by decide +kernel
theorem dX9_cancel_26 : decode cX9_cancel 26 = .ok (.aload_n 0, 1) := by decide +kernel
theorem dX9_cancel_27 : decode cX9_cancel 27 = .ok (.aload_n 0, 1) := by decide +kernel
theorem dX9_cancel_28 : decode cX9_cancel 28 = .ok (.aload_n 0, 1) := by decide +kernel
theorem dX9_cancel_29 : decode cX9_cancel 29 = .ok (.getfield 7, 3) := by decide +kernel
theorem dX9_cancel_32 : decode cX9_cancel 32 = .ok (.bipush 61, 2) := by decide +kernel
theorem dX9_cancel_34 : decode cX9_cancel 34 = .ok (.iaload, 1) := by decide +kernel
theorem dX9_cancel_35 : decode cX9_cancel 35 = .ok (.invokevirtual 64, 3) := by decide +kernel
theorem dX9_cancel_38 : decode cX9_cancel 38 = .ok (.invokevirtual 67, 3) := by decide +kernel
theorem dX9_cancel_41 : decode cX9_cancel 41 = .ok (.ireturn, 1) := by decide +kernel
theorem dX9_banquetOf_0 : decode cX9_banquetOf 0 = .ok (.aload_n 0, 1) := by decide +kernel
theorem dX9_banquetOf_1 : decode cX9_banquetOf 1 = .ok (.iload_n 1, 1) := by decide +kernel
theorem dX9_banquetOf_2 : decode cX9_banquetOf 2 = .ok (.invokevirtual 146, 3) := by decide +kernel
theorem dX9_banquetOf_5 : decode cX9_banquetOf 5 = .ok (.istore_n 3, 1) := by decide +kernel
theorem dX9_banquetOf_6 : decode cX9_banquetOf 6 = .ok (.iload_n 3, 1) := by decide +kernel
theorem dX9_banquetOf_7 : decode cX9_banquetOf 7 = .ok (.iconst (-1), 1) := by decide +kernel
theorem dX9_banquetOf_8 : decode cX9_banquetOf 8 = .ok (.if_icmp .ne 9, 3) := by decide +kernel
theorem dX9_banquetOf_11 : decode cX9_banquetOf 11 = .ok (.aload_n 0, 1) := by decide +kernel
theorem dX9_banquetOf_12 : decode cX9_banquetOf 12 = .ok (.iconst 1, 1) := by decide +kernel
theorem dX9_banquetOf_13 : decode cX9_banquetOf 13 = .ok (.invokevirtual 57, 3) := by decide +kernel
theorem dX9_banquetOf_16 : decode cX9_banquetOf 16 = .ok (.ireturn, 1) := by decide +kernel
theorem dX9_banquetOf_17 : decode cX9_banquetOf 17 = .ok (.iload_n 2, 1) := by decide +kernel
theorem dX9_banquetOf_18 : decode cX9_banquetOf 18 = .ok (.tableswitch 63 0 4 #[34, 34, 34, 34, 53], 34) := by decide +kernel
theorem dX9_banquetOf_52 : decode cX9_banquetOf 52 = .ok (.aload_n 0, 1) := by decide +kernel
theorem dX9_banquetOf_53 : decode cX9_banquetOf 53 = .ok (.aload_n 0, 1) := by decide +kernel
theorem dX9_banquetOf_54 : decode cX9_banquetOf 54 = .ok (.getfield 7, 3) := by decide +kernel
theorem dX9_banquetOf_57 : decode cX9_banquetOf 57 = .ok (.bipush 68, 2) := by decide +kernel
theorem dX9_banquetOf_59 : decode cX9_banquetOf 59 = .ok (.bipush 6, 2) := by decide +kernel
theorem dX9_banquetOf_61 : decode cX9_banquetOf 61 = .ok (.iload_n 2, 1) := by decide +kernel
theorem dX9_banquetOf_62 : decode cX9_banquetOf 62 = .ok (.imul, 1) := by decide +kernel
theorem dX9_banquetOf_63 : decode cX9_banquetOf 63 = .ok (.iadd, 1) := by decide +kernel
theorem dX9_banquetOf_64 : decode cX9_banquetOf 64 = .ok (.iload_n 3, 1) := by decide +kernel
theorem dX9_banquetOf_65 : decode cX9_banquetOf 65 = .ok (.iadd, 1) := by decide +kernel
theorem dX9_banquetOf_66 : decode cX9_banquetOf 66 = .ok (.iaload, 1) := by decide +kernel
theorem dX9_banquetOf_67 : decode cX9_banquetOf 67 = .ok (.invokevirtual 64, 3) := by decide +kernel
theorem dX9_banquetOf_70 : decode cX9_banquetOf 70 = .ok (.ireturn, 1) := by decide +kernel
theorem dX9_banquetOf_71 : decode cX9_banquetOf 71 = .ok (.aload_n 0, 1) := by decide +kernel
theorem dX9_banquetOf_72 : decode cX9_banquetOf 72 = .ok (.aload_n 0, 1) := by decide +kernel
theorem dX9_banquetOf_73 : decode cX9_banquetOf 73 = .ok (.iload_n 3, 1) := by decide +kernel
theorem dX9_banquetOf_74 : decode cX9_banquetOf 74 = .ok (.invokevirtual 149, 3) := by decide +kernel
theorem dX9_banquetOf_77 : decode cX9_banquetOf 77 = .ok (.invokevirtual 64, 3) := by decide +kernel
theorem dX9_banquetOf_80 : decode cX9_banquetOf 80 = .ok (.ireturn, 1) := by decide +kernel
theorem dX9_banquetOf_81 : decode cX9_banquetOf 81 = .ok (.aload_n 0, 1) := by decide +kernel
theorem dX9_banquetOf_82 : decode cX9_banquetOf 82 = .ok (.iconst 2, 1) := by decide +kernel
theorem dX9_banquetOf_83 : decode cX9_banquetOf 83 = .ok (.invokevirtual 57, 3) := by decide +kernel
theorem dX9_banquetOf_86 : decode cX9_banquetOf 86 = .ok (.ireturn, 1) := by decide +kernel
theorem dX9_next_0 : decode cX9_next 0 = .ok (.iconst 0, 1) := by decide +kernel
theorem dX9_next_1 : decode cX9_next 1 = .ok (.istore_n 1, 1) := by decide +kernel
theorem dX9_next_2 : decode cX9_next 2 = .ok (.iconst 1, 1) := by decide +kernel
theorem dX9_next_3 : decode cX9_next 3 = .ok (.istore_n 2, 1) := by decide +kernel
theorem dX9_next_4 : decode cX9_next 4 = .ok (.iload_n 2, 1) := by decide +kernel
theorem dX9_next_5 : decode cX9_next 5 = .ok (.aload_n 0, 1) := by decide +kernel
theorem dX9_next_6 : decode cX9_next 6 = .ok (.getfield 7, 3) := by decide +kernel
theorem dX9_next_9 : decode cX9_next 9 = .ok (.bipush 61, 2) := by decide +kernel
theorem dX9_next_11 : decode cX9_next 11 = .ok (.iaload, 1) := by decide +kernel
theorem dX9_next_12 : decode cX9_next 12 = .ok (.if_icmp .ge 36, 3) := by decide +kernel
theorem dX9_next_15 : decode cX9_next 15 = .ok (.aload_n 0, 1) := by decide +kernel
theorem dX9_next_16 : decode cX9_next 16 = .ok (.getfield 7, 3) := by decide +kernel
theorem dX9_next_19 : decode cX9_next 19 = .ok (.bipush 68, 2) := by decide +kernel
theorem dX9_next_21 : decode cX9_next 21 = .ok (.iload_n 2, 1) := by decide +kernel
theorem dX9_next_22 : decode cX9_next 22 = .ok (.iadd, 1) := by decide +kernel
theorem dX9_next_23 : decode cX9_next 23 = .ok (.iaload, 1) := by decide +kernel
theorem dX9_next_24 : decode cX9_next 24 = .ok (.aload_n 0, 1) := by decide +kernel
theorem dX9_next_25 : decode cX9_next 25 = .ok (.getfield 7, 3) := by decide +kernel
theorem dX9_next_28 : decode cX9_next 28 = .ok (.bipush 68, 2) := by decide +kernel
theorem dX9_next_30 : decode cX9_next 30 = .ok (.iload_n 1, 1) := by decide +kernel
theorem dX9_next_31 : decode cX9_next 31 = .ok (.iadd, 1) := by decide +kernel
theorem dX9_next_32 : decode cX9_next 32 = .ok (.iaload, 1) := by decide +kernel
theorem dX9_next_33 : decode cX9_next 33 = .ok (.if_icmp .ge 7, 3) := by decide +kernel
theorem dX9_next_36 : decode cX9_next 36 = .ok (.iload_n 2, 1) := by decide +kernel
theorem dX9_next_37 : decode cX9_next 37 = .ok (.goto 4, 3) := by decide +kernel
theorem dX9_next_40 : decode cX9_next 40 = .ok (.iload_n 1, 1) := by decide +kernel
theorem dX9_next_41 : decode cX9_next 41 = .ok (.istore_n 1, 1) := by decide +kernel
theorem dX9_next_42 : decode cX9_next 42 = .ok (.iinc 2 1, 3) := by decide +kernel
theorem dX9_next_45 : decode cX9_next 45 = .ok (.goto (-41), 3) := by decide +kernel
theorem dX9_next_48 : decode cX9_next 48 = .ok (.aload_n 0, 1) := by decide +kernel
theorem dX9_next_49 : decode cX9_next 49 = .ok (.getfield 7, 3) := by decide +kernel
theorem dX9_next_52 : decode cX9_next 52 = .ok (.bipush 61, 2) := by decide +kernel
theorem dX9_next_54 : decode cX9_next 54 = .ok (.iaload, 1) := by decide +kernel
theorem dX9_next_55 : decode cX9_next 55 = .ok (.ifCond .ne 11, 3) := by decide +kernel
theorem dX9_next_58 : decode cX9_next 58 = .ok (.aload_n 0, 1) := by decide +kernel
theorem dX9_next_59 : decode cX9_next 59 = .ok (.iconst 1, 1) := by decide +kernel
theorem dX9_next_60 : decode cX9_next 60 = .ok (.invokevirtual 57, 3) := by decide +kernel
theorem dX9_next_63 : decode cX9_next 63 = .ok (.goto 16, 3) := by decide +kernel
theorem dX9_next_66 : decode cX9_next 66 = .ok (.aload_n 0, 1) := by decide +kernel
theorem dX9_next_67 : decode cX9_next 67 = .ok (.aload_n 0, 1) := by decide +kernel
theorem dX9_next_68 : decode cX9_next 68 = .ok (.getfield 7, 3) := by decide +kernel
theorem dX9_next_71 : decode cX9_next 71 = .ok (.bipush 62, 2) := by decide +kernel
theorem dX9_next_73 : decode cX9_next 73 = .ok (.iload_n 1, 1) := by decide +kernel
theorem dX9_next_74 : decode cX9_next 74 = .ok (.iadd, 1) := by decide +kernel
theorem dX9_next_75 : decode cX9_next 75 = .ok (.iaload, 1) := by decide +kernel
theorem dX9_next_76 : decode cX9_next 76 = .ok (.invokevirtual 64, 3) := by decide +kernel
theorem dX9_next_79 : decode cX9_next 79 = .ok (.ireturn, 1) := by decide +kernel
theorem dX9_breaks_0 : decode cX9_breaks 0 = .ok (.aload_n 0, 1) := by decide +kernel
theorem dX9_breaks_1 : decode cX9_breaks 1 = .ok (.iload_n 1, 1) := by decide +kernel
theorem dX9_breaks_2 : decode cX9_breaks 2 = .ok (.aload_n 0, 1) := by decide +kernel
theorem dX9_breaks_3 : decode cX9_breaks 3 = .ok (.getfield 7, 3) := by decide +kernel
theorem dX9_breaks_6 : decode cX9_breaks 6 = .ok (.bipush 30, 2) := by decide +kernel
theorem dX9_breaks_8 : decode cX9_breaks 8 = .ok (.iload_n 1, 1) := by decide +kernel
theorem dX9_breaks_9 : decode cX9_breaks 9 = .ok (.iadd, 1) := by decide +kernel
theorem dX9_breaks_10 : decode cX9_breaks 10 = .ok (.iaload, 1) := by decide +kernel
theorem dX9_breaks_11 : decode cX9_breaks 11 = .ok (.iconst 0, 1) := by decide +kernel
theorem dX9_breaks_12 : decode cX9_breaks 12 = .ok (.invokevirtual 109, 3) := by decide +kernel
theorem dX9_breaks_15 : decode cX9_breaks 15 = .ok (.istore_n 2, 1) := by decide +kernel
theorem dX9_breaks_16 : decode cX9_breaks 16 = .ok (.iload_n 2, 1) := by decide +kernel
theorem dX9_breaks_17 : decode cX9_breaks 17 = .ok (.iconst (-1), 1) := by decide +kernel
theorem dX9_breaks_18 : decode cX9_breaks 18 = .ok (.if_icmp .ne 5, 3) := by decide +kernel
theorem dX9_breaks_21 : decode cX9_breaks 21 = .ok (.iconst 0, 1) := by decide +kernel
theorem dX9_breaks_22 : decode cX9_breaks 22 = .ok (.ireturn, 1) := by decide +kernel
theorem dX9_breaks_23 : decode cX9_breaks 23 = .ok (.aload_n 0, 1) := by decide +kernel
theorem dX9_breaks_24 : decode cX9_breaks 24 = .ok (.getfield 7, 3) := by decide +kernel
theorem dX9_breaks_27 : decode cX9_breaks 27 = .ok (.bipush 36, 2) := by decide +kernel
theorem dX9_breaks_29 : decode cX9_breaks 29 = .ok (.iload_n 1, 1) := by decide +kernel
theorem dX9_breaks_30 : decode cX9_breaks 30 = .ok (.iadd, 1) := by decide +kernel
theorem dX9_breaks_31 : decode cX9_breaks 31 = .ok (.iaload, 1) := by decide +kernel
theorem dX9_breaks_32 : decode cX9_breaks 32 = .ok (.iload_n 2, 1) := by decide +kernel
theorem dX9_breaks_33 : decode cX9_breaks 33 = .ok (.isub, 1) := by decide +kernel
theorem dX9_breaks_34 : decode cX9_breaks 34 = .ok (.istore_n 3, 1) := by decide +kernel
theorem dX9_breaks_35 : decode cX9_breaks 35 = .ok (.aload_n 0, 1) := by decide +kernel
theorem dX9_breaks_36 : decode cX9_breaks 36 = .ok (.getfield 7, 3) := by decide +kernel
theorem dX9_breaks_39 : decode cX9_breaks 39 = .ok (.bipush 96, 2) := by decide +kernel
theorem dX9_breaks_41 : decode cX9_breaks 41 = .ok (.dup2, 1) := by decide +kernel
theorem dX9_breaks_42 : decode cX9_breaks 42 = .ok (.iaload, 1) := by decide +kernel
theorem dX9_breaks_43 : decode cX9_breaks 43 = .ok (.aload_n 0, 1) := by decide +kernel
theorem dX9_breaks_44 : decode cX9_breaks 44 = .ok (.iload_n 1, 1) := by decide +kernel
theorem dX9_breaks_45 : decode cX9_breaks 45 = .ok (.iload_n 2, 1) := by decide +kernel
theorem dX9_breaks_46 : decode cX9_breaks 46 = .ok (.invokevirtual 94, 3) := by decide +kernel
theorem dX9_breaks_49 : decode cX9_breaks 49 = .ok (.aload_n 0, 1) := by decide +kernel
theorem dX9_breaks_50 : decode cX9_breaks 50 = .ok (.iload_n 1, 1) := by decide +kernel
theorem dX9_breaks_51 : decode cX9_breaks 51 = .ok (.iload_n 2, 1) := by decide +kernel
theorem dX9_breaks_52 : decode cX9_breaks 52 = .ok (.invokevirtual 100, 3) := by decide +kernel
theorem dX9_breaks_55 : decode cX9_breaks 55 = .ok (.iadd, 1) := by decide +kernel
theorem dX9_breaks_56 : decode cX9_breaks 56 = .ok (.iadd, 1) := by decide +kernel
theorem dX9_breaks_57 : decode cX9_breaks 57 = .ok (.iastore, 1) := by decide +kernel
theorem dX9_breaks_58 : decode cX9_breaks 58 = .ok (.aload_n 0, 1) := by decide +kernel
theorem dX9_breaks_59 : decode cX9_breaks 59 = .ok (.getfield 7, 3) := by decide +kernel
theorem dX9_breaks_62 : decode cX9_breaks 62 = .ok (.bipush 36, 2) := by decide +kernel
theorem dX9_breaks_64 : decode cX9_breaks 64 = .ok (.iload_n 1, 1) := by decide +kernel
theorem dX9_breaks_65 : decode cX9_breaks 65 = .ok (.iadd, 1) := by decide +kernel
theorem dX9_breaks_66 : decode cX9_breaks 66 = .ok (.iload_n 2, 1) := by decide +kernel
theorem dX9_breaks_67 : decode cX9_breaks 67 = .ok (.iastore, 1) := by decide +kernel
theorem dX9_breaks_68 : decode cX9_breaks 68 = .ok (.aload_n 0, 1) := by decide +kernel
theorem dX9_breaks_69 : decode cX9_breaks 69 = .ok (.getfield 7, 3) := by decide +kernel
theorem dX9_breaks_72 : decode cX9_breaks 72 = .ok (.bipush 42, 2) := by decide +kernel
theorem dX9_breaks_74 : decode cX9_breaks 74 = .ok (.iload_n 1, 1) := by decide +kernel
theorem dX9_breaks_75 : decode cX9_breaks 75 = .ok (.iadd, 1) := by decide +kernel
theorem dX9_breaks_76 : decode cX9_breaks 76 = .ok (.dup2, 1) := by decide +kernel
theorem dX9_breaks_77 : decode cX9_breaks 77 = .ok (.iaload, 1) := by decide +kernel
theorem dX9_breaks_78 : decode cX9_breaks 78 = .ok (.iload_n 3, 1) := by decide +kernel
theorem dX9_breaks_79 : decode cX9_breaks 79 = .ok (.iadd, 1) := by decide +kernel
theorem dX9_breaks_80 : decode cX9_breaks 80 = .ok (.iastore, 1) := by decide +kernel
theorem dX9_breaks_81 : decode cX9_breaks 81 = .ok (.iload_n 3, 1) := by decide +kernel
theorem dX9_breaks_82 : decode cX9_breaks 82 = .ok (.ireturn, 1) := by decide +kernel
theorem dX9_holds_0 : decode cX9_holds 0 = .ok (.aload_n 0, 1) := by decide +kernel
theorem dX9_holds_1 : decode cX9_holds 1 = .ok (.getfield 7, 3) := by decide +kernel
theorem dX9_holds_4 : decode cX9_holds 4 = .ok (.bipush 86, 2) := by decide +kernel
theorem dX9_holds_6 : decode cX9_holds 6 = .ok (.iload_n 1, 1) := by decide +kernel
theorem dX9_holds_7 : decode cX9_holds 7 = .ok (.iadd, 1) := by decide +kernel
theorem dX9_holds_8 : decode cX9_holds 8 = .ok (.iaload, 1) := by decide +kernel
theorem dX9_holds_9 : decode cX9_holds 9 = .ok (.istore_n 2, 1) := by decide +kernel
theorem dX9_holds_10 : decode cX9_holds 10 = .ok (.iload_n 2, 1) := by decide +kernel
theorem dX9_holds_11 : decode cX9_holds 11 = .ok (.iconst (-1), 1) := by decide +kernel
theorem dX9_holds_12 : decode cX9_holds 12 = .ok (.if_icmp .eq 97, 3) := by decide +kernel
theorem dX9_holds_15 : decode cX9_holds 15 = .ok (.aload_n 0, 1) := by decide +kernel
theorem dX9_holds_16 : decode cX9_holds 16 = .ok (.iload_n 1, 1) := by decide +kernel
theorem dX9_holds_17 : decode cX9_holds 17 = .ok (.invokevirtual 149, 3) := by decide +kernel
theorem dX9_holds_20 : decode cX9_holds 20 = .ok (.ifCond .ne 89, 3) := by decide +kernel
theorem dX9_holds_23 : decode cX9_holds 23 = .ok (.aload_n 0, 1) := by decide +kernel
theorem dX9_holds_24 : decode cX9_holds 24 = .ok (.getfield 7, 3) := by decide +kernel
theorem dX9_holds_27 : decode cX9_holds 27 = .ok (.iconst 1, 1) := by decide +kernel
theorem dX9_holds_28 : decode cX9_holds 28 = .ok (.dup2, 1) := by decide +kernel
theorem dX9_holds_29 : decode cX9_holds 29 = .ok (.iaload, 1) := by decide +kernel
theorem dX9_holds_30 : decode cX9_holds 30 = .ok (.aload_n 0, 1) := by decide +kernel
theorem dX9_holds_31 : decode cX9_holds 31 = .ok (.getfield 7, 3) := by decide +kernel
theorem dX9_holds_34 : decode cX9_holds 34 = .ok (.bipush 80, 2) := by decide +kernel
theorem dX9_holds_36 : decode cX9_holds 36 = .ok (.iload_n 1, 1) := by decide +kernel
theorem dX9_holds_37 : decode cX9_holds 37 = .ok (.iadd, 1) := by decide +kernel
theorem dX9_holds_38 : decode cX9_holds 38 = .ok (.iaload, 1) := by decide +kernel
theorem dX9_holds_39 : decode cX9_holds 39 = .ok (.iadd, 1) := by decide +kernel
theorem dX9_holds_40 : decode cX9_holds 40 = .ok (.iastore, 1) := by decide +kernel
theorem dX9_holds_41 : decode cX9_holds 41 = .ok (.aload_n 0, 1) := by decide +kernel
theorem dX9_holds_42 : decode cX9_holds 42 = .ok (.getfield 7, 3) := by decide +kernel
theorem dX9_holds_45 : decode cX9_holds 45 = .ok (.bipush 98, 2) := by decide +kernel
theorem dX9_holds_47 : decode cX9_holds 47 = .ok (.dup2, 1) := by decide +kernel
theorem dX9_holds_48 : decode cX9_holds 48 = .ok (.iaload, 1) := by decide +kernel
theorem dX9_holds_49 : decode cX9_holds 49 = .ok (.aload_n 0, 1) := by decide +kernel
theorem dX9_holds_50 : decode cX9_holds 50 = .ok (.getfield 7, 3) := by decide +kernel
theorem dX9_holds_53 : decode cX9_holds 53 = .ok (.bipush 80, 2) := by decide +kernel
theorem dX9_holds_55 : decode cX9_holds 55 = .ok (.iload_n 1, 1) := by decide +kernel
theorem dX9_holds_56 : decode cX9_holds 56 = .ok (.iadd, 1) := by decide +kernel
theorem dX9_holds_57 : decode cX9_holds 57 = .ok (.iaload, 1) := by decide +kernel
theorem dX9_holds_58 : decode cX9_holds 58 = .ok (.iadd, 1) := by decide +kernel
theorem dX9_holds_59 : decode cX9_holds 59 = .ok (.iastore, 1) := by decide +kernel
theorem dX9_holds_60 : decode cX9_holds 60 = .ok (.aload_n 0, 1) := by decide +kernel
theorem dX9_holds_61 : decode cX9_holds 61 = .ok (.getfield 7, 3) := by decide +kernel
theorem dX9_holds_64 : decode cX9_holds 64 = .ok (.bipush 97, 2) := by decide +kernel
theorem dX9_holds_66 : decode cX9_holds 66 = .ok (.dup2, 1) := by decide +kernel
theorem dX9_holds_67 : decode cX9_holds 67 = .ok (.iaload, 1) := by decide +kernel
theorem dX9_holds_68 : decode cX9_holds 68 = .ok (.aload_n 0, 1) := by decide +kernel
theorem dX9_holds_69 : decode cX9_holds 69 = .ok (.iload_n 2, 1) := by decide +kernel
theorem dX9_holds_70 : decode cX9_holds 70 = .ok (.invokevirtual 134, 3) := by decide +kernel
theorem dX9_holds_73 : decode cX9_holds 73 = .ok (.iadd, 1) := by decide +kernel
theorem dX9_holds_74 : decode cX9_holds 74 = .ok (.iastore, 1) := by decide +kernel
theorem dX9_holds_75 : decode cX9_holds 75 = .ok (.aload_n 0, 1) := by decide +kernel
theorem dX9_holds_76 : decode cX9_holds 76 = .ok (.getfield 7, 3) := by decide +kernel
theorem dX9_holds_79 : decode cX9_holds 79 = .ok (.bipush 36, 2) := by decide +kernel
theorem dX9_holds_81 : decode cX9_holds 81 = .ok (.iload_n 2, 1) := by decide +kernel
theorem dX9_holds_82 : decode cX9_holds 82 = .ok (.iadd, 1) := by decide +kernel
theorem dX9_holds_83 : decode cX9_holds 83 = .ok (.iconst 0, 1) := by decide +kernel
theorem dX9_holds_84 : decode cX9_holds 84 = .ok (.iastore, 1) := by decide +kernel
theorem dX9_holds_85 : decode cX9_holds 85 = .ok (.aload_n 0, 1) := by decide +kernel
theorem dX9_holds_86 : decode cX9_holds 86 = .ok (.getfield 7, 3) := by decide +kernel
theorem dX9_holds_89 : decode cX9_holds 89 = .ok (.bipush 30, 2) := by decide +kernel
theorem dX9_holds_91 : decode cX9_holds 91 = .ok (.iload_n 2, 1) := by decide +kernel
theorem dX9_holds_92 : decode cX9_holds 92 = .ok (.iadd, 1) := by decide +kernel
theorem dX9_holds_93 : decode cX9_holds 93 = .ok (.iconst 0, 1) := by decide +kernel
theorem dX9_holds_94 : decode cX9_holds 94 = .ok (.iastore, 1) := by decide +kernel
theorem dX9_holds_95 : decode cX9_holds 95 = .ok (.aload_n 0, 1) := by decide +kernel
theorem dX9_holds_96 : decode cX9_holds 96 = .ok (.getfield 7, 3) := by decide +kernel
theorem dX9_holds_99 : decode cX9_holds 99 = .ok (.bipush 93, 2) := by decide +kernel
theorem dX9_holds_101 : decode cX9_holds 101 = .ok (.dup2, 1) := by decide +kernel
theorem dX9_holds_102 : decode cX9_holds 102 = .ok (.iaload, 1) := by decide +kernel
theorem dX9_holds_103 : decode cX9_holds 103 = .ok (.iconst 1, 1) := by decide +kernel
theorem dX9_holds_104 : decode cX9_holds 104 = .ok (.iadd, 1) := by decide +kernel
theorem dX9_holds_105 : decode cX9_holds 105 = .ok (.iastore, 1) := by decide +kernel
theorem dX9_holds_106 : decode cX9_holds 106 = .ok (.goto 14, 3) := by decide +kernel
theorem dX9_holds_109 : decode cX9_holds 109 = .ok (.aload_n 0, 1) := by decide +kernel
theorem dX9_holds_110 : decode cX9_holds 110 = .ok (.getfield 7, 3) := by decide +kernel
theorem dX9_holds_113 : decode cX9_holds 113 = .ok (.bipush 94, 2) := by decide +kernel
theorem dX9_holds_115 : decode cX9_holds 115 = .ok (.dup2, 1) := by decide +kernel
theorem dX9_holds_116 : decode cX9_holds 116 = .ok (.iaload, 1) := by decide +kernel
theorem dX9_holds_117 : decode cX9_holds 117 = .ok (.iconst 1, 1) := by decide +kernel
theorem dX9_holds_118 : decode cX9_holds 118 = .ok (.iadd, 1) := by decide +kernel
theorem dX9_holds_119 : decode cX9_holds 119 = .ok (.iastore, 1) := by decide +kernel
theorem dX9_holds_120 : decode cX9_holds 120 = .ok (.aload_n 0, 1) := by decide +kernel
theorem dX9_holds_121 : decode cX9_holds 121 = .ok (.iload_n 1, 1) := by decide +kernel
theorem dX9_holds_122 : decode cX9_holds 122 = .ok (.invokevirtual 155, 3) := by decide +kernel
theorem dX9_holds_125 : decode cX9_holds 125 = .ok (.return_, 1) := by decide +kernel
theorem dX9_goesHour_0 : decode cX9_goesHour 0 = .ok (.iconst 0, 1) := by decide +kernel
theorem dX9_goesHour_1 : decode cX9_goesHour 1 = .ok (.istore_n 1, 1) := by decide +kernel
theorem dX9_goesHour_2 : decode cX9_goesHour 2 = .ok (.iconst 0, 1) := by decide +kernel
theorem dX9_goesHour_3 : decode cX9_goesHour 3 = .ok (.istore_n 2, 1) := by decide +kernel
theorem dX9_goesHour_4 : decode cX9_goesHour 4 = .ok (.iload_n 2, 1) := by decide +kernel
theorem dX9_goesHour_5 : decode cX9_goesHour 5 = .ok (.aload_n 0, 1) := by decide +kernel
theorem dX9_goesHour_6 : decode cX9_goesHour 6 = .ok (.getfield 7, 3) := by decide +kernel
theorem dX9_goesHour_9 : decode cX9_goesHour 9 = .ok (.bipush 29, 2) := by decide +kernel
theorem dX9_goesHour_11 : decode cX9_goesHour 11 = .ok (.iaload, 1) := by decide +kernel
theorem dX9_goesHour_12 : decode cX9_goesHour 12 = .ok (.if_icmp .ge 40, 3) := by decide +kernel
theorem dX9_goesHour_15 : decode cX9_goesHour 15 = .ok (.aload_n 0, 1) := by decide +kernel
theorem dX9_goesHour_16 : decode cX9_goesHour 16 = .ok (.getfield 7, 3) := by decide +kernel
theorem dX9_goesHour_19 : decode cX9_goesHour 19 = .ok (.bipush 30, 2) := by decide +kernel
theorem dX9_goesHour_21 : decode cX9_goesHour 21 = .ok (.iload_n 2, 1) := by decide +kernel
theorem dX9_goesHour_22 : decode cX9_goesHour 22 = .ok (.iadd, 1) := by decide +kernel
theorem dX9_goesHour_23 : decode cX9_goesHour 23 = .ok (.aload_n 0, 1) := by decide +kernel
theorem dX9_goesHour_24 : decode cX9_goesHour 24 = .ok (.getfield 7, 3) := by decide +kernel
theorem dX9_goesHour_27 : decode cX9_goesHour 27 = .ok (.bipush 30, 2) := by decide +kernel
theorem dX9_goesHour_29 : decode cX9_goesHour 29 = .ok (.iload_n 2, 1) := by decide +kernel
theorem dX9_goesHour_30 : decode cX9_goesHour 30 = .ok (.iadd, 1) := by decide +kernel
theorem dX9_goesHour_31 : decode cX9_goesHour 31 = .ok (.iaload, 1) := by decide +kernel
theorem dX9_goesHour_32 : decode cX9_goesHour 32 = .ok (.aload_n 0, 1) := by decide +kernel
theorem dX9_goesHour_33 : decode cX9_goesHour 33 = .ok (.aload_n 0, 1) := by decide +kernel
theorem dX9_goesHour_34 : decode cX9_goesHour 34 = .ok (.getfield 7, 3) := by decide +kernel
theorem dX9_goesHour_37 : decode cX9_goesHour 37 = .ok (.iconst 0, 1) := by decide +kernel
theorem dX9_goesHour_38 : decode cX9_goesHour 38 = .ok (.iaload, 1) := by decide +kernel
theorem dX9_goesHour_39 : decode cX9_goesHour 39 = .ok (.invokevirtual 70, 3) := by decide +kernel
theorem dX9_goesHour_42 : decode cX9_goesHour 42 = .ok (.invokestatic 143, 3) := by decide +kernel
theorem dX9_goesHour_45 : decode cX9_goesHour 45 = .ok (.iastore, 1) := by decide +kernel
theorem dX9_goesHour_46 : decode cX9_goesHour 46 = .ok (.iinc 2 1, 3) := by decide +kernel
theorem dX9_goesHour_49 : decode cX9_goesHour 49 = .ok (.goto (-45), 3) := by decide +kernel
theorem dX9_goesHour_52 : decode cX9_goesHour 52 = .ok (.iconst 0, 1) := by decide +kernel
theorem dX9_goesHour_53 : decode cX9_goesHour 53 = .ok (.istore_n 2, 1) := by decide +kernel
theorem dX9_goesHour_54 : decode cX9_goesHour 54 = .ok (.iload_n 2, 1) := by decide +kernel
theorem dX9_goesHour_55 : decode cX9_goesHour 55 = .ok (.aload_n 0, 1) := by decide +kernel
theorem dX9_goesHour_56 : decode cX9_goesHour 56 = .ok (.getfield 7, 3) := by decide +kernel
theorem dX9_goesHour_59 : decode cX9_goesHour 59 = .ok (.bipush 29, 2) := by decide +kernel
theorem dX9_goesHour_61 : decode cX9_goesHour 61 = .ok (.iaload, 1) := by decide +kernel
theorem dX9_goesHour_62 : decode cX9_goesHour 62 = .ok (.if_icmp .ge 17, 3) := by decide +kernel
theorem dX9_goesHour_65 : decode cX9_goesHour 65 = .ok (.iload_n 1, 1) := by decide +kernel
theorem dX9_goesHour_66 : decode cX9_goesHour 66 = .ok (.aload_n 0, 1) := by decide +kernel
theorem dX9_goesHour_67 : decode cX9_goesHour 67 = .ok (.iload_n 2, 1) := by decide +kernel
theorem dX9_goesHour_68 : decode cX9_goesHour 68 = .ok (.invokevirtual 159, 3) := by decide +kernel
theorem dX9_goesHour_71 : decode cX9_goesHour 71 = .ok (.iadd, 1) := by decide +kernel
theorem dX9_goesHour_72 : decode cX9_goesHour 72 = .ok (.istore_n 1, 1) := by decide +kernel
theorem dX9_goesHour_73 : decode cX9_goesHour 73 = .ok (.iinc 2 1, 3) := by decide +kernel
theorem dX9_goesHour_76 : decode cX9_goesHour 76 = .ok (.goto (-22), 3) := by decide +kernel
theorem dX9_goesHour_79 : decode cX9_goesHour 79 = .ok (.iconst 0, 1) := by decide +kernel
theorem dX9_goesHour_80 : decode cX9_goesHour 80 = .ok (.istore_n 2, 1) := by decide +kernel
theorem dX9_goesHour_81 : decode cX9_goesHour 81 = .ok (.iload_n 2, 1) := by decide +kernel
theorem dX9_goesHour_82 : decode cX9_goesHour 82 = .ok (.aload_n 0, 1) := by decide +kernel
theorem dX9_goesHour_83 : decode cX9_goesHour 83 = .ok (.getfield 7, 3) := by decide +kernel
theorem dX9_goesHour_86 : decode cX9_goesHour 86 = .ok (.bipush 48, 2) := by decide +kernel
theorem dX9_goesHour_88 : decode cX9_goesHour 88 = .ok (.iaload, 1) := by decide +kernel
theorem dX9_goesHour_89 : decode cX9_goesHour 89 = .ok (.if_icmp .ge 38, 3) := by decide +kernel
theorem dX9_goesHour_92 : decode cX9_goesHour 92 = .ok (.aload_n 0, 1) := by decide +kernel
theorem dX9_goesHour_93 : decode cX9_goesHour 93 = .ok (.getfield 7, 3) := by decide +kernel
theorem dX9_goesHour_96 : decode cX9_goesHour 96 = .ok (.bipush 53, 2) := by decide +kernel
theorem dX9_goesHour_98 : decode cX9_goesHour 98 = .ok (.iload_n 2, 1) := by decide +kernel
theorem dX9_goesHour_99 : decode cX9_goesHour 99 = .ok (.iadd, 1) := by decide +kernel
theorem dX9_goesHour_100 : decode cX9_goesHour 100 = .ok (.dup2, 1) := by decide +kernel
theorem dX9_goesHour_101 : decode cX9_goesHour 101 = .ok (.iaload, 1) := by decide +kernel
theorem dX9_goesHour_102 : decode cX9_goesHour 102 = .ok (.aload_n 0, 1) := by decide +kernel
theorem dX9_goesHour_103 : decode cX9_goesHour 103 = .ok (.getfield 7, 3) := by decide +kernel
theorem dX9_goesHour_106 : decode cX9_goesHour 106 = .ok (.bipush 53, 2) := by decide +kernel
theorem dX9_goesHour_108 : decode cX9_goesHour 108 = .ok (.iload_n 2, 1) := by decide +kernel
theorem dX9_goesHour_109 : decode cX9_goesHour 109 = .ok (.iadd, 1) := by decide +kernel
theorem dX9_goesHour_110 : decode cX9_goesHour 110 = .ok (.iaload, 1) := by decide +kernel
theorem dX9_goesHour_111 : decode cX9_goesHour 111 = .ok (.ifCond .le 7, 3) := by decide +kernel
theorem dX9_goesHour_114 : decode cX9_goesHour 114 = .ok (.iconst 1, 1) := by decide +kernel
theorem dX9_goesHour_115 : decode cX9_goesHour 115 = .ok (.goto 4, 3) := by decide +kernel
theorem dX9_goesHour_118 : decode cX9_goesHour 118 = .ok (.iconst 0, 1) := by decide +kernel
theorem dX9_goesHour_119 : decode cX9_goesHour 119 = .ok (.isub, 1) := by decide +kernel
theorem dX9_goesHour_120 : decode cX9_goesHour 120 = .ok (.iastore, 1) := by decide +kernel
theorem dX9_goesHour_121 : decode cX9_goesHour 121 = .ok (.iinc 2 1, 3) := by decide +kernel
theorem dX9_goesHour_124 : decode cX9_goesHour 124 = .ok (.goto (-43), 3) := by decide +kernel
theorem dX9_goesHour_127 : decode cX9_goesHour 127 = .ok (.aload_n 0, 1) := by decide +kernel
theorem dX9_goesHour_128 : decode cX9_goesHour 128 = .ok (.getfield 7, 3) := by decide +kernel
theorem dX9_goesHour_131 : decode cX9_goesHour 131 = .ok (.iconst 0, 1) := by decide +kernel
theorem dX9_goesHour_132 : decode cX9_goesHour 132 = .ok (.dup2, 1) := by decide +kernel
theorem dX9_goesHour_133 : decode cX9_goesHour 133 = .ok (.iaload, 1) := by decide +kernel
theorem dX9_goesHour_134 : decode cX9_goesHour 134 = .ok (.iconst 1, 1) := by decide +kernel
theorem dX9_goesHour_135 : decode cX9_goesHour 135 = .ok (.iadd, 1) := by decide +kernel
theorem dX9_goesHour_136 : decode cX9_goesHour 136 = .ok (.iastore, 1) := by decide +kernel
theorem dX9_goesHour_137 : decode cX9_goesHour 137 = .ok (.iconst 0, 1) := by decide +kernel
theorem dX9_goesHour_138 : decode cX9_goesHour 138 = .ok (.istore_n 2, 1) := by decide +kernel
theorem dX9_goesHour_139 : decode cX9_goesHour 139 = .ok (.iload_n 2, 1) := by decide +kernel
theorem dX9_goesHour_140 : decode cX9_goesHour 140 = .ok (.aload_n 0, 1) := by decide +kernel
theorem dX9_goesHour_141 : decode cX9_goesHour 141 = .ok (.getfield 7, 3) := by decide +kernel
theorem dX9_goesHour_144 : decode cX9_goesHour 144 = .ok (.bipush 61, 2) := by decide +kernel
theorem dX9_goesHour_146 : decode cX9_goesHour 146 = .ok (.iaload, 1) := by decide +kernel
theorem dX9_goesHour_147 : decode cX9_goesHour 147 = .ok (.if_icmp .ge 35, 3) := by decide +kernel
theorem dX9_goesHour_150 : decode cX9_goesHour 150 = .ok (.aload_n 0, 1) := by decide +kernel
theorem dX9_goesHour_151 : decode cX9_goesHour 151 = .ok (.getfield 7, 3) := by decide +kernel
theorem dX9_goesHour_154 : decode cX9_goesHour 154 = .ok (.bipush 68, 2) := by decide +kernel
theorem dX9_goesHour_156 : decode cX9_goesHour 156 = .ok (.iload_n 2, 1) := by decide +kernel
theorem dX9_goesHour_157 : decode cX9_goesHour 157 = .ok (.iadd, 1) := by decide +kernel
theorem dX9_goesHour_158 : decode cX9_goesHour 158 = .ok (.iaload, 1) := by decide +kernel
theorem dX9_goesHour_159 : decode cX9_goesHour 159 = .ok (.aload_n 0, 1) := by decide +kernel
theorem dX9_goesHour_160 : decode cX9_goesHour 160 = .ok (.getfield 7, 3) := by decide +kernel
theorem dX9_goesHour_163 : decode cX9_goesHour 163 = .ok (.iconst 0, 1) := by decide +kernel
theorem dX9_goesHour_164 : decode cX9_goesHour 164 = .ok (.iaload, 1) := by decide +kernel
theorem dX9_goesHour_165 : decode cX9_goesHour 165 = .ok (.if_icmp .ne 11, 3) := by decide +kernel
theorem dX9_goesHour_168 : decode cX9_goesHour 168 = .ok (.aload_n 0, 1) := by decide +kernel
theorem dX9_goesHour_169 : decode cX9_goesHour 169 = .ok (.iload_n 2, 1) := by decide +kernel
theorem dX9_goesHour_170 : decode cX9_goesHour 170 = .ok (.invokevirtual 162, 3) := by decide +kernel
theorem dX9_goesHour_173 : decode cX9_goesHour 173 = .ok (.goto (-34), 3) := by decide +kernel
theorem dX9_goesHour_176 : decode cX9_goesHour 176 = .ok (.iinc 2 1, 3) := by decide +kernel
theorem dX9_goesHour_179 : decode cX9_goesHour 179 = .ok (.goto (-40), 3) := by decide +kernel
theorem dX9_goesHour_182 : decode cX9_goesHour 182 = .ok (.iload_n 1, 1) := by decide +kernel
theorem dX9_goesHour_183 : decode cX9_goesHour 183 = .ok (.ireturn, 1) := by decide +kernel
theorem dX9_passes_0 : decode cX9_passes 0 = .ok (.iload_n 1, 1) := by decide +kernel
theorem dX9_passes_1 : decode cX9_passes 1 = .ok (.iconst 1, 1) := by decide +kernel
theorem dX9_passes_2 : decode cX9_passes 2 = .ok (.bipush 72, 2) := by decide +kernel
theorem dX9_passes_4 : decode cX9_passes 4 = .ok (.invokestatic 53, 3) := by decide +kernel
theorem dX9_passes_7 : decode cX9_passes 7 = .ok (.ifCond .ne 9, 3) := by decide +kernel
theorem dX9_passes_10 : decode cX9_passes 10 = .ok (.aload_n 0, 1) := by decide +kernel
theorem dX9_passes_11 : decode cX9_passes 11 = .ok (.iconst 1, 1) := by decide +kernel
theorem dX9_passes_12 : decode cX9_passes 12 = .ok (.invokevirtual 57, 3) := by decide +kernel
theorem dX9_passes_15 : decode cX9_passes 15 = .ok (.ireturn, 1) := by decide +kernel
theorem dX9_passes_16 : decode cX9_passes 16 = .ok (.iconst 0, 1) := by decide +kernel
theorem dX9_passes_17 : decode cX9_passes 17 = .ok (.istore_n 2, 1) := by decide +kernel
theorem dX9_passes_18 : decode cX9_passes 18 = .ok (.iconst 0, 1) := by decide +kernel
theorem dX9_passes_19 : decode cX9_passes 19 = .ok (.istore_n 3, 1) := by decide +kernel
theorem dX9_passes_20 : decode cX9_passes 20 = .ok (.iload_n 3, 1) := by decide +kernel
theorem dX9_passes_21 : decode cX9_passes 21 = .ok (.iload_n 1, 1) := by decide +kernel
theorem dX9_passes_22 : decode cX9_passes 22 = .ok (.if_icmp .ge 16, 3) := by decide +kernel
theorem dX9_passes_25 : decode cX9_passes 25 = .ok (.iload_n 2, 1) := by decide +kernel
theorem dX9_passes_26 : decode cX9_passes 26 = .ok (.aload_n 0, 1) := by decide +kernel
theorem dX9_passes_27 : decode cX9_passes 27 = .ok (.invokevirtual 165, 3) := by decide +kernel
theorem dX9_passes_30 : decode cX9_passes 30 = .ok (.iadd, 1) := by decide +kernel
theorem dX9_passes_31 : decode cX9_passes 31 = .ok (.istore_n 2, 1) := by decide +kernel
theorem dX9_passes_32 : decode cX9_passes 32 = .ok (.iinc 3 1, 3) := by decide +kernel
theorem dX9_passes_35 : decode cX9_passes 35 = .ok (.goto (-15), 3) := by decide +kernel
theorem dX9_passes_38 : decode cX9_passes 38 = .ok (.aload_n 0, 1) := by decide +kernel
theorem dX9_passes_39 : decode cX9_passes 39 = .ok (.iload_n 2, 1) := by decide +kernel
theorem dX9_passes_40 : decode cX9_passes 40 = .ok (.invokevirtual 64, 3) := by decide +kernel
theorem dX9_passes_43 : decode cX9_passes 43 = .ok (.ireturn, 1) := by decide +kernel
theorem dX9_pass_0 : decode cX9_pass 0 = .ok (.aload_n 0, 1) := by decide +kernel
theorem dX9_pass_1 : decode cX9_pass 1 = .ok (.invokevirtual 61, 3) := by decide +kernel
theorem dX9_pass_4 : decode cX9_pass 4 = .ok (.aload_n 0, 1) := by decide +kernel
theorem dX9_pass_5 : decode cX9_pass 5 = .ok (.aload_n 0, 1) := by decide +kernel
theorem dX9_pass_6 : decode cX9_pass 6 = .ok (.iload_n 1, 1) := by decide +kernel
theorem dX9_pass_7 : decode cX9_pass 7 = .ok (.invokevirtual 169, 3) := by decide +kernel
theorem dX9_pass_10 : decode cX9_pass 10 = .ok (.invokevirtual 67, 3) := by decide +kernel
theorem dX9_pass_13 : decode cX9_pass 13 = .ok (.ireturn, 1) := by decide +kernel
theorem dX9_append_0 : decode cX9_append 0 = .ok (.aload_n 0, 1) := by decide +kernel
theorem dX9_append_1 : decode cX9_append 1 = .ok (.getfield 172, 3) := by decide +kernel
theorem dX9_append_4 : decode cX9_append 4 = .ok (.bipush 60, 2) := by decide +kernel
theorem dX9_append_6 : decode cX9_append 6 = .ok (.if_icmp .ne 9, 3) := by decide +kernel
theorem dX9_append_9 : decode cX9_append 9 = .ok (.aload_n 0, 1) := by decide +kernel
theorem dX9_append_10 : decode cX9_append 10 = .ok (.iconst 1, 1) := by decide +kernel
theorem dX9_append_11 : decode cX9_append 11 = .ok (.invokevirtual 57, 3) := by decide +kernel
theorem dX9_append_14 : decode cX9_append 14 = .ok (.ireturn, 1) := by decide +kernel
theorem dX9_append_15 : decode cX9_append 15 = .ok (.aload_n 0, 1) := by decide +kernel
theorem dX9_append_16 : decode cX9_append 16 = .ok (.getfield 22, 3) := by decide +kernel
theorem dX9_append_19 : decode cX9_append 19 = .ok (.aload_n 0, 1) := by decide +kernel
theorem dX9_append_20 : decode cX9_append 20 = .ok (.getfield 172, 3) := by decide +kernel
theorem dX9_append_23 : decode cX9_append 23 = .ok (.iload_n 1, 1) := by decide +kernel
theorem dX9_append_24 : decode cX9_append 24 = .ok (.castore, 1) := by decide +kernel
theorem dX9_append_25 : decode cX9_append 25 = .ok (.aload_n 0, 1) := by decide +kernel
theorem dX9_append_26 : decode cX9_append 26 = .ok (.dup, 1) := by decide +kernel
theorem dX9_append_27 : decode cX9_append 27 = .ok (.getfield 172, 3) := by decide +kernel
theorem dX9_append_30 : decode cX9_append 30 = .ok (.iconst 1, 1) := by decide +kernel
theorem dX9_append_31 : decode cX9_append 31 = .ok (.iadd, 1) := by decide +kernel
theorem dX9_append_32 : decode cX9_append 32 = .ok (.putfield 172, 3) := by decide +kernel
theorem dX9_append_35 : decode cX9_append 35 = .ok (.aload_n 0, 1) := by decide +kernel
theorem dX9_append_36 : decode cX9_append 36 = .ok (.aload_n 0, 1) := by decide +kernel
theorem dX9_append_37 : decode cX9_append 37 = .ok (.getfield 172, 3) := by decide +kernel
theorem dX9_append_40 : decode cX9_append 40 = .ok (.invokevirtual 64, 3) := by decide +kernel
theorem dX9_append_43 : decode cX9_append 43 = .ok (.ireturn, 1) := by decide +kernel
theorem dX9_here_0 : decode cX9_here 0 = .ok (.aload_n 0, 1) := by decide +kernel
theorem dX9_here_1 : decode cX9_here 1 = .ok (.getfield 175, 3) := by decide +kernel
theorem dX9_here_4 : decode cX9_here 4 = .ok (.aload_n 0, 1) := by decide +kernel
theorem dX9_here_5 : decode cX9_here 5 = .ok (.getfield 172, 3) := by decide +kernel
theorem dX9_here_8 : decode cX9_here 8 = .ok (.if_icmp .ge 15, 3) := by decide +kernel
theorem dX9_here_11 : decode cX9_here 11 = .ok (.aload_n 0, 1) := by decide +kernel
theorem dX9_here_12 : decode cX9_here 12 = .ok (.getfield 22, 3) := by decide +kernel
theorem dX9_here_15 : decode cX9_here 15 = .ok (.aload_n 0, 1) := by decide +kernel
theorem dX9_here_16 : decode cX9_here 16 = .ok (.getfield 175, 3) := by decide +kernel
theorem dX9_here_19 : decode cX9_here 19 = .ok (.caload, 1) := by decide +kernel
theorem dX9_here_20 : decode cX9_here 20 = .ok (.goto 4, 3) := by decide +kernel
theorem dX9_here_23 : decode cX9_here 23 = .ok (.iconst (-1), 1) := by decide +kernel
theorem dX9_here_24 : decode cX9_here 24 = .ok (.ireturn, 1) := by decide +kernel
theorem dX9_digit_0 : decode cX9_digit 0 = .ok (.aload_n 0, 1) := by decide +kernel
theorem dX9_digit_1 : decode cX9_digit 1 = .ok (.aload_n 0, 1) := by decide +kernel
theorem dX9_digit_2 : decode cX9_digit 2 = .ok (.getfield 178, 3) := by decide +kernel
theorem dX9_digit_5 : decode cX9_digit 5 = .ok (.ifCond .ne 17, 3) := by decide +kernel
theorem dX9_digit_8 : decode cX9_digit 8 = .ok (.aload_n 0, 1) := by decide +kernel
theorem dX9_digit_9 : decode cX9_digit 9 = .ok (.invokevirtual 181, 3) := by decide +kernel
theorem dX9_digit_12 : decode cX9_digit 12 = .ok (.bipush 48, 2) := by decide +kernel
theorem dX9_digit_14 : decode cX9_digit 14 = .ok (.bipush 57, 2) := by decide +kernel
theorem dX9_digit_16 : decode cX9_digit 16 = .ok (.invokestatic 53, 3) := by decide +kernel
theorem dX9_digit_19 : decode cX9_digit 19 = .ok (.ifCond .ne 7, 3) := by decide +kernel
theorem dX9_digit_22 : decode cX9_digit 22 = .ok (.iconst 1, 1) := by decide +kernel
theorem dX9_digit_23 : decode cX9_digit 23 = .ok (.goto 4, 3) := by decide +kernel
theorem dX9_digit_26 : decode cX9_digit 26 = .ok (.iconst 0, 1) := by decide +kernel
theorem dX9_digit_27 : decode cX9_digit 27 = .ok (.putfield 178, 3) := by decide +kernel
theorem dX9_digit_30 : decode cX9_digit 30 = .ok (.aload_n 0, 1) := by decide +kernel
theorem dX9_digit_31 : decode cX9_digit 31 = .ok (.getfield 178, 3) := by decide +kernel
theorem dX9_digit_34 : decode cX9_digit 34 = .ok (.ifCond .eq 7, 3) := by decide +kernel
theorem dX9_digit_37 : decode cX9_digit 37 = .ok (.iconst 0, 1) := by decide +kernel
theorem dX9_digit_38 : decode cX9_digit 38 = .ok (.goto 10, 3) := by decide +kernel
theorem dX9_digit_41 : decode cX9_digit 41 = .ok (.aload_n 0, 1) := by decide +kernel
theorem dX9_digit_42 : decode cX9_digit 42 = .ok (.invokevirtual 181, 3) := by decide +kernel
theorem dX9_digit_45 : decode cX9_digit 45 = .ok (.bipush 48, 2) := by decide +kernel
theorem dX9_digit_47 : decode cX9_digit 47 = .ok (.isub, 1) := by decide +kernel
theorem dX9_digit_48 : decode cX9_digit 48 = .ok (.istore_n 1, 1) := by decide +kernel
theorem dX9_digit_49 : decode cX9_digit 49 = .ok (.aload_n 0, 1) := by decide +kernel
theorem dX9_digit_50 : decode cX9_digit 50 = .ok (.dup, 1) := by decide +kernel
theorem dX9_digit_51 : decode cX9_digit 51 = .ok (.getfield 175, 3) := by decide +kernel
theorem dX9_digit_54 : decode cX9_digit 54 = .ok (.aload_n 0, 1) := by decide +kernel
theorem dX9_digit_55 : decode cX9_digit 55 = .ok (.getfield 178, 3) := by decide +kernel
theorem dX9_digit_58 : decode cX9_digit 58 = .ok (.ifCond .eq 7, 3) := by decide +kernel
theorem dX9_digit_61 : decode cX9_digit 61 = .ok (.iconst 0, 1) := by decide +kernel
theorem dX9_digit_62 : decode cX9_digit 62 = .ok (.goto 4, 3) := by decide +kernel
theorem dX9_digit_65 : decode cX9_digit 65 = .ok (.iconst 1, 1) := by decide +kernel
theorem dX9_digit_66 : decode cX9_digit 66 = .ok (.iadd, 1) := by decide +kernel
theorem dX9_digit_67 : decode cX9_digit 67 = .ok (.putfield 175, 3) := by decide +kernel
theorem dX9_digit_70 : decode cX9_digit 70 = .ok (.iload_n 1, 1) := by decide +kernel
theorem dX9_digit_71 : decode cX9_digit 71 = .ok (.ireturn, 1) := by decide +kernel
theorem dX9_number_0 : decode cX9_number 0 = .ok (.aload_n 0, 1) := by decide +kernel
theorem dX9_number_1 : decode cX9_number 1 = .ok (.invokevirtual 184, 3) := by decide +kernel
theorem dX9_number_4 : decode cX9_number 4 = .ok (.istore_n 1, 1) := by decide +kernel
theorem dX9_number_5 : decode cX9_number 5 = .ok (.aload_n 0, 1) := by decide +kernel
theorem dX9_number_6 : decode cX9_number 6 = .ok (.getfield 178, 3) := by decide +kernel
theorem dX9_number_9 : decode cX9_number 9 = .ok (.ifCond .ne 29, 3) := by decide +kernel
theorem dX9_number_12 : decode cX9_number 12 = .ok (.aload_n 0, 1) := by decide +kernel
theorem dX9_number_13 : decode cX9_number 13 = .ok (.invokevirtual 181, 3) := by decide +kernel
theorem dX9_number_16 : decode cX9_number 16 = .ok (.bipush 48, 2) := by decide +kernel
theorem dX9_number_18 : decode cX9_number 18 = .ok (.bipush 57, 2) := by decide +kernel
theorem dX9_number_20 : decode cX9_number 20 = .ok (.invokestatic 53, 3) := by decide +kernel
theorem dX9_number_23 : decode cX9_number 23 = .ok (.ifCond .eq 15, 3) := by decide +kernel
theorem dX9_number_26 : decode cX9_number 26 = .ok (.bipush 10, 2) := by decide +kernel
theorem dX9_number_28 : decode cX9_number 28 = .ok (.iload_n 1, 1) := by decide +kernel
theorem dX9_number_29 : decode cX9_number 29 = .ok (.imul, 1) := by decide +kernel
theorem dX9_number_30 : decode cX9_number 30 = .ok (.aload_n 0, 1) := by decide +kernel
theorem dX9_number_31 : decode cX9_number 31 = .ok (.invokevirtual 184, 3) := by decide +kernel
theorem dX9_number_34 : decode cX9_number 34 = .ok (.iadd, 1) := by decide +kernel
theorem dX9_number_35 : decode cX9_number 35 = .ok (.goto 4, 3) := by decide +kernel
theorem dX9_number_38 : decode cX9_number 38 = .ok (.iload_n 1, 1) := by decide +kernel
theorem dX9_number_39 : decode cX9_number 39 = .ok (.ireturn, 1) := by decide +kernel
theorem dX9_between_0 : decode cX9_between 0 = .ok (.aload_n 0, 1) := by decide +kernel
theorem dX9_between_1 : decode cX9_between 1 = .ok (.aload_n 0, 1) := by decide +kernel
theorem dX9_between_2 : decode cX9_between 2 = .ok (.getfield 178, 3) := by decide +kernel
theorem dX9_between_5 : decode cX9_between 5 = .ok (.ifCond .ne 11, 3) := by decide +kernel
theorem dX9_between_8 : decode cX9_between 8 = .ok (.aload_n 0, 1) := by decide +kernel
theorem dX9_between_9 : decode cX9_between 9 = .ok (.invokevirtual 181, 3) := by decide +kernel
theorem dX9_between_12 : decode cX9_between 12 = .ok (.iload_n 1, 1) := by decide +kernel
theorem dX9_between_13 : decode cX9_between 13 = .ok (.if_icmp .eq 7, 3) := by decide +kernel
theorem dX9_between_16 : decode cX9_between 16 = .ok (.iconst 1, 1) := by decide +kernel
theorem dX9_between_17 : decode cX9_between 17 = .ok (.goto 4, 3) := by decide +kernel
theorem dX9_between_20 : decode cX9_between 20 = .ok (.iconst 0, 1) := by decide +kernel
theorem dX9_between_21 : decode cX9_between 21 = .ok (.putfield 178, 3) := by decide +kernel
theorem dX9_between_24 : decode cX9_between 24 = .ok (.aload_n 0, 1) := by decide +kernel
theorem dX9_between_25 : decode cX9_between 25 = .ok (.dup, 1) := by decide +kernel
theorem dX9_between_26 : decode cX9_between 26 = .ok (.getfield 175, 3) := by decide +kernel
theorem dX9_between_29 : decode cX9_between 29 = .ok (.aload_n 0, 1) := by decide +kernel
theorem dX9_between_30 : decode cX9_between 30 = .ok (.getfield 178, 3) := by decide +kernel
theorem dX9_between_33 : decode cX9_between 33 = .ok (.ifCond .eq 7, 3) := by decide +kernel
theorem dX9_between_36 : decode cX9_between 36 = .ok (.iconst 0, 1) := by decide +kernel
theorem dX9_between_37 : decode cX9_between 37 = .ok (.goto 4, 3) := by decide +kernel
theorem dX9_between_40 : decode cX9_between 40 = .ok (.iconst 1, 1) := by decide +kernel
theorem dX9_between_41 : decode cX9_between 41 = .ok (.iadd, 1) := by decide +kernel
theorem dX9_between_42 : decode cX9_between 42 = .ok (.putfield 175, 3) := by decide +kernel
theorem dX9_between_45 : decode cX9_between 45 = .ok (.return_, 1) := by decide +kernel
theorem dX9_readsOrder_0 : decode cX9_readsOrder 0 = .ok (.aload_n 0, 1) := by decide +kernel
theorem dX9_readsOrder_1 : decode cX9_readsOrder 1 = .ok (.invokevirtual 181, 3) := by decide +kernel
theorem dX9_readsOrder_4 : decode cX9_readsOrder 4 = .ok (.istore_n 2, 1) := by decide +kernel
theorem dX9_readsOrder_5 : decode cX9_readsOrder 5 = .ok (.aload_n 0, 1) := by decide +kernel
theorem dX9_readsOrder_6 : decode cX9_readsOrder 6 = .ok (.getfield 30, 3) := by decide +kernel
theorem dX9_readsOrder_9 : decode cX9_readsOrder 9 = .ok (.iload_n 1, 1) := by decide +kernel
theorem dX9_readsOrder_10 : decode cX9_readsOrder 10 = .ok (.iload_n 2, 1) := by decide +kernel
theorem dX9_readsOrder_11 : decode cX9_readsOrder 11 = .ok (.iastore, 1) := by decide +kernel
theorem dX9_readsOrder_12 : decode cX9_readsOrder 12 = .ok (.aload_n 0, 1) := by decide +kernel
theorem dX9_readsOrder_13 : decode cX9_readsOrder 13 = .ok (.iload_n 2, 1) := by decide +kernel
theorem dX9_readsOrder_14 : decode cX9_readsOrder 14 = .ok (.bipush 98, 2) := by decide +kernel
theorem dX9_readsOrder_16 : decode cX9_readsOrder 16 = .ok (.if_icmp .eq 31, 3) := by decide +kernel
theorem dX9_readsOrder_19 : decode cX9_readsOrder 19 = .ok (.iload_n 2, 1) := by decide +kernel
theorem dX9_readsOrder_20 : decode cX9_readsOrder 20 = .ok (.bipush 108, 2) := by decide +kernel
theorem dX9_readsOrder_22 : decode cX9_readsOrder 22 = .ok (.if_icmp .eq 25, 3) := by decide +kernel
theorem dX9_readsOrder_25 : decode cX9_readsOrder 25 = .ok (.iload_n 2, 1) := by decide +kernel
theorem dX9_readsOrder_26 : decode cX9_readsOrder 26 = .ok (.bipush 116, 2) := by decide +kernel
theorem dX9_readsOrder_28 : decode cX9_readsOrder 28 = .ok (.if_icmp .eq 19, 3) := by decide +kernel
theorem dX9_readsOrder_31 : decode cX9_readsOrder 31 = .ok (.iload_n 2, 1) := by decide +kernel
theorem dX9_readsOrder_32 : decode cX9_readsOrder 32 = .ok (.bipush 115, 2) := by decide +kernel
theorem dX9_readsOrder_34 : decode cX9_readsOrder 34 = .ok (.if_icmp .eq 13, 3) := by decide +kernel
theorem dX9_readsOrder_37 : decode cX9_readsOrder 37 = .ok (.iload_n 2, 1) := by decide +kernel
theorem dX9_readsOrder_38 : decode cX9_readsOrder 38 = .ok (.bipush 104, 2) := by decide +kernel
theorem dX9_readsOrder_40 : decode cX9_readsOrder 40 = .ok (.if_icmp .eq 7, 3) := by decide +kernel
theorem dX9_readsOrder_43 : decode cX9_readsOrder 43 = .ok (.iconst 1, 1) := by decide +kernel
theorem dX9_readsOrder_44 : decode cX9_readsOrder 44 = .ok (.goto 4, 3) := by decide +kernel
theorem dX9_readsOrder_47 : decode cX9_readsOrder 47 = .ok (.iconst 0, 1) := by decide +kernel
theorem dX9_readsOrder_48 : decode cX9_readsOrder 48 = .ok (.putfield 178, 3) := by decide +kernel
theorem dX9_readsOrder_51 : decode cX9_readsOrder 51 = .ok (.aload_n 0, 1) := by decide +kernel
theorem dX9_readsOrder_52 : decode cX9_readsOrder 52 = .ok (.dup, 1) := by decide +kernel
theorem dX9_readsOrder_53 : decode cX9_readsOrder 53 = .ok (.getfield 175, 3) := by decide +kernel
theorem dX9_readsOrder_56 : decode cX9_readsOrder 56 = .ok (.aload_n 0, 1) := by decide +kernel
theorem dX9_readsOrder_57 : decode cX9_readsOrder 57 = .ok (.getfield 178, 3) := by decide +kernel
theorem dX9_readsOrder_60 : decode cX9_readsOrder 60 = .ok (.ifCond .eq 7, 3) := by decide +kernel
theorem dX9_readsOrder_63 : decode cX9_readsOrder 63 = .ok (.iconst 0, 1) := by decide +kernel
theorem dX9_readsOrder_64 : decode cX9_readsOrder 64 = .ok (.goto 4, 3) := by decide +kernel
theorem dX9_readsOrder_67 : decode cX9_readsOrder 67 = .ok (.iconst 1, 1) := by decide +kernel
theorem dX9_readsOrder_68 : decode cX9_readsOrder 68 = .ok (.iadd, 1) := by decide +kernel
theorem dX9_readsOrder_69 : decode cX9_readsOrder 69 = .ok (.putfield 175, 3) := by decide +kernel
theorem dX9_readsOrder_72 : decode cX9_readsOrder 72 = .ok (.iload_n 2, 1) := by decide +kernel
theorem dX9_readsOrder_73 : decode cX9_readsOrder 73 = .ok (.lookupswitch 185 #[(98, 43), (108, 74), (115, 141), (116, 172)], 43) := by decide +kernel
theorem dX9_readsOrder_116 : decode cX9_readsOrder 116 = .ok (.aload_n 0, 1) := by decide +kernel
theorem dX9_readsOrder_117 : decode cX9_readsOrder 117 = .ok (.getfield 30, 3) := by decide +kernel
theorem dX9_readsOrder_120 : decode cX9_readsOrder 120 = .ok (.iload_n 1, 1) := by decide +kernel
theorem dX9_readsOrder_121 : decode cX9_readsOrder 121 = .ok (.iconst 1, 1) := by decide +kernel
theorem dX9_readsOrder_122 : decode cX9_readsOrder 122 = .ok (.iadd, 1) := by decide +kernel
theorem dX9_readsOrder_123 : decode cX9_readsOrder 123 = .ok (.aload_n 0, 1) := by decide +kernel
theorem dX9_readsOrder_124 : decode cX9_readsOrder 124 = .ok (.invokevirtual 184, 3) := by decide +kernel
theorem dX9_readsOrder_127 : decode cX9_readsOrder 127 = .ok (.iastore, 1) := by decide +kernel
theorem dX9_readsOrder_128 : decode cX9_readsOrder 128 = .ok (.aload_n 0, 1) := by decide +kernel
theorem dX9_readsOrder_129 : decode cX9_readsOrder 129 = .ok (.bipush 43, 2) := by decide +kernel
theorem dX9_readsOrder_131 : decode cX9_readsOrder 131 = .ok (.invokevirtual 187, 3) := by decide +kernel
theorem dX9_readsOrder_134 : decode cX9_readsOrder 134 = .ok (.aload_n 0, 1) := by decide +kernel
theorem dX9_readsOrder_135 : decode cX9_readsOrder 135 = .ok (.getfield 30, 3) := by decide +kernel
theorem dX9_readsOrder_138 : decode cX9_readsOrder 138 = .ok (.iload_n 1, 1) := by decide +kernel
theorem dX9_readsOrder_139 : decode cX9_readsOrder 139 = .ok (.iconst 2, 1) := by decide +kernel
theorem dX9_readsOrder_140 : decode cX9_readsOrder 140 = .ok (.iadd, 1) := by decide +kernel
theorem dX9_readsOrder_141 : decode cX9_readsOrder 141 = .ok (.aload_n 0, 1) := by decide +kernel
theorem dX9_readsOrder_142 : decode cX9_readsOrder 142 = .ok (.invokevirtual 190, 3) := by decide +kernel
theorem dX9_readsOrder_145 : decode cX9_readsOrder 145 = .ok (.iastore, 1) := by decide +kernel
theorem dX9_readsOrder_146 : decode cX9_readsOrder 146 = .ok (.return_, 1) := by decide +kernel
theorem dX9_readsOrder_147 : decode cX9_readsOrder 147 = .ok (.aload_n 0, 1) := by decide +kernel
theorem dX9_readsOrder_148 : decode cX9_readsOrder 148 = .ok (.getfield 30, 3) := by decide +kernel
theorem dX9_readsOrder_151 : decode cX9_readsOrder 151 = .ok (.iload_n 1, 1) := by decide +kernel
theorem dX9_readsOrder_152 : decode cX9_readsOrder 152 = .ok (.iconst 1, 1) := by decide +kernel
theorem dX9_readsOrder_153 : decode cX9_readsOrder 153 = .ok (.iadd, 1) := by decide +kernel
theorem dX9_readsOrder_154 : decode cX9_readsOrder 154 = .ok (.aload_n 0, 1) := by decide +kernel
theorem dX9_readsOrder_155 : decode cX9_readsOrder 155 = .ok (.invokevirtual 184, 3) := by decide +kernel
theorem dX9_readsOrder_158 : decode cX9_readsOrder 158 = .ok (.iastore, 1) := by decide +kernel
theorem dX9_readsOrder_159 : decode cX9_readsOrder 159 = .ok (.aload_n 0, 1) := by decide +kernel
theorem dX9_readsOrder_160 : decode cX9_readsOrder 160 = .ok (.bipush 47, 2) := by decide +kernel
theorem dX9_readsOrder_162 : decode cX9_readsOrder 162 = .ok (.invokevirtual 187, 3) := by decide +kernel
theorem dX9_readsOrder_165 : decode cX9_readsOrder 165 = .ok (.aload_n 0, 1) := by decide +kernel
theorem dX9_readsOrder_166 : decode cX9_readsOrder 166 = .ok (.getfield 30, 3) := by decide +kernel
theorem dX9_readsOrder_169 : decode cX9_readsOrder 169 = .ok (.iload_n 1, 1) := by decide +kernel
theorem dX9_readsOrder_170 : decode cX9_readsOrder 170 = .ok (.iconst 2, 1) := by decide +kernel
theorem dX9_readsOrder_171 : decode cX9_readsOrder 171 = .ok (.iadd, 1) := by decide +kernel
theorem dX9_readsOrder_172 : decode cX9_readsOrder 172 = .ok (.aload_n 0, 1) := by decide +kernel
theorem dX9_readsOrder_173 : decode cX9_readsOrder 173 = .ok (.invokevirtual 184, 3) := by decide +kernel
theorem dX9_readsOrder_176 : decode cX9_readsOrder 176 = .ok (.iastore, 1) := by decide +kernel
theorem dX9_readsOrder_177 : decode cX9_readsOrder 177 = .ok (.aload_n 0, 1) := by decide +kernel
theorem dX9_readsOrder_178 : decode cX9_readsOrder 178 = .ok (.bipush 58, 2) := by decide +kernel
theorem dX9_readsOrder_180 : decode cX9_readsOrder 180 = .ok (.invokevirtual 187, 3) := by decide +kernel
theorem dX9_readsOrder_183 : decode cX9_readsOrder 183 = .ok (.aload_n 0, 1) := by decide +kernel
theorem dX9_readsOrder_184 : decode cX9_readsOrder 184 = .ok (.getfield 30, 3) := by decide +kernel
theorem dX9_readsOrder_187 : decode cX9_readsOrder 187 = .ok (.iload_n 1, 1) := by decide +kernel
theorem dX9_readsOrder_188 : decode cX9_readsOrder 188 = .ok (.iconst 3, 1) := by decide +kernel
theorem dX9_readsOrder_189 : decode cX9_readsOrder 189 = .ok (.iadd, 1) := by decide +kernel
theorem dX9_readsOrder_190 : decode cX9_readsOrder 190 = .ok (.aload_n 0, 1) := by decide +kernel
theorem dX9_readsOrder_191 : decode cX9_readsOrder 191 = .ok (.invokevirtual 184, 3) := by decide +kernel
theorem dX9_readsOrder_194 : decode cX9_readsOrder 194 = .ok (.iastore, 1) := by decide +kernel
theorem dX9_readsOrder_195 : decode cX9_readsOrder 195 = .ok (.aload_n 0, 1) := by decide +kernel
theorem dX9_readsOrder_196 : decode cX9_readsOrder 196 = .ok (.bipush 42, 2) := by decide +kernel
theorem dX9_readsOrder_198 : decode cX9_readsOrder 198 = .ok (.invokevirtual 187, 3) := by decide +kernel
theorem dX9_readsOrder_201 : decode cX9_readsOrder 201 = .ok (.aload_n 0, 1) := by decide +kernel
theorem dX9_readsOrder_202 : decode cX9_readsOrder 202 = .ok (.getfield 30, 3) := by decide +kernel
theorem dX9_readsOrder_205 : decode cX9_readsOrder 205 = .ok (.iload_n 1, 1) := by decide +kernel
theorem dX9_readsOrder_206 : decode cX9_readsOrder 206 = .ok (.iconst 4, 1) := by decide +kernel
theorem dX9_readsOrder_207 : decode cX9_readsOrder 207 = .ok (.iadd, 1) := by decide +kernel
theorem dX9_readsOrder_208 : decode cX9_readsOrder 208 = .ok (.aload_n 0, 1) := by decide +kernel
theorem dX9_readsOrder_209 : decode cX9_readsOrder 209 = .ok (.invokevirtual 190, 3) := by decide +kernel
theorem dX9_readsOrder_212 : decode cX9_readsOrder 212 = .ok (.iastore, 1) := by decide +kernel
theorem dX9_readsOrder_213 : decode cX9_readsOrder 213 = .ok (.return_, 1) := by decide +kernel
theorem dX9_readsOrder_214 : decode cX9_readsOrder 214 = .ok (.aload_n 0, 1) := by decide +kernel
theorem dX9_readsOrder_215 : decode cX9_readsOrder 215 = .ok (.getfield 30, 3) := by decide +kernel
theorem dX9_readsOrder_218 : decode cX9_readsOrder 218 = .ok (.iload_n 1, 1) := by decide +kernel
theorem dX9_readsOrder_219 : decode cX9_readsOrder 219 = .ok (.iconst 1, 1) := by decide +kernel
theorem dX9_readsOrder_220 : decode cX9_readsOrder 220 = .ok (.iadd, 1) := by decide +kernel
theorem dX9_readsOrder_221 : decode cX9_readsOrder 221 = .ok (.aload_n 0, 1) := by decide +kernel
theorem dX9_readsOrder_222 : decode cX9_readsOrder 222 = .ok (.invokevirtual 190, 3) := by decide +kernel
theorem dX9_readsOrder_225 : decode cX9_readsOrder 225 = .ok (.iastore, 1) := by decide +kernel
theorem dX9_readsOrder_226 : decode cX9_readsOrder 226 = .ok (.aload_n 0, 1) := by decide +kernel
theorem dX9_readsOrder_227 : decode cX9_readsOrder 227 = .ok (.bipush 64, 2) := by decide +kernel
theorem dX9_readsOrder_229 : decode cX9_readsOrder 229 = .ok (.invokevirtual 187, 3) := by decide +kernel
theorem dX9_readsOrder_232 : decode cX9_readsOrder 232 = .ok (.aload_n 0, 1) := by decide +kernel
theorem dX9_readsOrder_233 : decode cX9_readsOrder 233 = .ok (.getfield 30, 3) := by decide +kernel
theorem dX9_readsOrder_236 : decode cX9_readsOrder 236 = .ok (.iload_n 1, 1) := by decide +kernel
theorem dX9_readsOrder_237 : decode cX9_readsOrder 237 = .ok (.iconst 2, 1) := by decide +kernel
theorem dX9_readsOrder_238 : decode cX9_readsOrder 238 = .ok (.iadd, 1) := by decide +kernel
theorem dX9_readsOrder_239 : decode cX9_readsOrder 239 = .ok (.aload_n 0, 1) := by decide +kernel
theorem dX9_readsOrder_240 : decode cX9_readsOrder 240 = .ok (.invokevirtual 184, 3) := by decide +kernel
theorem dX9_readsOrder_243 : decode cX9_readsOrder 243 = .ok (.iastore, 1) := by decide +kernel
theorem dX9_readsOrder_244 : decode cX9_readsOrder 244 = .ok (.return_, 1) := by decide +kernel
theorem dX9_readsOrder_245 : decode cX9_readsOrder 245 = .ok (.aload_n 0, 1) := by decide +kernel
theorem dX9_readsOrder_246 : decode cX9_readsOrder 246 = .ok (.getfield 30, 3) := by decide +kernel
theorem dX9_readsOrder_249 : decode cX9_readsOrder 249 = .ok (.iload_n 1, 1) := by decide +kernel
theorem dX9_readsOrder_250 : decode cX9_readsOrder 250 = .ok (.iconst 1, 1) := by decide +kernel
theorem dX9_readsOrder_251 : decode cX9_readsOrder 251 = .ok (.iadd, 1) := by decide +kernel
theorem dX9_readsOrder_252 : decode cX9_readsOrder 252 = .ok (.aload_n 0, 1) := by decide +kernel
theorem dX9_readsOrder_253 : decode cX9_readsOrder 253 = .ok (.invokevirtual 184, 3) := by decide +kernel
theorem dX9_readsOrder_256 : decode cX9_readsOrder 256 = .ok (.iastore, 1) := by decide +kernel
theorem dX9_readsOrder_257 : decode cX9_readsOrder 257 = .ok (.return_, 1) := by decide +kernel
theorem dX9_readsOrder_258 : decode cX9_readsOrder 258 = .ok (.aload_n 0, 1) := by decide +kernel
theorem dX9_readsOrder_259 : decode cX9_readsOrder 259 = .ok (.getfield 30, 3) := by decide +kernel
theorem dX9_readsOrder_262 : decode cX9_readsOrder 262 = .ok (.iload_n 1, 1) := by decide +kernel
theorem dX9_readsOrder_263 : decode cX9_readsOrder 263 = .ok (.iconst 1, 1) := by decide +kernel
theorem dX9_readsOrder_264 : decode cX9_readsOrder 264 = .ok (.iadd, 1) := by decide +kernel
theorem dX9_readsOrder_265 : decode cX9_readsOrder 265 = .ok (.aload_n 0, 1) := by decide +kernel
theorem dX9_readsOrder_266 : decode cX9_readsOrder 266 = .ok (.invokevirtual 190, 3) := by decide +kernel
theorem dX9_readsOrder_269 : decode cX9_readsOrder 269 = .ok (.iastore, 1) := by decide +kernel
theorem dX9_readsOrder_270 : decode cX9_readsOrder 270 = .ok (.return_, 1) := by decide +kernel
theorem dX9_readsText_0 : decode cX9_readsText 0 = .ok (.aload_n 0, 1) := by decide +kernel
theorem dX9_readsText_1 : decode cX9_readsText 1 = .ok (.iconst 0, 1) := by decide +kernel
theorem dX9_readsText_2 : decode cX9_readsText 2 = .ok (.putfield 175, 3) := by decide +kernel
theorem dX9_readsText_5 : decode cX9_readsText 5 = .ok (.aload_n 0, 1) := by decide +kernel
theorem dX9_readsText_6 : decode cX9_readsText 6 = .ok (.iconst 0, 1) := by decide +kernel
theorem dX9_readsText_7 : decode cX9_readsText 7 = .ok (.putfield 178, 3) := by decide +kernel
theorem dX9_readsText_10 : decode cX9_readsText 10 = .ok (.iconst 0, 1) := by decide +kernel
theorem dX9_readsText_11 : decode cX9_readsText 11 = .ok (.istore_n 1, 1) := by decide +kernel
theorem dX9_readsText_12 : decode cX9_readsText 12 = .ok (.iconst 1, 1) := by decide +kernel
theorem dX9_readsText_13 : decode cX9_readsText 13 = .ok (.istore_n 2, 1) := by decide +kernel
theorem dX9_readsText_14 : decode cX9_readsText 14 = .ok (.iload_n 2, 1) := by decide +kernel
theorem dX9_readsText_15 : decode cX9_readsText 15 = .ok (.ifCond .eq 56, 3) := by decide +kernel
theorem dX9_readsText_18 : decode cX9_readsText 18 = .ok (.aload_n 0, 1) := by decide +kernel
theorem dX9_readsText_19 : decode cX9_readsText 19 = .ok (.iconst 5, 1) := by decide +kernel
theorem dX9_readsText_20 : decode cX9_readsText 20 = .ok (.iload_n 1, 1) := by decide +kernel
theorem dX9_readsText_21 : decode cX9_readsText 21 = .ok (.imul, 1) := by decide +kernel
theorem dX9_readsText_22 : decode cX9_readsText 22 = .ok (.invokevirtual 193, 3) := by decide +kernel
theorem dX9_readsText_25 : decode cX9_readsText 25 = .ok (.iinc 1 1, 3) := by decide +kernel
theorem dX9_readsText_28 : decode cX9_readsText 28 = .ok (.aload_n 0, 1) := by decide +kernel
theorem dX9_readsText_29 : decode cX9_readsText 29 = .ok (.getfield 178, 3) := by decide +kernel
theorem dX9_readsText_32 : decode cX9_readsText 32 = .ok (.ifCond .ne 16, 3) := by decide +kernel
theorem dX9_readsText_35 : decode cX9_readsText 35 = .ok (.aload_n 0, 1) := by decide +kernel
theorem dX9_readsText_36 : decode cX9_readsText 36 = .ok (.invokevirtual 181, 3) := by decide +kernel
theorem dX9_readsText_39 : decode cX9_readsText 39 = .ok (.bipush 59, 2) := by decide +kernel
theorem dX9_readsText_41 : decode cX9_readsText 41 = .ok (.if_icmp .ne 7, 3) := by decide +kernel
theorem dX9_readsText_44 : decode cX9_readsText 44 = .ok (.iconst 1, 1) := by decide +kernel
theorem dX9_readsText_45 : decode cX9_readsText 45 = .ok (.goto 4, 3) := by decide +kernel
theorem dX9_readsText_48 : decode cX9_readsText 48 = .ok (.iconst 0, 1) := by decide +kernel
theorem dX9_readsText_49 : decode cX9_readsText 49 = .ok (.istore_n 2, 1) := by decide +kernel
theorem dX9_readsText_50 : decode cX9_readsText 50 = .ok (.aload_n 0, 1) := by decide +kernel
theorem dX9_readsText_51 : decode cX9_readsText 51 = .ok (.dup, 1) := by decide +kernel
theorem dX9_readsText_52 : decode cX9_readsText 52 = .ok (.getfield 175, 3) := by decide +kernel
theorem dX9_readsText_55 : decode cX9_readsText 55 = .ok (.iload_n 2, 1) := by decide +kernel
theorem dX9_readsText_56 : decode cX9_readsText 56 = .ok (.ifCond .eq 7, 3) := by decide +kernel
theorem dX9_readsText_59 : decode cX9_readsText 59 = .ok (.iconst 1, 1) := by decide +kernel
theorem dX9_readsText_60 : decode cX9_readsText 60 = .ok (.goto 4, 3) := by decide +kernel
theorem dX9_readsText_63 : decode cX9_readsText 63 = .ok (.iconst 0, 1) := by decide +kernel
theorem dX9_readsText_64 : decode cX9_readsText 64 = .ok (.iadd, 1) := by decide +kernel
theorem dX9_readsText_65 : decode cX9_readsText 65 = .ok (.putfield 175, 3) := by decide +kernel
theorem dX9_readsText_68 : decode cX9_readsText 68 = .ok (.goto (-54), 3) := by decide +kernel
theorem dX9_readsText_71 : decode cX9_readsText 71 = .ok (.aload_n 0, 1) := by decide +kernel
theorem dX9_readsText_72 : decode cX9_readsText 72 = .ok (.aload_n 0, 1) := by decide +kernel
theorem dX9_readsText_73 : decode cX9_readsText 73 = .ok (.getfield 178, 3) := by decide +kernel
theorem dX9_readsText_76 : decode cX9_readsText 76 = .ok (.ifCond .ne 14, 3) := by decide +kernel
theorem dX9_readsText_79 : decode cX9_readsText 79 = .ok (.aload_n 0, 1) := by decide +kernel
theorem dX9_readsText_80 : decode cX9_readsText 80 = .ok (.getfield 175, 3) := by decide +kernel
theorem dX9_readsText_83 : decode cX9_readsText 83 = .ok (.aload_n 0, 1) := by decide +kernel
theorem dX9_readsText_84 : decode cX9_readsText 84 = .ok (.getfield 172, 3) := by decide +kernel
theorem dX9_readsText_87 : decode cX9_readsText 87 = .ok (.if_icmp .ge 7, 3) := by decide +kernel
theorem dX9_readsText_90 : decode cX9_readsText 90 = .ok (.iconst 1, 1) := by decide +kernel
theorem dX9_readsText_91 : decode cX9_readsText 91 = .ok (.goto 4, 3) := by decide +kernel
theorem dX9_readsText_94 : decode cX9_readsText 94 = .ok (.iconst 0, 1) := by decide +kernel
theorem dX9_readsText_95 : decode cX9_readsText 95 = .ok (.putfield 178, 3) := by decide +kernel
theorem dX9_readsText_98 : decode cX9_readsText 98 = .ok (.aload_n 0, 1) := by decide +kernel
theorem dX9_readsText_99 : decode cX9_readsText 99 = .ok (.iconst 0, 1) := by decide +kernel
theorem dX9_readsText_100 : decode cX9_readsText 100 = .ok (.putfield 172, 3) := by decide +kernel
theorem dX9_readsText_103 : decode cX9_readsText 103 = .ok (.iload_n 1, 1) := by decide +kernel
theorem dX9_readsText_104 : decode cX9_readsText 104 = .ok (.ireturn, 1) := by decide +kernel
theorem dX9_does_0 : decode cX9_does 0 = .ok (.aload_n 0, 1) := by decide +kernel
theorem dX9_does_1 : decode cX9_does 1 = .ok (.getfield 30, 3) := by decide +kernel
theorem dX9_does_4 : decode cX9_does 4 = .ok (.iload_n 1, 1) := by decide +kernel
theorem dX9_does_5 : decode cX9_does 5 = .ok (.iconst 1, 1) := by decide +kernel
theorem dX9_does_6 : decode cX9_does 6 = .ok (.iadd, 1) := by decide +kernel
theorem dX9_does_7 : decode cX9_does 7 = .ok (.iaload, 1) := by decide +kernel
theorem dX9_does_8 : decode cX9_does 8 = .ok (.istore_n 2, 1) := by decide +kernel
theorem dX9_does_9 : decode cX9_does 9 = .ok (.aload_n 0, 1) := by decide +kernel
theorem dX9_does_10 : decode cX9_does 10 = .ok (.getfield 30, 3) := by decide +kernel
theorem dX9_does_13 : decode cX9_does 13 = .ok (.iload_n 1, 1) := by decide +kernel
theorem dX9_does_14 : decode cX9_does 14 = .ok (.iaload, 1) := by decide +kernel
theorem dX9_does_15 : decode cX9_does 15 = .ok (.lookupswitch 105 #[(98, 41), (108, 55), (115, 91), (116, 85)], 41) := by decide +kernel
theorem dX9_does_56 : decode cX9_does 56 = .ok (.aload_n 0, 1) := by decide +kernel
theorem dX9_does_57 : decode cX9_does 57 = .ok (.iload_n 2, 1) := by decide +kernel
theorem dX9_does_58 : decode cX9_does 58 = .ok (.aload_n 0, 1) := by decide +kernel
theorem dX9_does_59 : decode cX9_does 59 = .ok (.getfield 30, 3) := by decide +kernel
theorem dX9_does_62 : decode cX9_does 62 = .ok (.iload_n 1, 1) := by decide +kernel
theorem dX9_does_63 : decode cX9_does 63 = .ok (.iconst 2, 1) := by decide +kernel
theorem dX9_does_64 : decode cX9_does 64 = .ok (.iadd, 1) := by decide +kernel
theorem dX9_does_65 : decode cX9_does 65 = .ok (.iaload, 1) := by decide +kernel
theorem dX9_does_66 : decode cX9_does 66 = .ok (.invokevirtual 81, 3) := by decide +kernel
theorem dX9_does_69 : decode cX9_does 69 = .ok (.ireturn, 1) := by decide +kernel
theorem dX9_does_70 : decode cX9_does 70 = .ok (.aload_n 0, 1) := by decide +kernel
theorem dX9_does_71 : decode cX9_does 71 = .ok (.iload_n 2, 1) := by decide +kernel
theorem dX9_does_72 : decode cX9_does 72 = .ok (.aload_n 0, 1) := by decide +kernel
theorem dX9_does_73 : decode cX9_does 73 = .ok (.getfield 30, 3) := by decide +kernel
theorem dX9_does_76 : decode cX9_does 76 = .ok (.iload_n 1, 1) := by decide +kernel
theorem dX9_does_77 : decode cX9_does 77 = .ok (.iconst 2, 1) := by decide +kernel
theorem dX9_does_78 : decode cX9_does 78 = .ok (.iadd, 1) := by decide +kernel
theorem dX9_does_79 : decode cX9_does 79 = .ok (.iaload, 1) := by decide +kernel
theorem dX9_does_80 : decode cX9_does 80 = .ok (.aload_n 0, 1) := by decide +kernel
theorem dX9_does_81 : decode cX9_does 81 = .ok (.getfield 30, 3) := by decide +kernel
theorem dX9_does_84 : decode cX9_does 84 = .ok (.iload_n 1, 1) := by decide +kernel
theorem dX9_does_85 : decode cX9_does 85 = .ok (.iconst 3, 1) := by decide +kernel
theorem dX9_does_86 : decode cX9_does 86 = .ok (.iadd, 1) := by decide +kernel
theorem dX9_does_87 : decode cX9_does 87 = .ok (.iaload, 1) := by decide +kernel
theorem dX9_does_88 : decode cX9_does 88 = .ok (.aload_n 0, 1) := by decide +kernel
theorem dX9_does_89 : decode cX9_does 89 = .ok (.getfield 30, 3) := by decide +kernel
theorem dX9_does_92 : decode cX9_does 92 = .ok (.iload_n 1, 1) := by decide +kernel
theorem dX9_does_93 : decode cX9_does 93 = .ok (.iconst 4, 1) := by decide +kernel
theorem dX9_does_94 : decode cX9_does 94 = .ok (.iadd, 1) := by decide +kernel
theorem dX9_does_95 : decode cX9_does 95 = .ok (.iaload, 1) := by decide +kernel
theorem dX9_does_96 : decode cX9_does 96 = .ok (.invokevirtual 120, 3) := by decide +kernel
theorem dX9_does_99 : decode cX9_does 99 = .ok (.ireturn, 1) := by decide +kernel
theorem dX9_does_100 : decode cX9_does 100 = .ok (.aload_n 0, 1) := by decide +kernel
theorem dX9_does_101 : decode cX9_does 101 = .ok (.iload_n 2, 1) := by decide +kernel
theorem dX9_does_102 : decode cX9_does 102 = .ok (.invokevirtual 124, 3) := by decide +kernel
theorem dX9_does_105 : decode cX9_does 105 = .ok (.ireturn, 1) := by decide +kernel
theorem dX9_does_106 : decode cX9_does 106 = .ok (.aload_n 0, 1) := by decide +kernel
theorem dX9_does_107 : decode cX9_does 107 = .ok (.iload_n 2, 1) := by decide +kernel
theorem dX9_does_108 : decode cX9_does 108 = .ok (.aload_n 0, 1) := by decide +kernel
theorem dX9_does_109 : decode cX9_does 109 = .ok (.getfield 30, 3) := by decide +kernel
theorem dX9_does_112 : decode cX9_does 112 = .ok (.iload_n 1, 1) := by decide +kernel
theorem dX9_does_113 : decode cX9_does 113 = .ok (.iconst 2, 1) := by decide +kernel
theorem dX9_does_114 : decode cX9_does 114 = .ok (.iadd, 1) := by decide +kernel
theorem dX9_does_115 : decode cX9_does 115 = .ok (.iaload, 1) := by decide +kernel
theorem dX9_does_116 : decode cX9_does 116 = .ok (.invokevirtual 152, 3) := by decide +kernel
theorem dX9_does_119 : decode cX9_does 119 = .ok (.ireturn, 1) := by decide +kernel
theorem dX9_does_120 : decode cX9_does 120 = .ok (.aload_n 0, 1) := by decide +kernel
theorem dX9_does_121 : decode cX9_does 121 = .ok (.iload_n 2, 1) := by decide +kernel
theorem dX9_does_122 : decode cX9_does 122 = .ok (.invokevirtual 169, 3) := by decide +kernel
theorem dX9_does_125 : decode cX9_does 125 = .ok (.ireturn, 1) := by decide +kernel
theorem dX9_read_0 : decode cX9_read 0 = .ok (.aload_n 0, 1) := by decide +kernel
theorem dX9_read_1 : decode cX9_read 1 = .ok (.invokevirtual 196, 3) := by decide +kernel
theorem dX9_read_4 : decode cX9_read 4 = .ok (.istore_n 1, 1) := by decide +kernel
theorem dX9_read_5 : decode cX9_read 5 = .ok (.aload_n 0, 1) := by decide +kernel
theorem dX9_read_6 : decode cX9_read 6 = .ok (.aload_n 0, 1) := by decide +kernel
theorem dX9_read_7 : decode cX9_read 7 = .ok (.getfield 178, 3) := by decide +kernel
theorem dX9_read_10 : decode cX9_read 10 = .ok (.ifCond .eq 10, 3) := by decide +kernel
theorem dX9_read_13 : decode cX9_read 13 = .ok (.aload_n 0, 1) := by decide +kernel
theorem dX9_read_14 : decode cX9_read 14 = .ok (.getfield 175, 3) := by decide +kernel
theorem dX9_read_17 : decode cX9_read 17 = .ok (.goto 4, 3) := by decide +kernel
theorem dX9_read_20 : decode cX9_read 20 = .ok (.iconst (-1), 1) := by decide +kernel
theorem dX9_read_21 : decode cX9_read 21 = .ok (.putfield 26, 3) := by decide +kernel
theorem dX9_read_24 : decode cX9_read 24 = .ok (.aload_n 0, 1) := by decide +kernel
theorem dX9_read_25 : decode cX9_read 25 = .ok (.getfield 178, 3) := by decide +kernel
theorem dX9_read_28 : decode cX9_read 28 = .ok (.ifCond .eq 9, 3) := by decide +kernel
theorem dX9_read_31 : decode cX9_read 31 = .ok (.aload_n 0, 1) := by decide +kernel
theorem dX9_read_32 : decode cX9_read 32 = .ok (.iconst 1, 1) := by decide +kernel
theorem dX9_read_33 : decode cX9_read 33 = .ok (.invokevirtual 57, 3) := by decide +kernel
theorem dX9_read_36 : decode cX9_read 36 = .ok (.ireturn, 1) := by decide +kernel
theorem dX9_read_37 : decode cX9_read 37 = .ok (.aload_n 0, 1) := by decide +kernel
theorem dX9_read_38 : decode cX9_read 38 = .ok (.invokevirtual 61, 3) := by decide +kernel
theorem dX9_read_41 : decode cX9_read 41 = .ok (.iconst 0, 1) := by decide +kernel
theorem dX9_read_42 : decode cX9_read 42 = .ok (.istore_n 2, 1) := by decide +kernel
theorem dX9_read_43 : decode cX9_read 43 = .ok (.iload_n 2, 1) := by decide +kernel
theorem dX9_read_44 : decode cX9_read 44 = .ok (.iload_n 1, 1) := by decide +kernel
theorem dX9_read_45 : decode cX9_read 45 = .ok (.if_icmp .ge 46, 3) := by decide +kernel
theorem dX9_read_48 : decode cX9_read 48 = .ok (.aload_n 0, 1) := by decide +kernel
theorem dX9_read_49 : decode cX9_read 49 = .ok (.iconst 5, 1) := by decide +kernel
theorem dX9_read_50 : decode cX9_read 50 = .ok (.iload_n 2, 1) := by decide +kernel
theorem dX9_read_51 : decode cX9_read 51 = .ok (.imul, 1) := by decide +kernel
theorem dX9_read_52 : decode cX9_read 52 = .ok (.invokevirtual 199, 3) := by decide +kernel
theorem dX9_read_55 : decode cX9_read 55 = .ok (.istore_n 3, 1) := by decide +kernel
theorem dX9_read_56 : decode cX9_read 56 = .ok (.aload_n 0, 1) := by decide +kernel
theorem dX9_read_57 : decode cX9_read 57 = .ok (.getfield 33, 3) := by decide +kernel
theorem dX9_read_60 : decode cX9_read 60 = .ok (.ifCond .eq 25, 3) := by decide +kernel
theorem dX9_read_63 : decode cX9_read 63 = .ok (.aload_n 0, 1) := by decide +kernel
theorem dX9_read_64 : decode cX9_read 64 = .ok (.aload_n 0, 1) := by decide +kernel
theorem dX9_read_65 : decode cX9_read 65 = .ok (.getfield 36, 3) := by decide +kernel
theorem dX9_read_68 : decode cX9_read 68 = .ok (.ifCond .eq 7, 3) := by decide +kernel
theorem dX9_read_71 : decode cX9_read 71 = .ok (.iconst 2, 1) := by decide +kernel
theorem dX9_read_72 : decode cX9_read 72 = .ok (.goto 4, 3) := by decide +kernel
theorem dX9_read_75 : decode cX9_read 75 = .ok (.iconst 1, 1) := by decide +kernel
theorem dX9_read_76 : decode cX9_read 76 = .ok (.putfield 33, 3) := by decide +kernel
theorem dX9_read_79 : decode cX9_read 79 = .ok (.aload_n 0, 1) := by decide +kernel
theorem dX9_read_80 : decode cX9_read 80 = .ok (.iconst 0, 1) := by decide +kernel
theorem dX9_read_81 : decode cX9_read 81 = .ok (.invokevirtual 67, 3) := by decide +kernel
theorem dX9_read_84 : decode cX9_read 84 = .ok (.ireturn, 1) := by decide +kernel
theorem dX9_read_85 : decode cX9_read 85 = .ok (.iinc 2 1, 3) := by decide +kernel
theorem dX9_read_88 : decode cX9_read 88 = .ok (.goto (-45), 3) := by decide +kernel
theorem dX9_read_91 : decode cX9_read 91 = .ok (.aload_n 0, 1) := by decide +kernel
theorem dX9_read_92 : decode cX9_read 92 = .ok (.aload_n 0, 1) := by decide +kernel
theorem dX9_read_93 : decode cX9_read 93 = .ok (.iload_n 1, 1) := by decide +kernel
theorem dX9_read_94 : decode cX9_read 94 = .ok (.invokevirtual 64, 3) := by decide +kernel
theorem dX9_read_97 : decode cX9_read 97 = .ok (.invokevirtual 67, 3) := by decide +kernel
theorem dX9_read_100 : decode cX9_read 100 = .ok (.ireturn, 1) := by decide +kernel
theorem dX9_errorPosition_0 : decode cX9_errorPosition 0 = .ok (.aload_n 0, 1) := by decide +kernel
theorem dX9_errorPosition_1 : decode cX9_errorPosition 1 = .ok (.aload_n 0, 1) := by decide +kernel
theorem dX9_errorPosition_2 : decode cX9_errorPosition 2 = .ok (.getfield 26, 3) := by decide +kernel
theorem dX9_errorPosition_5 : decode cX9_errorPosition 5 = .ok (.invokevirtual 64, 3) := by decide +kernel
theorem dX9_errorPosition_8 : decode cX9_errorPosition 8 = .ok (.ireturn, 1) := by decide +kernel
theorem dX9_refusal_0 : decode cX9_refusal 0 = .ok (.aload_n 0, 1) := by decide +kernel
theorem dX9_refusal_1 : decode cX9_refusal 1 = .ok (.getfield 40, 3) := by decide +kernel
theorem dX9_refusal_4 : decode cX9_refusal 4 = .ok (.ifCond .ne 11, 3) := by decide +kernel
theorem dX9_refusal_7 : decode cX9_refusal 7 = .ok (.aload_n 0, 1) := by decide +kernel
theorem dX9_refusal_8 : decode cX9_refusal 8 = .ok (.iconst 1, 1) := by decide +kernel
theorem dX9_refusal_9 : decode cX9_refusal 9 = .ok (.invokevirtual 57, 3) := by decide +kernel
theorem dX9_refusal_12 : decode cX9_refusal 12 = .ok (.goto 22, 3) := by decide +kernel
theorem dX9_refusal_15 : decode cX9_refusal 15 = .ok (.aload_n 0, 1) := by decide +kernel
theorem dX9_refusal_16 : decode cX9_refusal 16 = .ok (.iload_n 1, 1) := by decide +kernel
theorem dX9_refusal_17 : decode cX9_refusal 17 = .ok (.ifCond .eq 10, 3) := by decide +kernel
theorem dX9_refusal_20 : decode cX9_refusal 20 = .ok (.aload_n 0, 1) := by decide +kernel
theorem dX9_refusal_21 : decode cX9_refusal 21 = .ok (.getfield 43, 3) := by decide +kernel
theorem dX9_refusal_24 : decode cX9_refusal 24 = .ok (.goto 7, 3) := by decide +kernel
theorem dX9_refusal_27 : decode cX9_refusal 27 = .ok (.aload_n 0, 1) := by decide +kernel
theorem dX9_refusal_28 : decode cX9_refusal 28 = .ok (.getfield 40, 3) := by decide +kernel
theorem dX9_refusal_31 : decode cX9_refusal 31 = .ok (.invokevirtual 64, 3) := by decide +kernel
theorem dX9_refusal_34 : decode cX9_refusal 34 = .ok (.ireturn, 1) := by decide +kernel
theorem dX9_busy_0 : decode cX9_busy 0 = .ok (.iconst 0, 1) := by decide +kernel
theorem dX9_busy_1 : decode cX9_busy 1 = .ok (.istore_n 1, 1) := by decide +kernel
theorem dX9_busy_2 : decode cX9_busy 2 = .ok (.iconst 0, 1) := by decide +kernel
theorem dX9_busy_3 : decode cX9_busy 3 = .ok (.istore_n 2, 1) := by decide +kernel
theorem dX9_busy_4 : decode cX9_busy 4 = .ok (.iload_n 2, 1) := by decide +kernel
theorem dX9_busy_5 : decode cX9_busy 5 = .ok (.aload_n 0, 1) := by decide +kernel
theorem dX9_busy_6 : decode cX9_busy 6 = .ok (.getfield 7, 3) := by decide +kernel
theorem dX9_busy_9 : decode cX9_busy 9 = .ok (.bipush 48, 2) := by decide +kernel
theorem dX9_busy_11 : decode cX9_busy 11 = .ok (.iaload, 1) := by decide +kernel
theorem dX9_busy_12 : decode cX9_busy 12 = .ok (.if_icmp .ge 29, 3) := by decide +kernel
theorem dX9_busy_15 : decode cX9_busy 15 = .ok (.iload_n 1, 1) := by decide +kernel
theorem dX9_busy_16 : decode cX9_busy 16 = .ok (.aload_n 0, 1) := by decide +kernel
theorem dX9_busy_17 : decode cX9_busy 17 = .ok (.getfield 7, 3) := by decide +kernel
theorem dX9_busy_20 : decode cX9_busy 20 = .ok (.bipush 53, 2) := by decide +kernel
theorem dX9_busy_22 : decode cX9_busy 22 = .ok (.iload_n 2, 1) := by decide +kernel
theorem dX9_busy_23 : decode cX9_busy 23 = .ok (.iadd, 1) := by decide +kernel
theorem dX9_busy_24 : decode cX9_busy 24 = .ok (.iaload, 1) := by decide +kernel
theorem dX9_busy_25 : decode cX9_busy 25 = .ok (.ifCond .le 7, 3) := by decide +kernel
theorem dX9_busy_28 : decode cX9_busy 28 = .ok (.iconst 1, 1) := by decide +kernel
theorem dX9_busy_29 : decode cX9_busy 29 = .ok (.goto 4, 3) := by decide +kernel
theorem dX9_busy_32 : decode cX9_busy 32 = .ok (.iconst 0, 1) := by decide +kernel
theorem dX9_busy_33 : decode cX9_busy 33 = .ok (.iadd, 1) := by decide +kernel
theorem dX9_busy_34 : decode cX9_busy 34 = .ok (.istore_n 1, 1) := by decide +kernel
theorem dX9_busy_35 : decode cX9_busy 35 = .ok (.iinc 2 1, 3) := by decide +kernel
theorem dX9_busy_38 : decode cX9_busy 38 = .ok (.goto (-34), 3) := by decide +kernel
theorem dX9_busy_41 : decode cX9_busy 41 = .ok (.iload_n 1, 1) := by decide +kernel
theorem dX9_busy_42 : decode cX9_busy 42 = .ok (.ireturn, 1) := by decide +kernel
theorem dX9_inTowers_0 : decode cX9_inTowers 0 = .ok (.iconst 0, 1) := by decide +kernel
theorem dX9_inTowers_1 : decode cX9_inTowers 1 = .ok (.istore_n 1, 1) := by decide +kernel
theorem dX9_inTowers_2 : decode cX9_inTowers 2 = .ok (.iconst 0, 1) := by decide +kernel
theorem dX9_inTowers_3 : decode cX9_inTowers 3 = .ok (.istore_n 2, 1) := by decide +kernel
theorem dX9_inTowers_4 : decode cX9_inTowers 4 = .ok (.iload_n 2, 1) := by decide +kernel
theorem dX9_inTowers_5 : decode cX9_inTowers 5 = .ok (.aload_n 0, 1) := by decide +kernel
theorem dX9_inTowers_6 : decode cX9_inTowers 6 = .ok (.getfield 7, 3) := by decide +kernel
theorem dX9_inTowers_9 : decode cX9_inTowers 9 = .ok (.bipush 29, 2) := by decide +kernel
theorem dX9_inTowers_11 : decode cX9_inTowers 11 = .ok (.iaload, 1) := by decide +kernel
theorem dX9_inTowers_12 : decode cX9_inTowers 12 = .ok (.if_icmp .ge 17, 3) := by decide +kernel
theorem dX9_inTowers_15 : decode cX9_inTowers 15 = .ok (.iload_n 1, 1) := by decide +kernel
theorem dX9_inTowers_16 : decode cX9_inTowers 16 = .ok (.aload_n 0, 1) := by decide +kernel
theorem dX9_inTowers_17 : decode cX9_inTowers 17 = .ok (.iload_n 2, 1) := by decide +kernel
theorem dX9_inTowers_18 : decode cX9_inTowers 18 = .ok (.invokevirtual 134, 3) := by decide +kernel
theorem dX9_inTowers_21 : decode cX9_inTowers 21 = .ok (.iadd, 1) := by decide +kernel
theorem dX9_inTowers_22 : decode cX9_inTowers 22 = .ok (.istore_n 1, 1) := by decide +kernel
theorem dX9_inTowers_23 : decode cX9_inTowers 23 = .ok (.iinc 2 1, 3) := by decide +kernel
theorem dX9_inTowers_26 : decode cX9_inTowers 26 = .ok (.goto (-22), 3) := by decide +kernel
theorem dX9_inTowers_29 : decode cX9_inTowers 29 = .ok (.iload_n 1, 1) := by decide +kernel
theorem dX9_inTowers_30 : decode cX9_inTowers 30 = .ok (.ireturn, 1) := by decide +kernel
theorem dX9_account_0 : decode cX9_account 0 = .ok (.iload_n 1, 1) := by decide +kernel
theorem dX9_account_1 : decode cX9_account 1 = .ok (.tableswitch 242 0 16 #[83, 83, 94, 106, 118, 127, 139, 139, 139, 156, 168, 177, 177, 194, 212, 224, 233], 83) := by decide +kernel
theorem dX9_account_84 : decode cX9_account 84 = .ok (.aload_n 0, 1) := by decide +kernel
theorem dX9_account_85 : decode cX9_account 85 = .ok (.aload_n 0, 1) := by decide +kernel
theorem dX9_account_86 : decode cX9_account 86 = .ok (.getfield 7, 3) := by decide +kernel
theorem dX9_account_89 : decode cX9_account 89 = .ok (.iload_n 1, 1) := by decide +kernel
theorem dX9_account_90 : decode cX9_account 90 = .ok (.iaload, 1) := by decide +kernel
theorem dX9_account_91 : decode cX9_account 91 = .ok (.invokevirtual 64, 3) := by decide +kernel
theorem dX9_account_94 : decode cX9_account 94 = .ok (.ireturn, 1) := by decide +kernel
theorem dX9_account_95 : decode cX9_account 95 = .ok (.aload_n 0, 1) := by decide +kernel
theorem dX9_account_96 : decode cX9_account 96 = .ok (.aload_n 0, 1) := by decide +kernel
theorem dX9_account_97 : decode cX9_account 97 = .ok (.getfield 7, 3) := by decide +kernel
theorem dX9_account_100 : decode cX9_account 100 = .ok (.bipush 29, 2) := by decide +kernel
theorem dX9_account_102 : decode cX9_account 102 = .ok (.iaload, 1) := by decide +kernel
theorem dX9_account_103 : decode cX9_account 103 = .ok (.invokevirtual 64, 3) := by decide +kernel
theorem dX9_account_106 : decode cX9_account 106 = .ok (.ireturn, 1) := by decide +kernel
theorem dX9_account_107 : decode cX9_account 107 = .ok (.aload_n 0, 1) := by decide +kernel
theorem dX9_account_108 : decode cX9_account 108 = .ok (.aload_n 0, 1) := by decide +kernel
theorem dX9_account_109 : decode cX9_account 109 = .ok (.getfield 7, 3) := by decide +kernel
theorem dX9_account_112 : decode cX9_account 112 = .ok (.bipush 48, 2) := by decide +kernel
theorem dX9_account_114 : decode cX9_account 114 = .ok (.iaload, 1) := by decide +kernel
theorem dX9_account_115 : decode cX9_account 115 = .ok (.invokevirtual 64, 3) := by decide +kernel
theorem dX9_account_118 : decode cX9_account 118 = .ok (.ireturn, 1) := by decide +kernel
theorem dX9_account_119 : decode cX9_account 119 = .ok (.aload_n 0, 1) := by decide +kernel
theorem dX9_account_120 : decode cX9_account 120 = .ok (.aload_n 0, 1) := by decide +kernel
theorem dX9_account_121 : decode cX9_account 121 = .ok (.invokevirtual 202, 3) := by decide +kernel
theorem dX9_account_124 : decode cX9_account 124 = .ok (.invokevirtual 64, 3) := by decide +kernel
theorem dX9_account_127 : decode cX9_account 127 = .ok (.ireturn, 1) := by decide +kernel
theorem dX9_account_128 : decode cX9_account 128 = .ok (.aload_n 0, 1) := by decide +kernel
theorem dX9_account_129 : decode cX9_account 129 = .ok (.aload_n 0, 1) := by decide +kernel
theorem dX9_account_130 : decode cX9_account 130 = .ok (.getfield 7, 3) := by decide +kernel
theorem dX9_account_133 : decode cX9_account 133 = .ok (.bipush 61, 2) := by decide +kernel
theorem dX9_account_135 : decode cX9_account 135 = .ok (.iaload, 1) := by decide +kernel
theorem dX9_account_136 : decode cX9_account 136 = .ok (.invokevirtual 64, 3) := by decide +kernel
theorem dX9_account_139 : decode cX9_account 139 = .ok (.ireturn, 1) := by decide +kernel
theorem dX9_account_140 : decode cX9_account 140 = .ok (.aload_n 0, 1) := by decide +kernel
theorem dX9_account_141 : decode cX9_account 141 = .ok (.aload_n 0, 1) := by decide +kernel
theorem dX9_account_142 : decode cX9_account 142 = .ok (.getfield 7, 3) := by decide +kernel
theorem dX9_account_145 : decode cX9_account 145 = .ok (.bipush 93, 2) := by decide +kernel
theorem dX9_account_147 : decode cX9_account 147 = .ok (.iload_n 1, 1) := by decide +kernel
theorem dX9_account_148 : decode cX9_account 148 = .ok (.iadd, 1) := by decide +kernel
theorem dX9_account_149 : decode cX9_account 149 = .ok (.bipush 6, 2) := by decide +kernel
theorem dX9_account_151 : decode cX9_account 151 = .ok (.isub, 1) := by decide +kernel
theorem dX9_account_152 : decode cX9_account 152 = .ok (.iaload, 1) := by decide +kernel
theorem dX9_account_153 : decode cX9_account 153 = .ok (.invokevirtual 64, 3) := by decide +kernel
theorem dX9_account_156 : decode cX9_account 156 = .ok (.ireturn, 1) := by decide +kernel
theorem dX9_account_157 : decode cX9_account 157 = .ok (.aload_n 0, 1) := by decide +kernel
theorem dX9_account_158 : decode cX9_account 158 = .ok (.aload_n 0, 1) := by decide +kernel
theorem dX9_account_159 : decode cX9_account 159 = .ok (.bipush 26, 2) := by decide +kernel
theorem dX9_account_161 : decode cX9_account 161 = .ok (.iconst 3, 1) := by decide +kernel
theorem dX9_account_162 : decode cX9_account 162 = .ok (.invokevirtual 131, 3) := by decide +kernel
theorem dX9_account_165 : decode cX9_account 165 = .ok (.invokevirtual 64, 3) := by decide +kernel
theorem dX9_account_168 : decode cX9_account 168 = .ok (.ireturn, 1) := by decide +kernel
theorem dX9_account_169 : decode cX9_account 169 = .ok (.aload_n 0, 1) := by decide +kernel
theorem dX9_account_170 : decode cX9_account 170 = .ok (.aload_n 0, 1) := by decide +kernel
theorem dX9_account_171 : decode cX9_account 171 = .ok (.invokevirtual 205, 3) := by decide +kernel
theorem dX9_account_174 : decode cX9_account 174 = .ok (.invokevirtual 64, 3) := by decide +kernel
theorem dX9_account_177 : decode cX9_account 177 = .ok (.ireturn, 1) := by decide +kernel
theorem dX9_account_178 : decode cX9_account 178 = .ok (.aload_n 0, 1) := by decide +kernel
theorem dX9_account_179 : decode cX9_account 179 = .ok (.aload_n 0, 1) := by decide +kernel
theorem dX9_account_180 : decode cX9_account 180 = .ok (.getfield 7, 3) := by decide +kernel
theorem dX9_account_183 : decode cX9_account 183 = .ok (.bipush 96, 2) := by decide +kernel
theorem dX9_account_185 : decode cX9_account 185 = .ok (.iload_n 1, 1) := by decide +kernel
theorem dX9_account_186 : decode cX9_account 186 = .ok (.iadd, 1) := by decide +kernel
theorem dX9_account_187 : decode cX9_account 187 = .ok (.bipush 11, 2) := by decide +kernel
theorem dX9_account_189 : decode cX9_account 189 = .ok (.isub, 1) := by decide +kernel
theorem dX9_account_190 : decode cX9_account 190 = .ok (.iaload, 1) := by decide +kernel
theorem dX9_account_191 : decode cX9_account 191 = .ok (.invokevirtual 64, 3) := by decide +kernel
theorem dX9_account_194 : decode cX9_account 194 = .ok (.ireturn, 1) := by decide +kernel
theorem dX9_account_195 : decode cX9_account 195 = .ok (.aload_n 0, 1) := by decide +kernel
theorem dX9_account_196 : decode cX9_account 196 = .ok (.aload_n 0, 1) := by decide +kernel
theorem dX9_account_197 : decode cX9_account 197 = .ok (.bipush 36, 2) := by decide +kernel
theorem dX9_account_199 : decode cX9_account 199 = .ok (.aload_n 0, 1) := by decide +kernel
theorem dX9_account_200 : decode cX9_account 200 = .ok (.getfield 7, 3) := by decide +kernel
theorem dX9_account_203 : decode cX9_account 203 = .ok (.bipush 29, 2) := by decide +kernel
theorem dX9_account_205 : decode cX9_account 205 = .ok (.iaload, 1) := by decide +kernel
theorem dX9_account_206 : decode cX9_account 206 = .ok (.invokevirtual 131, 3) := by decide +kernel
theorem dX9_account_209 : decode cX9_account 209 = .ok (.invokevirtual 64, 3) := by decide +kernel
theorem dX9_account_212 : decode cX9_account 212 = .ok (.ireturn, 1) := by decide +kernel
theorem dX9_account_213 : decode cX9_account 213 = .ok (.aload_n 0, 1) := by decide +kernel
theorem dX9_account_214 : decode cX9_account 214 = .ok (.aload_n 0, 1) := by decide +kernel
theorem dX9_account_215 : decode cX9_account 215 = .ok (.getfield 7, 3) := by decide +kernel
theorem dX9_account_218 : decode cX9_account 218 = .ok (.bipush 98, 2) := by decide +kernel
theorem dX9_account_220 : decode cX9_account 220 = .ok (.iaload, 1) := by decide +kernel
theorem dX9_account_221 : decode cX9_account 221 = .ok (.invokevirtual 64, 3) := by decide +kernel
theorem dX9_account_224 : decode cX9_account 224 = .ok (.ireturn, 1) := by decide +kernel
theorem dX9_account_225 : decode cX9_account 225 = .ok (.aload_n 0, 1) := by decide +kernel
theorem dX9_account_226 : decode cX9_account 226 = .ok (.aload_n 0, 1) := by decide +kernel
theorem dX9_account_227 : decode cX9_account 227 = .ok (.getfield 172, 3) := by decide +kernel
theorem dX9_account_230 : decode cX9_account 230 = .ok (.invokevirtual 64, 3) := by decide +kernel
theorem dX9_account_233 : decode cX9_account 233 = .ok (.ireturn, 1) := by decide +kernel
theorem dX9_account_234 : decode cX9_account 234 = .ok (.aload_n 0, 1) := by decide +kernel
theorem dX9_account_235 : decode cX9_account 235 = .ok (.aload_n 0, 1) := by decide +kernel
theorem dX9_account_236 : decode cX9_account 236 = .ok (.getfield 50, 3) := by decide +kernel
theorem dX9_account_239 : decode cX9_account 239 = .ok (.invokevirtual 64, 3) := by decide +kernel
theorem dX9_account_242 : decode cX9_account 242 = .ok (.ireturn, 1) := by decide +kernel
theorem dX9_account_243 : decode cX9_account 243 = .ok (.aload_n 0, 1) := by decide +kernel
theorem dX9_account_244 : decode cX9_account 244 = .ok (.iconst 1, 1) := by decide +kernel
theorem dX9_account_245 : decode cX9_account 245 = .ok (.invokevirtual 57, 3) := by decide +kernel
theorem dX9_account_248 : decode cX9_account 248 = .ok (.ireturn, 1) := by decide +kernel
theorem dX9_isWell_0 : decode cX9_isWell 0 = .ok (.aload_n 0, 1) := by decide +kernel
theorem dX9_isWell_1 : decode cX9_isWell 1 = .ok (.iconst 0, 1) := by decide +kernel
theorem dX9_isWell_2 : decode cX9_isWell 2 = .ok (.putfield 33, 3) := by decide +kernel
theorem dX9_isWell_5 : decode cX9_isWell 5 = .ok (.aload_n 0, 1) := by decide +kernel
theorem dX9_isWell_6 : decode cX9_isWell 6 = .ok (.getfield 7, 3) := by decide +kernel
theorem dX9_isWell_9 : decode cX9_isWell 9 = .ok (.bipush 95, 2) := by decide +kernel
theorem dX9_isWell_11 : decode cX9_isWell 11 = .ok (.iaload, 1) := by decide +kernel
theorem dX9_isWell_12 : decode cX9_isWell 12 = .ok (.aload_n 0, 1) := by decide +kernel
theorem dX9_isWell_13 : decode cX9_isWell 13 = .ok (.bipush 26, 2) := by decide +kernel
theorem dX9_isWell_15 : decode cX9_isWell 15 = .ok (.iconst 3, 1) := by decide +kernel
theorem dX9_isWell_16 : decode cX9_isWell 16 = .ok (.invokevirtual 131, 3) := by decide +kernel
theorem dX9_isWell_19 : decode cX9_isWell 19 = .ok (.aload_n 0, 1) := by decide +kernel
theorem dX9_isWell_20 : decode cX9_isWell 20 = .ok (.invokevirtual 205, 3) := by decide +kernel
theorem dX9_isWell_23 : decode cX9_isWell 23 = .ok (.iadd, 1) := by decide +kernel
theorem dX9_isWell_24 : decode cX9_isWell 24 = .ok (.aload_n 0, 1) := by decide +kernel
theorem dX9_isWell_25 : decode cX9_isWell 25 = .ok (.getfield 7, 3) := by decide +kernel
theorem dX9_isWell_28 : decode cX9_isWell 28 = .ok (.bipush 96, 2) := by decide +kernel
theorem dX9_isWell_30 : decode cX9_isWell 30 = .ok (.iaload, 1) := by decide +kernel
theorem dX9_isWell_31 : decode cX9_isWell 31 = .ok (.iadd, 1) := by decide +kernel
theorem dX9_isWell_32 : decode cX9_isWell 32 = .ok (.aload_n 0, 1) := by decide +kernel
theorem dX9_isWell_33 : decode cX9_isWell 33 = .ok (.getfield 7, 3) := by decide +kernel
theorem dX9_isWell_36 : decode cX9_isWell 36 = .ok (.bipush 97, 2) := by decide +kernel
theorem dX9_isWell_38 : decode cX9_isWell 38 = .ok (.iaload, 1) := by decide +kernel
theorem dX9_isWell_39 : decode cX9_isWell 39 = .ok (.iadd, 1) := by decide +kernel
theorem dX9_isWell_40 : decode cX9_isWell 40 = .ok (.if_icmp .ne 34, 3) := by decide +kernel
theorem dX9_isWell_43 : decode cX9_isWell 43 = .ok (.aload_n 0, 1) := by decide +kernel
theorem dX9_isWell_44 : decode cX9_isWell 44 = .ok (.getfield 7, 3) := by decide +kernel
theorem dX9_isWell_47 : decode cX9_isWell 47 = .ok (.iconst 1, 1) := by decide +kernel
theorem dX9_isWell_48 : decode cX9_isWell 48 = .ok (.iaload, 1) := by decide +kernel
theorem dX9_isWell_49 : decode cX9_isWell 49 = .ok (.bipush 100, 2) := by decide +kernel
theorem dX9_isWell_51 : decode cX9_isWell 51 = .ok (.aload_n 0, 1) := by decide +kernel
theorem dX9_isWell_52 : decode cX9_isWell 52 = .ok (.getfield 7, 3) := by decide +kernel
theorem dX9_isWell_55 : decode cX9_isWell 55 = .ok (.bipush 99, 2) := by decide +kernel
theorem dX9_isWell_57 : decode cX9_isWell 57 = .ok (.iaload, 1) := by decide +kernel
theorem dX9_isWell_58 : decode cX9_isWell 58 = .ok (.isub, 1) := by decide +kernel
theorem dX9_isWell_59 : decode cX9_isWell 59 = .ok (.aload_n 0, 1) := by decide +kernel
theorem dX9_isWell_60 : decode cX9_isWell 60 = .ok (.getfield 7, 3) := by decide +kernel
theorem dX9_isWell_63 : decode cX9_isWell 63 = .ok (.bipush 98, 2) := by decide +kernel
theorem dX9_isWell_65 : decode cX9_isWell 65 = .ok (.iaload, 1) := by decide +kernel
theorem dX9_isWell_66 : decode cX9_isWell 66 = .ok (.iadd, 1) := by decide +kernel
theorem dX9_isWell_67 : decode cX9_isWell 67 = .ok (.if_icmp .ne 7, 3) := by decide +kernel
theorem dX9_isWell_70 : decode cX9_isWell 70 = .ok (.iconst 1, 1) := by decide +kernel
theorem dX9_isWell_71 : decode cX9_isWell 71 = .ok (.goto 4, 3) := by decide +kernel
theorem dX9_isWell_74 : decode cX9_isWell 74 = .ok (.iconst 0, 1) := by decide +kernel
theorem dX9_isWell_75 : decode cX9_isWell 75 = .ok (.istore_n 1, 1) := by decide +kernel
theorem dX9_isWell_76 : decode cX9_isWell 76 = .ok (.iconst 0, 1) := by decide +kernel
theorem dX9_isWell_77 : decode cX9_isWell 77 = .ok (.istore_n 2, 1) := by decide +kernel
theorem dX9_isWell_78 : decode cX9_isWell 78 = .ok (.iload_n 2, 1) := by decide +kernel
theorem dX9_isWell_79 : decode cX9_isWell 79 = .ok (.aload_n 0, 1) := by decide +kernel
theorem dX9_isWell_80 : decode cX9_isWell 80 = .ok (.getfield 7, 3) := by decide +kernel
theorem dX9_isWell_83 : decode cX9_isWell 83 = .ok (.bipush 29, 2) := by decide +kernel
theorem dX9_isWell_85 : decode cX9_isWell 85 = .ok (.iaload, 1) := by decide +kernel
theorem dX9_isWell_86 : decode cX9_isWell 86 = .ok (.if_icmp .ge 57, 3) := by decide +kernel
theorem dX9_isWell_89 : decode cX9_isWell 89 = .ok (.iconst 1, 1) := by decide +kernel
theorem dX9_isWell_90 : decode cX9_isWell 90 = .ok (.istore_n 3, 1) := by decide +kernel
theorem dX9_isWell_91 : decode cX9_isWell 91 = .ok (.iload_n 3, 1) := by decide +kernel
theorem dX9_isWell_92 : decode cX9_isWell 92 = .ok (.aload_n 0, 1) := by decide +kernel
theorem dX9_isWell_93 : decode cX9_isWell 93 = .ok (.getfield 7, 3) := by decide +kernel
theorem dX9_isWell_96 : decode cX9_isWell 96 = .ok (.bipush 36, 2) := by decide +kernel
theorem dX9_isWell_98 : decode cX9_isWell 98 = .ok (.iload_n 2, 1) := by decide +kernel
theorem dX9_isWell_99 : decode cX9_isWell 99 = .ok (.iadd, 1) := by decide +kernel
theorem dX9_isWell_100 : decode cX9_isWell 100 = .ok (.iaload, 1) := by decide +kernel
theorem dX9_isWell_101 : decode cX9_isWell 101 = .ok (.if_icmp .ge 36, 3) := by decide +kernel
theorem dX9_isWell_104 : decode cX9_isWell 104 = .ok (.iload_n 1, 1) := by decide +kernel
theorem dX9_isWell_105 : decode cX9_isWell 105 = .ok (.ifCond .eq 24, 3) := by decide +kernel
theorem dX9_isWell_108 : decode cX9_isWell 108 = .ok (.aload_n 0, 1) := by decide +kernel
theorem dX9_isWell_109 : decode cX9_isWell 109 = .ok (.iload_n 2, 1) := by decide +kernel
theorem dX9_isWell_110 : decode cX9_isWell 110 = .ok (.iload_n 3, 1) := by decide +kernel
theorem dX9_isWell_111 : decode cX9_isWell 111 = .ok (.invokevirtual 94, 3) := by decide +kernel
theorem dX9_isWell_114 : decode cX9_isWell 114 = .ok (.aload_n 0, 1) := by decide +kernel
theorem dX9_isWell_115 : decode cX9_isWell 115 = .ok (.iload_n 2, 1) := by decide +kernel
theorem dX9_isWell_116 : decode cX9_isWell 116 = .ok (.iload_n 3, 1) := by decide +kernel
theorem dX9_isWell_117 : decode cX9_isWell 117 = .ok (.iconst 1, 1) := by decide +kernel
theorem dX9_isWell_118 : decode cX9_isWell 118 = .ok (.isub, 1) := by decide +kernel
theorem dX9_isWell_119 : decode cX9_isWell 119 = .ok (.invokevirtual 94, 3) := by decide +kernel
theorem dX9_isWell_122 : decode cX9_isWell 122 = .ok (.if_icmp .gt 7, 3) := by decide +kernel
theorem dX9_isWell_125 : decode cX9_isWell 125 = .ok (.iconst 1, 1) := by decide +kernel
theorem dX9_isWell_126 : decode cX9_isWell 126 = .ok (.goto 4, 3) := by decide +kernel
theorem dX9_isWell_129 : decode cX9_isWell 129 = .ok (.iconst 0, 1) := by decide +kernel
theorem dX9_isWell_130 : decode cX9_isWell 130 = .ok (.istore_n 1, 1) := by decide +kernel
theorem dX9_isWell_131 : decode cX9_isWell 131 = .ok (.iinc 3 1, 3) := by decide +kernel
theorem dX9_isWell_134 : decode cX9_isWell 134 = .ok (.goto (-43), 3) := by decide +kernel
theorem dX9_isWell_137 : decode cX9_isWell 137 = .ok (.iinc 2 1, 3) := by decide +kernel
theorem dX9_isWell_140 : decode cX9_isWell 140 = .ok (.goto (-62), 3) := by decide +kernel
theorem dX9_isWell_143 : decode cX9_isWell 143 = .ok (.iload_n 1, 1) := by decide +kernel
theorem dX9_isWell_144 : decode cX9_isWell 144 = .ok (.ireturn, 1) := by decide +kernel
theorem dX9_meanDampness_0 : decode cX9_meanDampness 0 = .ok (.aload_n 0, 1) := by decide +kernel
theorem dX9_meanDampness_1 : decode cX9_meanDampness 1 = .ok (.aload_n 0, 1) := by decide +kernel
theorem dX9_meanDampness_2 : decode cX9_meanDampness 2 = .ok (.getfield 7, 3) := by decide +kernel
theorem dX9_meanDampness_5 : decode cX9_meanDampness 5 = .ok (.bipush 29, 2) := by decide +kernel
theorem dX9_meanDampness_7 : decode cX9_meanDampness 7 = .ok (.iaload, 1) := by decide +kernel
theorem dX9_meanDampness_8 : decode cX9_meanDampness 8 = .ok (.ifCond .ne 7, 3) := by decide +kernel
theorem dX9_meanDampness_11 : decode cX9_meanDampness 11 = .ok (.iconst 1, 1) := by decide +kernel
theorem dX9_meanDampness_12 : decode cX9_meanDampness 12 = .ok (.goto 4, 3) := by decide +kernel
theorem dX9_meanDampness_15 : decode cX9_meanDampness 15 = .ok (.iconst 0, 1) := by decide +kernel
theorem dX9_meanDampness_16 : decode cX9_meanDampness 16 = .ok (.putfield 33, 3) := by decide +kernel
theorem dX9_meanDampness_19 : decode cX9_meanDampness 19 = .ok (.aload_n 0, 1) := by decide +kernel
theorem dX9_meanDampness_20 : decode cX9_meanDampness 20 = .ok (.getfield 33, 3) := by decide +kernel
theorem dX9_meanDampness_23 : decode cX9_meanDampness 23 = .ok (.ifCond .eq 7, 3) := by decide +kernel
theorem dX9_meanDampness_26 : decode cX9_meanDampness 26 = .ok (.dconst 0, 1) := by decide +kernel
theorem dX9_meanDampness_27 : decode cX9_meanDampness 27 = .ok (.goto 26, 3) := by decide +kernel
theorem dX9_meanDampness_30 : decode cX9_meanDampness 30 = .ok (.aload_n 0, 1) := by decide +kernel
theorem dX9_meanDampness_31 : decode cX9_meanDampness 31 = .ok (.bipush 30, 2) := by decide +kernel
theorem dX9_meanDampness_33 : decode cX9_meanDampness 33 = .ok (.aload_n 0, 1) := by decide +kernel
theorem dX9_meanDampness_34 : decode cX9_meanDampness 34 = .ok (.getfield 7, 3) := by decide +kernel
theorem dX9_meanDampness_37 : decode cX9_meanDampness 37 = .ok (.bipush 29, 2) := by decide +kernel
theorem dX9_meanDampness_39 : decode cX9_meanDampness 39 = .ok (.iaload, 1) := by decide +kernel
theorem dX9_meanDampness_40 : decode cX9_meanDampness 40 = .ok (.invokevirtual 131, 3) := by decide +kernel
theorem dX9_meanDampness_43 : decode cX9_meanDampness 43 = .ok (.i2d, 1) := by decide +kernel
theorem dX9_meanDampness_44 : decode cX9_meanDampness 44 = .ok (.aload_n 0, 1) := by decide +kernel
theorem dX9_meanDampness_45 : decode cX9_meanDampness 45 = .ok (.getfield 7, 3) := by decide +kernel
theorem dX9_meanDampness_48 : decode cX9_meanDampness 48 = .ok (.bipush 29, 2) := by decide +kernel
theorem dX9_meanDampness_50 : decode cX9_meanDampness 50 = .ok (.iaload, 1) := by decide +kernel
theorem dX9_meanDampness_51 : decode cX9_meanDampness 51 = .ok (.i2d, 1) := by decide +kernel
theorem dX9_meanDampness_52 : decode cX9_meanDampness 52 = .ok (.ddiv, 1) := by decide +kernel
theorem dX9_meanDampness_53 : decode cX9_meanDampness 53 = .ok (.dreturn, 1) := by decide +kernel
theorem dX9_broken_0 : decode cX9_broken 0 = .ok (.aload_n 0, 1) := by decide +kernel
theorem dX9_broken_1 : decode cX9_broken 1 = .ok (.aload_n 0, 1) := by decide +kernel
theorem dX9_broken_2 : decode cX9_broken 2 = .ok (.getfield 7, 3) := by decide +kernel
theorem dX9_broken_5 : decode cX9_broken 5 = .ok (.bipush 95, 2) := by decide +kernel
theorem dX9_broken_7 : decode cX9_broken 7 = .ok (.iaload, 1) := by decide +kernel
theorem dX9_broken_8 : decode cX9_broken 8 = .ok (.ifCond .ne 7, 3) := by decide +kernel
theorem dX9_broken_11 : decode cX9_broken 11 = .ok (.iconst 1, 1) := by decide +kernel
theorem dX9_broken_12 : decode cX9_broken 12 = .ok (.goto 4, 3) := by decide +kernel
theorem dX9_broken_15 : decode cX9_broken 15 = .ok (.iconst 0, 1) := by decide +kernel
theorem dX9_broken_16 : decode cX9_broken 16 = .ok (.putfield 33, 3) := by decide +kernel
theorem dX9_broken_19 : decode cX9_broken 19 = .ok (.aload_n 0, 1) := by decide +kernel
theorem dX9_broken_20 : decode cX9_broken 20 = .ok (.getfield 33, 3) := by decide +kernel
theorem dX9_broken_23 : decode cX9_broken 23 = .ok (.ifCond .eq 7, 3) := by decide +kernel
theorem dX9_broken_26 : decode cX9_broken 26 = .ok (.fconst 0, 1) := by decide +kernel
theorem dX9_broken_27 : decode cX9_broken 27 = .ok (.goto 20, 3) := by decide +kernel
theorem dX9_broken_30 : decode cX9_broken 30 = .ok (.aload_n 0, 1) := by decide +kernel
theorem dX9_broken_31 : decode cX9_broken 31 = .ok (.getfield 7, 3) := by decide +kernel
theorem dX9_broken_34 : decode cX9_broken 34 = .ok (.bipush 96, 2) := by decide +kernel
theorem dX9_broken_36 : decode cX9_broken 36 = .ok (.iaload, 1) := by decide +kernel
theorem dX9_broken_37 : decode cX9_broken 37 = .ok (.i2f, 1) := by decide +kernel
theorem dX9_broken_38 : decode cX9_broken 38 = .ok (.aload_n 0, 1) := by decide +kernel
theorem dX9_broken_39 : decode cX9_broken 39 = .ok (.getfield 7, 3) := by decide +kernel
theorem dX9_broken_42 : decode cX9_broken 42 = .ok (.bipush 95, 2) := by decide +kernel
theorem dX9_broken_44 : decode cX9_broken 44 = .ok (.iaload, 1) := by decide +kernel
theorem dX9_broken_45 : decode cX9_broken 45 = .ok (.i2f, 1) := by decide +kernel
theorem dX9_broken_46 : decode cX9_broken 46 = .ok (.fdiv, 1) := by decide +kernel
theorem dX9_broken_47 : decode cX9_broken 47 = .ok (.freturn, 1) := by decide +kernel
theorem dX9_undo_0 : decode cX9_undo 0 = .ok (.aload_n 0, 1) := by decide +kernel
theorem dX9_undo_1 : decode cX9_undo 1 = .ok (.getfield 50, 3) := by decide +kernel
theorem dX9_undo_4 : decode cX9_undo 4 = .ok (.ifCond .ne 9, 3) := by decide +kernel
theorem dX9_undo_7 : decode cX9_undo 7 = .ok (.aload_n 0, 1) := by decide +kernel
theorem dX9_undo_8 : decode cX9_undo 8 = .ok (.iconst 1, 1) := by decide +kernel
theorem dX9_undo_9 : decode cX9_undo 9 = .ok (.invokevirtual 57, 3) := by decide +kernel
theorem dX9_undo_12 : decode cX9_undo 12 = .ok (.ireturn, 1) := by decide +kernel
theorem dX9_undo_13 : decode cX9_undo 13 = .ok (.aload_n 0, 1) := by decide +kernel
theorem dX9_undo_14 : decode cX9_undo 14 = .ok (.dup, 1) := by decide +kernel
theorem dX9_undo_15 : decode cX9_undo 15 = .ok (.getfield 50, 3) := by decide +kernel
theorem dX9_undo_18 : decode cX9_undo 18 = .ok (.iconst 1, 1) := by decide +kernel
theorem dX9_undo_19 : decode cX9_undo 19 = .ok (.isub, 1) := by decide +kernel
theorem dX9_undo_20 : decode cX9_undo 20 = .ok (.putfield 50, 3) := by decide +kernel
theorem dX9_undo_23 : decode cX9_undo 23 = .ok (.aload_n 0, 1) := by decide +kernel
theorem dX9_undo_24 : decode cX9_undo 24 = .ok (.getfield 16, 3) := by decide +kernel
theorem dX9_undo_27 : decode cX9_undo 27 = .ok (.aload_n 0, 1) := by decide +kernel
theorem dX9_undo_28 : decode cX9_undo 28 = .ok (.getfield 50, 3) := by decide +kernel
theorem dX9_undo_31 : decode cX9_undo 31 = .ok (.sipush 220, 3) := by decide +kernel
theorem dX9_undo_34 : decode cX9_undo 34 = .ok (.imul, 1) := by decide +kernel
theorem dX9_undo_35 : decode cX9_undo 35 = .ok (.aload_n 0, 1) := by decide +kernel
theorem dX9_undo_36 : decode cX9_undo 36 = .ok (.getfield 7, 3) := by decide +kernel
theorem dX9_undo_39 : decode cX9_undo 39 = .ok (.iconst 0, 1) := by decide +kernel
theorem dX9_undo_40 : decode cX9_undo 40 = .ok (.invokestatic 46, 3) := by decide +kernel
theorem dX9_undo_43 : decode cX9_undo 43 = .ok (.aload_n 0, 1) := by decide +kernel
theorem dX9_undo_44 : decode cX9_undo 44 = .ok (.aload_n 0, 1) := by decide +kernel
theorem dX9_undo_45 : decode cX9_undo 45 = .ok (.getfield 50, 3) := by decide +kernel
theorem dX9_undo_48 : decode cX9_undo 48 = .ok (.invokevirtual 64, 3) := by decide +kernel
theorem dX9_undo_51 : decode cX9_undo 51 = .ok (.ireturn, 1) := by decide +kernel
theorem dX9_save_0 : decode cX9_save 0 = .ok (.aload_n 0, 1) := by decide +kernel
theorem dX9_save_1 : decode cX9_save 1 = .ok (.getfield 7, 3) := by decide +kernel
theorem dX9_save_4 : decode cX9_save 4 = .ok (.iconst 0, 1) := by decide +kernel
theorem dX9_save_5 : decode cX9_save 5 = .ok (.aload_n 0, 1) := by decide +kernel
theorem dX9_save_6 : decode cX9_save 6 = .ok (.getfield 19, 3) := by decide +kernel
theorem dX9_save_9 : decode cX9_save 9 = .ok (.iconst 0, 1) := by decide +kernel
theorem dX9_save_10 : decode cX9_save 10 = .ok (.invokestatic 46, 3) := by decide +kernel
theorem dX9_save_13 : decode cX9_save 13 = .ok (.aload_n 0, 1) := by decide +kernel
theorem dX9_save_14 : decode cX9_save 14 = .ok (.iconst 1, 1) := by decide +kernel
theorem dX9_save_15 : decode cX9_save 15 = .ok (.putfield 208, 3) := by decide +kernel
theorem dX9_save_18 : decode cX9_save 18 = .ok (.aload_n 0, 1) := by decide +kernel
theorem dX9_save_19 : decode cX9_save 19 = .ok (.aload_n 0, 1) := by decide +kernel
theorem dX9_save_20 : decode cX9_save 20 = .ok (.getfield 7, 3) := by decide +kernel
theorem dX9_save_23 : decode cX9_save 23 = .ok (.bipush 29, 2) := by decide +kernel
theorem dX9_save_25 : decode cX9_save 25 = .ok (.iaload, 1) := by decide +kernel
theorem dX9_save_26 : decode cX9_save 26 = .ok (.invokevirtual 64, 3) := by decide +kernel
theorem dX9_save_29 : decode cX9_save 29 = .ok (.ireturn, 1) := by decide +kernel
theorem dX9_restore_0 : decode cX9_restore 0 = .ok (.aload_n 0, 1) := by decide +kernel
theorem dX9_restore_1 : decode cX9_restore 1 = .ok (.getfield 208, 3) := by decide +kernel
theorem dX9_restore_4 : decode cX9_restore 4 = .ok (.ifCond .ne 9, 3) := by decide +kernel
theorem dX9_restore_7 : decode cX9_restore 7 = .ok (.aload_n 0, 1) := by decide +kernel
theorem dX9_restore_8 : decode cX9_restore 8 = .ok (.iconst 1, 1) := by decide +kernel
theorem dX9_restore_9 : decode cX9_restore 9 = .ok (.invokevirtual 57, 3) := by decide +kernel
theorem dX9_restore_12 : decode cX9_restore 12 = .ok (.ireturn, 1) := by decide +kernel
theorem dX9_restore_13 : decode cX9_restore 13 = .ok (.aload_n 0, 1) := by decide +kernel
theorem dX9_restore_14 : decode cX9_restore 14 = .ok (.getfield 19, 3) := by decide +kernel
theorem dX9_restore_17 : decode cX9_restore 17 = .ok (.iconst 0, 1) := by decide +kernel
theorem dX9_restore_18 : decode cX9_restore 18 = .ok (.aload_n 0, 1) := by decide +kernel
theorem dX9_restore_19 : decode cX9_restore 19 = .ok (.getfield 7, 3) := by decide +kernel
theorem dX9_restore_22 : decode cX9_restore 22 = .ok (.iconst 0, 1) := by decide +kernel
theorem dX9_restore_23 : decode cX9_restore 23 = .ok (.invokestatic 46, 3) := by decide +kernel
theorem dX9_restore_26 : decode cX9_restore 26 = .ok (.aload_n 0, 1) := by decide +kernel
theorem dX9_restore_27 : decode cX9_restore 27 = .ok (.iconst 0, 1) := by decide +kernel
theorem dX9_restore_28 : decode cX9_restore 28 = .ok (.putfield 50, 3) := by decide +kernel
theorem dX9_restore_31 : decode cX9_restore 31 = .ok (.aload_n 0, 1) := by decide +kernel
theorem dX9_restore_32 : decode cX9_restore 32 = .ok (.aload_n 0, 1) := by decide +kernel
theorem dX9_restore_33 : decode cX9_restore 33 = .ok (.getfield 7, 3) := by decide +kernel
theorem dX9_restore_36 : decode cX9_restore 36 = .ok (.bipush 29, 2) := by decide +kernel
theorem dX9_restore_38 : decode cX9_restore 38 = .ok (.iaload, 1) := by decide +kernel
theorem dX9_restore_39 : decode cX9_restore 39 = .ok (.invokevirtual 64, 3) := by decide +kernel
theorem dX9_restore_42 : decode cX9_restore 42 = .ok (.ireturn, 1) := by decide +kernel
