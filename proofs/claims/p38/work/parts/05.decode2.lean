theorem dX8_init_0 : decode cX8_init 0 = .ok (.aload_n 0, 1) := by decide +kernel
theorem dX8_init_1 : decode cX8_init 1 = .ok (.invokespecial 1, 3) := by decide +kernel
theorem dX8_init_4 : decode cX8_init 4 = .ok (.aload_n 0, 1) := by decide +kernel
theorem dX8_init_5 : decode cX8_init 5 = .ok (.new 7, 3) := by decide +kernel
theorem dX8_init_8 : decode cX8_init 8 = .ok (.dup, 1) := by decide +kernel
theorem dX8_init_9 : decode cX8_init 9 = .ok (.invokespecial 9, 3) := by decide +kernel
theorem dX8_init_12 : decode cX8_init 12 = .ok (.putfield 10, 3) := by decide +kernel
theorem dX8_init_15 : decode cX8_init 15 = .ok (.aload_n 0, 1) := by decide +kernel
theorem dX8_init_16 : decode cX8_init 16 = .ok (.new 7, 3) := by decide +kernel
theorem dX8_init_19 : decode cX8_init 19 = .ok (.dup, 1) := by decide +kernel
theorem dX8_init_20 : decode cX8_init 20 = .ok (.invokespecial 9, 3) := by decide +kernel
theorem dX8_init_23 : decode cX8_init 23 = .ok (.putfield 16, 3) := by decide +kernel
theorem dX8_init_26 : decode cX8_init 26 = .ok (.aload_n 0, 1) := by decide +kernel
theorem dX8_init_27 : decode cX8_init 27 = .ok (.new 7, 3) := by decide +kernel
theorem dX8_init_30 : decode cX8_init 30 = .ok (.dup, 1) := by decide +kernel
theorem dX8_init_31 : decode cX8_init 31 = .ok (.invokespecial 9, 3) := by decide +kernel
theorem dX8_init_34 : decode cX8_init 34 = .ok (.putfield 19, 3) := by decide +kernel
theorem dX8_init_37 : decode cX8_init 37 = .ok (.aload_n 0, 1) := by decide +kernel
theorem dX8_init_38 : decode cX8_init 38 = .ok (.new 22, 3) := by decide +kernel
theorem dX8_init_41 : decode cX8_init 41 = .ok (.dup, 1) := by decide +kernel
theorem dX8_init_42 : decode cX8_init 42 = .ok (.invokespecial 24, 3) := by decide +kernel
theorem dX8_init_45 : decode cX8_init 45 = .ok (.putfield 25, 3) := by decide +kernel
theorem dX8_init_48 : decode cX8_init 48 = .ok (.aload_n 0, 1) := by decide +kernel
theorem dX8_init_49 : decode cX8_init 49 = .ok (.new 29, 3) := by decide +kernel
theorem dX8_init_52 : decode cX8_init 52 = .ok (.dup, 1) := by decide +kernel
theorem dX8_init_53 : decode cX8_init 53 = .ok (.invokespecial 31, 3) := by decide +kernel
theorem dX8_init_56 : decode cX8_init 56 = .ok (.putfield 32, 3) := by decide +kernel
theorem dX8_init_59 : decode cX8_init 59 = .ok (.aload_n 0, 1) := by decide +kernel
theorem dX8_init_60 : decode cX8_init 60 = .ok (.iconst (-1), 1) := by decide +kernel
theorem dX8_init_61 : decode cX8_init 61 = .ok (.putfield 36, 3) := by decide +kernel
theorem dX8_init_64 : decode cX8_init 64 = .ok (.aload_n 0, 1) := by decide +kernel
theorem dX8_init_65 : decode cX8_init 65 = .ok (.new 40, 3) := by decide +kernel
theorem dX8_init_68 : decode cX8_init 68 = .ok (.dup, 1) := by decide +kernel
theorem dX8_init_69 : decode cX8_init 69 = .ok (.invokespecial 42, 3) := by decide +kernel
theorem dX8_init_72 : decode cX8_init 72 = .ok (.putfield 43, 3) := by decide +kernel
theorem dX8_init_75 : decode cX8_init 75 = .ok (.aload_n 0, 1) := by decide +kernel
theorem dX8_init_76 : decode cX8_init 76 = .ok (.new 40, 3) := by decide +kernel
theorem dX8_init_79 : decode cX8_init 79 = .ok (.dup, 1) := by decide +kernel
theorem dX8_init_80 : decode cX8_init 80 = .ok (.invokespecial 42, 3) := by decide +kernel
theorem dX8_init_83 : decode cX8_init 83 = .ok (.putfield 47, 3) := by decide +kernel
theorem dX8_init_86 : decode cX8_init 86 = .ok (.return_, 1) := by decide +kernel
theorem dX8_humidity_0 : decode cX8_humidity 0 = .ok (.iconst 0, 1) := by decide +kernel
theorem dX8_humidity_1 : decode cX8_humidity 1 = .ok (.iload_n 1, 1) := by decide +kernel
theorem dX8_humidity_2 : decode cX8_humidity 2 = .ok (.bipush 23, 2) := by decide +kernel
theorem dX8_humidity_4 : decode cX8_humidity 4 = .ok (.invokestatic 50, 3) := by decide +kernel
theorem dX8_humidity_7 : decode cX8_humidity 7 = .ok (.ifCond .ne 13, 3) := by decide +kernel
theorem dX8_humidity_10 : decode cX8_humidity 10 = .ok (.new 54, 3) := by decide +kernel
theorem dX8_humidity_13 : decode cX8_humidity 13 = .ok (.dup, 1) := by decide +kernel
theorem dX8_humidity_14 : decode cX8_humidity 14 = .ok (.ldc 56, 2) := by decide +kernel
theorem dX8_humidity_16 : decode cX8_humidity 16 = .ok (.invokespecial 58, 3) := by decide +kernel
theorem dX8_humidity_19 : decode cX8_humidity 19 = .ok (.athrow, 1) := by decide +kernel
theorem dX8_humidity_20 : decode cX8_humidity 20 = .ok (.iconst 0, 1) := by decide +kernel
theorem dX8_humidity_21 : decode cX8_humidity 21 = .ok (.iload_n 2, 1) := by decide +kernel
theorem dX8_humidity_22 : decode cX8_humidity 22 = .ok (.bipush 99, 2) := by decide +kernel
theorem dX8_humidity_24 : decode cX8_humidity 24 = .ok (.invokestatic 50, 3) := by decide +kernel
theorem dX8_humidity_27 : decode cX8_humidity 27 = .ok (.ifCond .ne 13, 3) := by decide +kernel
theorem dX8_humidity_30 : decode cX8_humidity 30 = .ok (.new 61, 3) := by decide +kernel
theorem dX8_humidity_33 : decode cX8_humidity 33 = .ok (.dup, 1) := by decide +kernel
theorem dX8_humidity_34 : decode cX8_humidity 34 = .ok (.ldc 63, 2) := by decide +kernel
theorem dX8_humidity_36 : decode cX8_humidity 36 = .ok (.invokespecial 65, 3) := by decide +kernel
theorem dX8_humidity_39 : decode cX8_humidity 39 = .ok (.athrow, 1) := by decide +kernel
theorem dX8_humidity_40 : decode cX8_humidity 40 = .ok (.aload_n 0, 1) := by decide +kernel
theorem dX8_humidity_41 : decode cX8_humidity 41 = .ok (.getfield 25, 3) := by decide +kernel
theorem dX8_humidity_44 : decode cX8_humidity 44 = .ok (.aload_n 0, 1) := by decide +kernel
theorem dX8_humidity_45 : decode cX8_humidity 45 = .ok (.getfield 10, 3) := by decide +kernel
theorem dX8_humidity_48 : decode cX8_humidity 48 = .ok (.invokevirtual 66, 3) := by decide +kernel
theorem dX8_humidity_51 : decode cX8_humidity 51 = .ok (.aload_n 0, 1) := by decide +kernel
theorem dX8_humidity_52 : decode cX8_humidity 52 = .ok (.getfield 10, 3) := by decide +kernel
theorem dX8_humidity_55 : decode cX8_humidity 55 = .ok (.iload_n 1, 1) := by decide +kernel
theorem dX8_humidity_56 : decode cX8_humidity 56 = .ok (.iload_n 2, 1) := by decide +kernel
theorem dX8_humidity_57 : decode cX8_humidity 57 = .ok (.invokevirtual 70, 3) := by decide +kernel
theorem dX8_humidity_60 : decode cX8_humidity 60 = .ok (.ireturn, 1) := by decide +kernel
theorem dX8_buy_0 : decode cX8_buy 0 = .ok (.iload_n 1, 1) := by decide +kernel
theorem dX8_buy_1 : decode cX8_buy 1 = .ok (.iload_n 2, 1) := by decide +kernel
theorem dX8_buy_2 : decode cX8_buy 2 = .ok (.invokestatic 80, 3) := by decide +kernel
theorem dX8_buy_5 : decode cX8_buy 5 = .ok (.ifCond .ne 13, 3) := by decide +kernel
theorem dX8_buy_8 : decode cX8_buy 8 = .ok (.new 61, 3) := by decide +kernel
theorem dX8_buy_11 : decode cX8_buy 11 = .ok (.dup, 1) := by decide +kernel
theorem dX8_buy_12 : decode cX8_buy 12 = .ok (.ldc 84, 2) := by decide +kernel
theorem dX8_buy_14 : decode cX8_buy 14 = .ok (.invokespecial 65, 3) := by decide +kernel
theorem dX8_buy_17 : decode cX8_buy 17 = .ok (.athrow, 1) := by decide +kernel
theorem dX8_buy_18 : decode cX8_buy 18 = .ok (.aload_n 0, 1) := by decide +kernel
theorem dX8_buy_19 : decode cX8_buy 19 = .ok (.getfield 10, 3) := by decide +kernel
theorem dX8_buy_22 : decode cX8_buy 22 = .ok (.aload_n 0, 1) := by decide +kernel
theorem dX8_buy_23 : decode cX8_buy 23 = .ok (.getfield 43, 3) := by decide +kernel
theorem dX8_buy_26 : decode cX8_buy 26 = .ok (.iload_n 1, 1) := by decide +kernel
theorem dX8_buy_27 : decode cX8_buy 27 = .ok (.iload_n 2, 1) := by decide +kernel
theorem dX8_buy_28 : decode cX8_buy 28 = .ok (.invokevirtual 86, 3) := by decide +kernel
theorem dX8_buy_31 : decode cX8_buy 31 = .ok (.ifCond .eq 13, 3) := by decide +kernel
theorem dX8_buy_34 : decode cX8_buy 34 = .ok (.new 90, 3) := by decide +kernel
theorem dX8_buy_37 : decode cX8_buy 37 = .ok (.dup, 1) := by decide +kernel
theorem dX8_buy_38 : decode cX8_buy 38 = .ok (.ldc 92, 2) := by decide +kernel
theorem dX8_buy_40 : decode cX8_buy 40 = .ok (.invokespecial 94, 3) := by decide +kernel
theorem dX8_buy_43 : decode cX8_buy 43 = .ok (.athrow, 1) := by decide +kernel
theorem dX8_buy_44 : decode cX8_buy 44 = .ok (.aload_n 0, 1) := by decide +kernel
theorem dX8_buy_45 : decode cX8_buy 45 = .ok (.getfield 25, 3) := by decide +kernel
theorem dX8_buy_48 : decode cX8_buy 48 = .ok (.aload_n 0, 1) := by decide +kernel
theorem dX8_buy_49 : decode cX8_buy 49 = .ok (.getfield 10, 3) := by decide +kernel
theorem dX8_buy_52 : decode cX8_buy 52 = .ok (.invokevirtual 66, 3) := by decide +kernel
theorem dX8_buy_55 : decode cX8_buy 55 = .ok (.aload_n 0, 1) := by decide +kernel
theorem dX8_buy_56 : decode cX8_buy 56 = .ok (.getfield 10, 3) := by decide +kernel
theorem dX8_buy_59 : decode cX8_buy 59 = .ok (.iload_n 1, 1) := by decide +kernel
theorem dX8_buy_60 : decode cX8_buy 60 = .ok (.iload_n 2, 1) := by decide +kernel
theorem dX8_buy_61 : decode cX8_buy 61 = .ok (.invokevirtual 95, 3) := by decide +kernel
theorem dX8_buy_64 : decode cX8_buy 64 = .ok (.ireturn, 1) := by decide +kernel
theorem dX8_stock_0 : decode cX8_stock 0 = .ok (.iload_n 1, 1) := by decide +kernel
theorem dX8_stock_1 : decode cX8_stock 1 = .ok (.invokestatic 98, 3) := by decide +kernel
theorem dX8_stock_4 : decode cX8_stock 4 = .ok (.ifCond .ne 13, 3) := by decide +kernel
theorem dX8_stock_7 : decode cX8_stock 7 = .ok (.new 61, 3) := by decide +kernel
theorem dX8_stock_10 : decode cX8_stock 10 = .ok (.dup, 1) := by decide +kernel
theorem dX8_stock_11 : decode cX8_stock 11 = .ok (.ldc 102, 2) := by decide +kernel
theorem dX8_stock_13 : decode cX8_stock 13 = .ok (.invokespecial 65, 3) := by decide +kernel
theorem dX8_stock_16 : decode cX8_stock 16 = .ok (.athrow, 1) := by decide +kernel
theorem dX8_stock_17 : decode cX8_stock 17 = .ok (.aload_n 0, 1) := by decide +kernel
theorem dX8_stock_18 : decode cX8_stock 18 = .ok (.getfield 10, 3) := by decide +kernel
theorem dX8_stock_21 : decode cX8_stock 21 = .ok (.iload_n 1, 1) := by decide +kernel
theorem dX8_stock_22 : decode cX8_stock 22 = .ok (.invokevirtual 104, 3) := by decide +kernel
theorem dX8_stock_25 : decode cX8_stock 25 = .ok (.ireturn, 1) := by decide +kernel
theorem dX8_tongs_0 : decode cX8_tongs 0 = .ok (.iconst 1, 1) := by decide +kernel
theorem dX8_tongs_1 : decode cX8_tongs 1 = .ok (.iload_n 1, 1) := by decide +kernel
theorem dX8_tongs_2 : decode cX8_tongs 2 = .ok (.bipush 10, 2) := by decide +kernel
theorem dX8_tongs_4 : decode cX8_tongs 4 = .ok (.invokestatic 50, 3) := by decide +kernel
theorem dX8_tongs_7 : decode cX8_tongs 7 = .ok (.ifCond .ne 13, 3) := by decide +kernel
theorem dX8_tongs_10 : decode cX8_tongs 10 = .ok (.new 61, 3) := by decide +kernel
theorem dX8_tongs_13 : decode cX8_tongs 13 = .ok (.dup, 1) := by decide +kernel
theorem dX8_tongs_14 : decode cX8_tongs 14 = .ok (.ldc 107, 2) := by decide +kernel
theorem dX8_tongs_16 : decode cX8_tongs 16 = .ok (.invokespecial 65, 3) := by decide +kernel
theorem dX8_tongs_19 : decode cX8_tongs 19 = .ok (.athrow, 1) := by decide +kernel
theorem dX8_tongs_20 : decode cX8_tongs 20 = .ok (.aload_n 0, 1) := by decide +kernel
theorem dX8_tongs_21 : decode cX8_tongs 21 = .ok (.getfield 10, 3) := by decide +kernel
theorem dX8_tongs_24 : decode cX8_tongs 24 = .ok (.getfield 109, 3) := by decide +kernel
theorem dX8_tongs_27 : decode cX8_tongs 27 = .ok (.iconst 4, 1) := by decide +kernel
theorem dX8_tongs_28 : decode cX8_tongs 28 = .ok (.if_icmp .lt 23, 3) := by decide +kernel
theorem dX8_tongs_31 : decode cX8_tongs 31 = .ok (.aload_n 0, 1) := by decide +kernel
theorem dX8_tongs_32 : decode cX8_tongs 32 = .ok (.getfield 43, 3) := by decide +kernel
theorem dX8_tongs_35 : decode cX8_tongs 35 = .ok (.iconst 1, 1) := by decide +kernel
theorem dX8_tongs_36 : decode cX8_tongs 36 = .ok (.iconst 4, 1) := by decide +kernel
theorem dX8_tongs_37 : decode cX8_tongs 37 = .ok (.invokevirtual 112, 3) := by decide +kernel
theorem dX8_tongs_40 : decode cX8_tongs 40 = .ok (.pop, 1) := by decide +kernel
theorem dX8_tongs_41 : decode cX8_tongs 41 = .ok (.new 90, 3) := by decide +kernel
theorem dX8_tongs_44 : decode cX8_tongs 44 = .ok (.dup, 1) := by decide +kernel
theorem dX8_tongs_45 : decode cX8_tongs 45 = .ok (.ldc 115, 2) := by decide +kernel
theorem dX8_tongs_47 : decode cX8_tongs 47 = .ok (.invokespecial 94, 3) := by decide +kernel
theorem dX8_tongs_50 : decode cX8_tongs 50 = .ok (.athrow, 1) := by decide +kernel
theorem dX8_tongs_51 : decode cX8_tongs 51 = .ok (.aload_n 0, 1) := by decide +kernel
theorem dX8_tongs_52 : decode cX8_tongs 52 = .ok (.getfield 25, 3) := by decide +kernel
theorem dX8_tongs_55 : decode cX8_tongs 55 = .ok (.aload_n 0, 1) := by decide +kernel
theorem dX8_tongs_56 : decode cX8_tongs 56 = .ok (.getfield 10, 3) := by decide +kernel
theorem dX8_tongs_59 : decode cX8_tongs 59 = .ok (.invokevirtual 66, 3) := by decide +kernel
theorem dX8_tongs_62 : decode cX8_tongs 62 = .ok (.aload_n 0, 1) := by decide +kernel
theorem dX8_tongs_63 : decode cX8_tongs 63 = .ok (.getfield 10, 3) := by decide +kernel
theorem dX8_tongs_66 : decode cX8_tongs 66 = .ok (.iload_n 1, 1) := by decide +kernel
theorem dX8_tongs_67 : decode cX8_tongs 67 = .ok (.invokevirtual 117, 3) := by decide +kernel
theorem dX8_tongs_70 : decode cX8_tongs 70 = .ok (.ireturn, 1) := by decide +kernel
theorem dX8_tongsOf_0 : decode cX8_tongsOf 0 = .ok (.aload_n 0, 1) := by decide +kernel
theorem dX8_tongsOf_1 : decode cX8_tongsOf 1 = .ok (.iload_n 1, 1) := by decide +kernel
theorem dX8_tongsOf_2 : decode cX8_tongsOf 2 = .ok (.invokevirtual 120, 3) := by decide +kernel
theorem dX8_tongsOf_5 : decode cX8_tongsOf 5 = .ok (.astore_n 3, 1) := by decide +kernel
theorem dX8_tongsOf_6 : decode cX8_tongsOf 6 = .ok (.iload_n 2, 1) := by decide +kernel
theorem dX8_tongsOf_7 : decode cX8_tongsOf 7 = .ok (.tableswitch 40 0 2 #[25, 30, 35], 25) := by decide +kernel
theorem dX8_tongsOf_32 : decode cX8_tongsOf 32 = .ok (.aload_n 3, 1) := by decide +kernel
theorem dX8_tongsOf_33 : decode cX8_tongsOf 33 = .ok (.getfield 124, 3) := by decide +kernel
theorem dX8_tongsOf_36 : decode cX8_tongsOf 36 = .ok (.ireturn, 1) := by decide +kernel
theorem dX8_tongsOf_37 : decode cX8_tongsOf 37 = .ok (.aload_n 3, 1) := by decide +kernel
theorem dX8_tongsOf_38 : decode cX8_tongsOf 38 = .ok (.getfield 129, 3) := by decide +kernel
theorem dX8_tongsOf_41 : decode cX8_tongsOf 41 = .ok (.ireturn, 1) := by decide +kernel
theorem dX8_tongsOf_42 : decode cX8_tongsOf 42 = .ok (.aload_n 3, 1) := by decide +kernel
theorem dX8_tongsOf_43 : decode cX8_tongsOf 43 = .ok (.getfield 132, 3) := by decide +kernel
theorem dX8_tongsOf_46 : decode cX8_tongsOf 46 = .ok (.ireturn, 1) := by decide +kernel
theorem dX8_tongsOf_47 : decode cX8_tongsOf 47 = .ok (.new 61, 3) := by decide +kernel
theorem dX8_tongsOf_50 : decode cX8_tongsOf 50 = .ok (.dup, 1) := by decide +kernel
theorem dX8_tongsOf_51 : decode cX8_tongsOf 51 = .ok (.ldc 135, 2) := by decide +kernel
theorem dX8_tongsOf_53 : decode cX8_tongsOf 53 = .ok (.invokespecial 65, 3) := by decide +kernel
theorem dX8_tongsOf_56 : decode cX8_tongsOf 56 = .ok (.athrow, 1) := by decide +kernel
theorem dX8_tower_0 : decode cX8_tower 0 = .ok (.aload_n 0, 1) := by decide +kernel
theorem dX8_tower_1 : decode cX8_tower 1 = .ok (.getfield 10, 3) := by decide +kernel
theorem dX8_tower_4 : decode cX8_tower 4 = .ok (.getfield 147, 3) := by decide +kernel
theorem dX8_tower_7 : decode cX8_tower 7 = .ok (.bipush 6, 2) := by decide +kernel
theorem dX8_tower_9 : decode cX8_tower 9 = .ok (.if_icmp .lt 24, 3) := by decide +kernel
theorem dX8_tower_12 : decode cX8_tower 12 = .ok (.aload_n 0, 1) := by decide +kernel
theorem dX8_tower_13 : decode cX8_tower 13 = .ok (.getfield 43, 3) := by decide +kernel
theorem dX8_tower_16 : decode cX8_tower 16 = .ok (.iconst 1, 1) := by decide +kernel
theorem dX8_tower_17 : decode cX8_tower 17 = .ok (.bipush 6, 2) := by decide +kernel
theorem dX8_tower_19 : decode cX8_tower 19 = .ok (.invokevirtual 112, 3) := by decide +kernel
theorem dX8_tower_22 : decode cX8_tower 22 = .ok (.pop, 1) := by decide +kernel
theorem dX8_tower_23 : decode cX8_tower 23 = .ok (.new 90, 3) := by decide +kernel
theorem dX8_tower_26 : decode cX8_tower 26 = .ok (.dup, 1) := by decide +kernel
theorem dX8_tower_27 : decode cX8_tower 27 = .ok (.ldc 150, 2) := by decide +kernel
theorem dX8_tower_29 : decode cX8_tower 29 = .ok (.invokespecial 94, 3) := by decide +kernel
theorem dX8_tower_32 : decode cX8_tower 32 = .ok (.athrow, 1) := by decide +kernel
theorem dX8_tower_33 : decode cX8_tower 33 = .ok (.aload_n 0, 1) := by decide +kernel
theorem dX8_tower_34 : decode cX8_tower 34 = .ok (.getfield 25, 3) := by decide +kernel
theorem dX8_tower_37 : decode cX8_tower 37 = .ok (.aload_n 0, 1) := by decide +kernel
theorem dX8_tower_38 : decode cX8_tower 38 = .ok (.getfield 10, 3) := by decide +kernel
theorem dX8_tower_41 : decode cX8_tower 41 = .ok (.invokevirtual 66, 3) := by decide +kernel
theorem dX8_tower_44 : decode cX8_tower 44 = .ok (.aload_n 0, 1) := by decide +kernel
theorem dX8_tower_45 : decode cX8_tower 45 = .ok (.getfield 10, 3) := by decide +kernel
theorem dX8_tower_48 : decode cX8_tower 48 = .ok (.invokevirtual 152, 3) := by decide +kernel
theorem dX8_tower_51 : decode cX8_tower 51 = .ok (.ireturn, 1) := by decide +kernel
theorem dX8_lay_0 : decode cX8_lay 0 = .ok (.aload_n 0, 1) := by decide +kernel
theorem dX8_lay_1 : decode cX8_lay 1 = .ok (.aload_n 0, 1) := by decide +kernel
theorem dX8_lay_2 : decode cX8_lay 2 = .ok (.getfield 43, 3) := by decide +kernel
theorem dX8_lay_5 : decode cX8_lay 5 = .ok (.iload_n 1, 1) := by decide +kernel
theorem dX8_lay_6 : decode cX8_lay 6 = .ok (.iload_n 2, 1) := by decide +kernel
theorem dX8_lay_7 : decode cX8_lay 7 = .ok (.iload_n 3, 1) := by decide +kernel
theorem dX8_lay_8 : decode cX8_lay 8 = .ok (.iload 4, 2) := by decide +kernel
theorem dX8_lay_10 : decode cX8_lay 10 = .ok (.invokevirtual 156, 3) := by decide +kernel
theorem dX8_lay_13 : decode cX8_lay 13 = .ok (.ifCond .eq 13, 3) := by decide +kernel
theorem dX8_lay_16 : decode cX8_lay 16 = .ok (.new 90, 3) := by decide +kernel
theorem dX8_lay_19 : decode cX8_lay 19 = .ok (.dup, 1) := by decide +kernel
theorem dX8_lay_20 : decode cX8_lay 20 = .ok (.ldc 160, 2) := by decide +kernel
theorem dX8_lay_22 : decode cX8_lay 22 = .ok (.invokespecial 94, 3) := by decide +kernel
theorem dX8_lay_25 : decode cX8_lay 25 = .ok (.athrow, 1) := by decide +kernel
theorem dX8_lay_26 : decode cX8_lay 26 = .ok (.aload_n 0, 1) := by decide +kernel
theorem dX8_lay_27 : decode cX8_lay 27 = .ok (.getfield 25, 3) := by decide +kernel
theorem dX8_lay_30 : decode cX8_lay 30 = .ok (.aload_n 0, 1) := by decide +kernel
theorem dX8_lay_31 : decode cX8_lay 31 = .ok (.getfield 10, 3) := by decide +kernel
theorem dX8_lay_34 : decode cX8_lay 34 = .ok (.invokevirtual 66, 3) := by decide +kernel
theorem dX8_lay_37 : decode cX8_lay 37 = .ok (.aload_n 0, 1) := by decide +kernel
theorem dX8_lay_38 : decode cX8_lay 38 = .ok (.getfield 10, 3) := by decide +kernel
theorem dX8_lay_41 : decode cX8_lay 41 = .ok (.iload_n 1, 1) := by decide +kernel
theorem dX8_lay_42 : decode cX8_lay 42 = .ok (.iload_n 2, 1) := by decide +kernel
theorem dX8_lay_43 : decode cX8_lay 43 = .ok (.iload_n 3, 1) := by decide +kernel
theorem dX8_lay_44 : decode cX8_lay 44 = .ok (.iload 4, 2) := by decide +kernel
theorem dX8_lay_46 : decode cX8_lay 46 = .ok (.invokevirtual 162, 3) := by decide +kernel
theorem dX8_lay_49 : decode cX8_lay 49 = .ok (.ireturn, 1) := by decide +kernel
theorem dX8_why_0 : decode cX8_why 0 = .ok (.aload_n 0, 1) := by decide +kernel
theorem dX8_why_1 : decode cX8_why 1 = .ok (.aload_n 0, 1) := by decide +kernel
theorem dX8_why_2 : decode cX8_why 2 = .ok (.getfield 47, 3) := by decide +kernel
theorem dX8_why_5 : decode cX8_why 5 = .ok (.iload_n 1, 1) := by decide +kernel
theorem dX8_why_6 : decode cX8_why 6 = .ok (.iload_n 2, 1) := by decide +kernel
theorem dX8_why_7 : decode cX8_why 7 = .ok (.iload_n 3, 1) := by decide +kernel
theorem dX8_why_8 : decode cX8_why 8 = .ok (.iload 4, 2) := by decide +kernel
theorem dX8_why_10 : decode cX8_why 10 = .ok (.invokevirtual 156, 3) := by decide +kernel
theorem dX8_why_13 : decode cX8_why 13 = .ok (.ireturn, 1) := by decide +kernel
theorem dX8_take_0 : decode cX8_take 0 = .ok (.aload_n 0, 1) := by decide +kernel
theorem dX8_take_1 : decode cX8_take 1 = .ok (.iload_n 1, 1) := by decide +kernel
theorem dX8_take_2 : decode cX8_take 2 = .ok (.invokevirtual 166, 3) := by decide +kernel
theorem dX8_take_5 : decode cX8_take 5 = .ok (.astore_n 2, 1) := by decide +kernel
theorem dX8_take_6 : decode cX8_take 6 = .ok (.aload_n 2, 1) := by decide +kernel
theorem dX8_take_7 : decode cX8_take 7 = .ok (.getfield 170, 3) := by decide +kernel
theorem dX8_take_10 : decode cX8_take 10 = .ok (.ifCond .ne 24, 3) := by decide +kernel
theorem dX8_take_13 : decode cX8_take 13 = .ok (.aload_n 0, 1) := by decide +kernel
theorem dX8_take_14 : decode cX8_take 14 = .ok (.getfield 43, 3) := by decide +kernel
theorem dX8_take_17 : decode cX8_take 17 = .ok (.bipush 9, 2) := by decide +kernel
theorem dX8_take_19 : decode cX8_take 19 = .ok (.iload_n 1, 1) := by decide +kernel
theorem dX8_take_20 : decode cX8_take 20 = .ok (.invokevirtual 112, 3) := by decide +kernel
theorem dX8_take_23 : decode cX8_take 23 = .ok (.pop, 1) := by decide +kernel
theorem dX8_take_24 : decode cX8_take 24 = .ok (.new 90, 3) := by decide +kernel
theorem dX8_take_27 : decode cX8_take 27 = .ok (.dup, 1) := by decide +kernel
theorem dX8_take_28 : decode cX8_take 28 = .ok (.ldc 175, 2) := by decide +kernel
theorem dX8_take_30 : decode cX8_take 30 = .ok (.invokespecial 94, 3) := by decide +kernel
theorem dX8_take_33 : decode cX8_take 33 = .ok (.athrow, 1) := by decide +kernel
theorem dX8_take_34 : decode cX8_take 34 = .ok (.aload_n 0, 1) := by decide +kernel
theorem dX8_take_35 : decode cX8_take 35 = .ok (.getfield 25, 3) := by decide +kernel
theorem dX8_take_38 : decode cX8_take 38 = .ok (.aload_n 0, 1) := by decide +kernel
theorem dX8_take_39 : decode cX8_take 39 = .ok (.getfield 10, 3) := by decide +kernel
theorem dX8_take_42 : decode cX8_take 42 = .ok (.invokevirtual 66, 3) := by decide +kernel
theorem dX8_take_45 : decode cX8_take 45 = .ok (.aload_n 0, 1) := by decide +kernel
theorem dX8_take_46 : decode cX8_take 46 = .ok (.getfield 10, 3) := by decide +kernel
theorem dX8_take_49 : decode cX8_take 49 = .ok (.aload_n 2, 1) := by decide +kernel
theorem dX8_take_50 : decode cX8_take 50 = .ok (.invokevirtual 177, 3) := by decide +kernel
theorem dX8_take_53 : decode cX8_take 53 = .ok (.ireturn, 1) := by decide +kernel
theorem dX8_courseOf_0 : decode cX8_courseOf 0 = .ok (.aload_n 0, 1) := by decide +kernel
theorem dX8_courseOf_1 : decode cX8_courseOf 1 = .ok (.iload_n 1, 1) := by decide +kernel
theorem dX8_courseOf_2 : decode cX8_courseOf 2 = .ok (.iload_n 2, 1) := by decide +kernel
theorem dX8_courseOf_3 : decode cX8_courseOf 3 = .ok (.invokevirtual 181, 3) := by decide +kernel
theorem dX8_courseOf_6 : decode cX8_courseOf 6 = .ok (.astore 4, 2) := by decide +kernel
theorem dX8_courseOf_8 : decode cX8_courseOf 8 = .ok (.iload_n 3, 1) := by decide +kernel
theorem dX8_courseOf_9 : decode cX8_courseOf 9 = .ok (.tableswitch 76 0 3 #[31, 38, 45, 54], 31) := by decide +kernel
theorem dX8_courseOf_40 : decode cX8_courseOf 40 = .ok (.aload 4, 2) := by decide +kernel
theorem dX8_courseOf_42 : decode cX8_courseOf 42 = .ok (.iload_n 2, 1) := by decide +kernel
theorem dX8_courseOf_43 : decode cX8_courseOf 43 = .ok (.invokevirtual 185, 3) := by decide +kernel
theorem dX8_courseOf_46 : decode cX8_courseOf 46 = .ok (.ireturn, 1) := by decide +kernel
theorem dX8_courseOf_47 : decode cX8_courseOf 47 = .ok (.aload 4, 2) := by decide +kernel
theorem dX8_courseOf_49 : decode cX8_courseOf 49 = .ok (.iload_n 2, 1) := by decide +kernel
theorem dX8_courseOf_50 : decode cX8_courseOf 50 = .ok (.invokevirtual 188, 3) := by decide +kernel
theorem dX8_courseOf_53 : decode cX8_courseOf 53 = .ok (.ireturn, 1) := by decide +kernel
theorem dX8_courseOf_54 : decode cX8_courseOf 54 = .ok (.aload 4, 2) := by decide +kernel
theorem dX8_courseOf_56 : decode cX8_courseOf 56 = .ok (.iload_n 2, 1) := by decide +kernel
theorem dX8_courseOf_57 : decode cX8_courseOf 57 = .ok (.iconst 1, 1) := by decide +kernel
theorem dX8_courseOf_58 : decode cX8_courseOf 58 = .ok (.iadd, 1) := by decide +kernel
theorem dX8_courseOf_59 : decode cX8_courseOf 59 = .ok (.invokevirtual 191, 3) := by decide +kernel
theorem dX8_courseOf_62 : decode cX8_courseOf 62 = .ok (.ireturn, 1) := by decide +kernel
theorem dX8_courseOf_63 : decode cX8_courseOf 63 = .ok (.aload 4, 2) := by decide +kernel
theorem dX8_courseOf_65 : decode cX8_courseOf 65 = .ok (.iload_n 2, 1) := by decide +kernel
theorem dX8_courseOf_66 : decode cX8_courseOf 66 = .ok (.invokevirtual 188, 3) := by decide +kernel
theorem dX8_courseOf_69 : decode cX8_courseOf 69 = .ok (.aload 4, 2) := by decide +kernel
theorem dX8_courseOf_71 : decode cX8_courseOf 71 = .ok (.iload_n 2, 1) := by decide +kernel
theorem dX8_courseOf_72 : decode cX8_courseOf 72 = .ok (.invokevirtual 185, 3) := by decide +kernel
theorem dX8_courseOf_75 : decode cX8_courseOf 75 = .ok (.aload 4, 2) := by decide +kernel
theorem dX8_courseOf_77 : decode cX8_courseOf 77 = .ok (.getfield 194, 3) := by decide +kernel
theorem dX8_courseOf_80 : decode cX8_courseOf 80 = .ok (.invokestatic 197, 3) := by decide +kernel
theorem dX8_courseOf_83 : decode cX8_courseOf 83 = .ok (.imul, 1) := by decide +kernel
theorem dX8_courseOf_84 : decode cX8_courseOf 84 = .ok (.ireturn, 1) := by decide +kernel
theorem dX8_courseOf_85 : decode cX8_courseOf 85 = .ok (.new 61, 3) := by decide +kernel
theorem dX8_courseOf_88 : decode cX8_courseOf 88 = .ok (.dup, 1) := by decide +kernel
theorem dX8_courseOf_89 : decode cX8_courseOf 89 = .ok (.ldc 200, 2) := by decide +kernel
theorem dX8_courseOf_91 : decode cX8_courseOf 91 = .ok (.invokespecial 65, 3) := by decide +kernel
theorem dX8_courseOf_94 : decode cX8_courseOf 94 = .ok (.athrow, 1) := by decide +kernel
theorem dX8_towerOf_0 : decode cX8_towerOf 0 = .ok (.aload_n 0, 1) := by decide +kernel
theorem dX8_towerOf_1 : decode cX8_towerOf 1 = .ok (.iload_n 1, 1) := by decide +kernel
theorem dX8_towerOf_2 : decode cX8_towerOf 2 = .ok (.invokevirtual 166, 3) := by decide +kernel
theorem dX8_towerOf_5 : decode cX8_towerOf 5 = .ok (.astore_n 3, 1) := by decide +kernel
theorem dX8_towerOf_6 : decode cX8_towerOf 6 = .ok (.iload_n 2, 1) := by decide +kernel
theorem dX8_towerOf_7 : decode cX8_towerOf 7 = .ok (.tableswitch 63 0 4 #[33, 38, 44, 49, 58], 33) := by decide +kernel
theorem dX8_towerOf_40 : decode cX8_towerOf 40 = .ok (.aload_n 3, 1) := by decide +kernel
theorem dX8_towerOf_41 : decode cX8_towerOf 41 = .ok (.getfield 170, 3) := by decide +kernel
theorem dX8_towerOf_44 : decode cX8_towerOf 44 = .ok (.ireturn, 1) := by decide +kernel
theorem dX8_towerOf_45 : decode cX8_towerOf 45 = .ok (.aload_n 3, 1) := by decide +kernel
theorem dX8_towerOf_46 : decode cX8_towerOf 46 = .ok (.iconst 0, 1) := by decide +kernel
theorem dX8_towerOf_47 : decode cX8_towerOf 47 = .ok (.invokevirtual 191, 3) := by decide +kernel
theorem dX8_towerOf_50 : decode cX8_towerOf 50 = .ok (.ireturn, 1) := by decide +kernel
theorem dX8_towerOf_51 : decode cX8_towerOf 51 = .ok (.aload_n 3, 1) := by decide +kernel
theorem dX8_towerOf_52 : decode cX8_towerOf 52 = .ok (.getfield 194, 3) := by decide +kernel
theorem dX8_towerOf_55 : decode cX8_towerOf 55 = .ok (.ireturn, 1) := by decide +kernel
theorem dX8_towerOf_56 : decode cX8_towerOf 56 = .ok (.aload_n 0, 1) := by decide +kernel
theorem dX8_towerOf_57 : decode cX8_towerOf 57 = .ok (.getfield 10, 3) := by decide +kernel
theorem dX8_towerOf_60 : decode cX8_towerOf 60 = .ok (.iload_n 1, 1) := by decide +kernel
theorem dX8_towerOf_61 : decode cX8_towerOf 61 = .ok (.invokevirtual 202, 3) := by decide +kernel
theorem dX8_towerOf_64 : decode cX8_towerOf 64 = .ok (.ireturn, 1) := by decide +kernel
theorem dX8_towerOf_65 : decode cX8_towerOf 65 = .ok (.aload_n 3, 1) := by decide +kernel
theorem dX8_towerOf_66 : decode cX8_towerOf 66 = .ok (.getfield 205, 3) := by decide +kernel
theorem dX8_towerOf_69 : decode cX8_towerOf 69 = .ok (.ireturn, 1) := by decide +kernel
theorem dX8_towerOf_70 : decode cX8_towerOf 70 = .ok (.new 61, 3) := by decide +kernel
theorem dX8_towerOf_73 : decode cX8_towerOf 73 = .ok (.dup, 1) := by decide +kernel
theorem dX8_towerOf_74 : decode cX8_towerOf 74 = .ok (.ldc 208, 2) := by decide +kernel
theorem dX8_towerOf_76 : decode cX8_towerOf 76 = .ok (.invokespecial 65, 3) := by decide +kernel
theorem dX8_towerOf_79 : decode cX8_towerOf 79 = .ok (.athrow, 1) := by decide +kernel
theorem dX8_spare_0 : decode cX8_spare 0 = .ok (.aload_n 0, 1) := by decide +kernel
theorem dX8_spare_1 : decode cX8_spare 1 = .ok (.iload_n 1, 1) := by decide +kernel
theorem dX8_spare_2 : decode cX8_spare 2 = .ok (.invokevirtual 166, 3) := by decide +kernel
theorem dX8_spare_5 : decode cX8_spare 5 = .ok (.invokevirtual 210, 3) := by decide +kernel
theorem dX8_spare_8 : decode cX8_spare 8 = .ok (.ireturn, 1) := by decide +kernel
theorem dX8_banquet_0 : decode cX8_banquet 0 = .ok (.iconst 0, 1) := by decide +kernel
theorem dX8_banquet_1 : decode cX8_banquet 1 = .ok (.iload_n 1, 1) := by decide +kernel
theorem dX8_banquet_2 : decode cX8_banquet 2 = .ok (.sipush 9999, 3) := by decide +kernel
theorem dX8_banquet_5 : decode cX8_banquet 5 = .ok (.invokestatic 50, 3) := by decide +kernel
theorem dX8_banquet_8 : decode cX8_banquet 8 = .ok (.ifCond .eq 24, 3) := by decide +kernel
theorem dX8_banquet_11 : decode cX8_banquet 11 = .ok (.iconst 1, 1) := by decide +kernel
theorem dX8_banquet_12 : decode cX8_banquet 12 = .ok (.iload_n 2, 1) := by decide +kernel
theorem dX8_banquet_13 : decode cX8_banquet 13 = .ok (.bipush 10, 2) := by decide +kernel
theorem dX8_banquet_15 : decode cX8_banquet 15 = .ok (.invokestatic 50, 3) := by decide +kernel
theorem dX8_banquet_18 : decode cX8_banquet 18 = .ok (.ifCond .eq 14, 3) := by decide +kernel
theorem dX8_banquet_21 : decode cX8_banquet 21 = .ok (.iconst 1, 1) := by decide +kernel
theorem dX8_banquet_22 : decode cX8_banquet 22 = .ok (.iload_n 3, 1) := by decide +kernel
theorem dX8_banquet_23 : decode cX8_banquet 23 = .ok (.sipush 200, 3) := by decide +kernel
theorem dX8_banquet_26 : decode cX8_banquet 26 = .ok (.invokestatic 50, 3) := by decide +kernel
theorem dX8_banquet_29 : decode cX8_banquet 29 = .ok (.ifCond .ne 13, 3) := by decide +kernel
theorem dX8_banquet_32 : decode cX8_banquet 32 = .ok (.new 61, 3) := by decide +kernel
theorem dX8_banquet_35 : decode cX8_banquet 35 = .ok (.dup, 1) := by decide +kernel
theorem dX8_banquet_36 : decode cX8_banquet 36 = .ok (.ldc 223, 2) := by decide +kernel
theorem dX8_banquet_38 : decode cX8_banquet 38 = .ok (.invokespecial 65, 3) := by decide +kernel
theorem dX8_banquet_41 : decode cX8_banquet 41 = .ok (.athrow, 1) := by decide +kernel
theorem dX8_banquet_42 : decode cX8_banquet 42 = .ok (.aload_n 0, 1) := by decide +kernel
theorem dX8_banquet_43 : decode cX8_banquet 43 = .ok (.getfield 10, 3) := by decide +kernel
theorem dX8_banquet_46 : decode cX8_banquet 46 = .ok (.aload_n 0, 1) := by decide +kernel
theorem dX8_banquet_47 : decode cX8_banquet 47 = .ok (.getfield 43, 3) := by decide +kernel
theorem dX8_banquet_50 : decode cX8_banquet 50 = .ok (.iload_n 1, 1) := by decide +kernel
theorem dX8_banquet_51 : decode cX8_banquet 51 = .ok (.invokevirtual 225, 3) := by decide +kernel
theorem dX8_banquet_54 : decode cX8_banquet 54 = .ok (.ifCond .eq 13, 3) := by decide +kernel
theorem dX8_banquet_57 : decode cX8_banquet 57 = .ok (.new 90, 3) := by decide +kernel
theorem dX8_banquet_60 : decode cX8_banquet 60 = .ok (.dup, 1) := by decide +kernel
theorem dX8_banquet_61 : decode cX8_banquet 61 = .ok (.ldc 229, 2) := by decide +kernel
theorem dX8_banquet_63 : decode cX8_banquet 63 = .ok (.invokespecial 94, 3) := by decide +kernel
theorem dX8_banquet_66 : decode cX8_banquet 66 = .ok (.athrow, 1) := by decide +kernel
theorem dX8_banquet_67 : decode cX8_banquet 67 = .ok (.aload_n 0, 1) := by decide +kernel
theorem dX8_banquet_68 : decode cX8_banquet 68 = .ok (.getfield 25, 3) := by decide +kernel
theorem dX8_banquet_71 : decode cX8_banquet 71 = .ok (.aload_n 0, 1) := by decide +kernel
theorem dX8_banquet_72 : decode cX8_banquet 72 = .ok (.getfield 10, 3) := by decide +kernel
theorem dX8_banquet_75 : decode cX8_banquet 75 = .ok (.invokevirtual 66, 3) := by decide +kernel
theorem dX8_banquet_78 : decode cX8_banquet 78 = .ok (.aload_n 0, 1) := by decide +kernel
theorem dX8_banquet_79 : decode cX8_banquet 79 = .ok (.getfield 10, 3) := by decide +kernel
theorem dX8_banquet_82 : decode cX8_banquet 82 = .ok (.iload_n 1, 1) := by decide +kernel
theorem dX8_banquet_83 : decode cX8_banquet 83 = .ok (.iload_n 2, 1) := by decide +kernel
theorem dX8_banquet_84 : decode cX8_banquet 84 = .ok (.iload_n 3, 1) := by decide +kernel
theorem dX8_banquet_85 : decode cX8_banquet 85 = .ok (.invokevirtual 231, 3) := by decide +kernel
theorem dX8_banquet_88 : decode cX8_banquet 88 = .ok (.ireturn, 1) := by decide +kernel
theorem dX8_show_0 : decode cX8_show 0 = .ok (.aload_n 0, 1) := by decide +kernel
theorem dX8_show_1 : decode cX8_show 1 = .ok (.iload_n 1, 1) := by decide +kernel
theorem dX8_show_2 : decode cX8_show 2 = .ok (.invokevirtual 235, 3) := by decide +kernel
theorem dX8_show_5 : decode cX8_show 5 = .ok (.astore_n 3, 1) := by decide +kernel
theorem dX8_show_6 : decode cX8_show 6 = .ok (.aload_n 0, 1) := by decide +kernel
theorem dX8_show_7 : decode cX8_show 7 = .ok (.iload_n 2, 1) := by decide +kernel
theorem dX8_show_8 : decode cX8_show 8 = .ok (.invokevirtual 166, 3) := by decide +kernel
theorem dX8_show_11 : decode cX8_show 11 = .ok (.pop, 1) := by decide +kernel
theorem dX8_show_12 : decode cX8_show 12 = .ok (.aload_n 0, 1) := by decide +kernel
theorem dX8_show_13 : decode cX8_show 13 = .ok (.getfield 25, 3) := by decide +kernel
theorem dX8_show_16 : decode cX8_show 16 = .ok (.aload_n 0, 1) := by decide +kernel
theorem dX8_show_17 : decode cX8_show 17 = .ok (.getfield 10, 3) := by decide +kernel
theorem dX8_show_20 : decode cX8_show 20 = .ok (.invokevirtual 66, 3) := by decide +kernel
theorem dX8_show_23 : decode cX8_show 23 = .ok (.aload_n 3, 1) := by decide +kernel
theorem dX8_show_24 : decode cX8_show 24 = .ok (.iload_n 2, 1) := by decide +kernel
theorem dX8_show_25 : decode cX8_show 25 = .ok (.putfield 239, 3) := by decide +kernel
theorem dX8_show_28 : decode cX8_show 28 = .ok (.aload_n 0, 1) := by decide +kernel
theorem dX8_show_29 : decode cX8_show 29 = .ok (.getfield 10, 3) := by decide +kernel
theorem dX8_show_32 : decode cX8_show 32 = .ok (.aload_n 3, 1) := by decide +kernel
theorem dX8_show_33 : decode cX8_show 33 = .ok (.invokevirtual 244, 3) := by decide +kernel
theorem dX8_show_36 : decode cX8_show 36 = .ok (.ireturn, 1) := by decide +kernel
theorem dX8_cancel_0 : decode cX8_cancel 0 = .ok (.aload_n 0, 1) := by decide +kernel
theorem dX8_cancel_1 : decode cX8_cancel 1 = .ok (.iload_n 1, 1) := by decide +kernel
theorem dX8_cancel_2 : decode cX8_cancel 2 = .ok (.invokevirtual 235, 3) := by decide +kernel
theorem dX8_cancel_5 : decode cX8_cancel 5 = .ok (.pop, 1) := by decide +kernel
theorem dX8_cancel_6 : decode cX8_cancel 6 = .ok (.aload_n 0, 1) := by decide +kernel
theorem dX8_cancel_7 : decode cX8_cancel 7 = .ok (.getfield 25, 3) := by decide +kernel
theorem dX8_cancel_10 : decode cX8_cancel 10 = .ok (.aload_n 0, 1) := by decide +kernel
theorem dX8_cancel_11 : decode cX8_cancel 11 = .ok (.getfield 10, 3) := by decide +kernel
theorem dX8_cancel_14 : decode cX8_cancel 14 = .ok (.invokevirtual 66, 3) := by decide +kernel
theorem dX8_cancel_17 : decode cX8_cancel 17 = .ok (.aload_n 0, 1) := by decide +kernel
theorem dX8_cancel_18 : decode cX8_cancel 18 = .ok (.getfield 10, 3) := by decide +kernel
theorem dX8_cancel_21 : decode cX8_cancel 21 = .ok (.aload_n 0, 1) := by decide +kernel
theorem dX8_cancel_22 : decode cX8_cancel 22 = .ok (.getfield 10, 3) := by decide +kernel
theorem dX8_cancel_25 : decode cX8_cancel 25 = .ok (.iload_n 1, 1) := by decide +kernel
theorem dX8_cancel_26 : decode cX8_cancel 26 = .ok (.invokevirtual 248, 3) := by decide +kernel
theorem dX8_cancel_29 : decode cX8_cancel 29 = .ok (.invokevirtual 251, 3) := by decide +kernel
theorem dX8_cancel_32 : decode cX8_cancel 32 = .ok (.aload_n 0, 1) := by decide +kernel
theorem dX8_cancel_33 : decode cX8_cancel 33 = .ok (.getfield 10, 3) := by decide +kernel
theorem dX8_cancel_36 : decode cX8_cancel 36 = .ok (.getfield 255, 3) := by decide +kernel
theorem dX8_cancel_39 : decode cX8_cancel 39 = .ok (.ireturn, 1) := by decide +kernel
theorem dX8_banquetOf_0 : decode cX8_banquetOf 0 = .ok (.aload_n 0, 1) := by decide +kernel
theorem dX8_banquetOf_1 : decode cX8_banquetOf 1 = .ok (.iload_n 1, 1) := by decide +kernel
theorem dX8_banquetOf_2 : decode cX8_banquetOf 2 = .ok (.invokevirtual 235, 3) := by decide +kernel
theorem dX8_banquetOf_5 : decode cX8_banquetOf 5 = .ok (.astore_n 3, 1) := by decide +kernel
theorem dX8_banquetOf_6 : decode cX8_banquetOf 6 = .ok (.iload_n 2, 1) := by decide +kernel
theorem dX8_banquetOf_7 : decode cX8_banquetOf 7 = .ok (.tableswitch 62 0 4 #[33, 38, 43, 48, 53], 33) := by decide +kernel
theorem dX8_banquetOf_40 : decode cX8_banquetOf 40 = .ok (.aload_n 3, 1) := by decide +kernel
theorem dX8_banquetOf_41 : decode cX8_banquetOf 41 = .ok (.getfield 258, 3) := by decide +kernel
theorem dX8_banquetOf_44 : decode cX8_banquetOf 44 = .ok (.ireturn, 1) := by decide +kernel
theorem dX8_banquetOf_45 : decode cX8_banquetOf 45 = .ok (.aload_n 3, 1) := by decide +kernel
theorem dX8_banquetOf_46 : decode cX8_banquetOf 46 = .ok (.getfield 261, 3) := by decide +kernel
theorem dX8_banquetOf_49 : decode cX8_banquetOf 49 = .ok (.ireturn, 1) := by decide +kernel
theorem dX8_banquetOf_50 : decode cX8_banquetOf 50 = .ok (.aload_n 3, 1) := by decide +kernel
theorem dX8_banquetOf_51 : decode cX8_banquetOf 51 = .ok (.getfield 264, 3) := by decide +kernel
theorem dX8_banquetOf_54 : decode cX8_banquetOf 54 = .ok (.ireturn, 1) := by decide +kernel
theorem dX8_banquetOf_55 : decode cX8_banquetOf 55 = .ok (.aload_n 3, 1) := by decide +kernel
theorem dX8_banquetOf_56 : decode cX8_banquetOf 56 = .ok (.getfield 239, 3) := by decide +kernel
theorem dX8_banquetOf_59 : decode cX8_banquetOf 59 = .ok (.ireturn, 1) := by decide +kernel
theorem dX8_banquetOf_60 : decode cX8_banquetOf 60 = .ok (.aload_n 0, 1) := by decide +kernel
theorem dX8_banquetOf_61 : decode cX8_banquetOf 61 = .ok (.getfield 10, 3) := by decide +kernel
theorem dX8_banquetOf_64 : decode cX8_banquetOf 64 = .ok (.aload_n 3, 1) := by decide +kernel
theorem dX8_banquetOf_65 : decode cX8_banquetOf 65 = .ok (.invokevirtual 244, 3) := by decide +kernel
theorem dX8_banquetOf_68 : decode cX8_banquetOf 68 = .ok (.ireturn, 1) := by decide +kernel
theorem dX8_banquetOf_69 : decode cX8_banquetOf 69 = .ok (.new 61, 3) := by decide +kernel
theorem dX8_banquetOf_72 : decode cX8_banquetOf 72 = .ok (.dup, 1) := by decide +kernel
theorem dX8_banquetOf_73 : decode cX8_banquetOf 73 = .ok (.ldc_w 267, 3) := by decide +kernel
theorem dX8_banquetOf_76 : decode cX8_banquetOf 76 = .ok (.invokespecial 65, 3) := by decide +kernel
theorem dX8_banquetOf_79 : decode cX8_banquetOf 79 = .ok (.athrow, 1) := by decide +kernel
theorem dX8_pass_0 : decode cX8_pass 0 = .ok (.iconst 1, 1) := by decide +kernel
theorem dX8_pass_1 : decode cX8_pass 1 = .ok (.iload_n 1, 1) := by decide +kernel
theorem dX8_pass_2 : decode cX8_pass 2 = .ok (.bipush 72, 2) := by decide +kernel
theorem dX8_pass_4 : decode cX8_pass 4 = .ok (.invokestatic 50, 3) := by decide +kernel
theorem dX8_pass_7 : decode cX8_pass 7 = .ok (.ifCond .ne 13, 3) := by decide +kernel
theorem dX8_pass_10 : decode cX8_pass 10 = .ok (.new 61, 3) := by decide +kernel
theorem dX8_pass_13 : decode cX8_pass 13 = .ok (.dup, 1) := by decide +kernel
theorem dX8_pass_14 : decode cX8_pass 14 = .ok (.ldc 74, 2) := by decide +kernel
theorem dX8_pass_16 : decode cX8_pass 16 = .ok (.invokespecial 65, 3) := by decide +kernel
theorem dX8_pass_19 : decode cX8_pass 19 = .ok (.athrow, 1) := by decide +kernel
theorem dX8_pass_20 : decode cX8_pass 20 = .ok (.aload_n 0, 1) := by decide +kernel
theorem dX8_pass_21 : decode cX8_pass 21 = .ok (.getfield 25, 3) := by decide +kernel
theorem dX8_pass_24 : decode cX8_pass 24 = .ok (.aload_n 0, 1) := by decide +kernel
theorem dX8_pass_25 : decode cX8_pass 25 = .ok (.getfield 10, 3) := by decide +kernel
theorem dX8_pass_28 : decode cX8_pass 28 = .ok (.invokevirtual 66, 3) := by decide +kernel
theorem dX8_pass_31 : decode cX8_pass 31 = .ok (.aload_n 0, 1) := by decide +kernel
theorem dX8_pass_32 : decode cX8_pass 32 = .ok (.getfield 10, 3) := by decide +kernel
theorem dX8_pass_35 : decode cX8_pass 35 = .ok (.iload_n 1, 1) := by decide +kernel
theorem dX8_pass_36 : decode cX8_pass 36 = .ok (.invokevirtual 278, 3) := by decide +kernel
theorem dX8_pass_39 : decode cX8_pass 39 = .ok (.ireturn, 1) := by decide +kernel
theorem dX8_append_0 : decode cX8_append 0 = .ok (.aload_n 0, 1) := by decide +kernel
theorem dX8_append_1 : decode cX8_append 1 = .ok (.getfield 32, 3) := by decide +kernel
theorem dX8_append_4 : decode cX8_append 4 = .ok (.getfield 281, 3) := by decide +kernel
theorem dX8_append_7 : decode cX8_append 7 = .ok (.bipush 60, 2) := by decide +kernel
theorem dX8_append_9 : decode cX8_append 9 = .ok (.if_icmp .lt 14, 3) := by decide +kernel
theorem dX8_append_12 : decode cX8_append 12 = .ok (.new 284, 3) := by decide +kernel
theorem dX8_append_15 : decode cX8_append 15 = .ok (.dup, 1) := by decide +kernel
theorem dX8_append_16 : decode cX8_append 16 = .ok (.ldc_w 286, 3) := by decide +kernel
theorem dX8_append_19 : decode cX8_append 19 = .ok (.invokespecial 288, 3) := by decide +kernel
theorem dX8_append_22 : decode cX8_append 22 = .ok (.athrow, 1) := by decide +kernel
theorem dX8_append_23 : decode cX8_append 23 = .ok (.aload_n 0, 1) := by decide +kernel
theorem dX8_append_24 : decode cX8_append 24 = .ok (.getfield 32, 3) := by decide +kernel
theorem dX8_append_27 : decode cX8_append 27 = .ok (.iload_n 1, 1) := by decide +kernel
theorem dX8_append_28 : decode cX8_append 28 = .ok (.invokevirtual 289, 3) := by decide +kernel
theorem dX8_append_31 : decode cX8_append 31 = .ok (.ireturn, 1) := by decide +kernel
theorem dX8_read_0 : decode cX8_read 0 = .ok (.aload_n 0, 1) := by decide +kernel
theorem dX8_read_1 : decode cX8_read 1 = .ok (.aload_n 0, 1) := by decide +kernel
theorem dX8_read_2 : decode cX8_read 2 = .ok (.getfield 32, 3) := by decide +kernel
theorem dX8_read_5 : decode cX8_read 5 = .ok (.invokevirtual 293, 3) := by decide +kernel
theorem dX8_read_8 : decode cX8_read 8 = .ok (.putfield 36, 3) := by decide +kernel
theorem dX8_read_11 : decode cX8_read 11 = .ok (.aload_n 0, 1) := by decide +kernel
theorem dX8_read_12 : decode cX8_read 12 = .ok (.getfield 32, 3) := by decide +kernel
theorem dX8_read_15 : decode cX8_read 15 = .ok (.iconst 0, 1) := by decide +kernel
theorem dX8_read_16 : decode cX8_read 16 = .ok (.putfield 281, 3) := by decide +kernel
theorem dX8_read_19 : decode cX8_read 19 = .ok (.aload_n 0, 1) := by decide +kernel
theorem dX8_read_20 : decode cX8_read 20 = .ok (.getfield 36, 3) := by decide +kernel
theorem dX8_read_23 : decode cX8_read 23 = .ok (.iconst (-1), 1) := by decide +kernel
theorem dX8_read_24 : decode cX8_read 24 = .ok (.if_icmp .eq 14, 3) := by decide +kernel
theorem dX8_read_27 : decode cX8_read 27 = .ok (.new 61, 3) := by decide +kernel
theorem dX8_read_30 : decode cX8_read 30 = .ok (.dup, 1) := by decide +kernel
theorem dX8_read_31 : decode cX8_read 31 = .ok (.ldc_w 296, 3) := by decide +kernel
theorem dX8_read_34 : decode cX8_read 34 = .ok (.invokespecial 65, 3) := by decide +kernel
theorem dX8_read_37 : decode cX8_read 37 = .ok (.athrow, 1) := by decide +kernel
theorem dX8_read_38 : decode cX8_read 38 = .ok (.aload_n 0, 1) := by decide +kernel
theorem dX8_read_39 : decode cX8_read 39 = .ok (.getfield 16, 3) := by decide +kernel
theorem dX8_read_42 : decode cX8_read 42 = .ok (.aload_n 0, 1) := by decide +kernel
theorem dX8_read_43 : decode cX8_read 43 = .ok (.getfield 10, 3) := by decide +kernel
theorem dX8_read_46 : decode cX8_read 46 = .ok (.invokevirtual 298, 3) := by decide +kernel
theorem dX8_read_49 : decode cX8_read 49 = .ok (.iconst 0, 1) := by decide +kernel
theorem dX8_read_50 : decode cX8_read 50 = .ok (.istore_n 1, 1) := by decide +kernel
theorem dX8_read_51 : decode cX8_read 51 = .ok (.iconst 0, 1) := by decide +kernel
theorem dX8_read_52 : decode cX8_read 52 = .ok (.istore_n 2, 1) := by decide +kernel
theorem dX8_read_53 : decode cX8_read 53 = .ok (.iload_n 2, 1) := by decide +kernel
theorem dX8_read_54 : decode cX8_read 54 = .ok (.aload_n 0, 1) := by decide +kernel
theorem dX8_read_55 : decode cX8_read 55 = .ok (.getfield 32, 3) := by decide +kernel
theorem dX8_read_58 : decode cX8_read 58 = .ok (.getfield 301, 3) := by decide +kernel
theorem dX8_read_61 : decode cX8_read 61 = .ok (.if_icmp .ge 26, 3) := by decide +kernel
theorem dX8_read_64 : decode cX8_read 64 = .ok (.iload_n 1, 1) := by decide +kernel
theorem dX8_read_65 : decode cX8_read 65 = .ok (.ifCond .ne 22, 3) := by decide +kernel
theorem dX8_read_68 : decode cX8_read 68 = .ok (.aload_n 0, 1) := by decide +kernel
theorem dX8_read_69 : decode cX8_read 69 = .ok (.aload_n 0, 1) := by decide +kernel
theorem dX8_read_70 : decode cX8_read 70 = .ok (.getfield 32, 3) := by decide +kernel
theorem dX8_read_73 : decode cX8_read 73 = .ok (.iload_n 2, 1) := by decide +kernel
theorem dX8_read_74 : decode cX8_read 74 = .ok (.invokevirtual 304, 3) := by decide +kernel
theorem dX8_read_77 : decode cX8_read 77 = .ok (.invokevirtual 308, 3) := by decide +kernel
theorem dX8_read_80 : decode cX8_read 80 = .ok (.istore_n 1, 1) := by decide +kernel
theorem dX8_read_81 : decode cX8_read 81 = .ok (.iinc 2 1, 3) := by decide +kernel
theorem dX8_read_84 : decode cX8_read 84 = .ok (.goto (-31), 3) := by decide +kernel
theorem dX8_read_87 : decode cX8_read 87 = .ok (.iload_n 1, 1) := by decide +kernel
theorem dX8_read_88 : decode cX8_read 88 = .ok (.iconst 1, 1) := by decide +kernel
theorem dX8_read_89 : decode cX8_read 89 = .ok (.if_icmp .ne 14, 3) := by decide +kernel
theorem dX8_read_92 : decode cX8_read 92 = .ok (.new 61, 3) := by decide +kernel
theorem dX8_read_95 : decode cX8_read 95 = .ok (.dup, 1) := by decide +kernel
theorem dX8_read_96 : decode cX8_read 96 = .ok (.ldc_w 312, 3) := by decide +kernel
theorem dX8_read_99 : decode cX8_read 99 = .ok (.invokespecial 65, 3) := by decide +kernel
theorem dX8_read_102 : decode cX8_read 102 = .ok (.athrow, 1) := by decide +kernel
theorem dX8_read_103 : decode cX8_read 103 = .ok (.iload_n 1, 1) := by decide +kernel
theorem dX8_read_104 : decode cX8_read 104 = .ok (.iconst 2, 1) := by decide +kernel
theorem dX8_read_105 : decode cX8_read 105 = .ok (.if_icmp .ne 14, 3) := by decide +kernel
theorem dX8_read_108 : decode cX8_read 108 = .ok (.new 90, 3) := by decide +kernel
theorem dX8_read_111 : decode cX8_read 111 = .ok (.dup, 1) := by decide +kernel
theorem dX8_read_112 : decode cX8_read 112 = .ok (.ldc_w 314, 3) := by decide +kernel
theorem dX8_read_115 : decode cX8_read 115 = .ok (.invokespecial 94, 3) := by decide +kernel
theorem dX8_read_118 : decode cX8_read 118 = .ok (.athrow, 1) := by decide +kernel
theorem dX8_read_119 : decode cX8_read 119 = .ok (.aload_n 0, 1) := by decide +kernel
theorem dX8_read_120 : decode cX8_read 120 = .ok (.getfield 25, 3) := by decide +kernel
theorem dX8_read_123 : decode cX8_read 123 = .ok (.aload_n 0, 1) := by decide +kernel
theorem dX8_read_124 : decode cX8_read 124 = .ok (.getfield 10, 3) := by decide +kernel
theorem dX8_read_127 : decode cX8_read 127 = .ok (.invokevirtual 66, 3) := by decide +kernel
theorem dX8_read_130 : decode cX8_read 130 = .ok (.aload_n 0, 1) := by decide +kernel
theorem dX8_read_131 : decode cX8_read 131 = .ok (.getfield 10, 3) := by decide +kernel
theorem dX8_read_134 : decode cX8_read 134 = .ok (.aload_n 0, 1) := by decide +kernel
theorem dX8_read_135 : decode cX8_read 135 = .ok (.getfield 16, 3) := by decide +kernel
theorem dX8_read_138 : decode cX8_read 138 = .ok (.invokevirtual 298, 3) := by decide +kernel
theorem dX8_read_141 : decode cX8_read 141 = .ok (.aload_n 0, 1) := by decide +kernel
theorem dX8_read_142 : decode cX8_read 142 = .ok (.getfield 32, 3) := by decide +kernel
theorem dX8_read_145 : decode cX8_read 145 = .ok (.getfield 301, 3) := by decide +kernel
theorem dX8_read_148 : decode cX8_read 148 = .ok (.ireturn, 1) := by decide +kernel
theorem dX8_errorPosition_0 : decode cX8_errorPosition 0 = .ok (.aload_n 0, 1) := by decide +kernel
theorem dX8_errorPosition_1 : decode cX8_errorPosition 1 = .ok (.getfield 36, 3) := by decide +kernel
theorem dX8_errorPosition_4 : decode cX8_errorPosition 4 = .ok (.ireturn, 1) := by decide +kernel
theorem dX8_refusal_0 : decode cX8_refusal 0 = .ok (.aload_n 0, 1) := by decide +kernel
theorem dX8_refusal_1 : decode cX8_refusal 1 = .ok (.getfield 43, 3) := by decide +kernel
theorem dX8_refusal_4 : decode cX8_refusal 4 = .ok (.getfield 316, 3) := by decide +kernel
theorem dX8_refusal_7 : decode cX8_refusal 7 = .ok (.ifCond .ne 14, 3) := by decide +kernel
theorem dX8_refusal_10 : decode cX8_refusal 10 = .ok (.new 142, 3) := by decide +kernel
theorem dX8_refusal_13 : decode cX8_refusal 13 = .ok (.dup, 1) := by decide +kernel
theorem dX8_refusal_14 : decode cX8_refusal 14 = .ok (.ldc_w 319, 3) := by decide +kernel
theorem dX8_refusal_17 : decode cX8_refusal 17 = .ok (.invokespecial 146, 3) := by decide +kernel
theorem dX8_refusal_20 : decode cX8_refusal 20 = .ok (.athrow, 1) := by decide +kernel
theorem dX8_refusal_21 : decode cX8_refusal 21 = .ok (.iload_n 1, 1) := by decide +kernel
theorem dX8_refusal_22 : decode cX8_refusal 22 = .ok (.ifCond .eq 13, 3) := by decide +kernel
theorem dX8_refusal_25 : decode cX8_refusal 25 = .ok (.aload_n 0, 1) := by decide +kernel
theorem dX8_refusal_26 : decode cX8_refusal 26 = .ok (.getfield 43, 3) := by decide +kernel
theorem dX8_refusal_29 : decode cX8_refusal 29 = .ok (.getfield 321, 3) := by decide +kernel
theorem dX8_refusal_32 : decode cX8_refusal 32 = .ok (.goto 10, 3) := by decide +kernel
theorem dX8_refusal_35 : decode cX8_refusal 35 = .ok (.aload_n 0, 1) := by decide +kernel
theorem dX8_refusal_36 : decode cX8_refusal 36 = .ok (.getfield 43, 3) := by decide +kernel
theorem dX8_refusal_39 : decode cX8_refusal 39 = .ok (.getfield 316, 3) := by decide +kernel
theorem dX8_refusal_42 : decode cX8_refusal 42 = .ok (.ireturn, 1) := by decide +kernel
theorem dX8_account_0 : decode cX8_account 0 = .ok (.iload_n 1, 1) := by decide +kernel
theorem dX8_account_1 : decode cX8_account 1 = .ok (.tableswitch 225 0 16 #[83, 91, 99, 107, 115, 123, 131, 139, 147, 158, 169, 177, 185, 193, 201, 209, 217], 83) := by decide +kernel
theorem dX8_account_84 : decode cX8_account 84 = .ok (.aload_n 0, 1) := by decide +kernel
theorem dX8_account_85 : decode cX8_account 85 = .ok (.getfield 10, 3) := by decide +kernel
theorem dX8_account_88 : decode cX8_account 88 = .ok (.getfield 324, 3) := by decide +kernel
theorem dX8_account_91 : decode cX8_account 91 = .ok (.ireturn, 1) := by decide +kernel
theorem dX8_account_92 : decode cX8_account 92 = .ok (.aload_n 0, 1) := by decide +kernel
theorem dX8_account_93 : decode cX8_account 93 = .ok (.getfield 10, 3) := by decide +kernel
theorem dX8_account_96 : decode cX8_account 96 = .ok (.getfield 325, 3) := by decide +kernel
theorem dX8_account_99 : decode cX8_account 99 = .ok (.ireturn, 1) := by decide +kernel
theorem dX8_account_100 : decode cX8_account 100 = .ok (.aload_n 0, 1) := by decide +kernel
theorem dX8_account_101 : decode cX8_account 101 = .ok (.getfield 10, 3) := by decide +kernel
theorem dX8_account_104 : decode cX8_account 104 = .ok (.getfield 147, 3) := by decide +kernel
theorem dX8_account_107 : decode cX8_account 107 = .ok (.ireturn, 1) := by decide +kernel
theorem dX8_account_108 : decode cX8_account 108 = .ok (.aload_n 0, 1) := by decide +kernel
theorem dX8_account_109 : decode cX8_account 109 = .ok (.getfield 10, 3) := by decide +kernel
theorem dX8_account_112 : decode cX8_account 112 = .ok (.getfield 109, 3) := by decide +kernel
theorem dX8_account_115 : decode cX8_account 115 = .ok (.ireturn, 1) := by decide +kernel
theorem dX8_account_116 : decode cX8_account 116 = .ok (.aload_n 0, 1) := by decide +kernel
theorem dX8_account_117 : decode cX8_account 117 = .ok (.getfield 10, 3) := by decide +kernel
theorem dX8_account_120 : decode cX8_account 120 = .ok (.invokevirtual 326, 3) := by decide +kernel
theorem dX8_account_123 : decode cX8_account 123 = .ok (.ireturn, 1) := by decide +kernel
theorem dX8_account_124 : decode cX8_account 124 = .ok (.aload_n 0, 1) := by decide +kernel
theorem dX8_account_125 : decode cX8_account 125 = .ok (.getfield 10, 3) := by decide +kernel
theorem dX8_account_128 : decode cX8_account 128 = .ok (.getfield 255, 3) := by decide +kernel
theorem dX8_account_131 : decode cX8_account 131 = .ok (.ireturn, 1) := by decide +kernel
theorem dX8_account_132 : decode cX8_account 132 = .ok (.aload_n 0, 1) := by decide +kernel
theorem dX8_account_133 : decode cX8_account 133 = .ok (.getfield 10, 3) := by decide +kernel
theorem dX8_account_136 : decode cX8_account 136 = .ok (.getfield 329, 3) := by decide +kernel
theorem dX8_account_139 : decode cX8_account 139 = .ok (.ireturn, 1) := by decide +kernel
theorem dX8_account_140 : decode cX8_account 140 = .ok (.aload_n 0, 1) := by decide +kernel
theorem dX8_account_141 : decode cX8_account 141 = .ok (.getfield 10, 3) := by decide +kernel
theorem dX8_account_144 : decode cX8_account 144 = .ok (.getfield 332, 3) := by decide +kernel
theorem dX8_account_147 : decode cX8_account 147 = .ok (.ireturn, 1) := by decide +kernel
theorem dX8_account_148 : decode cX8_account 148 = .ok (.aload_n 0, 1) := by decide +kernel
theorem dX8_account_149 : decode cX8_account 149 = .ok (.getfield 10, 3) := by decide +kernel
theorem dX8_account_152 : decode cX8_account 152 = .ok (.getfield 335, 3) := by decide +kernel
theorem dX8_account_155 : decode cX8_account 155 = .ok (.invokestatic 339, 3) := by decide +kernel
theorem dX8_account_158 : decode cX8_account 158 = .ok (.ireturn, 1) := by decide +kernel
theorem dX8_account_159 : decode cX8_account 159 = .ok (.aload_n 0, 1) := by decide +kernel
theorem dX8_account_160 : decode cX8_account 160 = .ok (.getfield 10, 3) := by decide +kernel
theorem dX8_account_163 : decode cX8_account 163 = .ok (.getfield 343, 3) := by decide +kernel
theorem dX8_account_166 : decode cX8_account 166 = .ok (.invokestatic 339, 3) := by decide +kernel
theorem dX8_account_169 : decode cX8_account 169 = .ok (.ireturn, 1) := by decide +kernel
theorem dX8_account_170 : decode cX8_account 170 = .ok (.aload_n 0, 1) := by decide +kernel
theorem dX8_account_171 : decode cX8_account 171 = .ok (.getfield 10, 3) := by decide +kernel
theorem dX8_account_174 : decode cX8_account 174 = .ok (.invokevirtual 346, 3) := by decide +kernel
theorem dX8_account_177 : decode cX8_account 177 = .ok (.ireturn, 1) := by decide +kernel
theorem dX8_account_178 : decode cX8_account 178 = .ok (.aload_n 0, 1) := by decide +kernel
theorem dX8_account_179 : decode cX8_account 179 = .ok (.getfield 10, 3) := by decide +kernel
theorem dX8_account_182 : decode cX8_account 182 = .ok (.getfield 349, 3) := by decide +kernel
theorem dX8_account_185 : decode cX8_account 185 = .ok (.ireturn, 1) := by decide +kernel
theorem dX8_account_186 : decode cX8_account 186 = .ok (.aload_n 0, 1) := by decide +kernel
theorem dX8_account_187 : decode cX8_account 187 = .ok (.getfield 10, 3) := by decide +kernel
theorem dX8_account_190 : decode cX8_account 190 = .ok (.getfield 352, 3) := by decide +kernel
theorem dX8_account_193 : decode cX8_account 193 = .ok (.ireturn, 1) := by decide +kernel
theorem dX8_account_194 : decode cX8_account 194 = .ok (.aload_n 0, 1) := by decide +kernel
theorem dX8_account_195 : decode cX8_account 195 = .ok (.getfield 10, 3) := by decide +kernel
theorem dX8_account_198 : decode cX8_account 198 = .ok (.invokevirtual 355, 3) := by decide +kernel
theorem dX8_account_201 : decode cX8_account 201 = .ok (.ireturn, 1) := by decide +kernel
theorem dX8_account_202 : decode cX8_account 202 = .ok (.aload_n 0, 1) := by decide +kernel
theorem dX8_account_203 : decode cX8_account 203 = .ok (.getfield 10, 3) := by decide +kernel
theorem dX8_account_206 : decode cX8_account 206 = .ok (.getfield 358, 3) := by decide +kernel
theorem dX8_account_209 : decode cX8_account 209 = .ok (.ireturn, 1) := by decide +kernel
theorem dX8_account_210 : decode cX8_account 210 = .ok (.aload_n 0, 1) := by decide +kernel
theorem dX8_account_211 : decode cX8_account 211 = .ok (.getfield 32, 3) := by decide +kernel
theorem dX8_account_214 : decode cX8_account 214 = .ok (.getfield 281, 3) := by decide +kernel
theorem dX8_account_217 : decode cX8_account 217 = .ok (.ireturn, 1) := by decide +kernel
theorem dX8_account_218 : decode cX8_account 218 = .ok (.aload_n 0, 1) := by decide +kernel
theorem dX8_account_219 : decode cX8_account 219 = .ok (.getfield 25, 3) := by decide +kernel
theorem dX8_account_222 : decode cX8_account 222 = .ok (.getfield 361, 3) := by decide +kernel
theorem dX8_account_225 : decode cX8_account 225 = .ok (.ireturn, 1) := by decide +kernel
theorem dX8_account_226 : decode cX8_account 226 = .ok (.new 61, 3) := by decide +kernel
theorem dX8_account_229 : decode cX8_account 229 = .ok (.dup, 1) := by decide +kernel
theorem dX8_account_230 : decode cX8_account 230 = .ok (.ldc_w 364, 3) := by decide +kernel
theorem dX8_account_233 : decode cX8_account 233 = .ok (.invokespecial 65, 3) := by decide +kernel
theorem dX8_account_236 : decode cX8_account 236 = .ok (.athrow, 1) := by decide +kernel
theorem dX8_undo_0 : decode cX8_undo 0 = .ok (.aload_n 0, 1) := by decide +kernel
theorem dX8_undo_1 : decode cX8_undo 1 = .ok (.getfield 25, 3) := by decide +kernel
theorem dX8_undo_4 : decode cX8_undo 4 = .ok (.getfield 361, 3) := by decide +kernel
theorem dX8_undo_7 : decode cX8_undo 7 = .ok (.ifCond .ne 14, 3) := by decide +kernel
theorem dX8_undo_10 : decode cX8_undo 10 = .ok (.new 284, 3) := by decide +kernel
theorem dX8_undo_13 : decode cX8_undo 13 = .ok (.dup, 1) := by decide +kernel
theorem dX8_undo_14 : decode cX8_undo 14 = .ok (.ldc_w 386, 3) := by decide +kernel
theorem dX8_undo_17 : decode cX8_undo 17 = .ok (.invokespecial 288, 3) := by decide +kernel
theorem dX8_undo_20 : decode cX8_undo 20 = .ok (.athrow, 1) := by decide +kernel
theorem dX8_undo_21 : decode cX8_undo 21 = .ok (.aload_n 0, 1) := by decide +kernel
theorem dX8_undo_22 : decode cX8_undo 22 = .ok (.getfield 25, 3) := by decide +kernel
theorem dX8_undo_25 : decode cX8_undo 25 = .ok (.aload_n 0, 1) := by decide +kernel
theorem dX8_undo_26 : decode cX8_undo 26 = .ok (.getfield 10, 3) := by decide +kernel
theorem dX8_undo_29 : decode cX8_undo 29 = .ok (.invokevirtual 388, 3) := by decide +kernel
theorem dX8_undo_32 : decode cX8_undo 32 = .ok (.aload_n 0, 1) := by decide +kernel
theorem dX8_undo_33 : decode cX8_undo 33 = .ok (.getfield 25, 3) := by decide +kernel
theorem dX8_undo_36 : decode cX8_undo 36 = .ok (.getfield 361, 3) := by decide +kernel
theorem dX8_undo_39 : decode cX8_undo 39 = .ok (.ireturn, 1) := by decide +kernel
theorem dX8_save_0 : decode cX8_save 0 = .ok (.aload_n 0, 1) := by decide +kernel
theorem dX8_save_1 : decode cX8_save 1 = .ok (.getfield 19, 3) := by decide +kernel
theorem dX8_save_4 : decode cX8_save 4 = .ok (.aload_n 0, 1) := by decide +kernel
theorem dX8_save_5 : decode cX8_save 5 = .ok (.getfield 10, 3) := by decide +kernel
theorem dX8_save_8 : decode cX8_save 8 = .ok (.invokevirtual 298, 3) := by decide +kernel
theorem dX8_save_11 : decode cX8_save 11 = .ok (.aload_n 0, 1) := by decide +kernel
theorem dX8_save_12 : decode cX8_save 12 = .ok (.iconst 1, 1) := by decide +kernel
theorem dX8_save_13 : decode cX8_save 13 = .ok (.putfield 391, 3) := by decide +kernel
theorem dX8_save_16 : decode cX8_save 16 = .ok (.aload_n 0, 1) := by decide +kernel
theorem dX8_save_17 : decode cX8_save 17 = .ok (.getfield 19, 3) := by decide +kernel
theorem dX8_save_20 : decode cX8_save 20 = .ok (.getfield 147, 3) := by decide +kernel
theorem dX8_save_23 : decode cX8_save 23 = .ok (.ireturn, 1) := by decide +kernel
theorem dX8_restore_0 : decode cX8_restore 0 = .ok (.aload_n 0, 1) := by decide +kernel
theorem dX8_restore_1 : decode cX8_restore 1 = .ok (.getfield 391, 3) := by decide +kernel
theorem dX8_restore_4 : decode cX8_restore 4 = .ok (.ifCond .ne 14, 3) := by decide +kernel
theorem dX8_restore_7 : decode cX8_restore 7 = .ok (.new 284, 3) := by decide +kernel
theorem dX8_restore_10 : decode cX8_restore 10 = .ok (.dup, 1) := by decide +kernel
theorem dX8_restore_11 : decode cX8_restore 11 = .ok (.ldc_w 395, 3) := by decide +kernel
theorem dX8_restore_14 : decode cX8_restore 14 = .ok (.invokespecial 288, 3) := by decide +kernel
theorem dX8_restore_17 : decode cX8_restore 17 = .ok (.athrow, 1) := by decide +kernel
theorem dX8_restore_18 : decode cX8_restore 18 = .ok (.aload_n 0, 1) := by decide +kernel
theorem dX8_restore_19 : decode cX8_restore 19 = .ok (.getfield 10, 3) := by decide +kernel
theorem dX8_restore_22 : decode cX8_restore 22 = .ok (.aload_n 0, 1) := by decide +kernel
theorem dX8_restore_23 : decode cX8_restore 23 = .ok (.getfield 19, 3) := by decide +kernel
theorem dX8_restore_26 : decode cX8_restore 26 = .ok (.invokevirtual 298, 3) := by decide +kernel
theorem dX8_restore_29 : decode cX8_restore 29 = .ok (.aload_n 0, 1) := by decide +kernel
theorem dX8_restore_30 : decode cX8_restore 30 = .ok (.getfield 25, 3) := by decide +kernel
theorem dX8_restore_33 : decode cX8_restore 33 = .ok (.iconst 0, 1) := by decide +kernel
theorem dX8_restore_34 : decode cX8_restore 34 = .ok (.putfield 361, 3) := by decide +kernel
theorem dX8_restore_37 : decode cX8_restore 37 = .ok (.aload_n 0, 1) := by decide +kernel
theorem dX8_restore_38 : decode cX8_restore 38 = .ok (.getfield 10, 3) := by decide +kernel
theorem dX8_restore_41 : decode cX8_restore 41 = .ok (.getfield 147, 3) := by decide +kernel
theorem dX8_restore_44 : decode cX8_restore 44 = .ok (.ireturn, 1) := by decide +kernel
theorem dX8_knownTower_0 : decode cX8_knownTower 0 = .ok (.aload_n 0, 1) := by decide +kernel
theorem dX8_knownTower_1 : decode cX8_knownTower 1 = .ok (.getfield 10, 3) := by decide +kernel
theorem dX8_knownTower_4 : decode cX8_knownTower 4 = .ok (.iload_n 1, 1) := by decide +kernel
theorem dX8_knownTower_5 : decode cX8_knownTower 5 = .ok (.invokevirtual 397, 3) := by decide +kernel
theorem dX8_knownTower_8 : decode cX8_knownTower 8 = .ok (.astore_n 2, 1) := by decide +kernel
theorem dX8_knownTower_9 : decode cX8_knownTower 9 = .ok (.aload_n 2, 1) := by decide +kernel
theorem dX8_knownTower_10 : decode cX8_knownTower 10 = .ok (.ifnonnull 14, 3) := by decide +kernel
theorem dX8_knownTower_13 : decode cX8_knownTower 13 = .ok (.new 54, 3) := by decide +kernel
theorem dX8_knownTower_16 : decode cX8_knownTower 16 = .ok (.dup, 1) := by decide +kernel
theorem dX8_knownTower_17 : decode cX8_knownTower 17 = .ok (.ldc_w 400, 3) := by decide +kernel
theorem dX8_knownTower_20 : decode cX8_knownTower 20 = .ok (.invokespecial 58, 3) := by decide +kernel
theorem dX8_knownTower_23 : decode cX8_knownTower 23 = .ok (.athrow, 1) := by decide +kernel
theorem dX8_knownTower_24 : decode cX8_knownTower 24 = .ok (.aload_n 2, 1) := by decide +kernel
theorem dX8_knownTower_25 : decode cX8_knownTower 25 = .ok (.areturn, 1) := by decide +kernel
theorem dX8_towerWithCourse_0 : decode cX8_towerWithCourse 0 = .ok (.aload_n 0, 1) := by decide +kernel
theorem dX8_towerWithCourse_1 : decode cX8_towerWithCourse 1 = .ok (.iload_n 1, 1) := by decide +kernel
theorem dX8_towerWithCourse_2 : decode cX8_towerWithCourse 2 = .ok (.invokevirtual 166, 3) := by decide +kernel
theorem dX8_towerWithCourse_5 : decode cX8_towerWithCourse 5 = .ok (.astore_n 3, 1) := by decide +kernel
theorem dX8_towerWithCourse_6 : decode cX8_towerWithCourse 6 = .ok (.aload_n 3, 1) := by decide +kernel
theorem dX8_towerWithCourse_7 : decode cX8_towerWithCourse 7 = .ok (.iload_n 2, 1) := by decide +kernel
theorem dX8_towerWithCourse_8 : decode cX8_towerWithCourse 8 = .ok (.invokevirtual 402, 3) := by decide +kernel
theorem dX8_towerWithCourse_11 : decode cX8_towerWithCourse 11 = .ok (.ifCond .ne 14, 3) := by decide +kernel
theorem dX8_towerWithCourse_14 : decode cX8_towerWithCourse 14 = .ok (.new 54, 3) := by decide +kernel
theorem dX8_towerWithCourse_17 : decode cX8_towerWithCourse 17 = .ok (.dup, 1) := by decide +kernel
theorem dX8_towerWithCourse_18 : decode cX8_towerWithCourse 18 = .ok (.ldc_w 405, 3) := by decide +kernel
theorem dX8_towerWithCourse_21 : decode cX8_towerWithCourse 21 = .ok (.invokespecial 58, 3) := by decide +kernel
theorem dX8_towerWithCourse_24 : decode cX8_towerWithCourse 24 = .ok (.athrow, 1) := by decide +kernel
theorem dX8_towerWithCourse_25 : decode cX8_towerWithCourse 25 = .ok (.aload_n 3, 1) := by decide +kernel
theorem dX8_towerWithCourse_26 : decode cX8_towerWithCourse 26 = .ok (.areturn, 1) := by decide +kernel
theorem dX8_knownTongs_0 : decode cX8_knownTongs 0 = .ok (.aload_n 0, 1) := by decide +kernel
theorem dX8_knownTongs_1 : decode cX8_knownTongs 1 = .ok (.getfield 10, 3) := by decide +kernel
theorem dX8_knownTongs_4 : decode cX8_knownTongs 4 = .ok (.iload_n 1, 1) := by decide +kernel
theorem dX8_knownTongs_5 : decode cX8_knownTongs 5 = .ok (.invokevirtual 407, 3) := by decide +kernel
theorem dX8_knownTongs_8 : decode cX8_knownTongs 8 = .ok (.astore_n 2, 1) := by decide +kernel
theorem dX8_knownTongs_9 : decode cX8_knownTongs 9 = .ok (.aload_n 2, 1) := by decide +kernel
theorem dX8_knownTongs_10 : decode cX8_knownTongs 10 = .ok (.ifnonnull 14, 3) := by decide +kernel
theorem dX8_knownTongs_13 : decode cX8_knownTongs 13 = .ok (.new 54, 3) := by decide +kernel
theorem dX8_knownTongs_16 : decode cX8_knownTongs 16 = .ok (.dup, 1) := by decide +kernel
theorem dX8_knownTongs_17 : decode cX8_knownTongs 17 = .ok (.ldc_w 410, 3) := by decide +kernel
theorem dX8_knownTongs_20 : decode cX8_knownTongs 20 = .ok (.invokespecial 58, 3) := by decide +kernel
theorem dX8_knownTongs_23 : decode cX8_knownTongs 23 = .ok (.athrow, 1) := by decide +kernel
theorem dX8_knownTongs_24 : decode cX8_knownTongs 24 = .ok (.aload_n 2, 1) := by decide +kernel
theorem dX8_knownTongs_25 : decode cX8_knownTongs 25 = .ok (.areturn, 1) := by decide +kernel
theorem dX8_knownBanquet_0 : decode cX8_knownBanquet 0 = .ok (.aload_n 0, 1) := by decide +kernel
theorem dX8_knownBanquet_1 : decode cX8_knownBanquet 1 = .ok (.getfield 10, 3) := by decide +kernel
theorem dX8_knownBanquet_4 : decode cX8_knownBanquet 4 = .ok (.aload_n 0, 1) := by decide +kernel
theorem dX8_knownBanquet_5 : decode cX8_knownBanquet 5 = .ok (.getfield 10, 3) := by decide +kernel
theorem dX8_knownBanquet_8 : decode cX8_knownBanquet 8 = .ok (.iload_n 1, 1) := by decide +kernel
theorem dX8_knownBanquet_9 : decode cX8_knownBanquet 9 = .ok (.invokevirtual 248, 3) := by decide +kernel
theorem dX8_knownBanquet_12 : decode cX8_knownBanquet 12 = .ok (.invokevirtual 412, 3) := by decide +kernel
theorem dX8_knownBanquet_15 : decode cX8_knownBanquet 15 = .ok (.astore_n 2, 1) := by decide +kernel
theorem dX8_knownBanquet_16 : decode cX8_knownBanquet 16 = .ok (.aload_n 2, 1) := by decide +kernel
theorem dX8_knownBanquet_17 : decode cX8_knownBanquet 17 = .ok (.ifnonnull 14, 3) := by decide +kernel
theorem dX8_knownBanquet_20 : decode cX8_knownBanquet 20 = .ok (.new 142, 3) := by decide +kernel
theorem dX8_knownBanquet_23 : decode cX8_knownBanquet 23 = .ok (.dup, 1) := by decide +kernel
theorem dX8_knownBanquet_24 : decode cX8_knownBanquet 24 = .ok (.ldc_w 415, 3) := by decide +kernel
theorem dX8_knownBanquet_27 : decode cX8_knownBanquet 27 = .ok (.invokespecial 146, 3) := by decide +kernel
theorem dX8_knownBanquet_30 : decode cX8_knownBanquet 30 = .ok (.athrow, 1) := by decide +kernel
theorem dX8_knownBanquet_31 : decode cX8_knownBanquet 31 = .ok (.aload_n 2, 1) := by decide +kernel
theorem dX8_knownBanquet_32 : decode cX8_knownBanquet 32 = .ok (.areturn, 1) := by decide +kernel
theorem dX8_reasonAgainstCourse_0 : decode cX8_reasonAgainstCourse 0 = .ok (.aload_n 0, 1) := by decide +kernel
theorem dX8_reasonAgainstCourse_1 : decode cX8_reasonAgainstCourse 1 = .ok (.iload_n 2, 1) := by decide +kernel
theorem dX8_reasonAgainstCourse_2 : decode cX8_reasonAgainstCourse 2 = .ok (.invokevirtual 166, 3) := by decide +kernel
theorem dX8_reasonAgainstCourse_5 : decode cX8_reasonAgainstCourse 5 = .ok (.pop, 1) := by decide +kernel
theorem dX8_reasonAgainstCourse_6 : decode cX8_reasonAgainstCourse 6 = .ok (.aload_n 0, 1) := by decide +kernel
theorem dX8_reasonAgainstCourse_7 : decode cX8_reasonAgainstCourse 7 = .ok (.iload_n 3, 1) := by decide +kernel
theorem dX8_reasonAgainstCourse_8 : decode cX8_reasonAgainstCourse 8 = .ok (.invokevirtual 120, 3) := by decide +kernel
theorem dX8_reasonAgainstCourse_11 : decode cX8_reasonAgainstCourse 11 = .ok (.pop, 1) := by decide +kernel
theorem dX8_reasonAgainstCourse_12 : decode cX8_reasonAgainstCourse 12 = .ok (.iload 4, 2) := by decide +kernel
theorem dX8_reasonAgainstCourse_14 : decode cX8_reasonAgainstCourse 14 = .ok (.iload 5, 2) := by decide +kernel
theorem dX8_reasonAgainstCourse_16 : decode cX8_reasonAgainstCourse 16 = .ok (.invokestatic 417, 3) := by decide +kernel
theorem dX8_reasonAgainstCourse_19 : decode cX8_reasonAgainstCourse 19 = .ok (.ifCond .ne 13, 3) := by decide +kernel
theorem dX8_reasonAgainstCourse_22 : decode cX8_reasonAgainstCourse 22 = .ok (.new 61, 3) := by decide +kernel
theorem dX8_reasonAgainstCourse_25 : decode cX8_reasonAgainstCourse 25 = .ok (.dup, 1) := by decide +kernel
theorem dX8_reasonAgainstCourse_26 : decode cX8_reasonAgainstCourse 26 = .ok (.ldc 84, 2) := by decide +kernel
theorem dX8_reasonAgainstCourse_28 : decode cX8_reasonAgainstCourse 28 = .ok (.invokespecial 65, 3) := by decide +kernel
theorem dX8_reasonAgainstCourse_31 : decode cX8_reasonAgainstCourse 31 = .ok (.athrow, 1) := by decide +kernel
theorem dX8_reasonAgainstCourse_32 : decode cX8_reasonAgainstCourse 32 = .ok (.aload_n 0, 1) := by decide +kernel
theorem dX8_reasonAgainstCourse_33 : decode cX8_reasonAgainstCourse 33 = .ok (.getfield 10, 3) := by decide +kernel
theorem dX8_reasonAgainstCourse_36 : decode cX8_reasonAgainstCourse 36 = .ok (.aload_n 1, 1) := by decide +kernel
theorem dX8_reasonAgainstCourse_37 : decode cX8_reasonAgainstCourse 37 = .ok (.iload_n 2, 1) := by decide +kernel
theorem dX8_reasonAgainstCourse_38 : decode cX8_reasonAgainstCourse 38 = .ok (.iload_n 3, 1) := by decide +kernel
theorem dX8_reasonAgainstCourse_39 : decode cX8_reasonAgainstCourse 39 = .ok (.iload 4, 2) := by decide +kernel
theorem dX8_reasonAgainstCourse_41 : decode cX8_reasonAgainstCourse 41 = .ok (.iload 5, 2) := by decide +kernel
theorem dX8_reasonAgainstCourse_43 : decode cX8_reasonAgainstCourse 43 = .ok (.invokevirtual 420, 3) := by decide +kernel
theorem dX8_reasonAgainstCourse_46 : decode cX8_reasonAgainstCourse 46 = .ok (.ireturn, 1) := by decide +kernel
theorem dX8_tryOrder_0 : decode cX8_tryOrder 0 = .ok (.aload_n 1, 1) := by decide +kernel
theorem dX8_tryOrder_1 : decode cX8_tryOrder 1 = .ok (.ifnonnull 5, 3) := by decide +kernel
theorem dX8_tryOrder_4 : decode cX8_tryOrder 4 = .ok (.iconst 1, 1) := by decide +kernel
theorem dX8_tryOrder_5 : decode cX8_tryOrder 5 = .ok (.ireturn, 1) := by decide +kernel
theorem dX8_tryOrder_6 : decode cX8_tryOrder 6 = .ok (.aload_n 1, 1) := by decide +kernel
theorem dX8_tryOrder_7 : decode cX8_tryOrder 7 = .ok (.getfield 423, 3) := by decide +kernel
theorem dX8_tryOrder_10 : decode cX8_tryOrder 10 = .ok (.lookupswitch 135 #[(98, 50), (104, 124), (108, 67), (115, 107), (116, 96)], 50) := by decide +kernel
theorem dX8_tryOrder_60 : decode cX8_tryOrder 60 = .ok (.aload_n 0, 1) := by decide +kernel
theorem dX8_tryOrder_61 : decode cX8_tryOrder 61 = .ok (.aload_n 1, 1) := by decide +kernel
theorem dX8_tryOrder_62 : decode cX8_tryOrder 62 = .ok (.getfield 428, 3) := by decide +kernel
theorem dX8_tryOrder_65 : decode cX8_tryOrder 65 = .ok (.iconst 0, 1) := by decide +kernel
theorem dX8_tryOrder_66 : decode cX8_tryOrder 66 = .ok (.iaload, 1) := by decide +kernel
theorem dX8_tryOrder_67 : decode cX8_tryOrder 67 = .ok (.aload_n 1, 1) := by decide +kernel
theorem dX8_tryOrder_68 : decode cX8_tryOrder 68 = .ok (.getfield 428, 3) := by decide +kernel
theorem dX8_tryOrder_71 : decode cX8_tryOrder 71 = .ok (.iconst 1, 1) := by decide +kernel
theorem dX8_tryOrder_72 : decode cX8_tryOrder 72 = .ok (.iaload, 1) := by decide +kernel
theorem dX8_tryOrder_73 : decode cX8_tryOrder 73 = .ok (.invokevirtual 431, 3) := by decide +kernel
theorem dX8_tryOrder_76 : decode cX8_tryOrder 76 = .ok (.ireturn, 1) := by decide +kernel
theorem dX8_tryOrder_77 : decode cX8_tryOrder 77 = .ok (.aload_n 0, 1) := by decide +kernel
theorem dX8_tryOrder_78 : decode cX8_tryOrder 78 = .ok (.aload_n 1, 1) := by decide +kernel
theorem dX8_tryOrder_79 : decode cX8_tryOrder 79 = .ok (.getfield 428, 3) := by decide +kernel
theorem dX8_tryOrder_82 : decode cX8_tryOrder 82 = .ok (.iconst 0, 1) := by decide +kernel
theorem dX8_tryOrder_83 : decode cX8_tryOrder 83 = .ok (.iaload, 1) := by decide +kernel
theorem dX8_tryOrder_84 : decode cX8_tryOrder 84 = .ok (.aload_n 1, 1) := by decide +kernel
theorem dX8_tryOrder_85 : decode cX8_tryOrder 85 = .ok (.getfield 428, 3) := by decide +kernel
theorem dX8_tryOrder_88 : decode cX8_tryOrder 88 = .ok (.iconst 1, 1) := by decide +kernel
theorem dX8_tryOrder_89 : decode cX8_tryOrder 89 = .ok (.iaload, 1) := by decide +kernel
theorem dX8_tryOrder_90 : decode cX8_tryOrder 90 = .ok (.aload_n 1, 1) := by decide +kernel
theorem dX8_tryOrder_91 : decode cX8_tryOrder 91 = .ok (.getfield 428, 3) := by decide +kernel
theorem dX8_tryOrder_94 : decode cX8_tryOrder 94 = .ok (.iconst 2, 1) := by decide +kernel
theorem dX8_tryOrder_95 : decode cX8_tryOrder 95 = .ok (.iaload, 1) := by decide +kernel
theorem dX8_tryOrder_96 : decode cX8_tryOrder 96 = .ok (.aload_n 1, 1) := by decide +kernel
theorem dX8_tryOrder_97 : decode cX8_tryOrder 97 = .ok (.getfield 428, 3) := by decide +kernel
theorem dX8_tryOrder_100 : decode cX8_tryOrder 100 = .ok (.iconst 3, 1) := by decide +kernel
theorem dX8_tryOrder_101 : decode cX8_tryOrder 101 = .ok (.iaload, 1) := by decide +kernel
theorem dX8_tryOrder_102 : decode cX8_tryOrder 102 = .ok (.invokevirtual 434, 3) := by decide +kernel
theorem dX8_tryOrder_105 : decode cX8_tryOrder 105 = .ok (.ireturn, 1) := by decide +kernel
theorem dX8_tryOrder_106 : decode cX8_tryOrder 106 = .ok (.aload_n 0, 1) := by decide +kernel
theorem dX8_tryOrder_107 : decode cX8_tryOrder 107 = .ok (.aload_n 1, 1) := by decide +kernel
theorem dX8_tryOrder_108 : decode cX8_tryOrder 108 = .ok (.getfield 428, 3) := by decide +kernel
theorem dX8_tryOrder_111 : decode cX8_tryOrder 111 = .ok (.iconst 0, 1) := by decide +kernel
theorem dX8_tryOrder_112 : decode cX8_tryOrder 112 = .ok (.iaload, 1) := by decide +kernel
theorem dX8_tryOrder_113 : decode cX8_tryOrder 113 = .ok (.invokevirtual 437, 3) := by decide +kernel
theorem dX8_tryOrder_116 : decode cX8_tryOrder 116 = .ok (.ireturn, 1) := by decide +kernel
theorem dX8_tryOrder_117 : decode cX8_tryOrder 117 = .ok (.aload_n 0, 1) := by decide +kernel
theorem dX8_tryOrder_118 : decode cX8_tryOrder 118 = .ok (.aload_n 1, 1) := by decide +kernel
theorem dX8_tryOrder_119 : decode cX8_tryOrder 119 = .ok (.getfield 428, 3) := by decide +kernel
theorem dX8_tryOrder_122 : decode cX8_tryOrder 122 = .ok (.iconst 0, 1) := by decide +kernel
theorem dX8_tryOrder_123 : decode cX8_tryOrder 123 = .ok (.iaload, 1) := by decide +kernel
theorem dX8_tryOrder_124 : decode cX8_tryOrder 124 = .ok (.aload_n 1, 1) := by decide +kernel
theorem dX8_tryOrder_125 : decode cX8_tryOrder 125 = .ok (.getfield 428, 3) := by decide +kernel
theorem dX8_tryOrder_128 : decode cX8_tryOrder 128 = .ok (.iconst 1, 1) := by decide +kernel
theorem dX8_tryOrder_129 : decode cX8_tryOrder 129 = .ok (.iaload, 1) := by decide +kernel
theorem dX8_tryOrder_130 : decode cX8_tryOrder 130 = .ok (.invokevirtual 440, 3) := by decide +kernel
theorem dX8_tryOrder_133 : decode cX8_tryOrder 133 = .ok (.ireturn, 1) := by decide +kernel
theorem dX8_tryOrder_134 : decode cX8_tryOrder 134 = .ok (.aload_n 0, 1) := by decide +kernel
theorem dX8_tryOrder_135 : decode cX8_tryOrder 135 = .ok (.aload_n 1, 1) := by decide +kernel
theorem dX8_tryOrder_136 : decode cX8_tryOrder 136 = .ok (.getfield 428, 3) := by decide +kernel
theorem dX8_tryOrder_139 : decode cX8_tryOrder 139 = .ok (.iconst 0, 1) := by decide +kernel
theorem dX8_tryOrder_140 : decode cX8_tryOrder 140 = .ok (.iaload, 1) := by decide +kernel
theorem dX8_tryOrder_141 : decode cX8_tryOrder 141 = .ok (.invokevirtual 443, 3) := by decide +kernel
theorem dX8_tryOrder_144 : decode cX8_tryOrder 144 = .ok (.ireturn, 1) := by decide +kernel
theorem dX8_tryOrder_145 : decode cX8_tryOrder 145 = .ok (.iconst 1, 1) := by decide +kernel
theorem dX8_tryOrder_146 : decode cX8_tryOrder 146 = .ok (.ireturn, 1) := by decide +kernel
theorem dX8_tryToBuy_0 : decode cX8_tryToBuy 0 = .ok (.iload_n 1, 1) := by decide +kernel
theorem dX8_tryToBuy_1 : decode cX8_tryToBuy 1 = .ok (.iload_n 2, 1) := by decide +kernel
theorem dX8_tryToBuy_2 : decode cX8_tryToBuy 2 = .ok (.invokestatic 80, 3) := by decide +kernel
theorem dX8_tryToBuy_5 : decode cX8_tryToBuy 5 = .ok (.ifCond .ne 5, 3) := by decide +kernel
theorem dX8_tryToBuy_8 : decode cX8_tryToBuy 8 = .ok (.iconst 1, 1) := by decide +kernel
theorem dX8_tryToBuy_9 : decode cX8_tryToBuy 9 = .ok (.ireturn, 1) := by decide +kernel
theorem dX8_tryToBuy_10 : decode cX8_tryToBuy 10 = .ok (.aload_n 0, 1) := by decide +kernel
theorem dX8_tryToBuy_11 : decode cX8_tryToBuy 11 = .ok (.getfield 16, 3) := by decide +kernel
theorem dX8_tryToBuy_14 : decode cX8_tryToBuy 14 = .ok (.aload_n 0, 1) := by decide +kernel
theorem dX8_tryToBuy_15 : decode cX8_tryToBuy 15 = .ok (.getfield 43, 3) := by decide +kernel
theorem dX8_tryToBuy_18 : decode cX8_tryToBuy 18 = .ok (.iload_n 1, 1) := by decide +kernel
theorem dX8_tryToBuy_19 : decode cX8_tryToBuy 19 = .ok (.iload_n 2, 1) := by decide +kernel
theorem dX8_tryToBuy_20 : decode cX8_tryToBuy 20 = .ok (.invokevirtual 86, 3) := by decide +kernel
theorem dX8_tryToBuy_23 : decode cX8_tryToBuy 23 = .ok (.ifCond .eq 5, 3) := by decide +kernel
theorem dX8_tryToBuy_26 : decode cX8_tryToBuy 26 = .ok (.iconst 2, 1) := by decide +kernel
theorem dX8_tryToBuy_27 : decode cX8_tryToBuy 27 = .ok (.ireturn, 1) := by decide +kernel
theorem dX8_tryToBuy_28 : decode cX8_tryToBuy 28 = .ok (.aload_n 0, 1) := by decide +kernel
theorem dX8_tryToBuy_29 : decode cX8_tryToBuy 29 = .ok (.getfield 16, 3) := by decide +kernel
theorem dX8_tryToBuy_32 : decode cX8_tryToBuy 32 = .ok (.iload_n 1, 1) := by decide +kernel
theorem dX8_tryToBuy_33 : decode cX8_tryToBuy 33 = .ok (.iload_n 2, 1) := by decide +kernel
theorem dX8_tryToBuy_34 : decode cX8_tryToBuy 34 = .ok (.invokevirtual 95, 3) := by decide +kernel
theorem dX8_tryToBuy_37 : decode cX8_tryToBuy 37 = .ok (.pop, 1) := by decide +kernel
theorem dX8_tryToBuy_38 : decode cX8_tryToBuy 38 = .ok (.iconst 0, 1) := by decide +kernel
theorem dX8_tryToBuy_39 : decode cX8_tryToBuy 39 = .ok (.ireturn, 1) := by decide +kernel
theorem dX8_tryToLay_0 : decode cX8_tryToLay 0 = .ok (.aload_n 0, 1) := by decide +kernel
theorem dX8_tryToLay_1 : decode cX8_tryToLay 1 = .ok (.getfield 16, 3) := by decide +kernel
theorem dX8_tryToLay_4 : decode cX8_tryToLay 4 = .ok (.iload_n 1, 1) := by decide +kernel
theorem dX8_tryToLay_5 : decode cX8_tryToLay 5 = .ok (.invokevirtual 397, 3) := by decide +kernel
theorem dX8_tryToLay_8 : decode cX8_tryToLay 8 = .ok (.ifnull 23, 3) := by decide +kernel
theorem dX8_tryToLay_11 : decode cX8_tryToLay 11 = .ok (.aload_n 0, 1) := by decide +kernel
theorem dX8_tryToLay_12 : decode cX8_tryToLay 12 = .ok (.getfield 16, 3) := by decide +kernel
theorem dX8_tryToLay_15 : decode cX8_tryToLay 15 = .ok (.iload_n 2, 1) := by decide +kernel
theorem dX8_tryToLay_16 : decode cX8_tryToLay 16 = .ok (.invokevirtual 407, 3) := by decide +kernel
theorem dX8_tryToLay_19 : decode cX8_tryToLay 19 = .ok (.ifnull 12, 3) := by decide +kernel
theorem dX8_tryToLay_22 : decode cX8_tryToLay 22 = .ok (.iload_n 3, 1) := by decide +kernel
theorem dX8_tryToLay_23 : decode cX8_tryToLay 23 = .ok (.iload 4, 2) := by decide +kernel
theorem dX8_tryToLay_25 : decode cX8_tryToLay 25 = .ok (.invokestatic 417, 3) := by decide +kernel
theorem dX8_tryToLay_28 : decode cX8_tryToLay 28 = .ok (.ifCond .ne 5, 3) := by decide +kernel
theorem dX8_tryToLay_31 : decode cX8_tryToLay 31 = .ok (.iconst 1, 1) := by decide +kernel
theorem dX8_tryToLay_32 : decode cX8_tryToLay 32 = .ok (.ireturn, 1) := by decide +kernel
theorem dX8_tryToLay_33 : decode cX8_tryToLay 33 = .ok (.aload_n 0, 1) := by decide +kernel
theorem dX8_tryToLay_34 : decode cX8_tryToLay 34 = .ok (.getfield 16, 3) := by decide +kernel
theorem dX8_tryToLay_37 : decode cX8_tryToLay 37 = .ok (.aload_n 0, 1) := by decide +kernel
theorem dX8_tryToLay_38 : decode cX8_tryToLay 38 = .ok (.getfield 43, 3) := by decide +kernel
theorem dX8_tryToLay_41 : decode cX8_tryToLay 41 = .ok (.iload_n 1, 1) := by decide +kernel
theorem dX8_tryToLay_42 : decode cX8_tryToLay 42 = .ok (.iload_n 2, 1) := by decide +kernel
theorem dX8_tryToLay_43 : decode cX8_tryToLay 43 = .ok (.iload_n 3, 1) := by decide +kernel
theorem dX8_tryToLay_44 : decode cX8_tryToLay 44 = .ok (.iload 4, 2) := by decide +kernel
theorem dX8_tryToLay_46 : decode cX8_tryToLay 46 = .ok (.invokevirtual 420, 3) := by decide +kernel
theorem dX8_tryToLay_49 : decode cX8_tryToLay 49 = .ok (.ifCond .eq 5, 3) := by decide +kernel
theorem dX8_tryToLay_52 : decode cX8_tryToLay 52 = .ok (.iconst 2, 1) := by decide +kernel
theorem dX8_tryToLay_53 : decode cX8_tryToLay 53 = .ok (.ireturn, 1) := by decide +kernel
theorem dX8_tryToLay_54 : decode cX8_tryToLay 54 = .ok (.aload_n 0, 1) := by decide +kernel
theorem dX8_tryToLay_55 : decode cX8_tryToLay 55 = .ok (.getfield 16, 3) := by decide +kernel
theorem dX8_tryToLay_58 : decode cX8_tryToLay 58 = .ok (.iload_n 1, 1) := by decide +kernel
theorem dX8_tryToLay_59 : decode cX8_tryToLay 59 = .ok (.iload_n 2, 1) := by decide +kernel
theorem dX8_tryToLay_60 : decode cX8_tryToLay 60 = .ok (.iload_n 3, 1) := by decide +kernel
theorem dX8_tryToLay_61 : decode cX8_tryToLay 61 = .ok (.iload 4, 2) := by decide +kernel
theorem dX8_tryToLay_63 : decode cX8_tryToLay 63 = .ok (.invokevirtual 162, 3) := by decide +kernel
theorem dX8_tryToLay_66 : decode cX8_tryToLay 66 = .ok (.pop, 1) := by decide +kernel
theorem dX8_tryToLay_67 : decode cX8_tryToLay 67 = .ok (.iconst 0, 1) := by decide +kernel
theorem dX8_tryToLay_68 : decode cX8_tryToLay 68 = .ok (.ireturn, 1) := by decide +kernel
theorem dX8_tryToTake_0 : decode cX8_tryToTake 0 = .ok (.aload_n 0, 1) := by decide +kernel
theorem dX8_tryToTake_1 : decode cX8_tryToTake 1 = .ok (.getfield 16, 3) := by decide +kernel
theorem dX8_tryToTake_4 : decode cX8_tryToTake 4 = .ok (.iload_n 1, 1) := by decide +kernel
theorem dX8_tryToTake_5 : decode cX8_tryToTake 5 = .ok (.invokevirtual 397, 3) := by decide +kernel
theorem dX8_tryToTake_8 : decode cX8_tryToTake 8 = .ok (.astore_n 2, 1) := by decide +kernel
theorem dX8_tryToTake_9 : decode cX8_tryToTake 9 = .ok (.aload_n 2, 1) := by decide +kernel
theorem dX8_tryToTake_10 : decode cX8_tryToTake 10 = .ok (.ifnonnull 5, 3) := by decide +kernel
theorem dX8_tryToTake_13 : decode cX8_tryToTake 13 = .ok (.iconst 1, 1) := by decide +kernel
theorem dX8_tryToTake_14 : decode cX8_tryToTake 14 = .ok (.ireturn, 1) := by decide +kernel
theorem dX8_tryToTake_15 : decode cX8_tryToTake 15 = .ok (.aload_n 2, 1) := by decide +kernel
theorem dX8_tryToTake_16 : decode cX8_tryToTake 16 = .ok (.getfield 170, 3) := by decide +kernel
theorem dX8_tryToTake_19 : decode cX8_tryToTake 19 = .ok (.ifCond .ne 16, 3) := by decide +kernel
theorem dX8_tryToTake_22 : decode cX8_tryToTake 22 = .ok (.aload_n 0, 1) := by decide +kernel
theorem dX8_tryToTake_23 : decode cX8_tryToTake 23 = .ok (.getfield 43, 3) := by decide +kernel
theorem dX8_tryToTake_26 : decode cX8_tryToTake 26 = .ok (.bipush 9, 2) := by decide +kernel
theorem dX8_tryToTake_28 : decode cX8_tryToTake 28 = .ok (.iload_n 1, 1) := by decide +kernel
theorem dX8_tryToTake_29 : decode cX8_tryToTake 29 = .ok (.invokevirtual 112, 3) := by decide +kernel
theorem dX8_tryToTake_32 : decode cX8_tryToTake 32 = .ok (.pop, 1) := by decide +kernel
theorem dX8_tryToTake_33 : decode cX8_tryToTake 33 = .ok (.iconst 2, 1) := by decide +kernel
theorem dX8_tryToTake_34 : decode cX8_tryToTake 34 = .ok (.ireturn, 1) := by decide +kernel
theorem dX8_tryToTake_35 : decode cX8_tryToTake 35 = .ok (.aload_n 0, 1) := by decide +kernel
theorem dX8_tryToTake_36 : decode cX8_tryToTake 36 = .ok (.getfield 16, 3) := by decide +kernel
theorem dX8_tryToTake_39 : decode cX8_tryToTake 39 = .ok (.aload_n 2, 1) := by decide +kernel
theorem dX8_tryToTake_40 : decode cX8_tryToTake 40 = .ok (.invokevirtual 177, 3) := by decide +kernel
theorem dX8_tryToTake_43 : decode cX8_tryToTake 43 = .ok (.pop, 1) := by decide +kernel
theorem dX8_tryToTake_44 : decode cX8_tryToTake 44 = .ok (.iconst 0, 1) := by decide +kernel
theorem dX8_tryToTake_45 : decode cX8_tryToTake 45 = .ok (.ireturn, 1) := by decide +kernel
theorem dX8_tryToShow_0 : decode cX8_tryToShow 0 = .ok (.aload_n 0, 1) := by decide +kernel
theorem dX8_tryToShow_1 : decode cX8_tryToShow 1 = .ok (.getfield 16, 3) := by decide +kernel
theorem dX8_tryToShow_4 : decode cX8_tryToShow 4 = .ok (.aload_n 0, 1) := by decide +kernel
theorem dX8_tryToShow_5 : decode cX8_tryToShow 5 = .ok (.getfield 16, 3) := by decide +kernel
theorem dX8_tryToShow_8 : decode cX8_tryToShow 8 = .ok (.iload_n 1, 1) := by decide +kernel
theorem dX8_tryToShow_9 : decode cX8_tryToShow 9 = .ok (.invokevirtual 248, 3) := by decide +kernel
theorem dX8_tryToShow_12 : decode cX8_tryToShow 12 = .ok (.invokevirtual 412, 3) := by decide +kernel
theorem dX8_tryToShow_15 : decode cX8_tryToShow 15 = .ok (.astore_n 3, 1) := by decide +kernel
theorem dX8_tryToShow_16 : decode cX8_tryToShow 16 = .ok (.aload_n 3, 1) := by decide +kernel
theorem dX8_tryToShow_17 : decode cX8_tryToShow 17 = .ok (.ifnull 14, 3) := by decide +kernel
theorem dX8_tryToShow_20 : decode cX8_tryToShow 20 = .ok (.aload_n 0, 1) := by decide +kernel
theorem dX8_tryToShow_21 : decode cX8_tryToShow 21 = .ok (.getfield 16, 3) := by decide +kernel
theorem dX8_tryToShow_24 : decode cX8_tryToShow 24 = .ok (.iload_n 2, 1) := by decide +kernel
theorem dX8_tryToShow_25 : decode cX8_tryToShow 25 = .ok (.invokevirtual 397, 3) := by decide +kernel
theorem dX8_tryToShow_28 : decode cX8_tryToShow 28 = .ok (.ifnonnull 5, 3) := by decide +kernel
theorem dX8_tryToShow_31 : decode cX8_tryToShow 31 = .ok (.iconst 1, 1) := by decide +kernel
theorem dX8_tryToShow_32 : decode cX8_tryToShow 32 = .ok (.ireturn, 1) := by decide +kernel
theorem dX8_tryToShow_33 : decode cX8_tryToShow 33 = .ok (.aload_n 3, 1) := by decide +kernel
theorem dX8_tryToShow_34 : decode cX8_tryToShow 34 = .ok (.iload_n 2, 1) := by decide +kernel
theorem dX8_tryToShow_35 : decode cX8_tryToShow 35 = .ok (.putfield 239, 3) := by decide +kernel
theorem dX8_tryToShow_38 : decode cX8_tryToShow 38 = .ok (.iconst 0, 1) := by decide +kernel
theorem dX8_tryToShow_39 : decode cX8_tryToShow 39 = .ok (.ireturn, 1) := by decide +kernel
theorem dX8_tryToPass_0 : decode cX8_tryToPass 0 = .ok (.iconst 1, 1) := by decide +kernel
theorem dX8_tryToPass_1 : decode cX8_tryToPass 1 = .ok (.iload_n 1, 1) := by decide +kernel
theorem dX8_tryToPass_2 : decode cX8_tryToPass 2 = .ok (.bipush 72, 2) := by decide +kernel
theorem dX8_tryToPass_4 : decode cX8_tryToPass 4 = .ok (.invokestatic 50, 3) := by decide +kernel
theorem dX8_tryToPass_7 : decode cX8_tryToPass 7 = .ok (.ifCond .ne 5, 3) := by decide +kernel
theorem dX8_tryToPass_10 : decode cX8_tryToPass 10 = .ok (.iconst 1, 1) := by decide +kernel
theorem dX8_tryToPass_11 : decode cX8_tryToPass 11 = .ok (.ireturn, 1) := by decide +kernel
theorem dX8_tryToPass_12 : decode cX8_tryToPass 12 = .ok (.aload_n 0, 1) := by decide +kernel
theorem dX8_tryToPass_13 : decode cX8_tryToPass 13 = .ok (.getfield 16, 3) := by decide +kernel
theorem dX8_tryToPass_16 : decode cX8_tryToPass 16 = .ok (.iload_n 1, 1) := by decide +kernel
theorem dX8_tryToPass_17 : decode cX8_tryToPass 17 = .ok (.invokevirtual 278, 3) := by decide +kernel
theorem dX8_tryToPass_20 : decode cX8_tryToPass 20 = .ok (.pop, 1) := by decide +kernel
theorem dX8_tryToPass_21 : decode cX8_tryToPass 21 = .ok (.iconst 0, 1) := by decide +kernel
theorem dX8_tryToPass_22 : decode cX8_tryToPass 22 = .ok (.ireturn, 1) := by decide +kernel
theorem dX8_isBetween_0 : decode cX8_isBetween 0 = .ok (.iload_n 1, 1) := by decide +kernel
theorem dX8_isBetween_1 : decode cX8_isBetween 1 = .ok (.iload_n 0, 1) := by decide +kernel
theorem dX8_isBetween_2 : decode cX8_isBetween 2 = .ok (.if_icmp .lt 12, 3) := by decide +kernel
theorem dX8_isBetween_5 : decode cX8_isBetween 5 = .ok (.iload_n 1, 1) := by decide +kernel
theorem dX8_isBetween_6 : decode cX8_isBetween 6 = .ok (.iload_n 2, 1) := by decide +kernel
theorem dX8_isBetween_7 : decode cX8_isBetween 7 = .ok (.if_icmp .gt 7, 3) := by decide +kernel
theorem dX8_isBetween_10 : decode cX8_isBetween 10 = .ok (.iconst 1, 1) := by decide +kernel
theorem dX8_isBetween_11 : decode cX8_isBetween 11 = .ok (.goto 4, 3) := by decide +kernel
theorem dX8_isBetween_14 : decode cX8_isBetween 14 = .ok (.iconst 0, 1) := by decide +kernel
theorem dX8_isBetween_15 : decode cX8_isBetween 15 = .ok (.ireturn, 1) := by decide +kernel
theorem dX8_isGrade_0 : decode cX8_isGrade 0 = .ok (.iload_n 0, 1) := by decide +kernel
theorem dX8_isGrade_1 : decode cX8_isGrade 1 = .ok (.ifCond .lt 12, 3) := by decide +kernel
theorem dX8_isGrade_4 : decode cX8_isGrade 4 = .ok (.iload_n 0, 1) := by decide +kernel
theorem dX8_isGrade_5 : decode cX8_isGrade 5 = .ok (.iconst 3, 1) := by decide +kernel
theorem dX8_isGrade_6 : decode cX8_isGrade 6 = .ok (.if_icmp .ge 7, 3) := by decide +kernel
theorem dX8_isGrade_9 : decode cX8_isGrade 9 = .ok (.iconst 1, 1) := by decide +kernel
theorem dX8_isGrade_10 : decode cX8_isGrade 10 = .ok (.goto 4, 3) := by decide +kernel
theorem dX8_isGrade_13 : decode cX8_isGrade 13 = .ok (.iconst 0, 1) := by decide +kernel
theorem dX8_isGrade_14 : decode cX8_isGrade 14 = .ok (.ireturn, 1) := by decide +kernel
theorem dX8_isPurchase_0 : decode cX8_isPurchase 0 = .ok (.iload_n 0, 1) := by decide +kernel
theorem dX8_isPurchase_1 : decode cX8_isPurchase 1 = .ok (.invokestatic 98, 3) := by decide +kernel
theorem dX8_isPurchase_4 : decode cX8_isPurchase 4 = .ok (.ifCond .eq 17, 3) := by decide +kernel
theorem dX8_isPurchase_7 : decode cX8_isPurchase 7 = .ok (.iconst 1, 1) := by decide +kernel
theorem dX8_isPurchase_8 : decode cX8_isPurchase 8 = .ok (.iload_n 1, 1) := by decide +kernel
theorem dX8_isPurchase_9 : decode cX8_isPurchase 9 = .ok (.bipush 99, 2) := by decide +kernel
theorem dX8_isPurchase_11 : decode cX8_isPurchase 11 = .ok (.invokestatic 50, 3) := by decide +kernel
theorem dX8_isPurchase_14 : decode cX8_isPurchase 14 = .ok (.ifCond .eq 7, 3) := by decide +kernel
theorem dX8_isPurchase_17 : decode cX8_isPurchase 17 = .ok (.iconst 1, 1) := by decide +kernel
theorem dX8_isPurchase_18 : decode cX8_isPurchase 18 = .ok (.goto 4, 3) := by decide +kernel
theorem dX8_isPurchase_21 : decode cX8_isPurchase 21 = .ok (.iconst 0, 1) := by decide +kernel
theorem dX8_isPurchase_22 : decode cX8_isPurchase 22 = .ok (.ireturn, 1) := by decide +kernel
theorem dX8_isCourse_0 : decode cX8_isCourse 0 = .ok (.iload_n 0, 1) := by decide +kernel
theorem dX8_isCourse_1 : decode cX8_isCourse 1 = .ok (.invokestatic 98, 3) := by decide +kernel
theorem dX8_isCourse_4 : decode cX8_isCourse 4 = .ok (.ifCond .eq 17, 3) := by decide +kernel
theorem dX8_isCourse_7 : decode cX8_isCourse 7 = .ok (.iconst 1, 1) := by decide +kernel
theorem dX8_isCourse_8 : decode cX8_isCourse 8 = .ok (.iload_n 1, 1) := by decide +kernel
theorem dX8_isCourse_9 : decode cX8_isCourse 9 = .ok (.bipush 20, 2) := by decide +kernel
theorem dX8_isCourse_11 : decode cX8_isCourse 11 = .ok (.invokestatic 50, 3) := by decide +kernel
theorem dX8_isCourse_14 : decode cX8_isCourse 14 = .ok (.ifCond .eq 7, 3) := by decide +kernel
theorem dX8_isCourse_17 : decode cX8_isCourse 17 = .ok (.iconst 1, 1) := by decide +kernel
theorem dX8_isCourse_18 : decode cX8_isCourse 18 = .ok (.goto 4, 3) := by decide +kernel
theorem dX8_isCourse_21 : decode cX8_isCourse 21 = .ok (.iconst 0, 1) := by decide +kernel
theorem dX8_isCourse_22 : decode cX8_isCourse 22 = .ok (.ireturn, 1) := by decide +kernel
theorem dX8_priceOfCube_0 : decode cX8_priceOfCube 0 = .ok (.iload_n 0, 1) := by decide +kernel
theorem dX8_priceOfCube_1 : decode cX8_priceOfCube 1 = .ok (.ifCond .ne 5, 3) := by decide +kernel
theorem dX8_priceOfCube_4 : decode cX8_priceOfCube 4 = .ok (.iconst 1, 1) := by decide +kernel
theorem dX8_priceOfCube_5 : decode cX8_priceOfCube 5 = .ok (.ireturn, 1) := by decide +kernel
theorem dX8_priceOfCube_6 : decode cX8_priceOfCube 6 = .ok (.iload_n 0, 1) := by decide +kernel
theorem dX8_priceOfCube_7 : decode cX8_priceOfCube 7 = .ok (.iconst 1, 1) := by decide +kernel
theorem dX8_priceOfCube_8 : decode cX8_priceOfCube 8 = .ok (.if_icmp .ne 7, 3) := by decide +kernel
theorem dX8_priceOfCube_11 : decode cX8_priceOfCube 11 = .ok (.iconst 2, 1) := by decide +kernel
theorem dX8_priceOfCube_12 : decode cX8_priceOfCube 12 = .ok (.goto 4, 3) := by decide +kernel
theorem dX8_priceOfCube_15 : decode cX8_priceOfCube 15 = .ok (.iconst 3, 1) := by decide +kernel
theorem dX8_priceOfCube_16 : decode cX8_priceOfCube 16 = .ok (.ireturn, 1) := by decide +kernel
theorem dX8_cubeBears_0 : decode cX8_cubeBears 0 = .ok (.bipush 15, 2) := by decide +kernel
theorem dX8_cubeBears_2 : decode cX8_cubeBears 2 = .ok (.istore_n 2, 1) := by decide +kernel
theorem dX8_cubeBears_3 : decode cX8_cubeBears 3 = .ok (.iload_n 0, 1) := by decide +kernel
theorem dX8_cubeBears_4 : decode cX8_cubeBears 4 = .ok (.ifCond .ne 8, 3) := by decide +kernel
theorem dX8_cubeBears_7 : decode cX8_cubeBears 7 = .ok (.iconst 4, 1) := by decide +kernel
theorem dX8_cubeBears_8 : decode cX8_cubeBears 8 = .ok (.istore_n 2, 1) := by decide +kernel
theorem dX8_cubeBears_9 : decode cX8_cubeBears 9 = .ok (.goto 11, 3) := by decide +kernel
theorem dX8_cubeBears_12 : decode cX8_cubeBears 12 = .ok (.iload_n 0, 1) := by decide +kernel
theorem dX8_cubeBears_13 : decode cX8_cubeBears 13 = .ok (.iconst 1, 1) := by decide +kernel
theorem dX8_cubeBears_14 : decode cX8_cubeBears 14 = .ok (.if_icmp .ne 6, 3) := by decide +kernel
theorem dX8_cubeBears_17 : decode cX8_cubeBears 17 = .ok (.bipush 8, 2) := by decide +kernel
theorem dX8_cubeBears_19 : decode cX8_cubeBears 19 = .ok (.istore_n 2, 1) := by decide +kernel
theorem dX8_cubeBears_20 : decode cX8_cubeBears 20 = .ok (.iconst 0, 1) := by decide +kernel
theorem dX8_cubeBears_21 : decode cX8_cubeBears 21 = .ok (.iload_n 2, 1) := by decide +kernel
theorem dX8_cubeBears_22 : decode cX8_cubeBears 22 = .ok (.iload_n 1, 1) := by decide +kernel
theorem dX8_cubeBears_23 : decode cX8_cubeBears 23 = .ok (.bipush 10, 2) := by decide +kernel
theorem dX8_cubeBears_25 : decode cX8_cubeBears 25 = .ok (.idiv, 1) := by decide +kernel
theorem dX8_cubeBears_26 : decode cX8_cubeBears 26 = .ok (.isub, 1) := by decide +kernel
theorem dX8_cubeBears_27 : decode cX8_cubeBears 27 = .ok (.invokestatic 446, 3) := by decide +kernel
theorem dX8_cubeBears_30 : decode cX8_cubeBears 30 = .ok (.ireturn, 1) := by decide +kernel
theorem dX8_dampnessAfterHour_0 : decode cX8_dampnessAfterHour 0 = .ok (.iload_n 1, 1) := by decide +kernel
theorem dX8_dampnessAfterHour_1 : decode cX8_dampnessAfterHour 1 = .ok (.bipush 50, 2) := by decide +kernel
theorem dX8_dampnessAfterHour_3 : decode cX8_dampnessAfterHour 3 = .ok (.if_icmp .le 18, 3) := by decide +kernel
theorem dX8_dampnessAfterHour_6 : decode cX8_dampnessAfterHour 6 = .ok (.bipush 99, 2) := by decide +kernel
theorem dX8_dampnessAfterHour_8 : decode cX8_dampnessAfterHour 8 = .ok (.iload_n 0, 1) := by decide +kernel
theorem dX8_dampnessAfterHour_9 : decode cX8_dampnessAfterHour 9 = .ok (.iload_n 1, 1) := by decide +kernel
theorem dX8_dampnessAfterHour_10 : decode cX8_dampnessAfterHour 10 = .ok (.bipush 50, 2) := by decide +kernel
theorem dX8_dampnessAfterHour_12 : decode cX8_dampnessAfterHour 12 = .ok (.isub, 1) := by decide +kernel
theorem dX8_dampnessAfterHour_13 : decode cX8_dampnessAfterHour 13 = .ok (.bipush 10, 2) := by decide +kernel
theorem dX8_dampnessAfterHour_15 : decode cX8_dampnessAfterHour 15 = .ok (.idiv, 1) := by decide +kernel
theorem dX8_dampnessAfterHour_16 : decode cX8_dampnessAfterHour 16 = .ok (.iadd, 1) := by decide +kernel
theorem dX8_dampnessAfterHour_17 : decode cX8_dampnessAfterHour 17 = .ok (.invokestatic 451, 3) := by decide +kernel
theorem dX8_dampnessAfterHour_20 : decode cX8_dampnessAfterHour 20 = .ok (.ireturn, 1) := by decide +kernel
theorem dX8_dampnessAfterHour_21 : decode cX8_dampnessAfterHour 21 = .ok (.iload_n 1, 1) := by decide +kernel
theorem dX8_dampnessAfterHour_22 : decode cX8_dampnessAfterHour 22 = .ok (.bipush 40, 2) := by decide +kernel
theorem dX8_dampnessAfterHour_24 : decode cX8_dampnessAfterHour 24 = .ok (.if_icmp .ge 13, 3) := by decide +kernel
theorem dX8_dampnessAfterHour_27 : decode cX8_dampnessAfterHour 27 = .ok (.iconst 0, 1) := by decide +kernel
theorem dX8_dampnessAfterHour_28 : decode cX8_dampnessAfterHour 28 = .ok (.iload_n 0, 1) := by decide +kernel
theorem dX8_dampnessAfterHour_29 : decode cX8_dampnessAfterHour 29 = .ok (.iconst 1, 1) := by decide +kernel
theorem dX8_dampnessAfterHour_30 : decode cX8_dampnessAfterHour 30 = .ok (.isub, 1) := by decide +kernel
theorem dX8_dampnessAfterHour_31 : decode cX8_dampnessAfterHour 31 = .ok (.invokestatic 446, 3) := by decide +kernel
theorem dX8_dampnessAfterHour_34 : decode cX8_dampnessAfterHour 34 = .ok (.goto 4, 3) := by decide +kernel
theorem dX8_dampnessAfterHour_37 : decode cX8_dampnessAfterHour 37 = .ok (.iload_n 0, 1) := by decide +kernel
theorem dX8_dampnessAfterHour_38 : decode cX8_dampnessAfterHour 38 = .ok (.ireturn, 1) := by decide +kernel
theorem dX8_sumOf_0 : decode cX8_sumOf 0 = .ok (.iconst 0, 1) := by decide +kernel
theorem dX8_sumOf_1 : decode cX8_sumOf 1 = .ok (.istore_n 1, 1) := by decide +kernel
theorem dX8_sumOf_2 : decode cX8_sumOf 2 = .ok (.aload_n 0, 1) := by decide +kernel
theorem dX8_sumOf_3 : decode cX8_sumOf 3 = .ok (.astore_n 2, 1) := by decide +kernel
theorem dX8_sumOf_4 : decode cX8_sumOf 4 = .ok (.aload_n 2, 1) := by decide +kernel
theorem dX8_sumOf_5 : decode cX8_sumOf 5 = .ok (.arraylength, 1) := by decide +kernel
theorem dX8_sumOf_6 : decode cX8_sumOf 6 = .ok (.istore_n 3, 1) := by decide +kernel
theorem dX8_sumOf_7 : decode cX8_sumOf 7 = .ok (.iconst 0, 1) := by decide +kernel
theorem dX8_sumOf_8 : decode cX8_sumOf 8 = .ok (.istore 4, 2) := by decide +kernel
theorem dX8_sumOf_10 : decode cX8_sumOf 10 = .ok (.iload 4, 2) := by decide +kernel
theorem dX8_sumOf_12 : decode cX8_sumOf 12 = .ok (.iload_n 3, 1) := by decide +kernel
theorem dX8_sumOf_13 : decode cX8_sumOf 13 = .ok (.if_icmp .ge 20, 3) := by decide +kernel
theorem dX8_sumOf_16 : decode cX8_sumOf 16 = .ok (.aload_n 2, 1) := by decide +kernel
theorem dX8_sumOf_17 : decode cX8_sumOf 17 = .ok (.iload 4, 2) := by decide +kernel
theorem dX8_sumOf_19 : decode cX8_sumOf 19 = .ok (.iaload, 1) := by decide +kernel
theorem dX8_sumOf_20 : decode cX8_sumOf 20 = .ok (.istore 5, 2) := by decide +kernel
theorem dX8_sumOf_22 : decode cX8_sumOf 22 = .ok (.iload_n 1, 1) := by decide +kernel
theorem dX8_sumOf_23 : decode cX8_sumOf 23 = .ok (.iload 5, 2) := by decide +kernel
theorem dX8_sumOf_25 : decode cX8_sumOf 25 = .ok (.iadd, 1) := by decide +kernel
theorem dX8_sumOf_26 : decode cX8_sumOf 26 = .ok (.istore_n 1, 1) := by decide +kernel
theorem dX8_sumOf_27 : decode cX8_sumOf 27 = .ok (.iinc 4 1, 3) := by decide +kernel
theorem dX8_sumOf_30 : decode cX8_sumOf 30 = .ok (.goto (-20), 3) := by decide +kernel
theorem dX8_sumOf_33 : decode cX8_sumOf 33 = .ok (.iload_n 1, 1) := by decide +kernel
theorem dX8_sumOf_34 : decode cX8_sumOf 34 = .ok (.ireturn, 1) := by decide +kernel
