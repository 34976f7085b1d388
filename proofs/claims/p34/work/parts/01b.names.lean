theorem dX0_init_0 : decode cX0_init 0 = .ok (.aload_n 0, 1) := by decide +kernel
theorem dX0_init_1 : decode cX0_init 1 = .ok (.invokespecial 3, 3) := by decide +kernel
theorem dX0_init_4 : decode cX0_init 4 = .ok (.aload_n 0, 1) := by decide +kernel
theorem dX0_init_5 : decode cX0_init 5 = .ok (.bipush 18, 2) := by decide +kernel
theorem dX0_init_7 : decode cX0_init 7 = .ok (.newarray .int, 2) := by decide +kernel
theorem dX0_init_9 : decode cX0_init 9 = .ok (.putfield 9, 3) := by decide +kernel
theorem dX0_init_12 : decode cX0_init 12 = .ok (.aload_n 0, 1) := by decide +kernel
theorem dX0_init_13 : decode cX0_init 13 = .ok (.bipush 24, 2) := by decide +kernel
theorem dX0_init_15 : decode cX0_init 15 = .ok (.newarray .int, 2) := by decide +kernel
theorem dX0_init_17 : decode cX0_init 17 = .ok (.putfield 15, 3) := by decide +kernel
theorem dX0_init_20 : decode cX0_init 20 = .ok (.return_, 1) := by decide +kernel
theorem dX0_clear_0 : decode cX0_clear 0 = .ok (.aload_n 0, 1) := by decide +kernel
theorem dX0_clear_1 : decode cX0_clear 1 = .ok (.iconst 1, 1) := by decide +kernel
theorem dX0_clear_2 : decode cX0_clear 2 = .ok (.putfield 18, 3) := by decide +kernel
theorem dX0_clear_5 : decode cX0_clear 5 = .ok (.aload_n 0, 1) := by decide +kernel
theorem dX0_clear_6 : decode cX0_clear 6 = .ok (.iconst 0, 1) := by decide +kernel
theorem dX0_clear_7 : decode cX0_clear 7 = .ok (.putfield 22, 3) := by decide +kernel
theorem dX0_clear_10 : decode cX0_clear 10 = .ok (.aload_n 0, 1) := by decide +kernel
theorem dX0_clear_11 : decode cX0_clear 11 = .ok (.iconst 0, 1) := by decide +kernel
theorem dX0_clear_12 : decode cX0_clear 12 = .ok (.putfield 25, 3) := by decide +kernel
theorem dX0_clear_15 : decode cX0_clear 15 = .ok (.iconst 0, 1) := by decide +kernel
theorem dX0_clear_16 : decode cX0_clear 16 = .ok (.istore_n 1, 1) := by decide +kernel
theorem dX0_clear_17 : decode cX0_clear 17 = .ok (.iload_n 1, 1) := by decide +kernel
theorem dX0_clear_18 : decode cX0_clear 18 = .ok (.aload_n 0, 1) := by decide +kernel
theorem dX0_clear_19 : decode cX0_clear 19 = .ok (.getfield 9, 3) := by decide +kernel
theorem dX0_clear_22 : decode cX0_clear 22 = .ok (.arraylength, 1) := by decide +kernel
theorem dX0_clear_23 : decode cX0_clear 23 = .ok (.if_icmp .ge 16, 3) := by decide +kernel
theorem dX0_clear_26 : decode cX0_clear 26 = .ok (.aload_n 0, 1) := by decide +kernel
theorem dX0_clear_27 : decode cX0_clear 27 = .ok (.getfield 9, 3) := by decide +kernel
theorem dX0_clear_30 : decode cX0_clear 30 = .ok (.iload_n 1, 1) := by decide +kernel
theorem dX0_clear_31 : decode cX0_clear 31 = .ok (.iconst 0, 1) := by decide +kernel
theorem dX0_clear_32 : decode cX0_clear 32 = .ok (.iastore, 1) := by decide +kernel
theorem dX0_clear_33 : decode cX0_clear 33 = .ok (.iinc 1 1, 3) := by decide +kernel
theorem dX0_clear_36 : decode cX0_clear 36 = .ok (.goto (-19), 3) := by decide +kernel
theorem dX0_clear_39 : decode cX0_clear 39 = .ok (.iconst 0, 1) := by decide +kernel
theorem dX0_clear_40 : decode cX0_clear 40 = .ok (.istore_n 1, 1) := by decide +kernel
theorem dX0_clear_41 : decode cX0_clear 41 = .ok (.iload_n 1, 1) := by decide +kernel
theorem dX0_clear_42 : decode cX0_clear 42 = .ok (.bipush 24, 2) := by decide +kernel
theorem dX0_clear_44 : decode cX0_clear 44 = .ok (.if_icmp .ge 16, 3) := by decide +kernel
theorem dX0_clear_47 : decode cX0_clear 47 = .ok (.aload_n 0, 1) := by decide +kernel
theorem dX0_clear_48 : decode cX0_clear 48 = .ok (.getfield 15, 3) := by decide +kernel
theorem dX0_clear_51 : decode cX0_clear 51 = .ok (.iload_n 1, 1) := by decide +kernel
theorem dX0_clear_52 : decode cX0_clear 52 = .ok (.iconst 0, 1) := by decide +kernel
theorem dX0_clear_53 : decode cX0_clear 53 = .ok (.iastore, 1) := by decide +kernel
theorem dX0_clear_54 : decode cX0_clear 54 = .ok (.iinc 1 1, 3) := by decide +kernel
theorem dX0_clear_57 : decode cX0_clear 57 = .ok (.goto (-16), 3) := by decide +kernel
theorem dX0_clear_60 : decode cX0_clear 60 = .ok (.return_, 1) := by decide +kernel
theorem dX0_settle_0 : decode cX0_settle 0 = .ok (.aload_n 0, 1) := by decide +kernel
theorem dX0_settle_1 : decode cX0_settle 1 = .ok (.iload_n 1, 1) := by decide +kernel
theorem dX0_settle_2 : decode cX0_settle 2 = .ok (.putfield 18, 3) := by decide +kernel
theorem dX0_settle_5 : decode cX0_settle 5 = .ok (.iconst 0, 1) := by decide +kernel
theorem dX0_settle_6 : decode cX0_settle 6 = .ok (.istore 4, 2) := by decide +kernel
theorem dX0_settle_8 : decode cX0_settle 8 = .ok (.iload 4, 2) := by decide +kernel
theorem dX0_settle_10 : decode cX0_settle 10 = .ok (.aload_n 0, 1) := by decide +kernel
theorem dX0_settle_11 : decode cX0_settle 11 = .ok (.getfield 18, 3) := by decide +kernel
theorem dX0_settle_14 : decode cX0_settle 14 = .ok (.if_icmp .ge 43, 3) := by decide +kernel
theorem dX0_settle_17 : decode cX0_settle 17 = .ok (.aload_n 0, 1) := by decide +kernel
theorem dX0_settle_18 : decode cX0_settle 18 = .ok (.getfield 18, 3) := by decide +kernel
theorem dX0_settle_21 : decode cX0_settle 21 = .ok (.iload 4, 2) := by decide +kernel
theorem dX0_settle_23 : decode cX0_settle 23 = .ok (.iadd, 1) := by decide +kernel
theorem dX0_settle_24 : decode cX0_settle 24 = .ok (.aload_n 0, 1) := by decide +kernel
theorem dX0_settle_25 : decode cX0_settle 25 = .ok (.getfield 9, 3) := by decide +kernel
theorem dX0_settle_28 : decode cX0_settle 28 = .ok (.arraylength, 1) := by decide +kernel
theorem dX0_settle_29 : decode cX0_settle 29 = .ok (.if_icmp .ge 28, 3) := by decide +kernel
theorem dX0_settle_32 : decode cX0_settle 32 = .ok (.aload_n 0, 1) := by decide +kernel
theorem dX0_settle_33 : decode cX0_settle 33 = .ok (.getfield 9, 3) := by decide +kernel
theorem dX0_settle_36 : decode cX0_settle 36 = .ok (.aload_n 0, 1) := by decide +kernel
theorem dX0_settle_37 : decode cX0_settle 37 = .ok (.getfield 18, 3) := by decide +kernel
theorem dX0_settle_40 : decode cX0_settle 40 = .ok (.iload 4, 2) := by decide +kernel
theorem dX0_settle_42 : decode cX0_settle 42 = .ok (.iadd, 1) := by decide +kernel
theorem dX0_settle_43 : decode cX0_settle 43 = .ok (.aload_n 0, 1) := by decide +kernel
theorem dX0_settle_44 : decode cX0_settle 44 = .ok (.getfield 9, 3) := by decide +kernel
theorem dX0_settle_47 : decode cX0_settle 47 = .ok (.iload 4, 2) := by decide +kernel
theorem dX0_settle_49 : decode cX0_settle 49 = .ok (.iaload, 1) := by decide +kernel
theorem dX0_settle_50 : decode cX0_settle 50 = .ok (.iastore, 1) := by decide +kernel
theorem dX0_settle_51 : decode cX0_settle 51 = .ok (.iinc 4 1, 3) := by decide +kernel
theorem dX0_settle_54 : decode cX0_settle 54 = .ok (.goto (-46), 3) := by decide +kernel
theorem dX0_settle_57 : decode cX0_settle 57 = .ok (.iconst 0, 1) := by decide +kernel
theorem dX0_settle_58 : decode cX0_settle 58 = .ok (.istore 4, 2) := by decide +kernel
theorem dX0_settle_60 : decode cX0_settle 60 = .ok (.iload 4, 2) := by decide +kernel
theorem dX0_settle_62 : decode cX0_settle 62 = .ok (.iload_n 3, 1) := by decide +kernel
theorem dX0_settle_63 : decode cX0_settle 63 = .ok (.if_icmp .ge 39, 3) := by decide +kernel
theorem dX0_settle_66 : decode cX0_settle 66 = .ok (.iload_n 2, 1) := by decide +kernel
theorem dX0_settle_67 : decode cX0_settle 67 = .ok (.ifCond .le 35, 3) := by decide +kernel
theorem dX0_settle_70 : decode cX0_settle 70 = .ok (.aload_n 0, 1) := by decide +kernel
theorem dX0_settle_71 : decode cX0_settle 71 = .ok (.getfield 15, 3) := by decide +kernel
theorem dX0_settle_74 : decode cX0_settle 74 = .ok (.iload 4, 2) := by decide +kernel
theorem dX0_settle_76 : decode cX0_settle 76 = .ok (.aload_n 0, 1) := by decide +kernel
theorem dX0_settle_77 : decode cX0_settle 77 = .ok (.getfield 22, 3) := by decide +kernel
theorem dX0_settle_80 : decode cX0_settle 80 = .ok (.iload 4, 2) := by decide +kernel
theorem dX0_settle_82 : decode cX0_settle 82 = .ok (.iload_n 2, 1) := by decide +kernel
theorem dX0_settle_83 : decode cX0_settle 83 = .ok (.irem, 1) := by decide +kernel
theorem dX0_settle_84 : decode cX0_settle 84 = .ok (.imul, 1) := by decide +kernel
theorem dX0_settle_85 : decode cX0_settle 85 = .ok (.aload_n 0, 1) := by decide +kernel
theorem dX0_settle_86 : decode cX0_settle 86 = .ok (.getfield 25, 3) := by decide +kernel
theorem dX0_settle_89 : decode cX0_settle 89 = .ok (.iload 4, 2) := by decide +kernel
theorem dX0_settle_91 : decode cX0_settle 91 = .ok (.iload_n 2, 1) := by decide +kernel
theorem dX0_settle_92 : decode cX0_settle 92 = .ok (.idiv, 1) := by decide +kernel
theorem dX0_settle_93 : decode cX0_settle 93 = .ok (.imul, 1) := by decide +kernel
theorem dX0_settle_94 : decode cX0_settle 94 = .ok (.iadd, 1) := by decide +kernel
theorem dX0_settle_95 : decode cX0_settle 95 = .ok (.iastore, 1) := by decide +kernel
theorem dX0_settle_96 : decode cX0_settle 96 = .ok (.iinc 4 1, 3) := by decide +kernel
theorem dX0_settle_99 : decode cX0_settle 99 = .ok (.goto (-39), 3) := by decide +kernel
theorem dX0_settle_102 : decode cX0_settle 102 = .ok (.return_, 1) := by decide +kernel
theorem dX0_placeAt_0 : decode cX0_placeAt 0 = .ok (.aload_n 0, 1) := by decide +kernel
theorem dX0_placeAt_1 : decode cX0_placeAt 1 = .ok (.getfield 18, 3) := by decide +kernel
theorem dX0_placeAt_4 : decode cX0_placeAt 4 = .ok (.iconst 1, 1) := by decide +kernel
theorem dX0_placeAt_5 : decode cX0_placeAt 5 = .ok (.if_icmp .ge 7, 3) := by decide +kernel
theorem dX0_placeAt_8 : decode cX0_placeAt 8 = .ok (.iconst 0, 1) := by decide +kernel
theorem dX0_placeAt_9 : decode cX0_placeAt 9 = .ok (.goto 16, 3) := by decide +kernel
theorem dX0_placeAt_12 : decode cX0_placeAt 12 = .ok (.iload_n 2, 1) := by decide +kernel
theorem dX0_placeAt_13 : decode cX0_placeAt 13 = .ok (.aload_n 0, 1) := by decide +kernel
theorem dX0_placeAt_14 : decode cX0_placeAt 14 = .ok (.getfield 15, 3) := by decide +kernel
theorem dX0_placeAt_17 : decode cX0_placeAt 17 = .ok (.iload_n 1, 1) := by decide +kernel
theorem dX0_placeAt_18 : decode cX0_placeAt 18 = .ok (.iaload, 1) := by decide +kernel
theorem dX0_placeAt_19 : decode cX0_placeAt 19 = .ok (.iadd, 1) := by decide +kernel
theorem dX0_placeAt_20 : decode cX0_placeAt 20 = .ok (.aload_n 0, 1) := by decide +kernel
theorem dX0_placeAt_21 : decode cX0_placeAt 21 = .ok (.getfield 18, 3) := by decide +kernel
theorem dX0_placeAt_24 : decode cX0_placeAt 24 = .ok (.irem, 1) := by decide +kernel
theorem dX0_placeAt_25 : decode cX0_placeAt 25 = .ok (.ireturn, 1) := by decide +kernel
theorem dX0_partAt_0 : decode cX0_partAt 0 = .ok (.aload_n 0, 1) := by decide +kernel
theorem dX0_partAt_1 : decode cX0_partAt 1 = .ok (.getfield 18, 3) := by decide +kernel
theorem dX0_partAt_4 : decode cX0_partAt 4 = .ok (.iconst 1, 1) := by decide +kernel
theorem dX0_partAt_5 : decode cX0_partAt 5 = .ok (.if_icmp .ge 7, 3) := by decide +kernel
theorem dX0_partAt_8 : decode cX0_partAt 8 = .ok (.iconst 0, 1) := by decide +kernel
theorem dX0_partAt_9 : decode cX0_partAt 9 = .ok (.goto 23, 3) := by decide +kernel
theorem dX0_partAt_12 : decode cX0_partAt 12 = .ok (.aload_n 0, 1) := by decide +kernel
theorem dX0_partAt_13 : decode cX0_partAt 13 = .ok (.getfield 9, 3) := by decide +kernel
theorem dX0_partAt_16 : decode cX0_partAt 16 = .ok (.iload_n 2, 1) := by decide +kernel
theorem dX0_partAt_17 : decode cX0_partAt 17 = .ok (.aload_n 0, 1) := by decide +kernel
theorem dX0_partAt_18 : decode cX0_partAt 18 = .ok (.getfield 15, 3) := by decide +kernel
theorem dX0_partAt_21 : decode cX0_partAt 21 = .ok (.iload_n 1, 1) := by decide +kernel
theorem dX0_partAt_22 : decode cX0_partAt 22 = .ok (.iaload, 1) := by decide +kernel
theorem dX0_partAt_23 : decode cX0_partAt 23 = .ok (.iadd, 1) := by decide +kernel
theorem dX0_partAt_24 : decode cX0_partAt 24 = .ok (.aload_n 0, 1) := by decide +kernel
theorem dX0_partAt_25 : decode cX0_partAt 25 = .ok (.getfield 18, 3) := by decide +kernel
theorem dX0_partAt_28 : decode cX0_partAt 28 = .ok (.irem, 1) := by decide +kernel
theorem dX0_partAt_29 : decode cX0_partAt 29 = .ok (.iload_n 3, 1) := by decide +kernel
theorem dX0_partAt_30 : decode cX0_partAt 30 = .ok (.iadd, 1) := by decide +kernel
theorem dX0_partAt_31 : decode cX0_partAt 31 = .ok (.iaload, 1) := by decide +kernel
theorem dX0_partAt_32 : decode cX0_partAt 32 = .ok (.ireturn, 1) := by decide +kernel
theorem dX1_init_0 : decode cX1_init 0 = .ok (.aload_n 0, 1) := by decide +kernel
theorem dX1_init_1 : decode cX1_init 1 = .ok (.invokespecial 3, 3) := by decide +kernel
theorem dX1_init_4 : decode cX1_init 4 = .ok (.aload_n 0, 1) := by decide +kernel
theorem dX1_init_5 : decode cX1_init 5 = .ok (.bipush 24, 2) := by decide +kernel
theorem dX1_init_7 : decode cX1_init 7 = .ok (.newarray .int, 2) := by decide +kernel
theorem dX1_init_9 : decode cX1_init 9 = .ok (.putfield 9, 3) := by decide +kernel
theorem dX1_init_12 : decode cX1_init 12 = .ok (.aload_n 0, 1) := by decide +kernel
theorem dX1_init_13 : decode cX1_init 13 = .ok (.bipush 24, 2) := by decide +kernel
theorem dX1_init_15 : decode cX1_init 15 = .ok (.newarray .int, 2) := by decide +kernel
theorem dX1_init_17 : decode cX1_init 17 = .ok (.putfield 15, 3) := by decide +kernel
theorem dX1_init_20 : decode cX1_init 20 = .ok (.aload_n 0, 1) := by decide +kernel
theorem dX1_init_21 : decode cX1_init 21 = .ok (.iconst 3, 1) := by decide +kernel
theorem dX1_init_22 : decode cX1_init 22 = .ok (.anewarray 18, 3) := by decide +kernel
theorem dX1_init_25 : decode cX1_init 25 = .ok (.putfield 20, 3) := by decide +kernel
theorem dX1_init_28 : decode cX1_init 28 = .ok (.aload_n 0, 1) := by decide +kernel
theorem dX1_init_29 : decode cX1_init 29 = .ok (.new 24, 3) := by decide +kernel
theorem dX1_init_32 : decode cX1_init 32 = .ok (.dup, 1) := by decide +kernel
theorem dX1_init_33 : decode cX1_init 33 = .ok (.invokespecial 26, 3) := by decide +kernel
theorem dX1_init_36 : decode cX1_init 36 = .ok (.putfield 27, 3) := by decide +kernel
theorem dX1_init_39 : decode cX1_init 39 = .ok (.aload_n 0, 1) := by decide +kernel
theorem dX1_init_40 : decode cX1_init 40 = .ok (.new 24, 3) := by decide +kernel
theorem dX1_init_43 : decode cX1_init 43 = .ok (.dup, 1) := by decide +kernel
theorem dX1_init_44 : decode cX1_init 44 = .ok (.invokespecial 26, 3) := by decide +kernel
theorem dX1_init_47 : decode cX1_init 47 = .ok (.putfield 31, 3) := by decide +kernel
theorem dX1_init_50 : decode cX1_init 50 = .ok (.aload_n 0, 1) := by decide +kernel
theorem dX1_init_51 : decode cX1_init 51 = .ok (.new 24, 3) := by decide +kernel
theorem dX1_init_54 : decode cX1_init 54 = .ok (.dup, 1) := by decide +kernel
theorem dX1_init_55 : decode cX1_init 55 = .ok (.invokespecial 26, 3) := by decide +kernel
theorem dX1_init_58 : decode cX1_init 58 = .ok (.putfield 34, 3) := by decide +kernel
theorem dX1_init_61 : decode cX1_init 61 = .ok (.aload_n 0, 1) := by decide +kernel
theorem dX1_init_62 : decode cX1_init 62 = .ok (.new 24, 3) := by decide +kernel
theorem dX1_init_65 : decode cX1_init 65 = .ok (.dup, 1) := by decide +kernel
theorem dX1_init_66 : decode cX1_init 66 = .ok (.invokespecial 26, 3) := by decide +kernel
theorem dX1_init_69 : decode cX1_init 69 = .ok (.putfield 37, 3) := by decide +kernel
theorem dX1_init_72 : decode cX1_init 72 = .ok (.iconst 0, 1) := by decide +kernel
theorem dX1_init_73 : decode cX1_init 73 = .ok (.istore_n 1, 1) := by decide +kernel
theorem dX1_init_74 : decode cX1_init 74 = .ok (.iload_n 1, 1) := by decide +kernel
theorem dX1_init_75 : decode cX1_init 75 = .ok (.iconst 3, 1) := by decide +kernel
theorem dX1_init_76 : decode cX1_init 76 = .ok (.if_icmp .ge 22, 3) := by decide +kernel
theorem dX1_init_79 : decode cX1_init 79 = .ok (.aload_n 0, 1) := by decide +kernel
theorem dX1_init_80 : decode cX1_init 80 = .ok (.getfield 20, 3) := by decide +kernel
theorem dX1_init_83 : decode cX1_init 83 = .ok (.iload_n 1, 1) := by decide +kernel
theorem dX1_init_84 : decode cX1_init 84 = .ok (.new 18, 3) := by decide +kernel
theorem dX1_init_87 : decode cX1_init 87 = .ok (.dup, 1) := by decide +kernel
theorem dX1_init_88 : decode cX1_init 88 = .ok (.invokespecial 40, 3) := by decide +kernel
theorem dX1_init_91 : decode cX1_init 91 = .ok (.aastore, 1) := by decide +kernel
theorem dX1_init_92 : decode cX1_init 92 = .ok (.iinc 1 1, 3) := by decide +kernel
theorem dX1_init_95 : decode cX1_init 95 = .ok (.goto (-21), 3) := by decide +kernel
theorem dX1_init_98 : decode cX1_init 98 = .ok (.aload_n 0, 1) := by decide +kernel
theorem dX1_init_99 : decode cX1_init 99 = .ok (.invokevirtual 41, 3) := by decide +kernel
theorem dX1_init_102 : decode cX1_init 102 = .ok (.return_, 1) := by decide +kernel
theorem dX1_clear_0 : decode cX1_clear 0 = .ok (.aload_n 0, 1) := by decide +kernel
theorem dX1_clear_1 : decode cX1_clear 1 = .ok (.iconst 0, 1) := by decide +kernel
theorem dX1_clear_2 : decode cX1_clear 2 = .ok (.putfield 44, 3) := by decide +kernel
theorem dX1_clear_5 : decode cX1_clear 5 = .ok (.aload_n 0, 1) := by decide +kernel
theorem dX1_clear_6 : decode cX1_clear 6 = .ok (.iconst 0, 1) := by decide +kernel
theorem dX1_clear_7 : decode cX1_clear 7 = .ok (.putfield 48, 3) := by decide +kernel
theorem dX1_clear_10 : decode cX1_clear 10 = .ok (.aload_n 0, 1) := by decide +kernel
theorem dX1_clear_11 : decode cX1_clear 11 = .ok (.iconst 0, 1) := by decide +kernel
theorem dX1_clear_12 : decode cX1_clear 12 = .ok (.putfield 51, 3) := by decide +kernel
theorem dX1_clear_15 : decode cX1_clear 15 = .ok (.aload_n 0, 1) := by decide +kernel
theorem dX1_clear_16 : decode cX1_clear 16 = .ok (.iconst 0, 1) := by decide +kernel
theorem dX1_clear_17 : decode cX1_clear 17 = .ok (.putfield 54, 3) := by decide +kernel
theorem dX1_clear_20 : decode cX1_clear 20 = .ok (.iconst 0, 1) := by decide +kernel
theorem dX1_clear_21 : decode cX1_clear 21 = .ok (.istore_n 1, 1) := by decide +kernel
theorem dX1_clear_22 : decode cX1_clear 22 = .ok (.iload_n 1, 1) := by decide +kernel
theorem dX1_clear_23 : decode cX1_clear 23 = .ok (.iconst 3, 1) := by decide +kernel
theorem dX1_clear_24 : decode cX1_clear 24 = .ok (.if_icmp .ge 18, 3) := by decide +kernel
theorem dX1_clear_27 : decode cX1_clear 27 = .ok (.aload_n 0, 1) := by decide +kernel
theorem dX1_clear_28 : decode cX1_clear 28 = .ok (.getfield 20, 3) := by decide +kernel
theorem dX1_clear_31 : decode cX1_clear 31 = .ok (.iload_n 1, 1) := by decide +kernel
theorem dX1_clear_32 : decode cX1_clear 32 = .ok (.aaload, 1) := by decide +kernel
theorem dX1_clear_33 : decode cX1_clear 33 = .ok (.invokevirtual 57, 3) := by decide +kernel
theorem dX1_clear_36 : decode cX1_clear 36 = .ok (.iinc 1 1, 3) := by decide +kernel
theorem dX1_clear_39 : decode cX1_clear 39 = .ok (.goto (-17), 3) := by decide +kernel
theorem dX1_clear_42 : decode cX1_clear 42 = .ok (.aload_n 0, 1) := by decide +kernel
theorem dX1_clear_43 : decode cX1_clear 43 = .ok (.getfield 27, 3) := by decide +kernel
theorem dX1_clear_46 : decode cX1_clear 46 = .ok (.iconst 0, 1) := by decide +kernel
theorem dX1_clear_47 : decode cX1_clear 47 = .ok (.putfield 58, 3) := by decide +kernel
theorem dX1_clear_50 : decode cX1_clear 50 = .ok (.aload_n 0, 1) := by decide +kernel
theorem dX1_clear_51 : decode cX1_clear 51 = .ok (.getfield 31, 3) := by decide +kernel
theorem dX1_clear_54 : decode cX1_clear 54 = .ok (.iconst 0, 1) := by decide +kernel
theorem dX1_clear_55 : decode cX1_clear 55 = .ok (.putfield 58, 3) := by decide +kernel
theorem dX1_clear_58 : decode cX1_clear 58 = .ok (.aload_n 0, 1) := by decide +kernel
theorem dX1_clear_59 : decode cX1_clear 59 = .ok (.getfield 34, 3) := by decide +kernel
theorem dX1_clear_62 : decode cX1_clear 62 = .ok (.iconst 0, 1) := by decide +kernel
theorem dX1_clear_63 : decode cX1_clear 63 = .ok (.putfield 58, 3) := by decide +kernel
theorem dX1_clear_66 : decode cX1_clear 66 = .ok (.aload_n 0, 1) := by decide +kernel
theorem dX1_clear_67 : decode cX1_clear 67 = .ok (.getfield 37, 3) := by decide +kernel
theorem dX1_clear_70 : decode cX1_clear 70 = .ok (.iconst 0, 1) := by decide +kernel
theorem dX1_clear_71 : decode cX1_clear 71 = .ok (.putfield 58, 3) := by decide +kernel
theorem dX1_clear_74 : decode cX1_clear 74 = .ok (.return_, 1) := by decide +kernel
theorem dX1_cellAt_0 : decode cX1_cellAt 0 = .ok (.iload_n 1, 1) := by decide +kernel
theorem dX1_cellAt_1 : decode cX1_cellAt 1 = .ok (.ifCond .lt 27, 3) := by decide +kernel
theorem dX1_cellAt_4 : decode cX1_cellAt 4 = .ok (.iload_n 1, 1) := by decide +kernel
theorem dX1_cellAt_5 : decode cX1_cellAt 5 = .ok (.aload_n 0, 1) := by decide +kernel
theorem dX1_cellAt_6 : decode cX1_cellAt 6 = .ok (.getfield 44, 3) := by decide +kernel
theorem dX1_cellAt_9 : decode cX1_cellAt 9 = .ok (.if_icmp .ge 19, 3) := by decide +kernel
theorem dX1_cellAt_12 : decode cX1_cellAt 12 = .ok (.iload_n 2, 1) := by decide +kernel
theorem dX1_cellAt_13 : decode cX1_cellAt 13 = .ok (.ifCond .lt 15, 3) := by decide +kernel
theorem dX1_cellAt_16 : decode cX1_cellAt 16 = .ok (.iload_n 2, 1) := by decide +kernel
theorem dX1_cellAt_17 : decode cX1_cellAt 17 = .ok (.aload_n 0, 1) := by decide +kernel
theorem dX1_cellAt_18 : decode cX1_cellAt 18 = .ok (.getfield 48, 3) := by decide +kernel
theorem dX1_cellAt_21 : decode cX1_cellAt 21 = .ok (.if_icmp .ge 7, 3) := by decide +kernel
theorem dX1_cellAt_24 : decode cX1_cellAt 24 = .ok (.iconst 1, 1) := by decide +kernel
theorem dX1_cellAt_25 : decode cX1_cellAt 25 = .ok (.goto 4, 3) := by decide +kernel
theorem dX1_cellAt_28 : decode cX1_cellAt 28 = .ok (.iconst 0, 1) := by decide +kernel
theorem dX1_cellAt_29 : decode cX1_cellAt 29 = .ok (.istore_n 3, 1) := by decide +kernel
theorem dX1_cellAt_30 : decode cX1_cellAt 30 = .ok (.iload_n 3, 1) := by decide +kernel
theorem dX1_cellAt_31 : decode cX1_cellAt 31 = .ok (.ifCond .eq 14, 3) := by decide +kernel
theorem dX1_cellAt_34 : decode cX1_cellAt 34 = .ok (.iload_n 2, 1) := by decide +kernel
theorem dX1_cellAt_35 : decode cX1_cellAt 35 = .ok (.aload_n 0, 1) := by decide +kernel
theorem dX1_cellAt_36 : decode cX1_cellAt 36 = .ok (.getfield 44, 3) := by decide +kernel
theorem dX1_cellAt_39 : decode cX1_cellAt 39 = .ok (.imul, 1) := by decide +kernel
theorem dX1_cellAt_40 : decode cX1_cellAt 40 = .ok (.iload_n 1, 1) := by decide +kernel
theorem dX1_cellAt_41 : decode cX1_cellAt 41 = .ok (.iadd, 1) := by decide +kernel
theorem dX1_cellAt_42 : decode cX1_cellAt 42 = .ok (.goto 4, 3) := by decide +kernel
theorem dX1_cellAt_45 : decode cX1_cellAt 45 = .ok (.iconst (-1), 1) := by decide +kernel
theorem dX1_cellAt_46 : decode cX1_cellAt 46 = .ok (.ireturn, 1) := by decide +kernel
theorem dX1_cellOfPair_0 : decode cX1_cellOfPair 0 = .ok (.iload_n 1, 1) := by decide +kernel
theorem dX1_cellOfPair_1 : decode cX1_cellOfPair 1 = .ok (.ifCond .ge 7, 3) := by decide +kernel
theorem dX1_cellOfPair_4 : decode cX1_cellOfPair 4 = .ok (.iconst (-1), 1) := by decide +kernel
theorem dX1_cellOfPair_5 : decode cX1_cellOfPair 5 = .ok (.goto 15, 3) := by decide +kernel
theorem dX1_cellOfPair_8 : decode cX1_cellOfPair 8 = .ok (.aload_n 0, 1) := by decide +kernel
theorem dX1_cellOfPair_9 : decode cX1_cellOfPair 9 = .ok (.iload_n 1, 1) := by decide +kernel
theorem dX1_cellOfPair_10 : decode cX1_cellOfPair 10 = .ok (.bipush 10, 2) := by decide +kernel
theorem dX1_cellOfPair_12 : decode cX1_cellOfPair 12 = .ok (.idiv, 1) := by decide +kernel
theorem dX1_cellOfPair_13 : decode cX1_cellOfPair 13 = .ok (.iload_n 1, 1) := by decide +kernel
theorem dX1_cellOfPair_14 : decode cX1_cellOfPair 14 = .ok (.bipush 10, 2) := by decide +kernel
theorem dX1_cellOfPair_16 : decode cX1_cellOfPair 16 = .ok (.irem, 1) := by decide +kernel
theorem dX1_cellOfPair_17 : decode cX1_cellOfPair 17 = .ok (.invokevirtual 61, 3) := by decide +kernel
theorem dX1_cellOfPair_20 : decode cX1_cellOfPair 20 = .ok (.ireturn, 1) := by decide +kernel
theorem dX1_pairOf_0 : decode cX1_pairOf 0 = .ok (.aload_n 0, 1) := by decide +kernel
theorem dX1_pairOf_1 : decode cX1_pairOf 1 = .ok (.getfield 44, 3) := by decide +kernel
theorem dX1_pairOf_4 : decode cX1_pairOf 4 = .ok (.iconst 1, 1) := by decide +kernel
theorem dX1_pairOf_5 : decode cX1_pairOf 5 = .ok (.if_icmp .ge 7, 3) := by decide +kernel
theorem dX1_pairOf_8 : decode cX1_pairOf 8 = .ok (.iconst 0, 1) := by decide +kernel
theorem dX1_pairOf_9 : decode cX1_pairOf 9 = .ok (.goto 19, 3) := by decide +kernel
theorem dX1_pairOf_12 : decode cX1_pairOf 12 = .ok (.iload_n 1, 1) := by decide +kernel
theorem dX1_pairOf_13 : decode cX1_pairOf 13 = .ok (.aload_n 0, 1) := by decide +kernel
theorem dX1_pairOf_14 : decode cX1_pairOf 14 = .ok (.getfield 44, 3) := by decide +kernel
theorem dX1_pairOf_17 : decode cX1_pairOf 17 = .ok (.irem, 1) := by decide +kernel
theorem dX1_pairOf_18 : decode cX1_pairOf 18 = .ok (.bipush 10, 2) := by decide +kernel
theorem dX1_pairOf_20 : decode cX1_pairOf 20 = .ok (.imul, 1) := by decide +kernel
theorem dX1_pairOf_21 : decode cX1_pairOf 21 = .ok (.iload_n 1, 1) := by decide +kernel
theorem dX1_pairOf_22 : decode cX1_pairOf 22 = .ok (.aload_n 0, 1) := by decide +kernel
theorem dX1_pairOf_23 : decode cX1_pairOf 23 = .ok (.getfield 44, 3) := by decide +kernel
theorem dX1_pairOf_26 : decode cX1_pairOf 26 = .ok (.idiv, 1) := by decide +kernel
theorem dX1_pairOf_27 : decode cX1_pairOf 27 = .ok (.iadd, 1) := by decide +kernel
theorem dX1_pairOf_28 : decode cX1_pairOf 28 = .ok (.ireturn, 1) := by decide +kernel
theorem dX1_beside_0 : decode cX1_beside 0 = .ok (.aload_n 0, 1) := by decide +kernel
theorem dX1_beside_1 : decode cX1_beside 1 = .ok (.getfield 44, 3) := by decide +kernel
theorem dX1_beside_4 : decode cX1_beside 4 = .ok (.iconst 1, 1) := by decide +kernel
theorem dX1_beside_5 : decode cX1_beside 5 = .ok (.if_icmp .lt 12, 3) := by decide +kernel
theorem dX1_beside_8 : decode cX1_beside 8 = .ok (.iload_n 2, 1) := by decide +kernel
theorem dX1_beside_9 : decode cX1_beside 9 = .ok (.ifCond .lt 8, 3) := by decide +kernel
theorem dX1_beside_12 : decode cX1_beside 12 = .ok (.iload_n 2, 1) := by decide +kernel
theorem dX1_beside_13 : decode cX1_beside 13 = .ok (.iconst 5, 1) := by decide +kernel
theorem dX1_beside_14 : decode cX1_beside 14 = .ok (.if_icmp .lt 5, 3) := by decide +kernel
theorem dX1_beside_17 : decode cX1_beside 17 = .ok (.iconst (-1), 1) := by decide +kernel
theorem dX1_beside_18 : decode cX1_beside 18 = .ok (.ireturn, 1) := by decide +kernel
theorem dX1_beside_19 : decode cX1_beside 19 = .ok (.aload_n 0, 1) := by decide +kernel
theorem dX1_beside_20 : decode cX1_beside 20 = .ok (.iload_n 1, 1) := by decide +kernel
theorem dX1_beside_21 : decode cX1_beside 21 = .ok (.aload_n 0, 1) := by decide +kernel
theorem dX1_beside_22 : decode cX1_beside 22 = .ok (.getfield 44, 3) := by decide +kernel
theorem dX1_beside_25 : decode cX1_beside 25 = .ok (.irem, 1) := by decide +kernel
theorem dX1_beside_26 : decode cX1_beside 26 = .ok (.getstatic 65, 3) := by decide +kernel
theorem dX1_beside_29 : decode cX1_beside 29 = .ok (.iload_n 2, 1) := by decide +kernel
theorem dX1_beside_30 : decode cX1_beside 30 = .ok (.iaload, 1) := by decide +kernel
theorem dX1_beside_31 : decode cX1_beside 31 = .ok (.iadd, 1) := by decide +kernel
theorem dX1_beside_32 : decode cX1_beside 32 = .ok (.iload_n 1, 1) := by decide +kernel
theorem dX1_beside_33 : decode cX1_beside 33 = .ok (.aload_n 0, 1) := by decide +kernel
theorem dX1_beside_34 : decode cX1_beside 34 = .ok (.getfield 44, 3) := by decide +kernel
theorem dX1_beside_37 : decode cX1_beside 37 = .ok (.idiv, 1) := by decide +kernel
theorem dX1_beside_38 : decode cX1_beside 38 = .ok (.getstatic 68, 3) := by decide +kernel
theorem dX1_beside_41 : decode cX1_beside 41 = .ok (.iload_n 2, 1) := by decide +kernel
theorem dX1_beside_42 : decode cX1_beside 42 = .ok (.iaload, 1) := by decide +kernel
theorem dX1_beside_43 : decode cX1_beside 43 = .ok (.iadd, 1) := by decide +kernel
theorem dX1_beside_44 : decode cX1_beside 44 = .ok (.invokevirtual 61, 3) := by decide +kernel
theorem dX1_beside_47 : decode cX1_beside 47 = .ok (.ireturn, 1) := by decide +kernel
theorem dX1_period_0 : decode cX1_period 0 = .ok (.iconst 1, 1) := by decide +kernel
theorem dX1_period_1 : decode cX1_period 1 = .ok (.istore_n 1, 1) := by decide +kernel
theorem dX1_period_2 : decode cX1_period 2 = .ok (.iconst 0, 1) := by decide +kernel
theorem dX1_period_3 : decode cX1_period 3 = .ok (.istore_n 2, 1) := by decide +kernel
theorem dX1_period_4 : decode cX1_period 4 = .ok (.iload_n 2, 1) := by decide +kernel
theorem dX1_period_5 : decode cX1_period 5 = .ok (.aload_n 0, 1) := by decide +kernel
theorem dX1_period_6 : decode cX1_period 6 = .ok (.getfield 54, 3) := by decide +kernel
theorem dX1_period_9 : decode cX1_period 9 = .ok (.if_icmp .ge 43, 3) := by decide +kernel
theorem dX1_period_12 : decode cX1_period 12 = .ok (.aload_n 0, 1) := by decide +kernel
theorem dX1_period_13 : decode cX1_period 13 = .ok (.getfield 20, 3) := by decide +kernel
theorem dX1_period_16 : decode cX1_period 16 = .ok (.iload_n 2, 1) := by decide +kernel
theorem dX1_period_17 : decode cX1_period 17 = .ok (.aaload, 1) := by decide +kernel
theorem dX1_period_18 : decode cX1_period 18 = .ok (.getfield 71, 3) := by decide +kernel
theorem dX1_period_21 : decode cX1_period 21 = .ok (.istore_n 3, 1) := by decide +kernel
theorem dX1_period_22 : decode cX1_period 22 = .ok (.iload_n 1, 1) := by decide +kernel
theorem dX1_period_23 : decode cX1_period 23 = .ok (.iload_n 3, 1) := by decide +kernel
theorem dX1_period_24 : decode cX1_period 24 = .ok (.invokestatic 74, 3) := by decide +kernel
theorem dX1_period_27 : decode cX1_period 27 = .ok (.istore 4, 2) := by decide +kernel
theorem dX1_period_29 : decode cX1_period 29 = .ok (.iload 4, 2) := by decide +kernel
theorem dX1_period_31 : decode cX1_period 31 = .ok (.iconst 1, 1) := by decide +kernel
theorem dX1_period_32 : decode cX1_period 32 = .ok (.if_icmp .ge 7, 3) := by decide +kernel
theorem dX1_period_35 : decode cX1_period 35 = .ok (.iload_n 1, 1) := by decide +kernel
theorem dX1_period_36 : decode cX1_period 36 = .ok (.goto 9, 3) := by decide +kernel
theorem dX1_period_39 : decode cX1_period 39 = .ok (.iload_n 1, 1) := by decide +kernel
theorem dX1_period_40 : decode cX1_period 40 = .ok (.iload 4, 2) := by decide +kernel
theorem dX1_period_42 : decode cX1_period 42 = .ok (.idiv, 1) := by decide +kernel
theorem dX1_period_43 : decode cX1_period 43 = .ok (.iload_n 3, 1) := by decide +kernel
theorem dX1_period_44 : decode cX1_period 44 = .ok (.imul, 1) := by decide +kernel
theorem dX1_period_45 : decode cX1_period 45 = .ok (.istore_n 1, 1) := by decide +kernel
theorem dX1_period_46 : decode cX1_period 46 = .ok (.iinc 2 1, 3) := by decide +kernel
theorem dX1_period_49 : decode cX1_period 49 = .ok (.goto (-45), 3) := by decide +kernel
theorem dX1_period_52 : decode cX1_period 52 = .ok (.iload_n 1, 1) := by decide +kernel
theorem dX1_period_53 : decode cX1_period 53 = .ok (.ireturn, 1) := by decide +kernel
theorem dX2_init_0 : decode cX2_init 0 = .ok (.aload_n 0, 1) := by decide +kernel
theorem dX2_init_1 : decode cX2_init 1 = .ok (.invokespecial 3, 3) := by decide +kernel
theorem dX2_init_4 : decode cX2_init 4 = .ok (.return_, 1) := by decide +kernel
theorem dX2_readText_0 : decode cX2_readText 0 = .ok (.aload_n 0, 1) := by decide +kernel
theorem dX2_readText_1 : decode cX2_readText 1 = .ok (.aload_n 1, 1) := by decide +kernel
theorem dX2_readText_2 : decode cX2_readText 2 = .ok (.putfield 9, 3) := by decide +kernel
theorem dX2_readText_5 : decode cX2_readText 5 = .ok (.aload_n 0, 1) := by decide +kernel
theorem dX2_readText_6 : decode cX2_readText 6 = .ok (.iload_n 2, 1) := by decide +kernel
theorem dX2_readText_7 : decode cX2_readText 7 = .ok (.aload_n 1, 1) := by decide +kernel
theorem dX2_readText_8 : decode cX2_readText 8 = .ok (.arraylength, 1) := by decide +kernel
theorem dX2_readText_9 : decode cX2_readText 9 = .ok (.invokestatic 15, 3) := by decide +kernel
theorem dX2_readText_12 : decode cX2_readText 12 = .ok (.putfield 21, 3) := by decide +kernel
theorem dX2_readText_15 : decode cX2_readText 15 = .ok (.aload_n 0, 1) := by decide +kernel
theorem dX2_readText_16 : decode cX2_readText 16 = .ok (.iconst 0, 1) := by decide +kernel
theorem dX2_readText_17 : decode cX2_readText 17 = .ok (.putfield 25, 3) := by decide +kernel
theorem dX2_readText_20 : decode cX2_readText 20 = .ok (.aload_n 0, 1) := by decide +kernel
theorem dX2_readText_21 : decode cX2_readText 21 = .ok (.aload_n 3, 1) := by decide +kernel
theorem dX2_readText_22 : decode cX2_readText 22 = .ok (.putfield 28, 3) := by decide +kernel
theorem dX2_readText_25 : decode cX2_readText 25 = .ok (.aload_n 0, 1) := by decide +kernel
theorem dX2_readText_26 : decode cX2_readText 26 = .ok (.getfield 28, 3) := by decide +kernel
theorem dX2_readText_29 : decode cX2_readText 29 = .ok (.invokevirtual 32, 3) := by decide +kernel
theorem dX2_readText_32 : decode cX2_readText 32 = .ok (.aload_n 0, 1) := by decide +kernel
theorem dX2_readText_33 : decode cX2_readText 33 = .ok (.iconst 0, 1) := by decide +kernel
theorem dX2_readText_34 : decode cX2_readText 34 = .ok (.putfield 37, 3) := by decide +kernel
theorem dX2_readText_37 : decode cX2_readText 37 = .ok (.aload_n 0, 1) := by decide +kernel
theorem dX2_readText_38 : decode cX2_readText 38 = .ok (.iconst (-1), 1) := by decide +kernel
theorem dX2_readText_39 : decode cX2_readText 39 = .ok (.putfield 40, 3) := by decide +kernel
theorem dX2_readText_42 : decode cX2_readText 42 = .ok (.aload_n 0, 1) := by decide +kernel
theorem dX2_readText_43 : decode cX2_readText 43 = .ok (.iconst 0, 1) := by decide +kernel
theorem dX2_readText_44 : decode cX2_readText 44 = .ok (.putfield 43, 3) := by decide +kernel
theorem dX2_readText_47 : decode cX2_readText 47 = .ok (.aload_n 0, 1) := by decide +kernel
theorem dX2_readText_48 : decode cX2_readText 48 = .ok (.iconst 0, 1) := by decide +kernel
theorem dX2_readText_49 : decode cX2_readText 49 = .ok (.putfield 46, 3) := by decide +kernel
theorem dX2_readText_52 : decode cX2_readText 52 = .ok (.iconst 0, 1) := by decide +kernel
theorem dX2_readText_53 : decode cX2_readText 53 = .ok (.istore 4, 2) := by decide +kernel
theorem dX2_readText_55 : decode cX2_readText 55 = .ok (.iload 4, 2) := by decide +kernel
theorem dX2_readText_57 : decode cX2_readText 57 = .ok (.aload_n 0, 1) := by decide +kernel
theorem dX2_readText_58 : decode cX2_readText 58 = .ok (.getfield 21, 3) := by decide +kernel
theorem dX2_readText_61 : decode cX2_readText 61 = .ok (.if_icmp .gt 38, 3) := by decide +kernel
theorem dX2_readText_64 : decode cX2_readText 64 = .ok (.aload_n 0, 1) := by decide +kernel
theorem dX2_readText_65 : decode cX2_readText 65 = .ok (.getfield 37, 3) := by decide +kernel
theorem dX2_readText_68 : decode cX2_readText 68 = .ok (.ifCond .ne 31, 3) := by decide +kernel
theorem dX2_readText_71 : decode cX2_readText 71 = .ok (.aload_n 0, 1) := by decide +kernel
theorem dX2_readText_72 : decode cX2_readText 72 = .ok (.invokevirtual 49, 3) := by decide +kernel
theorem dX2_readText_75 : decode cX2_readText 75 = .ok (.aload_n 0, 1) := by decide +kernel
theorem dX2_readText_76 : decode cX2_readText 76 = .ok (.getfield 25, 3) := by decide +kernel
theorem dX2_readText_79 : decode cX2_readText 79 = .ok (.aload_n 0, 1) := by decide +kernel
theorem dX2_readText_80 : decode cX2_readText 80 = .ok (.getfield 21, 3) := by decide +kernel
theorem dX2_readText_83 : decode cX2_readText 83 = .ok (.if_icmp .lt 6, 3) := by decide +kernel
theorem dX2_readText_86 : decode cX2_readText 86 = .ok (.goto 13, 3) := by decide +kernel
theorem dX2_readText_89 : decode cX2_readText 89 = .ok (.aload_n 0, 1) := by decide +kernel
theorem dX2_readText_90 : decode cX2_readText 90 = .ok (.invokevirtual 52, 3) := by decide +kernel
theorem dX2_readText_93 : decode cX2_readText 93 = .ok (.iinc 4 1, 3) := by decide +kernel
theorem dX2_readText_96 : decode cX2_readText 96 = .ok (.goto (-41), 3) := by decide +kernel
theorem dX2_readText_99 : decode cX2_readText 99 = .ok (.aload_n 0, 1) := by decide +kernel
theorem dX2_readText_100 : decode cX2_readText 100 = .ok (.getfield 37, 3) := by decide +kernel
theorem dX2_readText_103 : decode cX2_readText 103 = .ok (.ireturn, 1) := by decide +kernel
theorem dX2_readClause_0 : decode cX2_readClause 0 = .ok (.aload_n 0, 1) := by decide +kernel
theorem dX2_readClause_1 : decode cX2_readClause 1 = .ok (.getfield 25, 3) := by decide +kernel
theorem dX2_readClause_4 : decode cX2_readClause 4 = .ok (.istore_n 1, 1) := by decide +kernel
theorem dX2_readClause_5 : decode cX2_readClause 5 = .ok (.aload_n 0, 1) := by decide +kernel
theorem dX2_readClause_6 : decode cX2_readClause 6 = .ok (.getfield 9, 3) := by decide +kernel
theorem dX2_readClause_9 : decode cX2_readClause 9 = .ok (.aload_n 0, 1) := by decide +kernel
theorem dX2_readClause_10 : decode cX2_readClause 10 = .ok (.getfield 25, 3) := by decide +kernel
theorem dX2_readClause_13 : decode cX2_readClause 13 = .ok (.iaload, 1) := by decide +kernel
theorem dX2_readClause_14 : decode cX2_readClause 14 = .ok (.istore_n 2, 1) := by decide +kernel
theorem dX2_readClause_15 : decode cX2_readClause 15 = .ok (.aload_n 0, 1) := by decide +kernel
theorem dX2_readClause_16 : decode cX2_readClause 16 = .ok (.dup, 1) := by decide +kernel
theorem dX2_readClause_17 : decode cX2_readClause 17 = .ok (.getfield 25, 3) := by decide +kernel
theorem dX2_readClause_20 : decode cX2_readClause 20 = .ok (.iconst 1, 1) := by decide +kernel
theorem dX2_readClause_21 : decode cX2_readClause 21 = .ok (.iadd, 1) := by decide +kernel
theorem dX2_readClause_22 : decode cX2_readClause 22 = .ok (.putfield 25, 3) := by decide +kernel
theorem dX2_readClause_25 : decode cX2_readClause 25 = .ok (.aload_n 0, 1) := by decide +kernel
theorem dX2_readClause_26 : decode cX2_readClause 26 = .ok (.getfield 28, 3) := by decide +kernel
theorem dX2_readClause_29 : decode cX2_readClause 29 = .ok (.getfield 55, 3) := by decide +kernel
theorem dX2_readClause_32 : decode cX2_readClause 32 = .ok (.ifCond .ne 17, 3) := by decide +kernel
theorem dX2_readClause_35 : decode cX2_readClause 35 = .ok (.iload_n 2, 1) := by decide +kernel
theorem dX2_readClause_36 : decode cX2_readClause 36 = .ok (.bipush 103, 2) := by decide +kernel
theorem dX2_readClause_38 : decode cX2_readClause 38 = .ok (.if_icmp .eq 11, 3) := by decide +kernel
theorem dX2_readClause_41 : decode cX2_readClause 41 = .ok (.aload_n 0, 1) := by decide +kernel
theorem dX2_readClause_42 : decode cX2_readClause 42 = .ok (.iconst 1, 1) := by decide +kernel
theorem dX2_readClause_43 : decode cX2_readClause 43 = .ok (.iconst 1, 1) := by decide +kernel
theorem dX2_readClause_44 : decode cX2_readClause 44 = .ok (.iload_n 1, 1) := by decide +kernel
theorem dX2_readClause_45 : decode cX2_readClause 45 = .ok (.invokevirtual 58, 3) := by decide +kernel
theorem dX2_readClause_48 : decode cX2_readClause 48 = .ok (.return_, 1) := by decide +kernel
theorem dX2_readClause_49 : decode cX2_readClause 49 = .ok (.iload_n 2, 1) := by decide +kernel
theorem dX2_readClause_50 : decode cX2_readClause 50 = .ok (.tableswitch 154 99 119 #[106, 146, 154, 154, 98, 122, 154, 154, 130, 154, 114, 154, 154, 154, 154, 154, 154, 154, 154, 154, 138], 98) := by decide +kernel
theorem dX2_readClause_148 : decode cX2_readClause 148 = .ok (.aload_n 0, 1) := by decide +kernel
theorem dX2_readClause_149 : decode cX2_readClause 149 = .ok (.iload_n 1, 1) := by decide +kernel
theorem dX2_readClause_150 : decode cX2_readClause 150 = .ok (.invokevirtual 62, 3) := by decide +kernel
theorem dX2_readClause_153 : decode cX2_readClause 153 = .ok (.goto 58, 3) := by decide +kernel
theorem dX2_readClause_156 : decode cX2_readClause 156 = .ok (.aload_n 0, 1) := by decide +kernel
theorem dX2_readClause_157 : decode cX2_readClause 157 = .ok (.iload_n 1, 1) := by decide +kernel
theorem dX2_readClause_158 : decode cX2_readClause 158 = .ok (.invokevirtual 66, 3) := by decide +kernel
theorem dX2_readClause_161 : decode cX2_readClause 161 = .ok (.goto 50, 3) := by decide +kernel
theorem dX2_readClause_164 : decode cX2_readClause 164 = .ok (.aload_n 0, 1) := by decide +kernel
theorem dX2_readClause_165 : decode cX2_readClause 165 = .ok (.iload_n 1, 1) := by decide +kernel
theorem dX2_readClause_166 : decode cX2_readClause 166 = .ok (.invokevirtual 69, 3) := by decide +kernel
theorem dX2_readClause_169 : decode cX2_readClause 169 = .ok (.goto 42, 3) := by decide +kernel
theorem dX2_readClause_172 : decode cX2_readClause 172 = .ok (.aload_n 0, 1) := by decide +kernel
theorem dX2_readClause_173 : decode cX2_readClause 173 = .ok (.iload_n 1, 1) := by decide +kernel
theorem dX2_readClause_174 : decode cX2_readClause 174 = .ok (.invokevirtual 72, 3) := by decide +kernel
theorem dX2_readClause_177 : decode cX2_readClause 177 = .ok (.goto 34, 3) := by decide +kernel
theorem dX2_readClause_180 : decode cX2_readClause 180 = .ok (.aload_n 0, 1) := by decide +kernel
theorem dX2_readClause_181 : decode cX2_readClause 181 = .ok (.iload_n 1, 1) := by decide +kernel
theorem dX2_readClause_182 : decode cX2_readClause 182 = .ok (.invokevirtual 75, 3) := by decide +kernel
theorem dX2_readClause_185 : decode cX2_readClause 185 = .ok (.goto 26, 3) := by decide +kernel
theorem dX2_readClause_188 : decode cX2_readClause 188 = .ok (.aload_n 0, 1) := by decide +kernel
theorem dX2_readClause_189 : decode cX2_readClause 189 = .ok (.iload_n 1, 1) := by decide +kernel
theorem dX2_readClause_190 : decode cX2_readClause 190 = .ok (.invokevirtual 78, 3) := by decide +kernel
theorem dX2_readClause_193 : decode cX2_readClause 193 = .ok (.goto 18, 3) := by decide +kernel
theorem dX2_readClause_196 : decode cX2_readClause 196 = .ok (.aload_n 0, 1) := by decide +kernel
theorem dX2_readClause_197 : decode cX2_readClause 197 = .ok (.iload_n 1, 1) := by decide +kernel
theorem dX2_readClause_198 : decode cX2_readClause 198 = .ok (.invokevirtual 81, 3) := by decide +kernel
theorem dX2_readClause_201 : decode cX2_readClause 201 = .ok (.goto 10, 3) := by decide +kernel
theorem dX2_readClause_204 : decode cX2_readClause 204 = .ok (.aload_n 0, 1) := by decide +kernel
theorem dX2_readClause_205 : decode cX2_readClause 205 = .ok (.iconst 1, 1) := by decide +kernel
theorem dX2_readClause_206 : decode cX2_readClause 206 = .ok (.iconst 1, 1) := by decide +kernel
theorem dX2_readClause_207 : decode cX2_readClause 207 = .ok (.iload_n 1, 1) := by decide +kernel
theorem dX2_readClause_208 : decode cX2_readClause 208 = .ok (.invokevirtual 58, 3) := by decide +kernel
theorem dX2_readClause_211 : decode cX2_readClause 211 = .ok (.return_, 1) := by decide +kernel
theorem dX2_readGround_0 : decode cX2_readGround 0 = .ok (.aload_n 0, 1) := by decide +kernel
theorem dX2_readGround_1 : decode cX2_readGround 1 = .ok (.aload_n 0, 1) := by decide +kernel
theorem dX2_readGround_2 : decode cX2_readGround 2 = .ok (.getfield 28, 3) := by decide +kernel
theorem dX2_readGround_5 : decode cX2_readGround 5 = .ok (.getfield 55, 3) := by decide +kernel
theorem dX2_readGround_8 : decode cX2_readGround 8 = .ok (.ifCond .le 7, 3) := by decide +kernel
theorem dX2_readGround_11 : decode cX2_readGround 11 = .ok (.iconst 1, 1) := by decide +kernel
theorem dX2_readGround_12 : decode cX2_readGround 12 = .ok (.goto 4, 3) := by decide +kernel
theorem dX2_readGround_15 : decode cX2_readGround 15 = .ok (.iconst 0, 1) := by decide +kernel
theorem dX2_readGround_16 : decode cX2_readGround 16 = .ok (.iconst 3, 1) := by decide +kernel
theorem dX2_readGround_17 : decode cX2_readGround 17 = .ok (.iload_n 1, 1) := by decide +kernel
theorem dX2_readGround_18 : decode cX2_readGround 18 = .ok (.invokevirtual 58, 3) := by decide +kernel
theorem dX2_readGround_21 : decode cX2_readGround 21 = .ok (.aload_n 0, 1) := by decide +kernel
theorem dX2_readGround_22 : decode cX2_readGround 22 = .ok (.iconst 1, 1) := by decide +kernel
theorem dX2_readGround_23 : decode cX2_readGround 23 = .ok (.bipush 6, 2) := by decide +kernel
theorem dX2_readGround_25 : decode cX2_readGround 25 = .ok (.invokevirtual 84, 3) := by decide +kernel
theorem dX2_readGround_28 : decode cX2_readGround 28 = .ok (.istore_n 2, 1) := by decide +kernel
theorem dX2_readGround_29 : decode cX2_readGround 29 = .ok (.aload_n 0, 1) := by decide +kernel
theorem dX2_readGround_30 : decode cX2_readGround 30 = .ok (.iconst 1, 1) := by decide +kernel
theorem dX2_readGround_31 : decode cX2_readGround 31 = .ok (.bipush 6, 2) := by decide +kernel
theorem dX2_readGround_33 : decode cX2_readGround 33 = .ok (.invokevirtual 84, 3) := by decide +kernel
theorem dX2_readGround_36 : decode cX2_readGround 36 = .ok (.istore_n 3, 1) := by decide +kernel
theorem dX2_readGround_37 : decode cX2_readGround 37 = .ok (.aload_n 0, 1) := by decide +kernel
theorem dX2_readGround_38 : decode cX2_readGround 38 = .ok (.iload_n 2, 1) := by decide +kernel
theorem dX2_readGround_39 : decode cX2_readGround 39 = .ok (.iload_n 3, 1) := by decide +kernel
theorem dX2_readGround_40 : decode cX2_readGround 40 = .ok (.imul, 1) := by decide +kernel
theorem dX2_readGround_41 : decode cX2_readGround 41 = .ok (.bipush 24, 2) := by decide +kernel
theorem dX2_readGround_43 : decode cX2_readGround 43 = .ok (.if_icmp .le 7, 3) := by decide +kernel
theorem dX2_readGround_46 : decode cX2_readGround 46 = .ok (.iconst 1, 1) := by decide +kernel
theorem dX2_readGround_47 : decode cX2_readGround 47 = .ok (.goto 4, 3) := by decide +kernel
theorem dX2_readGround_50 : decode cX2_readGround 50 = .ok (.iconst 0, 1) := by decide +kernel
theorem dX2_readGround_51 : decode cX2_readGround 51 = .ok (.iconst 2, 1) := by decide +kernel
theorem dX2_readGround_52 : decode cX2_readGround 52 = .ok (.aload_n 0, 1) := by decide +kernel
theorem dX2_readGround_53 : decode cX2_readGround 53 = .ok (.getfield 87, 3) := by decide +kernel
theorem dX2_readGround_56 : decode cX2_readGround 56 = .ok (.invokevirtual 58, 3) := by decide +kernel
theorem dX2_readGround_59 : decode cX2_readGround 59 = .ok (.aload_n 0, 1) := by decide +kernel
theorem dX2_readGround_60 : decode cX2_readGround 60 = .ok (.iconst 0, 1) := by decide +kernel
theorem dX2_readGround_61 : decode cX2_readGround 61 = .ok (.bipush 99, 2) := by decide +kernel
theorem dX2_readGround_63 : decode cX2_readGround 63 = .ok (.invokevirtual 84, 3) := by decide +kernel
theorem dX2_readGround_66 : decode cX2_readGround 66 = .ok (.istore 4, 2) := by decide +kernel
theorem dX2_readGround_68 : decode cX2_readGround 68 = .ok (.aload_n 0, 1) := by decide +kernel
theorem dX2_readGround_69 : decode cX2_readGround 69 = .ok (.iconst 0, 1) := by decide +kernel
theorem dX2_readGround_70 : decode cX2_readGround 70 = .ok (.bipush 9, 2) := by decide +kernel
theorem dX2_readGround_72 : decode cX2_readGround 72 = .ok (.invokevirtual 84, 3) := by decide +kernel
theorem dX2_readGround_75 : decode cX2_readGround 75 = .ok (.istore 5, 2) := by decide +kernel
theorem dX2_readGround_77 : decode cX2_readGround 77 = .ok (.aload_n 0, 1) := by decide +kernel
theorem dX2_readGround_78 : decode cX2_readGround 78 = .ok (.bipush 59, 2) := by decide +kernel
theorem dX2_readGround_80 : decode cX2_readGround 80 = .ok (.invokevirtual 90, 3) := by decide +kernel
theorem dX2_readGround_83 : decode cX2_readGround 83 = .ok (.aload_n 0, 1) := by decide +kernel
theorem dX2_readGround_84 : decode cX2_readGround 84 = .ok (.getfield 37, 3) := by decide +kernel
theorem dX2_readGround_87 : decode cX2_readGround 87 = .ok (.ifCond .eq 4, 3) := by decide +kernel
theorem dX2_readGround_90 : decode cX2_readGround 90 = .ok (.return_, 1) := by decide +kernel
theorem dX2_readGround_91 : decode cX2_readGround 91 = .ok (.aload_n 0, 1) := by decide +kernel
theorem dX2_readGround_92 : decode cX2_readGround 92 = .ok (.getfield 28, 3) := by decide +kernel
theorem dX2_readGround_95 : decode cX2_readGround 95 = .ok (.iload_n 2, 1) := by decide +kernel
theorem dX2_readGround_96 : decode cX2_readGround 96 = .ok (.putfield 93, 3) := by decide +kernel
theorem dX2_readGround_99 : decode cX2_readGround 99 = .ok (.aload_n 0, 1) := by decide +kernel
theorem dX2_readGround_100 : decode cX2_readGround 100 = .ok (.getfield 28, 3) := by decide +kernel
theorem dX2_readGround_103 : decode cX2_readGround 103 = .ok (.iload_n 3, 1) := by decide +kernel
theorem dX2_readGround_104 : decode cX2_readGround 104 = .ok (.putfield 96, 3) := by decide +kernel
theorem dX2_readGround_107 : decode cX2_readGround 107 = .ok (.aload_n 0, 1) := by decide +kernel
theorem dX2_readGround_108 : decode cX2_readGround 108 = .ok (.getfield 28, 3) := by decide +kernel
theorem dX2_readGround_111 : decode cX2_readGround 111 = .ok (.iload_n 2, 1) := by decide +kernel
theorem dX2_readGround_112 : decode cX2_readGround 112 = .ok (.iload_n 3, 1) := by decide +kernel
theorem dX2_readGround_113 : decode cX2_readGround 113 = .ok (.imul, 1) := by decide +kernel
theorem dX2_readGround_114 : decode cX2_readGround 114 = .ok (.putfield 55, 3) := by decide +kernel
theorem dX2_readGround_117 : decode cX2_readGround 117 = .ok (.iconst 0, 1) := by decide +kernel
theorem dX2_readGround_118 : decode cX2_readGround 118 = .ok (.istore 6, 2) := by decide +kernel
theorem dX2_readGround_120 : decode cX2_readGround 120 = .ok (.iload 6, 2) := by decide +kernel
theorem dX2_readGround_122 : decode cX2_readGround 122 = .ok (.aload_n 0, 1) := by decide +kernel
theorem dX2_readGround_123 : decode cX2_readGround 123 = .ok (.getfield 28, 3) := by decide +kernel
theorem dX2_readGround_126 : decode cX2_readGround 126 = .ok (.getfield 55, 3) := by decide +kernel
theorem dX2_readGround_129 : decode cX2_readGround 129 = .ok (.if_icmp .ge 33, 3) := by decide +kernel
theorem dX2_readGround_132 : decode cX2_readGround 132 = .ok (.aload_n 0, 1) := by decide +kernel
theorem dX2_readGround_133 : decode cX2_readGround 133 = .ok (.getfield 28, 3) := by decide +kernel
theorem dX2_readGround_136 : decode cX2_readGround 136 = .ok (.getfield 99, 3) := by decide +kernel
theorem dX2_readGround_139 : decode cX2_readGround 139 = .ok (.iload 6, 2) := by decide +kernel
theorem dX2_readGround_141 : decode cX2_readGround 141 = .ok (.iload 4, 2) := by decide +kernel
theorem dX2_readGround_143 : decode cX2_readGround 143 = .ok (.iastore, 1) := by decide +kernel
theorem dX2_readGround_144 : decode cX2_readGround 144 = .ok (.aload_n 0, 1) := by decide +kernel
theorem dX2_readGround_145 : decode cX2_readGround 145 = .ok (.getfield 28, 3) := by decide +kernel
theorem dX2_readGround_148 : decode cX2_readGround 148 = .ok (.getfield 102, 3) := by decide +kernel
theorem dX2_readGround_151 : decode cX2_readGround 151 = .ok (.iload 6, 2) := by decide +kernel
theorem dX2_readGround_153 : decode cX2_readGround 153 = .ok (.iload 5, 2) := by decide +kernel
theorem dX2_readGround_155 : decode cX2_readGround 155 = .ok (.iastore, 1) := by decide +kernel
theorem dX2_readGround_156 : decode cX2_readGround 156 = .ok (.iinc 6 1, 3) := by decide +kernel
theorem dX2_readGround_159 : decode cX2_readGround 159 = .ok (.goto (-39), 3) := by decide +kernel
theorem dX2_readGround_162 : decode cX2_readGround 162 = .ok (.return_, 1) := by decide +kernel
theorem dX2_readCell_0 : decode cX2_readCell 0 = .ok (.aload_n 0, 1) := by decide +kernel
theorem dX2_readCell_1 : decode cX2_readCell 1 = .ok (.aload_n 0, 1) := by decide +kernel
theorem dX2_readCell_2 : decode cX2_readCell 2 = .ok (.getfield 46, 3) := by decide +kernel
theorem dX2_readCell_5 : decode cX2_readCell 5 = .ok (.bipush 12, 2) := by decide +kernel
theorem dX2_readCell_7 : decode cX2_readCell 7 = .ok (.if_icmp .lt 7, 3) := by decide +kernel
theorem dX2_readCell_10 : decode cX2_readCell 10 = .ok (.iconst 1, 1) := by decide +kernel
theorem dX2_readCell_11 : decode cX2_readCell 11 = .ok (.goto 4, 3) := by decide +kernel
theorem dX2_readCell_14 : decode cX2_readCell 14 = .ok (.iconst 0, 1) := by decide +kernel
theorem dX2_readCell_15 : decode cX2_readCell 15 = .ok (.iconst 3, 1) := by decide +kernel
theorem dX2_readCell_16 : decode cX2_readCell 16 = .ok (.iload_n 1, 1) := by decide +kernel
theorem dX2_readCell_17 : decode cX2_readCell 17 = .ok (.invokevirtual 58, 3) := by decide +kernel
theorem dX2_readCell_20 : decode cX2_readCell 20 = .ok (.aload_n 0, 1) := by decide +kernel
theorem dX2_readCell_21 : decode cX2_readCell 21 = .ok (.invokevirtual 105, 3) := by decide +kernel
theorem dX2_readCell_24 : decode cX2_readCell 24 = .ok (.istore_n 2, 1) := by decide +kernel
theorem dX2_readCell_25 : decode cX2_readCell 25 = .ok (.aload_n 0, 1) := by decide +kernel
theorem dX2_readCell_26 : decode cX2_readCell 26 = .ok (.aload_n 0, 1) := by decide +kernel
theorem dX2_readCell_27 : decode cX2_readCell 27 = .ok (.getfield 43, 3) := by decide +kernel
theorem dX2_readCell_30 : decode cX2_readCell 30 = .ok (.iload_n 2, 1) := by decide +kernel
theorem dX2_readCell_31 : decode cX2_readCell 31 = .ok (.ishr, 1) := by decide +kernel
theorem dX2_readCell_32 : decode cX2_readCell 32 = .ok (.iconst 1, 1) := by decide +kernel
theorem dX2_readCell_33 : decode cX2_readCell 33 = .ok (.iand, 1) := by decide +kernel
theorem dX2_readCell_34 : decode cX2_readCell 34 = .ok (.ifCond .eq 7, 3) := by decide +kernel
theorem dX2_readCell_37 : decode cX2_readCell 37 = .ok (.iconst 1, 1) := by decide +kernel
theorem dX2_readCell_38 : decode cX2_readCell 38 = .ok (.goto 4, 3) := by decide +kernel
theorem dX2_readCell_41 : decode cX2_readCell 41 = .ok (.iconst 0, 1) := by decide +kernel
theorem dX2_readCell_42 : decode cX2_readCell 42 = .ok (.iconst 4, 1) := by decide +kernel
theorem dX2_readCell_43 : decode cX2_readCell 43 = .ok (.aload_n 0, 1) := by decide +kernel
theorem dX2_readCell_44 : decode cX2_readCell 44 = .ok (.getfield 87, 3) := by decide +kernel
theorem dX2_readCell_47 : decode cX2_readCell 47 = .ok (.invokevirtual 58, 3) := by decide +kernel
theorem dX2_readCell_50 : decode cX2_readCell 50 = .ok (.aload_n 0, 1) := by decide +kernel
theorem dX2_readCell_51 : decode cX2_readCell 51 = .ok (.iconst 0, 1) := by decide +kernel
theorem dX2_readCell_52 : decode cX2_readCell 52 = .ok (.bipush 99, 2) := by decide +kernel
theorem dX2_readCell_54 : decode cX2_readCell 54 = .ok (.invokevirtual 84, 3) := by decide +kernel
theorem dX2_readCell_57 : decode cX2_readCell 57 = .ok (.istore_n 3, 1) := by decide +kernel
theorem dX2_readCell_58 : decode cX2_readCell 58 = .ok (.aload_n 0, 1) := by decide +kernel
theorem dX2_readCell_59 : decode cX2_readCell 59 = .ok (.iconst 0, 1) := by decide +kernel
theorem dX2_readCell_60 : decode cX2_readCell 60 = .ok (.bipush 9, 2) := by decide +kernel
theorem dX2_readCell_62 : decode cX2_readCell 62 = .ok (.invokevirtual 84, 3) := by decide +kernel
theorem dX2_readCell_65 : decode cX2_readCell 65 = .ok (.istore 4, 2) := by decide +kernel
theorem dX2_readCell_67 : decode cX2_readCell 67 = .ok (.aload_n 0, 1) := by decide +kernel
theorem dX2_readCell_68 : decode cX2_readCell 68 = .ok (.bipush 59, 2) := by decide +kernel
theorem dX2_readCell_70 : decode cX2_readCell 70 = .ok (.invokevirtual 90, 3) := by decide +kernel
theorem dX2_readCell_73 : decode cX2_readCell 73 = .ok (.aload_n 0, 1) := by decide +kernel
theorem dX2_readCell_74 : decode cX2_readCell 74 = .ok (.getfield 37, 3) := by decide +kernel
theorem dX2_readCell_77 : decode cX2_readCell 77 = .ok (.ifCond .ne 46, 3) := by decide +kernel
theorem dX2_readCell_80 : decode cX2_readCell 80 = .ok (.aload_n 0, 1) := by decide +kernel
theorem dX2_readCell_81 : decode cX2_readCell 81 = .ok (.getfield 28, 3) := by decide +kernel
theorem dX2_readCell_84 : decode cX2_readCell 84 = .ok (.getfield 99, 3) := by decide +kernel
theorem dX2_readCell_87 : decode cX2_readCell 87 = .ok (.iload_n 2, 1) := by decide +kernel
theorem dX2_readCell_88 : decode cX2_readCell 88 = .ok (.iload_n 3, 1) := by decide +kernel
theorem dX2_readCell_89 : decode cX2_readCell 89 = .ok (.iastore, 1) := by decide +kernel
theorem dX2_readCell_90 : decode cX2_readCell 90 = .ok (.aload_n 0, 1) := by decide +kernel
theorem dX2_readCell_91 : decode cX2_readCell 91 = .ok (.getfield 28, 3) := by decide +kernel
theorem dX2_readCell_94 : decode cX2_readCell 94 = .ok (.getfield 102, 3) := by decide +kernel
theorem dX2_readCell_97 : decode cX2_readCell 97 = .ok (.iload_n 2, 1) := by decide +kernel
theorem dX2_readCell_98 : decode cX2_readCell 98 = .ok (.iload 4, 2) := by decide +kernel
theorem dX2_readCell_100 : decode cX2_readCell 100 = .ok (.iastore, 1) := by decide +kernel
theorem dX2_readCell_101 : decode cX2_readCell 101 = .ok (.aload_n 0, 1) := by decide +kernel
theorem dX2_readCell_102 : decode cX2_readCell 102 = .ok (.dup, 1) := by decide +kernel
theorem dX2_readCell_103 : decode cX2_readCell 103 = .ok (.getfield 43, 3) := by decide +kernel
theorem dX2_readCell_106 : decode cX2_readCell 106 = .ok (.iconst 1, 1) := by decide +kernel
theorem dX2_readCell_107 : decode cX2_readCell 107 = .ok (.iload_n 2, 1) := by decide +kernel
theorem dX2_readCell_108 : decode cX2_readCell 108 = .ok (.ishl, 1) := by decide +kernel
theorem dX2_readCell_109 : decode cX2_readCell 109 = .ok (.ior, 1) := by decide +kernel
theorem dX2_readCell_110 : decode cX2_readCell 110 = .ok (.putfield 43, 3) := by decide +kernel
theorem dX2_readCell_113 : decode cX2_readCell 113 = .ok (.aload_n 0, 1) := by decide +kernel
theorem dX2_readCell_114 : decode cX2_readCell 114 = .ok (.dup, 1) := by decide +kernel
theorem dX2_readCell_115 : decode cX2_readCell 115 = .ok (.getfield 46, 3) := by decide +kernel
theorem dX2_readCell_118 : decode cX2_readCell 118 = .ok (.iconst 1, 1) := by decide +kernel
theorem dX2_readCell_119 : decode cX2_readCell 119 = .ok (.iadd, 1) := by decide +kernel
theorem dX2_readCell_120 : decode cX2_readCell 120 = .ok (.putfield 46, 3) := by decide +kernel
theorem dX2_readCell_123 : decode cX2_readCell 123 = .ok (.return_, 1) := by decide +kernel
theorem dX2_readMoon_0 : decode cX2_readMoon 0 = .ok (.aload_n 0, 1) := by decide +kernel
theorem dX2_readMoon_1 : decode cX2_readMoon 1 = .ok (.aload_n 0, 1) := by decide +kernel
theorem dX2_readMoon_2 : decode cX2_readMoon 2 = .ok (.getfield 28, 3) := by decide +kernel
theorem dX2_readMoon_5 : decode cX2_readMoon 5 = .ok (.getfield 109, 3) := by decide +kernel
theorem dX2_readMoon_8 : decode cX2_readMoon 8 = .ok (.iconst 3, 1) := by decide +kernel
theorem dX2_readMoon_9 : decode cX2_readMoon 9 = .ok (.if_icmp .lt 7, 3) := by decide +kernel
theorem dX2_readMoon_12 : decode cX2_readMoon 12 = .ok (.iconst 1, 1) := by decide +kernel
theorem dX2_readMoon_13 : decode cX2_readMoon 13 = .ok (.goto 4, 3) := by decide +kernel
theorem dX2_readMoon_16 : decode cX2_readMoon 16 = .ok (.iconst 0, 1) := by decide +kernel
theorem dX2_readMoon_17 : decode cX2_readMoon 17 = .ok (.iconst 3, 1) := by decide +kernel
theorem dX2_readMoon_18 : decode cX2_readMoon 18 = .ok (.iload_n 1, 1) := by decide +kernel
theorem dX2_readMoon_19 : decode cX2_readMoon 19 = .ok (.invokevirtual 58, 3) := by decide +kernel
theorem dX2_readMoon_22 : decode cX2_readMoon 22 = .ok (.aload_n 0, 1) := by decide +kernel
theorem dX2_readMoon_23 : decode cX2_readMoon 23 = .ok (.getfield 37, 3) := by decide +kernel
theorem dX2_readMoon_26 : decode cX2_readMoon 26 = .ok (.ifCond .eq 4, 3) := by decide +kernel
theorem dX2_readMoon_29 : decode cX2_readMoon 29 = .ok (.return_, 1) := by decide +kernel
theorem dX2_readMoon_30 : decode cX2_readMoon 30 = .ok (.aload_n 0, 1) := by decide +kernel
theorem dX2_readMoon_31 : decode cX2_readMoon 31 = .ok (.getfield 28, 3) := by decide +kernel
theorem dX2_readMoon_34 : decode cX2_readMoon 34 = .ok (.getfield 112, 3) := by decide +kernel
theorem dX2_readMoon_37 : decode cX2_readMoon 37 = .ok (.aload_n 0, 1) := by decide +kernel
theorem dX2_readMoon_38 : decode cX2_readMoon 38 = .ok (.getfield 28, 3) := by decide +kernel
theorem dX2_readMoon_41 : decode cX2_readMoon 41 = .ok (.getfield 109, 3) := by decide +kernel
theorem dX2_readMoon_44 : decode cX2_readMoon 44 = .ok (.aaload, 1) := by decide +kernel
theorem dX2_readMoon_45 : decode cX2_readMoon 45 = .ok (.astore_n 2, 1) := by decide +kernel
theorem dX2_readMoon_46 : decode cX2_readMoon 46 = .ok (.aload_n 2, 1) := by decide +kernel
theorem dX2_readMoon_47 : decode cX2_readMoon 47 = .ok (.aload_n 0, 1) := by decide +kernel
theorem dX2_readMoon_48 : decode cX2_readMoon 48 = .ok (.iconst 0, 1) := by decide +kernel
theorem dX2_readMoon_49 : decode cX2_readMoon 49 = .ok (.bipush 8, 2) := by decide +kernel
theorem dX2_readMoon_51 : decode cX2_readMoon 51 = .ok (.invokevirtual 84, 3) := by decide +kernel
theorem dX2_readMoon_54 : decode cX2_readMoon 54 = .ok (.putfield 116, 3) := by decide +kernel
theorem dX2_readMoon_57 : decode cX2_readMoon 57 = .ok (.aload_n 2, 1) := by decide +kernel
theorem dX2_readMoon_58 : decode cX2_readMoon 58 = .ok (.aload_n 0, 1) := by decide +kernel
theorem dX2_readMoon_59 : decode cX2_readMoon 59 = .ok (.iconst 0, 1) := by decide +kernel
theorem dX2_readMoon_60 : decode cX2_readMoon 60 = .ok (.bipush 8, 2) := by decide +kernel
theorem dX2_readMoon_62 : decode cX2_readMoon 62 = .ok (.invokevirtual 84, 3) := by decide +kernel
theorem dX2_readMoon_65 : decode cX2_readMoon 65 = .ok (.putfield 121, 3) := by decide +kernel
theorem dX2_readMoon_68 : decode cX2_readMoon 68 = .ok (.aload_n 0, 1) := by decide +kernel
theorem dX2_readMoon_69 : decode cX2_readMoon 69 = .ok (.aload_n 2, 1) := by decide +kernel
theorem dX2_readMoon_70 : decode cX2_readMoon 70 = .ok (.getfield 124, 3) := by decide +kernel
theorem dX2_readMoon_73 : decode cX2_readMoon 73 = .ok (.invokevirtual 127, 3) := by decide +kernel
theorem dX2_readMoon_76 : decode cX2_readMoon 76 = .ok (.istore_n 3, 1) := by decide +kernel
theorem dX2_readMoon_77 : decode cX2_readMoon 77 = .ok (.aload_n 0, 1) := by decide +kernel
theorem dX2_readMoon_78 : decode cX2_readMoon 78 = .ok (.bipush 59, 2) := by decide +kernel
theorem dX2_readMoon_80 : decode cX2_readMoon 80 = .ok (.invokevirtual 90, 3) := by decide +kernel
theorem dX2_readMoon_83 : decode cX2_readMoon 83 = .ok (.aload_n 0, 1) := by decide +kernel
theorem dX2_readMoon_84 : decode cX2_readMoon 84 = .ok (.getfield 37, 3) := by decide +kernel
theorem dX2_readMoon_87 : decode cX2_readMoon 87 = .ok (.ifCond .ne 35, 3) := by decide +kernel
theorem dX2_readMoon_90 : decode cX2_readMoon 90 = .ok (.aload_n 2, 1) := by decide +kernel
theorem dX2_readMoon_91 : decode cX2_readMoon 91 = .ok (.iload_n 3, 1) := by decide +kernel
theorem dX2_readMoon_92 : decode cX2_readMoon 92 = .ok (.aload_n 0, 1) := by decide +kernel
theorem dX2_readMoon_93 : decode cX2_readMoon 93 = .ok (.getfield 28, 3) := by decide +kernel
theorem dX2_readMoon_96 : decode cX2_readMoon 96 = .ok (.getfield 93, 3) := by decide +kernel
theorem dX2_readMoon_99 : decode cX2_readMoon 99 = .ok (.aload_n 0, 1) := by decide +kernel
theorem dX2_readMoon_100 : decode cX2_readMoon 100 = .ok (.getfield 28, 3) := by decide +kernel
theorem dX2_readMoon_103 : decode cX2_readMoon 103 = .ok (.getfield 55, 3) := by decide +kernel
theorem dX2_readMoon_106 : decode cX2_readMoon 106 = .ok (.invokevirtual 131, 3) := by decide +kernel
theorem dX2_readMoon_109 : decode cX2_readMoon 109 = .ok (.aload_n 0, 1) := by decide +kernel
theorem dX2_readMoon_110 : decode cX2_readMoon 110 = .ok (.getfield 28, 3) := by decide +kernel
theorem dX2_readMoon_113 : decode cX2_readMoon 113 = .ok (.dup, 1) := by decide +kernel
theorem dX2_readMoon_114 : decode cX2_readMoon 114 = .ok (.getfield 109, 3) := by decide +kernel
theorem dX2_readMoon_117 : decode cX2_readMoon 117 = .ok (.iconst 1, 1) := by decide +kernel
theorem dX2_readMoon_118 : decode cX2_readMoon 118 = .ok (.iadd, 1) := by decide +kernel
theorem dX2_readMoon_119 : decode cX2_readMoon 119 = .ok (.putfield 109, 3) := by decide +kernel
theorem dX2_readMoon_122 : decode cX2_readMoon 122 = .ok (.return_, 1) := by decide +kernel
theorem dX2_readRow_0 : decode cX2_readRow 0 = .ok (.iconst 0, 1) := by decide +kernel
theorem dX2_readRow_1 : decode cX2_readRow 1 = .ok (.istore_n 2, 1) := by decide +kernel
theorem dX2_readRow_2 : decode cX2_readRow 2 = .ok (.iload_n 2, 1) := by decide +kernel
theorem dX2_readRow_3 : decode cX2_readRow 3 = .ok (.bipush 9, 2) := by decide +kernel
theorem dX2_readRow_5 : decode cX2_readRow 5 = .ok (.if_icmp .ge 77, 3) := by decide +kernel
theorem dX2_readRow_8 : decode cX2_readRow 8 = .ok (.aload_n 0, 1) := by decide +kernel
theorem dX2_readRow_9 : decode cX2_readRow 9 = .ok (.getfield 37, 3) := by decide +kernel
theorem dX2_readRow_12 : decode cX2_readRow 12 = .ok (.ifCond .ne 70, 3) := by decide +kernel
theorem dX2_readRow_15 : decode cX2_readRow 15 = .ok (.aload_n 1, 1) := by decide +kernel
theorem dX2_readRow_16 : decode cX2_readRow 16 = .ok (.iload_n 2, 1) := by decide +kernel
theorem dX2_readRow_17 : decode cX2_readRow 17 = .ok (.aload_n 0, 1) := by decide +kernel
theorem dX2_readRow_18 : decode cX2_readRow 18 = .ok (.iconst 0, 1) := by decide +kernel
theorem dX2_readRow_19 : decode cX2_readRow 19 = .ok (.bipush 18, 2) := by decide +kernel
theorem dX2_readRow_21 : decode cX2_readRow 21 = .ok (.invokevirtual 84, 3) := by decide +kernel
theorem dX2_readRow_24 : decode cX2_readRow 24 = .ok (.bipush 9, 2) := by decide +kernel
theorem dX2_readRow_26 : decode cX2_readRow 26 = .ok (.isub, 1) := by decide +kernel
theorem dX2_readRow_27 : decode cX2_readRow 27 = .ok (.iastore, 1) := by decide +kernel
theorem dX2_readRow_28 : decode cX2_readRow 28 = .ok (.iinc 2 1, 3) := by decide +kernel
theorem dX2_readRow_31 : decode cX2_readRow 31 = .ok (.aload_n 0, 1) := by decide +kernel
theorem dX2_readRow_32 : decode cX2_readRow 32 = .ok (.invokevirtual 49, 3) := by decide +kernel
theorem dX2_readRow_35 : decode cX2_readRow 35 = .ok (.iload_n 2, 1) := by decide +kernel
theorem dX2_readRow_36 : decode cX2_readRow 36 = .ok (.bipush 9, 2) := by decide +kernel
theorem dX2_readRow_38 : decode cX2_readRow 38 = .ok (.if_icmp .eq 44, 3) := by decide +kernel
theorem dX2_readRow_41 : decode cX2_readRow 41 = .ok (.aload_n 0, 1) := by decide +kernel
theorem dX2_readRow_42 : decode cX2_readRow 42 = .ok (.getfield 25, 3) := by decide +kernel
theorem dX2_readRow_45 : decode cX2_readRow 45 = .ok (.aload_n 0, 1) := by decide +kernel
theorem dX2_readRow_46 : decode cX2_readRow 46 = .ok (.getfield 21, 3) := by decide +kernel
theorem dX2_readRow_49 : decode cX2_readRow 49 = .ok (.if_icmp .ge 33, 3) := by decide +kernel
theorem dX2_readRow_52 : decode cX2_readRow 52 = .ok (.aload_n 0, 1) := by decide +kernel
theorem dX2_readRow_53 : decode cX2_readRow 53 = .ok (.getfield 9, 3) := by decide +kernel
theorem dX2_readRow_56 : decode cX2_readRow 56 = .ok (.aload_n 0, 1) := by decide +kernel
theorem dX2_readRow_57 : decode cX2_readRow 57 = .ok (.getfield 25, 3) := by decide +kernel
theorem dX2_readRow_60 : decode cX2_readRow 60 = .ok (.iaload, 1) := by decide +kernel
theorem dX2_readRow_61 : decode cX2_readRow 61 = .ok (.bipush 44, 2) := by decide +kernel
theorem dX2_readRow_63 : decode cX2_readRow 63 = .ok (.if_icmp .eq 6, 3) := by decide +kernel
theorem dX2_readRow_66 : decode cX2_readRow 66 = .ok (.goto 16, 3) := by decide +kernel
theorem dX2_readRow_69 : decode cX2_readRow 69 = .ok (.aload_n 0, 1) := by decide +kernel
theorem dX2_readRow_70 : decode cX2_readRow 70 = .ok (.dup, 1) := by decide +kernel
theorem dX2_readRow_71 : decode cX2_readRow 71 = .ok (.getfield 25, 3) := by decide +kernel
theorem dX2_readRow_74 : decode cX2_readRow 74 = .ok (.iconst 1, 1) := by decide +kernel
theorem dX2_readRow_75 : decode cX2_readRow 75 = .ok (.iadd, 1) := by decide +kernel
theorem dX2_readRow_76 : decode cX2_readRow 76 = .ok (.putfield 25, 3) := by decide +kernel
theorem dX2_readRow_79 : decode cX2_readRow 79 = .ok (.goto (-77), 3) := by decide +kernel
theorem dX2_readRow_82 : decode cX2_readRow 82 = .ok (.aload_n 0, 1) := by decide +kernel
theorem dX2_readRow_83 : decode cX2_readRow 83 = .ok (.iload_n 2, 1) := by decide +kernel
theorem dX2_readRow_84 : decode cX2_readRow 84 = .ok (.iconst 2, 1) := by decide +kernel
theorem dX2_readRow_85 : decode cX2_readRow 85 = .ok (.if_icmp .ge 7, 3) := by decide +kernel
theorem dX2_readRow_88 : decode cX2_readRow 88 = .ok (.iconst 1, 1) := by decide +kernel
theorem dX2_readRow_89 : decode cX2_readRow 89 = .ok (.goto 4, 3) := by decide +kernel
theorem dX2_readRow_92 : decode cX2_readRow 92 = .ok (.iconst 0, 1) := by decide +kernel
theorem dX2_readRow_93 : decode cX2_readRow 93 = .ok (.iconst 1, 1) := by decide +kernel
theorem dX2_readRow_94 : decode cX2_readRow 94 = .ok (.aload_n 0, 1) := by decide +kernel
theorem dX2_readRow_95 : decode cX2_readRow 95 = .ok (.getfield 25, 3) := by decide +kernel
theorem dX2_readRow_98 : decode cX2_readRow 98 = .ok (.invokevirtual 58, 3) := by decide +kernel
theorem dX2_readRow_101 : decode cX2_readRow 101 = .ok (.iload_n 2, 1) := by decide +kernel
theorem dX2_readRow_102 : decode cX2_readRow 102 = .ok (.ireturn, 1) := by decide +kernel
theorem dX2_readHouse_0 : decode cX2_readHouse 0 = .ok (.aload_n 0, 1) := by decide +kernel
theorem dX2_readHouse_1 : decode cX2_readHouse 1 = .ok (.aload_n 0, 1) := by decide +kernel
theorem dX2_readHouse_2 : decode cX2_readHouse 2 = .ok (.getfield 28, 3) := by decide +kernel
theorem dX2_readHouse_5 : decode cX2_readHouse 5 = .ok (.getfield 135, 3) := by decide +kernel
theorem dX2_readHouse_8 : decode cX2_readHouse 8 = .ok (.getfield 139, 3) := by decide +kernel
theorem dX2_readHouse_11 : decode cX2_readHouse 11 = .ok (.bipush 6, 2) := by decide +kernel
theorem dX2_readHouse_13 : decode cX2_readHouse 13 = .ok (.if_icmp .lt 7, 3) := by decide +kernel
theorem dX2_readHouse_16 : decode cX2_readHouse 16 = .ok (.iconst 1, 1) := by decide +kernel
theorem dX2_readHouse_17 : decode cX2_readHouse 17 = .ok (.goto 4, 3) := by decide +kernel
theorem dX2_readHouse_20 : decode cX2_readHouse 20 = .ok (.iconst 0, 1) := by decide +kernel
theorem dX2_readHouse_21 : decode cX2_readHouse 21 = .ok (.iconst 3, 1) := by decide +kernel
theorem dX2_readHouse_22 : decode cX2_readHouse 22 = .ok (.iload_n 1, 1) := by decide +kernel
theorem dX2_readHouse_23 : decode cX2_readHouse 23 = .ok (.invokevirtual 58, 3) := by decide +kernel
theorem dX2_readHouse_26 : decode cX2_readHouse 26 = .ok (.aload_n 0, 1) := by decide +kernel
theorem dX2_readHouse_27 : decode cX2_readHouse 27 = .ok (.invokevirtual 105, 3) := by decide +kernel
theorem dX2_readHouse_30 : decode cX2_readHouse 30 = .ok (.istore_n 2, 1) := by decide +kernel
theorem dX2_readHouse_31 : decode cX2_readHouse 31 = .ok (.aload_n 0, 1) := by decide +kernel
theorem dX2_readHouse_32 : decode cX2_readHouse 32 = .ok (.aload_n 0, 1) := by decide +kernel
theorem dX2_readHouse_33 : decode cX2_readHouse 33 = .ok (.getfield 28, 3) := by decide +kernel
theorem dX2_readHouse_36 : decode cX2_readHouse 36 = .ok (.getfield 135, 3) := by decide +kernel
theorem dX2_readHouse_39 : decode cX2_readHouse 39 = .ok (.iload_n 2, 1) := by decide +kernel
theorem dX2_readHouse_40 : decode cX2_readHouse 40 = .ok (.invokevirtual 144, 3) := by decide +kernel
theorem dX2_readHouse_43 : decode cX2_readHouse 43 = .ok (.iconst 4, 1) := by decide +kernel
theorem dX2_readHouse_44 : decode cX2_readHouse 44 = .ok (.aload_n 0, 1) := by decide +kernel
theorem dX2_readHouse_45 : decode cX2_readHouse 45 = .ok (.getfield 87, 3) := by decide +kernel
theorem dX2_readHouse_48 : decode cX2_readHouse 48 = .ok (.invokevirtual 58, 3) := by decide +kernel
theorem dX2_readHouse_51 : decode cX2_readHouse 51 = .ok (.aload_n 0, 1) := by decide +kernel
theorem dX2_readHouse_52 : decode cX2_readHouse 52 = .ok (.iconst 0, 1) := by decide +kernel
theorem dX2_readHouse_53 : decode cX2_readHouse 53 = .ok (.bipush 99, 2) := by decide +kernel
theorem dX2_readHouse_55 : decode cX2_readHouse 55 = .ok (.invokevirtual 84, 3) := by decide +kernel
theorem dX2_readHouse_58 : decode cX2_readHouse 58 = .ok (.istore_n 3, 1) := by decide +kernel
theorem dX2_readHouse_59 : decode cX2_readHouse 59 = .ok (.aload_n 0, 1) := by decide +kernel
theorem dX2_readHouse_60 : decode cX2_readHouse 60 = .ok (.bipush 59, 2) := by decide +kernel
theorem dX2_readHouse_62 : decode cX2_readHouse 62 = .ok (.invokevirtual 90, 3) := by decide +kernel
theorem dX2_readHouse_65 : decode cX2_readHouse 65 = .ok (.aload_n 0, 1) := by decide +kernel
theorem dX2_readHouse_66 : decode cX2_readHouse 66 = .ok (.aload_n 0, 1) := by decide +kernel
theorem dX2_readHouse_67 : decode cX2_readHouse 67 = .ok (.getfield 28, 3) := by decide +kernel
theorem dX2_readHouse_70 : decode cX2_readHouse 70 = .ok (.getfield 135, 3) := by decide +kernel
theorem dX2_readHouse_73 : decode cX2_readHouse 73 = .ok (.iload_n 2, 1) := by decide +kernel
theorem dX2_readHouse_74 : decode cX2_readHouse 74 = .ok (.iload_n 3, 1) := by decide +kernel
theorem dX2_readHouse_75 : decode cX2_readHouse 75 = .ok (.iconst 0, 1) := by decide +kernel
theorem dX2_readHouse_76 : decode cX2_readHouse 76 = .ok (.invokevirtual 148, 3) := by decide +kernel
theorem dX2_readHouse_79 : decode cX2_readHouse 79 = .ok (.return_, 1) := by decide +kernel
theorem dX2_readCrack_0 : decode cX2_readCrack 0 = .ok (.aload_n 0, 1) := by decide +kernel
theorem dX2_readCrack_1 : decode cX2_readCrack 1 = .ok (.aload_n 0, 1) := by decide +kernel
theorem dX2_readCrack_2 : decode cX2_readCrack 2 = .ok (.getfield 28, 3) := by decide +kernel
theorem dX2_readCrack_5 : decode cX2_readCrack 5 = .ok (.getfield 152, 3) := by decide +kernel
theorem dX2_readCrack_8 : decode cX2_readCrack 8 = .ok (.getfield 139, 3) := by decide +kernel
theorem dX2_readCrack_11 : decode cX2_readCrack 11 = .ok (.bipush 6, 2) := by decide +kernel
theorem dX2_readCrack_13 : decode cX2_readCrack 13 = .ok (.if_icmp .lt 7, 3) := by decide +kernel
theorem dX2_readCrack_16 : decode cX2_readCrack 16 = .ok (.iconst 1, 1) := by decide +kernel
theorem dX2_readCrack_17 : decode cX2_readCrack 17 = .ok (.goto 4, 3) := by decide +kernel
theorem dX2_readCrack_20 : decode cX2_readCrack 20 = .ok (.iconst 0, 1) := by decide +kernel
theorem dX2_readCrack_21 : decode cX2_readCrack 21 = .ok (.iconst 3, 1) := by decide +kernel
theorem dX2_readCrack_22 : decode cX2_readCrack 22 = .ok (.iload_n 1, 1) := by decide +kernel
theorem dX2_readCrack_23 : decode cX2_readCrack 23 = .ok (.invokevirtual 58, 3) := by decide +kernel
theorem dX2_readCrack_26 : decode cX2_readCrack 26 = .ok (.aload_n 0, 1) := by decide +kernel
theorem dX2_readCrack_27 : decode cX2_readCrack 27 = .ok (.invokevirtual 105, 3) := by decide +kernel
theorem dX2_readCrack_30 : decode cX2_readCrack 30 = .ok (.istore_n 2, 1) := by decide +kernel
theorem dX2_readCrack_31 : decode cX2_readCrack 31 = .ok (.aload_n 0, 1) := by decide +kernel
theorem dX2_readCrack_32 : decode cX2_readCrack 32 = .ok (.iconst 0, 1) := by decide +kernel
theorem dX2_readCrack_33 : decode cX2_readCrack 33 = .ok (.iconst 1, 1) := by decide +kernel
theorem dX2_readCrack_34 : decode cX2_readCrack 34 = .ok (.invokevirtual 84, 3) := by decide +kernel
theorem dX2_readCrack_37 : decode cX2_readCrack 37 = .ok (.istore_n 3, 1) := by decide +kernel
theorem dX2_readCrack_38 : decode cX2_readCrack 38 = .ok (.aload_n 0, 1) := by decide +kernel
theorem dX2_readCrack_39 : decode cX2_readCrack 39 = .ok (.aload_n 0, 1) := by decide +kernel
theorem dX2_readCrack_40 : decode cX2_readCrack 40 = .ok (.getfield 28, 3) := by decide +kernel
theorem dX2_readCrack_43 : decode cX2_readCrack 43 = .ok (.iload_n 2, 1) := by decide +kernel
theorem dX2_readCrack_44 : decode cX2_readCrack 44 = .ok (.iload_n 3, 1) := by decide +kernel
theorem dX2_readCrack_45 : decode cX2_readCrack 45 = .ok (.ifCond .ne 7, 3) := by decide +kernel
theorem dX2_readCrack_48 : decode cX2_readCrack 48 = .ok (.iconst 2, 1) := by decide +kernel
theorem dX2_readCrack_49 : decode cX2_readCrack 49 = .ok (.goto 4, 3) := by decide +kernel
theorem dX2_readCrack_52 : decode cX2_readCrack 52 = .ok (.iconst 3, 1) := by decide +kernel
theorem dX2_readCrack_53 : decode cX2_readCrack 53 = .ok (.invokevirtual 155, 3) := by decide +kernel
theorem dX2_readCrack_56 : decode cX2_readCrack 56 = .ok (.iconst (-1), 1) := by decide +kernel
theorem dX2_readCrack_57 : decode cX2_readCrack 57 = .ok (.if_icmp .ne 7, 3) := by decide +kernel
theorem dX2_readCrack_60 : decode cX2_readCrack 60 = .ok (.iconst 1, 1) := by decide +kernel
theorem dX2_readCrack_61 : decode cX2_readCrack 61 = .ok (.goto 4, 3) := by decide +kernel
theorem dX2_readCrack_64 : decode cX2_readCrack 64 = .ok (.iconst 0, 1) := by decide +kernel
theorem dX2_readCrack_65 : decode cX2_readCrack 65 = .ok (.iconst 2, 1) := by decide +kernel
theorem dX2_readCrack_66 : decode cX2_readCrack 66 = .ok (.aload_n 0, 1) := by decide +kernel
theorem dX2_readCrack_67 : decode cX2_readCrack 67 = .ok (.getfield 87, 3) := by decide +kernel
theorem dX2_readCrack_70 : decode cX2_readCrack 70 = .ok (.invokevirtual 58, 3) := by decide +kernel
theorem dX2_readCrack_73 : decode cX2_readCrack 73 = .ok (.aload_n 0, 1) := by decide +kernel
theorem dX2_readCrack_74 : decode cX2_readCrack 74 = .ok (.aload_n 0, 1) := by decide +kernel
theorem dX2_readCrack_75 : decode cX2_readCrack 75 = .ok (.getfield 28, 3) := by decide +kernel
theorem dX2_readCrack_78 : decode cX2_readCrack 78 = .ok (.getfield 152, 3) := by decide +kernel
theorem dX2_readCrack_81 : decode cX2_readCrack 81 = .ok (.iload_n 2, 1) := by decide +kernel
theorem dX2_readCrack_82 : decode cX2_readCrack 82 = .ok (.iload_n 3, 1) := by decide +kernel
theorem dX2_readCrack_83 : decode cX2_readCrack 83 = .ok (.invokevirtual 158, 3) := by decide +kernel
theorem dX2_readCrack_86 : decode cX2_readCrack 86 = .ok (.iconst (-1), 1) := by decide +kernel
theorem dX2_readCrack_87 : decode cX2_readCrack 87 = .ok (.if_icmp .eq 7, 3) := by decide +kernel
theorem dX2_readCrack_90 : decode cX2_readCrack 90 = .ok (.iconst 1, 1) := by decide +kernel
theorem dX2_readCrack_91 : decode cX2_readCrack 91 = .ok (.goto 4, 3) := by decide +kernel
theorem dX2_readCrack_94 : decode cX2_readCrack 94 = .ok (.iconst 0, 1) := by decide +kernel
theorem dX2_readCrack_95 : decode cX2_readCrack 95 = .ok (.iconst 4, 1) := by decide +kernel
theorem dX2_readCrack_96 : decode cX2_readCrack 96 = .ok (.aload_n 0, 1) := by decide +kernel
theorem dX2_readCrack_97 : decode cX2_readCrack 97 = .ok (.getfield 87, 3) := by decide +kernel
theorem dX2_readCrack_100 : decode cX2_readCrack 100 = .ok (.invokevirtual 58, 3) := by decide +kernel
theorem dX2_readCrack_103 : decode cX2_readCrack 103 = .ok (.aload_n 0, 1) := by decide +kernel
theorem dX2_readCrack_104 : decode cX2_readCrack 104 = .ok (.iconst 0, 1) := by decide +kernel
theorem dX2_readCrack_105 : decode cX2_readCrack 105 = .ok (.bipush 60, 2) := by decide +kernel
theorem dX2_readCrack_107 : decode cX2_readCrack 107 = .ok (.invokevirtual 84, 3) := by decide +kernel
theorem dX2_readCrack_110 : decode cX2_readCrack 110 = .ok (.istore 4, 2) := by decide +kernel
theorem dX2_readCrack_112 : decode cX2_readCrack 112 = .ok (.aload_n 0, 1) := by decide +kernel
theorem dX2_readCrack_113 : decode cX2_readCrack 113 = .ok (.bipush 59, 2) := by decide +kernel
theorem dX2_readCrack_115 : decode cX2_readCrack 115 = .ok (.invokevirtual 90, 3) := by decide +kernel
theorem dX2_readCrack_118 : decode cX2_readCrack 118 = .ok (.aload_n 0, 1) := by decide +kernel
theorem dX2_readCrack_119 : decode cX2_readCrack 119 = .ok (.aload_n 0, 1) := by decide +kernel
theorem dX2_readCrack_120 : decode cX2_readCrack 120 = .ok (.getfield 28, 3) := by decide +kernel
theorem dX2_readCrack_123 : decode cX2_readCrack 123 = .ok (.getfield 152, 3) := by decide +kernel
theorem dX2_readCrack_126 : decode cX2_readCrack 126 = .ok (.iload_n 2, 1) := by decide +kernel
theorem dX2_readCrack_127 : decode cX2_readCrack 127 = .ok (.iload_n 3, 1) := by decide +kernel
theorem dX2_readCrack_128 : decode cX2_readCrack 128 = .ok (.iload 4, 2) := by decide +kernel
theorem dX2_readCrack_130 : decode cX2_readCrack 130 = .ok (.bipush 30, 2) := by decide +kernel
theorem dX2_readCrack_132 : decode cX2_readCrack 132 = .ok (.isub, 1) := by decide +kernel
theorem dX2_readCrack_133 : decode cX2_readCrack 133 = .ok (.invokevirtual 148, 3) := by decide +kernel
theorem dX2_readCrack_136 : decode cX2_readCrack 136 = .ok (.return_, 1) := by decide +kernel
theorem dX2_readWell_0 : decode cX2_readWell 0 = .ok (.aload_n 0, 1) := by decide +kernel
theorem dX2_readWell_1 : decode cX2_readWell 1 = .ok (.aload_n 0, 1) := by decide +kernel
theorem dX2_readWell_2 : decode cX2_readWell 2 = .ok (.getfield 28, 3) := by decide +kernel
theorem dX2_readWell_5 : decode cX2_readWell 5 = .ok (.getfield 161, 3) := by decide +kernel
theorem dX2_readWell_8 : decode cX2_readWell 8 = .ok (.getfield 139, 3) := by decide +kernel
theorem dX2_readWell_11 : decode cX2_readWell 11 = .ok (.iconst 5, 1) := by decide +kernel
theorem dX2_readWell_12 : decode cX2_readWell 12 = .ok (.if_icmp .lt 7, 3) := by decide +kernel
theorem dX2_readWell_15 : decode cX2_readWell 15 = .ok (.iconst 1, 1) := by decide +kernel
theorem dX2_readWell_16 : decode cX2_readWell 16 = .ok (.goto 4, 3) := by decide +kernel
theorem dX2_readWell_19 : decode cX2_readWell 19 = .ok (.iconst 0, 1) := by decide +kernel
theorem dX2_readWell_20 : decode cX2_readWell 20 = .ok (.iconst 3, 1) := by decide +kernel
theorem dX2_readWell_21 : decode cX2_readWell 21 = .ok (.iload_n 1, 1) := by decide +kernel
theorem dX2_readWell_22 : decode cX2_readWell 22 = .ok (.invokevirtual 58, 3) := by decide +kernel
theorem dX2_readWell_25 : decode cX2_readWell 25 = .ok (.aload_n 0, 1) := by decide +kernel
theorem dX2_readWell_26 : decode cX2_readWell 26 = .ok (.invokevirtual 105, 3) := by decide +kernel
theorem dX2_readWell_29 : decode cX2_readWell 29 = .ok (.istore_n 2, 1) := by decide +kernel
theorem dX2_readWell_30 : decode cX2_readWell 30 = .ok (.aload_n 0, 1) := by decide +kernel
theorem dX2_readWell_31 : decode cX2_readWell 31 = .ok (.aload_n 0, 1) := by decide +kernel
theorem dX2_readWell_32 : decode cX2_readWell 32 = .ok (.getfield 28, 3) := by decide +kernel
theorem dX2_readWell_35 : decode cX2_readWell 35 = .ok (.getfield 161, 3) := by decide +kernel
theorem dX2_readWell_38 : decode cX2_readWell 38 = .ok (.iload_n 2, 1) := by decide +kernel
theorem dX2_readWell_39 : decode cX2_readWell 39 = .ok (.invokevirtual 144, 3) := by decide +kernel
theorem dX2_readWell_42 : decode cX2_readWell 42 = .ok (.iconst 4, 1) := by decide +kernel
theorem dX2_readWell_43 : decode cX2_readWell 43 = .ok (.aload_n 0, 1) := by decide +kernel
theorem dX2_readWell_44 : decode cX2_readWell 44 = .ok (.getfield 87, 3) := by decide +kernel
theorem dX2_readWell_47 : decode cX2_readWell 47 = .ok (.invokevirtual 58, 3) := by decide +kernel
theorem dX2_readWell_50 : decode cX2_readWell 50 = .ok (.aload_n 0, 1) := by decide +kernel
theorem dX2_readWell_51 : decode cX2_readWell 51 = .ok (.iconst 0, 1) := by decide +kernel
theorem dX2_readWell_52 : decode cX2_readWell 52 = .ok (.bipush 99, 2) := by decide +kernel
theorem dX2_readWell_54 : decode cX2_readWell 54 = .ok (.invokevirtual 84, 3) := by decide +kernel
theorem dX2_readWell_57 : decode cX2_readWell 57 = .ok (.istore_n 3, 1) := by decide +kernel
theorem dX2_readWell_58 : decode cX2_readWell 58 = .ok (.aload_n 0, 1) := by decide +kernel
theorem dX2_readWell_59 : decode cX2_readWell 59 = .ok (.bipush 59, 2) := by decide +kernel
theorem dX2_readWell_61 : decode cX2_readWell 61 = .ok (.invokevirtual 90, 3) := by decide +kernel
theorem dX2_readWell_64 : decode cX2_readWell 64 = .ok (.aload_n 0, 1) := by decide +kernel
theorem dX2_readWell_65 : decode cX2_readWell 65 = .ok (.aload_n 0, 1) := by decide +kernel
theorem dX2_readWell_66 : decode cX2_readWell 66 = .ok (.getfield 28, 3) := by decide +kernel
theorem dX2_readWell_69 : decode cX2_readWell 69 = .ok (.getfield 161, 3) := by decide +kernel
theorem dX2_readWell_72 : decode cX2_readWell 72 = .ok (.iload_n 2, 1) := by decide +kernel
theorem dX2_readWell_73 : decode cX2_readWell 73 = .ok (.iload_n 3, 1) := by decide +kernel
theorem dX2_readWell_74 : decode cX2_readWell 74 = .ok (.iconst 0, 1) := by decide +kernel
theorem dX2_readWell_75 : decode cX2_readWell 75 = .ok (.invokevirtual 148, 3) := by decide +kernel
theorem dX2_readWell_78 : decode cX2_readWell 78 = .ok (.return_, 1) := by decide +kernel
theorem dX2_readDeed_0 : decode cX2_readDeed 0 = .ok (.aload_n 0, 1) := by decide +kernel
theorem dX2_readDeed_1 : decode cX2_readDeed 1 = .ok (.aload_n 0, 1) := by decide +kernel
theorem dX2_readDeed_2 : decode cX2_readDeed 2 = .ok (.getfield 28, 3) := by decide +kernel
theorem dX2_readDeed_5 : decode cX2_readDeed 5 = .ok (.getfield 164, 3) := by decide +kernel
theorem dX2_readDeed_8 : decode cX2_readDeed 8 = .ok (.getfield 139, 3) := by decide +kernel
theorem dX2_readDeed_11 : decode cX2_readDeed 11 = .ok (.iconst 4, 1) := by decide +kernel
theorem dX2_readDeed_12 : decode cX2_readDeed 12 = .ok (.if_icmp .lt 7, 3) := by decide +kernel
theorem dX2_readDeed_15 : decode cX2_readDeed 15 = .ok (.iconst 1, 1) := by decide +kernel
theorem dX2_readDeed_16 : decode cX2_readDeed 16 = .ok (.goto 4, 3) := by decide +kernel
theorem dX2_readDeed_19 : decode cX2_readDeed 19 = .ok (.iconst 0, 1) := by decide +kernel
theorem dX2_readDeed_20 : decode cX2_readDeed 20 = .ok (.iconst 3, 1) := by decide +kernel
theorem dX2_readDeed_21 : decode cX2_readDeed 21 = .ok (.iload_n 1, 1) := by decide +kernel
theorem dX2_readDeed_22 : decode cX2_readDeed 22 = .ok (.invokevirtual 58, 3) := by decide +kernel
theorem dX2_readDeed_25 : decode cX2_readDeed 25 = .ok (.aload_n 0, 1) := by decide +kernel
theorem dX2_readDeed_26 : decode cX2_readDeed 26 = .ok (.iconst 0, 1) := by decide +kernel
theorem dX2_readDeed_27 : decode cX2_readDeed 27 = .ok (.sipush 300, 3) := by decide +kernel
theorem dX2_readDeed_30 : decode cX2_readDeed 30 = .ok (.invokevirtual 84, 3) := by decide +kernel
theorem dX2_readDeed_33 : decode cX2_readDeed 33 = .ok (.istore_n 2, 1) := by decide +kernel
theorem dX2_readDeed_34 : decode cX2_readDeed 34 = .ok (.aload_n 0, 1) := by decide +kernel
theorem dX2_readDeed_35 : decode cX2_readDeed 35 = .ok (.iconst 0, 1) := by decide +kernel
theorem dX2_readDeed_36 : decode cX2_readDeed 36 = .ok (.sipush 300, 3) := by decide +kernel
theorem dX2_readDeed_39 : decode cX2_readDeed 39 = .ok (.invokevirtual 84, 3) := by decide +kernel
theorem dX2_readDeed_42 : decode cX2_readDeed 42 = .ok (.istore_n 3, 1) := by decide +kernel
theorem dX2_readDeed_43 : decode cX2_readDeed 43 = .ok (.aload_n 0, 1) := by decide +kernel
theorem dX2_readDeed_44 : decode cX2_readDeed 44 = .ok (.iload_n 3, 1) := by decide +kernel
theorem dX2_readDeed_45 : decode cX2_readDeed 45 = .ok (.iload_n 2, 1) := by decide +kernel
theorem dX2_readDeed_46 : decode cX2_readDeed 46 = .ok (.if_icmp .ge 7, 3) := by decide +kernel
theorem dX2_readDeed_49 : decode cX2_readDeed 49 = .ok (.iconst 1, 1) := by decide +kernel
theorem dX2_readDeed_50 : decode cX2_readDeed 50 = .ok (.goto 4, 3) := by decide +kernel
theorem dX2_readDeed_53 : decode cX2_readDeed 53 = .ok (.iconst 0, 1) := by decide +kernel
theorem dX2_readDeed_54 : decode cX2_readDeed 54 = .ok (.iconst 4, 1) := by decide +kernel
theorem dX2_readDeed_55 : decode cX2_readDeed 55 = .ok (.aload_n 0, 1) := by decide +kernel
theorem dX2_readDeed_56 : decode cX2_readDeed 56 = .ok (.getfield 87, 3) := by decide +kernel
theorem dX2_readDeed_59 : decode cX2_readDeed 59 = .ok (.invokevirtual 58, 3) := by decide +kernel
theorem dX2_readDeed_62 : decode cX2_readDeed 62 = .ok (.aload_n 0, 1) := by decide +kernel
theorem dX2_readDeed_63 : decode cX2_readDeed 63 = .ok (.bipush 59, 2) := by decide +kernel
theorem dX2_readDeed_65 : decode cX2_readDeed 65 = .ok (.invokevirtual 90, 3) := by decide +kernel
theorem dX2_readDeed_68 : decode cX2_readDeed 68 = .ok (.aload_n 0, 1) := by decide +kernel
theorem dX2_readDeed_69 : decode cX2_readDeed 69 = .ok (.aload_n 0, 1) := by decide +kernel
theorem dX2_readDeed_70 : decode cX2_readDeed 70 = .ok (.getfield 28, 3) := by decide +kernel
theorem dX2_readDeed_73 : decode cX2_readDeed 73 = .ok (.getfield 164, 3) := by decide +kernel
theorem dX2_readDeed_76 : decode cX2_readDeed 76 = .ok (.iconst 0, 1) := by decide +kernel
theorem dX2_readDeed_77 : decode cX2_readDeed 77 = .ok (.iload_n 2, 1) := by decide +kernel
theorem dX2_readDeed_78 : decode cX2_readDeed 78 = .ok (.bipush 100, 2) := by decide +kernel
theorem dX2_readDeed_80 : decode cX2_readDeed 80 = .ok (.isub, 1) := by decide +kernel
theorem dX2_readDeed_81 : decode cX2_readDeed 81 = .ok (.iload_n 3, 1) := by decide +kernel
theorem dX2_readDeed_82 : decode cX2_readDeed 82 = .ok (.bipush 100, 2) := by decide +kernel
theorem dX2_readDeed_84 : decode cX2_readDeed 84 = .ok (.isub, 1) := by decide +kernel
theorem dX2_readDeed_85 : decode cX2_readDeed 85 = .ok (.invokevirtual 148, 3) := by decide +kernel
theorem dX2_readDeed_88 : decode cX2_readDeed 88 = .ok (.return_, 1) := by decide +kernel
theorem dX2_addTo_0 : decode cX2_addTo 0 = .ok (.aload_n 0, 1) := by decide +kernel
theorem dX2_addTo_1 : decode cX2_addTo 1 = .ok (.getfield 37, 3) := by decide +kernel
theorem dX2_addTo_4 : decode cX2_addTo 4 = .ok (.ifCond .ne 11, 3) := by decide +kernel
theorem dX2_addTo_7 : decode cX2_addTo 7 = .ok (.aload_n 1, 1) := by decide +kernel
theorem dX2_addTo_8 : decode cX2_addTo 8 = .ok (.iload_n 2, 1) := by decide +kernel
theorem dX2_addTo_9 : decode cX2_addTo 9 = .ok (.iload_n 3, 1) := by decide +kernel
theorem dX2_addTo_10 : decode cX2_addTo 10 = .ok (.iload 4, 2) := by decide +kernel
theorem dX2_addTo_12 : decode cX2_addTo 12 = .ok (.invokevirtual 167, 3) := by decide +kernel
theorem dX2_addTo_15 : decode cX2_addTo 15 = .ok (.return_, 1) := by decide +kernel
theorem dX2_readPlace_0 : decode cX2_readPlace 0 = .ok (.aload_n 0, 1) := by decide +kernel
theorem dX2_readPlace_1 : decode cX2_readPlace 1 = .ok (.iconst 0, 1) := by decide +kernel
theorem dX2_readPlace_2 : decode cX2_readPlace 2 = .ok (.aload_n 0, 1) := by decide +kernel
theorem dX2_readPlace_3 : decode cX2_readPlace 3 = .ok (.getfield 28, 3) := by decide +kernel
theorem dX2_readPlace_6 : decode cX2_readPlace 6 = .ok (.getfield 93, 3) := by decide +kernel
theorem dX2_readPlace_9 : decode cX2_readPlace 9 = .ok (.iconst 1, 1) := by decide +kernel
theorem dX2_readPlace_10 : decode cX2_readPlace 10 = .ok (.isub, 1) := by decide +kernel
theorem dX2_readPlace_11 : decode cX2_readPlace 11 = .ok (.invokevirtual 84, 3) := by decide +kernel
theorem dX2_readPlace_14 : decode cX2_readPlace 14 = .ok (.istore_n 1, 1) := by decide +kernel
theorem dX2_readPlace_15 : decode cX2_readPlace 15 = .ok (.aload_n 0, 1) := by decide +kernel
theorem dX2_readPlace_16 : decode cX2_readPlace 16 = .ok (.iconst 0, 1) := by decide +kernel
theorem dX2_readPlace_17 : decode cX2_readPlace 17 = .ok (.aload_n 0, 1) := by decide +kernel
theorem dX2_readPlace_18 : decode cX2_readPlace 18 = .ok (.getfield 28, 3) := by decide +kernel
theorem dX2_readPlace_21 : decode cX2_readPlace 21 = .ok (.getfield 96, 3) := by decide +kernel
theorem dX2_readPlace_24 : decode cX2_readPlace 24 = .ok (.iconst 1, 1) := by decide +kernel
theorem dX2_readPlace_25 : decode cX2_readPlace 25 = .ok (.isub, 1) := by decide +kernel
theorem dX2_readPlace_26 : decode cX2_readPlace 26 = .ok (.invokevirtual 84, 3) := by decide +kernel
theorem dX2_readPlace_29 : decode cX2_readPlace 29 = .ok (.istore_n 2, 1) := by decide +kernel
theorem dX2_readPlace_30 : decode cX2_readPlace 30 = .ok (.aload_n 0, 1) := by decide +kernel
theorem dX2_readPlace_31 : decode cX2_readPlace 31 = .ok (.getfield 28, 3) := by decide +kernel
theorem dX2_readPlace_34 : decode cX2_readPlace 34 = .ok (.iload_n 1, 1) := by decide +kernel
theorem dX2_readPlace_35 : decode cX2_readPlace 35 = .ok (.iload_n 2, 1) := by decide +kernel
theorem dX2_readPlace_36 : decode cX2_readPlace 36 = .ok (.invokevirtual 170, 3) := by decide +kernel
theorem dX2_readPlace_39 : decode cX2_readPlace 39 = .ok (.istore_n 3, 1) := by decide +kernel
theorem dX2_readPlace_40 : decode cX2_readPlace 40 = .ok (.aload_n 0, 1) := by decide +kernel
theorem dX2_readPlace_41 : decode cX2_readPlace 41 = .ok (.getfield 37, 3) := by decide +kernel
theorem dX2_readPlace_44 : decode cX2_readPlace 44 = .ok (.ifCond .ne 8, 3) := by decide +kernel
theorem dX2_readPlace_47 : decode cX2_readPlace 47 = .ok (.iload_n 3, 1) := by decide +kernel
theorem dX2_readPlace_48 : decode cX2_readPlace 48 = .ok (.iconst (-1), 1) := by decide +kernel
theorem dX2_readPlace_49 : decode cX2_readPlace 49 = .ok (.if_icmp .ne 7, 3) := by decide +kernel
theorem dX2_readPlace_52 : decode cX2_readPlace 52 = .ok (.iconst 0, 1) := by decide +kernel
theorem dX2_readPlace_53 : decode cX2_readPlace 53 = .ok (.goto 4, 3) := by decide +kernel
theorem dX2_readPlace_56 : decode cX2_readPlace 56 = .ok (.iload_n 3, 1) := by decide +kernel
theorem dX2_readPlace_57 : decode cX2_readPlace 57 = .ok (.ireturn, 1) := by decide +kernel
theorem dX2_readNumber_0 : decode cX2_readNumber 0 = .ok (.aload_n 0, 1) := by decide +kernel
theorem dX2_readNumber_1 : decode cX2_readNumber 1 = .ok (.invokevirtual 49, 3) := by decide +kernel
theorem dX2_readNumber_4 : decode cX2_readNumber 4 = .ok (.aload_n 0, 1) := by decide +kernel
theorem dX2_readNumber_5 : decode cX2_readNumber 5 = .ok (.aload_n 0, 1) := by decide +kernel
theorem dX2_readNumber_6 : decode cX2_readNumber 6 = .ok (.getfield 25, 3) := by decide +kernel
theorem dX2_readNumber_9 : decode cX2_readNumber 9 = .ok (.aload_n 0, 1) := by decide +kernel
theorem dX2_readNumber_10 : decode cX2_readNumber 10 = .ok (.getfield 21, 3) := by decide +kernel
theorem dX2_readNumber_13 : decode cX2_readNumber 13 = .ok (.if_icmp .ge 18, 3) := by decide +kernel
theorem dX2_readNumber_16 : decode cX2_readNumber 16 = .ok (.aload_n 0, 1) := by decide +kernel
theorem dX2_readNumber_17 : decode cX2_readNumber 17 = .ok (.getfield 9, 3) := by decide +kernel
theorem dX2_readNumber_20 : decode cX2_readNumber 20 = .ok (.aload_n 0, 1) := by decide +kernel
theorem dX2_readNumber_21 : decode cX2_readNumber 21 = .ok (.getfield 25, 3) := by decide +kernel
theorem dX2_readNumber_24 : decode cX2_readNumber 24 = .ok (.iaload, 1) := by decide +kernel
theorem dX2_readNumber_25 : decode cX2_readNumber 25 = .ok (.invokestatic 173, 3) := by decide +kernel
theorem dX2_readNumber_28 : decode cX2_readNumber 28 = .ok (.ifCond .ne 7, 3) := by decide +kernel
theorem dX2_readNumber_31 : decode cX2_readNumber 31 = .ok (.iconst 1, 1) := by decide +kernel
theorem dX2_readNumber_32 : decode cX2_readNumber 32 = .ok (.goto 4, 3) := by decide +kernel
theorem dX2_readNumber_35 : decode cX2_readNumber 35 = .ok (.iconst 0, 1) := by decide +kernel
theorem dX2_readNumber_36 : decode cX2_readNumber 36 = .ok (.iconst 1, 1) := by decide +kernel
theorem dX2_readNumber_37 : decode cX2_readNumber 37 = .ok (.aload_n 0, 1) := by decide +kernel
theorem dX2_readNumber_38 : decode cX2_readNumber 38 = .ok (.getfield 25, 3) := by decide +kernel
theorem dX2_readNumber_41 : decode cX2_readNumber 41 = .ok (.invokevirtual 58, 3) := by decide +kernel
theorem dX2_readNumber_44 : decode cX2_readNumber 44 = .ok (.aload_n 0, 1) := by decide +kernel
theorem dX2_readNumber_45 : decode cX2_readNumber 45 = .ok (.getfield 37, 3) := by decide +kernel
theorem dX2_readNumber_48 : decode cX2_readNumber 48 = .ok (.ifCond .eq 5, 3) := by decide +kernel
theorem dX2_readNumber_51 : decode cX2_readNumber 51 = .ok (.iconst 0, 1) := by decide +kernel
theorem dX2_readNumber_52 : decode cX2_readNumber 52 = .ok (.ireturn, 1) := by decide +kernel
theorem dX2_readNumber_53 : decode cX2_readNumber 53 = .ok (.aload_n 0, 1) := by decide +kernel
theorem dX2_readNumber_54 : decode cX2_readNumber 54 = .ok (.aload_n 0, 1) := by decide +kernel
theorem dX2_readNumber_55 : decode cX2_readNumber 55 = .ok (.getfield 25, 3) := by decide +kernel
theorem dX2_readNumber_58 : decode cX2_readNumber 58 = .ok (.putfield 87, 3) := by decide +kernel
theorem dX2_readNumber_61 : decode cX2_readNumber 61 = .ok (.iconst 0, 1) := by decide +kernel
theorem dX2_readNumber_62 : decode cX2_readNumber 62 = .ok (.istore_n 3, 1) := by decide +kernel
theorem dX2_readNumber_63 : decode cX2_readNumber 63 = .ok (.aload_n 0, 1) := by decide +kernel
theorem dX2_readNumber_64 : decode cX2_readNumber 64 = .ok (.getfield 25, 3) := by decide +kernel
theorem dX2_readNumber_67 : decode cX2_readNumber 67 = .ok (.aload_n 0, 1) := by decide +kernel
theorem dX2_readNumber_68 : decode cX2_readNumber 68 = .ok (.getfield 21, 3) := by decide +kernel
theorem dX2_readNumber_71 : decode cX2_readNumber 71 = .ok (.if_icmp .ge 66, 3) := by decide +kernel
theorem dX2_readNumber_74 : decode cX2_readNumber 74 = .ok (.aload_n 0, 1) := by decide +kernel
theorem dX2_readNumber_75 : decode cX2_readNumber 75 = .ok (.getfield 9, 3) := by decide +kernel
theorem dX2_readNumber_78 : decode cX2_readNumber 78 = .ok (.aload_n 0, 1) := by decide +kernel
theorem dX2_readNumber_79 : decode cX2_readNumber 79 = .ok (.getfield 25, 3) := by decide +kernel
theorem dX2_readNumber_82 : decode cX2_readNumber 82 = .ok (.iaload, 1) := by decide +kernel
theorem dX2_readNumber_83 : decode cX2_readNumber 83 = .ok (.invokestatic 173, 3) := by decide +kernel
theorem dX2_readNumber_86 : decode cX2_readNumber 86 = .ok (.ifCond .eq 51, 3) := by decide +kernel
theorem dX2_readNumber_89 : decode cX2_readNumber 89 = .ok (.aload_n 0, 1) := by decide +kernel
theorem dX2_readNumber_90 : decode cX2_readNumber 90 = .ok (.getfield 25, 3) := by decide +kernel
theorem dX2_readNumber_93 : decode cX2_readNumber 93 = .ok (.aload_n 0, 1) := by decide +kernel
theorem dX2_readNumber_94 : decode cX2_readNumber 94 = .ok (.getfield 87, 3) := by decide +kernel
theorem dX2_readNumber_97 : decode cX2_readNumber 97 = .ok (.isub, 1) := by decide +kernel
theorem dX2_readNumber_98 : decode cX2_readNumber 98 = .ok (.iconst 3, 1) := by decide +kernel
theorem dX2_readNumber_99 : decode cX2_readNumber 99 = .ok (.if_icmp .ge 23, 3) := by decide +kernel
theorem dX2_readNumber_102 : decode cX2_readNumber 102 = .ok (.iload_n 3, 1) := by decide +kernel
theorem dX2_readNumber_103 : decode cX2_readNumber 103 = .ok (.bipush 10, 2) := by decide +kernel
theorem dX2_readNumber_105 : decode cX2_readNumber 105 = .ok (.imul, 1) := by decide +kernel
theorem dX2_readNumber_106 : decode cX2_readNumber 106 = .ok (.aload_n 0, 1) := by decide +kernel
theorem dX2_readNumber_107 : decode cX2_readNumber 107 = .ok (.getfield 9, 3) := by decide +kernel
theorem dX2_readNumber_110 : decode cX2_readNumber 110 = .ok (.aload_n 0, 1) := by decide +kernel
theorem dX2_readNumber_111 : decode cX2_readNumber 111 = .ok (.getfield 25, 3) := by decide +kernel
theorem dX2_readNumber_114 : decode cX2_readNumber 114 = .ok (.iaload, 1) := by decide +kernel
theorem dX2_readNumber_115 : decode cX2_readNumber 115 = .ok (.iadd, 1) := by decide +kernel
theorem dX2_readNumber_116 : decode cX2_readNumber 116 = .ok (.bipush 48, 2) := by decide +kernel
theorem dX2_readNumber_118 : decode cX2_readNumber 118 = .ok (.isub, 1) := by decide +kernel
theorem dX2_readNumber_119 : decode cX2_readNumber 119 = .ok (.goto 4, 3) := by decide +kernel
theorem dX2_readNumber_122 : decode cX2_readNumber 122 = .ok (.iload_n 3, 1) := by decide +kernel
theorem dX2_readNumber_123 : decode cX2_readNumber 123 = .ok (.istore_n 3, 1) := by decide +kernel
theorem dX2_readNumber_124 : decode cX2_readNumber 124 = .ok (.aload_n 0, 1) := by decide +kernel
theorem dX2_readNumber_125 : decode cX2_readNumber 125 = .ok (.dup, 1) := by decide +kernel
theorem dX2_readNumber_126 : decode cX2_readNumber 126 = .ok (.getfield 25, 3) := by decide +kernel
theorem dX2_readNumber_129 : decode cX2_readNumber 129 = .ok (.iconst 1, 1) := by decide +kernel
theorem dX2_readNumber_130 : decode cX2_readNumber 130 = .ok (.iadd, 1) := by decide +kernel
theorem dX2_readNumber_131 : decode cX2_readNumber 131 = .ok (.putfield 25, 3) := by decide +kernel
theorem dX2_readNumber_134 : decode cX2_readNumber 134 = .ok (.goto (-71), 3) := by decide +kernel
theorem dX2_readNumber_137 : decode cX2_readNumber 137 = .ok (.aload_n 0, 1) := by decide +kernel
theorem dX2_readNumber_138 : decode cX2_readNumber 138 = .ok (.aload_n 0, 1) := by decide +kernel
theorem dX2_readNumber_139 : decode cX2_readNumber 139 = .ok (.getfield 25, 3) := by decide +kernel
theorem dX2_readNumber_142 : decode cX2_readNumber 142 = .ok (.aload_n 0, 1) := by decide +kernel
theorem dX2_readNumber_143 : decode cX2_readNumber 143 = .ok (.getfield 87, 3) := by decide +kernel
theorem dX2_readNumber_146 : decode cX2_readNumber 146 = .ok (.isub, 1) := by decide +kernel
theorem dX2_readNumber_147 : decode cX2_readNumber 147 = .ok (.iconst 3, 1) := by decide +kernel
theorem dX2_readNumber_148 : decode cX2_readNumber 148 = .ok (.if_icmp .gt 12, 3) := by decide +kernel
theorem dX2_readNumber_151 : decode cX2_readNumber 151 = .ok (.iload_n 3, 1) := by decide +kernel
theorem dX2_readNumber_152 : decode cX2_readNumber 152 = .ok (.iload_n 1, 1) := by decide +kernel
theorem dX2_readNumber_153 : decode cX2_readNumber 153 = .ok (.iload_n 2, 1) := by decide +kernel
theorem dX2_readNumber_154 : decode cX2_readNumber 154 = .ok (.invokestatic 176, 3) := by decide +kernel
theorem dX2_readNumber_157 : decode cX2_readNumber 157 = .ok (.ifCond .eq 7, 3) := by decide +kernel
theorem dX2_readNumber_160 : decode cX2_readNumber 160 = .ok (.iconst 1, 1) := by decide +kernel
theorem dX2_readNumber_161 : decode cX2_readNumber 161 = .ok (.goto 4, 3) := by decide +kernel
theorem dX2_readNumber_164 : decode cX2_readNumber 164 = .ok (.iconst 0, 1) := by decide +kernel
theorem dX2_readNumber_165 : decode cX2_readNumber 165 = .ok (.iconst 2, 1) := by decide +kernel
theorem dX2_readNumber_166 : decode cX2_readNumber 166 = .ok (.aload_n 0, 1) := by decide +kernel
theorem dX2_readNumber_167 : decode cX2_readNumber 167 = .ok (.getfield 87, 3) := by decide +kernel
theorem dX2_readNumber_170 : decode cX2_readNumber 170 = .ok (.invokevirtual 58, 3) := by decide +kernel
theorem dX2_readNumber_173 : decode cX2_readNumber 173 = .ok (.aload_n 0, 1) := by decide +kernel
theorem dX2_readNumber_174 : decode cX2_readNumber 174 = .ok (.getfield 37, 3) := by decide +kernel
theorem dX2_readNumber_177 : decode cX2_readNumber 177 = .ok (.ifCond .ne 7, 3) := by decide +kernel
theorem dX2_readNumber_180 : decode cX2_readNumber 180 = .ok (.iload_n 3, 1) := by decide +kernel
theorem dX2_readNumber_181 : decode cX2_readNumber 181 = .ok (.goto 4, 3) := by decide +kernel
theorem dX2_readNumber_184 : decode cX2_readNumber 184 = .ok (.iconst 0, 1) := by decide +kernel
theorem dX2_readNumber_185 : decode cX2_readNumber 185 = .ok (.ireturn, 1) := by decide +kernel
theorem dX2_readSign_0 : decode cX2_readSign 0 = .ok (.aload_n 0, 1) := by decide +kernel
theorem dX2_readSign_1 : decode cX2_readSign 1 = .ok (.invokevirtual 49, 3) := by decide +kernel
theorem dX2_readSign_4 : decode cX2_readSign 4 = .ok (.aload_n 0, 1) := by decide +kernel
theorem dX2_readSign_5 : decode cX2_readSign 5 = .ok (.aload_n 0, 1) := by decide +kernel
theorem dX2_readSign_6 : decode cX2_readSign 6 = .ok (.getfield 25, 3) := by decide +kernel
theorem dX2_readSign_9 : decode cX2_readSign 9 = .ok (.aload_n 0, 1) := by decide +kernel
theorem dX2_readSign_10 : decode cX2_readSign 10 = .ok (.getfield 21, 3) := by decide +kernel
theorem dX2_readSign_13 : decode cX2_readSign 13 = .ok (.if_icmp .ge 16, 3) := by decide +kernel
theorem dX2_readSign_16 : decode cX2_readSign 16 = .ok (.aload_n 0, 1) := by decide +kernel
theorem dX2_readSign_17 : decode cX2_readSign 17 = .ok (.getfield 9, 3) := by decide +kernel
theorem dX2_readSign_20 : decode cX2_readSign 20 = .ok (.aload_n 0, 1) := by decide +kernel
theorem dX2_readSign_21 : decode cX2_readSign 21 = .ok (.getfield 25, 3) := by decide +kernel
theorem dX2_readSign_24 : decode cX2_readSign 24 = .ok (.iaload, 1) := by decide +kernel
theorem dX2_readSign_25 : decode cX2_readSign 25 = .ok (.iload_n 1, 1) := by decide +kernel
theorem dX2_readSign_26 : decode cX2_readSign 26 = .ok (.if_icmp .eq 7, 3) := by decide +kernel
theorem dX2_readSign_29 : decode cX2_readSign 29 = .ok (.iconst 1, 1) := by decide +kernel
theorem dX2_readSign_30 : decode cX2_readSign 30 = .ok (.goto 4, 3) := by decide +kernel
theorem dX2_readSign_33 : decode cX2_readSign 33 = .ok (.iconst 0, 1) := by decide +kernel
theorem dX2_readSign_34 : decode cX2_readSign 34 = .ok (.iconst 1, 1) := by decide +kernel
theorem dX2_readSign_35 : decode cX2_readSign 35 = .ok (.aload_n 0, 1) := by decide +kernel
theorem dX2_readSign_36 : decode cX2_readSign 36 = .ok (.getfield 25, 3) := by decide +kernel
theorem dX2_readSign_39 : decode cX2_readSign 39 = .ok (.invokevirtual 58, 3) := by decide +kernel
theorem dX2_readSign_42 : decode cX2_readSign 42 = .ok (.aload_n 0, 1) := by decide +kernel
theorem dX2_readSign_43 : decode cX2_readSign 43 = .ok (.dup, 1) := by decide +kernel
theorem dX2_readSign_44 : decode cX2_readSign 44 = .ok (.getfield 25, 3) := by decide +kernel
theorem dX2_readSign_47 : decode cX2_readSign 47 = .ok (.iconst 1, 1) := by decide +kernel
theorem dX2_readSign_48 : decode cX2_readSign 48 = .ok (.iadd, 1) := by decide +kernel
theorem dX2_readSign_49 : decode cX2_readSign 49 = .ok (.putfield 25, 3) := by decide +kernel
theorem dX2_readSign_52 : decode cX2_readSign 52 = .ok (.return_, 1) := by decide +kernel
theorem dX2_skipBlanks_0 : decode cX2_skipBlanks 0 = .ok (.aload_n 0, 1) := by decide +kernel
theorem dX2_skipBlanks_1 : decode cX2_skipBlanks 1 = .ok (.getfield 25, 3) := by decide +kernel
theorem dX2_skipBlanks_4 : decode cX2_skipBlanks 4 = .ok (.aload_n 0, 1) := by decide +kernel
theorem dX2_skipBlanks_5 : decode cX2_skipBlanks 5 = .ok (.getfield 21, 3) := by decide +kernel
theorem dX2_skipBlanks_8 : decode cX2_skipBlanks 8 = .ok (.if_icmp .ge 30, 3) := by decide +kernel
theorem dX2_skipBlanks_11 : decode cX2_skipBlanks 11 = .ok (.aload_n 0, 1) := by decide +kernel
theorem dX2_skipBlanks_12 : decode cX2_skipBlanks 12 = .ok (.getfield 9, 3) := by decide +kernel
theorem dX2_skipBlanks_15 : decode cX2_skipBlanks 15 = .ok (.aload_n 0, 1) := by decide +kernel
theorem dX2_skipBlanks_16 : decode cX2_skipBlanks 16 = .ok (.getfield 25, 3) := by decide +kernel
theorem dX2_skipBlanks_19 : decode cX2_skipBlanks 19 = .ok (.iaload, 1) := by decide +kernel
theorem dX2_skipBlanks_20 : decode cX2_skipBlanks 20 = .ok (.bipush 32, 2) := by decide +kernel
theorem dX2_skipBlanks_22 : decode cX2_skipBlanks 22 = .ok (.if_icmp .ne 16, 3) := by decide +kernel
theorem dX2_skipBlanks_25 : decode cX2_skipBlanks 25 = .ok (.aload_n 0, 1) := by decide +kernel
theorem dX2_skipBlanks_26 : decode cX2_skipBlanks 26 = .ok (.dup, 1) := by decide +kernel
theorem dX2_skipBlanks_27 : decode cX2_skipBlanks 27 = .ok (.getfield 25, 3) := by decide +kernel
theorem dX2_skipBlanks_30 : decode cX2_skipBlanks 30 = .ok (.iconst 1, 1) := by decide +kernel
theorem dX2_skipBlanks_31 : decode cX2_skipBlanks 31 = .ok (.iadd, 1) := by decide +kernel
theorem dX2_skipBlanks_32 : decode cX2_skipBlanks 32 = .ok (.putfield 25, 3) := by decide +kernel
theorem dX2_skipBlanks_35 : decode cX2_skipBlanks 35 = .ok (.goto (-35), 3) := by decide +kernel
theorem dX2_skipBlanks_38 : decode cX2_skipBlanks 38 = .ok (.return_, 1) := by decide +kernel
theorem dX2_isFigure_0 : decode cX2_isFigure 0 = .ok (.iload_n 0, 1) := by decide +kernel
theorem dX2_isFigure_1 : decode cX2_isFigure 1 = .ok (.bipush 48, 2) := by decide +kernel
theorem dX2_isFigure_3 : decode cX2_isFigure 3 = .ok (.if_icmp .lt 13, 3) := by decide +kernel
theorem dX2_isFigure_6 : decode cX2_isFigure 6 = .ok (.iload_n 0, 1) := by decide +kernel
theorem dX2_isFigure_7 : decode cX2_isFigure 7 = .ok (.bipush 57, 2) := by decide +kernel
theorem dX2_isFigure_9 : decode cX2_isFigure 9 = .ok (.if_icmp .gt 7, 3) := by decide +kernel
theorem dX2_isFigure_12 : decode cX2_isFigure 12 = .ok (.iconst 1, 1) := by decide +kernel
theorem dX2_isFigure_13 : decode cX2_isFigure 13 = .ok (.goto 4, 3) := by decide +kernel
theorem dX2_isFigure_16 : decode cX2_isFigure 16 = .ok (.iconst 0, 1) := by decide +kernel
theorem dX2_isFigure_17 : decode cX2_isFigure 17 = .ok (.ireturn, 1) := by decide +kernel
theorem dX2_refuseIf_0 : decode cX2_refuseIf 0 = .ok (.iload_n 1, 1) := by decide +kernel
theorem dX2_refuseIf_1 : decode cX2_refuseIf 1 = .ok (.ifCond .eq 20, 3) := by decide +kernel
theorem dX2_refuseIf_4 : decode cX2_refuseIf 4 = .ok (.aload_n 0, 1) := by decide +kernel
theorem dX2_refuseIf_5 : decode cX2_refuseIf 5 = .ok (.getfield 37, 3) := by decide +kernel
theorem dX2_refuseIf_8 : decode cX2_refuseIf 8 = .ok (.ifCond .ne 13, 3) := by decide +kernel
theorem dX2_refuseIf_11 : decode cX2_refuseIf 11 = .ok (.aload_n 0, 1) := by decide +kernel
theorem dX2_refuseIf_12 : decode cX2_refuseIf 12 = .ok (.iload_n 2, 1) := by decide +kernel
theorem dX2_refuseIf_13 : decode cX2_refuseIf 13 = .ok (.putfield 37, 3) := by decide +kernel
theorem dX2_refuseIf_16 : decode cX2_refuseIf 16 = .ok (.aload_n 0, 1) := by decide +kernel
theorem dX2_refuseIf_17 : decode cX2_refuseIf 17 = .ok (.iload_n 3, 1) := by decide +kernel
theorem dX2_refuseIf_18 : decode cX2_refuseIf 18 = .ok (.putfield 40, 3) := by decide +kernel
theorem dX2_refuseIf_21 : decode cX2_refuseIf 21 = .ok (.return_, 1) := by decide +kernel
theorem dX3_init_0 : decode cX3_init 0 = .ok (.aload_n 0, 1) := by decide +kernel
theorem dX3_init_1 : decode cX3_init 1 = .ok (.invokespecial 3, 3) := by decide +kernel
theorem dX3_init_4 : decode cX3_init 4 = .ok (.aload_n 0, 1) := by decide +kernel
theorem dX3_init_5 : decode cX3_init 5 = .ok (.bipush 24, 2) := by decide +kernel
theorem dX3_init_7 : decode cX3_init 7 = .ok (.newarray .int, 2) := by decide +kernel
theorem dX3_init_9 : decode cX3_init 9 = .ok (.putfield 9, 3) := by decide +kernel
theorem dX3_init_12 : decode cX3_init 12 = .ok (.aload_n 0, 1) := by decide +kernel
theorem dX3_init_13 : decode cX3_init 13 = .ok (.bipush 24, 2) := by decide +kernel
theorem dX3_init_15 : decode cX3_init 15 = .ok (.newarray .int, 2) := by decide +kernel
theorem dX3_init_17 : decode cX3_init 17 = .ok (.putfield 15, 3) := by decide +kernel
theorem dX3_init_20 : decode cX3_init 20 = .ok (.aload_n 0, 1) := by decide +kernel
theorem dX3_init_21 : decode cX3_init 21 = .ok (.sipush 960, 3) := by decide +kernel
theorem dX3_init_24 : decode cX3_init 24 = .ok (.newarray .int, 2) := by decide +kernel
theorem dX3_init_26 : decode cX3_init 26 = .ok (.putfield 18, 3) := by decide +kernel
theorem dX3_init_29 : decode cX3_init 29 = .ok (.aload_n 0, 1) := by decide +kernel
theorem dX3_init_30 : decode cX3_init 30 = .ok (.aload_n 1, 1) := by decide +kernel
theorem dX3_init_31 : decode cX3_init 31 = .ok (.putfield 21, 3) := by decide +kernel
theorem dX3_init_34 : decode cX3_init 34 = .ok (.return_, 1) := by decide +kernel
theorem dX3_fewestSteps_0 : decode cX3_fewestSteps 0 = .ok (.iconst 1, 1) := by decide +kernel
theorem dX3_fewestSteps_1 : decode cX3_fewestSteps 1 = .ok (.iload_n 1, 1) := by decide +kernel
theorem dX3_fewestSteps_2 : decode cX3_fewestSteps 2 = .ok (.ishl, 1) := by decide +kernel
theorem dX3_fewestSteps_3 : decode cX3_fewestSteps 3 = .ok (.istore 4, 2) := by decide +kernel
theorem dX3_fewestSteps_5 : decode cX3_fewestSteps 5 = .ok (.iconst 0, 1) := by decide +kernel
theorem dX3_fewestSteps_6 : decode cX3_fewestSteps 6 = .ok (.istore 5, 2) := by decide +kernel
theorem dX3_fewestSteps_8 : decode cX3_fewestSteps 8 = .ok (.iload 5, 2) := by decide +kernel
theorem dX3_fewestSteps_10 : decode cX3_fewestSteps 10 = .ok (.bipush 60, 2) := by decide +kernel
theorem dX3_fewestSteps_12 : decode cX3_fewestSteps 12 = .ok (.if_icmp .gt 35, 3) := by decide +kernel
theorem dX3_fewestSteps_15 : decode cX3_fewestSteps 15 = .ok (.iload 4, 2) := by decide +kernel
theorem dX3_fewestSteps_17 : decode cX3_fewestSteps 17 = .ok (.iload_n 2, 1) := by decide +kernel
theorem dX3_fewestSteps_18 : decode cX3_fewestSteps 18 = .ok (.ishr, 1) := by decide +kernel
theorem dX3_fewestSteps_19 : decode cX3_fewestSteps 19 = .ok (.iconst 1, 1) := by decide +kernel
theorem dX3_fewestSteps_20 : decode cX3_fewestSteps 20 = .ok (.iand, 1) := by decide +kernel
theorem dX3_fewestSteps_21 : decode cX3_fewestSteps 21 = .ok (.ifCond .eq 6, 3) := by decide +kernel
theorem dX3_fewestSteps_24 : decode cX3_fewestSteps 24 = .ok (.iload 5, 2) := by decide +kernel
theorem dX3_fewestSteps_26 : decode cX3_fewestSteps 26 = .ok (.ireturn, 1) := by decide +kernel
theorem dX3_fewestSteps_27 : decode cX3_fewestSteps 27 = .ok (.aload_n 0, 1) := by decide +kernel
theorem dX3_fewestSteps_28 : decode cX3_fewestSteps 28 = .ok (.iload 4, 2) := by decide +kernel
theorem dX3_fewestSteps_30 : decode cX3_fewestSteps 30 = .ok (.iload_n 3, 1) := by decide +kernel
theorem dX3_fewestSteps_31 : decode cX3_fewestSteps 31 = .ok (.iload 5, 2) := by decide +kernel
theorem dX3_fewestSteps_33 : decode cX3_fewestSteps 33 = .ok (.iadd, 1) := by decide +kernel
theorem dX3_fewestSteps_34 : decode cX3_fewestSteps 34 = .ok (.iconst 1, 1) := by decide +kernel
theorem dX3_fewestSteps_35 : decode cX3_fewestSteps 35 = .ok (.iadd, 1) := by decide +kernel
theorem dX3_fewestSteps_36 : decode cX3_fewestSteps 36 = .ok (.invokevirtual 25, 3) := by decide +kernel
theorem dX3_fewestSteps_39 : decode cX3_fewestSteps 39 = .ok (.istore 4, 2) := by decide +kernel
theorem dX3_fewestSteps_41 : decode cX3_fewestSteps 41 = .ok (.iinc 5 1, 3) := by decide +kernel
theorem dX3_fewestSteps_44 : decode cX3_fewestSteps 44 = .ok (.goto (-36), 3) := by decide +kernel
theorem dX3_fewestSteps_47 : decode cX3_fewestSteps 47 = .ok (.iconst (-1), 1) := by decide +kernel
theorem dX3_fewestSteps_48 : decode cX3_fewestSteps 48 = .ok (.ireturn, 1) := by decide +kernel
theorem dX3_reachedNext_0 : decode cX3_reachedNext 0 = .ok (.iload_n 1, 1) := by decide +kernel
theorem dX3_reachedNext_1 : decode cX3_reachedNext 1 = .ok (.istore_n 3, 1) := by decide +kernel
theorem dX3_reachedNext_2 : decode cX3_reachedNext 2 = .ok (.iconst 0, 1) := by decide +kernel
theorem dX3_reachedNext_3 : decode cX3_reachedNext 3 = .ok (.istore 4, 2) := by decide +kernel
theorem dX3_reachedNext_5 : decode cX3_reachedNext 5 = .ok (.iload 4, 2) := by decide +kernel
theorem dX3_reachedNext_7 : decode cX3_reachedNext 7 = .ok (.aload_n 0, 1) := by decide +kernel
theorem dX3_reachedNext_8 : decode cX3_reachedNext 8 = .ok (.getfield 21, 3) := by decide +kernel
theorem dX3_reachedNext_11 : decode cX3_reachedNext 11 = .ok (.getfield 29, 3) := by decide +kernel
theorem dX3_reachedNext_14 : decode cX3_reachedNext 14 = .ok (.getfield 35, 3) := by decide +kernel
theorem dX3_reachedNext_17 : decode cX3_reachedNext 17 = .ok (.if_icmp .ge 72, 3) := by decide +kernel
theorem dX3_reachedNext_20 : decode cX3_reachedNext 20 = .ok (.iconst 1, 1) := by decide +kernel
theorem dX3_reachedNext_21 : decode cX3_reachedNext 21 = .ok (.istore 5, 2) := by decide +kernel
theorem dX3_reachedNext_23 : decode cX3_reachedNext 23 = .ok (.iload 5, 2) := by decide +kernel
theorem dX3_reachedNext_25 : decode cX3_reachedNext 25 = .ok (.iconst 5, 1) := by decide +kernel
theorem dX3_reachedNext_26 : decode cX3_reachedNext 26 = .ok (.if_icmp .ge 57, 3) := by decide +kernel
theorem dX3_reachedNext_29 : decode cX3_reachedNext 29 = .ok (.iload_n 1, 1) := by decide +kernel
theorem dX3_reachedNext_30 : decode cX3_reachedNext 30 = .ok (.iload 4, 2) := by decide +kernel
theorem dX3_reachedNext_32 : decode cX3_reachedNext 32 = .ok (.ishr, 1) := by decide +kernel
theorem dX3_reachedNext_33 : decode cX3_reachedNext 33 = .ok (.iconst 1, 1) := by decide +kernel
theorem dX3_reachedNext_34 : decode cX3_reachedNext 34 = .ok (.iand, 1) := by decide +kernel
theorem dX3_reachedNext_35 : decode cX3_reachedNext 35 = .ok (.ifCond .eq 48, 3) := by decide +kernel
theorem dX3_reachedNext_38 : decode cX3_reachedNext 38 = .ok (.aload_n 0, 1) := by decide +kernel
theorem dX3_reachedNext_39 : decode cX3_reachedNext 39 = .ok (.getfield 21, 3) := by decide +kernel
theorem dX3_reachedNext_42 : decode cX3_reachedNext 42 = .ok (.getfield 29, 3) := by decide +kernel
theorem dX3_reachedNext_45 : decode cX3_reachedNext 45 = .ok (.iload 4, 2) := by decide +kernel
theorem dX3_reachedNext_47 : decode cX3_reachedNext 47 = .ok (.iload 5, 2) := by decide +kernel
theorem dX3_reachedNext_49 : decode cX3_reachedNext 49 = .ok (.invokevirtual 41, 3) := by decide +kernel
theorem dX3_reachedNext_52 : decode cX3_reachedNext 52 = .ok (.istore 6, 2) := by decide +kernel
theorem dX3_reachedNext_54 : decode cX3_reachedNext 54 = .ok (.aload_n 0, 1) := by decide +kernel
theorem dX3_reachedNext_55 : decode cX3_reachedNext 55 = .ok (.getfield 21, 3) := by decide +kernel
theorem dX3_reachedNext_58 : decode cX3_reachedNext 58 = .ok (.iload 4, 2) := by decide +kernel
theorem dX3_reachedNext_60 : decode cX3_reachedNext 60 = .ok (.iload 6, 2) := by decide +kernel
theorem dX3_reachedNext_62 : decode cX3_reachedNext 62 = .ok (.iload_n 2, 1) := by decide +kernel
theorem dX3_reachedNext_63 : decode cX3_reachedNext 63 = .ok (.invokevirtual 44, 3) := by decide +kernel
theorem dX3_reachedNext_66 : decode cX3_reachedNext 66 = .ok (.iconst (-1), 1) := by decide +kernel
theorem dX3_reachedNext_67 : decode cX3_reachedNext 67 = .ok (.if_icmp .eq 10, 3) := by decide +kernel
theorem dX3_reachedNext_70 : decode cX3_reachedNext 70 = .ok (.iload_n 3, 1) := by decide +kernel
theorem dX3_reachedNext_71 : decode cX3_reachedNext 71 = .ok (.iconst 1, 1) := by decide +kernel
theorem dX3_reachedNext_72 : decode cX3_reachedNext 72 = .ok (.iload 6, 2) := by decide +kernel
theorem dX3_reachedNext_74 : decode cX3_reachedNext 74 = .ok (.ishl, 1) := by decide +kernel
theorem dX3_reachedNext_75 : decode cX3_reachedNext 75 = .ok (.ior, 1) := by decide +kernel
theorem dX3_reachedNext_76 : decode cX3_reachedNext 76 = .ok (.istore_n 3, 1) := by decide +kernel
theorem dX3_reachedNext_77 : decode cX3_reachedNext 77 = .ok (.iinc 5 1, 3) := by decide +kernel
theorem dX3_reachedNext_80 : decode cX3_reachedNext 80 = .ok (.goto (-57), 3) := by decide +kernel
theorem dX3_reachedNext_83 : decode cX3_reachedNext 83 = .ok (.iinc 4 1, 3) := by decide +kernel
theorem dX3_reachedNext_86 : decode cX3_reachedNext 86 = .ok (.goto (-81), 3) := by decide +kernel
theorem dX3_reachedNext_89 : decode cX3_reachedNext 89 = .ok (.iload_n 3, 1) := by decide +kernel
theorem dX3_reachedNext_90 : decode cX3_reachedNext 90 = .ok (.ireturn, 1) := by decide +kernel
theorem dX3_leastPushed_0 : decode cX3_leastPushed 0 = .ok (.iconst 0, 1) := by decide +kernel
theorem dX3_leastPushed_1 : decode cX3_leastPushed 1 = .ok (.istore 5, 2) := by decide +kernel
theorem dX3_leastPushed_3 : decode cX3_leastPushed 3 = .ok (.iload 5, 2) := by decide +kernel
theorem dX3_leastPushed_5 : decode cX3_leastPushed 5 = .ok (.aload_n 0, 1) := by decide +kernel
theorem dX3_leastPushed_6 : decode cX3_leastPushed 6 = .ok (.getfield 21, 3) := by decide +kernel
theorem dX3_leastPushed_9 : decode cX3_leastPushed 9 = .ok (.getfield 29, 3) := by decide +kernel
theorem dX3_leastPushed_12 : decode cX3_leastPushed 12 = .ok (.getfield 35, 3) := by decide +kernel
theorem dX3_leastPushed_15 : decode cX3_leastPushed 15 = .ok (.if_icmp .ge 28, 3) := by decide +kernel
theorem dX3_leastPushed_18 : decode cX3_leastPushed 18 = .ok (.aload_n 0, 1) := by decide +kernel
theorem dX3_leastPushed_19 : decode cX3_leastPushed 19 = .ok (.getfield 9, 3) := by decide +kernel
theorem dX3_leastPushed_22 : decode cX3_leastPushed 22 = .ok (.iload 5, 2) := by decide +kernel
theorem dX3_leastPushed_24 : decode cX3_leastPushed 24 = .ok (.iload 5, 2) := by decide +kernel
theorem dX3_leastPushed_26 : decode cX3_leastPushed 26 = .ok (.iload_n 2, 1) := by decide +kernel
theorem dX3_leastPushed_27 : decode cX3_leastPushed 27 = .ok (.if_icmp .ne 7, 3) := by decide +kernel
theorem dX3_leastPushed_30 : decode cX3_leastPushed 30 = .ok (.iconst 0, 1) := by decide +kernel
theorem dX3_leastPushed_31 : decode cX3_leastPushed 31 = .ok (.goto 5, 3) := by decide +kernel
theorem dX3_leastPushed_34 : decode cX3_leastPushed 34 = .ok (.ldc 48, 2) := by decide +kernel
theorem dX3_leastPushed_36 : decode cX3_leastPushed 36 = .ok (.iastore, 1) := by decide +kernel
theorem dX3_leastPushed_37 : decode cX3_leastPushed 37 = .ok (.iinc 5 1, 3) := by decide +kernel
theorem dX3_leastPushed_40 : decode cX3_leastPushed 40 = .ok (.goto (-37), 3) := by decide +kernel
theorem dX3_leastPushed_43 : decode cX3_leastPushed 43 = .ok (.iload 4, 2) := by decide +kernel
theorem dX3_leastPushed_45 : decode cX3_leastPushed 45 = .ok (.iconst 1, 1) := by decide +kernel
theorem dX3_leastPushed_46 : decode cX3_leastPushed 46 = .ok (.isub, 1) := by decide +kernel
theorem dX3_leastPushed_47 : decode cX3_leastPushed 47 = .ok (.istore 5, 2) := by decide +kernel
theorem dX3_leastPushed_49 : decode cX3_leastPushed 49 = .ok (.iload 5, 2) := by decide +kernel
theorem dX3_leastPushed_51 : decode cX3_leastPushed 51 = .ok (.ifCond .lt 68, 3) := by decide +kernel
theorem dX3_leastPushed_54 : decode cX3_leastPushed 54 = .ok (.aload_n 0, 1) := by decide +kernel
theorem dX3_leastPushed_55 : decode cX3_leastPushed 55 = .ok (.getfield 9, 3) := by decide +kernel
theorem dX3_leastPushed_58 : decode cX3_leastPushed 58 = .ok (.astore 6, 2) := by decide +kernel
theorem dX3_leastPushed_60 : decode cX3_leastPushed 60 = .ok (.aload_n 0, 1) := by decide +kernel
theorem dX3_leastPushed_61 : decode cX3_leastPushed 61 = .ok (.aload_n 0, 1) := by decide +kernel
theorem dX3_leastPushed_62 : decode cX3_leastPushed 62 = .ok (.getfield 15, 3) := by decide +kernel
theorem dX3_leastPushed_65 : decode cX3_leastPushed 65 = .ok (.putfield 9, 3) := by decide +kernel
theorem dX3_leastPushed_68 : decode cX3_leastPushed 68 = .ok (.aload_n 0, 1) := by decide +kernel
theorem dX3_leastPushed_69 : decode cX3_leastPushed 69 = .ok (.aload 6, 2) := by decide +kernel
theorem dX3_leastPushed_71 : decode cX3_leastPushed 71 = .ok (.putfield 15, 3) := by decide +kernel
theorem dX3_leastPushed_74 : decode cX3_leastPushed 74 = .ok (.iconst 0, 1) := by decide +kernel
theorem dX3_leastPushed_75 : decode cX3_leastPushed 75 = .ok (.istore 7, 2) := by decide +kernel
theorem dX3_leastPushed_77 : decode cX3_leastPushed 77 = .ok (.iload 7, 2) := by decide +kernel
theorem dX3_leastPushed_79 : decode cX3_leastPushed 79 = .ok (.aload_n 0, 1) := by decide +kernel
theorem dX3_leastPushed_80 : decode cX3_leastPushed 80 = .ok (.getfield 21, 3) := by decide +kernel
theorem dX3_leastPushed_83 : decode cX3_leastPushed 83 = .ok (.getfield 29, 3) := by decide +kernel
theorem dX3_leastPushed_86 : decode cX3_leastPushed 86 = .ok (.getfield 35, 3) := by decide +kernel
theorem dX3_leastPushed_89 : decode cX3_leastPushed 89 = .ok (.if_icmp .ge 24, 3) := by decide +kernel
theorem dX3_leastPushed_92 : decode cX3_leastPushed 92 = .ok (.aload_n 0, 1) := by decide +kernel
theorem dX3_leastPushed_93 : decode cX3_leastPushed 93 = .ok (.iload 7, 2) := by decide +kernel
theorem dX3_leastPushed_95 : decode cX3_leastPushed 95 = .ok (.iload_n 2, 1) := by decide +kernel
theorem dX3_leastPushed_96 : decode cX3_leastPushed 96 = .ok (.iload 5, 2) := by decide +kernel
theorem dX3_leastPushed_98 : decode cX3_leastPushed 98 = .ok (.iload_n 3, 1) := by decide +kernel
theorem dX3_leastPushed_99 : decode cX3_leastPushed 99 = .ok (.iload 5, 2) := by decide +kernel
theorem dX3_leastPushed_101 : decode cX3_leastPushed 101 = .ok (.iadd, 1) := by decide +kernel
theorem dX3_leastPushed_102 : decode cX3_leastPushed 102 = .ok (.iconst 1, 1) := by decide +kernel
theorem dX3_leastPushed_103 : decode cX3_leastPushed 103 = .ok (.iadd, 1) := by decide +kernel
theorem dX3_leastPushed_104 : decode cX3_leastPushed 104 = .ok (.invokevirtual 49, 3) := by decide +kernel
theorem dX3_leastPushed_107 : decode cX3_leastPushed 107 = .ok (.iinc 7 1, 3) := by decide +kernel
theorem dX3_leastPushed_110 : decode cX3_leastPushed 110 = .ok (.goto (-33), 3) := by decide +kernel
theorem dX3_leastPushed_113 : decode cX3_leastPushed 113 = .ok (.iinc 5 (-1), 3) := by decide +kernel
theorem dX3_leastPushed_116 : decode cX3_leastPushed 116 = .ok (.goto (-67), 3) := by decide +kernel
theorem dX3_leastPushed_119 : decode cX3_leastPushed 119 = .ok (.aload_n 0, 1) := by decide +kernel
theorem dX3_leastPushed_120 : decode cX3_leastPushed 120 = .ok (.getfield 9, 3) := by decide +kernel
theorem dX3_leastPushed_123 : decode cX3_leastPushed 123 = .ok (.iload_n 1, 1) := by decide +kernel
theorem dX3_leastPushed_124 : decode cX3_leastPushed 124 = .ok (.iaload, 1) := by decide +kernel
theorem dX3_leastPushed_125 : decode cX3_leastPushed 125 = .ok (.ldc 48, 2) := by decide +kernel
theorem dX3_leastPushed_127 : decode cX3_leastPushed 127 = .ok (.if_icmp .lt 7, 3) := by decide +kernel
theorem dX3_leastPushed_130 : decode cX3_leastPushed 130 = .ok (.iconst (-1), 1) := by decide +kernel
theorem dX3_leastPushed_131 : decode cX3_leastPushed 131 = .ok (.goto 9, 3) := by decide +kernel
theorem dX3_leastPushed_134 : decode cX3_leastPushed 134 = .ok (.aload_n 0, 1) := by decide +kernel
theorem dX3_leastPushed_135 : decode cX3_leastPushed 135 = .ok (.getfield 9, 3) := by decide +kernel
theorem dX3_leastPushed_138 : decode cX3_leastPushed 138 = .ok (.iload_n 1, 1) := by decide +kernel
theorem dX3_leastPushed_139 : decode cX3_leastPushed 139 = .ok (.iaload, 1) := by decide +kernel
theorem dX3_leastPushed_140 : decode cX3_leastPushed 140 = .ok (.ireturn, 1) := by decide +kernel
theorem dX3_choose_0 : decode cX3_choose 0 = .ok (.ldc 48, 2) := by decide +kernel
theorem dX3_choose_2 : decode cX3_choose 2 = .ok (.istore 5, 2) := by decide +kernel
theorem dX3_choose_4 : decode cX3_choose 4 = .ok (.iconst 0, 1) := by decide +kernel
theorem dX3_choose_5 : decode cX3_choose 5 = .ok (.istore 6, 2) := by decide +kernel
theorem dX3_choose_7 : decode cX3_choose 7 = .ok (.iconst 0, 1) := by decide +kernel
theorem dX3_choose_8 : decode cX3_choose 8 = .ok (.istore 7, 2) := by decide +kernel
theorem dX3_choose_10 : decode cX3_choose 10 = .ok (.iload 7, 2) := by decide +kernel
theorem dX3_choose_12 : decode cX3_choose 12 = .ok (.iconst 5, 1) := by decide +kernel
theorem dX3_choose_13 : decode cX3_choose 13 = .ok (.if_icmp .ge 80, 3) := by decide +kernel
theorem dX3_choose_16 : decode cX3_choose 16 = .ok (.iload_n 1, 1) := by decide +kernel
theorem dX3_choose_17 : decode cX3_choose 17 = .ok (.iload_n 2, 1) := by decide +kernel
theorem dX3_choose_18 : decode cX3_choose 18 = .ok (.if_icmp .eq 75, 3) := by decide +kernel
theorem dX3_choose_21 : decode cX3_choose 21 = .ok (.aload_n 0, 1) := by decide +kernel
theorem dX3_choose_22 : decode cX3_choose 22 = .ok (.getfield 21, 3) := by decide +kernel
theorem dX3_choose_25 : decode cX3_choose 25 = .ok (.getfield 29, 3) := by decide +kernel
theorem dX3_choose_28 : decode cX3_choose 28 = .ok (.iload_n 1, 1) := by decide +kernel
theorem dX3_choose_29 : decode cX3_choose 29 = .ok (.iload 7, 2) := by decide +kernel
theorem dX3_choose_31 : decode cX3_choose 31 = .ok (.invokevirtual 41, 3) := by decide +kernel
theorem dX3_choose_34 : decode cX3_choose 34 = .ok (.istore 8, 2) := by decide +kernel
theorem dX3_choose_36 : decode cX3_choose 36 = .ok (.aload_n 0, 1) := by decide +kernel
theorem dX3_choose_37 : decode cX3_choose 37 = .ok (.getfield 21, 3) := by decide +kernel
theorem dX3_choose_40 : decode cX3_choose 40 = .ok (.iload_n 1, 1) := by decide +kernel
theorem dX3_choose_41 : decode cX3_choose 41 = .ok (.iload 8, 2) := by decide +kernel
theorem dX3_choose_43 : decode cX3_choose 43 = .ok (.iload 4, 2) := by decide +kernel
theorem dX3_choose_45 : decode cX3_choose 45 = .ok (.invokevirtual 44, 3) := by decide +kernel
theorem dX3_choose_48 : decode cX3_choose 48 = .ok (.istore 9, 2) := by decide +kernel
theorem dX3_choose_50 : decode cX3_choose 50 = .ok (.iload 9, 2) := by decide +kernel
theorem dX3_choose_52 : decode cX3_choose 52 = .ok (.iconst (-1), 1) := by decide +kernel
theorem dX3_choose_53 : decode cX3_choose 53 = .ok (.if_icmp .eq 34, 3) := by decide +kernel
theorem dX3_choose_56 : decode cX3_choose 56 = .ok (.iload 9, 2) := by decide +kernel
theorem dX3_choose_58 : decode cX3_choose 58 = .ok (.aload_n 0, 1) := by decide +kernel
theorem dX3_choose_59 : decode cX3_choose 59 = .ok (.getfield 15, 3) := by decide +kernel
theorem dX3_choose_62 : decode cX3_choose 62 = .ok (.iload 8, 2) := by decide +kernel
theorem dX3_choose_64 : decode cX3_choose 64 = .ok (.iaload, 1) := by decide +kernel
theorem dX3_choose_65 : decode cX3_choose 65 = .ok (.iadd, 1) := by decide +kernel
theorem dX3_choose_66 : decode cX3_choose 66 = .ok (.iload 5, 2) := by decide +kernel
theorem dX3_choose_68 : decode cX3_choose 68 = .ok (.if_icmp .ge 19, 3) := by decide +kernel
theorem dX3_choose_71 : decode cX3_choose 71 = .ok (.iload 9, 2) := by decide +kernel
theorem dX3_choose_73 : decode cX3_choose 73 = .ok (.aload_n 0, 1) := by decide +kernel
theorem dX3_choose_74 : decode cX3_choose 74 = .ok (.getfield 15, 3) := by decide +kernel
theorem dX3_choose_77 : decode cX3_choose 77 = .ok (.iload 8, 2) := by decide +kernel
theorem dX3_choose_79 : decode cX3_choose 79 = .ok (.iaload, 1) := by decide +kernel
theorem dX3_choose_80 : decode cX3_choose 80 = .ok (.iadd, 1) := by decide +kernel
theorem dX3_choose_81 : decode cX3_choose 81 = .ok (.istore 5, 2) := by decide +kernel
theorem dX3_choose_83 : decode cX3_choose 83 = .ok (.iload 7, 2) := by decide +kernel
theorem dX3_choose_85 : decode cX3_choose 85 = .ok (.istore 6, 2) := by decide +kernel
theorem dX3_choose_87 : decode cX3_choose 87 = .ok (.iinc 7 1, 3) := by decide +kernel
theorem dX3_choose_90 : decode cX3_choose 90 = .ok (.goto (-80), 3) := by decide +kernel
theorem dX3_choose_93 : decode cX3_choose 93 = .ok (.aload_n 0, 1) := by decide +kernel
theorem dX3_choose_94 : decode cX3_choose 94 = .ok (.getfield 9, 3) := by decide +kernel
theorem dX3_choose_97 : decode cX3_choose 97 = .ok (.iload_n 1, 1) := by decide +kernel
theorem dX3_choose_98 : decode cX3_choose 98 = .ok (.iload_n 1, 1) := by decide +kernel
theorem dX3_choose_99 : decode cX3_choose 99 = .ok (.iload_n 2, 1) := by decide +kernel
theorem dX3_choose_100 : decode cX3_choose 100 = .ok (.if_icmp .ne 7, 3) := by decide +kernel
theorem dX3_choose_103 : decode cX3_choose 103 = .ok (.iconst 0, 1) := by decide +kernel
theorem dX3_choose_104 : decode cX3_choose 104 = .ok (.goto 5, 3) := by decide +kernel
theorem dX3_choose_107 : decode cX3_choose 107 = .ok (.iload 5, 2) := by decide +kernel
theorem dX3_choose_109 : decode cX3_choose 109 = .ok (.iastore, 1) := by decide +kernel
theorem dX3_choose_110 : decode cX3_choose 110 = .ok (.aload_n 0, 1) := by decide +kernel
theorem dX3_choose_111 : decode cX3_choose 111 = .ok (.getfield 18, 3) := by decide +kernel
theorem dX3_choose_114 : decode cX3_choose 114 = .ok (.iload_n 3, 1) := by decide +kernel
theorem dX3_choose_115 : decode cX3_choose 115 = .ok (.bipush 24, 2) := by decide +kernel
theorem dX3_choose_117 : decode cX3_choose 117 = .ok (.imul, 1) := by decide +kernel
theorem dX3_choose_118 : decode cX3_choose 118 = .ok (.iload_n 1, 1) := by decide +kernel
theorem dX3_choose_119 : decode cX3_choose 119 = .ok (.iadd, 1) := by decide +kernel
theorem dX3_choose_120 : decode cX3_choose 120 = .ok (.iload 6, 2) := by decide +kernel
theorem dX3_choose_122 : decode cX3_choose 122 = .ok (.iastore, 1) := by decide +kernel
theorem dX3_choose_123 : decode cX3_choose 123 = .ok (.return_, 1) := by decide +kernel
theorem dX3_wayTaken_0 : decode cX3_wayTaken 0 = .ok (.iload_n 1, 1) := by decide +kernel
theorem dX3_wayTaken_1 : decode cX3_wayTaken 1 = .ok (.istore 5, 2) := by decide +kernel
theorem dX3_wayTaken_3 : decode cX3_wayTaken 3 = .ok (.iconst 0, 1) := by decide +kernel
theorem dX3_wayTaken_4 : decode cX3_wayTaken 4 = .ok (.istore 6, 2) := by decide +kernel
theorem dX3_wayTaken_6 : decode cX3_wayTaken 6 = .ok (.iload 6, 2) := by decide +kernel
theorem dX3_wayTaken_8 : decode cX3_wayTaken 8 = .ok (.iload_n 3, 1) := by decide +kernel
theorem dX3_wayTaken_9 : decode cX3_wayTaken 9 = .ok (.if_icmp .ge 62, 3) := by decide +kernel
theorem dX3_wayTaken_12 : decode cX3_wayTaken 12 = .ok (.iload 5, 2) := by decide +kernel
theorem dX3_wayTaken_14 : decode cX3_wayTaken 14 = .ok (.iload_n 2, 1) := by decide +kernel
theorem dX3_wayTaken_15 : decode cX3_wayTaken 15 = .ok (.if_icmp .eq 56, 3) := by decide +kernel
theorem dX3_wayTaken_18 : decode cX3_wayTaken 18 = .ok (.iload 5, 2) := by decide +kernel
theorem dX3_wayTaken_20 : decode cX3_wayTaken 20 = .ok (.iconst (-1), 1) := by decide +kernel
theorem dX3_wayTaken_21 : decode cX3_wayTaken 21 = .ok (.if_icmp .eq 50, 3) := by decide +kernel
theorem dX3_wayTaken_24 : decode cX3_wayTaken 24 = .ok (.aload_n 0, 1) := by decide +kernel
theorem dX3_wayTaken_25 : decode cX3_wayTaken 25 = .ok (.getfield 18, 3) := by decide +kernel
theorem dX3_wayTaken_28 : decode cX3_wayTaken 28 = .ok (.iload 6, 2) := by decide +kernel
theorem dX3_wayTaken_30 : decode cX3_wayTaken 30 = .ok (.bipush 24, 2) := by decide +kernel
theorem dX3_wayTaken_32 : decode cX3_wayTaken 32 = .ok (.imul, 1) := by decide +kernel
theorem dX3_wayTaken_33 : decode cX3_wayTaken 33 = .ok (.iload 5, 2) := by decide +kernel
theorem dX3_wayTaken_35 : decode cX3_wayTaken 35 = .ok (.iadd, 1) := by decide +kernel
theorem dX3_wayTaken_36 : decode cX3_wayTaken 36 = .ok (.iaload, 1) := by decide +kernel
theorem dX3_wayTaken_37 : decode cX3_wayTaken 37 = .ok (.istore 7, 2) := by decide +kernel
theorem dX3_wayTaken_39 : decode cX3_wayTaken 39 = .ok (.iload 6, 2) := by decide +kernel
theorem dX3_wayTaken_41 : decode cX3_wayTaken 41 = .ok (.iload 4, 2) := by decide +kernel
theorem dX3_wayTaken_43 : decode cX3_wayTaken 43 = .ok (.if_icmp .ne 6, 3) := by decide +kernel
theorem dX3_wayTaken_46 : decode cX3_wayTaken 46 = .ok (.iload 7, 2) := by decide +kernel
theorem dX3_wayTaken_48 : decode cX3_wayTaken 48 = .ok (.ireturn, 1) := by decide +kernel
theorem dX3_wayTaken_49 : decode cX3_wayTaken 49 = .ok (.aload_n 0, 1) := by decide +kernel
theorem dX3_wayTaken_50 : decode cX3_wayTaken 50 = .ok (.getfield 21, 3) := by decide +kernel
theorem dX3_wayTaken_53 : decode cX3_wayTaken 53 = .ok (.getfield 29, 3) := by decide +kernel
theorem dX3_wayTaken_56 : decode cX3_wayTaken 56 = .ok (.iload 5, 2) := by decide +kernel
theorem dX3_wayTaken_58 : decode cX3_wayTaken 58 = .ok (.iload 7, 2) := by decide +kernel
theorem dX3_wayTaken_60 : decode cX3_wayTaken 60 = .ok (.invokevirtual 41, 3) := by decide +kernel
theorem dX3_wayTaken_63 : decode cX3_wayTaken 63 = .ok (.istore 5, 2) := by decide +kernel
theorem dX3_wayTaken_65 : decode cX3_wayTaken 65 = .ok (.iinc 6 1, 3) := by decide +kernel
theorem dX3_wayTaken_68 : decode cX3_wayTaken 68 = .ok (.goto (-62), 3) := by decide +kernel
theorem dX3_wayTaken_71 : decode cX3_wayTaken 71 = .ok (.iconst (-1), 1) := by decide +kernel
theorem dX3_wayTaken_72 : decode cX3_wayTaken 72 = .ok (.ireturn, 1) := by decide +kernel
theorem dX4_init_0 : decode cX4_init 0 = .ok (.aload_n 0, 1) := by decide +kernel
theorem dX4_init_1 : decode cX4_init 1 = .ok (.invokespecial 3, 3) := by decide +kernel
theorem dX4_init_4 : decode cX4_init 4 = .ok (.aload_n 0, 1) := by decide +kernel
theorem dX4_init_5 : decode cX4_init 5 = .ok (.bipush 12, 2) := by decide +kernel
theorem dX4_init_7 : decode cX4_init 7 = .ok (.newarray .int, 2) := by decide +kernel
theorem dX4_init_9 : decode cX4_init 9 = .ok (.putfield 9, 3) := by decide +kernel
theorem dX4_init_12 : decode cX4_init 12 = .ok (.aload_n 0, 1) := by decide +kernel
theorem dX4_init_13 : decode cX4_init 13 = .ok (.bipush 12, 2) := by decide +kernel
theorem dX4_init_15 : decode cX4_init 15 = .ok (.newarray .int, 2) := by decide +kernel
theorem dX4_init_17 : decode cX4_init 17 = .ok (.putfield 15, 3) := by decide +kernel
theorem dX4_init_20 : decode cX4_init 20 = .ok (.aload_n 0, 1) := by decide +kernel
theorem dX4_init_21 : decode cX4_init 21 = .ok (.bipush 12, 2) := by decide +kernel
theorem dX4_init_23 : decode cX4_init 23 = .ok (.newarray .int, 2) := by decide +kernel
theorem dX4_init_25 : decode cX4_init 25 = .ok (.putfield 18, 3) := by decide +kernel
theorem dX4_init_28 : decode cX4_init 28 = .ok (.aload_n 0, 1) := by decide +kernel
theorem dX4_init_29 : decode cX4_init 29 = .ok (.sipush 729, 3) := by decide +kernel
theorem dX4_init_32 : decode cX4_init 32 = .ok (.newarray .int, 2) := by decide +kernel
theorem dX4_init_34 : decode cX4_init 34 = .ok (.putfield 21, 3) := by decide +kernel
theorem dX4_init_37 : decode cX4_init 37 = .ok (.aload_n 0, 1) := by decide +kernel
theorem dX4_init_38 : decode cX4_init 38 = .ok (.bipush 55, 2) := by decide +kernel
theorem dX4_init_40 : decode cX4_init 40 = .ok (.newarray .int, 2) := by decide +kernel
theorem dX4_init_42 : decode cX4_init 42 = .ok (.putfield 24, 3) := by decide +kernel
theorem dX4_init_45 : decode cX4_init 45 = .ok (.aload_n 0, 1) := by decide +kernel
theorem dX4_init_46 : decode cX4_init 46 = .ok (.aload_n 1, 1) := by decide +kernel
theorem dX4_init_47 : decode cX4_init 47 = .ok (.putfield 27, 3) := by decide +kernel
theorem dX4_init_50 : decode cX4_init 50 = .ok (.return_, 1) := by decide +kernel
theorem dX4_add_0 : decode cX4_add 0 = .ok (.aload_n 0, 1) := by decide +kernel
theorem dX4_add_1 : decode cX4_add 1 = .ok (.getfield 31, 3) := by decide +kernel
theorem dX4_add_4 : decode cX4_add 4 = .ok (.bipush 12, 2) := by decide +kernel
theorem dX4_add_6 : decode cX4_add 6 = .ok (.if_icmp .ge 43, 3) := by decide +kernel
theorem dX4_add_9 : decode cX4_add 9 = .ok (.aload_n 0, 1) := by decide +kernel
theorem dX4_add_10 : decode cX4_add 10 = .ok (.getfield 9, 3) := by decide +kernel
theorem dX4_add_13 : decode cX4_add 13 = .ok (.aload_n 0, 1) := by decide +kernel
theorem dX4_add_14 : decode cX4_add 14 = .ok (.getfield 31, 3) := by decide +kernel
theorem dX4_add_17 : decode cX4_add 17 = .ok (.iload_n 1, 1) := by decide +kernel
theorem dX4_add_18 : decode cX4_add 18 = .ok (.iastore, 1) := by decide +kernel
theorem dX4_add_19 : decode cX4_add 19 = .ok (.aload_n 0, 1) := by decide +kernel
theorem dX4_add_20 : decode cX4_add 20 = .ok (.getfield 15, 3) := by decide +kernel
theorem dX4_add_23 : decode cX4_add 23 = .ok (.aload_n 0, 1) := by decide +kernel
theorem dX4_add_24 : decode cX4_add 24 = .ok (.getfield 31, 3) := by decide +kernel
theorem dX4_add_27 : decode cX4_add 27 = .ok (.iload_n 2, 1) := by decide +kernel
theorem dX4_add_28 : decode cX4_add 28 = .ok (.iastore, 1) := by decide +kernel
theorem dX4_add_29 : decode cX4_add 29 = .ok (.aload_n 0, 1) := by decide +kernel
theorem dX4_add_30 : decode cX4_add 30 = .ok (.getfield 18, 3) := by decide +kernel
theorem dX4_add_33 : decode cX4_add 33 = .ok (.aload_n 0, 1) := by decide +kernel
theorem dX4_add_34 : decode cX4_add 34 = .ok (.getfield 31, 3) := by decide +kernel
theorem dX4_add_37 : decode cX4_add 37 = .ok (.iload_n 3, 1) := by decide +kernel
theorem dX4_add_38 : decode cX4_add 38 = .ok (.iastore, 1) := by decide +kernel
theorem dX4_add_39 : decode cX4_add 39 = .ok (.aload_n 0, 1) := by decide +kernel
theorem dX4_add_40 : decode cX4_add 40 = .ok (.dup, 1) := by decide +kernel
theorem dX4_add_41 : decode cX4_add 41 = .ok (.getfield 31, 3) := by decide +kernel
theorem dX4_add_44 : decode cX4_add 44 = .ok (.iconst 1, 1) := by decide +kernel
theorem dX4_add_45 : decode cX4_add 45 = .ok (.iadd, 1) := by decide +kernel
theorem dX4_add_46 : decode cX4_add 46 = .ok (.putfield 31, 3) := by decide +kernel
theorem dX4_add_49 : decode cX4_add 49 = .ok (.return_, 1) := by decide +kernel
theorem dX4_findFits_0 : decode cX4_findFits 0 = .ok (.aload_n 0, 1) := by decide +kernel
theorem dX4_findFits_1 : decode cX4_findFits 1 = .ok (.getfield 27, 3) := by decide +kernel
theorem dX4_findFits_4 : decode cX4_findFits 4 = .ok (.getfield 35, 3) := by decide +kernel
theorem dX4_findFits_7 : decode cX4_findFits 7 = .ok (.getfield 41, 3) := by decide +kernel
theorem dX4_findFits_10 : decode cX4_findFits 10 = .ok (.astore_n 1, 1) := by decide +kernel
theorem dX4_findFits_11 : decode cX4_findFits 11 = .ok (.aload_n 0, 1) := by decide +kernel
theorem dX4_findFits_12 : decode cX4_findFits 12 = .ok (.iconst 0, 1) := by decide +kernel
theorem dX4_findFits_13 : decode cX4_findFits 13 = .ok (.putfield 47, 3) := by decide +kernel
theorem dX4_findFits_16 : decode cX4_findFits 16 = .ok (.iconst 0, 1) := by decide +kernel
theorem dX4_findFits_17 : decode cX4_findFits 17 = .ok (.istore_n 2, 1) := by decide +kernel
theorem dX4_findFits_18 : decode cX4_findFits 18 = .ok (.iload_n 2, 1) := by decide +kernel
theorem dX4_findFits_19 : decode cX4_findFits 19 = .ok (.aload_n 1, 1) := by decide +kernel
theorem dX4_findFits_20 : decode cX4_findFits 20 = .ok (.iconst 0, 1) := by decide +kernel
theorem dX4_findFits_21 : decode cX4_findFits 21 = .ok (.aaload, 1) := by decide +kernel
theorem dX4_findFits_22 : decode cX4_findFits 22 = .ok (.getfield 50, 3) := by decide +kernel
theorem dX4_findFits_25 : decode cX4_findFits 25 = .ok (.if_icmp .ge 62, 3) := by decide +kernel
theorem dX4_findFits_28 : decode cX4_findFits 28 = .ok (.iconst 0, 1) := by decide +kernel
theorem dX4_findFits_29 : decode cX4_findFits 29 = .ok (.istore_n 3, 1) := by decide +kernel
theorem dX4_findFits_30 : decode cX4_findFits 30 = .ok (.iload_n 3, 1) := by decide +kernel
theorem dX4_findFits_31 : decode cX4_findFits 31 = .ok (.aload_n 1, 1) := by decide +kernel
theorem dX4_findFits_32 : decode cX4_findFits 32 = .ok (.iconst 1, 1) := by decide +kernel
theorem dX4_findFits_33 : decode cX4_findFits 33 = .ok (.aaload, 1) := by decide +kernel
theorem dX4_findFits_34 : decode cX4_findFits 34 = .ok (.getfield 50, 3) := by decide +kernel
theorem dX4_findFits_37 : decode cX4_findFits 37 = .ok (.if_icmp .ge 44, 3) := by decide +kernel
theorem dX4_findFits_40 : decode cX4_findFits 40 = .ok (.iconst 0, 1) := by decide +kernel
theorem dX4_findFits_41 : decode cX4_findFits 41 = .ok (.istore 4, 2) := by decide +kernel
theorem dX4_findFits_43 : decode cX4_findFits 43 = .ok (.iload 4, 2) := by decide +kernel
theorem dX4_findFits_45 : decode cX4_findFits 45 = .ok (.aload_n 1, 1) := by decide +kernel
theorem dX4_findFits_46 : decode cX4_findFits 46 = .ok (.iconst 2, 1) := by decide +kernel
theorem dX4_findFits_47 : decode cX4_findFits 47 = .ok (.aaload, 1) := by decide +kernel
theorem dX4_findFits_48 : decode cX4_findFits 48 = .ok (.getfield 50, 3) := by decide +kernel
theorem dX4_findFits_51 : decode cX4_findFits 51 = .ok (.if_icmp .ge 24, 3) := by decide +kernel
theorem dX4_findFits_54 : decode cX4_findFits 54 = .ok (.aload_n 0, 1) := by decide +kernel
theorem dX4_findFits_55 : decode cX4_findFits 55 = .ok (.iload_n 2, 1) := by decide +kernel
theorem dX4_findFits_56 : decode cX4_findFits 56 = .ok (.iload_n 3, 1) := by decide +kernel
theorem dX4_findFits_57 : decode cX4_findFits 57 = .ok (.iconst 4, 1) := by decide +kernel
theorem dX4_findFits_58 : decode cX4_findFits 58 = .ok (.ishl, 1) := by decide +kernel
theorem dX4_findFits_59 : decode cX4_findFits 59 = .ok (.ior, 1) := by decide +kernel
theorem dX4_findFits_60 : decode cX4_findFits 60 = .ok (.iload 4, 2) := by decide +kernel
theorem dX4_findFits_62 : decode cX4_findFits 62 = .ok (.bipush 8, 2) := by decide +kernel
theorem dX4_findFits_64 : decode cX4_findFits 64 = .ok (.ishl, 1) := by decide +kernel
theorem dX4_findFits_65 : decode cX4_findFits 65 = .ok (.ior, 1) := by decide +kernel
theorem dX4_findFits_66 : decode cX4_findFits 66 = .ok (.invokevirtual 55, 3) := by decide +kernel
theorem dX4_findFits_69 : decode cX4_findFits 69 = .ok (.iinc 4 1, 3) := by decide +kernel
theorem dX4_findFits_72 : decode cX4_findFits 72 = .ok (.goto (-29), 3) := by decide +kernel
theorem dX4_findFits_75 : decode cX4_findFits 75 = .ok (.iinc 3 1, 3) := by decide +kernel
theorem dX4_findFits_78 : decode cX4_findFits 78 = .ok (.goto (-48), 3) := by decide +kernel
theorem dX4_findFits_81 : decode cX4_findFits 81 = .ok (.iinc 2 1, 3) := by decide +kernel
theorem dX4_findFits_84 : decode cX4_findFits 84 = .ok (.goto (-66), 3) := by decide +kernel
theorem dX4_findFits_87 : decode cX4_findFits 87 = .ok (.aload_n 0, 1) := by decide +kernel
theorem dX4_findFits_88 : decode cX4_findFits 88 = .ok (.getfield 47, 3) := by decide +kernel
theorem dX4_findFits_91 : decode cX4_findFits 91 = .ok (.ireturn, 1) := by decide +kernel
theorem dX4_addIfFit_0 : decode cX4_addIfFit 0 = .ok (.iconst 0, 1) := by decide +kernel
theorem dX4_addIfFit_1 : decode cX4_addIfFit 1 = .ok (.istore_n 2, 1) := by decide +kernel
theorem dX4_addIfFit_2 : decode cX4_addIfFit 2 = .ok (.iload_n 2, 1) := by decide +kernel
theorem dX4_addIfFit_3 : decode cX4_addIfFit 3 = .ok (.aload_n 0, 1) := by decide +kernel
theorem dX4_addIfFit_4 : decode cX4_addIfFit 4 = .ok (.getfield 31, 3) := by decide +kernel
theorem dX4_addIfFit_7 : decode cX4_addIfFit 7 = .ok (.if_icmp .ge 60, 3) := by decide +kernel
theorem dX4_addIfFit_10 : decode cX4_addIfFit 10 = .ok (.aload_n 0, 1) := by decide +kernel
theorem dX4_addIfFit_11 : decode cX4_addIfFit 11 = .ok (.getfield 9, 3) := by decide +kernel
theorem dX4_addIfFit_14 : decode cX4_addIfFit 14 = .ok (.iload_n 2, 1) := by decide +kernel
theorem dX4_addIfFit_15 : decode cX4_addIfFit 15 = .ok (.iaload, 1) := by decide +kernel
theorem dX4_addIfFit_16 : decode cX4_addIfFit 16 = .ok (.istore_n 3, 1) := by decide +kernel
theorem dX4_addIfFit_17 : decode cX4_addIfFit 17 = .ok (.aload_n 0, 1) := by decide +kernel
theorem dX4_addIfFit_18 : decode cX4_addIfFit 18 = .ok (.getfield 27, 3) := by decide +kernel
theorem dX4_addIfFit_21 : decode cX4_addIfFit 21 = .ok (.getfield 35, 3) := by decide +kernel
theorem dX4_addIfFit_24 : decode cX4_addIfFit 24 = .ok (.getfield 59, 3) := by decide +kernel
theorem dX4_addIfFit_27 : decode cX4_addIfFit 27 = .ok (.iload_n 3, 1) := by decide +kernel
theorem dX4_addIfFit_28 : decode cX4_addIfFit 28 = .ok (.iaload, 1) := by decide +kernel
theorem dX4_addIfFit_29 : decode cX4_addIfFit 29 = .ok (.aload_n 0, 1) := by decide +kernel
theorem dX4_addIfFit_30 : decode cX4_addIfFit 30 = .ok (.getfield 27, 3) := by decide +kernel
theorem dX4_addIfFit_33 : decode cX4_addIfFit 33 = .ok (.iload_n 3, 1) := by decide +kernel
theorem dX4_addIfFit_34 : decode cX4_addIfFit 34 = .ok (.invokevirtual 62, 3) := by decide +kernel
theorem dX4_addIfFit_37 : decode cX4_addIfFit 37 = .ok (.aload_n 0, 1) := by decide +kernel
theorem dX4_addIfFit_38 : decode cX4_addIfFit 38 = .ok (.iload_n 1, 1) := by decide +kernel
theorem dX4_addIfFit_39 : decode cX4_addIfFit 39 = .ok (.iload_n 3, 1) := by decide +kernel
theorem dX4_addIfFit_40 : decode cX4_addIfFit 40 = .ok (.aload_n 0, 1) := by decide +kernel
theorem dX4_addIfFit_41 : decode cX4_addIfFit 41 = .ok (.getfield 15, 3) := by decide +kernel
theorem dX4_addIfFit_44 : decode cX4_addIfFit 44 = .ok (.iload_n 2, 1) := by decide +kernel
theorem dX4_addIfFit_45 : decode cX4_addIfFit 45 = .ok (.iaload, 1) := by decide +kernel
theorem dX4_addIfFit_46 : decode cX4_addIfFit 46 = .ok (.invokevirtual 66, 3) := by decide +kernel
theorem dX4_addIfFit_49 : decode cX4_addIfFit 49 = .ok (.imul, 1) := by decide +kernel
theorem dX4_addIfFit_50 : decode cX4_addIfFit 50 = .ok (.iadd, 1) := by decide +kernel
theorem dX4_addIfFit_51 : decode cX4_addIfFit 51 = .ok (.aload_n 0, 1) := by decide +kernel
theorem dX4_addIfFit_52 : decode cX4_addIfFit 52 = .ok (.getfield 18, 3) := by decide +kernel
theorem dX4_addIfFit_55 : decode cX4_addIfFit 55 = .ok (.iload_n 2, 1) := by decide +kernel
theorem dX4_addIfFit_56 : decode cX4_addIfFit 56 = .ok (.iaload, 1) := by decide +kernel
theorem dX4_addIfFit_57 : decode cX4_addIfFit 57 = .ok (.if_icmp .eq 4, 3) := by decide +kernel
theorem dX4_addIfFit_60 : decode cX4_addIfFit 60 = .ok (.return_, 1) := by decide +kernel
theorem dX4_addIfFit_61 : decode cX4_addIfFit 61 = .ok (.iinc 2 1, 3) := by decide +kernel
theorem dX4_addIfFit_64 : decode cX4_addIfFit 64 = .ok (.goto (-62), 3) := by decide +kernel
theorem dX4_addIfFit_67 : decode cX4_addIfFit 67 = .ok (.aload_n 0, 1) := by decide +kernel
theorem dX4_addIfFit_68 : decode cX4_addIfFit 68 = .ok (.getfield 47, 3) := by decide +kernel
theorem dX4_addIfFit_71 : decode cX4_addIfFit 71 = .ok (.sipush 729, 3) := by decide +kernel
theorem dX4_addIfFit_74 : decode cX4_addIfFit 74 = .ok (.if_icmp .ge 23, 3) := by decide +kernel
theorem dX4_addIfFit_77 : decode cX4_addIfFit 77 = .ok (.aload_n 0, 1) := by decide +kernel
theorem dX4_addIfFit_78 : decode cX4_addIfFit 78 = .ok (.getfield 21, 3) := by decide +kernel
theorem dX4_addIfFit_81 : decode cX4_addIfFit 81 = .ok (.aload_n 0, 1) := by decide +kernel
theorem dX4_addIfFit_82 : decode cX4_addIfFit 82 = .ok (.getfield 47, 3) := by decide +kernel
theorem dX4_addIfFit_85 : decode cX4_addIfFit 85 = .ok (.iload_n 1, 1) := by decide +kernel
theorem dX4_addIfFit_86 : decode cX4_addIfFit 86 = .ok (.iastore, 1) := by decide +kernel
theorem dX4_addIfFit_87 : decode cX4_addIfFit 87 = .ok (.aload_n 0, 1) := by decide +kernel
theorem dX4_addIfFit_88 : decode cX4_addIfFit 88 = .ok (.dup, 1) := by decide +kernel
theorem dX4_addIfFit_89 : decode cX4_addIfFit 89 = .ok (.getfield 47, 3) := by decide +kernel
theorem dX4_addIfFit_92 : decode cX4_addIfFit 92 = .ok (.iconst 1, 1) := by decide +kernel
theorem dX4_addIfFit_93 : decode cX4_addIfFit 93 = .ok (.iadd, 1) := by decide +kernel
theorem dX4_addIfFit_94 : decode cX4_addIfFit 94 = .ok (.putfield 47, 3) := by decide +kernel
theorem dX4_addIfFit_97 : decode cX4_addIfFit 97 = .ok (.return_, 1) := by decide +kernel
theorem dX4_pullBy_0 : decode cX4_pullBy 0 = .ok (.iconst 0, 1) := by decide +kernel
theorem dX4_pullBy_1 : decode cX4_pullBy 1 = .ok (.istore 4, 2) := by decide +kernel
theorem dX4_pullBy_3 : decode cX4_pullBy 3 = .ok (.iconst 0, 1) := by decide +kernel
theorem dX4_pullBy_4 : decode cX4_pullBy 4 = .ok (.istore 5, 2) := by decide +kernel
theorem dX4_pullBy_6 : decode cX4_pullBy 6 = .ok (.iload 5, 2) := by decide +kernel
theorem dX4_pullBy_8 : decode cX4_pullBy 8 = .ok (.iconst 3, 1) := by decide +kernel
theorem dX4_pullBy_9 : decode cX4_pullBy 9 = .ok (.if_icmp .ge 38, 3) := by decide +kernel
theorem dX4_pullBy_12 : decode cX4_pullBy 12 = .ok (.iload 4, 2) := by decide +kernel
theorem dX4_pullBy_14 : decode cX4_pullBy 14 = .ok (.aload_n 0, 1) := by decide +kernel
theorem dX4_pullBy_15 : decode cX4_pullBy 15 = .ok (.getfield 27, 3) := by decide +kernel
theorem dX4_pullBy_18 : decode cX4_pullBy 18 = .ok (.getfield 35, 3) := by decide +kernel
theorem dX4_pullBy_21 : decode cX4_pullBy 21 = .ok (.getfield 41, 3) := by decide +kernel
theorem dX4_pullBy_24 : decode cX4_pullBy 24 = .ok (.iload 5, 2) := by decide +kernel
theorem dX4_pullBy_26 : decode cX4_pullBy 26 = .ok (.aaload, 1) := by decide +kernel
theorem dX4_pullBy_27 : decode cX4_pullBy 27 = .ok (.iload_n 2, 1) := by decide +kernel
theorem dX4_pullBy_28 : decode cX4_pullBy 28 = .ok (.iload_n 3, 1) := by decide +kernel
theorem dX4_pullBy_29 : decode cX4_pullBy 29 = .ok (.iload_n 1, 1) := by decide +kernel
theorem dX4_pullBy_30 : decode cX4_pullBy 30 = .ok (.iload 5, 2) := by decide +kernel
theorem dX4_pullBy_32 : decode cX4_pullBy 32 = .ok (.invokestatic 70, 3) := by decide +kernel
theorem dX4_pullBy_35 : decode cX4_pullBy 35 = .ok (.invokevirtual 74, 3) := by decide +kernel
theorem dX4_pullBy_38 : decode cX4_pullBy 38 = .ok (.iadd, 1) := by decide +kernel
theorem dX4_pullBy_39 : decode cX4_pullBy 39 = .ok (.istore 4, 2) := by decide +kernel
theorem dX4_pullBy_41 : decode cX4_pullBy 41 = .ok (.iinc 5 1, 3) := by decide +kernel
theorem dX4_pullBy_44 : decode cX4_pullBy 44 = .ok (.goto (-38), 3) := by decide +kernel
theorem dX4_pullBy_47 : decode cX4_pullBy 47 = .ok (.iload 4, 2) := by decide +kernel
theorem dX4_pullBy_49 : decode cX4_pullBy 49 = .ok (.ireturn, 1) := by decide +kernel
theorem dX4_shiftOf_0 : decode cX4_shiftOf 0 = .ok (.iload_n 0, 1) := by decide +kernel
theorem dX4_shiftOf_1 : decode cX4_shiftOf 1 = .ok (.iconst 4, 1) := by decide +kernel
theorem dX4_shiftOf_2 : decode cX4_shiftOf 2 = .ok (.iload_n 1, 1) := by decide +kernel
theorem dX4_shiftOf_3 : decode cX4_shiftOf 3 = .ok (.imul, 1) := by decide +kernel
theorem dX4_shiftOf_4 : decode cX4_shiftOf 4 = .ok (.ishr, 1) := by decide +kernel
theorem dX4_shiftOf_5 : decode cX4_shiftOf 5 = .ok (.bipush 15, 2) := by decide +kernel
theorem dX4_shiftOf_7 : decode cX4_shiftOf 7 = .ok (.iand, 1) := by decide +kernel
theorem dX4_shiftOf_8 : decode cX4_shiftOf 8 = .ok (.ireturn, 1) := by decide +kernel
theorem dX4_shiftIn_0 : decode cX4_shiftIn 0 = .ok (.iload_n 1, 1) := by decide +kernel
theorem dX4_shiftIn_1 : decode cX4_shiftIn 1 = .ok (.ifCond .lt 11, 3) := by decide +kernel
theorem dX4_shiftIn_4 : decode cX4_shiftIn 4 = .ok (.iload_n 1, 1) := by decide +kernel
theorem dX4_shiftIn_5 : decode cX4_shiftIn 5 = .ok (.aload_n 0, 1) := by decide +kernel
theorem dX4_shiftIn_6 : decode cX4_shiftIn 6 = .ok (.getfield 47, 3) := by decide +kernel
theorem dX4_shiftIn_9 : decode cX4_shiftIn 9 = .ok (.if_icmp .lt 7, 3) := by decide +kernel
theorem dX4_shiftIn_12 : decode cX4_shiftIn 12 = .ok (.iconst (-1), 1) := by decide +kernel
theorem dX4_shiftIn_13 : decode cX4_shiftIn 13 = .ok (.goto 13, 3) := by decide +kernel
theorem dX4_shiftIn_16 : decode cX4_shiftIn 16 = .ok (.aload_n 0, 1) := by decide +kernel
theorem dX4_shiftIn_17 : decode cX4_shiftIn 17 = .ok (.getfield 21, 3) := by decide +kernel
theorem dX4_shiftIn_20 : decode cX4_shiftIn 20 = .ok (.iload_n 1, 1) := by decide +kernel
theorem dX4_shiftIn_21 : decode cX4_shiftIn 21 = .ok (.iaload, 1) := by decide +kernel
theorem dX4_shiftIn_22 : decode cX4_shiftIn 22 = .ok (.iload_n 2, 1) := by decide +kernel
theorem dX4_shiftIn_23 : decode cX4_shiftIn 23 = .ok (.invokestatic 70, 3) := by decide +kernel
theorem dX4_shiftIn_26 : decode cX4_shiftIn 26 = .ok (.ireturn, 1) := by decide +kernel
theorem dX4_findBestLook_0 : decode cX4_findBestLook 0 = .ok (.aload_n 0, 1) := by decide +kernel
theorem dX4_findBestLook_1 : decode cX4_findBestLook 1 = .ok (.invokevirtual 77, 3) := by decide +kernel
theorem dX4_findBestLook_4 : decode cX4_findBestLook 4 = .ok (.pop, 1) := by decide +kernel
theorem dX4_findBestLook_5 : decode cX4_findBestLook 5 = .ok (.aload_n 0, 1) := by decide +kernel
theorem dX4_findBestLook_6 : decode cX4_findBestLook 6 = .ok (.getfield 47, 3) := by decide +kernel
theorem dX4_findBestLook_9 : decode cX4_findBestLook 9 = .ok (.istore_n 1, 1) := by decide +kernel
theorem dX4_findBestLook_10 : decode cX4_findBestLook 10 = .ok (.iconst 0, 1) := by decide +kernel
theorem dX4_findBestLook_11 : decode cX4_findBestLook 11 = .ok (.istore_n 2, 1) := by decide +kernel
theorem dX4_findBestLook_12 : decode cX4_findBestLook 12 = .ok (.iload_n 2, 1) := by decide +kernel
theorem dX4_findBestLook_13 : decode cX4_findBestLook 13 = .ok (.bipush 12, 2) := by decide +kernel
theorem dX4_findBestLook_15 : decode cX4_findBestLook 15 = .ok (.if_icmp .ge 65, 3) := by decide +kernel
theorem dX4_findBestLook_18 : decode cX4_findBestLook 18 = .ok (.iconst 0, 1) := by decide +kernel
theorem dX4_findBestLook_19 : decode cX4_findBestLook 19 = .ok (.istore_n 3, 1) := by decide +kernel
theorem dX4_findBestLook_20 : decode cX4_findBestLook 20 = .ok (.iload_n 3, 1) := by decide +kernel
theorem dX4_findBestLook_21 : decode cX4_findBestLook 21 = .ok (.aload_n 0, 1) := by decide +kernel
theorem dX4_findBestLook_22 : decode cX4_findBestLook 22 = .ok (.getfield 27, 3) := by decide +kernel
theorem dX4_findBestLook_25 : decode cX4_findBestLook 25 = .ok (.getfield 35, 3) := by decide +kernel
theorem dX4_findBestLook_28 : decode cX4_findBestLook 28 = .ok (.getfield 81, 3) := by decide +kernel
theorem dX4_findBestLook_31 : decode cX4_findBestLook 31 = .ok (.if_icmp .ge 43, 3) := by decide +kernel
theorem dX4_findBestLook_34 : decode cX4_findBestLook 34 = .ok (.aload_n 0, 1) := by decide +kernel
theorem dX4_findBestLook_35 : decode cX4_findBestLook 35 = .ok (.iload_n 3, 1) := by decide +kernel
theorem dX4_findBestLook_36 : decode cX4_findBestLook 36 = .ok (.iload_n 2, 1) := by decide +kernel
theorem dX4_findBestLook_37 : decode cX4_findBestLook 37 = .ok (.iload_n 1, 1) := by decide +kernel
theorem dX4_findBestLook_38 : decode cX4_findBestLook 38 = .ok (.invokevirtual 83, 3) := by decide +kernel
theorem dX4_findBestLook_41 : decode cX4_findBestLook 41 = .ok (.istore 4, 2) := by decide +kernel
theorem dX4_findBestLook_43 : decode cX4_findBestLook 43 = .ok (.iload 4, 2) := by decide +kernel
theorem dX4_findBestLook_45 : decode cX4_findBestLook 45 = .ok (.iload_n 1, 1) := by decide +kernel
theorem dX4_findBestLook_46 : decode cX4_findBestLook 46 = .ok (.if_icmp .ge 22, 3) := by decide +kernel
theorem dX4_findBestLook_49 : decode cX4_findBestLook 49 = .ok (.iload 4, 2) := by decide +kernel
theorem dX4_findBestLook_51 : decode cX4_findBestLook 51 = .ok (.istore_n 1, 1) := by decide +kernel
theorem dX4_findBestLook_52 : decode cX4_findBestLook 52 = .ok (.aload_n 0, 1) := by decide +kernel
theorem dX4_findBestLook_53 : decode cX4_findBestLook 53 = .ok (.iload_n 3, 1) := by decide +kernel
theorem dX4_findBestLook_54 : decode cX4_findBestLook 54 = .ok (.putfield 86, 3) := by decide +kernel
theorem dX4_findBestLook_57 : decode cX4_findBestLook 57 = .ok (.aload_n 0, 1) := by decide +kernel
theorem dX4_findBestLook_58 : decode cX4_findBestLook 58 = .ok (.iload_n 2, 1) := by decide +kernel
theorem dX4_findBestLook_59 : decode cX4_findBestLook 59 = .ok (.putfield 89, 3) := by decide +kernel
theorem dX4_findBestLook_62 : decode cX4_findBestLook 62 = .ok (.aload_n 0, 1) := by decide +kernel
theorem dX4_findBestLook_63 : decode cX4_findBestLook 63 = .ok (.iload 4, 2) := by decide +kernel
theorem dX4_findBestLook_65 : decode cX4_findBestLook 65 = .ok (.putfield 92, 3) := by decide +kernel
theorem dX4_findBestLook_68 : decode cX4_findBestLook 68 = .ok (.iinc 3 1, 3) := by decide +kernel
theorem dX4_findBestLook_71 : decode cX4_findBestLook 71 = .ok (.goto (-51), 3) := by decide +kernel
theorem dX4_findBestLook_74 : decode cX4_findBestLook 74 = .ok (.iinc 2 1, 3) := by decide +kernel
theorem dX4_findBestLook_77 : decode cX4_findBestLook 77 = .ok (.goto (-65), 3) := by decide +kernel
theorem dX4_findBestLook_80 : decode cX4_findBestLook 80 = .ok (.iload_n 1, 1) := by decide +kernel
theorem dX4_findBestLook_81 : decode cX4_findBestLook 81 = .ok (.aload_n 0, 1) := by decide +kernel
theorem dX4_findBestLook_82 : decode cX4_findBestLook 82 = .ok (.getfield 47, 3) := by decide +kernel
theorem dX4_findBestLook_85 : decode cX4_findBestLook 85 = .ok (.if_icmp .ge 7, 3) := by decide +kernel
theorem dX4_findBestLook_88 : decode cX4_findBestLook 88 = .ok (.iconst 1, 1) := by decide +kernel
theorem dX4_findBestLook_89 : decode cX4_findBestLook 89 = .ok (.goto 4, 3) := by decide +kernel
theorem dX4_findBestLook_92 : decode cX4_findBestLook 92 = .ok (.iconst 0, 1) := by decide +kernel
theorem dX4_findBestLook_93 : decode cX4_findBestLook 93 = .ok (.ireturn, 1) := by decide +kernel
theorem dX4_mostAlike_0 : decode cX4_mostAlike 0 = .ok (.aload_n 0, 1) := by decide +kernel
theorem dX4_mostAlike_1 : decode cX4_mostAlike 1 = .ok (.getfield 27, 3) := by decide +kernel
theorem dX4_mostAlike_4 : decode cX4_mostAlike 4 = .ok (.iload_n 1, 1) := by decide +kernel
theorem dX4_mostAlike_5 : decode cX4_mostAlike 5 = .ok (.invokevirtual 62, 3) := by decide +kernel
theorem dX4_mostAlike_8 : decode cX4_mostAlike 8 = .ok (.ifCond .ne 8, 3) := by decide +kernel
theorem dX4_mostAlike_11 : decode cX4_mostAlike 11 = .ok (.aload_n 0, 1) := by decide +kernel
theorem dX4_mostAlike_12 : decode cX4_mostAlike 12 = .ok (.getfield 47, 3) := by decide +kernel
theorem dX4_mostAlike_15 : decode cX4_mostAlike 15 = .ok (.ireturn, 1) := by decide +kernel
theorem dX4_mostAlike_16 : decode cX4_mostAlike 16 = .ok (.iconst 0, 1) := by decide +kernel
theorem dX4_mostAlike_17 : decode cX4_mostAlike 17 = .ok (.istore 4, 2) := by decide +kernel
theorem dX4_mostAlike_19 : decode cX4_mostAlike 19 = .ok (.iload 4, 2) := by decide +kernel
theorem dX4_mostAlike_21 : decode cX4_mostAlike 21 = .ok (.aload_n 0, 1) := by decide +kernel
theorem dX4_mostAlike_22 : decode cX4_mostAlike 22 = .ok (.getfield 24, 3) := by decide +kernel
theorem dX4_mostAlike_25 : decode cX4_mostAlike 25 = .ok (.arraylength, 1) := by decide +kernel
theorem dX4_mostAlike_26 : decode cX4_mostAlike 26 = .ok (.if_icmp .ge 17, 3) := by decide +kernel
theorem dX4_mostAlike_29 : decode cX4_mostAlike 29 = .ok (.aload_n 0, 1) := by decide +kernel
theorem dX4_mostAlike_30 : decode cX4_mostAlike 30 = .ok (.getfield 24, 3) := by decide +kernel
theorem dX4_mostAlike_33 : decode cX4_mostAlike 33 = .ok (.iload 4, 2) := by decide +kernel
theorem dX4_mostAlike_35 : decode cX4_mostAlike 35 = .ok (.iconst 0, 1) := by decide +kernel
theorem dX4_mostAlike_36 : decode cX4_mostAlike 36 = .ok (.iastore, 1) := by decide +kernel
theorem dX4_mostAlike_37 : decode cX4_mostAlike 37 = .ok (.iinc 4 1, 3) := by decide +kernel
theorem dX4_mostAlike_40 : decode cX4_mostAlike 40 = .ok (.goto (-21), 3) := by decide +kernel
theorem dX4_mostAlike_43 : decode cX4_mostAlike 43 = .ok (.aload_n 0, 1) := by decide +kernel
theorem dX4_mostAlike_44 : decode cX4_mostAlike 44 = .ok (.getfield 27, 3) := by decide +kernel
theorem dX4_mostAlike_47 : decode cX4_mostAlike 47 = .ok (.getfield 35, 3) := by decide +kernel
theorem dX4_mostAlike_50 : decode cX4_mostAlike 50 = .ok (.getfield 41, 3) := by decide +kernel
theorem dX4_mostAlike_53 : decode cX4_mostAlike 53 = .ok (.astore 4, 2) := by decide +kernel
theorem dX4_mostAlike_55 : decode cX4_mostAlike 55 = .ok (.aload 4, 2) := by decide +kernel
theorem dX4_mostAlike_57 : decode cX4_mostAlike 57 = .ok (.iconst 0, 1) := by decide +kernel
theorem dX4_mostAlike_58 : decode cX4_mostAlike 58 = .ok (.aaload, 1) := by decide +kernel
theorem dX4_mostAlike_59 : decode cX4_mostAlike 59 = .ok (.iload_n 1, 1) := by decide +kernel
theorem dX4_mostAlike_60 : decode cX4_mostAlike 60 = .ok (.iload_n 2, 1) := by decide +kernel
theorem dX4_mostAlike_61 : decode cX4_mostAlike 61 = .ok (.invokevirtual 95, 3) := by decide +kernel
theorem dX4_mostAlike_64 : decode cX4_mostAlike 64 = .ok (.istore 5, 2) := by decide +kernel
theorem dX4_mostAlike_66 : decode cX4_mostAlike 66 = .ok (.aload 4, 2) := by decide +kernel
theorem dX4_mostAlike_68 : decode cX4_mostAlike 68 = .ok (.iconst 1, 1) := by decide +kernel
theorem dX4_mostAlike_69 : decode cX4_mostAlike 69 = .ok (.aaload, 1) := by decide +kernel
theorem dX4_mostAlike_70 : decode cX4_mostAlike 70 = .ok (.iload_n 1, 1) := by decide +kernel
theorem dX4_mostAlike_71 : decode cX4_mostAlike 71 = .ok (.iload_n 2, 1) := by decide +kernel
theorem dX4_mostAlike_72 : decode cX4_mostAlike 72 = .ok (.invokevirtual 95, 3) := by decide +kernel
theorem dX4_mostAlike_75 : decode cX4_mostAlike 75 = .ok (.istore 6, 2) := by decide +kernel
theorem dX4_mostAlike_77 : decode cX4_mostAlike 77 = .ok (.aload 4, 2) := by decide +kernel
theorem dX4_mostAlike_79 : decode cX4_mostAlike 79 = .ok (.iconst 2, 1) := by decide +kernel
theorem dX4_mostAlike_80 : decode cX4_mostAlike 80 = .ok (.aaload, 1) := by decide +kernel
theorem dX4_mostAlike_81 : decode cX4_mostAlike 81 = .ok (.iload_n 1, 1) := by decide +kernel
theorem dX4_mostAlike_82 : decode cX4_mostAlike 82 = .ok (.iload_n 2, 1) := by decide +kernel
theorem dX4_mostAlike_83 : decode cX4_mostAlike 83 = .ok (.invokevirtual 95, 3) := by decide +kernel
theorem dX4_mostAlike_86 : decode cX4_mostAlike 86 = .ok (.istore 7, 2) := by decide +kernel
theorem dX4_mostAlike_88 : decode cX4_mostAlike 88 = .ok (.iconst 0, 1) := by decide +kernel
theorem dX4_mostAlike_89 : decode cX4_mostAlike 89 = .ok (.istore 8, 2) := by decide +kernel
theorem dX4_mostAlike_91 : decode cX4_mostAlike 91 = .ok (.iconst 0, 1) := by decide +kernel
theorem dX4_mostAlike_92 : decode cX4_mostAlike 92 = .ok (.istore 9, 2) := by decide +kernel
theorem dX4_mostAlike_94 : decode cX4_mostAlike 94 = .ok (.iload 9, 2) := by decide +kernel
theorem dX4_mostAlike_96 : decode cX4_mostAlike 96 = .ok (.aload_n 0, 1) := by decide +kernel
theorem dX4_mostAlike_97 : decode cX4_mostAlike 97 = .ok (.getfield 47, 3) := by decide +kernel
theorem dX4_mostAlike_100 : decode cX4_mostAlike 100 = .ok (.if_icmp .ge 109, 3) := by decide +kernel
theorem dX4_mostAlike_103 : decode cX4_mostAlike 103 = .ok (.iload 8, 2) := by decide +kernel
theorem dX4_mostAlike_105 : decode cX4_mostAlike 105 = .ok (.iload_n 3, 1) := by decide +kernel
theorem dX4_mostAlike_106 : decode cX4_mostAlike 106 = .ok (.if_icmp .ge 103, 3) := by decide +kernel
theorem dX4_mostAlike_109 : decode cX4_mostAlike 109 = .ok (.aload_n 0, 1) := by decide +kernel
theorem dX4_mostAlike_110 : decode cX4_mostAlike 110 = .ok (.getfield 21, 3) := by decide +kernel
theorem dX4_mostAlike_113 : decode cX4_mostAlike 113 = .ok (.iload 9, 2) := by decide +kernel
theorem dX4_mostAlike_115 : decode cX4_mostAlike 115 = .ok (.iaload, 1) := by decide +kernel
theorem dX4_mostAlike_116 : decode cX4_mostAlike 116 = .ok (.istore 10, 2) := by decide +kernel
theorem dX4_mostAlike_118 : decode cX4_mostAlike 118 = .ok (.aload 4, 2) := by decide +kernel
theorem dX4_mostAlike_120 : decode cX4_mostAlike 120 = .ok (.iconst 0, 1) := by decide +kernel
theorem dX4_mostAlike_121 : decode cX4_mostAlike 121 = .ok (.aaload, 1) := by decide +kernel
theorem dX4_mostAlike_122 : decode cX4_mostAlike 122 = .ok (.getfield 98, 3) := by decide +kernel
theorem dX4_mostAlike_125 : decode cX4_mostAlike 125 = .ok (.iload 5, 2) := by decide +kernel
theorem dX4_mostAlike_127 : decode cX4_mostAlike 127 = .ok (.iload 10, 2) := by decide +kernel
theorem dX4_mostAlike_129 : decode cX4_mostAlike 129 = .ok (.bipush 15, 2) := by decide +kernel
theorem dX4_mostAlike_131 : decode cX4_mostAlike 131 = .ok (.iand, 1) := by decide +kernel
theorem dX4_mostAlike_132 : decode cX4_mostAlike 132 = .ok (.iadd, 1) := by decide +kernel
theorem dX4_mostAlike_133 : decode cX4_mostAlike 133 = .ok (.iaload, 1) := by decide +kernel
theorem dX4_mostAlike_134 : decode cX4_mostAlike 134 = .ok (.aload 4, 2) := by decide +kernel
theorem dX4_mostAlike_136 : decode cX4_mostAlike 136 = .ok (.iconst 1, 1) := by decide +kernel
theorem dX4_mostAlike_137 : decode cX4_mostAlike 137 = .ok (.aaload, 1) := by decide +kernel
theorem dX4_mostAlike_138 : decode cX4_mostAlike 138 = .ok (.getfield 98, 3) := by decide +kernel
theorem dX4_mostAlike_141 : decode cX4_mostAlike 141 = .ok (.iload 6, 2) := by decide +kernel
theorem dX4_mostAlike_143 : decode cX4_mostAlike 143 = .ok (.iload 10, 2) := by decide +kernel
theorem dX4_mostAlike_145 : decode cX4_mostAlike 145 = .ok (.iconst 4, 1) := by decide +kernel
theorem dX4_mostAlike_146 : decode cX4_mostAlike 146 = .ok (.ishr, 1) := by decide +kernel
theorem dX4_mostAlike_147 : decode cX4_mostAlike 147 = .ok (.bipush 15, 2) := by decide +kernel
theorem dX4_mostAlike_149 : decode cX4_mostAlike 149 = .ok (.iand, 1) := by decide +kernel
theorem dX4_mostAlike_150 : decode cX4_mostAlike 150 = .ok (.iadd, 1) := by decide +kernel
theorem dX4_mostAlike_151 : decode cX4_mostAlike 151 = .ok (.iaload, 1) := by decide +kernel
theorem dX4_mostAlike_152 : decode cX4_mostAlike 152 = .ok (.iadd, 1) := by decide +kernel
theorem dX4_mostAlike_153 : decode cX4_mostAlike 153 = .ok (.aload 4, 2) := by decide +kernel
theorem dX4_mostAlike_155 : decode cX4_mostAlike 155 = .ok (.iconst 2, 1) := by decide +kernel
theorem dX4_mostAlike_156 : decode cX4_mostAlike 156 = .ok (.aaload, 1) := by decide +kernel
theorem dX4_mostAlike_157 : decode cX4_mostAlike 157 = .ok (.getfield 98, 3) := by decide +kernel
theorem dX4_mostAlike_160 : decode cX4_mostAlike 160 = .ok (.iload 7, 2) := by decide +kernel
theorem dX4_mostAlike_162 : decode cX4_mostAlike 162 = .ok (.iload 10, 2) := by decide +kernel
theorem dX4_mostAlike_164 : decode cX4_mostAlike 164 = .ok (.bipush 8, 2) := by decide +kernel
theorem dX4_mostAlike_166 : decode cX4_mostAlike 166 = .ok (.ishr, 1) := by decide +kernel
theorem dX4_mostAlike_167 : decode cX4_mostAlike 167 = .ok (.bipush 15, 2) := by decide +kernel
theorem dX4_mostAlike_169 : decode cX4_mostAlike 169 = .ok (.iand, 1) := by decide +kernel
theorem dX4_mostAlike_170 : decode cX4_mostAlike 170 = .ok (.iadd, 1) := by decide +kernel
theorem dX4_mostAlike_171 : decode cX4_mostAlike 171 = .ok (.iaload, 1) := by decide +kernel
theorem dX4_mostAlike_172 : decode cX4_mostAlike 172 = .ok (.iadd, 1) := by decide +kernel
theorem dX4_mostAlike_173 : decode cX4_mostAlike 173 = .ok (.bipush 27, 2) := by decide +kernel
theorem dX4_mostAlike_175 : decode cX4_mostAlike 175 = .ok (.iadd, 1) := by decide +kernel
theorem dX4_mostAlike_176 : decode cX4_mostAlike 176 = .ok (.istore 11, 2) := by decide +kernel
theorem dX4_mostAlike_178 : decode cX4_mostAlike 178 = .ok (.aload_n 0, 1) := by decide +kernel
theorem dX4_mostAlike_179 : decode cX4_mostAlike 179 = .ok (.getfield 24, 3) := by decide +kernel
theorem dX4_mostAlike_182 : decode cX4_mostAlike 182 = .ok (.iload 11, 2) := by decide +kernel
theorem dX4_mostAlike_184 : decode cX4_mostAlike 184 = .ok (.dup2, 1) := by decide +kernel
theorem dX4_mostAlike_185 : decode cX4_mostAlike 185 = .ok (.iaload, 1) := by decide +kernel
theorem dX4_mostAlike_186 : decode cX4_mostAlike 186 = .ok (.iconst 1, 1) := by decide +kernel
theorem dX4_mostAlike_187 : decode cX4_mostAlike 187 = .ok (.iadd, 1) := by decide +kernel
theorem dX4_mostAlike_188 : decode cX4_mostAlike 188 = .ok (.iastore, 1) := by decide +kernel
theorem dX4_mostAlike_189 : decode cX4_mostAlike 189 = .ok (.iload 8, 2) := by decide +kernel
theorem dX4_mostAlike_191 : decode cX4_mostAlike 191 = .ok (.aload_n 0, 1) := by decide +kernel
theorem dX4_mostAlike_192 : decode cX4_mostAlike 192 = .ok (.getfield 24, 3) := by decide +kernel
theorem dX4_mostAlike_195 : decode cX4_mostAlike 195 = .ok (.iload 11, 2) := by decide +kernel
theorem dX4_mostAlike_197 : decode cX4_mostAlike 197 = .ok (.iaload, 1) := by decide +kernel
theorem dX4_mostAlike_198 : decode cX4_mostAlike 198 = .ok (.invokestatic 101, 3) := by decide +kernel
theorem dX4_mostAlike_201 : decode cX4_mostAlike 201 = .ok (.istore 8, 2) := by decide +kernel
theorem dX4_mostAlike_203 : decode cX4_mostAlike 203 = .ok (.iinc 9 1, 3) := by decide +kernel
theorem dX4_mostAlike_206 : decode cX4_mostAlike 206 = .ok (.goto (-112), 3) := by decide +kernel
theorem dX4_mostAlike_209 : decode cX4_mostAlike 209 = .ok (.iload 8, 2) := by decide +kernel
theorem dX4_mostAlike_211 : decode cX4_mostAlike 211 = .ok (.ireturn, 1) := by decide +kernel
theorem dX5_init_0 : decode cX5_init 0 = .ok (.aload_n 0, 1) := by decide +kernel
theorem dX5_init_1 : decode cX5_init 1 = .ok (.invokespecial 3, 3) := by decide +kernel
theorem dX5_init_4 : decode cX5_init 4 = .ok (.aload_n 0, 1) := by decide +kernel
theorem dX5_init_5 : decode cX5_init 5 = .ok (.bipush 6, 2) := by decide +kernel
theorem dX5_init_7 : decode cX5_init 7 = .ok (.newarray .int, 2) := by decide +kernel
theorem dX5_init_9 : decode cX5_init 9 = .ok (.putfield 9, 3) := by decide +kernel
theorem dX5_init_12 : decode cX5_init 12 = .ok (.aload_n 0, 1) := by decide +kernel
theorem dX5_init_13 : decode cX5_init 13 = .ok (.bipush 6, 2) := by decide +kernel
theorem dX5_init_15 : decode cX5_init 15 = .ok (.newarray .int, 2) := by decide +kernel
theorem dX5_init_17 : decode cX5_init 17 = .ok (.putfield 15, 3) := by decide +kernel
theorem dX5_init_20 : decode cX5_init 20 = .ok (.aload_n 0, 1) := by decide +kernel
theorem dX5_init_21 : decode cX5_init 21 = .ok (.bipush 6, 2) := by decide +kernel
theorem dX5_init_23 : decode cX5_init 23 = .ok (.newarray .int, 2) := by decide +kernel
theorem dX5_init_25 : decode cX5_init 25 = .ok (.putfield 18, 3) := by decide +kernel
theorem dX5_init_28 : decode cX5_init 28 = .ok (.return_, 1) := by decide +kernel
theorem dX5_has_0 : decode cX5_has 0 = .ok (.iload_n 1, 1) := by decide +kernel
theorem dX5_has_1 : decode cX5_has 1 = .ok (.ifCond .lt 15, 3) := by decide +kernel
theorem dX5_has_4 : decode cX5_has 4 = .ok (.iload_n 1, 1) := by decide +kernel
theorem dX5_has_5 : decode cX5_has 5 = .ok (.aload_n 0, 1) := by decide +kernel
theorem dX5_has_6 : decode cX5_has 6 = .ok (.getfield 21, 3) := by decide +kernel
theorem dX5_has_9 : decode cX5_has 9 = .ok (.if_icmp .ge 7, 3) := by decide +kernel
theorem dX5_has_12 : decode cX5_has 12 = .ok (.iconst 1, 1) := by decide +kernel
theorem dX5_has_13 : decode cX5_has 13 = .ok (.goto 4, 3) := by decide +kernel
theorem dX5_has_16 : decode cX5_has 16 = .ok (.iconst 0, 1) := by decide +kernel
theorem dX5_has_17 : decode cX5_has 17 = .ok (.ireturn, 1) := by decide +kernel
theorem dX5_stands_0 : decode cX5_stands 0 = .ok (.iconst 0, 1) := by decide +kernel
theorem dX5_stands_1 : decode cX5_stands 1 = .ok (.istore_n 2, 1) := by decide +kernel
theorem dX5_stands_2 : decode cX5_stands 2 = .ok (.iload_n 2, 1) := by decide +kernel
theorem dX5_stands_3 : decode cX5_stands 3 = .ok (.aload_n 0, 1) := by decide +kernel
theorem dX5_stands_4 : decode cX5_stands 4 = .ok (.getfield 21, 3) := by decide +kernel
theorem dX5_stands_7 : decode cX5_stands 7 = .ok (.if_icmp .ge 21, 3) := by decide +kernel
theorem dX5_stands_10 : decode cX5_stands 10 = .ok (.aload_n 0, 1) := by decide +kernel
theorem dX5_stands_11 : decode cX5_stands 11 = .ok (.getfield 9, 3) := by decide +kernel
theorem dX5_stands_14 : decode cX5_stands 14 = .ok (.iload_n 2, 1) := by decide +kernel
theorem dX5_stands_15 : decode cX5_stands 15 = .ok (.iaload, 1) := by decide +kernel
theorem dX5_stands_16 : decode cX5_stands 16 = .ok (.iload_n 1, 1) := by decide +kernel
theorem dX5_stands_17 : decode cX5_stands 17 = .ok (.if_icmp .ne 5, 3) := by decide +kernel
theorem dX5_stands_20 : decode cX5_stands 20 = .ok (.iconst 1, 1) := by decide +kernel
theorem dX5_stands_21 : decode cX5_stands 21 = .ok (.ireturn, 1) := by decide +kernel
theorem dX5_stands_22 : decode cX5_stands 22 = .ok (.iinc 2 1, 3) := by decide +kernel
theorem dX5_stands_25 : decode cX5_stands 25 = .ok (.goto (-23), 3) := by decide +kernel
theorem dX5_stands_28 : decode cX5_stands 28 = .ok (.iconst 0, 1) := by decide +kernel
theorem dX5_stands_29 : decode cX5_stands 29 = .ok (.ireturn, 1) := by decide +kernel
theorem dX5_find_0 : decode cX5_find 0 = .ok (.iconst 0, 1) := by decide +kernel
theorem dX5_find_1 : decode cX5_find 1 = .ok (.istore_n 3, 1) := by decide +kernel
theorem dX5_find_2 : decode cX5_find 2 = .ok (.iload_n 3, 1) := by decide +kernel
theorem dX5_find_3 : decode cX5_find 3 = .ok (.aload_n 0, 1) := by decide +kernel
theorem dX5_find_4 : decode cX5_find 4 = .ok (.getfield 21, 3) := by decide +kernel
theorem dX5_find_7 : decode cX5_find 7 = .ok (.if_icmp .ge 31, 3) := by decide +kernel
theorem dX5_find_10 : decode cX5_find 10 = .ok (.aload_n 0, 1) := by decide +kernel
theorem dX5_find_11 : decode cX5_find 11 = .ok (.getfield 9, 3) := by decide +kernel
theorem dX5_find_14 : decode cX5_find 14 = .ok (.iload_n 3, 1) := by decide +kernel
theorem dX5_find_15 : decode cX5_find 15 = .ok (.iaload, 1) := by decide +kernel
theorem dX5_find_16 : decode cX5_find 16 = .ok (.iload_n 1, 1) := by decide +kernel
theorem dX5_find_17 : decode cX5_find 17 = .ok (.if_icmp .ne 15, 3) := by decide +kernel
theorem dX5_find_20 : decode cX5_find 20 = .ok (.aload_n 0, 1) := by decide +kernel
theorem dX5_find_21 : decode cX5_find 21 = .ok (.getfield 15, 3) := by decide +kernel
theorem dX5_find_24 : decode cX5_find 24 = .ok (.iload_n 3, 1) := by decide +kernel
theorem dX5_find_25 : decode cX5_find 25 = .ok (.iaload, 1) := by decide +kernel
theorem dX5_find_26 : decode cX5_find 26 = .ok (.iload_n 2, 1) := by decide +kernel
theorem dX5_find_27 : decode cX5_find 27 = .ok (.if_icmp .ne 5, 3) := by decide +kernel
theorem dX5_find_30 : decode cX5_find 30 = .ok (.iload_n 3, 1) := by decide +kernel
theorem dX5_find_31 : decode cX5_find 31 = .ok (.ireturn, 1) := by decide +kernel
theorem dX5_find_32 : decode cX5_find 32 = .ok (.iinc 3 1, 3) := by decide +kernel
theorem dX5_find_35 : decode cX5_find 35 = .ok (.goto (-33), 3) := by decide +kernel
theorem dX5_find_38 : decode cX5_find 38 = .ok (.iconst (-1), 1) := by decide +kernel
theorem dX5_find_39 : decode cX5_find 39 = .ok (.ireturn, 1) := by decide +kernel
theorem dX5_add_0 : decode cX5_add 0 = .ok (.aload_n 0, 1) := by decide +kernel
theorem dX5_add_1 : decode cX5_add 1 = .ok (.getfield 21, 3) := by decide +kernel
theorem dX5_add_4 : decode cX5_add 4 = .ok (.bipush 6, 2) := by decide +kernel
theorem dX5_add_6 : decode cX5_add 6 = .ok (.if_icmp .ge 43, 3) := by decide +kernel
theorem dX5_add_9 : decode cX5_add 9 = .ok (.aload_n 0, 1) := by decide +kernel
theorem dX5_add_10 : decode cX5_add 10 = .ok (.getfield 9, 3) := by decide +kernel
theorem dX5_add_13 : decode cX5_add 13 = .ok (.aload_n 0, 1) := by decide +kernel
theorem dX5_add_14 : decode cX5_add 14 = .ok (.getfield 21, 3) := by decide +kernel
theorem dX5_add_17 : decode cX5_add 17 = .ok (.iload_n 1, 1) := by decide +kernel
theorem dX5_add_18 : decode cX5_add 18 = .ok (.iastore, 1) := by decide +kernel
theorem dX5_add_19 : decode cX5_add 19 = .ok (.aload_n 0, 1) := by decide +kernel
theorem dX5_add_20 : decode cX5_add 20 = .ok (.getfield 15, 3) := by decide +kernel
theorem dX5_add_23 : decode cX5_add 23 = .ok (.aload_n 0, 1) := by decide +kernel
theorem dX5_add_24 : decode cX5_add 24 = .ok (.getfield 21, 3) := by decide +kernel
theorem dX5_add_27 : decode cX5_add 27 = .ok (.iload_n 2, 1) := by decide +kernel
theorem dX5_add_28 : decode cX5_add 28 = .ok (.iastore, 1) := by decide +kernel
theorem dX5_add_29 : decode cX5_add 29 = .ok (.aload_n 0, 1) := by decide +kernel
theorem dX5_add_30 : decode cX5_add 30 = .ok (.getfield 18, 3) := by decide +kernel
theorem dX5_add_33 : decode cX5_add 33 = .ok (.aload_n 0, 1) := by decide +kernel
theorem dX5_add_34 : decode cX5_add 34 = .ok (.getfield 21, 3) := by decide +kernel
theorem dX5_add_37 : decode cX5_add 37 = .ok (.iload_n 3, 1) := by decide +kernel
theorem dX5_add_38 : decode cX5_add 38 = .ok (.iastore, 1) := by decide +kernel
theorem dX5_add_39 : decode cX5_add 39 = .ok (.aload_n 0, 1) := by decide +kernel
theorem dX5_add_40 : decode cX5_add 40 = .ok (.dup, 1) := by decide +kernel
theorem dX5_add_41 : decode cX5_add 41 = .ok (.getfield 21, 3) := by decide +kernel
theorem dX5_add_44 : decode cX5_add 44 = .ok (.iconst 1, 1) := by decide +kernel
theorem dX5_add_45 : decode cX5_add 45 = .ok (.iadd, 1) := by decide +kernel
theorem dX5_add_46 : decode cX5_add 46 = .ok (.putfield 21, 3) := by decide +kernel
theorem dX5_add_49 : decode cX5_add 49 = .ok (.return_, 1) := by decide +kernel
theorem dX6_init_0 : decode cX6_init 0 = .ok (.aload_n 0, 1) := by decide +kernel
theorem dX6_init_1 : decode cX6_init 1 = .ok (.invokespecial 3, 3) := by decide +kernel
theorem dX6_init_4 : decode cX6_init 4 = .ok (.aload_n 0, 1) := by decide +kernel
theorem dX6_init_5 : decode cX6_init 5 = .ok (.iconst 3, 1) := by decide +kernel
theorem dX6_init_6 : decode cX6_init 6 = .ok (.newarray .int, 2) := by decide +kernel
theorem dX6_init_8 : decode cX6_init 8 = .ok (.putfield 9, 3) := by decide +kernel
theorem dX6_init_11 : decode cX6_init 11 = .ok (.aload_n 0, 1) := by decide +kernel
theorem dX6_init_12 : decode cX6_init 12 = .ok (.bipush 24, 2) := by decide +kernel
theorem dX6_init_14 : decode cX6_init 14 = .ok (.newarray .int, 2) := by decide +kernel
theorem dX6_init_16 : decode cX6_init 16 = .ok (.putfield 15, 3) := by decide +kernel
theorem dX6_init_19 : decode cX6_init 19 = .ok (.aload_n 0, 1) := by decide +kernel
theorem dX6_init_20 : decode cX6_init 20 = .ok (.bipush 6, 2) := by decide +kernel
theorem dX6_init_22 : decode cX6_init 22 = .ok (.newarray .int, 2) := by decide +kernel
theorem dX6_init_24 : decode cX6_init 24 = .ok (.putfield 18, 3) := by decide +kernel
theorem dX6_init_27 : decode cX6_init 27 = .ok (.aload_n 0, 1) := by decide +kernel
theorem dX6_init_28 : decode cX6_init 28 = .ok (.bipush 20, 2) := by decide +kernel
theorem dX6_init_30 : decode cX6_init 30 = .ok (.putfield 21, 3) := by decide +kernel
theorem dX6_init_33 : decode cX6_init 33 = .ok (.return_, 1) := by decide +kernel
theorem dX6_restart_0 : decode cX6_restart 0 = .ok (.aload_n 0, 1) := by decide +kernel
theorem dX6_restart_1 : decode cX6_restart 1 = .ok (.iconst 0, 1) := by decide +kernel
theorem dX6_restart_2 : decode cX6_restart 2 = .ok (.putfield 25, 3) := by decide +kernel
theorem dX6_restart_5 : decode cX6_restart 5 = .ok (.iconst 0, 1) := by decide +kernel
theorem dX6_restart_6 : decode cX6_restart 6 = .ok (.istore_n 1, 1) := by decide +kernel
theorem dX6_restart_7 : decode cX6_restart 7 = .ok (.iload_n 1, 1) := by decide +kernel
theorem dX6_restart_8 : decode cX6_restart 8 = .ok (.iconst 3, 1) := by decide +kernel
theorem dX6_restart_9 : decode cX6_restart 9 = .ok (.if_icmp .ge 16, 3) := by decide +kernel
theorem dX6_restart_12 : decode cX6_restart 12 = .ok (.aload_n 0, 1) := by decide +kernel
theorem dX6_restart_13 : decode cX6_restart 13 = .ok (.getfield 9, 3) := by decide +kernel
theorem dX6_restart_16 : decode cX6_restart 16 = .ok (.iload_n 1, 1) := by decide +kernel
theorem dX6_restart_17 : decode cX6_restart 17 = .ok (.iconst 0, 1) := by decide +kernel
theorem dX6_restart_18 : decode cX6_restart 18 = .ok (.iastore, 1) := by decide +kernel
theorem dX6_restart_19 : decode cX6_restart 19 = .ok (.iinc 1 1, 3) := by decide +kernel
theorem dX6_restart_22 : decode cX6_restart 22 = .ok (.goto (-15), 3) := by decide +kernel
theorem dX6_restart_25 : decode cX6_restart 25 = .ok (.iconst 0, 1) := by decide +kernel
theorem dX6_restart_26 : decode cX6_restart 26 = .ok (.istore_n 1, 1) := by decide +kernel
theorem dX6_restart_27 : decode cX6_restart 27 = .ok (.iload_n 1, 1) := by decide +kernel
theorem dX6_restart_28 : decode cX6_restart 28 = .ok (.bipush 24, 2) := by decide +kernel
theorem dX6_restart_30 : decode cX6_restart 30 = .ok (.if_icmp .ge 16, 3) := by decide +kernel
theorem dX6_restart_33 : decode cX6_restart 33 = .ok (.aload_n 0, 1) := by decide +kernel
theorem dX6_restart_34 : decode cX6_restart 34 = .ok (.getfield 15, 3) := by decide +kernel
theorem dX6_restart_37 : decode cX6_restart 37 = .ok (.iload_n 1, 1) := by decide +kernel
theorem dX6_restart_38 : decode cX6_restart 38 = .ok (.iconst 0, 1) := by decide +kernel
theorem dX6_restart_39 : decode cX6_restart 39 = .ok (.iastore, 1) := by decide +kernel
theorem dX6_restart_40 : decode cX6_restart 40 = .ok (.iinc 1 1, 3) := by decide +kernel
theorem dX6_restart_43 : decode cX6_restart 43 = .ok (.goto (-16), 3) := by decide +kernel
theorem dX6_restart_46 : decode cX6_restart 46 = .ok (.iconst 0, 1) := by decide +kernel
theorem dX6_restart_47 : decode cX6_restart 47 = .ok (.istore_n 1, 1) := by decide +kernel
theorem dX6_restart_48 : decode cX6_restart 48 = .ok (.iload_n 1, 1) := by decide +kernel
theorem dX6_restart_49 : decode cX6_restart 49 = .ok (.bipush 6, 2) := by decide +kernel
theorem dX6_restart_51 : decode cX6_restart 51 = .ok (.if_icmp .ge 16, 3) := by decide +kernel
theorem dX6_restart_54 : decode cX6_restart 54 = .ok (.aload_n 0, 1) := by decide +kernel
theorem dX6_restart_55 : decode cX6_restart 55 = .ok (.getfield 18, 3) := by decide +kernel
theorem dX6_restart_58 : decode cX6_restart 58 = .ok (.iload_n 1, 1) := by decide +kernel
theorem dX6_restart_59 : decode cX6_restart 59 = .ok (.iconst 0, 1) := by decide +kernel
theorem dX6_restart_60 : decode cX6_restart 60 = .ok (.iastore, 1) := by decide +kernel
theorem dX6_restart_61 : decode cX6_restart 61 = .ok (.iinc 1 1, 3) := by decide +kernel
theorem dX6_restart_64 : decode cX6_restart 64 = .ok (.goto (-16), 3) := by decide +kernel
theorem dX6_restart_67 : decode cX6_restart 67 = .ok (.aload_n 0, 1) := by decide +kernel
theorem dX6_restart_68 : decode cX6_restart 68 = .ok (.iconst 0, 1) := by decide +kernel
theorem dX6_restart_69 : decode cX6_restart 69 = .ok (.putfield 28, 3) := by decide +kernel
theorem dX6_restart_72 : decode cX6_restart 72 = .ok (.aload_n 0, 1) := by decide +kernel
theorem dX6_restart_73 : decode cX6_restart 73 = .ok (.iconst 0, 1) := by decide +kernel
theorem dX6_restart_74 : decode cX6_restart 74 = .ok (.putfield 31, 3) := by decide +kernel
theorem dX6_restart_77 : decode cX6_restart 77 = .ok (.aload_n 0, 1) := by decide +kernel
theorem dX6_restart_78 : decode cX6_restart 78 = .ok (.bipush 20, 2) := by decide +kernel
theorem dX6_restart_80 : decode cX6_restart 80 = .ok (.putfield 21, 3) := by decide +kernel
theorem dX6_restart_83 : decode cX6_restart 83 = .ok (.return_, 1) := by decide +kernel
theorem dX6_copyFrom_0 : decode cX6_copyFrom 0 = .ok (.aload_n 0, 1) := by decide +kernel
theorem dX6_copyFrom_1 : decode cX6_copyFrom 1 = .ok (.aload_n 1, 1) := by decide +kernel
theorem dX6_copyFrom_2 : decode cX6_copyFrom 2 = .ok (.getfield 25, 3) := by decide +kernel
theorem dX6_copyFrom_5 : decode cX6_copyFrom 5 = .ok (.putfield 25, 3) := by decide +kernel
theorem dX6_copyFrom_8 : decode cX6_copyFrom 8 = .ok (.iconst 0, 1) := by decide +kernel
theorem dX6_copyFrom_9 : decode cX6_copyFrom 9 = .ok (.istore_n 2, 1) := by decide +kernel
theorem dX6_copyFrom_10 : decode cX6_copyFrom 10 = .ok (.iload_n 2, 1) := by decide +kernel
theorem dX6_copyFrom_11 : decode cX6_copyFrom 11 = .ok (.iconst 3, 1) := by decide +kernel
theorem dX6_copyFrom_12 : decode cX6_copyFrom 12 = .ok (.if_icmp .ge 21, 3) := by decide +kernel
theorem dX6_copyFrom_15 : decode cX6_copyFrom 15 = .ok (.aload_n 0, 1) := by decide +kernel
theorem dX6_copyFrom_16 : decode cX6_copyFrom 16 = .ok (.getfield 9, 3) := by decide +kernel
theorem dX6_copyFrom_19 : decode cX6_copyFrom 19 = .ok (.iload_n 2, 1) := by decide +kernel
theorem dX6_copyFrom_20 : decode cX6_copyFrom 20 = .ok (.aload_n 1, 1) := by decide +kernel
theorem dX6_copyFrom_21 : decode cX6_copyFrom 21 = .ok (.getfield 9, 3) := by decide +kernel
theorem dX6_copyFrom_24 : decode cX6_copyFrom 24 = .ok (.iload_n 2, 1) := by decide +kernel
theorem dX6_copyFrom_25 : decode cX6_copyFrom 25 = .ok (.iaload, 1) := by decide +kernel
theorem dX6_copyFrom_26 : decode cX6_copyFrom 26 = .ok (.iastore, 1) := by decide +kernel
theorem dX6_copyFrom_27 : decode cX6_copyFrom 27 = .ok (.iinc 2 1, 3) := by decide +kernel
theorem dX6_copyFrom_30 : decode cX6_copyFrom 30 = .ok (.goto (-20), 3) := by decide +kernel
theorem dX6_copyFrom_33 : decode cX6_copyFrom 33 = .ok (.iconst 0, 1) := by decide +kernel
theorem dX6_copyFrom_34 : decode cX6_copyFrom 34 = .ok (.istore_n 2, 1) := by decide +kernel
theorem dX6_copyFrom_35 : decode cX6_copyFrom 35 = .ok (.iload_n 2, 1) := by decide +kernel
theorem dX6_copyFrom_36 : decode cX6_copyFrom 36 = .ok (.bipush 24, 2) := by decide +kernel
theorem dX6_copyFrom_38 : decode cX6_copyFrom 38 = .ok (.if_icmp .ge 21, 3) := by decide +kernel
theorem dX6_copyFrom_41 : decode cX6_copyFrom 41 = .ok (.aload_n 0, 1) := by decide +kernel
theorem dX6_copyFrom_42 : decode cX6_copyFrom 42 = .ok (.getfield 15, 3) := by decide +kernel
theorem dX6_copyFrom_45 : decode cX6_copyFrom 45 = .ok (.iload_n 2, 1) := by decide +kernel
theorem dX6_copyFrom_46 : decode cX6_copyFrom 46 = .ok (.aload_n 1, 1) := by decide +kernel
theorem dX6_copyFrom_47 : decode cX6_copyFrom 47 = .ok (.getfield 15, 3) := by decide +kernel
theorem dX6_copyFrom_50 : decode cX6_copyFrom 50 = .ok (.iload_n 2, 1) := by decide +kernel
theorem dX6_copyFrom_51 : decode cX6_copyFrom 51 = .ok (.iaload, 1) := by decide +kernel
theorem dX6_copyFrom_52 : decode cX6_copyFrom 52 = .ok (.iastore, 1) := by decide +kernel
theorem dX6_copyFrom_53 : decode cX6_copyFrom 53 = .ok (.iinc 2 1, 3) := by decide +kernel
theorem dX6_copyFrom_56 : decode cX6_copyFrom 56 = .ok (.goto (-21), 3) := by decide +kernel
theorem dX6_copyFrom_59 : decode cX6_copyFrom 59 = .ok (.iconst 0, 1) := by decide +kernel
theorem dX6_copyFrom_60 : decode cX6_copyFrom 60 = .ok (.istore_n 2, 1) := by decide +kernel
theorem dX6_copyFrom_61 : decode cX6_copyFrom 61 = .ok (.iload_n 2, 1) := by decide +kernel
theorem dX6_copyFrom_62 : decode cX6_copyFrom 62 = .ok (.bipush 6, 2) := by decide +kernel
theorem dX6_copyFrom_64 : decode cX6_copyFrom 64 = .ok (.if_icmp .ge 21, 3) := by decide +kernel
theorem dX6_copyFrom_67 : decode cX6_copyFrom 67 = .ok (.aload_n 0, 1) := by decide +kernel
theorem dX6_copyFrom_68 : decode cX6_copyFrom 68 = .ok (.getfield 18, 3) := by decide +kernel
theorem dX6_copyFrom_71 : decode cX6_copyFrom 71 = .ok (.iload_n 2, 1) := by decide +kernel
theorem dX6_copyFrom_72 : decode cX6_copyFrom 72 = .ok (.aload_n 1, 1) := by decide +kernel
theorem dX6_copyFrom_73 : decode cX6_copyFrom 73 = .ok (.getfield 18, 3) := by decide +kernel
theorem dX6_copyFrom_76 : decode cX6_copyFrom 76 = .ok (.iload_n 2, 1) := by decide +kernel
theorem dX6_copyFrom_77 : decode cX6_copyFrom 77 = .ok (.iaload, 1) := by decide +kernel
theorem dX6_copyFrom_78 : decode cX6_copyFrom 78 = .ok (.iastore, 1) := by decide +kernel
theorem dX6_copyFrom_79 : decode cX6_copyFrom 79 = .ok (.iinc 2 1, 3) := by decide +kernel
theorem dX6_copyFrom_82 : decode cX6_copyFrom 82 = .ok (.goto (-21), 3) := by decide +kernel
theorem dX6_copyFrom_85 : decode cX6_copyFrom 85 = .ok (.aload_n 0, 1) := by decide +kernel
theorem dX6_copyFrom_86 : decode cX6_copyFrom 86 = .ok (.aload_n 1, 1) := by decide +kernel
theorem dX6_copyFrom_87 : decode cX6_copyFrom 87 = .ok (.getfield 28, 3) := by decide +kernel
theorem dX6_copyFrom_90 : decode cX6_copyFrom 90 = .ok (.putfield 28, 3) := by decide +kernel
theorem dX6_copyFrom_93 : decode cX6_copyFrom 93 = .ok (.aload_n 0, 1) := by decide +kernel
theorem dX6_copyFrom_94 : decode cX6_copyFrom 94 = .ok (.aload_n 1, 1) := by decide +kernel
theorem dX6_copyFrom_95 : decode cX6_copyFrom 95 = .ok (.getfield 31, 3) := by decide +kernel
theorem dX6_copyFrom_98 : decode cX6_copyFrom 98 = .ok (.putfield 31, 3) := by decide +kernel
theorem dX6_copyFrom_101 : decode cX6_copyFrom 101 = .ok (.aload_n 0, 1) := by decide +kernel
theorem dX6_copyFrom_102 : decode cX6_copyFrom 102 = .ok (.aload_n 1, 1) := by decide +kernel
theorem dX6_copyFrom_103 : decode cX6_copyFrom 103 = .ok (.getfield 21, 3) := by decide +kernel
theorem dX6_copyFrom_106 : decode cX6_copyFrom 106 = .ok (.putfield 21, 3) := by decide +kernel
theorem dX6_copyFrom_109 : decode cX6_copyFrom 109 = .ok (.aload_n 0, 1) := by decide +kernel
theorem dX6_copyFrom_110 : decode cX6_copyFrom 110 = .ok (.aload_n 1, 1) := by decide +kernel
theorem dX6_copyFrom_111 : decode cX6_copyFrom 111 = .ok (.getfield 34, 3) := by decide +kernel
theorem dX6_copyFrom_114 : decode cX6_copyFrom 114 = .ok (.putfield 34, 3) := by decide +kernel
theorem dX6_copyFrom_117 : decode cX6_copyFrom 117 = .ok (.return_, 1) := by decide +kernel
theorem dX7_init_0 : decode cX7_init 0 = .ok (.aload_n 0, 1) := by decide +kernel
theorem dX7_init_1 : decode cX7_init 1 = .ok (.invokespecial 3, 3) := by decide +kernel
theorem dX7_init_4 : decode cX7_init 4 = .ok (.aload_n 0, 1) := by decide +kernel
theorem dX7_init_5 : decode cX7_init 5 = .ok (.iconst 5, 1) := by decide +kernel
theorem dX7_init_6 : decode cX7_init 6 = .ok (.newarray .int, 2) := by decide +kernel
theorem dX7_init_8 : decode cX7_init 8 = .ok (.putfield 9, 3) := by decide +kernel
theorem dX7_init_11 : decode cX7_init 11 = .ok (.aload_n 0, 1) := by decide +kernel
theorem dX7_init_12 : decode cX7_init 12 = .ok (.iconst 5, 1) := by decide +kernel
theorem dX7_init_13 : decode cX7_init 13 = .ok (.newarray .int, 2) := by decide +kernel
theorem dX7_init_15 : decode cX7_init 15 = .ok (.putfield 15, 3) := by decide +kernel
theorem dX7_init_18 : decode cX7_init 18 = .ok (.aload_n 0, 1) := by decide +kernel
theorem dX7_init_19 : decode cX7_init 19 = .ok (.aload_n 1, 1) := by decide +kernel
theorem dX7_init_20 : decode cX7_init 20 = .ok (.putfield 18, 3) := by decide +kernel
theorem dX7_init_23 : decode cX7_init 23 = .ok (.aload_n 0, 1) := by decide +kernel
theorem dX7_init_24 : decode cX7_init 24 = .ok (.iconst 1, 1) := by decide +kernel
theorem dX7_init_25 : decode cX7_init 25 = .ok (.putfield 22, 3) := by decide +kernel
theorem dX7_init_28 : decode cX7_init 28 = .ok (.return_, 1) := by decide +kernel
theorem dX7_settle_0 : decode cX7_settle 0 = .ok (.aload_n 0, 1) := by decide +kernel
theorem dX7_settle_1 : decode cX7_settle 1 = .ok (.getfield 18, 3) := by decide +kernel
theorem dX7_settle_4 : decode cX7_settle 4 = .ok (.getfield 26, 3) := by decide +kernel
theorem dX7_settle_7 : decode cX7_settle 7 = .ok (.getfield 32, 3) := by decide +kernel
theorem dX7_settle_10 : decode cX7_settle 10 = .ok (.getfield 38, 3) := by decide +kernel
theorem dX7_settle_13 : decode cX7_settle 13 = .ok (.istore_n 3, 1) := by decide +kernel
theorem dX7_settle_14 : decode cX7_settle 14 = .ok (.iconst 0, 1) := by decide +kernel
theorem dX7_settle_15 : decode cX7_settle 15 = .ok (.istore 4, 2) := by decide +kernel
theorem dX7_settle_17 : decode cX7_settle 17 = .ok (.iload 4, 2) := by decide +kernel
theorem dX7_settle_19 : decode cX7_settle 19 = .ok (.iload_n 3, 1) := by decide +kernel
theorem dX7_settle_20 : decode cX7_settle 20 = .ok (.if_icmp .ge 71, 3) := by decide +kernel
theorem dX7_settle_23 : decode cX7_settle 23 = .ok (.aload_n 0, 1) := by decide +kernel
theorem dX7_settle_24 : decode cX7_settle 24 = .ok (.getfield 9, 3) := by decide +kernel
theorem dX7_settle_27 : decode cX7_settle 27 = .ok (.iload 4, 2) := by decide +kernel
theorem dX7_settle_29 : decode cX7_settle 29 = .ok (.aload_n 0, 1) := by decide +kernel
theorem dX7_settle_30 : decode cX7_settle 30 = .ok (.getfield 18, 3) := by decide +kernel
theorem dX7_settle_33 : decode cX7_settle 33 = .ok (.aload_n 0, 1) := by decide +kernel
theorem dX7_settle_34 : decode cX7_settle 34 = .ok (.getfield 18, 3) := by decide +kernel
theorem dX7_settle_37 : decode cX7_settle 37 = .ok (.getfield 26, 3) := by decide +kernel
theorem dX7_settle_40 : decode cX7_settle 40 = .ok (.getfield 32, 3) := by decide +kernel
theorem dX7_settle_43 : decode cX7_settle 43 = .ok (.getfield 43, 3) := by decide +kernel
theorem dX7_settle_46 : decode cX7_settle 46 = .ok (.iload 4, 2) := by decide +kernel
theorem dX7_settle_48 : decode cX7_settle 48 = .ok (.iaload, 1) := by decide +kernel
theorem dX7_settle_49 : decode cX7_settle 49 = .ok (.iload_n 2, 1) := by decide +kernel
theorem dX7_settle_50 : decode cX7_settle 50 = .ok (.iconst (-1), 1) := by decide +kernel
theorem dX7_settle_51 : decode cX7_settle 51 = .ok (.invokevirtual 46, 3) := by decide +kernel
theorem dX7_settle_54 : decode cX7_settle 54 = .ok (.aload_n 0, 1) := by decide +kernel
theorem dX7_settle_55 : decode cX7_settle 55 = .ok (.getfield 18, 3) := by decide +kernel
theorem dX7_settle_58 : decode cX7_settle 58 = .ok (.getfield 26, 3) := by decide +kernel
theorem dX7_settle_61 : decode cX7_settle 61 = .ok (.getfield 32, 3) := by decide +kernel
theorem dX7_settle_64 : decode cX7_settle 64 = .ok (.getfield 50, 3) := by decide +kernel
theorem dX7_settle_67 : decode cX7_settle 67 = .ok (.iload 4, 2) := by decide +kernel
theorem dX7_settle_69 : decode cX7_settle 69 = .ok (.iaload, 1) := by decide +kernel
theorem dX7_settle_70 : decode cX7_settle 70 = .ok (.isub, 1) := by decide +kernel
theorem dX7_settle_71 : decode cX7_settle 71 = .ok (.iastore, 1) := by decide +kernel
theorem dX7_settle_72 : decode cX7_settle 72 = .ok (.aload_n 0, 1) := by decide +kernel
theorem dX7_settle_73 : decode cX7_settle 73 = .ok (.aload_n 0, 1) := by decide +kernel
theorem dX7_settle_74 : decode cX7_settle 74 = .ok (.getfield 9, 3) := by decide +kernel
theorem dX7_settle_77 : decode cX7_settle 77 = .ok (.iload 4, 2) := by decide +kernel
theorem dX7_settle_79 : decode cX7_settle 79 = .ok (.iaload, 1) := by decide +kernel
theorem dX7_settle_80 : decode cX7_settle 80 = .ok (.iload 4, 2) := by decide +kernel
theorem dX7_settle_82 : decode cX7_settle 82 = .ok (.invokevirtual 53, 3) := by decide +kernel
theorem dX7_settle_85 : decode cX7_settle 85 = .ok (.iinc 4 1, 3) := by decide +kernel
theorem dX7_settle_88 : decode cX7_settle 88 = .ok (.goto (-71), 3) := by decide +kernel
theorem dX7_settle_91 : decode cX7_settle 91 = .ok (.iload_n 1, 1) := by decide +kernel
theorem dX7_settle_92 : decode cX7_settle 92 = .ok (.istore 4, 2) := by decide +kernel
theorem dX7_settle_94 : decode cX7_settle 94 = .ok (.iconst 0, 1) := by decide +kernel
theorem dX7_settle_95 : decode cX7_settle 95 = .ok (.istore 5, 2) := by decide +kernel
theorem dX7_settle_97 : decode cX7_settle 97 = .ok (.iload 5, 2) := by decide +kernel
theorem dX7_settle_99 : decode cX7_settle 99 = .ok (.iload_n 3, 1) := by decide +kernel
theorem dX7_settle_100 : decode cX7_settle 100 = .ok (.if_icmp .ge 59, 3) := by decide +kernel
theorem dX7_settle_103 : decode cX7_settle 103 = .ok (.iload 4, 2) := by decide +kernel
theorem dX7_settle_105 : decode cX7_settle 105 = .ok (.aload_n 0, 1) := by decide +kernel
theorem dX7_settle_106 : decode cX7_settle 106 = .ok (.getfield 15, 3) := by decide +kernel
theorem dX7_settle_109 : decode cX7_settle 109 = .ok (.iload 5, 2) := by decide +kernel
theorem dX7_settle_111 : decode cX7_settle 111 = .ok (.iaload, 1) := by decide +kernel
theorem dX7_settle_112 : decode cX7_settle 112 = .ok (.iadd, 1) := by decide +kernel
theorem dX7_settle_113 : decode cX7_settle 113 = .ok (.istore 4, 2) := by decide +kernel
theorem dX7_settle_115 : decode cX7_settle 115 = .ok (.iload 5, 2) := by decide +kernel
theorem dX7_settle_117 : decode cX7_settle 117 = .ok (.iload_n 3, 1) := by decide +kernel
theorem dX7_settle_118 : decode cX7_settle 118 = .ok (.iconst 1, 1) := by decide +kernel
theorem dX7_settle_119 : decode cX7_settle 119 = .ok (.isub, 1) := by decide +kernel
theorem dX7_settle_120 : decode cX7_settle 120 = .ok (.if_icmp .eq 22, 3) := by decide +kernel
theorem dX7_settle_123 : decode cX7_settle 123 = .ok (.iload 4, 2) := by decide +kernel
theorem dX7_settle_125 : decode cX7_settle 125 = .ok (.aload_n 0, 1) := by decide +kernel
theorem dX7_settle_126 : decode cX7_settle 126 = .ok (.getfield 15, 3) := by decide +kernel
theorem dX7_settle_129 : decode cX7_settle 129 = .ok (.iload 5, 2) := by decide +kernel
theorem dX7_settle_131 : decode cX7_settle 131 = .ok (.iconst 1, 1) := by decide +kernel
theorem dX7_settle_132 : decode cX7_settle 132 = .ok (.iadd, 1) := by decide +kernel
theorem dX7_settle_133 : decode cX7_settle 133 = .ok (.iaload, 1) := by decide +kernel
theorem dX7_settle_134 : decode cX7_settle 134 = .ok (.iload 5, 2) := by decide +kernel
theorem dX7_settle_136 : decode cX7_settle 136 = .ok (.iconst 1, 1) := by decide +kernel
theorem dX7_settle_137 : decode cX7_settle 137 = .ok (.iadd, 1) := by decide +kernel
theorem dX7_settle_138 : decode cX7_settle 138 = .ok (.imul, 1) := by decide +kernel
theorem dX7_settle_139 : decode cX7_settle 139 = .ok (.if_icmp .gt 14, 3) := by decide +kernel
theorem dX7_settle_142 : decode cX7_settle 142 = .ok (.aload_n 0, 1) := by decide +kernel
theorem dX7_settle_143 : decode cX7_settle 143 = .ok (.iload 4, 2) := by decide +kernel
theorem dX7_settle_145 : decode cX7_settle 145 = .ok (.iload 5, 2) := by decide +kernel
theorem dX7_settle_147 : decode cX7_settle 147 = .ok (.iconst 1, 1) := by decide +kernel
theorem dX7_settle_148 : decode cX7_settle 148 = .ok (.iadd, 1) := by decide +kernel
theorem dX7_settle_149 : decode cX7_settle 149 = .ok (.invokevirtual 57, 3) := by decide +kernel
theorem dX7_settle_152 : decode cX7_settle 152 = .ok (.return_, 1) := by decide +kernel
theorem dX7_settle_153 : decode cX7_settle 153 = .ok (.iinc 5 1, 3) := by decide +kernel
theorem dX7_settle_156 : decode cX7_settle 156 = .ok (.goto (-59), 3) := by decide +kernel
theorem dX7_settle_159 : decode cX7_settle 159 = .ok (.return_, 1) := by decide +kernel
theorem dX7_insert_0 : decode cX7_insert 0 = .ok (.iload_n 2, 1) := by decide +kernel
theorem dX7_insert_1 : decode cX7_insert 1 = .ok (.istore_n 3, 1) := by decide +kernel
theorem dX7_insert_2 : decode cX7_insert 2 = .ok (.iload_n 3, 1) := by decide +kernel
theorem dX7_insert_3 : decode cX7_insert 3 = .ok (.ifCond .le 35, 3) := by decide +kernel
theorem dX7_insert_6 : decode cX7_insert 6 = .ok (.aload_n 0, 1) := by decide +kernel
theorem dX7_insert_7 : decode cX7_insert 7 = .ok (.getfield 15, 3) := by decide +kernel
theorem dX7_insert_10 : decode cX7_insert 10 = .ok (.iload_n 3, 1) := by decide +kernel
theorem dX7_insert_11 : decode cX7_insert 11 = .ok (.iconst 1, 1) := by decide +kernel
theorem dX7_insert_12 : decode cX7_insert 12 = .ok (.isub, 1) := by decide +kernel
theorem dX7_insert_13 : decode cX7_insert 13 = .ok (.iaload, 1) := by decide +kernel
theorem dX7_insert_14 : decode cX7_insert 14 = .ok (.iload_n 1, 1) := by decide +kernel
theorem dX7_insert_15 : decode cX7_insert 15 = .ok (.if_icmp .le 23, 3) := by decide +kernel
theorem dX7_insert_18 : decode cX7_insert 18 = .ok (.aload_n 0, 1) := by decide +kernel
theorem dX7_insert_19 : decode cX7_insert 19 = .ok (.getfield 15, 3) := by decide +kernel
theorem dX7_insert_22 : decode cX7_insert 22 = .ok (.iload_n 3, 1) := by decide +kernel
theorem dX7_insert_23 : decode cX7_insert 23 = .ok (.aload_n 0, 1) := by decide +kernel
theorem dX7_insert_24 : decode cX7_insert 24 = .ok (.getfield 15, 3) := by decide +kernel
theorem dX7_insert_27 : decode cX7_insert 27 = .ok (.iload_n 3, 1) := by decide +kernel
theorem dX7_insert_28 : decode cX7_insert 28 = .ok (.iconst 1, 1) := by decide +kernel
theorem dX7_insert_29 : decode cX7_insert 29 = .ok (.isub, 1) := by decide +kernel
theorem dX7_insert_30 : decode cX7_insert 30 = .ok (.iaload, 1) := by decide +kernel
theorem dX7_insert_31 : decode cX7_insert 31 = .ok (.iastore, 1) := by decide +kernel
theorem dX7_insert_32 : decode cX7_insert 32 = .ok (.iinc 3 (-1), 3) := by decide +kernel
theorem dX7_insert_35 : decode cX7_insert 35 = .ok (.goto (-33), 3) := by decide +kernel
theorem dX7_insert_38 : decode cX7_insert 38 = .ok (.aload_n 0, 1) := by decide +kernel
theorem dX7_insert_39 : decode cX7_insert 39 = .ok (.getfield 15, 3) := by decide +kernel
theorem dX7_insert_42 : decode cX7_insert 42 = .ok (.iload_n 3, 1) := by decide +kernel
theorem dX7_insert_43 : decode cX7_insert 43 = .ok (.iload_n 1, 1) := by decide +kernel
theorem dX7_insert_44 : decode cX7_insert 44 = .ok (.iastore, 1) := by decide +kernel
theorem dX7_insert_45 : decode cX7_insert 45 = .ok (.return_, 1) := by decide +kernel
theorem dX7_reduce_0 : decode cX7_reduce 0 = .ok (.iconst 1, 1) := by decide +kernel
theorem dX7_reduce_1 : decode cX7_reduce 1 = .ok (.iload_n 1, 1) := by decide +kernel
theorem dX7_reduce_2 : decode cX7_reduce 2 = .ok (.iload_n 2, 1) := by decide +kernel
theorem dX7_reduce_3 : decode cX7_reduce 3 = .ok (.invokestatic 60, 3) := by decide +kernel
theorem dX7_reduce_6 : decode cX7_reduce 6 = .ok (.invokestatic 64, 3) := by decide +kernel
theorem dX7_reduce_9 : decode cX7_reduce 9 = .ok (.istore_n 3, 1) := by decide +kernel
theorem dX7_reduce_10 : decode cX7_reduce 10 = .ok (.aload_n 0, 1) := by decide +kernel
theorem dX7_reduce_11 : decode cX7_reduce 11 = .ok (.iload_n 1, 1) := by decide +kernel
theorem dX7_reduce_12 : decode cX7_reduce 12 = .ok (.iload_n 3, 1) := by decide +kernel
theorem dX7_reduce_13 : decode cX7_reduce 13 = .ok (.idiv, 1) := by decide +kernel
theorem dX7_reduce_14 : decode cX7_reduce 14 = .ok (.putfield 69, 3) := by decide +kernel
theorem dX7_reduce_17 : decode cX7_reduce 17 = .ok (.aload_n 0, 1) := by decide +kernel
theorem dX7_reduce_18 : decode cX7_reduce 18 = .ok (.iload_n 2, 1) := by decide +kernel
theorem dX7_reduce_19 : decode cX7_reduce 19 = .ok (.iload_n 3, 1) := by decide +kernel
theorem dX7_reduce_20 : decode cX7_reduce 20 = .ok (.idiv, 1) := by decide +kernel
theorem dX7_reduce_21 : decode cX7_reduce 21 = .ok (.putfield 22, 3) := by decide +kernel
theorem dX7_reduce_24 : decode cX7_reduce 24 = .ok (.return_, 1) := by decide +kernel
theorem dX7_wetWells_0 : decode cX7_wetWells 0 = .ok (.iconst 0, 1) := by decide +kernel
theorem dX7_wetWells_1 : decode cX7_wetWells 1 = .ok (.istore_n 1, 1) := by decide +kernel
theorem dX7_wetWells_2 : decode cX7_wetWells 2 = .ok (.iconst 0, 1) := by decide +kernel
theorem dX7_wetWells_3 : decode cX7_wetWells 3 = .ok (.istore_n 2, 1) := by decide +kernel
theorem dX7_wetWells_4 : decode cX7_wetWells 4 = .ok (.iload_n 2, 1) := by decide +kernel
theorem dX7_wetWells_5 : decode cX7_wetWells 5 = .ok (.aload_n 0, 1) := by decide +kernel
theorem dX7_wetWells_6 : decode cX7_wetWells 6 = .ok (.getfield 18, 3) := by decide +kernel
theorem dX7_wetWells_9 : decode cX7_wetWells 9 = .ok (.getfield 26, 3) := by decide +kernel
theorem dX7_wetWells_12 : decode cX7_wetWells 12 = .ok (.getfield 32, 3) := by decide +kernel
theorem dX7_wetWells_15 : decode cX7_wetWells 15 = .ok (.getfield 38, 3) := by decide +kernel
theorem dX7_wetWells_18 : decode cX7_wetWells 18 = .ok (.if_icmp .ge 33, 3) := by decide +kernel
theorem dX7_wetWells_21 : decode cX7_wetWells 21 = .ok (.aload_n 0, 1) := by decide +kernel
theorem dX7_wetWells_22 : decode cX7_wetWells 22 = .ok (.getfield 9, 3) := by decide +kernel
theorem dX7_wetWells_25 : decode cX7_wetWells 25 = .ok (.iload_n 2, 1) := by decide +kernel
theorem dX7_wetWells_26 : decode cX7_wetWells 26 = .ok (.iaload, 1) := by decide +kernel
theorem dX7_wetWells_27 : decode cX7_wetWells 27 = .ok (.aload_n 0, 1) := by decide +kernel
theorem dX7_wetWells_28 : decode cX7_wetWells 28 = .ok (.getfield 22, 3) := by decide +kernel
theorem dX7_wetWells_31 : decode cX7_wetWells 31 = .ok (.imul, 1) := by decide +kernel
theorem dX7_wetWells_32 : decode cX7_wetWells 32 = .ok (.aload_n 0, 1) := by decide +kernel
theorem dX7_wetWells_33 : decode cX7_wetWells 33 = .ok (.getfield 69, 3) := by decide +kernel
theorem dX7_wetWells_36 : decode cX7_wetWells 36 = .ok (.if_icmp .ge 9, 3) := by decide +kernel
theorem dX7_wetWells_39 : decode cX7_wetWells 39 = .ok (.iload_n 1, 1) := by decide +kernel
theorem dX7_wetWells_40 : decode cX7_wetWells 40 = .ok (.iconst 1, 1) := by decide +kernel
theorem dX7_wetWells_41 : decode cX7_wetWells 41 = .ok (.iload_n 2, 1) := by decide +kernel
theorem dX7_wetWells_42 : decode cX7_wetWells 42 = .ok (.ishl, 1) := by decide +kernel
theorem dX7_wetWells_43 : decode cX7_wetWells 43 = .ok (.ior, 1) := by decide +kernel
theorem dX7_wetWells_44 : decode cX7_wetWells 44 = .ok (.istore_n 1, 1) := by decide +kernel
theorem dX7_wetWells_45 : decode cX7_wetWells 45 = .ok (.iinc 2 1, 3) := by decide +kernel
theorem dX7_wetWells_48 : decode cX7_wetWells 48 = .ok (.goto (-44), 3) := by decide +kernel
theorem dX7_wetWells_51 : decode cX7_wetWells 51 = .ok (.iload_n 1, 1) := by decide +kernel
theorem dX7_wetWells_52 : decode cX7_wetWells 52 = .ok (.ireturn, 1) := by decide +kernel
theorem dX8_init_0 : decode cX8_init 0 = .ok (.aload_n 0, 1) := by decide +kernel
theorem dX8_init_1 : decode cX8_init 1 = .ok (.invokespecial 3, 3) := by decide +kernel
theorem dX8_init_4 : decode cX8_init 4 = .ok (.aload_n 0, 1) := by decide +kernel
theorem dX8_init_5 : decode cX8_init 5 = .ok (.aload_n 1, 1) := by decide +kernel
theorem dX8_init_6 : decode cX8_init 6 = .ok (.putfield 9, 3) := by decide +kernel
theorem dX8_init_9 : decode cX8_init 9 = .ok (.aload_n 0, 1) := by decide +kernel
theorem dX8_init_10 : decode cX8_init 10 = .ok (.aload_n 2, 1) := by decide +kernel
theorem dX8_init_11 : decode cX8_init 11 = .ok (.putfield 15, 3) := by decide +kernel
theorem dX8_init_14 : decode cX8_init 14 = .ok (.return_, 1) := by decide +kernel
theorem dX8_pullAt_0 : decode cX8_pullAt 0 = .ok (.iconst 0, 1) := by decide +kernel
theorem dX8_pullAt_1 : decode cX8_pullAt 1 = .ok (.istore 4, 2) := by decide +kernel
theorem dX8_pullAt_3 : decode cX8_pullAt 3 = .ok (.iconst 0, 1) := by decide +kernel
theorem dX8_pullAt_4 : decode cX8_pullAt 4 = .ok (.istore 5, 2) := by decide +kernel
theorem dX8_pullAt_6 : decode cX8_pullAt 6 = .ok (.iload 5, 2) := by decide +kernel
theorem dX8_pullAt_8 : decode cX8_pullAt 8 = .ok (.aload_n 0, 1) := by decide +kernel
theorem dX8_pullAt_9 : decode cX8_pullAt 9 = .ok (.getfield 9, 3) := by decide +kernel
theorem dX8_pullAt_12 : decode cX8_pullAt 12 = .ok (.getfield 19, 3) := by decide +kernel
theorem dX8_pullAt_15 : decode cX8_pullAt 15 = .ok (.if_icmp .ge 45, 3) := by decide +kernel
theorem dX8_pullAt_18 : decode cX8_pullAt 18 = .ok (.iload 5, 2) := by decide +kernel
theorem dX8_pullAt_20 : decode cX8_pullAt 20 = .ok (.iload_n 3, 1) := by decide +kernel
theorem dX8_pullAt_21 : decode cX8_pullAt 21 = .ok (.if_icmp .eq 33, 3) := by decide +kernel
theorem dX8_pullAt_24 : decode cX8_pullAt 24 = .ok (.iload 4, 2) := by decide +kernel
theorem dX8_pullAt_26 : decode cX8_pullAt 26 = .ok (.aload_n 0, 1) := by decide +kernel
theorem dX8_pullAt_27 : decode cX8_pullAt 27 = .ok (.getfield 9, 3) := by decide +kernel
theorem dX8_pullAt_30 : decode cX8_pullAt 30 = .ok (.getfield 25, 3) := by decide +kernel
theorem dX8_pullAt_33 : decode cX8_pullAt 33 = .ok (.iload 5, 2) := by decide +kernel
theorem dX8_pullAt_35 : decode cX8_pullAt 35 = .ok (.aaload, 1) := by decide +kernel
theorem dX8_pullAt_36 : decode cX8_pullAt 36 = .ok (.iload_n 1, 1) := by decide +kernel
theorem dX8_pullAt_37 : decode cX8_pullAt 37 = .ok (.iload_n 2, 1) := by decide +kernel
theorem dX8_pullAt_38 : decode cX8_pullAt 38 = .ok (.aload_n 0, 1) := by decide +kernel
theorem dX8_pullAt_39 : decode cX8_pullAt 39 = .ok (.getfield 15, 3) := by decide +kernel
theorem dX8_pullAt_42 : decode cX8_pullAt 42 = .ok (.getfield 29, 3) := by decide +kernel
theorem dX8_pullAt_45 : decode cX8_pullAt 45 = .ok (.iload 5, 2) := by decide +kernel
theorem dX8_pullAt_47 : decode cX8_pullAt 47 = .ok (.iaload, 1) := by decide +kernel
theorem dX8_pullAt_48 : decode cX8_pullAt 48 = .ok (.invokevirtual 35, 3) := by decide +kernel
theorem dX8_pullAt_51 : decode cX8_pullAt 51 = .ok (.iadd, 1) := by decide +kernel
theorem dX8_pullAt_52 : decode cX8_pullAt 52 = .ok (.istore 4, 2) := by decide +kernel
theorem dX8_pullAt_54 : decode cX8_pullAt 54 = .ok (.iinc 5 1, 3) := by decide +kernel
theorem dX8_pullAt_57 : decode cX8_pullAt 57 = .ok (.goto (-51), 3) := by decide +kernel
theorem dX8_pullAt_60 : decode cX8_pullAt 60 = .ok (.iload 4, 2) := by decide +kernel
theorem dX8_pullAt_62 : decode cX8_pullAt 62 = .ok (.ireturn, 1) := by decide +kernel
theorem dX8_stiffOf_0 : decode cX8_stiffOf 0 = .ok (.iconst 0, 1) := by decide +kernel
theorem dX8_stiffOf_1 : decode cX8_stiffOf 1 = .ok (.aload_n 0, 1) := by decide +kernel
theorem dX8_stiffOf_2 : decode cX8_stiffOf 2 = .ok (.getfield 9, 3) := by decide +kernel
theorem dX8_stiffOf_5 : decode cX8_stiffOf 5 = .ok (.getfield 41, 3) := by decide +kernel
theorem dX8_stiffOf_8 : decode cX8_stiffOf 8 = .ok (.iload_n 1, 1) := by decide +kernel
theorem dX8_stiffOf_9 : decode cX8_stiffOf 9 = .ok (.iaload, 1) := by decide +kernel
theorem dX8_stiffOf_10 : decode cX8_stiffOf 10 = .ok (.aload_n 0, 1) := by decide +kernel
theorem dX8_stiffOf_11 : decode cX8_stiffOf 11 = .ok (.getfield 15, 3) := by decide +kernel
theorem dX8_stiffOf_14 : decode cX8_stiffOf 14 = .ok (.getfield 44, 3) := by decide +kernel
theorem dX8_stiffOf_17 : decode cX8_stiffOf 17 = .ok (.iload_n 1, 1) := by decide +kernel
theorem dX8_stiffOf_18 : decode cX8_stiffOf 18 = .ok (.iaload, 1) := by decide +kernel
theorem dX8_stiffOf_19 : decode cX8_stiffOf 19 = .ok (.bipush 10, 2) := by decide +kernel
theorem dX8_stiffOf_21 : decode cX8_stiffOf 21 = .ok (.idiv, 1) := by decide +kernel
theorem dX8_stiffOf_22 : decode cX8_stiffOf 22 = .ok (.isub, 1) := by decide +kernel
theorem dX8_stiffOf_23 : decode cX8_stiffOf 23 = .ok (.invokestatic 47, 3) := by decide +kernel
theorem dX8_stiffOf_26 : decode cX8_stiffOf 26 = .ok (.ireturn, 1) := by decide +kernel
theorem dX8_heightAt_0 : decode cX8_heightAt 0 = .ok (.aload_n 0, 1) := by decide +kernel
theorem dX8_heightAt_1 : decode cX8_heightAt 1 = .ok (.getfield 9, 3) := by decide +kernel
theorem dX8_heightAt_4 : decode cX8_heightAt 4 = .ok (.getfield 53, 3) := by decide +kernel
theorem dX8_heightAt_7 : decode cX8_heightAt 7 = .ok (.iload_n 1, 1) := by decide +kernel
theorem dX8_heightAt_8 : decode cX8_heightAt 8 = .ok (.iaload, 1) := by decide +kernel
theorem dX8_heightAt_9 : decode cX8_heightAt 9 = .ok (.aload_n 0, 1) := by decide +kernel
theorem dX8_heightAt_10 : decode cX8_heightAt 10 = .ok (.iload_n 1, 1) := by decide +kernel
theorem dX8_heightAt_11 : decode cX8_heightAt 11 = .ok (.invokevirtual 56, 3) := by decide +kernel
theorem dX8_heightAt_14 : decode cX8_heightAt 14 = .ok (.aload_n 0, 1) := by decide +kernel
theorem dX8_heightAt_15 : decode cX8_heightAt 15 = .ok (.iload_n 1, 1) := by decide +kernel
theorem dX8_heightAt_16 : decode cX8_heightAt 16 = .ok (.iload_n 2, 1) := by decide +kernel
theorem dX8_heightAt_17 : decode cX8_heightAt 17 = .ok (.iload_n 3, 1) := by decide +kernel
theorem dX8_heightAt_18 : decode cX8_heightAt 18 = .ok (.invokevirtual 60, 3) := by decide +kernel
theorem dX8_heightAt_21 : decode cX8_heightAt 21 = .ok (.imul, 1) := by decide +kernel
theorem dX8_heightAt_22 : decode cX8_heightAt 22 = .ok (.iadd, 1) := by decide +kernel
theorem dX8_heightAt_23 : decode cX8_heightAt 23 = .ok (.ireturn, 1) := by decide +kernel
theorem dX8_leanAt_0 : decode cX8_leanAt 0 = .ok (.aload_n 0, 1) := by decide +kernel
theorem dX8_leanAt_1 : decode cX8_leanAt 1 = .ok (.iload_n 1, 1) := by decide +kernel
theorem dX8_leanAt_2 : decode cX8_leanAt 2 = .ok (.iload_n 2, 1) := by decide +kernel
theorem dX8_leanAt_3 : decode cX8_leanAt 3 = .ok (.iload_n 3, 1) := by decide +kernel
theorem dX8_leanAt_4 : decode cX8_leanAt 4 = .ok (.invokevirtual 63, 3) := by decide +kernel
theorem dX8_leanAt_7 : decode cX8_leanAt 7 = .ok (.istore 4, 2) := by decide +kernel
theorem dX8_leanAt_9 : decode cX8_leanAt 9 = .ok (.iconst 0, 1) := by decide +kernel
theorem dX8_leanAt_10 : decode cX8_leanAt 10 = .ok (.istore 5, 2) := by decide +kernel
theorem dX8_leanAt_12 : decode cX8_leanAt 12 = .ok (.iconst 1, 1) := by decide +kernel
theorem dX8_leanAt_13 : decode cX8_leanAt 13 = .ok (.istore 6, 2) := by decide +kernel
theorem dX8_leanAt_15 : decode cX8_leanAt 15 = .ok (.iload 6, 2) := by decide +kernel
theorem dX8_leanAt_17 : decode cX8_leanAt 17 = .ok (.iconst 5, 1) := by decide +kernel
theorem dX8_leanAt_18 : decode cX8_leanAt 18 = .ok (.if_icmp .ge 48, 3) := by decide +kernel
theorem dX8_leanAt_21 : decode cX8_leanAt 21 = .ok (.aload_n 0, 1) := by decide +kernel
theorem dX8_leanAt_22 : decode cX8_leanAt 22 = .ok (.getfield 9, 3) := by decide +kernel
theorem dX8_leanAt_25 : decode cX8_leanAt 25 = .ok (.iload_n 1, 1) := by decide +kernel
theorem dX8_leanAt_26 : decode cX8_leanAt 26 = .ok (.iload 6, 2) := by decide +kernel
theorem dX8_leanAt_28 : decode cX8_leanAt 28 = .ok (.invokevirtual 66, 3) := by decide +kernel
theorem dX8_leanAt_31 : decode cX8_leanAt 31 = .ok (.istore 7, 2) := by decide +kernel
theorem dX8_leanAt_33 : decode cX8_leanAt 33 = .ok (.iload 7, 2) := by decide +kernel
theorem dX8_leanAt_35 : decode cX8_leanAt 35 = .ok (.iconst (-1), 1) := by decide +kernel
theorem dX8_leanAt_36 : decode cX8_leanAt 36 = .ok (.if_icmp .eq 24, 3) := by decide +kernel
theorem dX8_leanAt_39 : decode cX8_leanAt 39 = .ok (.iload 5, 2) := by decide +kernel
theorem dX8_leanAt_41 : decode cX8_leanAt 41 = .ok (.aload_n 0, 1) := by decide +kernel
theorem dX8_leanAt_42 : decode cX8_leanAt 42 = .ok (.iload 7, 2) := by decide +kernel
theorem dX8_leanAt_44 : decode cX8_leanAt 44 = .ok (.iload_n 2, 1) := by decide +kernel
theorem dX8_leanAt_45 : decode cX8_leanAt 45 = .ok (.iload_n 3, 1) := by decide +kernel
theorem dX8_leanAt_46 : decode cX8_leanAt 46 = .ok (.invokevirtual 63, 3) := by decide +kernel
theorem dX8_leanAt_49 : decode cX8_leanAt 49 = .ok (.iload 4, 2) := by decide +kernel
theorem dX8_leanAt_51 : decode cX8_leanAt 51 = .ok (.isub, 1) := by decide +kernel
theorem dX8_leanAt_52 : decode cX8_leanAt 52 = .ok (.invokestatic 69, 3) := by decide +kernel
theorem dX8_leanAt_55 : decode cX8_leanAt 55 = .ok (.invokestatic 47, 3) := by decide +kernel
theorem dX8_leanAt_58 : decode cX8_leanAt 58 = .ok (.istore 5, 2) := by decide +kernel
theorem dX8_leanAt_60 : decode cX8_leanAt 60 = .ok (.iinc 6 1, 3) := by decide +kernel
theorem dX8_leanAt_63 : decode cX8_leanAt 63 = .ok (.goto (-48), 3) := by decide +kernel
theorem dX8_leanAt_66 : decode cX8_leanAt 66 = .ok (.iload 5, 2) := by decide +kernel
theorem dX8_leanAt_68 : decode cX8_leanAt 68 = .ok (.ireturn, 1) := by decide +kernel
theorem dX8_isBroken_0 : decode cX8_isBroken 0 = .ok (.aload_n 0, 1) := by decide +kernel
theorem dX8_isBroken_1 : decode cX8_isBroken 1 = .ok (.aload_n 0, 1) := by decide +kernel
theorem dX8_isBroken_2 : decode cX8_isBroken 2 = .ok (.getfield 9, 3) := by decide +kernel
theorem dX8_isBroken_5 : decode cX8_isBroken 5 = .ok (.getfield 72, 3) := by decide +kernel
theorem dX8_isBroken_8 : decode cX8_isBroken 8 = .ok (.getfield 76, 3) := by decide +kernel
theorem dX8_isBroken_11 : decode cX8_isBroken 11 = .ok (.iload_n 1, 1) := by decide +kernel
theorem dX8_isBroken_12 : decode cX8_isBroken 12 = .ok (.iaload, 1) := by decide +kernel
theorem dX8_isBroken_13 : decode cX8_isBroken 13 = .ok (.iload_n 2, 1) := by decide +kernel
theorem dX8_isBroken_14 : decode cX8_isBroken 14 = .ok (.iconst (-1), 1) := by decide +kernel
theorem dX8_isBroken_15 : decode cX8_isBroken 15 = .ok (.invokevirtual 81, 3) := by decide +kernel
theorem dX8_isBroken_18 : decode cX8_isBroken 18 = .ok (.aload_n 0, 1) := by decide +kernel
theorem dX8_isBroken_19 : decode cX8_isBroken 19 = .ok (.getfield 9, 3) := by decide +kernel
theorem dX8_isBroken_22 : decode cX8_isBroken 22 = .ok (.getfield 72, 3) := by decide +kernel
theorem dX8_isBroken_25 : decode cX8_isBroken 25 = .ok (.getfield 84, 3) := by decide +kernel
theorem dX8_isBroken_28 : decode cX8_isBroken 28 = .ok (.iload_n 1, 1) := by decide +kernel
theorem dX8_isBroken_29 : decode cX8_isBroken 29 = .ok (.iaload, 1) := by decide +kernel
theorem dX8_isBroken_30 : decode cX8_isBroken 30 = .ok (.aload_n 0, 1) := by decide +kernel
theorem dX8_isBroken_31 : decode cX8_isBroken 31 = .ok (.getfield 15, 3) := by decide +kernel
theorem dX8_isBroken_34 : decode cX8_isBroken 34 = .ok (.getfield 87, 3) := by decide +kernel
theorem dX8_isBroken_37 : decode cX8_isBroken 37 = .ok (.iload_n 1, 1) := by decide +kernel
theorem dX8_isBroken_38 : decode cX8_isBroken 38 = .ok (.iaload, 1) := by decide +kernel
theorem dX8_isBroken_39 : decode cX8_isBroken 39 = .ok (.iadd, 1) := by decide +kernel
theorem dX8_isBroken_40 : decode cX8_isBroken 40 = .ok (.if_icmp .le 7, 3) := by decide +kernel
theorem dX8_isBroken_43 : decode cX8_isBroken 43 = .ok (.iconst 1, 1) := by decide +kernel
theorem dX8_isBroken_44 : decode cX8_isBroken 44 = .ok (.goto 4, 3) := by decide +kernel
theorem dX8_isBroken_47 : decode cX8_isBroken 47 = .ok (.iconst 0, 1) := by decide +kernel
theorem dX8_isBroken_48 : decode cX8_isBroken 48 = .ok (.ireturn, 1) := by decide +kernel
theorem dX8_leastBroken_0 : decode cX8_leastBroken 0 = .ok (.iconst 0, 1) := by decide +kernel
theorem dX8_leastBroken_1 : decode cX8_leastBroken 1 = .ok (.istore_n 2, 1) := by decide +kernel
theorem dX8_leastBroken_2 : decode cX8_leastBroken 2 = .ok (.iload_n 2, 1) := by decide +kernel
theorem dX8_leastBroken_3 : decode cX8_leastBroken 3 = .ok (.aload_n 0, 1) := by decide +kernel
theorem dX8_leastBroken_4 : decode cX8_leastBroken 4 = .ok (.getfield 9, 3) := by decide +kernel
theorem dX8_leastBroken_7 : decode cX8_leastBroken 7 = .ok (.getfield 72, 3) := by decide +kernel
theorem dX8_leastBroken_10 : decode cX8_leastBroken 10 = .ok (.getfield 90, 3) := by decide +kernel
theorem dX8_leastBroken_13 : decode cX8_leastBroken 13 = .ok (.if_icmp .ge 20, 3) := by decide +kernel
theorem dX8_leastBroken_16 : decode cX8_leastBroken 16 = .ok (.aload_n 0, 1) := by decide +kernel
theorem dX8_leastBroken_17 : decode cX8_leastBroken 17 = .ok (.iload_n 2, 1) := by decide +kernel
theorem dX8_leastBroken_18 : decode cX8_leastBroken 18 = .ok (.iload_n 1, 1) := by decide +kernel
theorem dX8_leastBroken_19 : decode cX8_leastBroken 19 = .ok (.invokevirtual 93, 3) := by decide +kernel
theorem dX8_leastBroken_22 : decode cX8_leastBroken 22 = .ok (.ifCond .eq 5, 3) := by decide +kernel
theorem dX8_leastBroken_25 : decode cX8_leastBroken 25 = .ok (.iload_n 2, 1) := by decide +kernel
theorem dX8_leastBroken_26 : decode cX8_leastBroken 26 = .ok (.ireturn, 1) := by decide +kernel
theorem dX8_leastBroken_27 : decode cX8_leastBroken 27 = .ok (.iinc 2 1, 3) := by decide +kernel
theorem dX8_leastBroken_30 : decode cX8_leastBroken 30 = .ok (.goto (-28), 3) := by decide +kernel
theorem dX8_leastBroken_33 : decode cX8_leastBroken 33 = .ok (.iconst (-1), 1) := by decide +kernel
theorem dX8_leastBroken_34 : decode cX8_leastBroken 34 = .ok (.ireturn, 1) := by decide +kernel
theorem dX8_needOf_0 : decode cX8_needOf 0 = .ok (.aload_n 0, 1) := by decide +kernel
theorem dX8_needOf_1 : decode cX8_needOf 1 = .ok (.getfield 9, 3) := by decide +kernel
theorem dX8_needOf_4 : decode cX8_needOf 4 = .ok (.invokevirtual 97, 3) := by decide +kernel
theorem dX8_needOf_7 : decode cX8_needOf 7 = .ok (.istore_n 2, 1) := by decide +kernel
theorem dX8_needOf_8 : decode cX8_needOf 8 = .ok (.iconst 0, 1) := by decide +kernel
theorem dX8_needOf_9 : decode cX8_needOf 9 = .ok (.istore_n 3, 1) := by decide +kernel
theorem dX8_needOf_10 : decode cX8_needOf 10 = .ok (.iconst 0, 1) := by decide +kernel
theorem dX8_needOf_11 : decode cX8_needOf 11 = .ok (.istore 4, 2) := by decide +kernel
theorem dX8_needOf_13 : decode cX8_needOf 13 = .ok (.iload 4, 2) := by decide +kernel
theorem dX8_needOf_15 : decode cX8_needOf 15 = .ok (.iload_n 2, 1) := by decide +kernel
theorem dX8_needOf_16 : decode cX8_needOf 16 = .ok (.if_icmp .ge 33, 3) := by decide +kernel
theorem dX8_needOf_19 : decode cX8_needOf 19 = .ok (.iload_n 3, 1) := by decide +kernel
theorem dX8_needOf_20 : decode cX8_needOf 20 = .ok (.aload_n 0, 1) := by decide +kernel
theorem dX8_needOf_21 : decode cX8_needOf 21 = .ok (.aload_n 0, 1) := by decide +kernel
theorem dX8_needOf_22 : decode cX8_needOf 22 = .ok (.getfield 9, 3) := by decide +kernel
theorem dX8_needOf_25 : decode cX8_needOf 25 = .ok (.getfield 72, 3) := by decide +kernel
theorem dX8_needOf_28 : decode cX8_needOf 28 = .ok (.getfield 76, 3) := by decide +kernel
theorem dX8_needOf_31 : decode cX8_needOf 31 = .ok (.iload_n 1, 1) := by decide +kernel
theorem dX8_needOf_32 : decode cX8_needOf 32 = .ok (.iaload, 1) := by decide +kernel
theorem dX8_needOf_33 : decode cX8_needOf 33 = .ok (.iload 4, 2) := by decide +kernel
theorem dX8_needOf_35 : decode cX8_needOf 35 = .ok (.iconst (-1), 1) := by decide +kernel
theorem dX8_needOf_36 : decode cX8_needOf 36 = .ok (.invokevirtual 81, 3) := by decide +kernel
theorem dX8_needOf_39 : decode cX8_needOf 39 = .ok (.invokestatic 47, 3) := by decide +kernel
theorem dX8_needOf_42 : decode cX8_needOf 42 = .ok (.istore_n 3, 1) := by decide +kernel
theorem dX8_needOf_43 : decode cX8_needOf 43 = .ok (.iinc 4 1, 3) := by decide +kernel
theorem dX8_needOf_46 : decode cX8_needOf 46 = .ok (.goto (-33), 3) := by decide +kernel
theorem dX8_needOf_49 : decode cX8_needOf 49 = .ok (.iconst 0, 1) := by decide +kernel
theorem dX8_needOf_50 : decode cX8_needOf 50 = .ok (.iload_n 3, 1) := by decide +kernel
theorem dX8_needOf_51 : decode cX8_needOf 51 = .ok (.aload_n 0, 1) := by decide +kernel
theorem dX8_needOf_52 : decode cX8_needOf 52 = .ok (.getfield 9, 3) := by decide +kernel
theorem dX8_needOf_55 : decode cX8_needOf 55 = .ok (.getfield 72, 3) := by decide +kernel
theorem dX8_needOf_58 : decode cX8_needOf 58 = .ok (.getfield 84, 3) := by decide +kernel
theorem dX8_needOf_61 : decode cX8_needOf 61 = .ok (.iload_n 1, 1) := by decide +kernel
theorem dX8_needOf_62 : decode cX8_needOf 62 = .ok (.iaload, 1) := by decide +kernel
theorem dX8_needOf_63 : decode cX8_needOf 63 = .ok (.isub, 1) := by decide +kernel
theorem dX8_needOf_64 : decode cX8_needOf 64 = .ok (.invokestatic 47, 3) := by decide +kernel
theorem dX8_needOf_67 : decode cX8_needOf 67 = .ok (.ireturn, 1) := by decide +kernel
theorem dX8_isOpen_0 : decode cX8_isOpen 0 = .ok (.aload_n 0, 1) := by decide +kernel
theorem dX8_isOpen_1 : decode cX8_isOpen 1 = .ok (.aload_n 0, 1) := by decide +kernel
theorem dX8_isOpen_2 : decode cX8_isOpen 2 = .ok (.getfield 9, 3) := by decide +kernel
theorem dX8_isOpen_5 : decode cX8_isOpen 5 = .ok (.getfield 101, 3) := by decide +kernel
theorem dX8_isOpen_8 : decode cX8_isOpen 8 = .ok (.getfield 76, 3) := by decide +kernel
theorem dX8_isOpen_11 : decode cX8_isOpen 11 = .ok (.iload_n 1, 1) := by decide +kernel
theorem dX8_isOpen_12 : decode cX8_isOpen 12 = .ok (.iaload, 1) := by decide +kernel
theorem dX8_isOpen_13 : decode cX8_isOpen 13 = .ok (.iload_n 2, 1) := by decide +kernel
theorem dX8_isOpen_14 : decode cX8_isOpen 14 = .ok (.iconst (-1), 1) := by decide +kernel
theorem dX8_isOpen_15 : decode cX8_isOpen 15 = .ok (.invokevirtual 60, 3) := by decide +kernel
theorem dX8_isOpen_18 : decode cX8_isOpen 18 = .ok (.aload_n 0, 1) := by decide +kernel
theorem dX8_isOpen_19 : decode cX8_isOpen 19 = .ok (.getfield 9, 3) := by decide +kernel
theorem dX8_isOpen_22 : decode cX8_isOpen 22 = .ok (.getfield 101, 3) := by decide +kernel
theorem dX8_isOpen_25 : decode cX8_isOpen 25 = .ok (.getfield 104, 3) := by decide +kernel
theorem dX8_isOpen_28 : decode cX8_isOpen 28 = .ok (.iload_n 1, 1) := by decide +kernel
theorem dX8_isOpen_29 : decode cX8_isOpen 29 = .ok (.iaload, 1) := by decide +kernel
theorem dX8_isOpen_30 : decode cX8_isOpen 30 = .ok (.if_icmp .le 7, 3) := by decide +kernel
theorem dX8_isOpen_33 : decode cX8_isOpen 33 = .ok (.iconst 1, 1) := by decide +kernel
theorem dX8_isOpen_34 : decode cX8_isOpen 34 = .ok (.goto 4, 3) := by decide +kernel
theorem dX8_isOpen_37 : decode cX8_isOpen 37 = .ok (.iconst 0, 1) := by decide +kernel
theorem dX8_isOpen_38 : decode cX8_isOpen 38 = .ok (.ireturn, 1) := by decide +kernel
theorem dX8_spreadOf_0 : decode cX8_spreadOf 0 = .ok (.iconst 0, 1) := by decide +kernel
theorem dX8_spreadOf_1 : decode cX8_spreadOf 1 = .ok (.istore_n 3, 1) := by decide +kernel
theorem dX8_spreadOf_2 : decode cX8_spreadOf 2 = .ok (.iconst 0, 1) := by decide +kernel
theorem dX8_spreadOf_3 : decode cX8_spreadOf 3 = .ok (.istore 4, 2) := by decide +kernel
theorem dX8_spreadOf_5 : decode cX8_spreadOf 5 = .ok (.iconst 0, 1) := by decide +kernel
theorem dX8_spreadOf_6 : decode cX8_spreadOf 6 = .ok (.istore 5, 2) := by decide +kernel
theorem dX8_spreadOf_8 : decode cX8_spreadOf 8 = .ok (.iconst 0, 1) := by decide +kernel
theorem dX8_spreadOf_9 : decode cX8_spreadOf 9 = .ok (.istore 6, 2) := by decide +kernel
theorem dX8_spreadOf_11 : decode cX8_spreadOf 11 = .ok (.iload 6, 2) := by decide +kernel
theorem dX8_spreadOf_13 : decode cX8_spreadOf 13 = .ok (.aload_n 0, 1) := by decide +kernel
theorem dX8_spreadOf_14 : decode cX8_spreadOf 14 = .ok (.getfield 9, 3) := by decide +kernel
theorem dX8_spreadOf_17 : decode cX8_spreadOf 17 = .ok (.getfield 107, 3) := by decide +kernel
theorem dX8_spreadOf_20 : decode cX8_spreadOf 20 = .ok (.if_icmp .ge 67, 3) := by decide +kernel
theorem dX8_spreadOf_23 : decode cX8_spreadOf 23 = .ok (.iload_n 1, 1) := by decide +kernel
theorem dX8_spreadOf_24 : decode cX8_spreadOf 24 = .ok (.iload 6, 2) := by decide +kernel
theorem dX8_spreadOf_26 : decode cX8_spreadOf 26 = .ok (.ishr, 1) := by decide +kernel
theorem dX8_spreadOf_27 : decode cX8_spreadOf 27 = .ok (.iconst 1, 1) := by decide +kernel
theorem dX8_spreadOf_28 : decode cX8_spreadOf 28 = .ok (.iand, 1) := by decide +kernel
theorem dX8_spreadOf_29 : decode cX8_spreadOf 29 = .ok (.ifCond .eq 52, 3) := by decide +kernel
theorem dX8_spreadOf_32 : decode cX8_spreadOf 32 = .ok (.aload_n 0, 1) := by decide +kernel
theorem dX8_spreadOf_33 : decode cX8_spreadOf 33 = .ok (.iload 6, 2) := by decide +kernel
theorem dX8_spreadOf_35 : decode cX8_spreadOf 35 = .ok (.iload_n 2, 1) := by decide +kernel
theorem dX8_spreadOf_36 : decode cX8_spreadOf 36 = .ok (.iconst (-1), 1) := by decide +kernel
theorem dX8_spreadOf_37 : decode cX8_spreadOf 37 = .ok (.invokevirtual 63, 3) := by decide +kernel
theorem dX8_spreadOf_40 : decode cX8_spreadOf 40 = .ok (.istore 7, 2) := by decide +kernel
theorem dX8_spreadOf_42 : decode cX8_spreadOf 42 = .ok (.iload 5, 2) := by decide +kernel
theorem dX8_spreadOf_44 : decode cX8_spreadOf 44 = .ok (.ifCond .eq 12, 3) := by decide +kernel
theorem dX8_spreadOf_47 : decode cX8_spreadOf 47 = .ok (.iload_n 3, 1) := by decide +kernel
theorem dX8_spreadOf_48 : decode cX8_spreadOf 48 = .ok (.iload 7, 2) := by decide +kernel
theorem dX8_spreadOf_50 : decode cX8_spreadOf 50 = .ok (.invokestatic 110, 3) := by decide +kernel
theorem dX8_spreadOf_53 : decode cX8_spreadOf 53 = .ok (.goto 5, 3) := by decide +kernel
theorem dX8_spreadOf_56 : decode cX8_spreadOf 56 = .ok (.iload 7, 2) := by decide +kernel
theorem dX8_spreadOf_58 : decode cX8_spreadOf 58 = .ok (.istore_n 3, 1) := by decide +kernel
theorem dX8_spreadOf_59 : decode cX8_spreadOf 59 = .ok (.iload 5, 2) := by decide +kernel
theorem dX8_spreadOf_61 : decode cX8_spreadOf 61 = .ok (.ifCond .eq 13, 3) := by decide +kernel
theorem dX8_spreadOf_64 : decode cX8_spreadOf 64 = .ok (.iload 4, 2) := by decide +kernel
theorem dX8_spreadOf_66 : decode cX8_spreadOf 66 = .ok (.iload 7, 2) := by decide +kernel
theorem dX8_spreadOf_68 : decode cX8_spreadOf 68 = .ok (.invokestatic 47, 3) := by decide +kernel
theorem dX8_spreadOf_71 : decode cX8_spreadOf 71 = .ok (.goto 5, 3) := by decide +kernel
theorem dX8_spreadOf_74 : decode cX8_spreadOf 74 = .ok (.iload 7, 2) := by decide +kernel
theorem dX8_spreadOf_76 : decode cX8_spreadOf 76 = .ok (.istore 4, 2) := by decide +kernel
theorem dX8_spreadOf_78 : decode cX8_spreadOf 78 = .ok (.iconst 1, 1) := by decide +kernel
theorem dX8_spreadOf_79 : decode cX8_spreadOf 79 = .ok (.istore 5, 2) := by decide +kernel
theorem dX8_spreadOf_81 : decode cX8_spreadOf 81 = .ok (.iinc 6 1, 3) := by decide +kernel
theorem dX8_spreadOf_84 : decode cX8_spreadOf 84 = .ok (.goto (-73), 3) := by decide +kernel
theorem dX8_spreadOf_87 : decode cX8_spreadOf 87 = .ok (.iload 4, 2) := by decide +kernel
theorem dX8_spreadOf_89 : decode cX8_spreadOf 89 = .ok (.iload_n 3, 1) := by decide +kernel
theorem dX8_spreadOf_90 : decode cX8_spreadOf 90 = .ok (.isub, 1) := by decide +kernel
theorem dX8_spreadOf_91 : decode cX8_spreadOf 91 = .ok (.ireturn, 1) := by decide +kernel
theorem dX8_isAslant_0 : decode cX8_isAslant 0 = .ok (.iconst 0, 1) := by decide +kernel
theorem dX8_isAslant_1 : decode cX8_isAslant 1 = .ok (.istore_n 2, 1) := by decide +kernel
theorem dX8_isAslant_2 : decode cX8_isAslant 2 = .ok (.iload_n 2, 1) := by decide +kernel
theorem dX8_isAslant_3 : decode cX8_isAslant 3 = .ok (.aload_n 0, 1) := by decide +kernel
theorem dX8_isAslant_4 : decode cX8_isAslant 4 = .ok (.getfield 9, 3) := by decide +kernel
theorem dX8_isAslant_7 : decode cX8_isAslant 7 = .ok (.getfield 107, 3) := by decide +kernel
theorem dX8_isAslant_10 : decode cX8_isAslant 10 = .ok (.if_icmp .ge 47, 3) := by decide +kernel
theorem dX8_isAslant_13 : decode cX8_isAslant 13 = .ok (.aload_n 0, 1) := by decide +kernel
theorem dX8_isAslant_14 : decode cX8_isAslant 14 = .ok (.iload_n 2, 1) := by decide +kernel
theorem dX8_isAslant_15 : decode cX8_isAslant 15 = .ok (.aload_n 0, 1) := by decide +kernel
theorem dX8_isAslant_16 : decode cX8_isAslant 16 = .ok (.getfield 9, 3) := by decide +kernel
theorem dX8_isAslant_19 : decode cX8_isAslant 19 = .ok (.iload_n 2, 1) := by decide +kernel
theorem dX8_isAslant_20 : decode cX8_isAslant 20 = .ok (.iconst 2, 1) := by decide +kernel
theorem dX8_isAslant_21 : decode cX8_isAslant 21 = .ok (.invokevirtual 66, 3) := by decide +kernel
theorem dX8_isAslant_24 : decode cX8_isAslant 24 = .ok (.iload_n 1, 1) := by decide +kernel
theorem dX8_isAslant_25 : decode cX8_isAslant 25 = .ok (.invokevirtual 113, 3) := by decide +kernel
theorem dX8_isAslant_28 : decode cX8_isAslant 28 = .ok (.ifCond .ne 21, 3) := by decide +kernel
theorem dX8_isAslant_31 : decode cX8_isAslant 31 = .ok (.aload_n 0, 1) := by decide +kernel
theorem dX8_isAslant_32 : decode cX8_isAslant 32 = .ok (.iload_n 2, 1) := by decide +kernel
theorem dX8_isAslant_33 : decode cX8_isAslant 33 = .ok (.aload_n 0, 1) := by decide +kernel
theorem dX8_isAslant_34 : decode cX8_isAslant 34 = .ok (.getfield 9, 3) := by decide +kernel
theorem dX8_isAslant_37 : decode cX8_isAslant 37 = .ok (.iload_n 2, 1) := by decide +kernel
theorem dX8_isAslant_38 : decode cX8_isAslant 38 = .ok (.iconst 3, 1) := by decide +kernel
theorem dX8_isAslant_39 : decode cX8_isAslant 39 = .ok (.invokevirtual 66, 3) := by decide +kernel
theorem dX8_isAslant_42 : decode cX8_isAslant 42 = .ok (.iload_n 1, 1) := by decide +kernel
theorem dX8_isAslant_43 : decode cX8_isAslant 43 = .ok (.invokevirtual 113, 3) := by decide +kernel
theorem dX8_isAslant_46 : decode cX8_isAslant 46 = .ok (.ifCond .eq 5, 3) := by decide +kernel
theorem dX8_isAslant_49 : decode cX8_isAslant 49 = .ok (.iconst 0, 1) := by decide +kernel
theorem dX8_isAslant_50 : decode cX8_isAslant 50 = .ok (.ireturn, 1) := by decide +kernel
theorem dX8_isAslant_51 : decode cX8_isAslant 51 = .ok (.iinc 2 1, 3) := by decide +kernel
theorem dX8_isAslant_54 : decode cX8_isAslant 54 = .ok (.goto (-52), 3) := by decide +kernel
theorem dX8_isAslant_57 : decode cX8_isAslant 57 = .ok (.iconst 1, 1) := by decide +kernel
theorem dX8_isAslant_58 : decode cX8_isAslant 58 = .ok (.ireturn, 1) := by decide +kernel
theorem dX8_isLike_0 : decode cX8_isLike 0 = .ok (.iload_n 2, 1) := by decide +kernel
theorem dX8_isLike_1 : decode cX8_isLike 1 = .ok (.iconst (-1), 1) := by decide +kernel
theorem dX8_isLike_2 : decode cX8_isLike 2 = .ok (.if_icmp .eq 24, 3) := by decide +kernel
theorem dX8_isLike_5 : decode cX8_isLike 5 = .ok (.aload_n 0, 1) := by decide +kernel
theorem dX8_isLike_6 : decode cX8_isLike 6 = .ok (.iload_n 1, 1) := by decide +kernel
theorem dX8_isLike_7 : decode cX8_isLike 7 = .ok (.iload_n 3, 1) := by decide +kernel
theorem dX8_isLike_8 : decode cX8_isLike 8 = .ok (.iconst (-1), 1) := by decide +kernel
theorem dX8_isLike_9 : decode cX8_isLike 9 = .ok (.invokevirtual 63, 3) := by decide +kernel
theorem dX8_isLike_12 : decode cX8_isLike 12 = .ok (.aload_n 0, 1) := by decide +kernel
theorem dX8_isLike_13 : decode cX8_isLike 13 = .ok (.iload_n 2, 1) := by decide +kernel
theorem dX8_isLike_14 : decode cX8_isLike 14 = .ok (.iload_n 3, 1) := by decide +kernel
theorem dX8_isLike_15 : decode cX8_isLike 15 = .ok (.iconst (-1), 1) := by decide +kernel
theorem dX8_isLike_16 : decode cX8_isLike 16 = .ok (.invokevirtual 63, 3) := by decide +kernel
theorem dX8_isLike_19 : decode cX8_isLike 19 = .ok (.if_icmp .ne 7, 3) := by decide +kernel
theorem dX8_isLike_22 : decode cX8_isLike 22 = .ok (.iconst 1, 1) := by decide +kernel
theorem dX8_isLike_23 : decode cX8_isLike 23 = .ok (.goto 4, 3) := by decide +kernel
theorem dX8_isLike_26 : decode cX8_isLike 26 = .ok (.iconst 0, 1) := by decide +kernel
theorem dX8_isLike_27 : decode cX8_isLike 27 = .ok (.ireturn, 1) := by decide +kernel
theorem dX8_isTurn_0 : decode cX8_isTurn 0 = .ok (.aload_n 0, 1) := by decide +kernel
theorem dX8_isTurn_1 : decode cX8_isTurn 1 = .ok (.iload_n 1, 1) := by decide +kernel
theorem dX8_isTurn_2 : decode cX8_isTurn 2 = .ok (.iload_n 2, 1) := by decide +kernel
theorem dX8_isTurn_3 : decode cX8_isTurn 3 = .ok (.iconst (-1), 1) := by decide +kernel
theorem dX8_isTurn_4 : decode cX8_isTurn 4 = .ok (.invokevirtual 63, 3) := by decide +kernel
theorem dX8_isTurn_7 : decode cX8_isTurn 7 = .ok (.istore_n 3, 1) := by decide +kernel
theorem dX8_isTurn_8 : decode cX8_isTurn 8 = .ok (.aload_n 0, 1) := by decide +kernel
theorem dX8_isTurn_9 : decode cX8_isTurn 9 = .ok (.iload_n 1, 1) := by decide +kernel
theorem dX8_isTurn_10 : decode cX8_isTurn 10 = .ok (.iload_n 2, 1) := by decide +kernel
theorem dX8_isTurn_11 : decode cX8_isTurn 11 = .ok (.iconst 1, 1) := by decide +kernel
theorem dX8_isTurn_12 : decode cX8_isTurn 12 = .ok (.isub, 1) := by decide +kernel
theorem dX8_isTurn_13 : decode cX8_isTurn 13 = .ok (.iconst (-1), 1) := by decide +kernel
theorem dX8_isTurn_14 : decode cX8_isTurn 14 = .ok (.invokevirtual 63, 3) := by decide +kernel
theorem dX8_isTurn_17 : decode cX8_isTurn 17 = .ok (.istore 4, 2) := by decide +kernel
theorem dX8_isTurn_19 : decode cX8_isTurn 19 = .ok (.aload_n 0, 1) := by decide +kernel
theorem dX8_isTurn_20 : decode cX8_isTurn 20 = .ok (.iload_n 1, 1) := by decide +kernel
theorem dX8_isTurn_21 : decode cX8_isTurn 21 = .ok (.iload_n 2, 1) := by decide +kernel
theorem dX8_isTurn_22 : decode cX8_isTurn 22 = .ok (.iconst 1, 1) := by decide +kernel
theorem dX8_isTurn_23 : decode cX8_isTurn 23 = .ok (.iadd, 1) := by decide +kernel
theorem dX8_isTurn_24 : decode cX8_isTurn 24 = .ok (.iconst (-1), 1) := by decide +kernel
theorem dX8_isTurn_25 : decode cX8_isTurn 25 = .ok (.invokevirtual 63, 3) := by decide +kernel
theorem dX8_isTurn_28 : decode cX8_isTurn 28 = .ok (.istore 5, 2) := by decide +kernel
theorem dX8_isTurn_30 : decode cX8_isTurn 30 = .ok (.iload 4, 2) := by decide +kernel
theorem dX8_isTurn_32 : decode cX8_isTurn 32 = .ok (.iload_n 3, 1) := by decide +kernel
theorem dX8_isTurn_33 : decode cX8_isTurn 33 = .ok (.if_icmp .ge 9, 3) := by decide +kernel
theorem dX8_isTurn_36 : decode cX8_isTurn 36 = .ok (.iload 5, 2) := by decide +kernel
theorem dX8_isTurn_38 : decode cX8_isTurn 38 = .ok (.iload_n 3, 1) := by decide +kernel
theorem dX8_isTurn_39 : decode cX8_isTurn 39 = .ok (.if_icmp .lt 15, 3) := by decide +kernel
theorem dX8_isTurn_42 : decode cX8_isTurn 42 = .ok (.iload 4, 2) := by decide +kernel
theorem dX8_isTurn_44 : decode cX8_isTurn 44 = .ok (.iload_n 3, 1) := by decide +kernel
theorem dX8_isTurn_45 : decode cX8_isTurn 45 = .ok (.if_icmp .le 13, 3) := by decide +kernel
theorem dX8_isTurn_48 : decode cX8_isTurn 48 = .ok (.iload 5, 2) := by decide +kernel
theorem dX8_isTurn_50 : decode cX8_isTurn 50 = .ok (.iload_n 3, 1) := by decide +kernel
theorem dX8_isTurn_51 : decode cX8_isTurn 51 = .ok (.if_icmp .le 7, 3) := by decide +kernel
theorem dX8_isTurn_54 : decode cX8_isTurn 54 = .ok (.iconst 1, 1) := by decide +kernel
theorem dX8_isTurn_55 : decode cX8_isTurn 55 = .ok (.goto 4, 3) := by decide +kernel
theorem dX8_isTurn_58 : decode cX8_isTurn 58 = .ok (.iconst 0, 1) := by decide +kernel
theorem dX8_isTurn_59 : decode cX8_isTurn 59 = .ok (.ireturn, 1) := by decide +kernel
theorem dX8_cellsWithin_0 : decode cX8_cellsWithin 0 = .ok (.iconst 0, 1) := by decide +kernel
theorem dX8_cellsWithin_1 : decode cX8_cellsWithin 1 = .ok (.istore_n 3, 1) := by decide +kernel
theorem dX8_cellsWithin_2 : decode cX8_cellsWithin 2 = .ok (.iconst 0, 1) := by decide +kernel
theorem dX8_cellsWithin_3 : decode cX8_cellsWithin 3 = .ok (.istore 4, 2) := by decide +kernel
theorem dX8_cellsWithin_5 : decode cX8_cellsWithin 5 = .ok (.iload 4, 2) := by decide +kernel
theorem dX8_cellsWithin_7 : decode cX8_cellsWithin 7 = .ok (.aload_n 0, 1) := by decide +kernel
theorem dX8_cellsWithin_8 : decode cX8_cellsWithin 8 = .ok (.getfield 9, 3) := by decide +kernel
theorem dX8_cellsWithin_11 : decode cX8_cellsWithin 11 = .ok (.getfield 107, 3) := by decide +kernel
theorem dX8_cellsWithin_14 : decode cX8_cellsWithin 14 = .ok (.if_icmp .ge 54, 3) := by decide +kernel
theorem dX8_cellsWithin_17 : decode cX8_cellsWithin 17 = .ok (.aload_n 0, 1) := by decide +kernel
theorem dX8_cellsWithin_18 : decode cX8_cellsWithin 18 = .ok (.iload 4, 2) := by decide +kernel
theorem dX8_cellsWithin_20 : decode cX8_cellsWithin 20 = .ok (.iload_n 2, 1) := by decide +kernel
theorem dX8_cellsWithin_21 : decode cX8_cellsWithin 21 = .ok (.iconst (-1), 1) := by decide +kernel
theorem dX8_cellsWithin_22 : decode cX8_cellsWithin 22 = .ok (.invokevirtual 63, 3) := by decide +kernel
theorem dX8_cellsWithin_25 : decode cX8_cellsWithin 25 = .ok (.aload_n 0, 1) := by decide +kernel
theorem dX8_cellsWithin_26 : decode cX8_cellsWithin 26 = .ok (.getfield 9, 3) := by decide +kernel
theorem dX8_cellsWithin_29 : decode cX8_cellsWithin 29 = .ok (.getfield 117, 3) := by decide +kernel
theorem dX8_cellsWithin_32 : decode cX8_cellsWithin 32 = .ok (.getfield 84, 3) := by decide +kernel
theorem dX8_cellsWithin_35 : decode cX8_cellsWithin 35 = .ok (.iload_n 1, 1) := by decide +kernel
theorem dX8_cellsWithin_36 : decode cX8_cellsWithin 36 = .ok (.iaload, 1) := by decide +kernel
theorem dX8_cellsWithin_37 : decode cX8_cellsWithin 37 = .ok (.aload_n 0, 1) := by decide +kernel
theorem dX8_cellsWithin_38 : decode cX8_cellsWithin 38 = .ok (.getfield 9, 3) := by decide +kernel
theorem dX8_cellsWithin_41 : decode cX8_cellsWithin 41 = .ok (.getfield 117, 3) := by decide +kernel
theorem dX8_cellsWithin_44 : decode cX8_cellsWithin 44 = .ok (.getfield 104, 3) := by decide +kernel
theorem dX8_cellsWithin_47 : decode cX8_cellsWithin 47 = .ok (.iload_n 1, 1) := by decide +kernel
theorem dX8_cellsWithin_48 : decode cX8_cellsWithin 48 = .ok (.iaload, 1) := by decide +kernel
theorem dX8_cellsWithin_49 : decode cX8_cellsWithin 49 = .ok (.invokestatic 120, 3) := by decide +kernel
theorem dX8_cellsWithin_52 : decode cX8_cellsWithin 52 = .ok (.ifCond .ne 10, 3) := by decide +kernel
theorem dX8_cellsWithin_55 : decode cX8_cellsWithin 55 = .ok (.iload_n 3, 1) := by decide +kernel
theorem dX8_cellsWithin_56 : decode cX8_cellsWithin 56 = .ok (.iconst 1, 1) := by decide +kernel
theorem dX8_cellsWithin_57 : decode cX8_cellsWithin 57 = .ok (.iload 4, 2) := by decide +kernel
theorem dX8_cellsWithin_59 : decode cX8_cellsWithin 59 = .ok (.ishl, 1) := by decide +kernel
theorem dX8_cellsWithin_60 : decode cX8_cellsWithin 60 = .ok (.ior, 1) := by decide +kernel
theorem dX8_cellsWithin_61 : decode cX8_cellsWithin 61 = .ok (.istore_n 3, 1) := by decide +kernel
theorem dX8_cellsWithin_62 : decode cX8_cellsWithin 62 = .ok (.iinc 4 1, 3) := by decide +kernel
theorem dX8_cellsWithin_65 : decode cX8_cellsWithin 65 = .ok (.goto (-60), 3) := by decide +kernel
theorem dX8_cellsWithin_68 : decode cX8_cellsWithin 68 = .ok (.iload_n 3, 1) := by decide +kernel
theorem dX8_cellsWithin_69 : decode cX8_cellsWithin 69 = .ok (.ireturn, 1) := by decide +kernel
theorem dX8_pushTo_0 : decode cX8_pushTo 0 = .ok (.iload_n 2, 1) := by decide +kernel
theorem dX8_pushTo_1 : decode cX8_pushTo 1 = .ok (.iload_n 1, 1) := by decide +kernel
theorem dX8_pushTo_2 : decode cX8_pushTo 2 = .ok (.if_icmp .ne 5, 3) := by decide +kernel
theorem dX8_pushTo_5 : decode cX8_pushTo 5 = .ok (.iconst 0, 1) := by decide +kernel
theorem dX8_pushTo_6 : decode cX8_pushTo 6 = .ok (.ireturn, 1) := by decide +kernel
theorem dX8_pushTo_7 : decode cX8_pushTo 7 = .ok (.iload_n 2, 1) := by decide +kernel
theorem dX8_pushTo_8 : decode cX8_pushTo 8 = .ok (.iconst (-1), 1) := by decide +kernel
theorem dX8_pushTo_9 : decode cX8_pushTo 9 = .ok (.if_icmp .ne 5, 3) := by decide +kernel
theorem dX8_pushTo_12 : decode cX8_pushTo 12 = .ok (.iconst (-1), 1) := by decide +kernel
theorem dX8_pushTo_13 : decode cX8_pushTo 13 = .ok (.ireturn, 1) := by decide +kernel
theorem dX8_pushTo_14 : decode cX8_pushTo 14 = .ok (.aload_n 0, 1) := by decide +kernel
theorem dX8_pushTo_15 : decode cX8_pushTo 15 = .ok (.iload_n 1, 1) := by decide +kernel
theorem dX8_pushTo_16 : decode cX8_pushTo 16 = .ok (.iload_n 2, 1) := by decide +kernel
theorem dX8_pushTo_17 : decode cX8_pushTo 17 = .ok (.invokevirtual 123, 3) := by decide +kernel
theorem dX8_pushTo_20 : decode cX8_pushTo 20 = .ok (.istore 4, 2) := by decide +kernel
theorem dX8_pushTo_22 : decode cX8_pushTo 22 = .ok (.iload 4, 2) := by decide +kernel
theorem dX8_pushTo_24 : decode cX8_pushTo 24 = .ok (.iconst (-1), 1) := by decide +kernel
theorem dX8_pushTo_25 : decode cX8_pushTo 25 = .ok (.if_icmp .eq 15, 3) := by decide +kernel
theorem dX8_pushTo_28 : decode cX8_pushTo 28 = .ok (.aload_n 0, 1) := by decide +kernel
theorem dX8_pushTo_29 : decode cX8_pushTo 29 = .ok (.iload 4, 2) := by decide +kernel
theorem dX8_pushTo_31 : decode cX8_pushTo 31 = .ok (.iload_n 3, 1) := by decide +kernel
theorem dX8_pushTo_32 : decode cX8_pushTo 32 = .ok (.invokevirtual 126, 3) := by decide +kernel
theorem dX8_pushTo_35 : decode cX8_pushTo 35 = .ok (.ifCond .eq 5, 3) := by decide +kernel
theorem dX8_pushTo_38 : decode cX8_pushTo 38 = .ok (.iconst (-1), 1) := by decide +kernel
theorem dX8_pushTo_39 : decode cX8_pushTo 39 = .ok (.ireturn, 1) := by decide +kernel
theorem dX8_pushTo_40 : decode cX8_pushTo 40 = .ok (.aload_n 0, 1) := by decide +kernel
theorem dX8_pushTo_41 : decode cX8_pushTo 41 = .ok (.iload_n 2, 1) := by decide +kernel
theorem dX8_pushTo_42 : decode cX8_pushTo 42 = .ok (.iload_n 3, 1) := by decide +kernel
theorem dX8_pushTo_43 : decode cX8_pushTo 43 = .ok (.iconst (-1), 1) := by decide +kernel
theorem dX8_pushTo_44 : decode cX8_pushTo 44 = .ok (.invokevirtual 63, 3) := by decide +kernel
theorem dX8_pushTo_47 : decode cX8_pushTo 47 = .ok (.aload_n 0, 1) := by decide +kernel
theorem dX8_pushTo_48 : decode cX8_pushTo 48 = .ok (.iload_n 1, 1) := by decide +kernel
theorem dX8_pushTo_49 : decode cX8_pushTo 49 = .ok (.iload_n 3, 1) := by decide +kernel
theorem dX8_pushTo_50 : decode cX8_pushTo 50 = .ok (.iconst (-1), 1) := by decide +kernel
theorem dX8_pushTo_51 : decode cX8_pushTo 51 = .ok (.invokevirtual 63, 3) := by decide +kernel
theorem dX8_pushTo_54 : decode cX8_pushTo 54 = .ok (.isub, 1) := by decide +kernel
theorem dX8_pushTo_55 : decode cX8_pushTo 55 = .ok (.istore 5, 2) := by decide +kernel
theorem dX8_pushTo_57 : decode cX8_pushTo 57 = .ok (.iload 5, 2) := by decide +kernel
theorem dX8_pushTo_59 : decode cX8_pushTo 59 = .ok (.aload_n 0, 1) := by decide +kernel
theorem dX8_pushTo_60 : decode cX8_pushTo 60 = .ok (.getfield 15, 3) := by decide +kernel
theorem dX8_pushTo_63 : decode cX8_pushTo 63 = .ok (.getfield 129, 3) := by decide +kernel
theorem dX8_pushTo_66 : decode cX8_pushTo 66 = .ok (.if_icmp .le 7, 3) := by decide +kernel
theorem dX8_pushTo_69 : decode cX8_pushTo 69 = .ok (.iconst (-1), 1) := by decide +kernel
theorem dX8_pushTo_70 : decode cX8_pushTo 70 = .ok (.goto 9, 3) := by decide +kernel
theorem dX8_pushTo_73 : decode cX8_pushTo 73 = .ok (.iload 5, 2) := by decide +kernel
theorem dX8_pushTo_75 : decode cX8_pushTo 75 = .ok (.iconst 0, 1) := by decide +kernel
theorem dX8_pushTo_76 : decode cX8_pushTo 76 = .ok (.invokestatic 47, 3) := by decide +kernel
theorem dX8_pushTo_79 : decode cX8_pushTo 79 = .ok (.ireturn, 1) := by decide +kernel
theorem dX8_crackBetween_0 : decode cX8_crackBetween 0 = .ok (.iload_n 1, 1) := by decide +kernel
theorem dX8_crackBetween_1 : decode cX8_crackBetween 1 = .ok (.iload_n 2, 1) := by decide +kernel
theorem dX8_crackBetween_2 : decode cX8_crackBetween 2 = .ok (.invokestatic 110, 3) := by decide +kernel
theorem dX8_crackBetween_5 : decode cX8_crackBetween 5 = .ok (.istore_n 3, 1) := by decide +kernel
theorem dX8_crackBetween_6 : decode cX8_crackBetween 6 = .ok (.aload_n 0, 1) := by decide +kernel
theorem dX8_crackBetween_7 : decode cX8_crackBetween 7 = .ok (.getfield 9, 3) := by decide +kernel
theorem dX8_crackBetween_10 : decode cX8_crackBetween 10 = .ok (.iload_n 3, 1) := by decide +kernel
theorem dX8_crackBetween_11 : decode cX8_crackBetween 11 = .ok (.iconst 2, 1) := by decide +kernel
theorem dX8_crackBetween_12 : decode cX8_crackBetween 12 = .ok (.invokevirtual 66, 3) := by decide +kernel
theorem dX8_crackBetween_15 : decode cX8_crackBetween 15 = .ok (.iload_n 1, 1) := by decide +kernel
theorem dX8_crackBetween_16 : decode cX8_crackBetween 16 = .ok (.iload_n 2, 1) := by decide +kernel
theorem dX8_crackBetween_17 : decode cX8_crackBetween 17 = .ok (.invokestatic 47, 3) := by decide +kernel
theorem dX8_crackBetween_20 : decode cX8_crackBetween 20 = .ok (.if_icmp .ne 7, 3) := by decide +kernel
theorem dX8_crackBetween_23 : decode cX8_crackBetween 23 = .ok (.iconst 0, 1) := by decide +kernel
theorem dX8_crackBetween_24 : decode cX8_crackBetween 24 = .ok (.goto 4, 3) := by decide +kernel
theorem dX8_crackBetween_27 : decode cX8_crackBetween 27 = .ok (.iconst 1, 1) := by decide +kernel
theorem dX8_crackBetween_28 : decode cX8_crackBetween 28 = .ok (.istore 4, 2) := by decide +kernel
theorem dX8_crackBetween_30 : decode cX8_crackBetween 30 = .ok (.aload_n 0, 1) := by decide +kernel
theorem dX8_crackBetween_31 : decode cX8_crackBetween 31 = .ok (.getfield 9, 3) := by decide +kernel
theorem dX8_crackBetween_34 : decode cX8_crackBetween 34 = .ok (.getfield 101, 3) := by decide +kernel
theorem dX8_crackBetween_37 : decode cX8_crackBetween 37 = .ok (.iload_n 3, 1) := by decide +kernel
theorem dX8_crackBetween_38 : decode cX8_crackBetween 38 = .ok (.iload 4, 2) := by decide +kernel
theorem dX8_crackBetween_40 : decode cX8_crackBetween 40 = .ok (.invokevirtual 132, 3) := by decide +kernel
theorem dX8_crackBetween_43 : decode cX8_crackBetween 43 = .ok (.ireturn, 1) := by decide +kernel
theorem dX8_takeStep_0 : decode cX8_takeStep 0 = .ok (.aload_n 0, 1) := by decide +kernel
theorem dX8_takeStep_1 : decode cX8_takeStep 1 = .ok (.getfield 15, 3) := by decide +kernel
theorem dX8_takeStep_4 : decode cX8_takeStep 4 = .ok (.iload_n 1, 1) := by decide +kernel
theorem dX8_takeStep_5 : decode cX8_takeStep 5 = .ok (.putfield 135, 3) := by decide +kernel
theorem dX8_takeStep_8 : decode cX8_takeStep 8 = .ok (.aload_n 0, 1) := by decide +kernel
theorem dX8_takeStep_9 : decode cX8_takeStep 9 = .ok (.getfield 15, 3) := by decide +kernel
theorem dX8_takeStep_12 : decode cX8_takeStep 12 = .ok (.dup, 1) := by decide +kernel
theorem dX8_takeStep_13 : decode cX8_takeStep 13 = .ok (.getfield 138, 3) := by decide +kernel
theorem dX8_takeStep_16 : decode cX8_takeStep 16 = .ok (.iconst 1, 1) := by decide +kernel
theorem dX8_takeStep_17 : decode cX8_takeStep 17 = .ok (.iadd, 1) := by decide +kernel
theorem dX8_takeStep_18 : decode cX8_takeStep 18 = .ok (.putfield 138, 3) := by decide +kernel
theorem dX8_takeStep_21 : decode cX8_takeStep 21 = .ok (.aload_n 0, 1) := by decide +kernel
theorem dX8_takeStep_22 : decode cX8_takeStep 22 = .ok (.getfield 15, 3) := by decide +kernel
theorem dX8_takeStep_25 : decode cX8_takeStep 25 = .ok (.ldc 141, 2) := by decide +kernel
theorem dX8_takeStep_27 : decode cX8_takeStep 27 = .ok (.aload_n 0, 1) := by decide +kernel
theorem dX8_takeStep_28 : decode cX8_takeStep 28 = .ok (.getfield 15, 3) := by decide +kernel
theorem dX8_takeStep_31 : decode cX8_takeStep 31 = .ok (.getfield 142, 3) := by decide +kernel
theorem dX8_takeStep_34 : decode cX8_takeStep 34 = .ok (.iload_n 2, 1) := by decide +kernel
theorem dX8_takeStep_35 : decode cX8_takeStep 35 = .ok (.iadd, 1) := by decide +kernel
theorem dX8_takeStep_36 : decode cX8_takeStep 36 = .ok (.invokestatic 110, 3) := by decide +kernel
theorem dX8_takeStep_39 : decode cX8_takeStep 39 = .ok (.putfield 142, 3) := by decide +kernel
theorem dX8_takeStep_42 : decode cX8_takeStep 42 = .ok (.return_, 1) := by decide +kernel
theorem dX8_stepByDraws_0 : decode cX8_stepByDraws 0 = .ok (.aload_n 0, 1) := by decide +kernel
theorem dX8_stepByDraws_1 : decode cX8_stepByDraws 1 = .ok (.getfield 9, 3) := by decide +kernel
theorem dX8_stepByDraws_4 : decode cX8_stepByDraws 4 = .ok (.aload_n 0, 1) := by decide +kernel
theorem dX8_stepByDraws_5 : decode cX8_stepByDraws 5 = .ok (.getfield 15, 3) := by decide +kernel
theorem dX8_stepByDraws_8 : decode cX8_stepByDraws 8 = .ok (.getfield 135, 3) := by decide +kernel
theorem dX8_stepByDraws_11 : decode cX8_stepByDraws 11 = .ok (.aload_n 0, 1) := by decide +kernel
theorem dX8_stepByDraws_12 : decode cX8_stepByDraws 12 = .ok (.iconst 5, 1) := by decide +kernel
theorem dX8_stepByDraws_13 : decode cX8_stepByDraws 13 = .ok (.invokevirtual 145, 3) := by decide +kernel
theorem dX8_stepByDraws_16 : decode cX8_stepByDraws 16 = .ok (.invokevirtual 66, 3) := by decide +kernel
theorem dX8_stepByDraws_19 : decode cX8_stepByDraws 19 = .ok (.istore_n 1, 1) := by decide +kernel
theorem dX8_stepByDraws_20 : decode cX8_stepByDraws 20 = .ok (.aload_n 0, 1) := by decide +kernel
theorem dX8_stepByDraws_21 : decode cX8_stepByDraws 21 = .ok (.aload_n 0, 1) := by decide +kernel
theorem dX8_stepByDraws_22 : decode cX8_stepByDraws 22 = .ok (.getfield 15, 3) := by decide +kernel
theorem dX8_stepByDraws_25 : decode cX8_stepByDraws 25 = .ok (.getfield 135, 3) := by decide +kernel
theorem dX8_stepByDraws_28 : decode cX8_stepByDraws 28 = .ok (.iload_n 1, 1) := by decide +kernel
theorem dX8_stepByDraws_29 : decode cX8_stepByDraws 29 = .ok (.aload_n 0, 1) := by decide +kernel
theorem dX8_stepByDraws_30 : decode cX8_stepByDraws 30 = .ok (.getfield 15, 3) := by decide +kernel
theorem dX8_stepByDraws_33 : decode cX8_stepByDraws 33 = .ok (.getfield 138, 3) := by decide +kernel
theorem dX8_stepByDraws_36 : decode cX8_stepByDraws 36 = .ok (.iconst 1, 1) := by decide +kernel
theorem dX8_stepByDraws_37 : decode cX8_stepByDraws 37 = .ok (.iadd, 1) := by decide +kernel
theorem dX8_stepByDraws_38 : decode cX8_stepByDraws 38 = .ok (.invokevirtual 148, 3) := by decide +kernel
theorem dX8_stepByDraws_41 : decode cX8_stepByDraws 41 = .ok (.istore_n 2, 1) := by decide +kernel
theorem dX8_stepByDraws_42 : decode cX8_stepByDraws 42 = .ok (.iload_n 2, 1) := by decide +kernel
theorem dX8_stepByDraws_43 : decode cX8_stepByDraws 43 = .ok (.iconst (-1), 1) := by decide +kernel
theorem dX8_stepByDraws_44 : decode cX8_stepByDraws 44 = .ok (.if_icmp .ne 18, 3) := by decide +kernel
theorem dX8_stepByDraws_47 : decode cX8_stepByDraws 47 = .ok (.aload_n 0, 1) := by decide +kernel
theorem dX8_stepByDraws_48 : decode cX8_stepByDraws 48 = .ok (.aload_n 0, 1) := by decide +kernel
theorem dX8_stepByDraws_49 : decode cX8_stepByDraws 49 = .ok (.getfield 15, 3) := by decide +kernel
theorem dX8_stepByDraws_52 : decode cX8_stepByDraws 52 = .ok (.getfield 135, 3) := by decide +kernel
theorem dX8_stepByDraws_55 : decode cX8_stepByDraws 55 = .ok (.iconst 0, 1) := by decide +kernel
theorem dX8_stepByDraws_56 : decode cX8_stepByDraws 56 = .ok (.invokevirtual 151, 3) := by decide +kernel
theorem dX8_stepByDraws_59 : decode cX8_stepByDraws 59 = .ok (.goto 9, 3) := by decide +kernel
theorem dX8_stepByDraws_62 : decode cX8_stepByDraws 62 = .ok (.aload_n 0, 1) := by decide +kernel
theorem dX8_stepByDraws_63 : decode cX8_stepByDraws 63 = .ok (.iload_n 1, 1) := by decide +kernel
theorem dX8_stepByDraws_64 : decode cX8_stepByDraws 64 = .ok (.iload_n 2, 1) := by decide +kernel
theorem dX8_stepByDraws_65 : decode cX8_stepByDraws 65 = .ok (.invokevirtual 151, 3) := by decide +kernel
theorem dX8_stepByDraws_68 : decode cX8_stepByDraws 68 = .ok (.aload_n 0, 1) := by decide +kernel
theorem dX8_stepByDraws_69 : decode cX8_stepByDraws 69 = .ok (.bipush 12, 2) := by decide +kernel
theorem dX8_stepByDraws_71 : decode cX8_stepByDraws 71 = .ok (.invokevirtual 145, 3) := by decide +kernel
theorem dX8_stepByDraws_74 : decode cX8_stepByDraws 74 = .ok (.ifCond .ne 45, 3) := by decide +kernel
theorem dX8_stepByDraws_77 : decode cX8_stepByDraws 77 = .ok (.aload_n 0, 1) := by decide +kernel
theorem dX8_stepByDraws_78 : decode cX8_stepByDraws 78 = .ok (.aload_n 0, 1) := by decide +kernel
theorem dX8_stepByDraws_79 : decode cX8_stepByDraws 79 = .ok (.getfield 9, 3) := by decide +kernel
theorem dX8_stepByDraws_82 : decode cX8_stepByDraws 82 = .ok (.getfield 107, 3) := by decide +kernel
theorem dX8_stepByDraws_85 : decode cX8_stepByDraws 85 = .ok (.invokevirtual 145, 3) := by decide +kernel
theorem dX8_stepByDraws_88 : decode cX8_stepByDraws 88 = .ok (.istore_n 3, 1) := by decide +kernel
theorem dX8_stepByDraws_89 : decode cX8_stepByDraws 89 = .ok (.aload_n 0, 1) := by decide +kernel
theorem dX8_stepByDraws_90 : decode cX8_stepByDraws 90 = .ok (.getfield 15, 3) := by decide +kernel
theorem dX8_stepByDraws_93 : decode cX8_stepByDraws 93 = .ok (.getfield 44, 3) := by decide +kernel
theorem dX8_stepByDraws_96 : decode cX8_stepByDraws 96 = .ok (.iload_n 3, 1) := by decide +kernel
theorem dX8_stepByDraws_97 : decode cX8_stepByDraws 97 = .ok (.bipush 90, 2) := by decide +kernel
theorem dX8_stepByDraws_99 : decode cX8_stepByDraws 99 = .ok (.aload_n 0, 1) := by decide +kernel
theorem dX8_stepByDraws_100 : decode cX8_stepByDraws 100 = .ok (.getfield 15, 3) := by decide +kernel
theorem dX8_stepByDraws_103 : decode cX8_stepByDraws 103 = .ok (.getfield 44, 3) := by decide +kernel
theorem dX8_stepByDraws_106 : decode cX8_stepByDraws 106 = .ok (.iload_n 3, 1) := by decide +kernel
theorem dX8_stepByDraws_107 : decode cX8_stepByDraws 107 = .ok (.iaload, 1) := by decide +kernel
theorem dX8_stepByDraws_108 : decode cX8_stepByDraws 108 = .ok (.aload_n 0, 1) := by decide +kernel
theorem dX8_stepByDraws_109 : decode cX8_stepByDraws 109 = .ok (.bipush 30, 2) := by decide +kernel
theorem dX8_stepByDraws_111 : decode cX8_stepByDraws 111 = .ok (.invokevirtual 145, 3) := by decide +kernel
theorem dX8_stepByDraws_114 : decode cX8_stepByDraws 114 = .ok (.iadd, 1) := by decide +kernel
theorem dX8_stepByDraws_115 : decode cX8_stepByDraws 115 = .ok (.invokestatic 110, 3) := by decide +kernel
theorem dX8_stepByDraws_118 : decode cX8_stepByDraws 118 = .ok (.iastore, 1) := by decide +kernel
theorem dX8_stepByDraws_119 : decode cX8_stepByDraws 119 = .ok (.return_, 1) := by decide +kernel
theorem dX8_draw_0 : decode cX8_draw 0 = .ok (.aload_n 0, 1) := by decide +kernel
theorem dX8_draw_1 : decode cX8_draw 1 = .ok (.getfield 15, 3) := by decide +kernel
theorem dX8_draw_4 : decode cX8_draw 4 = .ok (.aload_n 0, 1) := by decide +kernel
theorem dX8_draw_5 : decode cX8_draw 5 = .ok (.getfield 15, 3) := by decide +kernel
theorem dX8_draw_8 : decode cX8_draw 8 = .ok (.getfield 155, 3) := by decide +kernel
theorem dX8_draw_11 : decode cX8_draw 11 = .ok (.ldc 158, 2) := by decide +kernel
theorem dX8_draw_13 : decode cX8_draw 13 = .ok (.imul, 1) := by decide +kernel
theorem dX8_draw_14 : decode cX8_draw 14 = .ok (.sipush 12345, 3) := by decide +kernel
theorem dX8_draw_17 : decode cX8_draw 17 = .ok (.iadd, 1) := by decide +kernel
theorem dX8_draw_18 : decode cX8_draw 18 = .ok (.ldc 159, 2) := by decide +kernel
theorem dX8_draw_20 : decode cX8_draw 20 = .ok (.iand, 1) := by decide +kernel
theorem dX8_draw_21 : decode cX8_draw 21 = .ok (.putfield 155, 3) := by decide +kernel
theorem dX8_draw_24 : decode cX8_draw 24 = .ok (.aload_n 0, 1) := by decide +kernel
theorem dX8_draw_25 : decode cX8_draw 25 = .ok (.getfield 15, 3) := by decide +kernel
theorem dX8_draw_28 : decode cX8_draw 28 = .ok (.getfield 155, 3) := by decide +kernel
theorem dX8_draw_31 : decode cX8_draw 31 = .ok (.ldc 160, 2) := by decide +kernel
theorem dX8_draw_33 : decode cX8_draw 33 = .ok (.idiv, 1) := by decide +kernel
theorem dX8_draw_34 : decode cX8_draw 34 = .ok (.iload_n 1, 1) := by decide +kernel
theorem dX8_draw_35 : decode cX8_draw 35 = .ok (.invokestatic 161, 3) := by decide +kernel
theorem dX8_draw_38 : decode cX8_draw 38 = .ok (.ireturn, 1) := by decide +kernel
theorem dJ9_abs_0f7a4_0 : decode cJ9_abs_0f7a4 0 = .ok (.iload_n 0, 1) := by decide +kernel
theorem dJ9_abs_0f7a4_1 : decode cJ9_abs_0f7a4 1 = .ok (.ifCond .ge 8, 3) := by decide +kernel
theorem dJ9_abs_0f7a4_4 : decode cJ9_abs_0f7a4 4 = .ok (.iload_n 0, 1) := by decide +kernel
theorem dJ9_abs_0f7a4_5 : decode cJ9_abs_0f7a4 5 = .ok (.ineg, 1) := by decide +kernel
theorem dJ9_abs_0f7a4_6 : decode cJ9_abs_0f7a4 6 = .ok (.goto 4, 3) := by decide +kernel
theorem dJ9_abs_0f7a4_9 : decode cJ9_abs_0f7a4 9 = .ok (.iload_n 0, 1) := by decide +kernel
theorem dJ9_abs_0f7a4_10 : decode cJ9_abs_0f7a4 10 = .ok (.ireturn, 1) := by decide +kernel
theorem dJ9_max_7cf53_0 : decode cJ9_max_7cf53 0 = .ok (.iload_n 0, 1) := by decide +kernel
theorem dJ9_max_7cf53_1 : decode cJ9_max_7cf53 1 = .ok (.iload_n 1, 1) := by decide +kernel
theorem dJ9_max_7cf53_2 : decode cJ9_max_7cf53 2 = .ok (.if_icmp .lt 7, 3) := by decide +kernel
theorem dJ9_max_7cf53_5 : decode cJ9_max_7cf53 5 = .ok (.iload_n 0, 1) := by decide +kernel
theorem dJ9_max_7cf53_6 : decode cJ9_max_7cf53 6 = .ok (.goto 4, 3) := by decide +kernel
theorem dJ9_max_7cf53_9 : decode cJ9_max_7cf53 9 = .ok (.iload_n 1, 1) := by decide +kernel
theorem dJ9_max_7cf53_10 : decode cJ9_max_7cf53 10 = .ok (.ireturn, 1) := by decide +kernel
theorem dJ9_min_7cf53_0 : decode cJ9_min_7cf53 0 = .ok (.iload_n 0, 1) := by decide +kernel
theorem dJ9_min_7cf53_1 : decode cJ9_min_7cf53 1 = .ok (.iload_n 1, 1) := by decide +kernel
theorem dJ9_min_7cf53_2 : decode cJ9_min_7cf53 2 = .ok (.if_icmp .gt 7, 3) := by decide +kernel
theorem dJ9_min_7cf53_5 : decode cJ9_min_7cf53 5 = .ok (.iload_n 0, 1) := by decide +kernel
theorem dJ9_min_7cf53_6 : decode cJ9_min_7cf53 6 = .ok (.goto 4, 3) := by decide +kernel
theorem dJ9_min_7cf53_9 : decode cJ9_min_7cf53 9 = .ok (.iload_n 1, 1) := by decide +kernel
theorem dJ9_min_7cf53_10 : decode cJ9_min_7cf53 10 = .ok (.ireturn, 1) := by decide +kernel
