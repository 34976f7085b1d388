theorem dX10_pass_44 : decode cX10_pass 44 = .ok (.ireturn, 1) := by decide +kernel
theorem dX10_held_0 : decode cX10_held 0 = .ok (.iload_n 0, 1) := by decide +kernel
theorem dX10_held_1 : decode cX10_held 1 = .ok (.ldc_w 354, 3) := by decide +kernel
theorem dX10_held_4 : decode cX10_held 4 = .ok (.if_icmp .le 9, 3) := by decide +kernel
theorem dX10_held_7 : decode cX10_held 7 = .ok (.ldc_w 354, 3) := by decide +kernel
theorem dX10_held_10 : decode cX10_held 10 = .ok (.goto 4, 3) := by decide +kernel
theorem dX10_held_13 : decode cX10_held 13 = .ok (.iload_n 0, 1) := by decide +kernel
theorem dX10_held_14 : decode cX10_held 14 = .ok (.ireturn, 1) := by decide +kernel
theorem dX10_rollNow_0 : decode cX10_rollNow 0 = .ok (.aload_n 0, 1) := by decide +kernel
theorem dX10_rollNow_1 : decode cX10_rollNow 1 = .ok (.dup, 1) := by decide +kernel
theorem dX10_rollNow_2 : decode cX10_rollNow 2 = .ok (.getfield 291, 3) := by decide +kernel
theorem dX10_rollNow_5 : decode cX10_rollNow 5 = .ok (.iconst 1, 1) := by decide +kernel
theorem dX10_rollNow_6 : decode cX10_rollNow 6 = .ok (.iadd, 1) := by decide +kernel
theorem dX10_rollNow_7 : decode cX10_rollNow 7 = .ok (.putfield 291, 3) := by decide +kernel
theorem dX10_rollNow_10 : decode cX10_rollNow 10 = .ok (.aload_n 0, 1) := by decide +kernel
theorem dX10_rollNow_11 : decode cX10_rollNow 11 = .ok (.aload_n 0, 1) := by decide +kernel
theorem dX10_rollNow_12 : decode cX10_rollNow 12 = .ok (.getfield 294, 3) := by decide +kernel
theorem dX10_rollNow_15 : decode cX10_rollNow 15 = .ok (.iload_n 1, 1) := by decide +kernel
theorem dX10_rollNow_16 : decode cX10_rollNow 16 = .ok (.aload_n 0, 1) := by decide +kernel
theorem dX10_rollNow_17 : decode cX10_rollNow 17 = .ok (.getfield 291, 3) := by decide +kernel
theorem dX10_rollNow_20 : decode cX10_rollNow 20 = .ok (.invokevirtual 355, 3) := by decide +kernel
theorem dX10_rollNow_23 : decode cX10_rollNow 23 = .ok (.istore_n 2, 1) := by decide +kernel
theorem dX10_rollNow_24 : decode cX10_rollNow 24 = .ok (.aload_n 0, 1) := by decide +kernel
theorem dX10_rollNow_25 : decode cX10_rollNow 25 = .ok (.aload_n 0, 1) := by decide +kernel
theorem dX10_rollNow_26 : decode cX10_rollNow 26 = .ok (.getfield 297, 3) := by decide +kernel
theorem dX10_rollNow_29 : decode cX10_rollNow 29 = .ok (.iload_n 2, 1) := by decide +kernel
theorem dX10_rollNow_30 : decode cX10_rollNow 30 = .ok (.iadd, 1) := by decide +kernel
theorem dX10_rollNow_31 : decode cX10_rollNow 31 = .ok (.invokestatic 358, 3) := by decide +kernel
theorem dX10_rollNow_34 : decode cX10_rollNow 34 = .ok (.putfield 297, 3) := by decide +kernel
theorem dX10_rollNow_37 : decode cX10_rollNow 37 = .ok (.aload_n 0, 1) := by decide +kernel
theorem dX10_rollNow_38 : decode cX10_rollNow 38 = .ok (.iload_n 1, 1) := by decide +kernel
theorem dX10_rollNow_39 : decode cX10_rollNow 39 = .ok (.putfield 294, 3) := by decide +kernel
theorem dX10_rollNow_42 : decode cX10_rollNow 42 = .ok (.iload_n 2, 1) := by decide +kernel
theorem dX10_rollNow_43 : decode cX10_rollNow 43 = .ok (.ireturn, 1) := by decide +kernel
theorem dX10_roll_0 : decode cX10_roll 0 = .ok (.iload_n 1, 1) := by decide +kernel
theorem dX10_roll_1 : decode cX10_roll 1 = .ok (.i2l, 1) := by decide +kernel
theorem dX10_roll_2 : decode cX10_roll 2 = .ok (.lconst 0, 1) := by decide +kernel
theorem dX10_roll_3 : decode cX10_roll 3 = .ok (.ldc2_w 361, 3) := by decide +kernel
theorem dX10_roll_6 : decode cX10_roll 6 = .ok (.invokestatic 165, 3) := by decide +kernel
theorem dX10_roll_9 : decode cX10_roll 9 = .ok (.ifCond .ne 6, 3) := by decide +kernel
theorem dX10_roll_12 : decode cX10_roll 12 = .ok (.ldc 175, 2) := by decide +kernel
theorem dX10_roll_14 : decode cX10_roll 14 = .ok (.ireturn, 1) := by decide +kernel
theorem dX10_roll_15 : decode cX10_roll 15 = .ok (.aload_n 0, 1) := by decide +kernel
theorem dX10_roll_16 : decode cX10_roll 16 = .ok (.getfield 159, 3) := by decide +kernel
theorem dX10_roll_19 : decode cX10_roll 19 = .ok (.ifCond .ne 7, 3) := by decide +kernel
theorem dX10_roll_22 : decode cX10_roll 22 = .ok (.iconst (-1), 1) := by decide +kernel
theorem dX10_roll_23 : decode cX10_roll 23 = .ok (.goto 18, 3) := by decide +kernel
theorem dX10_roll_26 : decode cX10_roll 26 = .ok (.aload_n 0, 1) := by decide +kernel
theorem dX10_roll_27 : decode cX10_roll 27 = .ok (.aload_n 0, 1) := by decide +kernel
theorem dX10_roll_28 : decode cX10_roll 28 = .ok (.getfield 294, 3) := by decide +kernel
theorem dX10_roll_31 : decode cX10_roll 31 = .ok (.iload_n 1, 1) := by decide +kernel
theorem dX10_roll_32 : decode cX10_roll 32 = .ok (.aload_n 0, 1) := by decide +kernel
theorem dX10_roll_33 : decode cX10_roll 33 = .ok (.getfield 291, 3) := by decide +kernel
theorem dX10_roll_36 : decode cX10_roll 36 = .ok (.iconst 1, 1) := by decide +kernel
theorem dX10_roll_37 : decode cX10_roll 37 = .ok (.iadd, 1) := by decide +kernel
theorem dX10_roll_38 : decode cX10_roll 38 = .ok (.invokevirtual 363, 3) := by decide +kernel
theorem dX10_roll_41 : decode cX10_roll 41 = .ok (.istore_n 2, 1) := by decide +kernel
theorem dX10_roll_42 : decode cX10_roll 42 = .ok (.iload_n 2, 1) := by decide +kernel
theorem dX10_roll_43 : decode cX10_roll 43 = .ok (.ifCond .ge 7, 3) := by decide +kernel
theorem dX10_roll_46 : decode cX10_roll 46 = .ok (.ldc_w 366, 3) := by decide +kernel
theorem dX10_roll_49 : decode cX10_roll 49 = .ok (.ireturn, 1) := by decide +kernel
theorem dX10_roll_50 : decode cX10_roll 50 = .ok (.aload_n 0, 1) := by decide +kernel
theorem dX10_roll_51 : decode cX10_roll 51 = .ok (.getfield 291, 3) := by decide +kernel
theorem dX10_roll_54 : decode cX10_roll 54 = .ok (.ldc_w 353, 3) := by decide +kernel
theorem dX10_roll_57 : decode cX10_roll 57 = .ok (.if_icmp .ne 8, 3) := by decide +kernel
theorem dX10_roll_60 : decode cX10_roll 60 = .ok (.ldc 179, 2) := by decide +kernel
theorem dX10_roll_62 : decode cX10_roll 62 = .ok (.goto 8, 3) := by decide +kernel
theorem dX10_roll_65 : decode cX10_roll 65 = .ok (.aload_n 0, 1) := by decide +kernel
theorem dX10_roll_66 : decode cX10_roll 66 = .ok (.iload_n 2, 1) := by decide +kernel
theorem dX10_roll_67 : decode cX10_roll 67 = .ok (.invokevirtual 367, 3) := by decide +kernel
theorem dX10_roll_70 : decode cX10_roll 70 = .ok (.ireturn, 1) := by decide +kernel
theorem dX10_steep_0 : decode cX10_steep 0 = .ok (.iload_n 1, 1) := by decide +kernel
theorem dX10_steep_1 : decode cX10_steep 1 = .ok (.i2l, 1) := by decide +kernel
theorem dX10_steep_2 : decode cX10_steep 2 = .ok (.lconst 0, 1) := by decide +kernel
theorem dX10_steep_3 : decode cX10_steep 3 = .ok (.ldc2_w 370, 3) := by decide +kernel
theorem dX10_steep_6 : decode cX10_steep 6 = .ok (.invokestatic 165, 3) := by decide +kernel
theorem dX10_steep_9 : decode cX10_steep 9 = .ok (.ifCond .ne 6, 3) := by decide +kernel
theorem dX10_steep_12 : decode cX10_steep 12 = .ok (.ldc 175, 2) := by decide +kernel
theorem dX10_steep_14 : decode cX10_steep 14 = .ok (.ireturn, 1) := by decide +kernel
theorem dX10_steep_15 : decode cX10_steep 15 = .ok (.aload_n 0, 1) := by decide +kernel
theorem dX10_steep_16 : decode cX10_steep 16 = .ok (.getfield 68, 3) := by decide +kernel
theorem dX10_steep_19 : decode cX10_steep 19 = .ok (.istore_n 2, 1) := by decide +kernel
theorem dX10_steep_20 : decode cX10_steep 20 = .ok (.aload_n 0, 1) := by decide +kernel
theorem dX10_steep_21 : decode cX10_steep 21 = .ok (.iload_n 1, 1) := by decide +kernel
theorem dX10_steep_22 : decode cX10_steep 22 = .ok (.putfield 68, 3) := by decide +kernel
theorem dX10_steep_25 : decode cX10_steep 25 = .ok (.iload_n 2, 1) := by decide +kernel
theorem dX10_steep_26 : decode cX10_steep 26 = .ok (.ireturn, 1) := by decide +kernel
theorem dX10_load_0 : decode cX10_load 0 = .ok (.aload_n 0, 1) := by decide +kernel
theorem dX10_load_1 : decode cX10_load 1 = .ok (.iload_n 1, 1) := by decide +kernel
theorem dX10_load_2 : decode cX10_load 2 = .ok (.iload_n 2, 1) := by decide +kernel
theorem dX10_load_3 : decode cX10_load 3 = .ok (.invokevirtual 169, 3) := by decide +kernel
theorem dX10_load_6 : decode cX10_load 6 = .ok (.ifCond .ne 7, 3) := by decide +kernel
theorem dX10_load_9 : decode cX10_load 9 = .ok (.ldc_w 329, 3) := by decide +kernel
theorem dX10_load_12 : decode cX10_load 12 = .ok (.ireturn, 1) := by decide +kernel
theorem dX10_load_13 : decode cX10_load 13 = .ok (.iload_n 3, 1) := by decide +kernel
theorem dX10_load_14 : decode cX10_load 14 = .ok (.i2l, 1) := by decide +kernel
theorem dX10_load_15 : decode cX10_load 15 = .ok (.lconst 0, 1) := by decide +kernel
theorem dX10_load_16 : decode cX10_load 16 = .ok (.ldc2_w 372, 3) := by decide +kernel
theorem dX10_load_19 : decode cX10_load 19 = .ok (.invokestatic 165, 3) := by decide +kernel
theorem dX10_load_22 : decode cX10_load 22 = .ok (.ifCond .ne 6, 3) := by decide +kernel
theorem dX10_load_25 : decode cX10_load 25 = .ok (.ldc 175, 2) := by decide +kernel
theorem dX10_load_27 : decode cX10_load 27 = .ok (.ireturn, 1) := by decide +kernel
theorem dX10_load_28 : decode cX10_load 28 = .ok (.aload_n 0, 1) := by decide +kernel
theorem dX10_load_29 : decode cX10_load 29 = .ok (.getfield 62, 3) := by decide +kernel
theorem dX10_load_32 : decode cX10_load 32 = .ok (.aload_n 0, 1) := by decide +kernel
theorem dX10_load_33 : decode cX10_load 33 = .ok (.getfield 159, 3) := by decide +kernel
theorem dX10_load_36 : decode cX10_load 36 = .ok (.iload_n 2, 1) := by decide +kernel
theorem dX10_load_37 : decode cX10_load 37 = .ok (.imul, 1) := by decide +kernel
theorem dX10_load_38 : decode cX10_load 38 = .ok (.iload_n 1, 1) := by decide +kernel
theorem dX10_load_39 : decode cX10_load 39 = .ok (.iadd, 1) := by decide +kernel
theorem dX10_load_40 : decode cX10_load 40 = .ok (.iaload, 1) := by decide +kernel
theorem dX10_load_41 : decode cX10_load 41 = .ok (.istore 4, 2) := by decide +kernel
theorem dX10_load_43 : decode cX10_load 43 = .ok (.aload_n 0, 1) := by decide +kernel
theorem dX10_load_44 : decode cX10_load 44 = .ok (.getfield 62, 3) := by decide +kernel
theorem dX10_load_47 : decode cX10_load 47 = .ok (.aload_n 0, 1) := by decide +kernel
theorem dX10_load_48 : decode cX10_load 48 = .ok (.getfield 159, 3) := by decide +kernel
theorem dX10_load_51 : decode cX10_load 51 = .ok (.iload_n 2, 1) := by decide +kernel
theorem dX10_load_52 : decode cX10_load 52 = .ok (.imul, 1) := by decide +kernel
theorem dX10_load_53 : decode cX10_load 53 = .ok (.iload_n 1, 1) := by decide +kernel
theorem dX10_load_54 : decode cX10_load 54 = .ok (.iadd, 1) := by decide +kernel
theorem dX10_load_55 : decode cX10_load 55 = .ok (.iload_n 3, 1) := by decide +kernel
theorem dX10_load_56 : decode cX10_load 56 = .ok (.iastore, 1) := by decide +kernel
theorem dX10_load_57 : decode cX10_load 57 = .ok (.iload 4, 2) := by decide +kernel
theorem dX10_load_59 : decode cX10_load 59 = .ok (.ireturn, 1) := by decide +kernel
theorem dX10_prop_0 : decode cX10_prop 0 = .ok (.iload_n 1, 1) := by decide +kernel
theorem dX10_prop_1 : decode cX10_prop 1 = .ok (.i2l, 1) := by decide +kernel
theorem dX10_prop_2 : decode cX10_prop 2 = .ok (.lconst 0, 1) := by decide +kernel
theorem dX10_prop_3 : decode cX10_prop 3 = .ok (.aload_n 0, 1) := by decide +kernel
theorem dX10_prop_4 : decode cX10_prop 4 = .ok (.getfield 270, 3) := by decide +kernel
theorem dX10_prop_7 : decode cX10_prop 7 = .ok (.iconst 1, 1) := by decide +kernel
theorem dX10_prop_8 : decode cX10_prop 8 = .ok (.isub, 1) := by decide +kernel
theorem dX10_prop_9 : decode cX10_prop 9 = .ok (.i2l, 1) := by decide +kernel
theorem dX10_prop_10 : decode cX10_prop 10 = .ok (.invokestatic 165, 3) := by decide +kernel
theorem dX10_prop_13 : decode cX10_prop 13 = .ok (.ifCond .ne 7, 3) := by decide +kernel
theorem dX10_prop_16 : decode cX10_prop 16 = .ok (.ldc_w 329, 3) := by decide +kernel
theorem dX10_prop_19 : decode cX10_prop 19 = .ok (.ireturn, 1) := by decide +kernel
theorem dX10_prop_20 : decode cX10_prop 20 = .ok (.iload_n 2, 1) := by decide +kernel
theorem dX10_prop_21 : decode cX10_prop 21 = .ok (.i2l, 1) := by decide +kernel
theorem dX10_prop_22 : decode cX10_prop 22 = .ok (.lconst 0, 1) := by decide +kernel
theorem dX10_prop_23 : decode cX10_prop 23 = .ok (.ldc2_w 374, 3) := by decide +kernel
theorem dX10_prop_26 : decode cX10_prop 26 = .ok (.invokestatic 165, 3) := by decide +kernel
theorem dX10_prop_29 : decode cX10_prop 29 = .ok (.ifCond .ne 6, 3) := by decide +kernel
theorem dX10_prop_32 : decode cX10_prop 32 = .ok (.ldc 175, 2) := by decide +kernel
theorem dX10_prop_34 : decode cX10_prop 34 = .ok (.ireturn, 1) := by decide +kernel
theorem dX10_prop_35 : decode cX10_prop 35 = .ok (.aload_n 0, 1) := by decide +kernel
theorem dX10_prop_36 : decode cX10_prop 36 = .ok (.getfield 65, 3) := by decide +kernel
theorem dX10_prop_39 : decode cX10_prop 39 = .ok (.iload_n 1, 1) := by decide +kernel
theorem dX10_prop_40 : decode cX10_prop 40 = .ok (.iaload, 1) := by decide +kernel
theorem dX10_prop_41 : decode cX10_prop 41 = .ok (.istore_n 3, 1) := by decide +kernel
theorem dX10_prop_42 : decode cX10_prop 42 = .ok (.aload_n 0, 1) := by decide +kernel
theorem dX10_prop_43 : decode cX10_prop 43 = .ok (.getfield 65, 3) := by decide +kernel
theorem dX10_prop_46 : decode cX10_prop 46 = .ok (.iload_n 1, 1) := by decide +kernel
theorem dX10_prop_47 : decode cX10_prop 47 = .ok (.iload_n 2, 1) := by decide +kernel
theorem dX10_prop_48 : decode cX10_prop 48 = .ok (.iastore, 1) := by decide +kernel
theorem dX10_prop_49 : decode cX10_prop 49 = .ok (.iload_n 3, 1) := by decide +kernel
theorem dX10_prop_50 : decode cX10_prop 50 = .ok (.ireturn, 1) := by decide +kernel
theorem dX10_shift_0 : decode cX10_shift 0 = .ok (.iload_n 1, 1) := by decide +kernel
theorem dX10_shift_1 : decode cX10_shift 1 = .ok (.i2l, 1) := by decide +kernel
theorem dX10_shift_2 : decode cX10_shift 2 = .ok (.lconst 0, 1) := by decide +kernel
theorem dX10_shift_3 : decode cX10_shift 3 = .ok (.aload_n 0, 1) := by decide +kernel
theorem dX10_shift_4 : decode cX10_shift 4 = .ok (.getfield 267, 3) := by decide +kernel
theorem dX10_shift_7 : decode cX10_shift 7 = .ok (.iconst 1, 1) := by decide +kernel
theorem dX10_shift_8 : decode cX10_shift 8 = .ok (.isub, 1) := by decide +kernel
theorem dX10_shift_9 : decode cX10_shift 9 = .ok (.i2l, 1) := by decide +kernel
theorem dX10_shift_10 : decode cX10_shift 10 = .ok (.invokestatic 165, 3) := by decide +kernel
theorem dX10_shift_13 : decode cX10_shift 13 = .ok (.ifCond .ne 7, 3) := by decide +kernel
theorem dX10_shift_16 : decode cX10_shift 16 = .ok (.ldc_w 329, 3) := by decide +kernel
theorem dX10_shift_19 : decode cX10_shift 19 = .ok (.ireturn, 1) := by decide +kernel
theorem dX10_shift_20 : decode cX10_shift 20 = .ok (.iload_n 2, 1) := by decide +kernel
theorem dX10_shift_21 : decode cX10_shift 21 = .ok (.i2l, 1) := by decide +kernel
theorem dX10_shift_22 : decode cX10_shift 22 = .ok (.lconst 0, 1) := by decide +kernel
theorem dX10_shift_23 : decode cX10_shift 23 = .ok (.ldc2_w 374, 3) := by decide +kernel
theorem dX10_shift_26 : decode cX10_shift 26 = .ok (.invokestatic 165, 3) := by decide +kernel
theorem dX10_shift_29 : decode cX10_shift 29 = .ok (.ifCond .ne 6, 3) := by decide +kernel
theorem dX10_shift_32 : decode cX10_shift 32 = .ok (.ldc 175, 2) := by decide +kernel
theorem dX10_shift_34 : decode cX10_shift 34 = .ok (.ireturn, 1) := by decide +kernel
theorem dX10_shift_35 : decode cX10_shift 35 = .ok (.aload_n 0, 1) := by decide +kernel
theorem dX10_shift_36 : decode cX10_shift 36 = .ok (.getfield 59, 3) := by decide +kernel
theorem dX10_shift_39 : decode cX10_shift 39 = .ok (.iload_n 1, 1) := by decide +kernel
theorem dX10_shift_40 : decode cX10_shift 40 = .ok (.iaload, 1) := by decide +kernel
theorem dX10_shift_41 : decode cX10_shift 41 = .ok (.istore_n 3, 1) := by decide +kernel
theorem dX10_shift_42 : decode cX10_shift 42 = .ok (.aload_n 0, 1) := by decide +kernel
theorem dX10_shift_43 : decode cX10_shift 43 = .ok (.getfield 59, 3) := by decide +kernel
theorem dX10_shift_46 : decode cX10_shift 46 = .ok (.iload_n 1, 1) := by decide +kernel
theorem dX10_shift_47 : decode cX10_shift 47 = .ok (.iload_n 2, 1) := by decide +kernel
theorem dX10_shift_48 : decode cX10_shift 48 = .ok (.aload_n 0, 1) := by decide +kernel
theorem dX10_shift_49 : decode cX10_shift 49 = .ok (.getfield 16, 3) := by decide +kernel
theorem dX10_shift_52 : decode cX10_shift 52 = .ok (.iload_n 1, 1) := by decide +kernel
theorem dX10_shift_53 : decode cX10_shift 53 = .ok (.iaload, 1) := by decide +kernel
theorem dX10_shift_54 : decode cX10_shift 54 = .ok (.irem, 1) := by decide +kernel
theorem dX10_shift_55 : decode cX10_shift 55 = .ok (.iastore, 1) := by decide +kernel
theorem dX10_shift_56 : decode cX10_shift 56 = .ok (.iload_n 3, 1) := by decide +kernel
theorem dX10_shift_57 : decode cX10_shift 57 = .ok (.ireturn, 1) := by decide +kernel
theorem dX10_draw_0 : decode cX10_draw 0 = .ok (.aload_n 0, 1) := by decide +kernel
theorem dX10_draw_1 : decode cX10_draw 1 = .ok (.aload_n 0, 1) := by decide +kernel
theorem dX10_draw_2 : decode cX10_draw 2 = .ok (.getfield 376, 3) := by decide +kernel
theorem dX10_draw_5 : decode cX10_draw 5 = .ok (.i2l, 1) := by decide +kernel
theorem dX10_draw_6 : decode cX10_draw 6 = .ok (.ldc2_w 379, 3) := by decide +kernel
theorem dX10_draw_9 : decode cX10_draw 9 = .ok (.lmul, 1) := by decide +kernel
theorem dX10_draw_10 : decode cX10_draw 10 = .ok (.ldc2_w 381, 3) := by decide +kernel
theorem dX10_draw_13 : decode cX10_draw 13 = .ok (.ladd, 1) := by decide +kernel
theorem dX10_draw_14 : decode cX10_draw 14 = .ok (.ldc2_w 383, 3) := by decide +kernel
theorem dX10_draw_17 : decode cX10_draw 17 = .ok (.lrem, 1) := by decide +kernel
theorem dX10_draw_18 : decode cX10_draw 18 = .ok (.l2i, 1) := by decide +kernel
theorem dX10_draw_19 : decode cX10_draw 19 = .ok (.putfield 376, 3) := by decide +kernel
theorem dX10_draw_22 : decode cX10_draw 22 = .ok (.aload_n 0, 1) := by decide +kernel
theorem dX10_draw_23 : decode cX10_draw 23 = .ok (.getfield 376, 3) := by decide +kernel
theorem dX10_draw_26 : decode cX10_draw 26 = .ok (.ldc_w 385, 3) := by decide +kernel
theorem dX10_draw_29 : decode cX10_draw 29 = .ok (.idiv, 1) := by decide +kernel
theorem dX10_draw_30 : decode cX10_draw 30 = .ok (.iload_n 1, 1) := by decide +kernel
theorem dX10_draw_31 : decode cX10_draw 31 = .ok (.irem, 1) := by decide +kernel
theorem dX10_draw_32 : decode cX10_draw 32 = .ok (.ireturn, 1) := by decide +kernel
theorem dX10_drift_0 : decode cX10_drift 0 = .ok (.iload_n 1, 1) := by decide +kernel
theorem dX10_drift_1 : decode cX10_drift 1 = .ok (.i2l, 1) := by decide +kernel
theorem dX10_drift_2 : decode cX10_drift 2 = .ok (.lconst 1, 1) := by decide +kernel
theorem dX10_drift_3 : decode cX10_drift 3 = .ok (.ldc2_w 370, 3) := by decide +kernel
theorem dX10_drift_6 : decode cX10_drift 6 = .ok (.invokestatic 165, 3) := by decide +kernel
theorem dX10_drift_9 : decode cX10_drift 9 = .ok (.ifCond .ne 6, 3) := by decide +kernel
theorem dX10_drift_12 : decode cX10_drift 12 = .ok (.ldc 175, 2) := by decide +kernel
theorem dX10_drift_14 : decode cX10_drift 14 = .ok (.ireturn, 1) := by decide +kernel
theorem dX10_drift_15 : decode cX10_drift 15 = .ok (.aload_n 0, 1) := by decide +kernel
theorem dX10_drift_16 : decode cX10_drift 16 = .ok (.getfield 159, 3) := by decide +kernel
theorem dX10_drift_19 : decode cX10_drift 19 = .ok (.ifCond .ne 7, 3) := by decide +kernel
theorem dX10_drift_22 : decode cX10_drift 22 = .ok (.ldc_w 366, 3) := by decide +kernel
theorem dX10_drift_25 : decode cX10_drift 25 = .ok (.ireturn, 1) := by decide +kernel
theorem dX10_drift_26 : decode cX10_drift 26 = .ok (.aload_n 0, 1) := by decide +kernel
theorem dX10_drift_27 : decode cX10_drift 27 = .ok (.getfield 291, 3) := by decide +kernel
theorem dX10_drift_30 : decode cX10_drift 30 = .ok (.ldc_w 386, 3) := by decide +kernel
theorem dX10_drift_33 : decode cX10_drift 33 = .ok (.if_icmp .le 6, 3) := by decide +kernel
theorem dX10_drift_36 : decode cX10_drift 36 = .ok (.ldc 179, 2) := by decide +kernel
theorem dX10_drift_38 : decode cX10_drift 38 = .ok (.ireturn, 1) := by decide +kernel
theorem dX10_drift_39 : decode cX10_drift 39 = .ok (.iconst 0, 1) := by decide +kernel
theorem dX10_drift_40 : decode cX10_drift 40 = .ok (.istore_n 2, 1) := by decide +kernel
theorem dX10_drift_41 : decode cX10_drift 41 = .ok (.iload_n 2, 1) := by decide +kernel
theorem dX10_drift_42 : decode cX10_drift 42 = .ok (.iload_n 1, 1) := by decide +kernel
theorem dX10_drift_43 : decode cX10_drift 43 = .ok (.if_icmp .ge 103, 3) := by decide +kernel
theorem dX10_drift_46 : decode cX10_drift 46 = .ok (.aload_n 0, 1) := by decide +kernel
theorem dX10_drift_47 : decode cX10_drift 47 = .ok (.aload_n 0, 1) := by decide +kernel
theorem dX10_drift_48 : decode cX10_drift 48 = .ok (.getfield 294, 3) := by decide +kernel
theorem dX10_drift_51 : decode cX10_drift 51 = .ok (.aload_n 0, 1) := by decide +kernel
theorem dX10_drift_52 : decode cX10_drift 52 = .ok (.iconst 5, 1) := by decide +kernel
theorem dX10_drift_53 : decode cX10_drift 53 = .ok (.invokevirtual 387, 3) := by decide +kernel
theorem dX10_drift_56 : decode cX10_drift 56 = .ok (.aload_n 0, 1) := by decide +kernel
theorem dX10_drift_57 : decode cX10_drift 57 = .ok (.getfield 291, 3) := by decide +kernel
theorem dX10_drift_60 : decode cX10_drift 60 = .ok (.iconst 1, 1) := by decide +kernel
theorem dX10_drift_61 : decode cX10_drift 61 = .ok (.iadd, 1) := by decide +kernel
theorem dX10_drift_62 : decode cX10_drift 62 = .ok (.invokevirtual 363, 3) := by decide +kernel
theorem dX10_drift_65 : decode cX10_drift 65 = .ok (.istore_n 3, 1) := by decide +kernel
theorem dX10_drift_66 : decode cX10_drift 66 = .ok (.aload_n 0, 1) := by decide +kernel
theorem dX10_drift_67 : decode cX10_drift 67 = .ok (.iload_n 3, 1) := by decide +kernel
theorem dX10_drift_68 : decode cX10_drift 68 = .ok (.ifCond .ge 10, 3) := by decide +kernel
theorem dX10_drift_71 : decode cX10_drift 71 = .ok (.aload_n 0, 1) := by decide +kernel
theorem dX10_drift_72 : decode cX10_drift 72 = .ok (.getfield 294, 3) := by decide +kernel
theorem dX10_drift_75 : decode cX10_drift 75 = .ok (.goto 4, 3) := by decide +kernel
theorem dX10_drift_78 : decode cX10_drift 78 = .ok (.iload_n 3, 1) := by decide +kernel
theorem dX10_drift_79 : decode cX10_drift 79 = .ok (.invokevirtual 367, 3) := by decide +kernel
theorem dX10_drift_82 : decode cX10_drift 82 = .ok (.istore 4, 2) := by decide +kernel
theorem dX10_drift_84 : decode cX10_drift 84 = .ok (.aload_n 0, 1) := by decide +kernel
theorem dX10_drift_85 : decode cX10_drift 85 = .ok (.bipush 12, 2) := by decide +kernel
theorem dX10_drift_87 : decode cX10_drift 87 = .ok (.invokevirtual 387, 3) := by decide +kernel
theorem dX10_drift_90 : decode cX10_drift 90 = .ok (.ifCond .ne 50, 3) := by decide +kernel
theorem dX10_drift_93 : decode cX10_drift 93 = .ok (.aload_n 0, 1) := by decide +kernel
theorem dX10_drift_94 : decode cX10_drift 94 = .ok (.aload_n 0, 1) := by decide +kernel
theorem dX10_drift_95 : decode cX10_drift 95 = .ok (.invokevirtual 306, 3) := by decide +kernel
theorem dX10_drift_98 : decode cX10_drift 98 = .ok (.invokevirtual 387, 3) := by decide +kernel
theorem dX10_drift_101 : decode cX10_drift 101 = .ok (.istore 5, 2) := by decide +kernel
theorem dX10_drift_103 : decode cX10_drift 103 = .ok (.aload_n 0, 1) := by decide +kernel
theorem dX10_drift_104 : decode cX10_drift 104 = .ok (.getfield 62, 3) := by decide +kernel
theorem dX10_drift_107 : decode cX10_drift 107 = .ok (.iload 5, 2) := by decide +kernel
theorem dX10_drift_109 : decode cX10_drift 109 = .ok (.iaload, 1) := by decide +kernel
theorem dX10_drift_110 : decode cX10_drift 110 = .ok (.aload_n 0, 1) := by decide +kernel
theorem dX10_drift_111 : decode cX10_drift 111 = .ok (.bipush 30, 2) := by decide +kernel
theorem dX10_drift_113 : decode cX10_drift 113 = .ok (.invokevirtual 387, 3) := by decide +kernel
theorem dX10_drift_116 : decode cX10_drift 116 = .ok (.iadd, 1) := by decide +kernel
theorem dX10_drift_117 : decode cX10_drift 117 = .ok (.istore 6, 2) := by decide +kernel
theorem dX10_drift_119 : decode cX10_drift 119 = .ok (.aload_n 0, 1) := by decide +kernel
theorem dX10_drift_120 : decode cX10_drift 120 = .ok (.getfield 62, 3) := by decide +kernel
theorem dX10_drift_123 : decode cX10_drift 123 = .ok (.iload 5, 2) := by decide +kernel
theorem dX10_drift_125 : decode cX10_drift 125 = .ok (.iload 6, 2) := by decide +kernel
theorem dX10_drift_127 : decode cX10_drift 127 = .ok (.bipush 90, 2) := by decide +kernel
theorem dX10_drift_129 : decode cX10_drift 129 = .ok (.if_icmp .le 8, 3) := by decide +kernel
theorem dX10_drift_132 : decode cX10_drift 132 = .ok (.bipush 90, 2) := by decide +kernel
theorem dX10_drift_134 : decode cX10_drift 134 = .ok (.goto 5, 3) := by decide +kernel
theorem dX10_drift_137 : decode cX10_drift 137 = .ok (.iload 6, 2) := by decide +kernel
theorem dX10_drift_139 : decode cX10_drift 139 = .ok (.iastore, 1) := by decide +kernel
theorem dX10_drift_140 : decode cX10_drift 140 = .ok (.iinc 2 1, 3) := by decide +kernel
theorem dX10_drift_143 : decode cX10_drift 143 = .ok (.goto (-102), 3) := by decide +kernel
theorem dX10_drift_146 : decode cX10_drift 146 = .ok (.aload_n 0, 1) := by decide +kernel
theorem dX10_drift_147 : decode cX10_drift 147 = .ok (.aload_n 0, 1) := by decide +kernel
theorem dX10_drift_148 : decode cX10_drift 148 = .ok (.getfield 294, 3) := by decide +kernel
theorem dX10_drift_151 : decode cX10_drift 151 = .ok (.invokevirtual 326, 3) := by decide +kernel
theorem dX10_drift_154 : decode cX10_drift 154 = .ok (.ireturn, 1) := by decide +kernel
theorem dX10_isStep_0 : decode cX10_isStep 0 = .ok (.iload_n 0, 1) := by decide +kernel
theorem dX10_isStep_1 : decode cX10_isStep 1 = .ok (.i2l, 1) := by decide +kernel
theorem dX10_isStep_2 : decode cX10_isStep 2 = .ok (.lconst 0, 1) := by decide +kernel
theorem dX10_isStep_3 : decode cX10_isStep 3 = .ok (.ldc2_w 390, 3) := by decide +kernel
theorem dX10_isStep_6 : decode cX10_isStep 6 = .ok (.invokestatic 165, 3) := by decide +kernel
theorem dX10_isStep_9 : decode cX10_isStep 9 = .ok (.ireturn, 1) := by decide +kernel
theorem dX10_isLevel_0 : decode cX10_isLevel 0 = .ok (.ldc_w 392, 3) := by decide +kernel
theorem dX10_isLevel_3 : decode cX10_isLevel 3 = .ok (.istore 4, 2) := by decide +kernel
theorem dX10_isLevel_5 : decode cX10_isLevel 5 = .ok (.ldc_w 393, 3) := by decide +kernel
theorem dX10_isLevel_8 : decode cX10_isLevel 8 = .ok (.istore 5, 2) := by decide +kernel
theorem dX10_isLevel_10 : decode cX10_isLevel 10 = .ok (.iconst 0, 1) := by decide +kernel
theorem dX10_isLevel_11 : decode cX10_isLevel 11 = .ok (.istore 6, 2) := by decide +kernel
theorem dX10_isLevel_13 : decode cX10_isLevel 13 = .ok (.iload 6, 2) := by decide +kernel
theorem dX10_isLevel_15 : decode cX10_isLevel 15 = .ok (.aload_n 0, 1) := by decide +kernel
theorem dX10_isLevel_16 : decode cX10_isLevel 16 = .ok (.invokevirtual 306, 3) := by decide +kernel
theorem dX10_isLevel_19 : decode cX10_isLevel 19 = .ok (.if_icmp .ge 59, 3) := by decide +kernel
theorem dX10_isLevel_22 : decode cX10_isLevel 22 = .ok (.iload_n 1, 1) := by decide +kernel
theorem dX10_isLevel_23 : decode cX10_isLevel 23 = .ok (.iload 6, 2) := by decide +kernel
theorem dX10_isLevel_25 : decode cX10_isLevel 25 = .ok (.invokestatic 394, 3) := by decide +kernel
theorem dX10_isLevel_28 : decode cX10_isLevel 28 = .ok (.ifCond .eq 44, 3) := by decide +kernel
theorem dX10_isLevel_31 : decode cX10_isLevel 31 = .ok (.aload_n 0, 1) := by decide +kernel
theorem dX10_isLevel_32 : decode cX10_isLevel 32 = .ok (.iload 6, 2) := by decide +kernel
theorem dX10_isLevel_34 : decode cX10_isLevel 34 = .ok (.iload_n 3, 1) := by decide +kernel
theorem dX10_isLevel_35 : decode cX10_isLevel 35 = .ok (.invokevirtual 323, 3) := by decide +kernel
theorem dX10_isLevel_38 : decode cX10_isLevel 38 = .ok (.istore 7, 2) := by decide +kernel
theorem dX10_isLevel_40 : decode cX10_isLevel 40 = .ok (.iload 7, 2) := by decide +kernel
theorem dX10_isLevel_42 : decode cX10_isLevel 42 = .ok (.iload 4, 2) := by decide +kernel
theorem dX10_isLevel_44 : decode cX10_isLevel 44 = .ok (.if_icmp .ge 8, 3) := by decide +kernel
theorem dX10_isLevel_47 : decode cX10_isLevel 47 = .ok (.iload 7, 2) := by decide +kernel
theorem dX10_isLevel_49 : decode cX10_isLevel 49 = .ok (.goto 5, 3) := by decide +kernel
theorem dX10_isLevel_52 : decode cX10_isLevel 52 = .ok (.iload 4, 2) := by decide +kernel
theorem dX10_isLevel_54 : decode cX10_isLevel 54 = .ok (.istore 4, 2) := by decide +kernel
theorem dX10_isLevel_56 : decode cX10_isLevel 56 = .ok (.iload 7, 2) := by decide +kernel
theorem dX10_isLevel_58 : decode cX10_isLevel 58 = .ok (.iload 5, 2) := by decide +kernel
theorem dX10_isLevel_60 : decode cX10_isLevel 60 = .ok (.if_icmp .le 8, 3) := by decide +kernel
theorem dX10_isLevel_63 : decode cX10_isLevel 63 = .ok (.iload 7, 2) := by decide +kernel
theorem dX10_isLevel_65 : decode cX10_isLevel 65 = .ok (.goto 5, 3) := by decide +kernel
theorem dX10_isLevel_68 : decode cX10_isLevel 68 = .ok (.iload 5, 2) := by decide +kernel
theorem dX10_isLevel_70 : decode cX10_isLevel 70 = .ok (.istore 5, 2) := by decide +kernel
theorem dX10_isLevel_72 : decode cX10_isLevel 72 = .ok (.iinc 6 1, 3) := by decide +kernel
theorem dX10_isLevel_75 : decode cX10_isLevel 75 = .ok (.goto (-62), 3) := by decide +kernel
theorem dX10_isLevel_78 : decode cX10_isLevel 78 = .ok (.iload 5, 2) := by decide +kernel
theorem dX10_isLevel_80 : decode cX10_isLevel 80 = .ok (.iload 4, 2) := by decide +kernel
theorem dX10_isLevel_82 : decode cX10_isLevel 82 = .ok (.isub, 1) := by decide +kernel
theorem dX10_isLevel_83 : decode cX10_isLevel 83 = .ok (.iload_n 2, 1) := by decide +kernel
theorem dX10_isLevel_84 : decode cX10_isLevel 84 = .ok (.if_icmp .gt 7, 3) := by decide +kernel
theorem dX10_isLevel_87 : decode cX10_isLevel 87 = .ok (.iconst 1, 1) := by decide +kernel
theorem dX10_isLevel_88 : decode cX10_isLevel 88 = .ok (.goto 4, 3) := by decide +kernel
theorem dX10_isLevel_91 : decode cX10_isLevel 91 = .ok (.iconst 0, 1) := by decide +kernel
theorem dX10_isLevel_92 : decode cX10_isLevel 92 = .ok (.ireturn, 1) := by decide +kernel
theorem dX10_level_0 : decode cX10_level 0 = .ok (.iload_n 1, 1) := by decide +kernel
theorem dX10_level_1 : decode cX10_level 1 = .ok (.ifCond .le 12, 3) := by decide +kernel
theorem dX10_level_4 : decode cX10_level 4 = .ok (.iload_n 1, 1) := by decide +kernel
theorem dX10_level_5 : decode cX10_level 5 = .ok (.aload_n 0, 1) := by decide +kernel
theorem dX10_level_6 : decode cX10_level 6 = .ok (.invokevirtual 306, 3) := by decide +kernel
theorem dX10_level_9 : decode cX10_level 9 = .ok (.ishr, 1) := by decide +kernel
theorem dX10_level_10 : decode cX10_level 10 = .ok (.ifCond .eq 7, 3) := by decide +kernel
theorem dX10_level_13 : decode cX10_level 13 = .ok (.ldc_w 329, 3) := by decide +kernel
theorem dX10_level_16 : decode cX10_level 16 = .ok (.ireturn, 1) := by decide +kernel
theorem dX10_level_17 : decode cX10_level 17 = .ok (.iload_n 2, 1) := by decide +kernel
theorem dX10_level_18 : decode cX10_level 18 = .ok (.i2l, 1) := by decide +kernel
theorem dX10_level_19 : decode cX10_level 19 = .ok (.lconst 0, 1) := by decide +kernel
theorem dX10_level_20 : decode cX10_level 20 = .ok (.ldc2_w 370, 3) := by decide +kernel
theorem dX10_level_23 : decode cX10_level 23 = .ok (.invokestatic 165, 3) := by decide +kernel
theorem dX10_level_26 : decode cX10_level 26 = .ok (.ifCond .eq 10, 3) := by decide +kernel
theorem dX10_level_29 : decode cX10_level 29 = .ok (.iload_n 3, 1) := by decide +kernel
theorem dX10_level_30 : decode cX10_level 30 = .ok (.invokestatic 397, 3) := by decide +kernel
theorem dX10_level_33 : decode cX10_level 33 = .ok (.ifCond .ne 6, 3) := by decide +kernel
theorem dX10_level_36 : decode cX10_level 36 = .ok (.ldc 175, 2) := by decide +kernel
theorem dX10_level_38 : decode cX10_level 38 = .ok (.ireturn, 1) := by decide +kernel
theorem dX10_level_39 : decode cX10_level 39 = .ok (.iconst 0, 1) := by decide +kernel
theorem dX10_level_40 : decode cX10_level 40 = .ok (.istore 4, 2) := by decide +kernel
theorem dX10_level_42 : decode cX10_level 42 = .ok (.iload 4, 2) := by decide +kernel
theorem dX10_level_44 : decode cX10_level 44 = .ok (.aload_n 0, 1) := by decide +kernel
theorem dX10_level_45 : decode cX10_level 45 = .ok (.getfield 55, 3) := by decide +kernel
theorem dX10_level_48 : decode cX10_level 48 = .ok (.if_icmp .ge 25, 3) := by decide +kernel
theorem dX10_level_51 : decode cX10_level 51 = .ok (.aload_n 0, 1) := by decide +kernel
theorem dX10_level_52 : decode cX10_level 52 = .ok (.iload_n 1, 1) := by decide +kernel
theorem dX10_level_53 : decode cX10_level 53 = .ok (.iload_n 2, 1) := by decide +kernel
theorem dX10_level_54 : decode cX10_level 54 = .ok (.iload_n 3, 1) := by decide +kernel
theorem dX10_level_55 : decode cX10_level 55 = .ok (.iload 4, 2) := by decide +kernel
theorem dX10_level_57 : decode cX10_level 57 = .ok (.iadd, 1) := by decide +kernel
theorem dX10_level_58 : decode cX10_level 58 = .ok (.invokevirtual 401, 3) := by decide +kernel
theorem dX10_level_61 : decode cX10_level 61 = .ok (.ifCond .eq 6, 3) := by decide +kernel
theorem dX10_level_64 : decode cX10_level 64 = .ok (.iload 4, 2) := by decide +kernel
theorem dX10_level_66 : decode cX10_level 66 = .ok (.ireturn, 1) := by decide +kernel
theorem dX10_level_67 : decode cX10_level 67 = .ok (.iinc 4 1, 3) := by decide +kernel
theorem dX10_level_70 : decode cX10_level 70 = .ok (.goto (-28), 3) := by decide +kernel
theorem dX10_level_73 : decode cX10_level 73 = .ok (.iconst (-1), 1) := by decide +kernel
theorem dX10_level_74 : decode cX10_level 74 = .ok (.ireturn, 1) := by decide +kernel
theorem dX10_isAslant_0 : decode cX10_isAslant 0 = .ok (.aload_n 0, 1) := by decide +kernel
theorem dX10_isAslant_1 : decode cX10_isAslant 1 = .ok (.invokevirtual 306, 3) := by decide +kernel
theorem dX10_isAslant_4 : decode cX10_isAslant 4 = .ok (.iconst 1, 1) := by decide +kernel
theorem dX10_isAslant_5 : decode cX10_isAslant 5 = .ok (.if_icmp .le 7, 3) := by decide +kernel
theorem dX10_isAslant_8 : decode cX10_isAslant 8 = .ok (.iconst 1, 1) := by decide +kernel
theorem dX10_isAslant_9 : decode cX10_isAslant 9 = .ok (.goto 4, 3) := by decide +kernel
theorem dX10_isAslant_12 : decode cX10_isAslant 12 = .ok (.iconst 0, 1) := by decide +kernel
theorem dX10_isAslant_13 : decode cX10_isAslant 13 = .ok (.istore_n 2, 1) := by decide +kernel
theorem dX10_isAslant_14 : decode cX10_isAslant 14 = .ok (.iconst 0, 1) := by decide +kernel
theorem dX10_isAslant_15 : decode cX10_isAslant 15 = .ok (.istore_n 3, 1) := by decide +kernel
theorem dX10_isAslant_16 : decode cX10_isAslant 16 = .ok (.iload_n 3, 1) := by decide +kernel
theorem dX10_isAslant_17 : decode cX10_isAslant 17 = .ok (.aload_n 0, 1) := by decide +kernel
theorem dX10_isAslant_18 : decode cX10_isAslant 18 = .ok (.invokevirtual 306, 3) := by decide +kernel
theorem dX10_isAslant_21 : decode cX10_isAslant 21 = .ok (.if_icmp .ge 68, 3) := by decide +kernel
theorem dX10_isAslant_24 : decode cX10_isAslant 24 = .ok (.iload_n 2, 1) := by decide +kernel
theorem dX10_isAslant_25 : decode cX10_isAslant 25 = .ok (.ifCond .eq 64, 3) := by decide +kernel
theorem dX10_isAslant_28 : decode cX10_isAslant 28 = .ok (.iconst 2, 1) := by decide +kernel
theorem dX10_isAslant_29 : decode cX10_isAslant 29 = .ok (.istore 4, 2) := by decide +kernel
theorem dX10_isAslant_31 : decode cX10_isAslant 31 = .ok (.iload 4, 2) := by decide +kernel
theorem dX10_isAslant_33 : decode cX10_isAslant 33 = .ok (.iconst 4, 1) := by decide +kernel
theorem dX10_isAslant_34 : decode cX10_isAslant 34 = .ok (.if_icmp .ge 49, 3) := by decide +kernel
theorem dX10_isAslant_37 : decode cX10_isAslant 37 = .ok (.aload_n 0, 1) := by decide +kernel
theorem dX10_isAslant_38 : decode cX10_isAslant 38 = .ok (.iload_n 3, 1) := by decide +kernel
theorem dX10_isAslant_39 : decode cX10_isAslant 39 = .ok (.iload 4, 2) := by decide +kernel
theorem dX10_isAslant_41 : decode cX10_isAslant 41 = .ok (.invokevirtual 320, 3) := by decide +kernel
theorem dX10_isAslant_44 : decode cX10_isAslant 44 = .ok (.istore 5, 2) := by decide +kernel
theorem dX10_isAslant_46 : decode cX10_isAslant 46 = .ok (.iload_n 2, 1) := by decide +kernel
theorem dX10_isAslant_47 : decode cX10_isAslant 47 = .ok (.ifCond .eq 28, 3) := by decide +kernel
theorem dX10_isAslant_50 : decode cX10_isAslant 50 = .ok (.iload 5, 2) := by decide +kernel
theorem dX10_isAslant_52 : decode cX10_isAslant 52 = .ok (.ifCond .lt 19, 3) := by decide +kernel
theorem dX10_isAslant_55 : decode cX10_isAslant 55 = .ok (.aload_n 0, 1) := by decide +kernel
theorem dX10_isAslant_56 : decode cX10_isAslant 56 = .ok (.iload 5, 2) := by decide +kernel
theorem dX10_isAslant_58 : decode cX10_isAslant 58 = .ok (.iload_n 1, 1) := by decide +kernel
theorem dX10_isAslant_59 : decode cX10_isAslant 59 = .ok (.invokevirtual 323, 3) := by decide +kernel
theorem dX10_isAslant_62 : decode cX10_isAslant 62 = .ok (.aload_n 0, 1) := by decide +kernel
theorem dX10_isAslant_63 : decode cX10_isAslant 63 = .ok (.iload_n 3, 1) := by decide +kernel
theorem dX10_isAslant_64 : decode cX10_isAslant 64 = .ok (.iload_n 1, 1) := by decide +kernel
theorem dX10_isAslant_65 : decode cX10_isAslant 65 = .ok (.invokevirtual 323, 3) := by decide +kernel
theorem dX10_isAslant_68 : decode cX10_isAslant 68 = .ok (.if_icmp .eq 7, 3) := by decide +kernel
theorem dX10_isAslant_71 : decode cX10_isAslant 71 = .ok (.iconst 1, 1) := by decide +kernel
theorem dX10_isAslant_72 : decode cX10_isAslant 72 = .ok (.goto 4, 3) := by decide +kernel
theorem dX10_isAslant_75 : decode cX10_isAslant 75 = .ok (.iconst 0, 1) := by decide +kernel
theorem dX10_isAslant_76 : decode cX10_isAslant 76 = .ok (.istore_n 2, 1) := by decide +kernel
theorem dX10_isAslant_77 : decode cX10_isAslant 77 = .ok (.iinc 4 1, 3) := by decide +kernel
theorem dX10_isAslant_80 : decode cX10_isAslant 80 = .ok (.goto (-49), 3) := by decide +kernel
theorem dX10_isAslant_83 : decode cX10_isAslant 83 = .ok (.iinc 3 1, 3) := by decide +kernel
theorem dX10_isAslant_86 : decode cX10_isAslant 86 = .ok (.goto (-70), 3) := by decide +kernel
theorem dX10_isAslant_89 : decode cX10_isAslant 89 = .ok (.iload_n 2, 1) := by decide +kernel
theorem dX10_isAslant_90 : decode cX10_isAslant 90 = .ok (.ireturn, 1) := by decide +kernel
theorem dX10_aslant_0 : decode cX10_aslant 0 = .ok (.iload_n 1, 1) := by decide +kernel
theorem dX10_aslant_1 : decode cX10_aslant 1 = .ok (.invokestatic 397, 3) := by decide +kernel
theorem dX10_aslant_4 : decode cX10_aslant 4 = .ok (.ifCond .ne 6, 3) := by decide +kernel
theorem dX10_aslant_7 : decode cX10_aslant 7 = .ok (.ldc 175, 2) := by decide +kernel
theorem dX10_aslant_9 : decode cX10_aslant 9 = .ok (.ireturn, 1) := by decide +kernel
theorem dX10_aslant_10 : decode cX10_aslant 10 = .ok (.aload_n 0, 1) := by decide +kernel
theorem dX10_aslant_11 : decode cX10_aslant 11 = .ok (.getfield 159, 3) := by decide +kernel
theorem dX10_aslant_14 : decode cX10_aslant 14 = .ok (.ifCond .ne 7, 3) := by decide +kernel
theorem dX10_aslant_17 : decode cX10_aslant 17 = .ok (.ldc_w 366, 3) := by decide +kernel
theorem dX10_aslant_20 : decode cX10_aslant 20 = .ok (.ireturn, 1) := by decide +kernel
theorem dX10_aslant_21 : decode cX10_aslant 21 = .ok (.iconst 0, 1) := by decide +kernel
theorem dX10_aslant_22 : decode cX10_aslant 22 = .ok (.istore_n 2, 1) := by decide +kernel
theorem dX10_aslant_23 : decode cX10_aslant 23 = .ok (.iload_n 2, 1) := by decide +kernel
theorem dX10_aslant_24 : decode cX10_aslant 24 = .ok (.aload_n 0, 1) := by decide +kernel
theorem dX10_aslant_25 : decode cX10_aslant 25 = .ok (.getfield 55, 3) := by decide +kernel
theorem dX10_aslant_28 : decode cX10_aslant 28 = .ok (.if_icmp .ge 21, 3) := by decide +kernel
theorem dX10_aslant_31 : decode cX10_aslant 31 = .ok (.aload_n 0, 1) := by decide +kernel
theorem dX10_aslant_32 : decode cX10_aslant 32 = .ok (.iload_n 1, 1) := by decide +kernel
theorem dX10_aslant_33 : decode cX10_aslant 33 = .ok (.iload_n 2, 1) := by decide +kernel
theorem dX10_aslant_34 : decode cX10_aslant 34 = .ok (.iadd, 1) := by decide +kernel
theorem dX10_aslant_35 : decode cX10_aslant 35 = .ok (.invokevirtual 404, 3) := by decide +kernel
theorem dX10_aslant_38 : decode cX10_aslant 38 = .ok (.ifCond .eq 5, 3) := by decide +kernel
theorem dX10_aslant_41 : decode cX10_aslant 41 = .ok (.iload_n 2, 1) := by decide +kernel
theorem dX10_aslant_42 : decode cX10_aslant 42 = .ok (.ireturn, 1) := by decide +kernel
theorem dX10_aslant_43 : decode cX10_aslant 43 = .ok (.iinc 2 1, 3) := by decide +kernel
theorem dX10_aslant_46 : decode cX10_aslant 46 = .ok (.goto (-23), 3) := by decide +kernel
theorem dX10_aslant_49 : decode cX10_aslant 49 = .ok (.iconst (-1), 1) := by decide +kernel
theorem dX10_aslant_50 : decode cX10_aslant 50 = .ok (.ireturn, 1) := by decide +kernel
theorem dX10_isTurn_0 : decode cX10_isTurn 0 = .ok (.aload_n 0, 1) := by decide +kernel
theorem dX10_isTurn_1 : decode cX10_isTurn 1 = .ok (.iload_n 1, 1) := by decide +kernel
theorem dX10_isTurn_2 : decode cX10_isTurn 2 = .ok (.iload_n 2, 1) := by decide +kernel
theorem dX10_isTurn_3 : decode cX10_isTurn 3 = .ok (.iconst 1, 1) := by decide +kernel
theorem dX10_isTurn_4 : decode cX10_isTurn 4 = .ok (.isub, 1) := by decide +kernel
theorem dX10_isTurn_5 : decode cX10_isTurn 5 = .ok (.invokevirtual 323, 3) := by decide +kernel
theorem dX10_isTurn_8 : decode cX10_isTurn 8 = .ok (.aload_n 0, 1) := by decide +kernel
theorem dX10_isTurn_9 : decode cX10_isTurn 9 = .ok (.iload_n 1, 1) := by decide +kernel
theorem dX10_isTurn_10 : decode cX10_isTurn 10 = .ok (.iload_n 2, 1) := by decide +kernel
theorem dX10_isTurn_11 : decode cX10_isTurn 11 = .ok (.invokevirtual 323, 3) := by decide +kernel
theorem dX10_isTurn_14 : decode cX10_isTurn 14 = .ok (.isub, 1) := by decide +kernel
theorem dX10_isTurn_15 : decode cX10_isTurn 15 = .ok (.istore_n 3, 1) := by decide +kernel
theorem dX10_isTurn_16 : decode cX10_isTurn 16 = .ok (.aload_n 0, 1) := by decide +kernel
theorem dX10_isTurn_17 : decode cX10_isTurn 17 = .ok (.iload_n 1, 1) := by decide +kernel
theorem dX10_isTurn_18 : decode cX10_isTurn 18 = .ok (.iload_n 2, 1) := by decide +kernel
theorem dX10_isTurn_19 : decode cX10_isTurn 19 = .ok (.iconst 1, 1) := by decide +kernel
theorem dX10_isTurn_20 : decode cX10_isTurn 20 = .ok (.iadd, 1) := by decide +kernel
theorem dX10_isTurn_21 : decode cX10_isTurn 21 = .ok (.invokevirtual 323, 3) := by decide +kernel
theorem dX10_isTurn_24 : decode cX10_isTurn 24 = .ok (.aload_n 0, 1) := by decide +kernel
theorem dX10_isTurn_25 : decode cX10_isTurn 25 = .ok (.iload_n 1, 1) := by decide +kernel
theorem dX10_isTurn_26 : decode cX10_isTurn 26 = .ok (.iload_n 2, 1) := by decide +kernel
theorem dX10_isTurn_27 : decode cX10_isTurn 27 = .ok (.invokevirtual 323, 3) := by decide +kernel
theorem dX10_isTurn_30 : decode cX10_isTurn 30 = .ok (.isub, 1) := by decide +kernel
theorem dX10_isTurn_31 : decode cX10_isTurn 31 = .ok (.istore 4, 2) := by decide +kernel
theorem dX10_isTurn_33 : decode cX10_isTurn 33 = .ok (.iload_n 3, 1) := by decide +kernel
theorem dX10_isTurn_34 : decode cX10_isTurn 34 = .ok (.ifCond .ge 8, 3) := by decide +kernel
theorem dX10_isTurn_37 : decode cX10_isTurn 37 = .ok (.iload 4, 2) := by decide +kernel
theorem dX10_isTurn_39 : decode cX10_isTurn 39 = .ok (.ifCond .lt 12, 3) := by decide +kernel
theorem dX10_isTurn_42 : decode cX10_isTurn 42 = .ok (.iload_n 3, 1) := by decide +kernel
theorem dX10_isTurn_43 : decode cX10_isTurn 43 = .ok (.ifCond .le 12, 3) := by decide +kernel
theorem dX10_isTurn_46 : decode cX10_isTurn 46 = .ok (.iload 4, 2) := by decide +kernel
theorem dX10_isTurn_48 : decode cX10_isTurn 48 = .ok (.ifCond .le 7, 3) := by decide +kernel
theorem dX10_isTurn_51 : decode cX10_isTurn 51 = .ok (.iconst 1, 1) := by decide +kernel
theorem dX10_isTurn_52 : decode cX10_isTurn 52 = .ok (.goto 4, 3) := by decide +kernel
theorem dX10_isTurn_55 : decode cX10_isTurn 55 = .ok (.iconst 0, 1) := by decide +kernel
theorem dX10_isTurn_56 : decode cX10_isTurn 56 = .ok (.ireturn, 1) := by decide +kernel
theorem dX10_turn_0 : decode cX10_turn 0 = .ok (.aload_n 0, 1) := by decide +kernel
theorem dX10_turn_1 : decode cX10_turn 1 = .ok (.iload_n 1, 1) := by decide +kernel
theorem dX10_turn_2 : decode cX10_turn 2 = .ok (.iload_n 2, 1) := by decide +kernel
theorem dX10_turn_3 : decode cX10_turn 3 = .ok (.invokevirtual 169, 3) := by decide +kernel
theorem dX10_turn_6 : decode cX10_turn 6 = .ok (.ifCond .ne 7, 3) := by decide +kernel
theorem dX10_turn_9 : decode cX10_turn 9 = .ok (.ldc_w 329, 3) := by decide +kernel
theorem dX10_turn_12 : decode cX10_turn 12 = .ok (.ireturn, 1) := by decide +kernel
theorem dX10_turn_13 : decode cX10_turn 13 = .ok (.iload_n 3, 1) := by decide +kernel
theorem dX10_turn_14 : decode cX10_turn 14 = .ok (.i2l, 1) := by decide +kernel
theorem dX10_turn_15 : decode cX10_turn 15 = .ok (.lconst 1, 1) := by decide +kernel
theorem dX10_turn_16 : decode cX10_turn 16 = .ok (.ldc2_w 390, 3) := by decide +kernel
theorem dX10_turn_19 : decode cX10_turn 19 = .ok (.invokestatic 165, 3) := by decide +kernel
theorem dX10_turn_22 : decode cX10_turn 22 = .ok (.ifCond .ne 6, 3) := by decide +kernel
theorem dX10_turn_25 : decode cX10_turn 25 = .ok (.ldc 175, 2) := by decide +kernel
theorem dX10_turn_27 : decode cX10_turn 27 = .ok (.ireturn, 1) := by decide +kernel
theorem dX10_turn_28 : decode cX10_turn 28 = .ok (.iconst 0, 1) := by decide +kernel
theorem dX10_turn_29 : decode cX10_turn 29 = .ok (.istore 4, 2) := by decide +kernel
theorem dX10_turn_31 : decode cX10_turn 31 = .ok (.iload 4, 2) := by decide +kernel
theorem dX10_turn_33 : decode cX10_turn 33 = .ok (.aload_n 0, 1) := by decide +kernel
theorem dX10_turn_34 : decode cX10_turn 34 = .ok (.getfield 55, 3) := by decide +kernel
theorem dX10_turn_37 : decode cX10_turn 37 = .ok (.if_icmp .ge 31, 3) := by decide +kernel
theorem dX10_turn_40 : decode cX10_turn 40 = .ok (.aload_n 0, 1) := by decide +kernel
theorem dX10_turn_41 : decode cX10_turn 41 = .ok (.aload_n 0, 1) := by decide +kernel
theorem dX10_turn_42 : decode cX10_turn 42 = .ok (.getfield 159, 3) := by decide +kernel
theorem dX10_turn_45 : decode cX10_turn 45 = .ok (.iload_n 2, 1) := by decide +kernel
theorem dX10_turn_46 : decode cX10_turn 46 = .ok (.imul, 1) := by decide +kernel
theorem dX10_turn_47 : decode cX10_turn 47 = .ok (.iload_n 1, 1) := by decide +kernel
theorem dX10_turn_48 : decode cX10_turn 48 = .ok (.iadd, 1) := by decide +kernel
theorem dX10_turn_49 : decode cX10_turn 49 = .ok (.iload_n 3, 1) := by decide +kernel
theorem dX10_turn_50 : decode cX10_turn 50 = .ok (.iload 4, 2) := by decide +kernel
theorem dX10_turn_52 : decode cX10_turn 52 = .ok (.iadd, 1) := by decide +kernel
theorem dX10_turn_53 : decode cX10_turn 53 = .ok (.invokevirtual 407, 3) := by decide +kernel
theorem dX10_turn_56 : decode cX10_turn 56 = .ok (.ifCond .eq 6, 3) := by decide +kernel
theorem dX10_turn_59 : decode cX10_turn 59 = .ok (.iload 4, 2) := by decide +kernel
theorem dX10_turn_61 : decode cX10_turn 61 = .ok (.ireturn, 1) := by decide +kernel
theorem dX10_turn_62 : decode cX10_turn 62 = .ok (.iinc 4 1, 3) := by decide +kernel
theorem dX10_turn_65 : decode cX10_turn 65 = .ok (.goto (-34), 3) := by decide +kernel
theorem dX10_turn_68 : decode cX10_turn 68 = .ok (.iconst (-1), 1) := by decide +kernel
theorem dX10_turn_69 : decode cX10_turn 69 = .ok (.ireturn, 1) := by decide +kernel
theorem dX10_most_0 : decode cX10_most 0 = .ok (.aload_n 0, 1) := by decide +kernel
theorem dX10_most_1 : decode cX10_most 1 = .ok (.iload_n 1, 1) := by decide +kernel
theorem dX10_most_2 : decode cX10_most 2 = .ok (.iload_n 2, 1) := by decide +kernel
theorem dX10_most_3 : decode cX10_most 3 = .ok (.invokevirtual 169, 3) := by decide +kernel
theorem dX10_most_6 : decode cX10_most 6 = .ok (.ifCond .ne 7, 3) := by decide +kernel
theorem dX10_most_9 : decode cX10_most 9 = .ok (.ldc_w 329, 3) := by decide +kernel
theorem dX10_most_12 : decode cX10_most 12 = .ok (.ireturn, 1) := by decide +kernel
theorem dX10_most_13 : decode cX10_most 13 = .ok (.iload_n 3, 1) := by decide +kernel
theorem dX10_most_14 : decode cX10_most 14 = .ok (.invokestatic 397, 3) := by decide +kernel
theorem dX10_most_17 : decode cX10_most 17 = .ok (.ifCond .eq 14, 3) := by decide +kernel
theorem dX10_most_20 : decode cX10_most 20 = .ok (.iload 4, 2) := by decide +kernel
theorem dX10_most_22 : decode cX10_most 22 = .ok (.i2l, 1) := by decide +kernel
theorem dX10_most_23 : decode cX10_most 23 = .ok (.lconst 0, 1) := by decide +kernel
theorem dX10_most_24 : decode cX10_most 24 = .ok (.lconst 1, 1) := by decide +kernel
theorem dX10_most_25 : decode cX10_most 25 = .ok (.invokestatic 165, 3) := by decide +kernel
theorem dX10_most_28 : decode cX10_most 28 = .ok (.ifCond .ne 6, 3) := by decide +kernel
theorem dX10_most_31 : decode cX10_most 31 = .ok (.ldc 175, 2) := by decide +kernel
theorem dX10_most_33 : decode cX10_most 33 = .ok (.ireturn, 1) := by decide +kernel
theorem dX10_most_34 : decode cX10_most 34 = .ok (.aload_n 0, 1) := by decide +kernel
theorem dX10_most_35 : decode cX10_most 35 = .ok (.getfield 159, 3) := by decide +kernel
theorem dX10_most_38 : decode cX10_most 38 = .ok (.iload_n 2, 1) := by decide +kernel
theorem dX10_most_39 : decode cX10_most 39 = .ok (.imul, 1) := by decide +kernel
theorem dX10_most_40 : decode cX10_most 40 = .ok (.iload_n 1, 1) := by decide +kernel
theorem dX10_most_41 : decode cX10_most 41 = .ok (.iadd, 1) := by decide +kernel
theorem dX10_most_42 : decode cX10_most 42 = .ok (.istore 5, 2) := by decide +kernel
theorem dX10_most_44 : decode cX10_most 44 = .ok (.iload_n 3, 1) := by decide +kernel
theorem dX10_most_45 : decode cX10_most 45 = .ok (.istore 6, 2) := by decide +kernel
theorem dX10_most_47 : decode cX10_most 47 = .ok (.iconst 1, 1) := by decide +kernel
theorem dX10_most_48 : decode cX10_most 48 = .ok (.istore 7, 2) := by decide +kernel
theorem dX10_most_50 : decode cX10_most 50 = .ok (.iload 7, 2) := by decide +kernel
theorem dX10_most_52 : decode cX10_most 52 = .ok (.aload_n 0, 1) := by decide +kernel
theorem dX10_most_53 : decode cX10_most 53 = .ok (.getfield 55, 3) := by decide +kernel
theorem dX10_most_56 : decode cX10_most 56 = .ok (.if_icmp .ge 41, 3) := by decide +kernel
theorem dX10_most_59 : decode cX10_most 59 = .ok (.aload_n 0, 1) := by decide +kernel
theorem dX10_most_60 : decode cX10_most 60 = .ok (.iload 5, 2) := by decide +kernel
theorem dX10_most_62 : decode cX10_most 62 = .ok (.iload_n 3, 1) := by decide +kernel
theorem dX10_most_63 : decode cX10_most 63 = .ok (.iload 7, 2) := by decide +kernel
theorem dX10_most_65 : decode cX10_most 65 = .ok (.iadd, 1) := by decide +kernel
theorem dX10_most_66 : decode cX10_most 66 = .ok (.invokevirtual 317, 3) := by decide +kernel
theorem dX10_most_69 : decode cX10_most 69 = .ok (.aload_n 0, 1) := by decide +kernel
theorem dX10_most_70 : decode cX10_most 70 = .ok (.iload 5, 2) := by decide +kernel
theorem dX10_most_72 : decode cX10_most 72 = .ok (.iload 6, 2) := by decide +kernel
theorem dX10_most_74 : decode cX10_most 74 = .ok (.invokevirtual 317, 3) := by decide +kernel
theorem dX10_most_77 : decode cX10_most 77 = .ok (.if_icmp .le 10, 3) := by decide +kernel
theorem dX10_most_80 : decode cX10_most 80 = .ok (.iload_n 3, 1) := by decide +kernel
theorem dX10_most_81 : decode cX10_most 81 = .ok (.iload 7, 2) := by decide +kernel
theorem dX10_most_83 : decode cX10_most 83 = .ok (.iadd, 1) := by decide +kernel
theorem dX10_most_84 : decode cX10_most 84 = .ok (.goto 5, 3) := by decide +kernel
theorem dX10_most_87 : decode cX10_most 87 = .ok (.iload 6, 2) := by decide +kernel
theorem dX10_most_89 : decode cX10_most 89 = .ok (.istore 6, 2) := by decide +kernel
theorem dX10_most_91 : decode cX10_most 91 = .ok (.iinc 7 1, 3) := by decide +kernel
theorem dX10_most_94 : decode cX10_most 94 = .ok (.goto (-44), 3) := by decide +kernel
theorem dX10_most_97 : decode cX10_most 97 = .ok (.iload 4, 2) := by decide +kernel
theorem dX10_most_99 : decode cX10_most 99 = .ok (.ifCond .ne 8, 3) := by decide +kernel
theorem dX10_most_102 : decode cX10_most 102 = .ok (.iload 6, 2) := by decide +kernel
theorem dX10_most_104 : decode cX10_most 104 = .ok (.goto 11, 3) := by decide +kernel
theorem dX10_most_107 : decode cX10_most 107 = .ok (.aload_n 0, 1) := by decide +kernel
theorem dX10_most_108 : decode cX10_most 108 = .ok (.iload 5, 2) := by decide +kernel
theorem dX10_most_110 : decode cX10_most 110 = .ok (.iload 6, 2) := by decide +kernel
theorem dX10_most_112 : decode cX10_most 112 = .ok (.invokevirtual 317, 3) := by decide +kernel
theorem dX10_most_115 : decode cX10_most 115 = .ok (.ireturn, 1) := by decide +kernel
theorem dX10_bell_0 : decode cX10_bell 0 = .ok (.aload_n 0, 1) := by decide +kernel
theorem dX10_bell_1 : decode cX10_bell 1 = .ok (.iload_n 1, 1) := by decide +kernel
theorem dX10_bell_2 : decode cX10_bell 2 = .ok (.iload_n 2, 1) := by decide +kernel
theorem dX10_bell_3 : decode cX10_bell 3 = .ok (.invokevirtual 169, 3) := by decide +kernel
theorem dX10_bell_6 : decode cX10_bell 6 = .ok (.ifCond .ne 7, 3) := by decide +kernel
theorem dX10_bell_9 : decode cX10_bell 9 = .ok (.ldc_w 329, 3) := by decide +kernel
theorem dX10_bell_12 : decode cX10_bell 12 = .ok (.ireturn, 1) := by decide +kernel
theorem dX10_bell_13 : decode cX10_bell 13 = .ok (.iload_n 3, 1) := by decide +kernel
theorem dX10_bell_14 : decode cX10_bell 14 = .ok (.i2l, 1) := by decide +kernel
theorem dX10_bell_15 : decode cX10_bell 15 = .ok (.lconst 0, 1) := by decide +kernel
theorem dX10_bell_16 : decode cX10_bell 16 = .ok (.ldc2_w 374, 3) := by decide +kernel
theorem dX10_bell_19 : decode cX10_bell 19 = .ok (.invokestatic 165, 3) := by decide +kernel
theorem dX10_bell_22 : decode cX10_bell 22 = .ok (.ifCond .eq 22, 3) := by decide +kernel
theorem dX10_bell_25 : decode cX10_bell 25 = .ok (.iload 4, 2) := by decide +kernel
theorem dX10_bell_27 : decode cX10_bell 27 = .ok (.invokestatic 397, 3) := by decide +kernel
theorem dX10_bell_30 : decode cX10_bell 30 = .ok (.ifCond .eq 14, 3) := by decide +kernel
theorem dX10_bell_33 : decode cX10_bell 33 = .ok (.iload 5, 2) := by decide +kernel
theorem dX10_bell_35 : decode cX10_bell 35 = .ok (.i2l, 1) := by decide +kernel
theorem dX10_bell_36 : decode cX10_bell 36 = .ok (.lconst 0, 1) := by decide +kernel
theorem dX10_bell_37 : decode cX10_bell 37 = .ok (.lconst 1, 1) := by decide +kernel
theorem dX10_bell_38 : decode cX10_bell 38 = .ok (.invokestatic 165, 3) := by decide +kernel
theorem dX10_bell_41 : decode cX10_bell 41 = .ok (.ifCond .ne 6, 3) := by decide +kernel
theorem dX10_bell_44 : decode cX10_bell 44 = .ok (.ldc 175, 2) := by decide +kernel
theorem dX10_bell_46 : decode cX10_bell 46 = .ok (.ireturn, 1) := by decide +kernel
theorem dX10_bell_47 : decode cX10_bell 47 = .ok (.iconst (-1), 1) := by decide +kernel
theorem dX10_bell_48 : decode cX10_bell 48 = .ok (.istore 6, 2) := by decide +kernel
theorem dX10_bell_50 : decode cX10_bell 50 = .ok (.iconst 0, 1) := by decide +kernel
theorem dX10_bell_51 : decode cX10_bell 51 = .ok (.istore 7, 2) := by decide +kernel
theorem dX10_bell_53 : decode cX10_bell 53 = .ok (.iconst 0, 1) := by decide +kernel
theorem dX10_bell_54 : decode cX10_bell 54 = .ok (.istore 8, 2) := by decide +kernel
theorem dX10_bell_56 : decode cX10_bell 56 = .ok (.iload 8, 2) := by decide +kernel
theorem dX10_bell_58 : decode cX10_bell 58 = .ok (.aload_n 0, 1) := by decide +kernel
theorem dX10_bell_59 : decode cX10_bell 59 = .ok (.getfield 55, 3) := by decide +kernel
theorem dX10_bell_62 : decode cX10_bell 62 = .ok (.if_icmp .ge 71, 3) := by decide +kernel
theorem dX10_bell_65 : decode cX10_bell 65 = .ok (.aload_n 0, 1) := by decide +kernel
theorem dX10_bell_66 : decode cX10_bell 66 = .ok (.aload_n 0, 1) := by decide +kernel
theorem dX10_bell_67 : decode cX10_bell 67 = .ok (.getfield 159, 3) := by decide +kernel
theorem dX10_bell_70 : decode cX10_bell 70 = .ok (.iload_n 2, 1) := by decide +kernel
theorem dX10_bell_71 : decode cX10_bell 71 = .ok (.imul, 1) := by decide +kernel
theorem dX10_bell_72 : decode cX10_bell 72 = .ok (.iload_n 1, 1) := by decide +kernel
theorem dX10_bell_73 : decode cX10_bell 73 = .ok (.iadd, 1) := by decide +kernel
theorem dX10_bell_74 : decode cX10_bell 74 = .ok (.iload 4, 2) := by decide +kernel
theorem dX10_bell_76 : decode cX10_bell 76 = .ok (.iload 8, 2) := by decide +kernel
theorem dX10_bell_78 : decode cX10_bell 78 = .ok (.iadd, 1) := by decide +kernel
theorem dX10_bell_79 : decode cX10_bell 79 = .ok (.invokevirtual 330, 3) := by decide +kernel
theorem dX10_bell_82 : decode cX10_bell 82 = .ok (.iload_n 3, 1) := by decide +kernel
theorem dX10_bell_83 : decode cX10_bell 83 = .ok (.if_icmp .le 7, 3) := by decide +kernel
theorem dX10_bell_86 : decode cX10_bell 86 = .ok (.iconst 1, 1) := by decide +kernel
theorem dX10_bell_87 : decode cX10_bell 87 = .ok (.goto 4, 3) := by decide +kernel
theorem dX10_bell_90 : decode cX10_bell 90 = .ok (.iconst 0, 1) := by decide +kernel
theorem dX10_bell_91 : decode cX10_bell 91 = .ok (.istore 9, 2) := by decide +kernel
theorem dX10_bell_93 : decode cX10_bell 93 = .ok (.iload 9, 2) := by decide +kernel
theorem dX10_bell_95 : decode cX10_bell 95 = .ok (.ifCond .eq 13, 3) := by decide +kernel
theorem dX10_bell_98 : decode cX10_bell 98 = .ok (.iload 6, 2) := by decide +kernel
theorem dX10_bell_100 : decode cX10_bell 100 = .ok (.ifCond .ge 8, 3) := by decide +kernel
theorem dX10_bell_103 : decode cX10_bell 103 = .ok (.iload 8, 2) := by decide +kernel
theorem dX10_bell_105 : decode cX10_bell 105 = .ok (.goto 5, 3) := by decide +kernel
theorem dX10_bell_108 : decode cX10_bell 108 = .ok (.iload 6, 2) := by decide +kernel
theorem dX10_bell_110 : decode cX10_bell 110 = .ok (.istore 6, 2) := by decide +kernel
theorem dX10_bell_112 : decode cX10_bell 112 = .ok (.iload 7, 2) := by decide +kernel
theorem dX10_bell_114 : decode cX10_bell 114 = .ok (.iload 9, 2) := by decide +kernel
theorem dX10_bell_116 : decode cX10_bell 116 = .ok (.ifCond .eq 7, 3) := by decide +kernel
theorem dX10_bell_119 : decode cX10_bell 119 = .ok (.iconst 1, 1) := by decide +kernel
theorem dX10_bell_120 : decode cX10_bell 120 = .ok (.goto 4, 3) := by decide +kernel
theorem dX10_bell_123 : decode cX10_bell 123 = .ok (.iconst 0, 1) := by decide +kernel
theorem dX10_bell_124 : decode cX10_bell 124 = .ok (.iadd, 1) := by decide +kernel
theorem dX10_bell_125 : decode cX10_bell 125 = .ok (.istore 7, 2) := by decide +kernel
theorem dX10_bell_127 : decode cX10_bell 127 = .ok (.iinc 8 1, 3) := by decide +kernel
theorem dX10_bell_130 : decode cX10_bell 130 = .ok (.goto (-74), 3) := by decide +kernel
theorem dX10_bell_133 : decode cX10_bell 133 = .ok (.iload 5, 2) := by decide +kernel
theorem dX10_bell_135 : decode cX10_bell 135 = .ok (.ifCond .ne 8, 3) := by decide +kernel
theorem dX10_bell_138 : decode cX10_bell 138 = .ok (.iload 6, 2) := by decide +kernel
theorem dX10_bell_140 : decode cX10_bell 140 = .ok (.goto 5, 3) := by decide +kernel
theorem dX10_bell_143 : decode cX10_bell 143 = .ok (.iload 7, 2) := by decide +kernel
theorem dX10_bell_145 : decode cX10_bell 145 = .ok (.ireturn, 1) := by decide +kernel
theorem dX10_breaks_0 : decode cX10_breaks 0 = .ok (.iload_n 1, 1) := by decide +kernel
theorem dX10_breaks_1 : decode cX10_breaks 1 = .ok (.invokestatic 397, 3) := by decide +kernel
theorem dX10_breaks_4 : decode cX10_breaks 4 = .ok (.ifCond .eq 13, 3) := by decide +kernel
theorem dX10_breaks_7 : decode cX10_breaks 7 = .ok (.iload_n 2, 1) := by decide +kernel
theorem dX10_breaks_8 : decode cX10_breaks 8 = .ok (.i2l, 1) := by decide +kernel
theorem dX10_breaks_9 : decode cX10_breaks 9 = .ok (.lconst 0, 1) := by decide +kernel
theorem dX10_breaks_10 : decode cX10_breaks 10 = .ok (.lconst 1, 1) := by decide +kernel
theorem dX10_breaks_11 : decode cX10_breaks 11 = .ok (.invokestatic 165, 3) := by decide +kernel
theorem dX10_breaks_14 : decode cX10_breaks 14 = .ok (.ifCond .ne 6, 3) := by decide +kernel
theorem dX10_breaks_17 : decode cX10_breaks 17 = .ok (.ldc 175, 2) := by decide +kernel
theorem dX10_breaks_19 : decode cX10_breaks 19 = .ok (.ireturn, 1) := by decide +kernel
theorem dX10_breaks_20 : decode cX10_breaks 20 = .ok (.iconst 0, 1) := by decide +kernel
theorem dX10_breaks_21 : decode cX10_breaks 21 = .ok (.istore_n 3, 1) := by decide +kernel
theorem dX10_breaks_22 : decode cX10_breaks 22 = .ok (.iload_n 3, 1) := by decide +kernel
theorem dX10_breaks_23 : decode cX10_breaks 23 = .ok (.aload_n 0, 1) := by decide +kernel
theorem dX10_breaks_24 : decode cX10_breaks 24 = .ok (.getfield 55, 3) := by decide +kernel
theorem dX10_breaks_27 : decode cX10_breaks 27 = .ok (.if_icmp .ge 52, 3) := by decide +kernel
theorem dX10_breaks_30 : decode cX10_breaks 30 = .ok (.iconst 0, 1) := by decide +kernel
theorem dX10_breaks_31 : decode cX10_breaks 31 = .ok (.istore 4, 2) := by decide +kernel
theorem dX10_breaks_33 : decode cX10_breaks 33 = .ok (.iload 4, 2) := by decide +kernel
theorem dX10_breaks_35 : decode cX10_breaks 35 = .ok (.aload_n 0, 1) := by decide +kernel
theorem dX10_breaks_36 : decode cX10_breaks 36 = .ok (.getfield 270, 3) := by decide +kernel
theorem dX10_breaks_39 : decode cX10_breaks 39 = .ok (.if_icmp .ge 34, 3) := by decide +kernel
theorem dX10_breaks_42 : decode cX10_breaks 42 = .ok (.aload_n 0, 1) := by decide +kernel
theorem dX10_breaks_43 : decode cX10_breaks 43 = .ok (.iload 4, 2) := by decide +kernel
theorem dX10_breaks_45 : decode cX10_breaks 45 = .ok (.iload_n 1, 1) := by decide +kernel
theorem dX10_breaks_46 : decode cX10_breaks 46 = .ok (.iload_n 3, 1) := by decide +kernel
theorem dX10_breaks_47 : decode cX10_breaks 47 = .ok (.iadd, 1) := by decide +kernel
theorem dX10_breaks_48 : decode cX10_breaks 48 = .ok (.invokevirtual 335, 3) := by decide +kernel
theorem dX10_breaks_51 : decode cX10_breaks 51 = .ok (.ifCond .eq 16, 3) := by decide +kernel
theorem dX10_breaks_54 : decode cX10_breaks 54 = .ok (.iload_n 2, 1) := by decide +kernel
theorem dX10_breaks_55 : decode cX10_breaks 55 = .ok (.ifCond .ne 9, 3) := by decide +kernel
theorem dX10_breaks_58 : decode cX10_breaks 58 = .ok (.iload_n 1, 1) := by decide +kernel
theorem dX10_breaks_59 : decode cX10_breaks 59 = .ok (.iload_n 3, 1) := by decide +kernel
theorem dX10_breaks_60 : decode cX10_breaks 60 = .ok (.iadd, 1) := by decide +kernel
theorem dX10_breaks_61 : decode cX10_breaks 61 = .ok (.goto 5, 3) := by decide +kernel
theorem dX10_breaks_64 : decode cX10_breaks 64 = .ok (.iload 4, 2) := by decide +kernel
theorem dX10_breaks_66 : decode cX10_breaks 66 = .ok (.ireturn, 1) := by decide +kernel
theorem dX10_breaks_67 : decode cX10_breaks 67 = .ok (.iinc 4 1, 3) := by decide +kernel
theorem dX10_breaks_70 : decode cX10_breaks 70 = .ok (.goto (-37), 3) := by decide +kernel
theorem dX10_breaks_73 : decode cX10_breaks 73 = .ok (.iinc 3 1, 3) := by decide +kernel
theorem dX10_breaks_76 : decode cX10_breaks 76 = .ok (.goto (-54), 3) := by decide +kernel
theorem dX10_breaks_79 : decode cX10_breaks 79 = .ok (.iconst (-1), 1) := by decide +kernel
theorem dX10_breaks_80 : decode cX10_breaks 80 = .ok (.ireturn, 1) := by decide +kernel
theorem dX10_props_0 : decode cX10_props 0 = .ok (.iload_n 1, 1) := by decide +kernel
theorem dX10_props_1 : decode cX10_props 1 = .ok (.i2l, 1) := by decide +kernel
theorem dX10_props_2 : decode cX10_props 2 = .ok (.lconst 1, 1) := by decide +kernel
theorem dX10_props_3 : decode cX10_props 3 = .ok (.ldc2_w 410, 3) := by decide +kernel
theorem dX10_props_6 : decode cX10_props 6 = .ok (.invokestatic 165, 3) := by decide +kernel
theorem dX10_props_9 : decode cX10_props 9 = .ok (.ifCond .ne 6, 3) := by decide +kernel
theorem dX10_props_12 : decode cX10_props 12 = .ok (.ldc 175, 2) := by decide +kernel
theorem dX10_props_14 : decode cX10_props 14 = .ok (.ireturn, 1) := by decide +kernel
theorem dX10_props_15 : decode cX10_props 15 = .ok (.iconst 0, 1) := by decide +kernel
theorem dX10_props_16 : decode cX10_props 16 = .ok (.istore_n 2, 1) := by decide +kernel
theorem dX10_props_17 : decode cX10_props 17 = .ok (.iconst 0, 1) := by decide +kernel
theorem dX10_props_18 : decode cX10_props 18 = .ok (.istore_n 3, 1) := by decide +kernel
theorem dX10_props_19 : decode cX10_props 19 = .ok (.iload_n 3, 1) := by decide +kernel
theorem dX10_props_20 : decode cX10_props 20 = .ok (.aload_n 0, 1) := by decide +kernel
theorem dX10_props_21 : decode cX10_props 21 = .ok (.getfield 270, 3) := by decide +kernel
theorem dX10_props_24 : decode cX10_props 24 = .ok (.if_icmp .ge 23, 3) := by decide +kernel
theorem dX10_props_27 : decode cX10_props 27 = .ok (.iload_n 2, 1) := by decide +kernel
theorem dX10_props_28 : decode cX10_props 28 = .ok (.aload_n 0, 1) := by decide +kernel
theorem dX10_props_29 : decode cX10_props 29 = .ok (.iload_n 3, 1) := by decide +kernel
theorem dX10_props_30 : decode cX10_props 30 = .ok (.invokevirtual 338, 3) := by decide +kernel
theorem dX10_props_33 : decode cX10_props 33 = .ok (.iload_n 1, 1) := by decide +kernel
theorem dX10_props_34 : decode cX10_props 34 = .ok (.iadd, 1) := by decide +kernel
theorem dX10_props_35 : decode cX10_props 35 = .ok (.iconst 1, 1) := by decide +kernel
theorem dX10_props_36 : decode cX10_props 36 = .ok (.isub, 1) := by decide +kernel
theorem dX10_props_37 : decode cX10_props 37 = .ok (.iload_n 1, 1) := by decide +kernel
theorem dX10_props_38 : decode cX10_props 38 = .ok (.idiv, 1) := by decide +kernel
theorem dX10_props_39 : decode cX10_props 39 = .ok (.iadd, 1) := by decide +kernel
theorem dX10_props_40 : decode cX10_props 40 = .ok (.istore_n 2, 1) := by decide +kernel
theorem dX10_props_41 : decode cX10_props 41 = .ok (.iinc 3 1, 3) := by decide +kernel
theorem dX10_props_44 : decode cX10_props 44 = .ok (.goto (-25), 3) := by decide +kernel
theorem dX10_props_47 : decode cX10_props 47 = .ok (.iload_n 2, 1) := by decide +kernel
theorem dX10_props_48 : decode cX10_props 48 = .ok (.ireturn, 1) := by decide +kernel
theorem dX10_soonest_0 : decode cX10_soonest 0 = .ok (.aload_n 0, 1) := by decide +kernel
theorem dX10_soonest_1 : decode cX10_soonest 1 = .ok (.iload_n 1, 1) := by decide +kernel
theorem dX10_soonest_2 : decode cX10_soonest 2 = .ok (.invokevirtual 412, 3) := by decide +kernel
theorem dX10_soonest_5 : decode cX10_soonest 5 = .ok (.istore 4, 2) := by decide +kernel
theorem dX10_soonest_7 : decode cX10_soonest 7 = .ok (.aload_n 0, 1) := by decide +kernel
theorem dX10_soonest_8 : decode cX10_soonest 8 = .ok (.iload_n 2, 1) := by decide +kernel
theorem dX10_soonest_9 : decode cX10_soonest 9 = .ok (.invokevirtual 412, 3) := by decide +kernel
theorem dX10_soonest_12 : decode cX10_soonest 12 = .ok (.istore 5, 2) := by decide +kernel
theorem dX10_soonest_14 : decode cX10_soonest 14 = .ok (.iload 4, 2) := by decide +kernel
theorem dX10_soonest_16 : decode cX10_soonest 16 = .ok (.ifCond .lt 8, 3) := by decide +kernel
theorem dX10_soonest_19 : decode cX10_soonest 19 = .ok (.iload 5, 2) := by decide +kernel
theorem dX10_soonest_21 : decode cX10_soonest 21 = .ok (.ifCond .ge 7, 3) := by decide +kernel
theorem dX10_soonest_24 : decode cX10_soonest 24 = .ok (.ldc_w 329, 3) := by decide +kernel
theorem dX10_soonest_27 : decode cX10_soonest 27 = .ok (.ireturn, 1) := by decide +kernel
theorem dX10_soonest_28 : decode cX10_soonest 28 = .ok (.iload_n 3, 1) := by decide +kernel
theorem dX10_soonest_29 : decode cX10_soonest 29 = .ok (.invokestatic 397, 3) := by decide +kernel
theorem dX10_soonest_32 : decode cX10_soonest 32 = .ok (.ifCond .ne 6, 3) := by decide +kernel
theorem dX10_soonest_35 : decode cX10_soonest 35 = .ok (.ldc 175, 2) := by decide +kernel
theorem dX10_soonest_37 : decode cX10_soonest 37 = .ok (.ireturn, 1) := by decide +kernel
theorem dX10_soonest_38 : decode cX10_soonest 38 = .ok (.iconst 1, 1) := by decide +kernel
theorem dX10_soonest_39 : decode cX10_soonest 39 = .ok (.iload 4, 2) := by decide +kernel
theorem dX10_soonest_41 : decode cX10_soonest 41 = .ok (.ishl, 1) := by decide +kernel
theorem dX10_soonest_42 : decode cX10_soonest 42 = .ok (.istore 6, 2) := by decide +kernel
theorem dX10_soonest_44 : decode cX10_soonest 44 = .ok (.iconst 0, 1) := by decide +kernel
theorem dX10_soonest_45 : decode cX10_soonest 45 = .ok (.istore 7, 2) := by decide +kernel
theorem dX10_soonest_47 : decode cX10_soonest 47 = .ok (.iload 7, 2) := by decide +kernel
theorem dX10_soonest_49 : decode cX10_soonest 49 = .ok (.bipush 60, 2) := by decide +kernel
theorem dX10_soonest_51 : decode cX10_soonest 51 = .ok (.if_icmp .gt 107, 3) := by decide +kernel
theorem dX10_soonest_54 : decode cX10_soonest 54 = .ok (.iload 6, 2) := by decide +kernel
theorem dX10_soonest_56 : decode cX10_soonest 56 = .ok (.iload 5, 2) := by decide +kernel
theorem dX10_soonest_58 : decode cX10_soonest 58 = .ok (.invokestatic 394, 3) := by decide +kernel
theorem dX10_soonest_61 : decode cX10_soonest 61 = .ok (.ifCond .eq 6, 3) := by decide +kernel
theorem dX10_soonest_64 : decode cX10_soonest 64 = .ok (.iload 7, 2) := by decide +kernel
theorem dX10_soonest_66 : decode cX10_soonest 66 = .ok (.ireturn, 1) := by decide +kernel
theorem dX10_soonest_67 : decode cX10_soonest 67 = .ok (.iload 6, 2) := by decide +kernel
theorem dX10_soonest_69 : decode cX10_soonest 69 = .ok (.istore 8, 2) := by decide +kernel
theorem dX10_soonest_71 : decode cX10_soonest 71 = .ok (.iconst 0, 1) := by decide +kernel
theorem dX10_soonest_72 : decode cX10_soonest 72 = .ok (.istore 9, 2) := by decide +kernel
theorem dX10_soonest_74 : decode cX10_soonest 74 = .ok (.iload 9, 2) := by decide +kernel
theorem dX10_soonest_76 : decode cX10_soonest 76 = .ok (.aload_n 0, 1) := by decide +kernel
theorem dX10_soonest_77 : decode cX10_soonest 77 = .ok (.invokevirtual 306, 3) := by decide +kernel
theorem dX10_soonest_80 : decode cX10_soonest 80 = .ok (.if_icmp .ge 68, 3) := by decide +kernel
theorem dX10_soonest_83 : decode cX10_soonest 83 = .ok (.iconst 1, 1) := by decide +kernel
theorem dX10_soonest_84 : decode cX10_soonest 84 = .ok (.istore 10, 2) := by decide +kernel
theorem dX10_soonest_86 : decode cX10_soonest 86 = .ok (.iload 10, 2) := by decide +kernel
theorem dX10_soonest_88 : decode cX10_soonest 88 = .ok (.iconst 5, 1) := by decide +kernel
theorem dX10_soonest_89 : decode cX10_soonest 89 = .ok (.if_icmp .ge 53, 3) := by decide +kernel
theorem dX10_soonest_92 : decode cX10_soonest 92 = .ok (.iload 6, 2) := by decide +kernel
theorem dX10_soonest_94 : decode cX10_soonest 94 = .ok (.iload 9, 2) := by decide +kernel
theorem dX10_soonest_96 : decode cX10_soonest 96 = .ok (.invokestatic 394, 3) := by decide +kernel
theorem dX10_soonest_99 : decode cX10_soonest 99 = .ok (.ifCond .eq 43, 3) := by decide +kernel
theorem dX10_soonest_102 : decode cX10_soonest 102 = .ok (.aload_n 0, 1) := by decide +kernel
theorem dX10_soonest_103 : decode cX10_soonest 103 = .ok (.iload 9, 2) := by decide +kernel
theorem dX10_soonest_105 : decode cX10_soonest 105 = .ok (.iload 10, 2) := by decide +kernel
theorem dX10_soonest_107 : decode cX10_soonest 107 = .ok (.iload_n 3, 1) := by decide +kernel
theorem dX10_soonest_108 : decode cX10_soonest 108 = .ok (.iload 7, 2) := by decide +kernel
theorem dX10_soonest_110 : decode cX10_soonest 110 = .ok (.iadd, 1) := by decide +kernel
theorem dX10_soonest_111 : decode cX10_soonest 111 = .ok (.iconst 1, 1) := by decide +kernel
theorem dX10_soonest_112 : decode cX10_soonest 112 = .ok (.iadd, 1) := by decide +kernel
theorem dX10_soonest_113 : decode cX10_soonest 113 = .ok (.invokevirtual 363, 3) := by decide +kernel
theorem dX10_soonest_116 : decode cX10_soonest 116 = .ok (.istore 11, 2) := by decide +kernel
theorem dX10_soonest_118 : decode cX10_soonest 118 = .ok (.iload 8, 2) := by decide +kernel
theorem dX10_soonest_120 : decode cX10_soonest 120 = .ok (.iload 11, 2) := by decide +kernel
theorem dX10_soonest_122 : decode cX10_soonest 122 = .ok (.ifCond .ge 7, 3) := by decide +kernel
theorem dX10_soonest_125 : decode cX10_soonest 125 = .ok (.iconst 0, 1) := by decide +kernel
theorem dX10_soonest_126 : decode cX10_soonest 126 = .ok (.goto 7, 3) := by decide +kernel
theorem dX10_soonest_129 : decode cX10_soonest 129 = .ok (.iconst 1, 1) := by decide +kernel
theorem dX10_soonest_130 : decode cX10_soonest 130 = .ok (.iload 11, 2) := by decide +kernel
theorem dX10_soonest_132 : decode cX10_soonest 132 = .ok (.ishl, 1) := by decide +kernel
theorem dX10_soonest_133 : decode cX10_soonest 133 = .ok (.ior, 1) := by decide +kernel
theorem dX10_soonest_134 : decode cX10_soonest 134 = .ok (.istore 8, 2) := by decide +kernel
theorem dX10_soonest_136 : decode cX10_soonest 136 = .ok (.iinc 10 1, 3) := by decide +kernel
theorem dX10_soonest_139 : decode cX10_soonest 139 = .ok (.goto (-53), 3) := by decide +kernel
theorem dX10_soonest_142 : decode cX10_soonest 142 = .ok (.iinc 9 1, 3) := by decide +kernel
theorem dX10_soonest_145 : decode cX10_soonest 145 = .ok (.goto (-71), 3) := by decide +kernel
theorem dX10_soonest_148 : decode cX10_soonest 148 = .ok (.iload 8, 2) := by decide +kernel
theorem dX10_soonest_150 : decode cX10_soonest 150 = .ok (.istore 6, 2) := by decide +kernel
theorem dX10_soonest_152 : decode cX10_soonest 152 = .ok (.iinc 7 1, 3) := by decide +kernel
theorem dX10_soonest_155 : decode cX10_soonest 155 = .ok (.goto (-108), 3) := by decide +kernel
theorem dX10_soonest_158 : decode cX10_soonest 158 = .ok (.iconst (-1), 1) := by decide +kernel
theorem dX10_soonest_159 : decode cX10_soonest 159 = .ok (.ireturn, 1) := by decide +kernel
theorem dX10_restBy_0 : decode cX10_restBy 0 = .ok (.aload_n 0, 1) := by decide +kernel
theorem dX10_restBy_1 : decode cX10_restBy 1 = .ok (.iload_n 2, 1) := by decide +kernel
theorem dX10_restBy_2 : decode cX10_restBy 2 = .ok (.iload_n 3, 1) := by decide +kernel
theorem dX10_restBy_3 : decode cX10_restBy 3 = .ok (.iload 4, 2) := by decide +kernel
theorem dX10_restBy_5 : decode cX10_restBy 5 = .ok (.iload_n 1, 1) := by decide +kernel
theorem dX10_restBy_6 : decode cX10_restBy 6 = .ok (.iadd, 1) := by decide +kernel
theorem dX10_restBy_7 : decode cX10_restBy 7 = .ok (.iconst 1, 1) := by decide +kernel
theorem dX10_restBy_8 : decode cX10_restBy 8 = .ok (.iadd, 1) := by decide +kernel
theorem dX10_restBy_9 : decode cX10_restBy 9 = .ok (.invokevirtual 363, 3) := by decide +kernel
theorem dX10_restBy_12 : decode cX10_restBy 12 = .ok (.istore 5, 2) := by decide +kernel
theorem dX10_restBy_14 : decode cX10_restBy 14 = .ok (.iload 5, 2) := by decide +kernel
theorem dX10_restBy_16 : decode cX10_restBy 16 = .ok (.ifCond .lt 23, 3) := by decide +kernel
theorem dX10_restBy_19 : decode cX10_restBy 19 = .ok (.aload_n 0, 1) := by decide +kernel
theorem dX10_restBy_20 : decode cX10_restBy 20 = .ok (.getfield 128, 3) := by decide +kernel
theorem dX10_restBy_23 : decode cX10_restBy 23 = .ok (.bipush 24, 2) := by decide +kernel
theorem dX10_restBy_25 : decode cX10_restBy 25 = .ok (.iload_n 1, 1) := by decide +kernel
theorem dX10_restBy_26 : decode cX10_restBy 26 = .ok (.iconst 1, 1) := by decide +kernel
theorem dX10_restBy_27 : decode cX10_restBy 27 = .ok (.iadd, 1) := by decide +kernel
theorem dX10_restBy_28 : decode cX10_restBy 28 = .ok (.imul, 1) := by decide +kernel
theorem dX10_restBy_29 : decode cX10_restBy 29 = .ok (.iload 5, 2) := by decide +kernel
theorem dX10_restBy_31 : decode cX10_restBy 31 = .ok (.iadd, 1) := by decide +kernel
theorem dX10_restBy_32 : decode cX10_restBy 32 = .ok (.iaload, 1) := by decide +kernel
theorem dX10_restBy_33 : decode cX10_restBy 33 = .ok (.ldc_w 392, 3) := by decide +kernel
theorem dX10_restBy_36 : decode cX10_restBy 36 = .ok (.if_icmp .lt 7, 3) := by decide +kernel
theorem dX10_restBy_39 : decode cX10_restBy 39 = .ok (.ldc_w 392, 3) := by decide +kernel
theorem dX10_restBy_42 : decode cX10_restBy 42 = .ok (.ireturn, 1) := by decide +kernel
theorem dX10_restBy_43 : decode cX10_restBy 43 = .ok (.aload_n 0, 1) := by decide +kernel
theorem dX10_restBy_44 : decode cX10_restBy 44 = .ok (.getfield 128, 3) := by decide +kernel
theorem dX10_restBy_47 : decode cX10_restBy 47 = .ok (.bipush 24, 2) := by decide +kernel
theorem dX10_restBy_49 : decode cX10_restBy 49 = .ok (.iload_n 1, 1) := by decide +kernel
theorem dX10_restBy_50 : decode cX10_restBy 50 = .ok (.iconst 1, 1) := by decide +kernel
theorem dX10_restBy_51 : decode cX10_restBy 51 = .ok (.iadd, 1) := by decide +kernel
theorem dX10_restBy_52 : decode cX10_restBy 52 = .ok (.imul, 1) := by decide +kernel
theorem dX10_restBy_53 : decode cX10_restBy 53 = .ok (.iload 5, 2) := by decide +kernel
theorem dX10_restBy_55 : decode cX10_restBy 55 = .ok (.iadd, 1) := by decide +kernel
theorem dX10_restBy_56 : decode cX10_restBy 56 = .ok (.iaload, 1) := by decide +kernel
theorem dX10_restBy_57 : decode cX10_restBy 57 = .ok (.aload_n 0, 1) := by decide +kernel
theorem dX10_restBy_58 : decode cX10_restBy 58 = .ok (.iload_n 2, 1) := by decide +kernel
theorem dX10_restBy_59 : decode cX10_restBy 59 = .ok (.iload 5, 2) := by decide +kernel
theorem dX10_restBy_61 : decode cX10_restBy 61 = .ok (.iload 4, 2) := by decide +kernel
theorem dX10_restBy_63 : decode cX10_restBy 63 = .ok (.iload_n 1, 1) := by decide +kernel
theorem dX10_restBy_64 : decode cX10_restBy 64 = .ok (.iadd, 1) := by decide +kernel
theorem dX10_restBy_65 : decode cX10_restBy 65 = .ok (.iconst 1, 1) := by decide +kernel
theorem dX10_restBy_66 : decode cX10_restBy 66 = .ok (.iadd, 1) := by decide +kernel
theorem dX10_restBy_67 : decode cX10_restBy 67 = .ok (.invokevirtual 355, 3) := by decide +kernel
theorem dX10_restBy_70 : decode cX10_restBy 70 = .ok (.iadd, 1) := by decide +kernel
theorem dX10_restBy_71 : decode cX10_restBy 71 = .ok (.ireturn, 1) := by decide +kernel
theorem dX10_findRest_0 : decode cX10_findRest 0 = .ok (.iload_n 3, 1) := by decide +kernel
theorem dX10_findRest_1 : decode cX10_findRest 1 = .ok (.istore 4, 2) := by decide +kernel
theorem dX10_findRest_3 : decode cX10_findRest 3 = .ok (.iload 4, 2) := by decide +kernel
theorem dX10_findRest_5 : decode cX10_findRest 5 = .ok (.ifCond .lt 113, 3) := by decide +kernel
theorem dX10_findRest_8 : decode cX10_findRest 8 = .ok (.iconst 0, 1) := by decide +kernel
theorem dX10_findRest_9 : decode cX10_findRest 9 = .ok (.istore 5, 2) := by decide +kernel
theorem dX10_findRest_11 : decode cX10_findRest 11 = .ok (.iload 5, 2) := by decide +kernel
theorem dX10_findRest_13 : decode cX10_findRest 13 = .ok (.aload_n 0, 1) := by decide +kernel
theorem dX10_findRest_14 : decode cX10_findRest 14 = .ok (.invokevirtual 306, 3) := by decide +kernel
theorem dX10_findRest_17 : decode cX10_findRest 17 = .ok (.if_icmp .ge 95, 3) := by decide +kernel
theorem dX10_findRest_20 : decode cX10_findRest 20 = .ok (.iload 5, 2) := by decide +kernel
theorem dX10_findRest_22 : decode cX10_findRest 22 = .ok (.iload_n 1, 1) := by decide +kernel
theorem dX10_findRest_23 : decode cX10_findRest 23 = .ok (.if_icmp .ne 7, 3) := by decide +kernel
theorem dX10_findRest_26 : decode cX10_findRest 26 = .ok (.iconst 0, 1) := by decide +kernel
theorem dX10_findRest_27 : decode cX10_findRest 27 = .ok (.goto 6, 3) := by decide +kernel
theorem dX10_findRest_30 : decode cX10_findRest 30 = .ok (.ldc_w 392, 3) := by decide +kernel
theorem dX10_findRest_33 : decode cX10_findRest 33 = .ok (.istore 6, 2) := by decide +kernel
theorem dX10_findRest_35 : decode cX10_findRest 35 = .ok (.iconst 0, 1) := by decide +kernel
theorem dX10_findRest_36 : decode cX10_findRest 36 = .ok (.istore 7, 2) := by decide +kernel
theorem dX10_findRest_38 : decode cX10_findRest 38 = .ok (.iload 7, 2) := by decide +kernel
theorem dX10_findRest_40 : decode cX10_findRest 40 = .ok (.iconst 5, 1) := by decide +kernel
theorem dX10_findRest_41 : decode cX10_findRest 41 = .ok (.if_icmp .ge 50, 3) := by decide +kernel
theorem dX10_findRest_44 : decode cX10_findRest 44 = .ok (.iload 4, 2) := by decide +kernel
theorem dX10_findRest_46 : decode cX10_findRest 46 = .ok (.iload_n 3, 1) := by decide +kernel
theorem dX10_findRest_47 : decode cX10_findRest 47 = .ok (.if_icmp .ge 44, 3) := by decide +kernel
theorem dX10_findRest_50 : decode cX10_findRest 50 = .ok (.iload 5, 2) := by decide +kernel
theorem dX10_findRest_52 : decode cX10_findRest 52 = .ok (.iload_n 1, 1) := by decide +kernel
theorem dX10_findRest_53 : decode cX10_findRest 53 = .ok (.if_icmp .eq 38, 3) := by decide +kernel
theorem dX10_findRest_56 : decode cX10_findRest 56 = .ok (.aload_n 0, 1) := by decide +kernel
theorem dX10_findRest_57 : decode cX10_findRest 57 = .ok (.iload 4, 2) := by decide +kernel
theorem dX10_findRest_59 : decode cX10_findRest 59 = .ok (.iload 5, 2) := by decide +kernel
theorem dX10_findRest_61 : decode cX10_findRest 61 = .ok (.iload 7, 2) := by decide +kernel
theorem dX10_findRest_63 : decode cX10_findRest 63 = .ok (.iload_n 2, 1) := by decide +kernel
theorem dX10_findRest_64 : decode cX10_findRest 64 = .ok (.invokevirtual 415, 3) := by decide +kernel
theorem dX10_findRest_67 : decode cX10_findRest 67 = .ok (.istore 8, 2) := by decide +kernel
theorem dX10_findRest_69 : decode cX10_findRest 69 = .ok (.iload 8, 2) := by decide +kernel
theorem dX10_findRest_71 : decode cX10_findRest 71 = .ok (.iload 6, 2) := by decide +kernel
theorem dX10_findRest_73 : decode cX10_findRest 73 = .ok (.if_icmp .ge 8, 3) := by decide +kernel
theorem dX10_findRest_76 : decode cX10_findRest 76 = .ok (.iload 8, 2) := by decide +kernel
theorem dX10_findRest_78 : decode cX10_findRest 78 = .ok (.goto 5, 3) := by decide +kernel
theorem dX10_findRest_81 : decode cX10_findRest 81 = .ok (.iload 6, 2) := by decide +kernel
theorem dX10_findRest_83 : decode cX10_findRest 83 = .ok (.istore 6, 2) := by decide +kernel
theorem dX10_findRest_85 : decode cX10_findRest 85 = .ok (.iinc 7 1, 3) := by decide +kernel
theorem dX10_findRest_88 : decode cX10_findRest 88 = .ok (.goto (-50), 3) := by decide +kernel
theorem dX10_findRest_91 : decode cX10_findRest 91 = .ok (.aload_n 0, 1) := by decide +kernel
theorem dX10_findRest_92 : decode cX10_findRest 92 = .ok (.getfield 128, 3) := by decide +kernel
theorem dX10_findRest_95 : decode cX10_findRest 95 = .ok (.bipush 24, 2) := by decide +kernel
theorem dX10_findRest_97 : decode cX10_findRest 97 = .ok (.iload 4, 2) := by decide +kernel
theorem dX10_findRest_99 : decode cX10_findRest 99 = .ok (.imul, 1) := by decide +kernel
theorem dX10_findRest_100 : decode cX10_findRest 100 = .ok (.iload 5, 2) := by decide +kernel
theorem dX10_findRest_102 : decode cX10_findRest 102 = .ok (.iadd, 1) := by decide +kernel
theorem dX10_findRest_103 : decode cX10_findRest 103 = .ok (.iload 6, 2) := by decide +kernel
theorem dX10_findRest_105 : decode cX10_findRest 105 = .ok (.iastore, 1) := by decide +kernel
theorem dX10_findRest_106 : decode cX10_findRest 106 = .ok (.iinc 5 1, 3) := by decide +kernel
theorem dX10_findRest_109 : decode cX10_findRest 109 = .ok (.goto (-98), 3) := by decide +kernel
theorem dX10_findRest_112 : decode cX10_findRest 112 = .ok (.iinc 4 (-1), 3) := by decide +kernel
theorem dX10_findRest_115 : decode cX10_findRest 115 = .ok (.goto (-112), 3) := by decide +kernel
theorem dX10_findRest_118 : decode cX10_findRest 118 = .ok (.return_, 1) := by decide +kernel
theorem dX10_least_0 : decode cX10_least 0 = .ok (.aload_n 0, 1) := by decide +kernel
theorem dX10_least_1 : decode cX10_least 1 = .ok (.iload_n 1, 1) := by decide +kernel
theorem dX10_least_2 : decode cX10_least 2 = .ok (.invokevirtual 412, 3) := by decide +kernel
theorem dX10_least_5 : decode cX10_least 5 = .ok (.istore 6, 2) := by decide +kernel
theorem dX10_least_7 : decode cX10_least 7 = .ok (.aload_n 0, 1) := by decide +kernel
theorem dX10_least_8 : decode cX10_least 8 = .ok (.iload_n 2, 1) := by decide +kernel
theorem dX10_least_9 : decode cX10_least 9 = .ok (.invokevirtual 412, 3) := by decide +kernel
theorem dX10_least_12 : decode cX10_least 12 = .ok (.istore 7, 2) := by decide +kernel
theorem dX10_least_14 : decode cX10_least 14 = .ok (.iload 6, 2) := by decide +kernel
theorem dX10_least_16 : decode cX10_least 16 = .ok (.ifCond .lt 8, 3) := by decide +kernel
theorem dX10_least_19 : decode cX10_least 19 = .ok (.iload 7, 2) := by decide +kernel
theorem dX10_least_21 : decode cX10_least 21 = .ok (.ifCond .ge 7, 3) := by decide +kernel
theorem dX10_least_24 : decode cX10_least 24 = .ok (.ldc_w 329, 3) := by decide +kernel
theorem dX10_least_27 : decode cX10_least 27 = .ok (.ireturn, 1) := by decide +kernel
theorem dX10_least_28 : decode cX10_least 28 = .ok (.iload_n 3, 1) := by decide +kernel
theorem dX10_least_29 : decode cX10_least 29 = .ok (.invokestatic 397, 3) := by decide +kernel
theorem dX10_least_32 : decode cX10_least 32 = .ok (.ifCond .eq 16, 3) := by decide +kernel
theorem dX10_least_35 : decode cX10_least 35 = .ok (.iload 4, 2) := by decide +kernel
theorem dX10_least_37 : decode cX10_least 37 = .ok (.i2l, 1) := by decide +kernel
theorem dX10_least_38 : decode cX10_least 38 = .ok (.lconst 1, 1) := by decide +kernel
theorem dX10_least_39 : decode cX10_least 39 = .ok (.ldc2_w 419, 3) := by decide +kernel
theorem dX10_least_42 : decode cX10_least 42 = .ok (.invokestatic 165, 3) := by decide +kernel
theorem dX10_least_45 : decode cX10_least 45 = .ok (.ifCond .ne 6, 3) := by decide +kernel
theorem dX10_least_48 : decode cX10_least 48 = .ok (.ldc 175, 2) := by decide +kernel
theorem dX10_least_50 : decode cX10_least 50 = .ok (.ireturn, 1) := by decide +kernel
theorem dX10_least_51 : decode cX10_least 51 = .ok (.aload_n 0, 1) := by decide +kernel
theorem dX10_least_52 : decode cX10_least 52 = .ok (.iload 7, 2) := by decide +kernel
theorem dX10_least_54 : decode cX10_least 54 = .ok (.iload_n 3, 1) := by decide +kernel
theorem dX10_least_55 : decode cX10_least 55 = .ok (.iload 4, 2) := by decide +kernel
theorem dX10_least_57 : decode cX10_least 57 = .ok (.invokevirtual 421, 3) := by decide +kernel
theorem dX10_least_60 : decode cX10_least 60 = .ok (.aload_n 0, 1) := by decide +kernel
theorem dX10_least_61 : decode cX10_least 61 = .ok (.getfield 128, 3) := by decide +kernel
theorem dX10_least_64 : decode cX10_least 64 = .ok (.iload 6, 2) := by decide +kernel
theorem dX10_least_66 : decode cX10_least 66 = .ok (.iaload, 1) := by decide +kernel
theorem dX10_least_67 : decode cX10_least 67 = .ok (.ldc_w 392, 3) := by decide +kernel
theorem dX10_least_70 : decode cX10_least 70 = .ok (.if_icmp .ge 9, 3) := by decide +kernel
theorem dX10_least_73 : decode cX10_least 73 = .ok (.iload 5, 2) := by decide +kernel
theorem dX10_least_75 : decode cX10_least 75 = .ok (.iconst (-1), 1) := by decide +kernel
theorem dX10_least_76 : decode cX10_least 76 = .ok (.if_icmp .ge 5, 3) := by decide +kernel
theorem dX10_least_79 : decode cX10_least 79 = .ok (.iconst (-1), 1) := by decide +kernel
theorem dX10_least_80 : decode cX10_least 80 = .ok (.ireturn, 1) := by decide +kernel
theorem dX10_least_81 : decode cX10_least 81 = .ok (.iload 5, 2) := by decide +kernel
theorem dX10_least_83 : decode cX10_least 83 = .ok (.iconst (-1), 1) := by decide +kernel
theorem dX10_least_84 : decode cX10_least 84 = .ok (.if_icmp .ne 11, 3) := by decide +kernel
theorem dX10_least_87 : decode cX10_least 87 = .ok (.aload_n 0, 1) := by decide +kernel
theorem dX10_least_88 : decode cX10_least 88 = .ok (.getfield 128, 3) := by decide +kernel
theorem dX10_least_91 : decode cX10_least 91 = .ok (.iload 6, 2) := by decide +kernel
theorem dX10_least_93 : decode cX10_least 93 = .ok (.iaload, 1) := by decide +kernel
theorem dX10_least_94 : decode cX10_least 94 = .ok (.ireturn, 1) := by decide +kernel
theorem dX10_least_95 : decode cX10_least 95 = .ok (.iload 6, 2) := by decide +kernel
theorem dX10_least_97 : decode cX10_least 97 = .ok (.istore 8, 2) := by decide +kernel
theorem dX10_least_99 : decode cX10_least 99 = .ok (.iconst (-1), 1) := by decide +kernel
theorem dX10_least_100 : decode cX10_least 100 = .ok (.istore 9, 2) := by decide +kernel
theorem dX10_least_102 : decode cX10_least 102 = .ok (.iconst 0, 1) := by decide +kernel
theorem dX10_least_103 : decode cX10_least 103 = .ok (.istore 10, 2) := by decide +kernel
theorem dX10_least_105 : decode cX10_least 105 = .ok (.iload 10, 2) := by decide +kernel
theorem dX10_least_107 : decode cX10_least 107 = .ok (.iload 5, 2) := by decide +kernel
theorem dX10_least_109 : decode cX10_least 109 = .ok (.if_icmp .gt 70, 3) := by decide +kernel
theorem dX10_least_112 : decode cX10_least 112 = .ok (.iload 8, 2) := by decide +kernel
theorem dX10_least_114 : decode cX10_least 114 = .ok (.iload 7, 2) := by decide +kernel
theorem dX10_least_116 : decode cX10_least 116 = .ok (.if_icmp .ne 5, 3) := by decide +kernel
theorem dX10_least_119 : decode cX10_least 119 = .ok (.iconst (-1), 1) := by decide +kernel
theorem dX10_least_120 : decode cX10_least 120 = .ok (.ireturn, 1) := by decide +kernel
theorem dX10_least_121 : decode cX10_least 121 = .ok (.iconst 0, 1) := by decide +kernel
theorem dX10_least_122 : decode cX10_least 122 = .ok (.istore 9, 2) := by decide +kernel
theorem dX10_least_124 : decode cX10_least 124 = .ok (.aload_n 0, 1) := by decide +kernel
theorem dX10_least_125 : decode cX10_least 125 = .ok (.iload 10, 2) := by decide +kernel
theorem dX10_least_127 : decode cX10_least 127 = .ok (.iload 8, 2) := by decide +kernel
theorem dX10_least_129 : decode cX10_least 129 = .ok (.iload 9, 2) := by decide +kernel
theorem dX10_least_131 : decode cX10_least 131 = .ok (.iload_n 3, 1) := by decide +kernel
theorem dX10_least_132 : decode cX10_least 132 = .ok (.invokevirtual 415, 3) := by decide +kernel
theorem dX10_least_135 : decode cX10_least 135 = .ok (.aload_n 0, 1) := by decide +kernel
theorem dX10_least_136 : decode cX10_least 136 = .ok (.getfield 128, 3) := by decide +kernel
theorem dX10_least_139 : decode cX10_least 139 = .ok (.bipush 24, 2) := by decide +kernel
theorem dX10_least_141 : decode cX10_least 141 = .ok (.iload 10, 2) := by decide +kernel
theorem dX10_least_143 : decode cX10_least 143 = .ok (.imul, 1) := by decide +kernel
theorem dX10_least_144 : decode cX10_least 144 = .ok (.iload 8, 2) := by decide +kernel
theorem dX10_least_146 : decode cX10_least 146 = .ok (.iadd, 1) := by decide +kernel
theorem dX10_least_147 : decode cX10_least 147 = .ok (.iaload, 1) := by decide +kernel
theorem dX10_least_148 : decode cX10_least 148 = .ok (.if_icmp .eq 9, 3) := by decide +kernel
theorem dX10_least_151 : decode cX10_least 151 = .ok (.iinc 9 1, 3) := by decide +kernel
theorem dX10_least_154 : decode cX10_least 154 = .ok (.goto (-30), 3) := by decide +kernel
theorem dX10_least_157 : decode cX10_least 157 = .ok (.aload_n 0, 1) := by decide +kernel
theorem dX10_least_158 : decode cX10_least 158 = .ok (.iload 8, 2) := by decide +kernel
theorem dX10_least_160 : decode cX10_least 160 = .ok (.iload 9, 2) := by decide +kernel
theorem dX10_least_162 : decode cX10_least 162 = .ok (.iload_n 3, 1) := by decide +kernel
theorem dX10_least_163 : decode cX10_least 163 = .ok (.iload 10, 2) := by decide +kernel
theorem dX10_least_165 : decode cX10_least 165 = .ok (.iadd, 1) := by decide +kernel
theorem dX10_least_166 : decode cX10_least 166 = .ok (.iconst 1, 1) := by decide +kernel
theorem dX10_least_167 : decode cX10_least 167 = .ok (.iadd, 1) := by decide +kernel
theorem dX10_least_168 : decode cX10_least 168 = .ok (.invokevirtual 363, 3) := by decide +kernel
theorem dX10_least_171 : decode cX10_least 171 = .ok (.istore 8, 2) := by decide +kernel
theorem dX10_least_173 : decode cX10_least 173 = .ok (.iinc 10 1, 3) := by decide +kernel
theorem dX10_least_176 : decode cX10_least 176 = .ok (.goto (-71), 3) := by decide +kernel
theorem dX10_least_179 : decode cX10_least 179 = .ok (.iload 9, 2) := by decide +kernel
theorem dX10_least_181 : decode cX10_least 181 = .ok (.ireturn, 1) := by decide +kernel
theorem dX10_floorOf_0 : decode cX10_floorOf 0 = .ok (.aload_n 0, 1) := by decide +kernel
theorem dX10_floorOf_1 : decode cX10_floorOf 1 = .ok (.aload_n 0, 1) := by decide +kernel
theorem dX10_floorOf_2 : decode cX10_floorOf 2 = .ok (.getfield 43, 3) := by decide +kernel
theorem dX10_floorOf_5 : decode cX10_floorOf 5 = .ok (.iload_n 1, 1) := by decide +kernel
theorem dX10_floorOf_6 : decode cX10_floorOf 6 = .ok (.iaload, 1) := by decide +kernel
theorem dX10_floorOf_7 : decode cX10_floorOf 7 = .ok (.iload_n 2, 1) := by decide +kernel
theorem dX10_floorOf_8 : decode cX10_floorOf 8 = .ok (.invokevirtual 323, 3) := by decide +kernel
theorem dX10_floorOf_11 : decode cX10_floorOf 11 = .ok (.aload_n 0, 1) := by decide +kernel
theorem dX10_floorOf_12 : decode cX10_floorOf 12 = .ok (.getfield 46, 3) := by decide +kernel
theorem dX10_floorOf_15 : decode cX10_floorOf 15 = .ok (.iload_n 1, 1) := by decide +kernel
theorem dX10_floorOf_16 : decode cX10_floorOf 16 = .ok (.iaload, 1) := by decide +kernel
theorem dX10_floorOf_17 : decode cX10_floorOf 17 = .ok (.isub, 1) := by decide +kernel
theorem dX10_floorOf_18 : decode cX10_floorOf 18 = .ok (.ireturn, 1) := by decide +kernel
theorem dX10_isLevelOf_0 : decode cX10_isLevelOf 0 = .ok (.iload_n 1, 1) := by decide +kernel
theorem dX10_isLevelOf_1 : decode cX10_isLevelOf 1 = .ok (.istore 4, 2) := by decide +kernel
theorem dX10_isLevelOf_3 : decode cX10_isLevelOf 3 = .ok (.iconst 0, 1) := by decide +kernel
theorem dX10_isLevelOf_4 : decode cX10_isLevelOf 4 = .ok (.istore 5, 2) := by decide +kernel
theorem dX10_isLevelOf_6 : decode cX10_isLevelOf 6 = .ok (.iconst 0, 1) := by decide +kernel
theorem dX10_isLevelOf_7 : decode cX10_isLevelOf 7 = .ok (.istore 6, 2) := by decide +kernel
theorem dX10_isLevelOf_9 : decode cX10_isLevelOf 9 = .ok (.iload 6, 2) := by decide +kernel
theorem dX10_isLevelOf_11 : decode cX10_isLevelOf 11 = .ok (.aload_n 0, 1) := by decide +kernel
theorem dX10_isLevelOf_12 : decode cX10_isLevelOf 12 = .ok (.getfield 276, 3) := by decide +kernel
theorem dX10_isLevelOf_15 : decode cX10_isLevelOf 15 = .ok (.if_icmp .ge 53, 3) := by decide +kernel
theorem dX10_isLevelOf_18 : decode cX10_isLevelOf 18 = .ok (.iload 4, 2) := by decide +kernel
theorem dX10_isLevelOf_20 : decode cX10_isLevelOf 20 = .ok (.iload_n 3, 1) := by decide +kernel
theorem dX10_isLevelOf_21 : decode cX10_isLevelOf 21 = .ok (.iload 6, 2) := by decide +kernel
theorem dX10_isLevelOf_23 : decode cX10_isLevelOf 23 = .ok (.invokestatic 394, 3) := by decide +kernel
theorem dX10_isLevelOf_26 : decode cX10_isLevelOf 26 = .ok (.ifCond .eq 13, 3) := by decide +kernel
theorem dX10_isLevelOf_29 : decode cX10_isLevelOf 29 = .ok (.aload_n 0, 1) := by decide +kernel
theorem dX10_isLevelOf_30 : decode cX10_isLevelOf 30 = .ok (.iload 6, 2) := by decide +kernel
theorem dX10_isLevelOf_32 : decode cX10_isLevelOf 32 = .ok (.iload_n 2, 1) := by decide +kernel
theorem dX10_isLevelOf_33 : decode cX10_isLevelOf 33 = .ok (.invokevirtual 425, 3) := by decide +kernel
theorem dX10_isLevelOf_36 : decode cX10_isLevelOf 36 = .ok (.goto 4, 3) := by decide +kernel
theorem dX10_isLevelOf_39 : decode cX10_isLevelOf 39 = .ok (.iconst 0, 1) := by decide +kernel
theorem dX10_isLevelOf_40 : decode cX10_isLevelOf 40 = .ok (.iadd, 1) := by decide +kernel
theorem dX10_isLevelOf_41 : decode cX10_isLevelOf 41 = .ok (.istore 4, 2) := by decide +kernel
theorem dX10_isLevelOf_43 : decode cX10_isLevelOf 43 = .ok (.iload 5, 2) := by decide +kernel
theorem dX10_isLevelOf_45 : decode cX10_isLevelOf 45 = .ok (.iload_n 3, 1) := by decide +kernel
theorem dX10_isLevelOf_46 : decode cX10_isLevelOf 46 = .ok (.iload 6, 2) := by decide +kernel
theorem dX10_isLevelOf_48 : decode cX10_isLevelOf 48 = .ok (.invokestatic 394, 3) := by decide +kernel
theorem dX10_isLevelOf_51 : decode cX10_isLevelOf 51 = .ok (.ifCond .eq 7, 3) := by decide +kernel
theorem dX10_isLevelOf_54 : decode cX10_isLevelOf 54 = .ok (.iconst 1, 1) := by decide +kernel
theorem dX10_isLevelOf_55 : decode cX10_isLevelOf 55 = .ok (.goto 4, 3) := by decide +kernel
theorem dX10_isLevelOf_58 : decode cX10_isLevelOf 58 = .ok (.iconst 0, 1) := by decide +kernel
theorem dX10_isLevelOf_59 : decode cX10_isLevelOf 59 = .ok (.iadd, 1) := by decide +kernel
theorem dX10_isLevelOf_60 : decode cX10_isLevelOf 60 = .ok (.istore 5, 2) := by decide +kernel
theorem dX10_isLevelOf_62 : decode cX10_isLevelOf 62 = .ok (.iinc 6 1, 3) := by decide +kernel
theorem dX10_isLevelOf_65 : decode cX10_isLevelOf 65 = .ok (.goto (-56), 3) := by decide +kernel
theorem dX10_isLevelOf_68 : decode cX10_isLevelOf 68 = .ok (.iload 5, 2) := by decide +kernel
theorem dX10_isLevelOf_70 : decode cX10_isLevelOf 70 = .ok (.ifCond .le 7, 3) := by decide +kernel
theorem dX10_isLevelOf_73 : decode cX10_isLevelOf 73 = .ok (.iconst 1, 1) := by decide +kernel
theorem dX10_isLevelOf_74 : decode cX10_isLevelOf 74 = .ok (.goto 4, 3) := by decide +kernel
theorem dX10_isLevelOf_77 : decode cX10_isLevelOf 77 = .ok (.iconst 0, 1) := by decide +kernel
theorem dX10_isLevelOf_78 : decode cX10_isLevelOf 78 = .ok (.istore 6, 2) := by decide +kernel
theorem dX10_isLevelOf_80 : decode cX10_isLevelOf 80 = .ok (.iconst 0, 1) := by decide +kernel
theorem dX10_isLevelOf_81 : decode cX10_isLevelOf 81 = .ok (.istore 7, 2) := by decide +kernel
theorem dX10_isLevelOf_83 : decode cX10_isLevelOf 83 = .ok (.iload 7, 2) := by decide +kernel
theorem dX10_isLevelOf_85 : decode cX10_isLevelOf 85 = .ok (.aload_n 0, 1) := by decide +kernel
theorem dX10_isLevelOf_86 : decode cX10_isLevelOf 86 = .ok (.getfield 276, 3) := by decide +kernel
theorem dX10_isLevelOf_89 : decode cX10_isLevelOf 89 = .ok (.if_icmp .ge 54, 3) := by decide +kernel
theorem dX10_isLevelOf_92 : decode cX10_isLevelOf 92 = .ok (.aload_n 0, 1) := by decide +kernel
theorem dX10_isLevelOf_93 : decode cX10_isLevelOf 93 = .ok (.iload 7, 2) := by decide +kernel
theorem dX10_isLevelOf_95 : decode cX10_isLevelOf 95 = .ok (.iload_n 2, 1) := by decide +kernel
theorem dX10_isLevelOf_96 : decode cX10_isLevelOf 96 = .ok (.invokevirtual 425, 3) := by decide +kernel
theorem dX10_isLevelOf_99 : decode cX10_isLevelOf 99 = .ok (.iload 5, 2) := by decide +kernel
theorem dX10_isLevelOf_101 : decode cX10_isLevelOf 101 = .ok (.imul, 1) := by decide +kernel
theorem dX10_isLevelOf_102 : decode cX10_isLevelOf 102 = .ok (.iload 4, 2) := by decide +kernel
theorem dX10_isLevelOf_104 : decode cX10_isLevelOf 104 = .ok (.if_icmp .ge 7, 3) := by decide +kernel
theorem dX10_isLevelOf_107 : decode cX10_isLevelOf 107 = .ok (.iconst 1, 1) := by decide +kernel
theorem dX10_isLevelOf_108 : decode cX10_isLevelOf 108 = .ok (.goto 4, 3) := by decide +kernel
theorem dX10_isLevelOf_111 : decode cX10_isLevelOf 111 = .ok (.iconst 0, 1) := by decide +kernel
theorem dX10_isLevelOf_112 : decode cX10_isLevelOf 112 = .ok (.istore 8, 2) := by decide +kernel
theorem dX10_isLevelOf_114 : decode cX10_isLevelOf 114 = .ok (.iload 6, 2) := by decide +kernel
theorem dX10_isLevelOf_116 : decode cX10_isLevelOf 116 = .ok (.ifCond .eq 18, 3) := by decide +kernel
theorem dX10_isLevelOf_119 : decode cX10_isLevelOf 119 = .ok (.iload 8, 2) := by decide +kernel
theorem dX10_isLevelOf_121 : decode cX10_isLevelOf 121 = .ok (.iload_n 3, 1) := by decide +kernel
theorem dX10_isLevelOf_122 : decode cX10_isLevelOf 122 = .ok (.iload 7, 2) := by decide +kernel
theorem dX10_isLevelOf_124 : decode cX10_isLevelOf 124 = .ok (.invokestatic 394, 3) := by decide +kernel
theorem dX10_isLevelOf_127 : decode cX10_isLevelOf 127 = .ok (.if_icmp .ne 7, 3) := by decide +kernel
theorem dX10_isLevelOf_130 : decode cX10_isLevelOf 130 = .ok (.iconst 1, 1) := by decide +kernel
theorem dX10_isLevelOf_131 : decode cX10_isLevelOf 131 = .ok (.goto 4, 3) := by decide +kernel
theorem dX10_isLevelOf_134 : decode cX10_isLevelOf 134 = .ok (.iconst 0, 1) := by decide +kernel
theorem dX10_isLevelOf_135 : decode cX10_isLevelOf 135 = .ok (.istore 6, 2) := by decide +kernel
theorem dX10_isLevelOf_137 : decode cX10_isLevelOf 137 = .ok (.iinc 7 1, 3) := by decide +kernel
theorem dX10_isLevelOf_140 : decode cX10_isLevelOf 140 = .ok (.goto (-57), 3) := by decide +kernel
theorem dX10_isLevelOf_143 : decode cX10_isLevelOf 143 = .ok (.aload_n 0, 1) := by decide +kernel
theorem dX10_isLevelOf_144 : decode cX10_isLevelOf 144 = .ok (.iload 4, 2) := by decide +kernel
theorem dX10_isLevelOf_146 : decode cX10_isLevelOf 146 = .ok (.putfield 428, 3) := by decide +kernel
theorem dX10_isLevelOf_149 : decode cX10_isLevelOf 149 = .ok (.aload_n 0, 1) := by decide +kernel
theorem dX10_isLevelOf_150 : decode cX10_isLevelOf 150 = .ok (.iload 5, 2) := by decide +kernel
theorem dX10_isLevelOf_152 : decode cX10_isLevelOf 152 = .ok (.putfield 431, 3) := by decide +kernel
theorem dX10_isLevelOf_155 : decode cX10_isLevelOf 155 = .ok (.aload_n 0, 1) := by decide +kernel
theorem dX10_isLevelOf_156 : decode cX10_isLevelOf 156 = .ok (.iload_n 3, 1) := by decide +kernel
theorem dX10_isLevelOf_157 : decode cX10_isLevelOf 157 = .ok (.putfield 434, 3) := by decide +kernel
theorem dX10_isLevelOf_160 : decode cX10_isLevelOf 160 = .ok (.iload 6, 2) := by decide +kernel
theorem dX10_isLevelOf_162 : decode cX10_isLevelOf 162 = .ok (.ireturn, 1) := by decide +kernel
theorem dX10_findWater_0 : decode cX10_findWater 0 = .ok (.iconst 1, 1) := by decide +kernel
theorem dX10_findWater_1 : decode cX10_findWater 1 = .ok (.istore_n 3, 1) := by decide +kernel
theorem dX10_findWater_2 : decode cX10_findWater 2 = .ok (.iload_n 1, 1) := by decide +kernel
theorem dX10_findWater_3 : decode cX10_findWater 3 = .ok (.ifCond .le 19, 3) := by decide +kernel
theorem dX10_findWater_6 : decode cX10_findWater 6 = .ok (.aload_n 0, 1) := by decide +kernel
theorem dX10_findWater_7 : decode cX10_findWater 7 = .ok (.iload_n 1, 1) := by decide +kernel
theorem dX10_findWater_8 : decode cX10_findWater 8 = .ok (.iload_n 2, 1) := by decide +kernel
theorem dX10_findWater_9 : decode cX10_findWater 9 = .ok (.iload_n 3, 1) := by decide +kernel
theorem dX10_findWater_10 : decode cX10_findWater 10 = .ok (.invokevirtual 437, 3) := by decide +kernel
theorem dX10_findWater_13 : decode cX10_findWater 13 = .ok (.ifCond .ne 9, 3) := by decide +kernel
theorem dX10_findWater_16 : decode cX10_findWater 16 = .ok (.iinc 3 1, 3) := by decide +kernel
theorem dX10_findWater_19 : decode cX10_findWater 19 = .ok (.goto (-17), 3) := by decide +kernel
theorem dX10_findWater_22 : decode cX10_findWater 22 = .ok (.iload_n 1, 1) := by decide +kernel
theorem dX10_findWater_23 : decode cX10_findWater 23 = .ok (.ifCond .ne 73, 3) := by decide +kernel
theorem dX10_findWater_26 : decode cX10_findWater 26 = .ok (.aload_n 0, 1) := by decide +kernel
theorem dX10_findWater_27 : decode cX10_findWater 27 = .ok (.aload_n 0, 1) := by decide +kernel
theorem dX10_findWater_28 : decode cX10_findWater 28 = .ok (.iconst 0, 1) := by decide +kernel
theorem dX10_findWater_29 : decode cX10_findWater 29 = .ok (.iload_n 2, 1) := by decide +kernel
theorem dX10_findWater_30 : decode cX10_findWater 30 = .ok (.invokevirtual 425, 3) := by decide +kernel
theorem dX10_findWater_33 : decode cX10_findWater 33 = .ok (.putfield 428, 3) := by decide +kernel
theorem dX10_findWater_36 : decode cX10_findWater 36 = .ok (.iconst 1, 1) := by decide +kernel
theorem dX10_findWater_37 : decode cX10_findWater 37 = .ok (.istore 4, 2) := by decide +kernel
theorem dX10_findWater_39 : decode cX10_findWater 39 = .ok (.iload 4, 2) := by decide +kernel
theorem dX10_findWater_41 : decode cX10_findWater 41 = .ok (.aload_n 0, 1) := by decide +kernel
theorem dX10_findWater_42 : decode cX10_findWater 42 = .ok (.getfield 276, 3) := by decide +kernel
theorem dX10_findWater_45 : decode cX10_findWater 45 = .ok (.if_icmp .ge 41, 3) := by decide +kernel
theorem dX10_findWater_48 : decode cX10_findWater 48 = .ok (.aload_n 0, 1) := by decide +kernel
theorem dX10_findWater_49 : decode cX10_findWater 49 = .ok (.aload_n 0, 1) := by decide +kernel
theorem dX10_findWater_50 : decode cX10_findWater 50 = .ok (.iload 4, 2) := by decide +kernel
theorem dX10_findWater_52 : decode cX10_findWater 52 = .ok (.iload_n 2, 1) := by decide +kernel
theorem dX10_findWater_53 : decode cX10_findWater 53 = .ok (.invokevirtual 425, 3) := by decide +kernel
theorem dX10_findWater_56 : decode cX10_findWater 56 = .ok (.aload_n 0, 1) := by decide +kernel
theorem dX10_findWater_57 : decode cX10_findWater 57 = .ok (.getfield 428, 3) := by decide +kernel
theorem dX10_findWater_60 : decode cX10_findWater 60 = .ok (.if_icmp .ge 13, 3) := by decide +kernel
theorem dX10_findWater_63 : decode cX10_findWater 63 = .ok (.aload_n 0, 1) := by decide +kernel
theorem dX10_findWater_64 : decode cX10_findWater 64 = .ok (.iload 4, 2) := by decide +kernel
theorem dX10_findWater_66 : decode cX10_findWater 66 = .ok (.iload_n 2, 1) := by decide +kernel
theorem dX10_findWater_67 : decode cX10_findWater 67 = .ok (.invokevirtual 425, 3) := by decide +kernel
theorem dX10_findWater_70 : decode cX10_findWater 70 = .ok (.goto 7, 3) := by decide +kernel
theorem dX10_findWater_73 : decode cX10_findWater 73 = .ok (.aload_n 0, 1) := by decide +kernel
theorem dX10_findWater_74 : decode cX10_findWater 74 = .ok (.getfield 428, 3) := by decide +kernel
theorem dX10_findWater_77 : decode cX10_findWater 77 = .ok (.putfield 428, 3) := by decide +kernel
theorem dX10_findWater_80 : decode cX10_findWater 80 = .ok (.iinc 4 1, 3) := by decide +kernel
theorem dX10_findWater_83 : decode cX10_findWater 83 = .ok (.goto (-44), 3) := by decide +kernel
theorem dX10_findWater_86 : decode cX10_findWater 86 = .ok (.aload_n 0, 1) := by decide +kernel
theorem dX10_findWater_87 : decode cX10_findWater 87 = .ok (.iconst 1, 1) := by decide +kernel
theorem dX10_findWater_88 : decode cX10_findWater 88 = .ok (.putfield 431, 3) := by decide +kernel
theorem dX10_findWater_91 : decode cX10_findWater 91 = .ok (.aload_n 0, 1) := by decide +kernel
theorem dX10_findWater_92 : decode cX10_findWater 92 = .ok (.iconst 0, 1) := by decide +kernel
theorem dX10_findWater_93 : decode cX10_findWater 93 = .ok (.putfield 434, 3) := by decide +kernel
theorem dX10_findWater_96 : decode cX10_findWater 96 = .ok (.aload_n 0, 1) := by decide +kernel
theorem dX10_findWater_97 : decode cX10_findWater 97 = .ok (.getfield 428, 3) := by decide +kernel
theorem dX10_findWater_100 : decode cX10_findWater 100 = .ok (.aload_n 0, 1) := by decide +kernel
theorem dX10_findWater_101 : decode cX10_findWater 101 = .ok (.getfield 431, 3) := by decide +kernel
theorem dX10_findWater_104 : decode cX10_findWater 104 = .ok (.invokestatic 282, 3) := by decide +kernel
theorem dX10_findWater_107 : decode cX10_findWater 107 = .ok (.istore 4, 2) := by decide +kernel
theorem dX10_findWater_109 : decode cX10_findWater 109 = .ok (.aload_n 0, 1) := by decide +kernel
theorem dX10_findWater_110 : decode cX10_findWater 110 = .ok (.dup, 1) := by decide +kernel
theorem dX10_findWater_111 : decode cX10_findWater 111 = .ok (.getfield 428, 3) := by decide +kernel
theorem dX10_findWater_114 : decode cX10_findWater 114 = .ok (.iload 4, 2) := by decide +kernel
theorem dX10_findWater_116 : decode cX10_findWater 116 = .ok (.idiv, 1) := by decide +kernel
theorem dX10_findWater_117 : decode cX10_findWater 117 = .ok (.putfield 428, 3) := by decide +kernel
theorem dX10_findWater_120 : decode cX10_findWater 120 = .ok (.aload_n 0, 1) := by decide +kernel
theorem dX10_findWater_121 : decode cX10_findWater 121 = .ok (.dup, 1) := by decide +kernel
theorem dX10_findWater_122 : decode cX10_findWater 122 = .ok (.getfield 431, 3) := by decide +kernel
theorem dX10_findWater_125 : decode cX10_findWater 125 = .ok (.iload 4, 2) := by decide +kernel
theorem dX10_findWater_127 : decode cX10_findWater 127 = .ok (.idiv, 1) := by decide +kernel
theorem dX10_findWater_128 : decode cX10_findWater 128 = .ok (.putfield 431, 3) := by decide +kernel
theorem dX10_findWater_131 : decode cX10_findWater 131 = .ok (.return_, 1) := by decide +kernel
theorem dX10_water_0 : decode cX10_water 0 = .ok (.iload_n 1, 1) := by decide +kernel
theorem dX10_water_1 : decode cX10_water 1 = .ok (.i2l, 1) := by decide +kernel
theorem dX10_water_2 : decode cX10_water 2 = .ok (.lconst 0, 1) := by decide +kernel
theorem dX10_water_3 : decode cX10_water 3 = .ok (.ldc2_w 351, 3) := by decide +kernel
theorem dX10_water_6 : decode cX10_water 6 = .ok (.invokestatic 165, 3) := by decide +kernel
theorem dX10_water_9 : decode cX10_water 9 = .ok (.ifCond .eq 22, 3) := by decide +kernel
theorem dX10_water_12 : decode cX10_water 12 = .ok (.iload_n 2, 1) := by decide +kernel
theorem dX10_water_13 : decode cX10_water 13 = .ok (.invokestatic 397, 3) := by decide +kernel
theorem dX10_water_16 : decode cX10_water 16 = .ok (.ifCond .eq 15, 3) := by decide +kernel
theorem dX10_water_19 : decode cX10_water 19 = .ok (.iload_n 3, 1) := by decide +kernel
theorem dX10_water_20 : decode cX10_water 20 = .ok (.i2l, 1) := by decide +kernel
theorem dX10_water_21 : decode cX10_water 21 = .ok (.lconst 0, 1) := by decide +kernel
theorem dX10_water_22 : decode cX10_water 22 = .ok (.ldc2_w 440, 3) := by decide +kernel
theorem dX10_water_25 : decode cX10_water 25 = .ok (.invokestatic 165, 3) := by decide +kernel
theorem dX10_water_28 : decode cX10_water 28 = .ok (.ifCond .ne 6, 3) := by decide +kernel
theorem dX10_water_31 : decode cX10_water 31 = .ok (.ldc 175, 2) := by decide +kernel
theorem dX10_water_33 : decode cX10_water 33 = .ok (.ireturn, 1) := by decide +kernel
theorem dX10_water_34 : decode cX10_water 34 = .ok (.aload_n 0, 1) := by decide +kernel
theorem dX10_water_35 : decode cX10_water 35 = .ok (.getfield 276, 3) := by decide +kernel
theorem dX10_water_38 : decode cX10_water 38 = .ok (.ifCond .ne 7, 3) := by decide +kernel
theorem dX10_water_41 : decode cX10_water 41 = .ok (.ldc_w 366, 3) := by decide +kernel
theorem dX10_water_44 : decode cX10_water 44 = .ok (.ireturn, 1) := by decide +kernel
theorem dX10_water_45 : decode cX10_water 45 = .ok (.aload_n 0, 1) := by decide +kernel
theorem dX10_water_46 : decode cX10_water 46 = .ok (.iload_n 1, 1) := by decide +kernel
theorem dX10_water_47 : decode cX10_water 47 = .ok (.iload_n 2, 1) := by decide +kernel
theorem dX10_water_48 : decode cX10_water 48 = .ok (.invokevirtual 442, 3) := by decide +kernel
theorem dX10_water_51 : decode cX10_water 51 = .ok (.iload_n 3, 1) := by decide +kernel
theorem dX10_water_52 : decode cX10_water 52 = .ok (.ifCond .ne 10, 3) := by decide +kernel
theorem dX10_water_55 : decode cX10_water 55 = .ok (.aload_n 0, 1) := by decide +kernel
theorem dX10_water_56 : decode cX10_water 56 = .ok (.getfield 428, 3) := by decide +kernel
theorem dX10_water_59 : decode cX10_water 59 = .ok (.goto 19, 3) := by decide +kernel
theorem dX10_water_62 : decode cX10_water 62 = .ok (.iload_n 3, 1) := by decide +kernel
theorem dX10_water_63 : decode cX10_water 63 = .ok (.iconst 1, 1) := by decide +kernel
theorem dX10_water_64 : decode cX10_water 64 = .ok (.if_icmp .ne 10, 3) := by decide +kernel
theorem dX10_water_67 : decode cX10_water 67 = .ok (.aload_n 0, 1) := by decide +kernel
theorem dX10_water_68 : decode cX10_water 68 = .ok (.getfield 431, 3) := by decide +kernel
theorem dX10_water_71 : decode cX10_water 71 = .ok (.goto 7, 3) := by decide +kernel
theorem dX10_water_74 : decode cX10_water 74 = .ok (.aload_n 0, 1) := by decide +kernel
theorem dX10_water_75 : decode cX10_water 75 = .ok (.getfield 434, 3) := by decide +kernel
theorem dX10_water_78 : decode cX10_water 78 = .ok (.ireturn, 1) := by decide +kernel
theorem dX10_whoseAt_0 : decode cX10_whoseAt 0 = .ok (.iconst 0, 1) := by decide +kernel
theorem dX10_whoseAt_1 : decode cX10_whoseAt 1 = .ok (.istore_n 3, 1) := by decide +kernel
theorem dX10_whoseAt_2 : decode cX10_whoseAt 2 = .ok (.iconst 0, 1) := by decide +kernel
theorem dX10_whoseAt_3 : decode cX10_whoseAt 3 = .ok (.istore 4, 2) := by decide +kernel
theorem dX10_whoseAt_5 : decode cX10_whoseAt 5 = .ok (.iload 4, 2) := by decide +kernel
theorem dX10_whoseAt_7 : decode cX10_whoseAt 7 = .ok (.aload_n 0, 1) := by decide +kernel
theorem dX10_whoseAt_8 : decode cX10_whoseAt 8 = .ok (.invokevirtual 306, 3) := by decide +kernel
theorem dX10_whoseAt_11 : decode cX10_whoseAt 11 = .ok (.if_icmp .ge 48, 3) := by decide +kernel
theorem dX10_whoseAt_14 : decode cX10_whoseAt 14 = .ok (.iload_n 3, 1) := by decide +kernel
theorem dX10_whoseAt_15 : decode cX10_whoseAt 15 = .ok (.aload_n 0, 1) := by decide +kernel
theorem dX10_whoseAt_16 : decode cX10_whoseAt 16 = .ok (.iload 4, 2) := by decide +kernel
theorem dX10_whoseAt_18 : decode cX10_whoseAt 18 = .ok (.iload_n 2, 1) := by decide +kernel
theorem dX10_whoseAt_19 : decode cX10_whoseAt 19 = .ok (.invokevirtual 323, 3) := by decide +kernel
theorem dX10_whoseAt_22 : decode cX10_whoseAt 22 = .ok (.i2l, 1) := by decide +kernel
theorem dX10_whoseAt_23 : decode cX10_whoseAt 23 = .ok (.aload_n 0, 1) := by decide +kernel
theorem dX10_whoseAt_24 : decode cX10_whoseAt 24 = .ok (.getfield 49, 3) := by decide +kernel
theorem dX10_whoseAt_27 : decode cX10_whoseAt 27 = .ok (.iload_n 1, 1) := by decide +kernel
theorem dX10_whoseAt_28 : decode cX10_whoseAt 28 = .ok (.iaload, 1) := by decide +kernel
theorem dX10_whoseAt_29 : decode cX10_whoseAt 29 = .ok (.i2l, 1) := by decide +kernel
theorem dX10_whoseAt_30 : decode cX10_whoseAt 30 = .ok (.aload_n 0, 1) := by decide +kernel
theorem dX10_whoseAt_31 : decode cX10_whoseAt 31 = .ok (.getfield 52, 3) := by decide +kernel
theorem dX10_whoseAt_34 : decode cX10_whoseAt 34 = .ok (.iload_n 1, 1) := by decide +kernel
theorem dX10_whoseAt_35 : decode cX10_whoseAt 35 = .ok (.iaload, 1) := by decide +kernel
theorem dX10_whoseAt_36 : decode cX10_whoseAt 36 = .ok (.i2l, 1) := by decide +kernel
theorem dX10_whoseAt_37 : decode cX10_whoseAt 37 = .ok (.invokestatic 165, 3) := by decide +kernel
theorem dX10_whoseAt_40 : decode cX10_whoseAt 40 = .ok (.ifCond .eq 10, 3) := by decide +kernel
theorem dX10_whoseAt_43 : decode cX10_whoseAt 43 = .ok (.iconst 1, 1) := by decide +kernel
theorem dX10_whoseAt_44 : decode cX10_whoseAt 44 = .ok (.iload 4, 2) := by decide +kernel
theorem dX10_whoseAt_46 : decode cX10_whoseAt 46 = .ok (.ishl, 1) := by decide +kernel
theorem dX10_whoseAt_47 : decode cX10_whoseAt 47 = .ok (.goto 4, 3) := by decide +kernel
theorem dX10_whoseAt_50 : decode cX10_whoseAt 50 = .ok (.iconst 0, 1) := by decide +kernel
theorem dX10_whoseAt_51 : decode cX10_whoseAt 51 = .ok (.ior, 1) := by decide +kernel
theorem dX10_whoseAt_52 : decode cX10_whoseAt 52 = .ok (.istore_n 3, 1) := by decide +kernel
theorem dX10_whoseAt_53 : decode cX10_whoseAt 53 = .ok (.iinc 4 1, 3) := by decide +kernel
theorem dX10_whoseAt_56 : decode cX10_whoseAt 56 = .ok (.goto (-51), 3) := by decide +kernel
theorem dX10_whoseAt_59 : decode cX10_whoseAt 59 = .ok (.iload_n 3, 1) := by decide +kernel
theorem dX10_whoseAt_60 : decode cX10_whoseAt 60 = .ok (.ireturn, 1) := by decide +kernel
theorem dX10_whose_0 : decode cX10_whose 0 = .ok (.iload_n 1, 1) := by decide +kernel
theorem dX10_whose_1 : decode cX10_whose 1 = .ok (.i2l, 1) := by decide +kernel
theorem dX10_whose_2 : decode cX10_whose 2 = .ok (.lconst 0, 1) := by decide +kernel
theorem dX10_whose_3 : decode cX10_whose 3 = .ok (.aload_n 0, 1) := by decide +kernel
theorem dX10_whose_4 : decode cX10_whose 4 = .ok (.getfield 279, 3) := by decide +kernel
theorem dX10_whose_7 : decode cX10_whose 7 = .ok (.iconst 1, 1) := by decide +kernel
theorem dX10_whose_8 : decode cX10_whose 8 = .ok (.isub, 1) := by decide +kernel
theorem dX10_whose_9 : decode cX10_whose 9 = .ok (.i2l, 1) := by decide +kernel
theorem dX10_whose_10 : decode cX10_whose 10 = .ok (.invokestatic 165, 3) := by decide +kernel
theorem dX10_whose_13 : decode cX10_whose 13 = .ok (.ifCond .ne 7, 3) := by decide +kernel
theorem dX10_whose_16 : decode cX10_whose 16 = .ok (.ldc_w 329, 3) := by decide +kernel
theorem dX10_whose_19 : decode cX10_whose 19 = .ok (.ireturn, 1) := by decide +kernel
theorem dX10_whose_20 : decode cX10_whose 20 = .ok (.iload_n 2, 1) := by decide +kernel
theorem dX10_whose_21 : decode cX10_whose 21 = .ok (.invokestatic 397, 3) := by decide +kernel
theorem dX10_whose_24 : decode cX10_whose 24 = .ok (.ifCond .eq 12, 3) := by decide +kernel
theorem dX10_whose_27 : decode cX10_whose 27 = .ok (.aload_n 0, 1) := by decide +kernel
theorem dX10_whose_28 : decode cX10_whose 28 = .ok (.iload_n 1, 1) := by decide +kernel
theorem dX10_whose_29 : decode cX10_whose 29 = .ok (.iload_n 2, 1) := by decide +kernel
theorem dX10_whose_30 : decode cX10_whose 30 = .ok (.invokevirtual 446, 3) := by decide +kernel
theorem dX10_whose_33 : decode cX10_whose 33 = .ok (.goto 5, 3) := by decide +kernel
theorem dX10_whose_36 : decode cX10_whose 36 = .ok (.ldc 175, 2) := by decide +kernel
theorem dX10_whose_38 : decode cX10_whose 38 = .ok (.ireturn, 1) := by decide +kernel
theorem dX10_stays_0 : decode cX10_stays 0 = .ok (.iload_n 1, 1) := by decide +kernel
theorem dX10_stays_1 : decode cX10_stays 1 = .ok (.i2l, 1) := by decide +kernel
theorem dX10_stays_2 : decode cX10_stays 2 = .ok (.lconst 0, 1) := by decide +kernel
theorem dX10_stays_3 : decode cX10_stays 3 = .ok (.aload_n 0, 1) := by decide +kernel
theorem dX10_stays_4 : decode cX10_stays 4 = .ok (.getfield 279, 3) := by decide +kernel
theorem dX10_stays_7 : decode cX10_stays 7 = .ok (.iconst 1, 1) := by decide +kernel
theorem dX10_stays_8 : decode cX10_stays 8 = .ok (.isub, 1) := by decide +kernel
theorem dX10_stays_9 : decode cX10_stays 9 = .ok (.i2l, 1) := by decide +kernel
theorem dX10_stays_10 : decode cX10_stays 10 = .ok (.invokestatic 165, 3) := by decide +kernel
theorem dX10_stays_13 : decode cX10_stays 13 = .ok (.ifCond .ne 7, 3) := by decide +kernel
theorem dX10_stays_16 : decode cX10_stays 16 = .ok (.ldc_w 329, 3) := by decide +kernel
theorem dX10_stays_19 : decode cX10_stays 19 = .ok (.ireturn, 1) := by decide +kernel
theorem dX10_stays_20 : decode cX10_stays 20 = .ok (.iconst 1, 1) := by decide +kernel
theorem dX10_stays_21 : decode cX10_stays 21 = .ok (.aload_n 0, 1) := by decide +kernel
theorem dX10_stays_22 : decode cX10_stays 22 = .ok (.invokevirtual 306, 3) := by decide +kernel
theorem dX10_stays_25 : decode cX10_stays 25 = .ok (.ishl, 1) := by decide +kernel
theorem dX10_stays_26 : decode cX10_stays 26 = .ok (.iconst 1, 1) := by decide +kernel
theorem dX10_stays_27 : decode cX10_stays 27 = .ok (.isub, 1) := by decide +kernel
theorem dX10_stays_28 : decode cX10_stays 28 = .ok (.istore_n 2, 1) := by decide +kernel
theorem dX10_stays_29 : decode cX10_stays 29 = .ok (.iconst 0, 1) := by decide +kernel
theorem dX10_stays_30 : decode cX10_stays 30 = .ok (.istore_n 3, 1) := by decide +kernel
theorem dX10_stays_31 : decode cX10_stays 31 = .ok (.iload_n 3, 1) := by decide +kernel
theorem dX10_stays_32 : decode cX10_stays 32 = .ok (.aload_n 0, 1) := by decide +kernel
theorem dX10_stays_33 : decode cX10_stays 33 = .ok (.getfield 55, 3) := by decide +kernel
theorem dX10_stays_36 : decode cX10_stays 36 = .ok (.if_icmp .ge 18, 3) := by decide +kernel
theorem dX10_stays_39 : decode cX10_stays 39 = .ok (.iload_n 2, 1) := by decide +kernel
theorem dX10_stays_40 : decode cX10_stays 40 = .ok (.aload_n 0, 1) := by decide +kernel
theorem dX10_stays_41 : decode cX10_stays 41 = .ok (.iload_n 1, 1) := by decide +kernel
theorem dX10_stays_42 : decode cX10_stays 42 = .ok (.iload_n 3, 1) := by decide +kernel
theorem dX10_stays_43 : decode cX10_stays 43 = .ok (.invokevirtual 446, 3) := by decide +kernel
theorem dX10_stays_46 : decode cX10_stays 46 = .ok (.iand, 1) := by decide +kernel
theorem dX10_stays_47 : decode cX10_stays 47 = .ok (.istore_n 2, 1) := by decide +kernel
theorem dX10_stays_48 : decode cX10_stays 48 = .ok (.iinc 3 1, 3) := by decide +kernel
theorem dX10_stays_51 : decode cX10_stays 51 = .ok (.goto (-20), 3) := by decide +kernel
theorem dX10_stays_54 : decode cX10_stays 54 = .ok (.iload_n 2, 1) := by decide +kernel
theorem dX10_stays_55 : decode cX10_stays 55 = .ok (.ireturn, 1) := by decide +kernel
theorem dX10_see_0 : decode cX10_see 0 = .ok (.aload_n 0, 1) := by decide +kernel
theorem dX10_see_1 : decode cX10_see 1 = .ok (.iload_n 1, 1) := by decide +kernel
theorem dX10_see_2 : decode cX10_see 2 = .ok (.iload_n 2, 1) := by decide +kernel
theorem dX10_see_3 : decode cX10_see 3 = .ok (.invokevirtual 169, 3) := by decide +kernel
theorem dX10_see_6 : decode cX10_see 6 = .ok (.ifCond .ne 7, 3) := by decide +kernel
theorem dX10_see_9 : decode cX10_see 9 = .ok (.ldc_w 329, 3) := by decide +kernel
theorem dX10_see_12 : decode cX10_see 12 = .ok (.ireturn, 1) := by decide +kernel
theorem dX10_see_13 : decode cX10_see 13 = .ok (.iload_n 3, 1) := by decide +kernel
theorem dX10_see_14 : decode cX10_see 14 = .ok (.i2l, 1) := by decide +kernel
theorem dX10_see_15 : decode cX10_see 15 = .ok (.lconst 0, 1) := by decide +kernel
theorem dX10_see_16 : decode cX10_see 16 = .ok (.ldc2_w 374, 3) := by decide +kernel
theorem dX10_see_19 : decode cX10_see 19 = .ok (.invokestatic 165, 3) := by decide +kernel
theorem dX10_see_22 : decode cX10_see 22 = .ok (.ifCond .eq 18, 3) := by decide +kernel
theorem dX10_see_25 : decode cX10_see 25 = .ok (.iload 4, 2) := by decide +kernel
theorem dX10_see_27 : decode cX10_see 27 = .ok (.i2l, 1) := by decide +kernel
theorem dX10_see_28 : decode cX10_see 28 = .ok (.ldc2_w 449, 3) := by decide +kernel
theorem dX10_see_31 : decode cX10_see 31 = .ok (.ldc2_w 374, 3) := by decide +kernel
theorem dX10_see_34 : decode cX10_see 34 = .ok (.invokestatic 165, 3) := by decide +kernel
theorem dX10_see_37 : decode cX10_see 37 = .ok (.ifCond .ne 6, 3) := by decide +kernel
theorem dX10_see_40 : decode cX10_see 40 = .ok (.ldc 175, 2) := by decide +kernel
theorem dX10_see_42 : decode cX10_see 42 = .ok (.ireturn, 1) := by decide +kernel
theorem dX10_see_43 : decode cX10_see 43 = .ok (.aload_n 0, 1) := by decide +kernel
theorem dX10_see_44 : decode cX10_see 44 = .ok (.getfield 300, 3) := by decide +kernel
theorem dX10_see_47 : decode cX10_see 47 = .ok (.bipush 12, 2) := by decide +kernel
theorem dX10_see_49 : decode cX10_see 49 = .ok (.if_icmp .ne 6, 3) := by decide +kernel
theorem dX10_see_52 : decode cX10_see 52 = .ok (.ldc 179, 2) := by decide +kernel
theorem dX10_see_54 : decode cX10_see 54 = .ok (.ireturn, 1) := by decide +kernel
theorem dX10_see_55 : decode cX10_see 55 = .ok (.aload_n 0, 1) := by decide +kernel
theorem dX10_see_56 : decode cX10_see 56 = .ok (.getfield 131, 3) := by decide +kernel
theorem dX10_see_59 : decode cX10_see 59 = .ok (.aload_n 0, 1) := by decide +kernel
theorem dX10_see_60 : decode cX10_see 60 = .ok (.getfield 300, 3) := by decide +kernel
theorem dX10_see_63 : decode cX10_see 63 = .ok (.aload_n 0, 1) := by decide +kernel
theorem dX10_see_64 : decode cX10_see 64 = .ok (.getfield 159, 3) := by decide +kernel
theorem dX10_see_67 : decode cX10_see 67 = .ok (.iload_n 2, 1) := by decide +kernel
theorem dX10_see_68 : decode cX10_see 68 = .ok (.imul, 1) := by decide +kernel
theorem dX10_see_69 : decode cX10_see 69 = .ok (.iload_n 1, 1) := by decide +kernel
theorem dX10_see_70 : decode cX10_see 70 = .ok (.iadd, 1) := by decide +kernel
theorem dX10_see_71 : decode cX10_see 71 = .ok (.iastore, 1) := by decide +kernel
theorem dX10_see_72 : decode cX10_see 72 = .ok (.aload_n 0, 1) := by decide +kernel
theorem dX10_see_73 : decode cX10_see 73 = .ok (.getfield 134, 3) := by decide +kernel
theorem dX10_see_76 : decode cX10_see 76 = .ok (.aload_n 0, 1) := by decide +kernel
theorem dX10_see_77 : decode cX10_see 77 = .ok (.getfield 300, 3) := by decide +kernel
theorem dX10_see_80 : decode cX10_see 80 = .ok (.iload_n 3, 1) := by decide +kernel
theorem dX10_see_81 : decode cX10_see 81 = .ok (.iastore, 1) := by decide +kernel
theorem dX10_see_82 : decode cX10_see 82 = .ok (.aload_n 0, 1) := by decide +kernel
theorem dX10_see_83 : decode cX10_see 83 = .ok (.getfield 137, 3) := by decide +kernel
theorem dX10_see_86 : decode cX10_see 86 = .ok (.aload_n 0, 1) := by decide +kernel
theorem dX10_see_87 : decode cX10_see 87 = .ok (.getfield 300, 3) := by decide +kernel
theorem dX10_see_90 : decode cX10_see 90 = .ok (.iload 4, 2) := by decide +kernel
theorem dX10_see_92 : decode cX10_see 92 = .ok (.iastore, 1) := by decide +kernel
theorem dX10_see_93 : decode cX10_see 93 = .ok (.aload_n 0, 1) := by decide +kernel
theorem dX10_see_94 : decode cX10_see 94 = .ok (.dup, 1) := by decide +kernel
theorem dX10_see_95 : decode cX10_see 95 = .ok (.getfield 300, 3) := by decide +kernel
theorem dX10_see_98 : decode cX10_see 98 = .ok (.iconst 1, 1) := by decide +kernel
theorem dX10_see_99 : decode cX10_see 99 = .ok (.iadd, 1) := by decide +kernel
theorem dX10_see_100 : decode cX10_see 100 = .ok (.putfield 300, 3) := by decide +kernel
theorem dX10_see_103 : decode cX10_see 103 = .ok (.aload_n 0, 1) := by decide +kernel
theorem dX10_see_104 : decode cX10_see 104 = .ok (.getfield 300, 3) := by decide +kernel
theorem dX10_see_107 : decode cX10_see 107 = .ok (.ireturn, 1) := by decide +kernel
theorem dX10_codes_0 : decode cX10_codes 0 = .ok (.aload_n 0, 1) := by decide +kernel
theorem dX10_codes_1 : decode cX10_codes 1 = .ok (.getfield 16, 3) := by decide +kernel
theorem dX10_codes_4 : decode cX10_codes 4 = .ok (.iconst 0, 1) := by decide +kernel
theorem dX10_codes_5 : decode cX10_codes 5 = .ok (.iaload, 1) := by decide +kernel
theorem dX10_codes_6 : decode cX10_codes 6 = .ok (.aload_n 0, 1) := by decide +kernel
theorem dX10_codes_7 : decode cX10_codes 7 = .ok (.getfield 16, 3) := by decide +kernel
theorem dX10_codes_10 : decode cX10_codes 10 = .ok (.iconst 1, 1) := by decide +kernel
theorem dX10_codes_11 : decode cX10_codes 11 = .ok (.iaload, 1) := by decide +kernel
theorem dX10_codes_12 : decode cX10_codes 12 = .ok (.imul, 1) := by decide +kernel
theorem dX10_codes_13 : decode cX10_codes 13 = .ok (.aload_n 0, 1) := by decide +kernel
theorem dX10_codes_14 : decode cX10_codes 14 = .ok (.getfield 16, 3) := by decide +kernel
theorem dX10_codes_17 : decode cX10_codes 17 = .ok (.iconst 2, 1) := by decide +kernel
theorem dX10_codes_18 : decode cX10_codes 18 = .ok (.iaload, 1) := by decide +kernel
theorem dX10_codes_19 : decode cX10_codes 19 = .ok (.imul, 1) := by decide +kernel
theorem dX10_codes_20 : decode cX10_codes 20 = .ok (.ireturn, 1) := by decide +kernel
theorem dX10_setShifts_0 : decode cX10_setShifts 0 = .ok (.aload_n 0, 1) := by decide +kernel
theorem dX10_setShifts_1 : decode cX10_setShifts 1 = .ok (.getfield 59, 3) := by decide +kernel
theorem dX10_setShifts_4 : decode cX10_setShifts 4 = .ok (.iconst 2, 1) := by decide +kernel
theorem dX10_setShifts_5 : decode cX10_setShifts 5 = .ok (.iload_n 1, 1) := by decide +kernel
theorem dX10_setShifts_6 : decode cX10_setShifts 6 = .ok (.aload_n 0, 1) := by decide +kernel
theorem dX10_setShifts_7 : decode cX10_setShifts 7 = .ok (.getfield 16, 3) := by decide +kernel
theorem dX10_setShifts_10 : decode cX10_setShifts 10 = .ok (.iconst 2, 1) := by decide +kernel
theorem dX10_setShifts_11 : decode cX10_setShifts 11 = .ok (.iaload, 1) := by decide +kernel
theorem dX10_setShifts_12 : decode cX10_setShifts 12 = .ok (.irem, 1) := by decide +kernel
theorem dX10_setShifts_13 : decode cX10_setShifts 13 = .ok (.iastore, 1) := by decide +kernel
theorem dX10_setShifts_14 : decode cX10_setShifts 14 = .ok (.aload_n 0, 1) := by decide +kernel
theorem dX10_setShifts_15 : decode cX10_setShifts 15 = .ok (.getfield 59, 3) := by decide +kernel
theorem dX10_setShifts_18 : decode cX10_setShifts 18 = .ok (.iconst 1, 1) := by decide +kernel
theorem dX10_setShifts_19 : decode cX10_setShifts 19 = .ok (.iload_n 1, 1) := by decide +kernel
theorem dX10_setShifts_20 : decode cX10_setShifts 20 = .ok (.aload_n 0, 1) := by decide +kernel
theorem dX10_setShifts_21 : decode cX10_setShifts 21 = .ok (.getfield 16, 3) := by decide +kernel
theorem dX10_setShifts_24 : decode cX10_setShifts 24 = .ok (.iconst 2, 1) := by decide +kernel
theorem dX10_setShifts_25 : decode cX10_setShifts 25 = .ok (.iaload, 1) := by decide +kernel
theorem dX10_setShifts_26 : decode cX10_setShifts 26 = .ok (.idiv, 1) := by decide +kernel
theorem dX10_setShifts_27 : decode cX10_setShifts 27 = .ok (.aload_n 0, 1) := by decide +kernel
theorem dX10_setShifts_28 : decode cX10_setShifts 28 = .ok (.getfield 16, 3) := by decide +kernel
theorem dX10_setShifts_31 : decode cX10_setShifts 31 = .ok (.iconst 1, 1) := by decide +kernel
theorem dX10_setShifts_32 : decode cX10_setShifts 32 = .ok (.iaload, 1) := by decide +kernel
theorem dX10_setShifts_33 : decode cX10_setShifts 33 = .ok (.irem, 1) := by decide +kernel
theorem dX10_setShifts_34 : decode cX10_setShifts 34 = .ok (.iastore, 1) := by decide +kernel
theorem dX10_setShifts_35 : decode cX10_setShifts 35 = .ok (.aload_n 0, 1) := by decide +kernel
theorem dX10_setShifts_36 : decode cX10_setShifts 36 = .ok (.getfield 59, 3) := by decide +kernel
theorem dX10_setShifts_39 : decode cX10_setShifts 39 = .ok (.iconst 0, 1) := by decide +kernel
theorem dX10_setShifts_40 : decode cX10_setShifts 40 = .ok (.iload_n 1, 1) := by decide +kernel
theorem dX10_setShifts_41 : decode cX10_setShifts 41 = .ok (.aload_n 0, 1) := by decide +kernel
theorem dX10_setShifts_42 : decode cX10_setShifts 42 = .ok (.getfield 16, 3) := by decide +kernel
theorem dX10_setShifts_45 : decode cX10_setShifts 45 = .ok (.iconst 2, 1) := by decide +kernel
theorem dX10_setShifts_46 : decode cX10_setShifts 46 = .ok (.iaload, 1) := by decide +kernel
theorem dX10_setShifts_47 : decode cX10_setShifts 47 = .ok (.aload_n 0, 1) := by decide +kernel
theorem dX10_setShifts_48 : decode cX10_setShifts 48 = .ok (.getfield 16, 3) := by decide +kernel
theorem dX10_setShifts_51 : decode cX10_setShifts 51 = .ok (.iconst 1, 1) := by decide +kernel
theorem dX10_setShifts_52 : decode cX10_setShifts 52 = .ok (.iaload, 1) := by decide +kernel
theorem dX10_setShifts_53 : decode cX10_setShifts 53 = .ok (.imul, 1) := by decide +kernel
theorem dX10_setShifts_54 : decode cX10_setShifts 54 = .ok (.idiv, 1) := by decide +kernel
theorem dX10_setShifts_55 : decode cX10_setShifts 55 = .ok (.iastore, 1) := by decide +kernel
theorem dX10_setShifts_56 : decode cX10_setShifts 56 = .ok (.return_, 1) := by decide +kernel
theorem dX10_saveShifts_0 : decode cX10_saveShifts 0 = .ok (.iconst 0, 1) := by decide +kernel
theorem dX10_saveShifts_1 : decode cX10_saveShifts 1 = .ok (.istore_n 1, 1) := by decide +kernel
theorem dX10_saveShifts_2 : decode cX10_saveShifts 2 = .ok (.iload_n 1, 1) := by decide +kernel
theorem dX10_saveShifts_3 : decode cX10_saveShifts 3 = .ok (.iconst 3, 1) := by decide +kernel
theorem dX10_saveShifts_4 : decode cX10_saveShifts 4 = .ok (.if_icmp .ge 21, 3) := by decide +kernel
theorem dX10_saveShifts_7 : decode cX10_saveShifts 7 = .ok (.aload_n 0, 1) := by decide +kernel
theorem dX10_saveShifts_8 : decode cX10_saveShifts 8 = .ok (.getfield 140, 3) := by decide +kernel
theorem dX10_saveShifts_11 : decode cX10_saveShifts 11 = .ok (.iload_n 1, 1) := by decide +kernel
theorem dX10_saveShifts_12 : decode cX10_saveShifts 12 = .ok (.aload_n 0, 1) := by decide +kernel
theorem dX10_saveShifts_13 : decode cX10_saveShifts 13 = .ok (.getfield 59, 3) := by decide +kernel
theorem dX10_saveShifts_16 : decode cX10_saveShifts 16 = .ok (.iload_n 1, 1) := by decide +kernel
theorem dX10_saveShifts_17 : decode cX10_saveShifts 17 = .ok (.iaload, 1) := by decide +kernel
theorem dX10_saveShifts_18 : decode cX10_saveShifts 18 = .ok (.iastore, 1) := by decide +kernel
theorem dX10_saveShifts_19 : decode cX10_saveShifts 19 = .ok (.iinc 1 1, 3) := by decide +kernel
theorem dX10_saveShifts_22 : decode cX10_saveShifts 22 = .ok (.goto (-20), 3) := by decide +kernel
theorem dX10_saveShifts_25 : decode cX10_saveShifts 25 = .ok (.return_, 1) := by decide +kernel
theorem dX10_putBack_0 : decode cX10_putBack 0 = .ok (.iconst 0, 1) := by decide +kernel
theorem dX10_putBack_1 : decode cX10_putBack 1 = .ok (.istore_n 1, 1) := by decide +kernel
theorem dX10_putBack_2 : decode cX10_putBack 2 = .ok (.iload_n 1, 1) := by decide +kernel
theorem dX10_putBack_3 : decode cX10_putBack 3 = .ok (.iconst 3, 1) := by decide +kernel
theorem dX10_putBack_4 : decode cX10_putBack 4 = .ok (.if_icmp .ge 21, 3) := by decide +kernel
theorem dX10_putBack_7 : decode cX10_putBack 7 = .ok (.aload_n 0, 1) := by decide +kernel
theorem dX10_putBack_8 : decode cX10_putBack 8 = .ok (.getfield 59, 3) := by decide +kernel
theorem dX10_putBack_11 : decode cX10_putBack 11 = .ok (.iload_n 1, 1) := by decide +kernel
theorem dX10_putBack_12 : decode cX10_putBack 12 = .ok (.aload_n 0, 1) := by decide +kernel
theorem dX10_putBack_13 : decode cX10_putBack 13 = .ok (.getfield 140, 3) := by decide +kernel
theorem dX10_putBack_16 : decode cX10_putBack 16 = .ok (.iload_n 1, 1) := by decide +kernel
theorem dX10_putBack_17 : decode cX10_putBack 17 = .ok (.iaload, 1) := by decide +kernel
theorem dX10_putBack_18 : decode cX10_putBack 18 = .ok (.iastore, 1) := by decide +kernel
theorem dX10_putBack_19 : decode cX10_putBack 19 = .ok (.iinc 1 1, 3) := by decide +kernel
theorem dX10_putBack_22 : decode cX10_putBack 22 = .ok (.goto (-20), 3) := by decide +kernel
theorem dX10_putBack_25 : decode cX10_putBack 25 = .ok (.return_, 1) := by decide +kernel
theorem dX10_isAsSeen_0 : decode cX10_isAsSeen 0 = .ok (.iconst 1, 1) := by decide +kernel
theorem dX10_isAsSeen_1 : decode cX10_isAsSeen 1 = .ok (.istore_n 1, 1) := by decide +kernel
theorem dX10_isAsSeen_2 : decode cX10_isAsSeen 2 = .ok (.iconst 0, 1) := by decide +kernel
theorem dX10_isAsSeen_3 : decode cX10_isAsSeen 3 = .ok (.istore_n 2, 1) := by decide +kernel
theorem dX10_isAsSeen_4 : decode cX10_isAsSeen 4 = .ok (.iload_n 2, 1) := by decide +kernel
theorem dX10_isAsSeen_5 : decode cX10_isAsSeen 5 = .ok (.aload_n 0, 1) := by decide +kernel
theorem dX10_isAsSeen_6 : decode cX10_isAsSeen 6 = .ok (.getfield 300, 3) := by decide +kernel
theorem dX10_isAsSeen_9 : decode cX10_isAsSeen 9 = .ok (.if_icmp .ge 44, 3) := by decide +kernel
theorem dX10_isAsSeen_12 : decode cX10_isAsSeen 12 = .ok (.iload_n 1, 1) := by decide +kernel
theorem dX10_isAsSeen_13 : decode cX10_isAsSeen 13 = .ok (.ifCond .eq 40, 3) := by decide +kernel
theorem dX10_isAsSeen_16 : decode cX10_isAsSeen 16 = .ok (.aload_n 0, 1) := by decide +kernel
theorem dX10_isAsSeen_17 : decode cX10_isAsSeen 17 = .ok (.aload_n 0, 1) := by decide +kernel
theorem dX10_isAsSeen_18 : decode cX10_isAsSeen 18 = .ok (.getfield 131, 3) := by decide +kernel
theorem dX10_isAsSeen_21 : decode cX10_isAsSeen 21 = .ok (.iload_n 2, 1) := by decide +kernel
theorem dX10_isAsSeen_22 : decode cX10_isAsSeen 22 = .ok (.iaload, 1) := by decide +kernel
theorem dX10_isAsSeen_23 : decode cX10_isAsSeen 23 = .ok (.aload_n 0, 1) := by decide +kernel
theorem dX10_isAsSeen_24 : decode cX10_isAsSeen 24 = .ok (.getfield 134, 3) := by decide +kernel
theorem dX10_isAsSeen_27 : decode cX10_isAsSeen 27 = .ok (.iload_n 2, 1) := by decide +kernel
theorem dX10_isAsSeen_28 : decode cX10_isAsSeen 28 = .ok (.iaload, 1) := by decide +kernel
theorem dX10_isAsSeen_29 : decode cX10_isAsSeen 29 = .ok (.invokevirtual 323, 3) := by decide +kernel
theorem dX10_isAsSeen_32 : decode cX10_isAsSeen 32 = .ok (.aload_n 0, 1) := by decide +kernel
theorem dX10_isAsSeen_33 : decode cX10_isAsSeen 33 = .ok (.getfield 137, 3) := by decide +kernel
theorem dX10_isAsSeen_36 : decode cX10_isAsSeen 36 = .ok (.iload_n 2, 1) := by decide +kernel
theorem dX10_isAsSeen_37 : decode cX10_isAsSeen 37 = .ok (.iaload, 1) := by decide +kernel
theorem dX10_isAsSeen_38 : decode cX10_isAsSeen 38 = .ok (.if_icmp .ne 7, 3) := by decide +kernel
theorem dX10_isAsSeen_41 : decode cX10_isAsSeen 41 = .ok (.iconst 1, 1) := by decide +kernel
theorem dX10_isAsSeen_42 : decode cX10_isAsSeen 42 = .ok (.goto 4, 3) := by decide +kernel
theorem dX10_isAsSeen_45 : decode cX10_isAsSeen 45 = .ok (.iconst 0, 1) := by decide +kernel
theorem dX10_isAsSeen_46 : decode cX10_isAsSeen 46 = .ok (.istore_n 1, 1) := by decide +kernel
theorem dX10_isAsSeen_47 : decode cX10_isAsSeen 47 = .ok (.iinc 2 1, 3) := by decide +kernel
theorem dX10_isAsSeen_50 : decode cX10_isAsSeen 50 = .ok (.goto (-46), 3) := by decide +kernel
theorem dX10_isAsSeen_53 : decode cX10_isAsSeen 53 = .ok (.iload_n 1, 1) := by decide +kernel
theorem dX10_isAsSeen_54 : decode cX10_isAsSeen 54 = .ok (.ireturn, 1) := by decide +kernel
theorem dX10_findFits_0 : decode cX10_findFits 0 = .ok (.aload_n 0, 1) := by decide +kernel
theorem dX10_findFits_1 : decode cX10_findFits 1 = .ok (.invokevirtual 451, 3) := by decide +kernel
theorem dX10_findFits_4 : decode cX10_findFits 4 = .ok (.aload_n 0, 1) := by decide +kernel
theorem dX10_findFits_5 : decode cX10_findFits 5 = .ok (.iconst 0, 1) := by decide +kernel
theorem dX10_findFits_6 : decode cX10_findFits 6 = .ok (.putfield 454, 3) := by decide +kernel
theorem dX10_findFits_9 : decode cX10_findFits 9 = .ok (.aload_n 0, 1) := by decide +kernel
theorem dX10_findFits_10 : decode cX10_findFits 10 = .ok (.getfield 267, 3) := by decide +kernel
theorem dX10_findFits_13 : decode cX10_findFits 13 = .ok (.ifCond .ne 7, 3) := by decide +kernel
theorem dX10_findFits_16 : decode cX10_findFits 16 = .ok (.iconst 1, 1) := by decide +kernel
theorem dX10_findFits_17 : decode cX10_findFits 17 = .ok (.goto 7, 3) := by decide +kernel
theorem dX10_findFits_20 : decode cX10_findFits 20 = .ok (.aload_n 0, 1) := by decide +kernel
theorem dX10_findFits_21 : decode cX10_findFits 21 = .ok (.invokevirtual 457, 3) := by decide +kernel
theorem dX10_findFits_24 : decode cX10_findFits 24 = .ok (.istore_n 1, 1) := by decide +kernel
theorem dX10_findFits_25 : decode cX10_findFits 25 = .ok (.iconst 0, 1) := by decide +kernel
theorem dX10_findFits_26 : decode cX10_findFits 26 = .ok (.istore_n 2, 1) := by decide +kernel
theorem dX10_findFits_27 : decode cX10_findFits 27 = .ok (.iload_n 2, 1) := by decide +kernel
theorem dX10_findFits_28 : decode cX10_findFits 28 = .ok (.iload_n 1, 1) := by decide +kernel
theorem dX10_findFits_29 : decode cX10_findFits 29 = .ok (.if_icmp .ge 48, 3) := by decide +kernel
theorem dX10_findFits_32 : decode cX10_findFits 32 = .ok (.aload_n 0, 1) := by decide +kernel
theorem dX10_findFits_33 : decode cX10_findFits 33 = .ok (.getfield 267, 3) := by decide +kernel
theorem dX10_findFits_36 : decode cX10_findFits 36 = .ok (.ifCond .le 8, 3) := by decide +kernel
theorem dX10_findFits_39 : decode cX10_findFits 39 = .ok (.aload_n 0, 1) := by decide +kernel
theorem dX10_findFits_40 : decode cX10_findFits 40 = .ok (.iload_n 2, 1) := by decide +kernel
theorem dX10_findFits_41 : decode cX10_findFits 41 = .ok (.invokevirtual 460, 3) := by decide +kernel
theorem dX10_findFits_44 : decode cX10_findFits 44 = .ok (.aload_n 0, 1) := by decide +kernel
theorem dX10_findFits_45 : decode cX10_findFits 45 = .ok (.invokevirtual 464, 3) := by decide +kernel
theorem dX10_findFits_48 : decode cX10_findFits 48 = .ok (.ifCond .eq 23, 3) := by decide +kernel
theorem dX10_findFits_51 : decode cX10_findFits 51 = .ok (.aload_n 0, 1) := by decide +kernel
theorem dX10_findFits_52 : decode cX10_findFits 52 = .ok (.getfield 143, 3) := by decide +kernel
theorem dX10_findFits_55 : decode cX10_findFits 55 = .ok (.aload_n 0, 1) := by decide +kernel
theorem dX10_findFits_56 : decode cX10_findFits 56 = .ok (.getfield 454, 3) := by decide +kernel
theorem dX10_findFits_59 : decode cX10_findFits 59 = .ok (.iload_n 2, 1) := by decide +kernel
theorem dX10_findFits_60 : decode cX10_findFits 60 = .ok (.iastore, 1) := by decide +kernel
theorem dX10_findFits_61 : decode cX10_findFits 61 = .ok (.aload_n 0, 1) := by decide +kernel
theorem dX10_findFits_62 : decode cX10_findFits 62 = .ok (.dup, 1) := by decide +kernel
theorem dX10_findFits_63 : decode cX10_findFits 63 = .ok (.getfield 454, 3) := by decide +kernel
theorem dX10_findFits_66 : decode cX10_findFits 66 = .ok (.iconst 1, 1) := by decide +kernel
theorem dX10_findFits_67 : decode cX10_findFits 67 = .ok (.iadd, 1) := by decide +kernel
theorem dX10_findFits_68 : decode cX10_findFits 68 = .ok (.putfield 454, 3) := by decide +kernel
theorem dX10_findFits_71 : decode cX10_findFits 71 = .ok (.iinc 2 1, 3) := by decide +kernel
theorem dX10_findFits_74 : decode cX10_findFits 74 = .ok (.goto (-47), 3) := by decide +kernel
theorem dX10_findFits_77 : decode cX10_findFits 77 = .ok (.aload_n 0, 1) := by decide +kernel
theorem dX10_findFits_78 : decode cX10_findFits 78 = .ok (.invokevirtual 468, 3) := by decide +kernel
theorem dX10_findFits_81 : decode cX10_findFits 81 = .ok (.return_, 1) := by decide +kernel
theorem dX10_fits_0 : decode cX10_fits 0 = .ok (.iload_n 1, 1) := by decide +kernel
theorem dX10_fits_1 : decode cX10_fits 1 = .ok (.iconst (-1), 1) := by decide +kernel
theorem dX10_fits_2 : decode cX10_fits 2 = .ok (.if_icmp .eq 23, 3) := by decide +kernel
theorem dX10_fits_5 : decode cX10_fits 5 = .ok (.iload_n 2, 1) := by decide +kernel
theorem dX10_fits_6 : decode cX10_fits 6 = .ok (.i2l, 1) := by decide +kernel
theorem dX10_fits_7 : decode cX10_fits 7 = .ok (.lconst 0, 1) := by decide +kernel
theorem dX10_fits_8 : decode cX10_fits 8 = .ok (.aload_n 0, 1) := by decide +kernel
theorem dX10_fits_9 : decode cX10_fits 9 = .ok (.getfield 267, 3) := by decide +kernel
theorem dX10_fits_12 : decode cX10_fits 12 = .ok (.iconst 1, 1) := by decide +kernel
theorem dX10_fits_13 : decode cX10_fits 13 = .ok (.isub, 1) := by decide +kernel
theorem dX10_fits_14 : decode cX10_fits 14 = .ok (.i2l, 1) := by decide +kernel
theorem dX10_fits_15 : decode cX10_fits 15 = .ok (.invokestatic 165, 3) := by decide +kernel
theorem dX10_fits_18 : decode cX10_fits 18 = .ok (.ifCond .ne 7, 3) := by decide +kernel
theorem dX10_fits_21 : decode cX10_fits 21 = .ok (.ldc_w 329, 3) := by decide +kernel
theorem dX10_fits_24 : decode cX10_fits 24 = .ok (.ireturn, 1) := by decide +kernel
theorem dX10_fits_25 : decode cX10_fits 25 = .ok (.aload_n 0, 1) := by decide +kernel
theorem dX10_fits_26 : decode cX10_fits 26 = .ok (.invokevirtual 471, 3) := by decide +kernel
theorem dX10_fits_29 : decode cX10_fits 29 = .ok (.iload_n 1, 1) := by decide +kernel
theorem dX10_fits_30 : decode cX10_fits 30 = .ok (.iconst (-1), 1) := by decide +kernel
theorem dX10_fits_31 : decode cX10_fits 31 = .ok (.if_icmp .eq 19, 3) := by decide +kernel
theorem dX10_fits_34 : decode cX10_fits 34 = .ok (.iload_n 1, 1) := by decide +kernel
theorem dX10_fits_35 : decode cX10_fits 35 = .ok (.i2l, 1) := by decide +kernel
theorem dX10_fits_36 : decode cX10_fits 36 = .ok (.lconst 0, 1) := by decide +kernel
theorem dX10_fits_37 : decode cX10_fits 37 = .ok (.aload_n 0, 1) := by decide +kernel
theorem dX10_fits_38 : decode cX10_fits 38 = .ok (.getfield 454, 3) := by decide +kernel
theorem dX10_fits_41 : decode cX10_fits 41 = .ok (.iconst 1, 1) := by decide +kernel
theorem dX10_fits_42 : decode cX10_fits 42 = .ok (.isub, 1) := by decide +kernel
theorem dX10_fits_43 : decode cX10_fits 43 = .ok (.i2l, 1) := by decide +kernel
theorem dX10_fits_44 : decode cX10_fits 44 = .ok (.invokestatic 165, 3) := by decide +kernel
theorem dX10_fits_47 : decode cX10_fits 47 = .ok (.ifCond .ne 17, 3) := by decide +kernel
theorem dX10_fits_50 : decode cX10_fits 50 = .ok (.iload_n 1, 1) := by decide +kernel
theorem dX10_fits_51 : decode cX10_fits 51 = .ok (.iconst (-1), 1) := by decide +kernel
theorem dX10_fits_52 : decode cX10_fits 52 = .ok (.if_icmp .ne 10, 3) := by decide +kernel
theorem dX10_fits_55 : decode cX10_fits 55 = .ok (.aload_n 0, 1) := by decide +kernel
theorem dX10_fits_56 : decode cX10_fits 56 = .ok (.getfield 454, 3) := by decide +kernel
theorem dX10_fits_59 : decode cX10_fits 59 = .ok (.goto 4, 3) := by decide +kernel
theorem dX10_fits_62 : decode cX10_fits 62 = .ok (.iconst (-1), 1) := by decide +kernel
theorem dX10_fits_63 : decode cX10_fits 63 = .ok (.ireturn, 1) := by decide +kernel
theorem dX10_fits_64 : decode cX10_fits 64 = .ok (.aload_n 0, 1) := by decide +kernel
theorem dX10_fits_65 : decode cX10_fits 65 = .ok (.invokevirtual 451, 3) := by decide +kernel
theorem dX10_fits_68 : decode cX10_fits 68 = .ok (.aload_n 0, 1) := by decide +kernel
theorem dX10_fits_69 : decode cX10_fits 69 = .ok (.aload_n 0, 1) := by decide +kernel
theorem dX10_fits_70 : decode cX10_fits 70 = .ok (.getfield 143, 3) := by decide +kernel
theorem dX10_fits_73 : decode cX10_fits 73 = .ok (.iload_n 1, 1) := by decide +kernel
theorem dX10_fits_74 : decode cX10_fits 74 = .ok (.iaload, 1) := by decide +kernel
theorem dX10_fits_75 : decode cX10_fits 75 = .ok (.invokevirtual 460, 3) := by decide +kernel
theorem dX10_fits_78 : decode cX10_fits 78 = .ok (.aload_n 0, 1) := by decide +kernel
theorem dX10_fits_79 : decode cX10_fits 79 = .ok (.getfield 59, 3) := by decide +kernel
theorem dX10_fits_82 : decode cX10_fits 82 = .ok (.iload_n 2, 1) := by decide +kernel
theorem dX10_fits_83 : decode cX10_fits 83 = .ok (.iaload, 1) := by decide +kernel
theorem dX10_fits_84 : decode cX10_fits 84 = .ok (.istore_n 3, 1) := by decide +kernel
theorem dX10_fits_85 : decode cX10_fits 85 = .ok (.aload_n 0, 1) := by decide +kernel
theorem dX10_fits_86 : decode cX10_fits 86 = .ok (.invokevirtual 468, 3) := by decide +kernel
theorem dX10_fits_89 : decode cX10_fits 89 = .ok (.iload_n 3, 1) := by decide +kernel
theorem dX10_fits_90 : decode cX10_fits 90 = .ok (.ireturn, 1) := by decide +kernel
theorem dX10_worstAt_0 : decode cX10_worstAt 0 = .ok (.aload_n 0, 1) := by decide +kernel
theorem dX10_worstAt_1 : decode cX10_worstAt 1 = .ok (.iload_n 1, 1) := by decide +kernel
theorem dX10_worstAt_2 : decode cX10_worstAt 2 = .ok (.invokevirtual 313, 3) := by decide +kernel
theorem dX10_worstAt_5 : decode cX10_worstAt 5 = .ok (.ifCond .ne 8, 3) := by decide +kernel
theorem dX10_worstAt_8 : decode cX10_worstAt 8 = .ok (.aload_n 0, 1) := by decide +kernel
theorem dX10_worstAt_9 : decode cX10_worstAt 9 = .ok (.getfield 454, 3) := by decide +kernel
theorem dX10_worstAt_12 : decode cX10_worstAt 12 = .ok (.ireturn, 1) := by decide +kernel
theorem dX10_worstAt_13 : decode cX10_worstAt 13 = .ok (.iconst 0, 1) := by decide +kernel
theorem dX10_worstAt_14 : decode cX10_worstAt 14 = .ok (.istore_n 3, 1) := by decide +kernel
theorem dX10_worstAt_15 : decode cX10_worstAt 15 = .ok (.iload_n 3, 1) := by decide +kernel
theorem dX10_worstAt_16 : decode cX10_worstAt 16 = .ok (.bipush 64, 2) := by decide +kernel
theorem dX10_worstAt_18 : decode cX10_worstAt 18 = .ok (.if_icmp .ge 16, 3) := by decide +kernel
theorem dX10_worstAt_21 : decode cX10_worstAt 21 = .ok (.aload_n 0, 1) := by decide +kernel
theorem dX10_worstAt_22 : decode cX10_worstAt 22 = .ok (.getfield 146, 3) := by decide +kernel
theorem dX10_worstAt_25 : decode cX10_worstAt 25 = .ok (.iload_n 3, 1) := by decide +kernel
theorem dX10_worstAt_26 : decode cX10_worstAt 26 = .ok (.iconst 0, 1) := by decide +kernel
theorem dX10_worstAt_27 : decode cX10_worstAt 27 = .ok (.iastore, 1) := by decide +kernel
theorem dX10_worstAt_28 : decode cX10_worstAt 28 = .ok (.iinc 3 1, 3) := by decide +kernel
theorem dX10_worstAt_31 : decode cX10_worstAt 31 = .ok (.goto (-16), 3) := by decide +kernel
theorem dX10_worstAt_34 : decode cX10_worstAt 34 = .ok (.iconst 0, 1) := by decide +kernel
theorem dX10_worstAt_35 : decode cX10_worstAt 35 = .ok (.istore_n 3, 1) := by decide +kernel
theorem dX10_worstAt_36 : decode cX10_worstAt 36 = .ok (.iconst 0, 1) := by decide +kernel
theorem dX10_worstAt_37 : decode cX10_worstAt 37 = .ok (.istore 4, 2) := by decide +kernel
theorem dX10_worstAt_39 : decode cX10_worstAt 39 = .ok (.iload 4, 2) := by decide +kernel
theorem dX10_worstAt_41 : decode cX10_worstAt 41 = .ok (.aload_n 0, 1) := by decide +kernel
theorem dX10_worstAt_42 : decode cX10_worstAt 42 = .ok (.getfield 454, 3) := by decide +kernel
theorem dX10_worstAt_45 : decode cX10_worstAt 45 = .ok (.if_icmp .ge 65, 3) := by decide +kernel
theorem dX10_worstAt_48 : decode cX10_worstAt 48 = .ok (.aload_n 0, 1) := by decide +kernel
theorem dX10_worstAt_49 : decode cX10_worstAt 49 = .ok (.aload_n 0, 1) := by decide +kernel
theorem dX10_worstAt_50 : decode cX10_worstAt 50 = .ok (.getfield 143, 3) := by decide +kernel
theorem dX10_worstAt_53 : decode cX10_worstAt 53 = .ok (.iload 4, 2) := by decide +kernel
theorem dX10_worstAt_55 : decode cX10_worstAt 55 = .ok (.iaload, 1) := by decide +kernel
theorem dX10_worstAt_56 : decode cX10_worstAt 56 = .ok (.invokevirtual 460, 3) := by decide +kernel
theorem dX10_worstAt_59 : decode cX10_worstAt 59 = .ok (.aload_n 0, 1) := by decide +kernel
theorem dX10_worstAt_60 : decode cX10_worstAt 60 = .ok (.iload_n 1, 1) := by decide +kernel
theorem dX10_worstAt_61 : decode cX10_worstAt 61 = .ok (.iload_n 2, 1) := by decide +kernel
theorem dX10_worstAt_62 : decode cX10_worstAt 62 = .ok (.invokevirtual 317, 3) := by decide +kernel
theorem dX10_worstAt_65 : decode cX10_worstAt 65 = .ok (.bipush 30, 2) := by decide +kernel
theorem dX10_worstAt_67 : decode cX10_worstAt 67 = .ok (.iadd, 1) := by decide +kernel
theorem dX10_worstAt_68 : decode cX10_worstAt 68 = .ok (.istore 5, 2) := by decide +kernel
theorem dX10_worstAt_70 : decode cX10_worstAt 70 = .ok (.aload_n 0, 1) := by decide +kernel
theorem dX10_worstAt_71 : decode cX10_worstAt 71 = .ok (.getfield 146, 3) := by decide +kernel
theorem dX10_worstAt_74 : decode cX10_worstAt 74 = .ok (.iload 5, 2) := by decide +kernel
theorem dX10_worstAt_76 : decode cX10_worstAt 76 = .ok (.dup2, 1) := by decide +kernel
theorem dX10_worstAt_77 : decode cX10_worstAt 77 = .ok (.iaload, 1) := by decide +kernel
theorem dX10_worstAt_78 : decode cX10_worstAt 78 = .ok (.iconst 1, 1) := by decide +kernel
theorem dX10_worstAt_79 : decode cX10_worstAt 79 = .ok (.iadd, 1) := by decide +kernel
theorem dX10_worstAt_80 : decode cX10_worstAt 80 = .ok (.iastore, 1) := by decide +kernel
theorem dX10_worstAt_81 : decode cX10_worstAt 81 = .ok (.aload_n 0, 1) := by decide +kernel
theorem dX10_worstAt_82 : decode cX10_worstAt 82 = .ok (.getfield 146, 3) := by decide +kernel
theorem dX10_worstAt_85 : decode cX10_worstAt 85 = .ok (.iload 5, 2) := by decide +kernel
theorem dX10_worstAt_87 : decode cX10_worstAt 87 = .ok (.iaload, 1) := by decide +kernel
theorem dX10_worstAt_88 : decode cX10_worstAt 88 = .ok (.iload_n 3, 1) := by decide +kernel
theorem dX10_worstAt_89 : decode cX10_worstAt 89 = .ok (.if_icmp .le 13, 3) := by decide +kernel
theorem dX10_worstAt_92 : decode cX10_worstAt 92 = .ok (.aload_n 0, 1) := by decide +kernel
theorem dX10_worstAt_93 : decode cX10_worstAt 93 = .ok (.getfield 146, 3) := by decide +kernel
theorem dX10_worstAt_96 : decode cX10_worstAt 96 = .ok (.iload 5, 2) := by decide +kernel
theorem dX10_worstAt_98 : decode cX10_worstAt 98 = .ok (.iaload, 1) := by decide +kernel
theorem dX10_worstAt_99 : decode cX10_worstAt 99 = .ok (.goto 4, 3) := by decide +kernel
theorem dX10_worstAt_102 : decode cX10_worstAt 102 = .ok (.iload_n 3, 1) := by decide +kernel
theorem dX10_worstAt_103 : decode cX10_worstAt 103 = .ok (.istore_n 3, 1) := by decide +kernel
theorem dX10_worstAt_104 : decode cX10_worstAt 104 = .ok (.iinc 4 1, 3) := by decide +kernel
theorem dX10_worstAt_107 : decode cX10_worstAt 107 = .ok (.goto (-68), 3) := by decide +kernel
theorem dX10_worstAt_110 : decode cX10_worstAt 110 = .ok (.iload_n 3, 1) := by decide +kernel
theorem dX10_worstAt_111 : decode cX10_worstAt 111 = .ok (.ireturn, 1) := by decide +kernel
theorem dX10_look_0 : decode cX10_look 0 = .ok (.iload_n 1, 1) := by decide +kernel
theorem dX10_look_1 : decode cX10_look 1 = .ok (.i2l, 1) := by decide +kernel
theorem dX10_look_2 : decode cX10_look 2 = .ok (.lconst 0, 1) := by decide +kernel
theorem dX10_look_3 : decode cX10_look 3 = .ok (.ldc2_w 440, 3) := by decide +kernel
theorem dX10_look_6 : decode cX10_look 6 = .ok (.invokestatic 165, 3) := by decide +kernel
theorem dX10_look_9 : decode cX10_look 9 = .ok (.ifCond .ne 6, 3) := by decide +kernel
theorem dX10_look_12 : decode cX10_look 12 = .ok (.ldc 175, 2) := by decide +kernel
theorem dX10_look_14 : decode cX10_look 14 = .ok (.ireturn, 1) := by decide +kernel
theorem dX10_look_15 : decode cX10_look 15 = .ok (.aload_n 0, 1) := by decide +kernel
theorem dX10_look_16 : decode cX10_look 16 = .ok (.invokevirtual 471, 3) := by decide +kernel
theorem dX10_look_19 : decode cX10_look 19 = .ok (.iconst (-1), 1) := by decide +kernel
theorem dX10_look_20 : decode cX10_look 20 = .ok (.istore_n 2, 1) := by decide +kernel
theorem dX10_look_21 : decode cX10_look 21 = .ok (.aload_n 0, 1) := by decide +kernel
theorem dX10_look_22 : decode cX10_look 22 = .ok (.getfield 454, 3) := by decide +kernel
theorem dX10_look_25 : decode cX10_look 25 = .ok (.istore_n 3, 1) := by decide +kernel
theorem dX10_look_26 : decode cX10_look 26 = .ok (.aload_n 0, 1) := by decide +kernel
theorem dX10_look_27 : decode cX10_look 27 = .ok (.invokevirtual 451, 3) := by decide +kernel
theorem dX10_look_30 : decode cX10_look 30 = .ok (.iconst 0, 1) := by decide +kernel
theorem dX10_look_31 : decode cX10_look 31 = .ok (.istore 4, 2) := by decide +kernel
theorem dX10_look_33 : decode cX10_look 33 = .ok (.iload 4, 2) := by decide +kernel
theorem dX10_look_35 : decode cX10_look 35 = .ok (.bipush 12, 2) := by decide +kernel
theorem dX10_look_37 : decode cX10_look 37 = .ok (.if_icmp .ge 77, 3) := by decide +kernel
theorem dX10_look_40 : decode cX10_look 40 = .ok (.aload_n 0, 1) := by decide +kernel
theorem dX10_look_41 : decode cX10_look 41 = .ok (.getfield 454, 3) := by decide +kernel
theorem dX10_look_44 : decode cX10_look 44 = .ok (.iconst 1, 1) := by decide +kernel
theorem dX10_look_45 : decode cX10_look 45 = .ok (.if_icmp .le 69, 3) := by decide +kernel
theorem dX10_look_48 : decode cX10_look 48 = .ok (.iconst 0, 1) := by decide +kernel
theorem dX10_look_49 : decode cX10_look 49 = .ok (.istore 5, 2) := by decide +kernel
theorem dX10_look_51 : decode cX10_look 51 = .ok (.iload 5, 2) := by decide +kernel
theorem dX10_look_53 : decode cX10_look 53 = .ok (.aload_n 0, 1) := by decide +kernel
theorem dX10_look_54 : decode cX10_look 54 = .ok (.invokevirtual 306, 3) := by decide +kernel
theorem dX10_look_57 : decode cX10_look 57 = .ok (.if_icmp .ge 51, 3) := by decide +kernel
theorem dX10_look_60 : decode cX10_look 60 = .ok (.aload_n 0, 1) := by decide +kernel
theorem dX10_look_61 : decode cX10_look 61 = .ok (.iload 5, 2) := by decide +kernel
theorem dX10_look_63 : decode cX10_look 63 = .ok (.iload 4, 2) := by decide +kernel
theorem dX10_look_65 : decode cX10_look 65 = .ok (.invokevirtual 474, 3) := by decide +kernel
theorem dX10_look_68 : decode cX10_look 68 = .ok (.istore 6, 2) := by decide +kernel
theorem dX10_look_70 : decode cX10_look 70 = .ok (.iload 6, 2) := by decide +kernel
theorem dX10_look_72 : decode cX10_look 72 = .ok (.iload_n 3, 1) := by decide +kernel
theorem dX10_look_73 : decode cX10_look 73 = .ok (.if_icmp .ge 14, 3) := by decide +kernel
theorem dX10_look_76 : decode cX10_look 76 = .ok (.bipush 24, 2) := by decide +kernel
theorem dX10_look_78 : decode cX10_look 78 = .ok (.iload 4, 2) := by decide +kernel
theorem dX10_look_80 : decode cX10_look 80 = .ok (.imul, 1) := by decide +kernel
theorem dX10_look_81 : decode cX10_look 81 = .ok (.iload 5, 2) := by decide +kernel
theorem dX10_look_83 : decode cX10_look 83 = .ok (.iadd, 1) := by decide +kernel
theorem dX10_look_84 : decode cX10_look 84 = .ok (.goto 4, 3) := by decide +kernel
theorem dX10_look_87 : decode cX10_look 87 = .ok (.iload_n 2, 1) := by decide +kernel
theorem dX10_look_88 : decode cX10_look 88 = .ok (.istore_n 2, 1) := by decide +kernel
theorem dX10_look_89 : decode cX10_look 89 = .ok (.iload 6, 2) := by decide +kernel
theorem dX10_look_91 : decode cX10_look 91 = .ok (.iload_n 3, 1) := by decide +kernel
theorem dX10_look_92 : decode cX10_look 92 = .ok (.if_icmp .ge 8, 3) := by decide +kernel
theorem dX10_look_95 : decode cX10_look 95 = .ok (.iload 6, 2) := by decide +kernel
theorem dX10_look_97 : decode cX10_look 97 = .ok (.goto 4, 3) := by decide +kernel
theorem dX10_look_100 : decode cX10_look 100 = .ok (.iload_n 3, 1) := by decide +kernel
theorem dX10_look_101 : decode cX10_look 101 = .ok (.istore_n 3, 1) := by decide +kernel
theorem dX10_look_102 : decode cX10_look 102 = .ok (.iinc 5 1, 3) := by decide +kernel
theorem dX10_look_105 : decode cX10_look 105 = .ok (.goto (-54), 3) := by decide +kernel
theorem dX10_look_108 : decode cX10_look 108 = .ok (.iinc 4 1, 3) := by decide +kernel
theorem dX10_look_111 : decode cX10_look 111 = .ok (.goto (-78), 3) := by decide +kernel
theorem dX10_look_114 : decode cX10_look 114 = .ok (.aload_n 0, 1) := by decide +kernel
theorem dX10_look_115 : decode cX10_look 115 = .ok (.invokevirtual 468, 3) := by decide +kernel
theorem dX10_look_118 : decode cX10_look 118 = .ok (.iload_n 2, 1) := by decide +kernel
theorem dX10_look_119 : decode cX10_look 119 = .ok (.ifCond .ge 7, 3) := by decide +kernel
theorem dX10_look_122 : decode cX10_look 122 = .ok (.iconst (-1), 1) := by decide +kernel
theorem dX10_look_123 : decode cX10_look 123 = .ok (.goto 31, 3) := by decide +kernel
theorem dX10_look_126 : decode cX10_look 126 = .ok (.iload_n 1, 1) := by decide +kernel
theorem dX10_look_127 : decode cX10_look 127 = .ok (.ifCond .ne 14, 3) := by decide +kernel
theorem dX10_look_130 : decode cX10_look 130 = .ok (.aload_n 0, 1) := by decide +kernel
theorem dX10_look_131 : decode cX10_look 131 = .ok (.iload_n 2, 1) := by decide +kernel
theorem dX10_look_132 : decode cX10_look 132 = .ok (.bipush 24, 2) := by decide +kernel
theorem dX10_look_134 : decode cX10_look 134 = .ok (.irem, 1) := by decide +kernel
theorem dX10_look_135 : decode cX10_look 135 = .ok (.invokevirtual 326, 3) := by decide +kernel
theorem dX10_look_138 : decode cX10_look 138 = .ok (.goto 16, 3) := by decide +kernel
theorem dX10_look_141 : decode cX10_look 141 = .ok (.iload_n 1, 1) := by decide +kernel
theorem dX10_look_142 : decode cX10_look 142 = .ok (.iconst 1, 1) := by decide +kernel
theorem dX10_look_143 : decode cX10_look 143 = .ok (.if_icmp .ne 10, 3) := by decide +kernel
theorem dX10_look_146 : decode cX10_look 146 = .ok (.iload_n 2, 1) := by decide +kernel
theorem dX10_look_147 : decode cX10_look 147 = .ok (.bipush 24, 2) := by decide +kernel
theorem dX10_look_149 : decode cX10_look 149 = .ok (.idiv, 1) := by decide +kernel
theorem dX10_look_150 : decode cX10_look 150 = .ok (.goto 4, 3) := by decide +kernel
theorem dX10_look_153 : decode cX10_look 153 = .ok (.iload_n 3, 1) := by decide +kernel
theorem dX10_look_154 : decode cX10_look 154 = .ok (.ireturn, 1) := by decide +kernel
theorem dX10_odds_0 : decode cX10_odds 0 = .ok (.iload_n 1, 1) := by decide +kernel
theorem dX10_odds_1 : decode cX10_odds 1 = .ok (.i2l, 1) := by decide +kernel
theorem dX10_odds_2 : decode cX10_odds 2 = .ok (.lconst 0, 1) := by decide +kernel
theorem dX10_odds_3 : decode cX10_odds 3 = .ok (.aload_n 0, 1) := by decide +kernel
theorem dX10_odds_4 : decode cX10_odds 4 = .ok (.getfield 267, 3) := by decide +kernel
theorem dX10_odds_7 : decode cX10_odds 7 = .ok (.iconst 1, 1) := by decide +kernel
theorem dX10_odds_8 : decode cX10_odds 8 = .ok (.isub, 1) := by decide +kernel
theorem dX10_odds_9 : decode cX10_odds 9 = .ok (.i2l, 1) := by decide +kernel
theorem dX10_odds_10 : decode cX10_odds 10 = .ok (.invokestatic 165, 3) := by decide +kernel
theorem dX10_odds_13 : decode cX10_odds 13 = .ok (.ifCond .eq 13, 3) := by decide +kernel
theorem dX10_odds_16 : decode cX10_odds 16 = .ok (.aload_n 0, 1) := by decide +kernel
theorem dX10_odds_17 : decode cX10_odds 17 = .ok (.iload_n 3, 1) := by decide +kernel
theorem dX10_odds_18 : decode cX10_odds 18 = .ok (.iload 4, 2) := by decide +kernel
theorem dX10_odds_20 : decode cX10_odds 20 = .ok (.invokevirtual 169, 3) := by decide +kernel
theorem dX10_odds_23 : decode cX10_odds 23 = .ok (.ifCond .ne 7, 3) := by decide +kernel
theorem dX10_odds_26 : decode cX10_odds 26 = .ok (.ldc_w 329, 3) := by decide +kernel
theorem dX10_odds_29 : decode cX10_odds 29 = .ok (.ireturn, 1) := by decide +kernel
theorem dX10_odds_30 : decode cX10_odds 30 = .ok (.iload_n 2, 1) := by decide +kernel
theorem dX10_odds_31 : decode cX10_odds 31 = .ok (.i2l, 1) := by decide +kernel
theorem dX10_odds_32 : decode cX10_odds 32 = .ok (.lconst 0, 1) := by decide +kernel
theorem dX10_odds_33 : decode cX10_odds 33 = .ok (.ldc2_w 477, 3) := by decide +kernel
theorem dX10_odds_36 : decode cX10_odds 36 = .ok (.invokestatic 165, 3) := by decide +kernel
theorem dX10_odds_39 : decode cX10_odds 39 = .ok (.ifCond .eq 24, 3) := by decide +kernel
theorem dX10_odds_42 : decode cX10_odds 42 = .ok (.iload 5, 2) := by decide +kernel
theorem dX10_odds_44 : decode cX10_odds 44 = .ok (.i2l, 1) := by decide +kernel
theorem dX10_odds_45 : decode cX10_odds 45 = .ok (.lconst 0, 1) := by decide +kernel
theorem dX10_odds_46 : decode cX10_odds 46 = .ok (.ldc2_w 374, 3) := by decide +kernel
theorem dX10_odds_49 : decode cX10_odds 49 = .ok (.invokestatic 165, 3) := by decide +kernel
theorem dX10_odds_52 : decode cX10_odds 52 = .ok (.ifCond .eq 11, 3) := by decide +kernel
theorem dX10_odds_55 : decode cX10_odds 55 = .ok (.iload 6, 2) := by decide +kernel
theorem dX10_odds_57 : decode cX10_odds 57 = .ok (.invokestatic 397, 3) := by decide +kernel
theorem dX10_odds_60 : decode cX10_odds 60 = .ok (.ifCond .ne 6, 3) := by decide +kernel
theorem dX10_odds_63 : decode cX10_odds 63 = .ok (.ldc 175, 2) := by decide +kernel
theorem dX10_odds_65 : decode cX10_odds 65 = .ok (.ireturn, 1) := by decide +kernel
theorem dX10_odds_66 : decode cX10_odds 66 = .ok (.aload_n 0, 1) := by decide +kernel
theorem dX10_odds_67 : decode cX10_odds 67 = .ok (.getfield 159, 3) := by decide +kernel
theorem dX10_odds_70 : decode cX10_odds 70 = .ok (.iload 4, 2) := by decide +kernel
theorem dX10_odds_72 : decode cX10_odds 72 = .ok (.imul, 1) := by decide +kernel
theorem dX10_odds_73 : decode cX10_odds 73 = .ok (.iload_n 3, 1) := by decide +kernel
theorem dX10_odds_74 : decode cX10_odds 74 = .ok (.iadd, 1) := by decide +kernel
theorem dX10_odds_75 : decode cX10_odds 75 = .ok (.istore 7, 2) := by decide +kernel
theorem dX10_odds_77 : decode cX10_odds 77 = .ok (.aload_n 0, 1) := by decide +kernel
theorem dX10_odds_78 : decode cX10_odds 78 = .ok (.iload 7, 2) := by decide +kernel
theorem dX10_odds_80 : decode cX10_odds 80 = .ok (.iload 6, 2) := by decide +kernel
theorem dX10_odds_82 : decode cX10_odds 82 = .ok (.invokevirtual 330, 3) := by decide +kernel
theorem dX10_odds_85 : decode cX10_odds 85 = .ok (.iload 5, 2) := by decide +kernel
theorem dX10_odds_87 : decode cX10_odds 87 = .ok (.if_icmp .le 7, 3) := by decide +kernel
theorem dX10_odds_90 : decode cX10_odds 90 = .ok (.iconst 1, 1) := by decide +kernel
theorem dX10_odds_91 : decode cX10_odds 91 = .ok (.goto 4, 3) := by decide +kernel
theorem dX10_odds_94 : decode cX10_odds 94 = .ok (.iconst 0, 1) := by decide +kernel
theorem dX10_odds_95 : decode cX10_odds 95 = .ok (.istore 8, 2) := by decide +kernel
theorem dX10_odds_97 : decode cX10_odds 97 = .ok (.aload_n 0, 1) := by decide +kernel
theorem dX10_odds_98 : decode cX10_odds 98 = .ok (.iload_n 1, 1) := by decide +kernel
theorem dX10_odds_99 : decode cX10_odds 99 = .ok (.putfield 125, 3) := by decide +kernel
theorem dX10_odds_102 : decode cX10_odds 102 = .ok (.aload_n 0, 1) := by decide +kernel
theorem dX10_odds_103 : decode cX10_odds 103 = .ok (.iload 7, 2) := by decide +kernel
theorem dX10_odds_105 : decode cX10_odds 105 = .ok (.iload 6, 2) := by decide +kernel
theorem dX10_odds_107 : decode cX10_odds 107 = .ok (.invokevirtual 330, 3) := by decide +kernel
theorem dX10_odds_110 : decode cX10_odds 110 = .ok (.iload 5, 2) := by decide +kernel
theorem dX10_odds_112 : decode cX10_odds 112 = .ok (.if_icmp .le 7, 3) := by decide +kernel
theorem dX10_odds_115 : decode cX10_odds 115 = .ok (.iconst 1, 1) := by decide +kernel
theorem dX10_odds_116 : decode cX10_odds 116 = .ok (.goto 4, 3) := by decide +kernel
theorem dX10_odds_119 : decode cX10_odds 119 = .ok (.iconst 0, 1) := by decide +kernel
theorem dX10_odds_120 : decode cX10_odds 120 = .ok (.istore 9, 2) := by decide +kernel
theorem dX10_odds_122 : decode cX10_odds 122 = .ok (.aload_n 0, 1) := by decide +kernel
theorem dX10_odds_123 : decode cX10_odds 123 = .ok (.iconst (-1), 1) := by decide +kernel
theorem dX10_odds_124 : decode cX10_odds 124 = .ok (.putfield 125, 3) := by decide +kernel
theorem dX10_odds_127 : decode cX10_odds 127 = .ok (.ldc_w 479, 3) := by decide +kernel
theorem dX10_odds_130 : decode cX10_odds 130 = .ok (.iload_n 2, 1) := by decide +kernel
theorem dX10_odds_131 : decode cX10_odds 131 = .ok (.imul, 1) := by decide +kernel
theorem dX10_odds_132 : decode cX10_odds 132 = .ok (.istore 10, 2) := by decide +kernel
theorem dX10_odds_134 : decode cX10_odds 134 = .ok (.iload 8, 2) := by decide +kernel
theorem dX10_odds_136 : decode cX10_odds 136 = .ok (.ifCond .eq 8, 3) := by decide +kernel
theorem dX10_odds_139 : decode cX10_odds 139 = .ok (.iload 10, 2) := by decide +kernel
theorem dX10_odds_141 : decode cX10_odds 141 = .ok (.goto 4, 3) := by decide +kernel
theorem dX10_odds_144 : decode cX10_odds 144 = .ok (.iconst 0, 1) := by decide +kernel
theorem dX10_odds_145 : decode cX10_odds 145 = .ok (.iload 9, 2) := by decide +kernel
theorem dX10_odds_147 : decode cX10_odds 147 = .ok (.ifCond .eq 12, 3) := by decide +kernel
theorem dX10_odds_150 : decode cX10_odds 150 = .ok (.ldc_w 392, 3) := by decide +kernel
theorem dX10_odds_153 : decode cX10_odds 153 = .ok (.iload 10, 2) := by decide +kernel
theorem dX10_odds_155 : decode cX10_odds 155 = .ok (.isub, 1) := by decide +kernel
theorem dX10_odds_156 : decode cX10_odds 156 = .ok (.goto 4, 3) := by decide +kernel
theorem dX10_odds_159 : decode cX10_odds 159 = .ok (.iconst 0, 1) := by decide +kernel
theorem dX10_odds_160 : decode cX10_odds 160 = .ok (.iadd, 1) := by decide +kernel
theorem dX10_odds_161 : decode cX10_odds 161 = .ok (.ireturn, 1) := by decide +kernel
theorem dX10_write_0 : decode cX10_write 0 = .ok (.iload_n 1, 1) := by decide +kernel
theorem dX10_write_1 : decode cX10_write 1 = .ok (.i2l, 1) := by decide +kernel
theorem dX10_write_2 : decode cX10_write 2 = .ok (.lconst 0, 1) := by decide +kernel
theorem dX10_write_3 : decode cX10_write 3 = .ok (.ldc2_w 361, 3) := by decide +kernel
theorem dX10_write_6 : decode cX10_write 6 = .ok (.invokestatic 165, 3) := by decide +kernel
theorem dX10_write_9 : decode cX10_write 9 = .ok (.ifCond .ne 6, 3) := by decide +kernel
theorem dX10_write_12 : decode cX10_write 12 = .ok (.ldc 175, 2) := by decide +kernel
theorem dX10_write_14 : decode cX10_write 14 = .ok (.ireturn, 1) := by decide +kernel
theorem dX10_write_15 : decode cX10_write 15 = .ok (.aload_n 0, 1) := by decide +kernel
theorem dX10_write_16 : decode cX10_write 16 = .ok (.getfield 303, 3) := by decide +kernel
theorem dX10_write_19 : decode cX10_write 19 = .ok (.bipush 30, 2) := by decide +kernel
theorem dX10_write_21 : decode cX10_write 21 = .ok (.if_icmp .ne 6, 3) := by decide +kernel
theorem dX10_write_24 : decode cX10_write 24 = .ok (.ldc 179, 2) := by decide +kernel
theorem dX10_write_26 : decode cX10_write 26 = .ok (.ireturn, 1) := by decide +kernel
theorem dX10_write_27 : decode cX10_write 27 = .ok (.aload_n 0, 1) := by decide +kernel
theorem dX10_write_28 : decode cX10_write 28 = .ok (.getfield 149, 3) := by decide +kernel
theorem dX10_write_31 : decode cX10_write 31 = .ok (.aload_n 0, 1) := by decide +kernel
theorem dX10_write_32 : decode cX10_write 32 = .ok (.getfield 303, 3) := by decide +kernel
theorem dX10_write_35 : decode cX10_write 35 = .ok (.iload_n 1, 1) := by decide +kernel
theorem dX10_write_36 : decode cX10_write 36 = .ok (.iastore, 1) := by decide +kernel
theorem dX10_write_37 : decode cX10_write 37 = .ok (.aload_n 0, 1) := by decide +kernel
theorem dX10_write_38 : decode cX10_write 38 = .ok (.dup, 1) := by decide +kernel
theorem dX10_write_39 : decode cX10_write 39 = .ok (.getfield 303, 3) := by decide +kernel
theorem dX10_write_42 : decode cX10_write 42 = .ok (.iconst 1, 1) := by decide +kernel
theorem dX10_write_43 : decode cX10_write 43 = .ok (.iadd, 1) := by decide +kernel
theorem dX10_write_44 : decode cX10_write 44 = .ok (.putfield 303, 3) := by decide +kernel
theorem dX10_write_47 : decode cX10_write 47 = .ok (.aload_n 0, 1) := by decide +kernel
theorem dX10_write_48 : decode cX10_write 48 = .ok (.getfield 303, 3) := by decide +kernel
theorem dX10_write_51 : decode cX10_write 51 = .ok (.ireturn, 1) := by decide +kernel
theorem dX10_tear_0 : decode cX10_tear 0 = .ok (.aload_n 0, 1) := by decide +kernel
theorem dX10_tear_1 : decode cX10_tear 1 = .ok (.getfield 303, 3) := by decide +kernel
theorem dX10_tear_4 : decode cX10_tear 4 = .ok (.aload_n 0, 1) := by decide +kernel
theorem dX10_tear_5 : decode cX10_tear 5 = .ok (.getfield 300, 3) := by decide +kernel
theorem dX10_tear_8 : decode cX10_tear 8 = .ok (.iadd, 1) := by decide +kernel
theorem dX10_tear_9 : decode cX10_tear 9 = .ok (.istore_n 1, 1) := by decide +kernel
theorem dX10_tear_10 : decode cX10_tear 10 = .ok (.aload_n 0, 1) := by decide +kernel
theorem dX10_tear_11 : decode cX10_tear 11 = .ok (.iconst 0, 1) := by decide +kernel
theorem dX10_tear_12 : decode cX10_tear 12 = .ok (.putfield 303, 3) := by decide +kernel
theorem dX10_tear_15 : decode cX10_tear 15 = .ok (.aload_n 0, 1) := by decide +kernel
theorem dX10_tear_16 : decode cX10_tear 16 = .ok (.iconst 0, 1) := by decide +kernel
theorem dX10_tear_17 : decode cX10_tear 17 = .ok (.putfield 300, 3) := by decide +kernel
theorem dX10_tear_20 : decode cX10_tear 20 = .ok (.iload_n 1, 1) := by decide +kernel
theorem dX10_tear_21 : decode cX10_tear 21 = .ok (.ireturn, 1) := by decide +kernel
theorem dX10_judge_0 : decode cX10_judge 0 = .ok (.iload_n 1, 1) := by decide +kernel
theorem dX10_judge_1 : decode cX10_judge 1 = .ok (.i2l, 1) := by decide +kernel
theorem dX10_judge_2 : decode cX10_judge 2 = .ok (.lconst 0, 1) := by decide +kernel
theorem dX10_judge_3 : decode cX10_judge 3 = .ok (.lconst 1, 1) := by decide +kernel
theorem dX10_judge_4 : decode cX10_judge 4 = .ok (.invokestatic 165, 3) := by decide +kernel
theorem dX10_judge_7 : decode cX10_judge 7 = .ok (.ifCond .ne 6, 3) := by decide +kernel
theorem dX10_judge_10 : decode cX10_judge 10 = .ok (.ldc 175, 2) := by decide +kernel
theorem dX10_judge_12 : decode cX10_judge 12 = .ok (.ireturn, 1) := by decide +kernel
theorem dX10_judge_13 : decode cX10_judge 13 = .ok (.aload_n 0, 1) := by decide +kernel
theorem dX10_judge_14 : decode cX10_judge 14 = .ok (.getfield 159, 3) := by decide +kernel
theorem dX10_judge_17 : decode cX10_judge 17 = .ok (.ifCond .ne 7, 3) := by decide +kernel
theorem dX10_judge_20 : decode cX10_judge 20 = .ok (.ldc_w 366, 3) := by decide +kernel
theorem dX10_judge_23 : decode cX10_judge 23 = .ok (.ireturn, 1) := by decide +kernel
theorem dX10_judge_24 : decode cX10_judge 24 = .ok (.aload_n 0, 1) := by decide +kernel
theorem dX10_judge_25 : decode cX10_judge 25 = .ok (.getfield 294, 3) := by decide +kernel
theorem dX10_judge_28 : decode cX10_judge 28 = .ok (.istore_n 2, 1) := by decide +kernel
theorem dX10_judge_29 : decode cX10_judge 29 = .ok (.iconst 0, 1) := by decide +kernel
theorem dX10_judge_30 : decode cX10_judge 30 = .ok (.istore_n 3, 1) := by decide +kernel
theorem dX10_judge_31 : decode cX10_judge 31 = .ok (.iconst 0, 1) := by decide +kernel
theorem dX10_judge_32 : decode cX10_judge 32 = .ok (.istore 4, 2) := by decide +kernel
theorem dX10_judge_34 : decode cX10_judge 34 = .ok (.iload 4, 2) := by decide +kernel
theorem dX10_judge_36 : decode cX10_judge 36 = .ok (.aload_n 0, 1) := by decide +kernel
theorem dX10_judge_37 : decode cX10_judge 37 = .ok (.getfield 303, 3) := by decide +kernel
theorem dX10_judge_40 : decode cX10_judge 40 = .ok (.if_icmp .ge 70, 3) := by decide +kernel
theorem dX10_judge_43 : decode cX10_judge 43 = .ok (.aload_n 0, 1) := by decide +kernel
theorem dX10_judge_44 : decode cX10_judge 44 = .ok (.iload_n 2, 1) := by decide +kernel
theorem dX10_judge_45 : decode cX10_judge 45 = .ok (.aload_n 0, 1) := by decide +kernel
theorem dX10_judge_46 : decode cX10_judge 46 = .ok (.getfield 149, 3) := by decide +kernel
theorem dX10_judge_49 : decode cX10_judge 49 = .ok (.iload 4, 2) := by decide +kernel
theorem dX10_judge_51 : decode cX10_judge 51 = .ok (.iaload, 1) := by decide +kernel
theorem dX10_judge_52 : decode cX10_judge 52 = .ok (.aload_n 0, 1) := by decide +kernel
theorem dX10_judge_53 : decode cX10_judge 53 = .ok (.getfield 291, 3) := by decide +kernel
theorem dX10_judge_56 : decode cX10_judge 56 = .ok (.iload 4, 2) := by decide +kernel
theorem dX10_judge_58 : decode cX10_judge 58 = .ok (.iadd, 1) := by decide +kernel
theorem dX10_judge_59 : decode cX10_judge 59 = .ok (.iconst 1, 1) := by decide +kernel
theorem dX10_judge_60 : decode cX10_judge 60 = .ok (.iadd, 1) := by decide +kernel
theorem dX10_judge_61 : decode cX10_judge 61 = .ok (.invokevirtual 363, 3) := by decide +kernel
theorem dX10_judge_64 : decode cX10_judge 64 = .ok (.istore 5, 2) := by decide +kernel
theorem dX10_judge_66 : decode cX10_judge 66 = .ok (.iload 5, 2) := by decide +kernel
theorem dX10_judge_68 : decode cX10_judge 68 = .ok (.ifCond .ge 14, 3) := by decide +kernel
theorem dX10_judge_71 : decode cX10_judge 71 = .ok (.iload_n 1, 1) := by decide +kernel
theorem dX10_judge_72 : decode cX10_judge 72 = .ok (.ifCond .ne 8, 3) := by decide +kernel
theorem dX10_judge_75 : decode cX10_judge 75 = .ok (.iload 4, 2) := by decide +kernel
theorem dX10_judge_77 : decode cX10_judge 77 = .ok (.goto 4, 3) := by decide +kernel
theorem dX10_judge_80 : decode cX10_judge 80 = .ok (.iload_n 3, 1) := by decide +kernel
theorem dX10_judge_81 : decode cX10_judge 81 = .ok (.ireturn, 1) := by decide +kernel
theorem dX10_judge_82 : decode cX10_judge 82 = .ok (.iload_n 3, 1) := by decide +kernel
theorem dX10_judge_83 : decode cX10_judge 83 = .ok (.aload_n 0, 1) := by decide +kernel
theorem dX10_judge_84 : decode cX10_judge 84 = .ok (.iload_n 2, 1) := by decide +kernel
theorem dX10_judge_85 : decode cX10_judge 85 = .ok (.iload 5, 2) := by decide +kernel
theorem dX10_judge_87 : decode cX10_judge 87 = .ok (.aload_n 0, 1) := by decide +kernel
theorem dX10_judge_88 : decode cX10_judge 88 = .ok (.getfield 291, 3) := by decide +kernel
theorem dX10_judge_91 : decode cX10_judge 91 = .ok (.iload 4, 2) := by decide +kernel
theorem dX10_judge_93 : decode cX10_judge 93 = .ok (.iadd, 1) := by decide +kernel
theorem dX10_judge_94 : decode cX10_judge 94 = .ok (.iconst 1, 1) := by decide +kernel
theorem dX10_judge_95 : decode cX10_judge 95 = .ok (.iadd, 1) := by decide +kernel
theorem dX10_judge_96 : decode cX10_judge 96 = .ok (.invokevirtual 355, 3) := by decide +kernel
theorem dX10_judge_99 : decode cX10_judge 99 = .ok (.iadd, 1) := by decide +kernel
theorem dX10_judge_100 : decode cX10_judge 100 = .ok (.istore_n 3, 1) := by decide +kernel
theorem dX10_judge_101 : decode cX10_judge 101 = .ok (.iload 5, 2) := by decide +kernel
theorem dX10_judge_103 : decode cX10_judge 103 = .ok (.istore_n 2, 1) := by decide +kernel
theorem dX10_judge_104 : decode cX10_judge 104 = .ok (.iinc 4 1, 3) := by decide +kernel
theorem dX10_judge_107 : decode cX10_judge 107 = .ok (.goto (-73), 3) := by decide +kernel
theorem dX10_judge_110 : decode cX10_judge 110 = .ok (.iload_n 1, 1) := by decide +kernel
theorem dX10_judge_111 : decode cX10_judge 111 = .ok (.ifCond .ne 7, 3) := by decide +kernel
theorem dX10_judge_114 : decode cX10_judge 114 = .ok (.iconst (-1), 1) := by decide +kernel
theorem dX10_judge_115 : decode cX10_judge 115 = .ok (.goto 4, 3) := by decide +kernel
theorem dX10_judge_118 : decode cX10_judge 118 = .ok (.iload_n 3, 1) := by decide +kernel
theorem dX10_judge_119 : decode cX10_judge 119 = .ok (.ireturn, 1) := by decide +kernel
theorem dX10_seed_0 : decode cX10_seed 0 = .ok (.iload_n 1, 1) := by decide +kernel
theorem dX10_seed_1 : decode cX10_seed 1 = .ok (.ifCond .ge 6, 3) := by decide +kernel
theorem dX10_seed_4 : decode cX10_seed 4 = .ok (.ldc 175, 2) := by decide +kernel
theorem dX10_seed_6 : decode cX10_seed 6 = .ok (.ireturn, 1) := by decide +kernel
theorem dX10_seed_7 : decode cX10_seed 7 = .ok (.aload_n 0, 1) := by decide +kernel
theorem dX10_seed_8 : decode cX10_seed 8 = .ok (.getfield 376, 3) := by decide +kernel
theorem dX10_seed_11 : decode cX10_seed 11 = .ok (.istore_n 2, 1) := by decide +kernel
theorem dX10_seed_12 : decode cX10_seed 12 = .ok (.aload_n 0, 1) := by decide +kernel
theorem dX10_seed_13 : decode cX10_seed 13 = .ok (.iload_n 1, 1) := by decide +kernel
theorem dX10_seed_14 : decode cX10_seed 14 = .ok (.putfield 376, 3) := by decide +kernel
theorem dX10_seed_17 : decode cX10_seed 17 = .ok (.iload_n 2, 1) := by decide +kernel
theorem dX10_seed_18 : decode cX10_seed 18 = .ok (.ireturn, 1) := by decide +kernel
theorem dX10_keep_0 : decode cX10_keep 0 = .ok (.iload_n 1, 1) := by decide +kernel
theorem dX10_keep_1 : decode cX10_keep 1 = .ok (.i2l, 1) := by decide +kernel
theorem dX10_keep_2 : decode cX10_keep 2 = .ok (.lconst 0, 1) := by decide +kernel
theorem dX10_keep_3 : decode cX10_keep 3 = .ok (.lconst 1, 1) := by decide +kernel
theorem dX10_keep_4 : decode cX10_keep 4 = .ok (.invokestatic 165, 3) := by decide +kernel
theorem dX10_keep_7 : decode cX10_keep 7 = .ok (.ifCond .ne 7, 3) := by decide +kernel
theorem dX10_keep_10 : decode cX10_keep 10 = .ok (.ldc_w 329, 3) := by decide +kernel
theorem dX10_keep_13 : decode cX10_keep 13 = .ok (.ireturn, 1) := by decide +kernel
theorem dX10_keep_14 : decode cX10_keep 14 = .ok (.bipush 40, 2) := by decide +kernel
theorem dX10_keep_16 : decode cX10_keep 16 = .ok (.iload_n 1, 1) := by decide +kernel
theorem dX10_keep_17 : decode cX10_keep 17 = .ok (.imul, 1) := by decide +kernel
theorem dX10_keep_18 : decode cX10_keep 18 = .ok (.istore_n 2, 1) := by decide +kernel
theorem dX10_keep_19 : decode cX10_keep 19 = .ok (.iconst 0, 1) := by decide +kernel
theorem dX10_keep_20 : decode cX10_keep 20 = .ok (.istore_n 3, 1) := by decide +kernel
theorem dX10_keep_21 : decode cX10_keep 21 = .ok (.iload_n 3, 1) := by decide +kernel
theorem dX10_keep_22 : decode cX10_keep 22 = .ok (.bipush 24, 2) := by decide +kernel
theorem dX10_keep_24 : decode cX10_keep 24 = .ok (.if_icmp .ge 23, 3) := by decide +kernel
theorem dX10_keep_27 : decode cX10_keep 27 = .ok (.aload_n 0, 1) := by decide +kernel
theorem dX10_keep_28 : decode cX10_keep 28 = .ok (.getfield 152, 3) := by decide +kernel
theorem dX10_keep_31 : decode cX10_keep 31 = .ok (.iload_n 2, 1) := by decide +kernel
theorem dX10_keep_32 : decode cX10_keep 32 = .ok (.iload_n 3, 1) := by decide +kernel
theorem dX10_keep_33 : decode cX10_keep 33 = .ok (.iadd, 1) := by decide +kernel
theorem dX10_keep_34 : decode cX10_keep 34 = .ok (.aload_n 0, 1) := by decide +kernel
theorem dX10_keep_35 : decode cX10_keep 35 = .ok (.getfield 62, 3) := by decide +kernel
theorem dX10_keep_38 : decode cX10_keep 38 = .ok (.iload_n 3, 1) := by decide +kernel
theorem dX10_keep_39 : decode cX10_keep 39 = .ok (.iaload, 1) := by decide +kernel
theorem dX10_keep_40 : decode cX10_keep 40 = .ok (.iastore, 1) := by decide +kernel
theorem dX10_keep_41 : decode cX10_keep 41 = .ok (.iinc 3 1, 3) := by decide +kernel
theorem dX10_keep_44 : decode cX10_keep 44 = .ok (.goto (-23), 3) := by decide +kernel
theorem dX10_keep_47 : decode cX10_keep 47 = .ok (.iconst 0, 1) := by decide +kernel
theorem dX10_keep_48 : decode cX10_keep 48 = .ok (.istore_n 3, 1) := by decide +kernel
theorem dX10_keep_49 : decode cX10_keep 49 = .ok (.iload_n 3, 1) := by decide +kernel
theorem dX10_keep_50 : decode cX10_keep 50 = .ok (.bipush 6, 2) := by decide +kernel
theorem dX10_keep_52 : decode cX10_keep 52 = .ok (.if_icmp .ge 26, 3) := by decide +kernel
theorem dX10_keep_55 : decode cX10_keep 55 = .ok (.aload_n 0, 1) := by decide +kernel
theorem dX10_keep_56 : decode cX10_keep 56 = .ok (.getfield 152, 3) := by decide +kernel
theorem dX10_keep_59 : decode cX10_keep 59 = .ok (.iload_n 2, 1) := by decide +kernel
theorem dX10_keep_60 : decode cX10_keep 60 = .ok (.bipush 24, 2) := by decide +kernel
theorem dX10_keep_62 : decode cX10_keep 62 = .ok (.iadd, 1) := by decide +kernel
theorem dX10_keep_63 : decode cX10_keep 63 = .ok (.iload_n 3, 1) := by decide +kernel
theorem dX10_keep_64 : decode cX10_keep 64 = .ok (.iadd, 1) := by decide +kernel
theorem dX10_keep_65 : decode cX10_keep 65 = .ok (.aload_n 0, 1) := by decide +kernel
theorem dX10_keep_66 : decode cX10_keep 66 = .ok (.getfield 65, 3) := by decide +kernel
theorem dX10_keep_69 : decode cX10_keep 69 = .ok (.iload_n 3, 1) := by decide +kernel
theorem dX10_keep_70 : decode cX10_keep 70 = .ok (.iaload, 1) := by decide +kernel
theorem dX10_keep_71 : decode cX10_keep 71 = .ok (.iastore, 1) := by decide +kernel
theorem dX10_keep_72 : decode cX10_keep 72 = .ok (.iinc 3 1, 3) := by decide +kernel
theorem dX10_keep_75 : decode cX10_keep 75 = .ok (.goto (-26), 3) := by decide +kernel
theorem dX10_keep_78 : decode cX10_keep 78 = .ok (.iconst 0, 1) := by decide +kernel
theorem dX10_keep_79 : decode cX10_keep 79 = .ok (.istore_n 3, 1) := by decide +kernel
theorem dX10_keep_80 : decode cX10_keep 80 = .ok (.iload_n 3, 1) := by decide +kernel
theorem dX10_keep_81 : decode cX10_keep 81 = .ok (.iconst 3, 1) := by decide +kernel
theorem dX10_keep_82 : decode cX10_keep 82 = .ok (.if_icmp .ge 26, 3) := by decide +kernel
theorem dX10_keep_85 : decode cX10_keep 85 = .ok (.aload_n 0, 1) := by decide +kernel
theorem dX10_keep_86 : decode cX10_keep 86 = .ok (.getfield 152, 3) := by decide +kernel
theorem dX10_keep_89 : decode cX10_keep 89 = .ok (.iload_n 2, 1) := by decide +kernel
theorem dX10_keep_90 : decode cX10_keep 90 = .ok (.bipush 30, 2) := by decide +kernel
theorem dX10_keep_92 : decode cX10_keep 92 = .ok (.iadd, 1) := by decide +kernel
theorem dX10_keep_93 : decode cX10_keep 93 = .ok (.iload_n 3, 1) := by decide +kernel
theorem dX10_keep_94 : decode cX10_keep 94 = .ok (.iadd, 1) := by decide +kernel
theorem dX10_keep_95 : decode cX10_keep 95 = .ok (.aload_n 0, 1) := by decide +kernel
theorem dX10_keep_96 : decode cX10_keep 96 = .ok (.getfield 59, 3) := by decide +kernel
theorem dX10_keep_99 : decode cX10_keep 99 = .ok (.iload_n 3, 1) := by decide +kernel
theorem dX10_keep_100 : decode cX10_keep 100 = .ok (.iaload, 1) := by decide +kernel
theorem dX10_keep_101 : decode cX10_keep 101 = .ok (.iastore, 1) := by decide +kernel
theorem dX10_keep_102 : decode cX10_keep 102 = .ok (.iinc 3 1, 3) := by decide +kernel
theorem dX10_keep_105 : decode cX10_keep 105 = .ok (.goto (-25), 3) := by decide +kernel
theorem dX10_keep_108 : decode cX10_keep 108 = .ok (.aload_n 0, 1) := by decide +kernel
theorem dX10_keep_109 : decode cX10_keep 109 = .ok (.getfield 152, 3) := by decide +kernel
theorem dX10_keep_112 : decode cX10_keep 112 = .ok (.iload_n 2, 1) := by decide +kernel
theorem dX10_keep_113 : decode cX10_keep 113 = .ok (.bipush 33, 2) := by decide +kernel
theorem dX10_keep_115 : decode cX10_keep 115 = .ok (.iadd, 1) := by decide +kernel
theorem dX10_keep_116 : decode cX10_keep 116 = .ok (.aload_n 0, 1) := by decide +kernel
theorem dX10_keep_117 : decode cX10_keep 117 = .ok (.getfield 291, 3) := by decide +kernel
theorem dX10_keep_120 : decode cX10_keep 120 = .ok (.iastore, 1) := by decide +kernel
theorem dX10_keep_121 : decode cX10_keep 121 = .ok (.aload_n 0, 1) := by decide +kernel
theorem dX10_keep_122 : decode cX10_keep 122 = .ok (.getfield 152, 3) := by decide +kernel
theorem dX10_keep_125 : decode cX10_keep 125 = .ok (.iload_n 2, 1) := by decide +kernel
theorem dX10_keep_126 : decode cX10_keep 126 = .ok (.bipush 34, 2) := by decide +kernel
theorem dX10_keep_128 : decode cX10_keep 128 = .ok (.iadd, 1) := by decide +kernel
theorem dX10_keep_129 : decode cX10_keep 129 = .ok (.aload_n 0, 1) := by decide +kernel
theorem dX10_keep_130 : decode cX10_keep 130 = .ok (.getfield 294, 3) := by decide +kernel
theorem dX10_keep_133 : decode cX10_keep 133 = .ok (.iastore, 1) := by decide +kernel
theorem dX10_keep_134 : decode cX10_keep 134 = .ok (.aload_n 0, 1) := by decide +kernel
theorem dX10_keep_135 : decode cX10_keep 135 = .ok (.getfield 152, 3) := by decide +kernel
theorem dX10_keep_138 : decode cX10_keep 138 = .ok (.iload_n 2, 1) := by decide +kernel
theorem dX10_keep_139 : decode cX10_keep 139 = .ok (.bipush 35, 2) := by decide +kernel
theorem dX10_keep_141 : decode cX10_keep 141 = .ok (.iadd, 1) := by decide +kernel
theorem dX10_keep_142 : decode cX10_keep 142 = .ok (.aload_n 0, 1) := by decide +kernel
theorem dX10_keep_143 : decode cX10_keep 143 = .ok (.getfield 297, 3) := by decide +kernel
theorem dX10_keep_146 : decode cX10_keep 146 = .ok (.iastore, 1) := by decide +kernel
theorem dX10_keep_147 : decode cX10_keep 147 = .ok (.aload_n 0, 1) := by decide +kernel
theorem dX10_keep_148 : decode cX10_keep 148 = .ok (.getfield 152, 3) := by decide +kernel
theorem dX10_keep_151 : decode cX10_keep 151 = .ok (.iload_n 2, 1) := by decide +kernel
theorem dX10_keep_152 : decode cX10_keep 152 = .ok (.bipush 36, 2) := by decide +kernel
theorem dX10_keep_154 : decode cX10_keep 154 = .ok (.iadd, 1) := by decide +kernel
theorem dX10_keep_155 : decode cX10_keep 155 = .ok (.aload_n 0, 1) := by decide +kernel
theorem dX10_keep_156 : decode cX10_keep 156 = .ok (.getfield 68, 3) := by decide +kernel
theorem dX10_keep_159 : decode cX10_keep 159 = .ok (.iastore, 1) := by decide +kernel
theorem dX10_keep_160 : decode cX10_keep 160 = .ok (.aload_n 0, 1) := by decide +kernel
theorem dX10_keep_161 : decode cX10_keep 161 = .ok (.getfield 152, 3) := by decide +kernel
theorem dX10_keep_164 : decode cX10_keep 164 = .ok (.iload_n 2, 1) := by decide +kernel
theorem dX10_keep_165 : decode cX10_keep 165 = .ok (.bipush 37, 2) := by decide +kernel
theorem dX10_keep_167 : decode cX10_keep 167 = .ok (.iadd, 1) := by decide +kernel
theorem dX10_keep_168 : decode cX10_keep 168 = .ok (.aload_n 0, 1) := by decide +kernel
theorem dX10_keep_169 : decode cX10_keep 169 = .ok (.getfield 376, 3) := by decide +kernel
theorem dX10_keep_172 : decode cX10_keep 172 = .ok (.iastore, 1) := by decide +kernel
theorem dX10_keep_173 : decode cX10_keep 173 = .ok (.aload_n 0, 1) := by decide +kernel
theorem dX10_keep_174 : decode cX10_keep 174 = .ok (.getfield 155, 3) := by decide +kernel
theorem dX10_keep_177 : decode cX10_keep 177 = .ok (.iload_n 1, 1) := by decide +kernel
theorem dX10_keep_178 : decode cX10_keep 178 = .ok (.iconst 1, 1) := by decide +kernel
theorem dX10_keep_179 : decode cX10_keep 179 = .ok (.bastore, 1) := by decide +kernel
theorem dX10_keep_180 : decode cX10_keep 180 = .ok (.iconst 1, 1) := by decide +kernel
theorem dX10_keep_181 : decode cX10_keep 181 = .ok (.ireturn, 1) := by decide +kernel
theorem dX10_goBack_0 : decode cX10_goBack 0 = .ok (.iload_n 1, 1) := by decide +kernel
theorem dX10_goBack_1 : decode cX10_goBack 1 = .ok (.i2l, 1) := by decide +kernel
theorem dX10_goBack_2 : decode cX10_goBack 2 = .ok (.lconst 0, 1) := by decide +kernel
theorem dX10_goBack_3 : decode cX10_goBack 3 = .ok (.lconst 1, 1) := by decide +kernel
theorem dX10_goBack_4 : decode cX10_goBack 4 = .ok (.invokestatic 165, 3) := by decide +kernel
theorem dX10_goBack_7 : decode cX10_goBack 7 = .ok (.ifCond .ne 7, 3) := by decide +kernel
theorem dX10_goBack_10 : decode cX10_goBack 10 = .ok (.ldc_w 329, 3) := by decide +kernel
theorem dX10_goBack_13 : decode cX10_goBack 13 = .ok (.ireturn, 1) := by decide +kernel
theorem dX10_goBack_14 : decode cX10_goBack 14 = .ok (.aload_n 0, 1) := by decide +kernel
theorem dX10_goBack_15 : decode cX10_goBack 15 = .ok (.getfield 155, 3) := by decide +kernel
theorem dX10_goBack_18 : decode cX10_goBack 18 = .ok (.iload_n 1, 1) := by decide +kernel
theorem dX10_goBack_19 : decode cX10_goBack 19 = .ok (.baload, 1) := by decide +kernel
theorem dX10_goBack_20 : decode cX10_goBack 20 = .ok (.ifCond .ne 7, 3) := by decide +kernel
theorem dX10_goBack_23 : decode cX10_goBack 23 = .ok (.ldc_w 366, 3) := by decide +kernel
theorem dX10_goBack_26 : decode cX10_goBack 26 = .ok (.ireturn, 1) := by decide +kernel
theorem dX10_goBack_27 : decode cX10_goBack 27 = .ok (.bipush 40, 2) := by decide +kernel
theorem dX10_goBack_29 : decode cX10_goBack 29 = .ok (.iload_n 1, 1) := by decide +kernel
theorem dX10_goBack_30 : decode cX10_goBack 30 = .ok (.imul, 1) := by decide +kernel
theorem dX10_goBack_31 : decode cX10_goBack 31 = .ok (.istore_n 2, 1) := by decide +kernel
theorem dX10_goBack_32 : decode cX10_goBack 32 = .ok (.iconst 0, 1) := by decide +kernel
theorem dX10_goBack_33 : decode cX10_goBack 33 = .ok (.istore_n 3, 1) := by decide +kernel
theorem dX10_goBack_34 : decode cX10_goBack 34 = .ok (.iload_n 3, 1) := by decide +kernel
theorem dX10_goBack_35 : decode cX10_goBack 35 = .ok (.bipush 24, 2) := by decide +kernel
theorem dX10_goBack_37 : decode cX10_goBack 37 = .ok (.if_icmp .ge 23, 3) := by decide +kernel
theorem dX10_goBack_40 : decode cX10_goBack 40 = .ok (.aload_n 0, 1) := by decide +kernel
theorem dX10_goBack_41 : decode cX10_goBack 41 = .ok (.getfield 62, 3) := by decide +kernel
theorem dX10_goBack_44 : decode cX10_goBack 44 = .ok (.iload_n 3, 1) := by decide +kernel
theorem dX10_goBack_45 : decode cX10_goBack 45 = .ok (.aload_n 0, 1) := by decide +kernel
theorem dX10_goBack_46 : decode cX10_goBack 46 = .ok (.getfield 152, 3) := by decide +kernel
theorem dX10_goBack_49 : decode cX10_goBack 49 = .ok (.iload_n 2, 1) := by decide +kernel
theorem dX10_goBack_50 : decode cX10_goBack 50 = .ok (.iload_n 3, 1) := by decide +kernel
theorem dX10_goBack_51 : decode cX10_goBack 51 = .ok (.iadd, 1) := by decide +kernel
theorem dX10_goBack_52 : decode cX10_goBack 52 = .ok (.iaload, 1) := by decide +kernel
theorem dX10_goBack_53 : decode cX10_goBack 53 = .ok (.iastore, 1) := by decide +kernel
theorem dX10_goBack_54 : decode cX10_goBack 54 = .ok (.iinc 3 1, 3) := by decide +kernel
theorem dX10_goBack_57 : decode cX10_goBack 57 = .ok (.goto (-23), 3) := by decide +kernel
theorem dX10_goBack_60 : decode cX10_goBack 60 = .ok (.iconst 0, 1) := by decide +kernel
theorem dX10_goBack_61 : decode cX10_goBack 61 = .ok (.istore_n 3, 1) := by decide +kernel
theorem dX10_goBack_62 : decode cX10_goBack 62 = .ok (.iload_n 3, 1) := by decide +kernel
theorem dX10_goBack_63 : decode cX10_goBack 63 = .ok (.bipush 6, 2) := by decide +kernel
theorem dX10_goBack_65 : decode cX10_goBack 65 = .ok (.if_icmp .ge 26, 3) := by decide +kernel
theorem dX10_goBack_68 : decode cX10_goBack 68 = .ok (.aload_n 0, 1) := by decide +kernel
theorem dX10_goBack_69 : decode cX10_goBack 69 = .ok (.getfield 65, 3) := by decide +kernel
theorem dX10_goBack_72 : decode cX10_goBack 72 = .ok (.iload_n 3, 1) := by decide +kernel
theorem dX10_goBack_73 : decode cX10_goBack 73 = .ok (.aload_n 0, 1) := by decide +kernel
theorem dX10_goBack_74 : decode cX10_goBack 74 = .ok (.getfield 152, 3) := by decide +kernel
theorem dX10_goBack_77 : decode cX10_goBack 77 = .ok (.iload_n 2, 1) := by decide +kernel
theorem dX10_goBack_78 : decode cX10_goBack 78 = .ok (.bipush 24, 2) := by decide +kernel
theorem dX10_goBack_80 : decode cX10_goBack 80 = .ok (.iadd, 1) := by decide +kernel
theorem dX10_goBack_81 : decode cX10_goBack 81 = .ok (.iload_n 3, 1) := by decide +kernel
theorem dX10_goBack_82 : decode cX10_goBack 82 = .ok (.iadd, 1) := by decide +kernel
theorem dX10_goBack_83 : decode cX10_goBack 83 = .ok (.iaload, 1) := by decide +kernel
theorem dX10_goBack_84 : decode cX10_goBack 84 = .ok (.iastore, 1) := by decide +kernel
theorem dX10_goBack_85 : decode cX10_goBack 85 = .ok (.iinc 3 1, 3) := by decide +kernel
theorem dX10_goBack_88 : decode cX10_goBack 88 = .ok (.goto (-26), 3) := by decide +kernel
theorem dX10_goBack_91 : decode cX10_goBack 91 = .ok (.iconst 0, 1) := by decide +kernel
theorem dX10_goBack_92 : decode cX10_goBack 92 = .ok (.istore_n 3, 1) := by decide +kernel
theorem dX10_goBack_93 : decode cX10_goBack 93 = .ok (.iload_n 3, 1) := by decide +kernel
theorem dX10_goBack_94 : decode cX10_goBack 94 = .ok (.iconst 3, 1) := by decide +kernel
theorem dX10_goBack_95 : decode cX10_goBack 95 = .ok (.if_icmp .ge 26, 3) := by decide +kernel
theorem dX10_goBack_98 : decode cX10_goBack 98 = .ok (.aload_n 0, 1) := by decide +kernel
theorem dX10_goBack_99 : decode cX10_goBack 99 = .ok (.getfield 59, 3) := by decide +kernel
theorem dX10_goBack_102 : decode cX10_goBack 102 = .ok (.iload_n 3, 1) := by decide +kernel
theorem dX10_goBack_103 : decode cX10_goBack 103 = .ok (.aload_n 0, 1) := by decide +kernel
theorem dX10_goBack_104 : decode cX10_goBack 104 = .ok (.getfield 152, 3) := by decide +kernel
theorem dX10_goBack_107 : decode cX10_goBack 107 = .ok (.iload_n 2, 1) := by decide +kernel
theorem dX10_goBack_108 : decode cX10_goBack 108 = .ok (.bipush 30, 2) := by decide +kernel
theorem dX10_goBack_110 : decode cX10_goBack 110 = .ok (.iadd, 1) := by decide +kernel
theorem dX10_goBack_111 : decode cX10_goBack 111 = .ok (.iload_n 3, 1) := by decide +kernel
theorem dX10_goBack_112 : decode cX10_goBack 112 = .ok (.iadd, 1) := by decide +kernel
theorem dX10_goBack_113 : decode cX10_goBack 113 = .ok (.iaload, 1) := by decide +kernel
theorem dX10_goBack_114 : decode cX10_goBack 114 = .ok (.iastore, 1) := by decide +kernel
theorem dX10_goBack_115 : decode cX10_goBack 115 = .ok (.iinc 3 1, 3) := by decide +kernel
theorem dX10_goBack_118 : decode cX10_goBack 118 = .ok (.goto (-25), 3) := by decide +kernel
theorem dX10_goBack_121 : decode cX10_goBack 121 = .ok (.aload_n 0, 1) := by decide +kernel
theorem dX10_goBack_122 : decode cX10_goBack 122 = .ok (.aload_n 0, 1) := by decide +kernel
theorem dX10_goBack_123 : decode cX10_goBack 123 = .ok (.getfield 152, 3) := by decide +kernel
theorem dX10_goBack_126 : decode cX10_goBack 126 = .ok (.iload_n 2, 1) := by decide +kernel
theorem dX10_goBack_127 : decode cX10_goBack 127 = .ok (.bipush 33, 2) := by decide +kernel
theorem dX10_goBack_129 : decode cX10_goBack 129 = .ok (.iadd, 1) := by decide +kernel
theorem dX10_goBack_130 : decode cX10_goBack 130 = .ok (.iaload, 1) := by decide +kernel
theorem dX10_goBack_131 : decode cX10_goBack 131 = .ok (.putfield 291, 3) := by decide +kernel
theorem dX10_goBack_134 : decode cX10_goBack 134 = .ok (.aload_n 0, 1) := by decide +kernel
theorem dX10_goBack_135 : decode cX10_goBack 135 = .ok (.aload_n 0, 1) := by decide +kernel
theorem dX10_goBack_136 : decode cX10_goBack 136 = .ok (.getfield 152, 3) := by decide +kernel
theorem dX10_goBack_139 : decode cX10_goBack 139 = .ok (.iload_n 2, 1) := by decide +kernel
theorem dX10_goBack_140 : decode cX10_goBack 140 = .ok (.bipush 34, 2) := by decide +kernel
theorem dX10_goBack_142 : decode cX10_goBack 142 = .ok (.iadd, 1) := by decide +kernel
theorem dX10_goBack_143 : decode cX10_goBack 143 = .ok (.iaload, 1) := by decide +kernel
theorem dX10_goBack_144 : decode cX10_goBack 144 = .ok (.putfield 294, 3) := by decide +kernel
theorem dX10_goBack_147 : decode cX10_goBack 147 = .ok (.aload_n 0, 1) := by decide +kernel
theorem dX10_goBack_148 : decode cX10_goBack 148 = .ok (.aload_n 0, 1) := by decide +kernel
theorem dX10_goBack_149 : decode cX10_goBack 149 = .ok (.getfield 152, 3) := by decide +kernel
theorem dX10_goBack_152 : decode cX10_goBack 152 = .ok (.iload_n 2, 1) := by decide +kernel
theorem dX10_goBack_153 : decode cX10_goBack 153 = .ok (.bipush 35, 2) := by decide +kernel
theorem dX10_goBack_155 : decode cX10_goBack 155 = .ok (.iadd, 1) := by decide +kernel
theorem dX10_goBack_156 : decode cX10_goBack 156 = .ok (.iaload, 1) := by decide +kernel
theorem dX10_goBack_157 : decode cX10_goBack 157 = .ok (.putfield 297, 3) := by decide +kernel
theorem dX10_goBack_160 : decode cX10_goBack 160 = .ok (.aload_n 0, 1) := by decide +kernel
theorem dX10_goBack_161 : decode cX10_goBack 161 = .ok (.aload_n 0, 1) := by decide +kernel
theorem dX10_goBack_162 : decode cX10_goBack 162 = .ok (.getfield 152, 3) := by decide +kernel
theorem dX10_goBack_165 : decode cX10_goBack 165 = .ok (.iload_n 2, 1) := by decide +kernel
theorem dX10_goBack_166 : decode cX10_goBack 166 = .ok (.bipush 36, 2) := by decide +kernel
theorem dX10_goBack_168 : decode cX10_goBack 168 = .ok (.iadd, 1) := by decide +kernel
theorem dX10_goBack_169 : decode cX10_goBack 169 = .ok (.iaload, 1) := by decide +kernel
theorem dX10_goBack_170 : decode cX10_goBack 170 = .ok (.putfield 68, 3) := by decide +kernel
theorem dX10_goBack_173 : decode cX10_goBack 173 = .ok (.aload_n 0, 1) := by decide +kernel
theorem dX10_goBack_174 : decode cX10_goBack 174 = .ok (.aload_n 0, 1) := by decide +kernel
theorem dX10_goBack_175 : decode cX10_goBack 175 = .ok (.getfield 152, 3) := by decide +kernel
theorem dX10_goBack_178 : decode cX10_goBack 178 = .ok (.iload_n 2, 1) := by decide +kernel
theorem dX10_goBack_179 : decode cX10_goBack 179 = .ok (.bipush 37, 2) := by decide +kernel
theorem dX10_goBack_181 : decode cX10_goBack 181 = .ok (.iadd, 1) := by decide +kernel
theorem dX10_goBack_182 : decode cX10_goBack 182 = .ok (.iaload, 1) := by decide +kernel
theorem dX10_goBack_183 : decode cX10_goBack 183 = .ok (.putfield 376, 3) := by decide +kernel
theorem dX10_goBack_186 : decode cX10_goBack 186 = .ok (.iconst 1, 1) := by decide +kernel
theorem dX10_goBack_187 : decode cX10_goBack 187 = .ok (.ireturn, 1) := by decide +kernel
