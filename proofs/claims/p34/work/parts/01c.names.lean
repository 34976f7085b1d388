theorem dX9_init_0 : decode cX9_init 0 = .ok (.aload_n 0, 1) := by decide +kernel
theorem dX9_init_1 : decode cX9_init 1 = .ok (.invokespecial 1, 3) := by decide +kernel
theorem dX9_init_4 : decode cX9_init 4 = .ok (.aload_n 0, 1) := by decide +kernel
theorem dX9_init_5 : decode cX9_init 5 = .ok (.sipush 250, 3) := by decide +kernel
theorem dX9_init_8 : decode cX9_init 8 = .ok (.newarray .int, 2) := by decide +kernel
theorem dX9_init_10 : decode cX9_init 10 = .ok (.putfield 9, 3) := by decide +kernel
theorem dX9_init_13 : decode cX9_init 13 = .ok (.aload_n 0, 1) := by decide +kernel
theorem dX9_init_14 : decode cX9_init 14 = .ok (.iconst (-1), 1) := by decide +kernel
theorem dX9_init_15 : decode cX9_init 15 = .ok (.putfield 13, 3) := by decide +kernel
theorem dX9_init_18 : decode cX9_init 18 = .ok (.aload_n 0, 1) := by decide +kernel
theorem dX9_init_19 : decode cX9_init 19 = .ok (.new 17, 3) := by decide +kernel
theorem dX9_init_22 : decode cX9_init 22 = .ok (.dup, 1) := by decide +kernel
theorem dX9_init_23 : decode cX9_init 23 = .ok (.invokespecial 19, 3) := by decide +kernel
theorem dX9_init_26 : decode cX9_init 26 = .ok (.putfield 20, 3) := by decide +kernel
theorem dX9_init_29 : decode cX9_init 29 = .ok (.aload_n 0, 1) := by decide +kernel
theorem dX9_init_30 : decode cX9_init 30 = .ok (.new 24, 3) := by decide +kernel
theorem dX9_init_33 : decode cX9_init 33 = .ok (.dup, 1) := by decide +kernel
theorem dX9_init_34 : decode cX9_init 34 = .ok (.invokespecial 26, 3) := by decide +kernel
theorem dX9_init_37 : decode cX9_init 37 = .ok (.putfield 27, 3) := by decide +kernel
theorem dX9_init_40 : decode cX9_init 40 = .ok (.aload_n 0, 1) := by decide +kernel
theorem dX9_init_41 : decode cX9_init 41 = .ok (.new 31, 3) := by decide +kernel
theorem dX9_init_44 : decode cX9_init 44 = .ok (.dup, 1) := by decide +kernel
theorem dX9_init_45 : decode cX9_init 45 = .ok (.invokespecial 33, 3) := by decide +kernel
theorem dX9_init_48 : decode cX9_init 48 = .ok (.putfield 34, 3) := by decide +kernel
theorem dX9_init_51 : decode cX9_init 51 = .ok (.aload_n 0, 1) := by decide +kernel
theorem dX9_init_52 : decode cX9_init 52 = .ok (.new 38, 3) := by decide +kernel
theorem dX9_init_55 : decode cX9_init 55 = .ok (.dup, 1) := by decide +kernel
theorem dX9_init_56 : decode cX9_init 56 = .ok (.new 24, 3) := by decide +kernel
theorem dX9_init_59 : decode cX9_init 59 = .ok (.dup, 1) := by decide +kernel
theorem dX9_init_60 : decode cX9_init 60 = .ok (.invokespecial 26, 3) := by decide +kernel
theorem dX9_init_63 : decode cX9_init 63 = .ok (.aload_n 0, 1) := by decide +kernel
theorem dX9_init_64 : decode cX9_init 64 = .ok (.getfield 34, 3) := by decide +kernel
theorem dX9_init_67 : decode cX9_init 67 = .ok (.invokespecial 40, 3) := by decide +kernel
theorem dX9_init_70 : decode cX9_init 70 = .ok (.putfield 43, 3) := by decide +kernel
theorem dX9_init_73 : decode cX9_init 73 = .ok (.aload_n 0, 1) := by decide +kernel
theorem dX9_init_74 : decode cX9_init 74 = .ok (.iconst 2, 1) := by decide +kernel
theorem dX9_init_75 : decode cX9_init 75 = .ok (.anewarray 31, 3) := by decide +kernel
theorem dX9_init_78 : decode cX9_init 78 = .ok (.putfield 47, 3) := by decide +kernel
theorem dX9_init_81 : decode cX9_init 81 = .ok (.iconst 0, 1) := by decide +kernel
theorem dX9_init_82 : decode cX9_init 82 = .ok (.istore_n 1, 1) := by decide +kernel
theorem dX9_init_83 : decode cX9_init 83 = .ok (.iload_n 1, 1) := by decide +kernel
theorem dX9_init_84 : decode cX9_init 84 = .ok (.iconst 2, 1) := by decide +kernel
theorem dX9_init_85 : decode cX9_init 85 = .ok (.if_icmp .ge 22, 3) := by decide +kernel
theorem dX9_init_88 : decode cX9_init 88 = .ok (.aload_n 0, 1) := by decide +kernel
theorem dX9_init_89 : decode cX9_init 89 = .ok (.getfield 47, 3) := by decide +kernel
theorem dX9_init_92 : decode cX9_init 92 = .ok (.iload_n 1, 1) := by decide +kernel
theorem dX9_init_93 : decode cX9_init 93 = .ok (.new 31, 3) := by decide +kernel
theorem dX9_init_96 : decode cX9_init 96 = .ok (.dup, 1) := by decide +kernel
theorem dX9_init_97 : decode cX9_init 97 = .ok (.invokespecial 33, 3) := by decide +kernel
theorem dX9_init_100 : decode cX9_init 100 = .ok (.aastore, 1) := by decide +kernel
theorem dX9_init_101 : decode cX9_init 101 = .ok (.iinc 1 1, 3) := by decide +kernel
theorem dX9_init_104 : decode cX9_init 104 = .ok (.goto (-21), 3) := by decide +kernel
theorem dX9_init_107 : decode cX9_init 107 = .ok (.aload_n 0, 1) := by decide +kernel
theorem dX9_init_108 : decode cX9_init 108 = .ok (.new 51, 3) := by decide +kernel
theorem dX9_init_111 : decode cX9_init 111 = .ok (.dup, 1) := by decide +kernel
theorem dX9_init_112 : decode cX9_init 112 = .ok (.aload_n 0, 1) := by decide +kernel
theorem dX9_init_113 : decode cX9_init 113 = .ok (.getfield 43, 3) := by decide +kernel
theorem dX9_init_116 : decode cX9_init 116 = .ok (.invokespecial 53, 3) := by decide +kernel
theorem dX9_init_119 : decode cX9_init 119 = .ok (.putfield 56, 3) := by decide +kernel
theorem dX9_init_122 : decode cX9_init 122 = .ok (.aload_n 0, 1) := by decide +kernel
theorem dX9_init_123 : decode cX9_init 123 = .ok (.new 60, 3) := by decide +kernel
theorem dX9_init_126 : decode cX9_init 126 = .ok (.dup, 1) := by decide +kernel
theorem dX9_init_127 : decode cX9_init 127 = .ok (.aload_n 0, 1) := by decide +kernel
theorem dX9_init_128 : decode cX9_init 128 = .ok (.getfield 43, 3) := by decide +kernel
theorem dX9_init_131 : decode cX9_init 131 = .ok (.invokespecial 62, 3) := by decide +kernel
theorem dX9_init_134 : decode cX9_init 134 = .ok (.putfield 63, 3) := by decide +kernel
theorem dX9_init_137 : decode cX9_init 137 = .ok (.aload_n 0, 1) := by decide +kernel
theorem dX9_init_138 : decode cX9_init 138 = .ok (.new 67, 3) := by decide +kernel
theorem dX9_init_141 : decode cX9_init 141 = .ok (.dup, 1) := by decide +kernel
theorem dX9_init_142 : decode cX9_init 142 = .ok (.aload_n 0, 1) := by decide +kernel
theorem dX9_init_143 : decode cX9_init 143 = .ok (.getfield 43, 3) := by decide +kernel
theorem dX9_init_146 : decode cX9_init 146 = .ok (.invokespecial 69, 3) := by decide +kernel
theorem dX9_init_149 : decode cX9_init 149 = .ok (.putfield 70, 3) := by decide +kernel
theorem dX9_init_152 : decode cX9_init 152 = .ok (.aload_n 0, 1) := by decide +kernel
theorem dX9_init_153 : decode cX9_init 153 = .ok (.bipush 30, 2) := by decide +kernel
theorem dX9_init_155 : decode cX9_init 155 = .ok (.newarray .int, 2) := by decide +kernel
theorem dX9_init_157 : decode cX9_init 157 = .ok (.putfield 74, 3) := by decide +kernel
theorem dX9_init_160 : decode cX9_init 160 = .ok (.return_, 1) := by decide +kernel
theorem dX9_feed_0 : decode cX9_feed 0 = .ok (.iload_n 1, 1) := by decide +kernel
theorem dX9_feed_1 : decode cX9_feed 1 = .ok (.iconst 0, 1) := by decide +kernel
theorem dX9_feed_2 : decode cX9_feed 2 = .ok (.sipush 255, 3) := by decide +kernel
theorem dX9_feed_5 : decode cX9_feed 5 = .ok (.invokestatic 77, 3) := by decide +kernel
theorem dX9_feed_8 : decode cX9_feed 8 = .ok (.ifCond .eq 6, 3) := by decide +kernel
theorem dX9_feed_11 : decode cX9_feed 11 = .ok (.ldc 81, 2) := by decide +kernel
theorem dX9_feed_13 : decode cX9_feed 13 = .ok (.ireturn, 1) := by decide +kernel
theorem dX9_feed_14 : decode cX9_feed 14 = .ok (.aload_n 0, 1) := by decide +kernel
theorem dX9_feed_15 : decode cX9_feed 15 = .ok (.getfield 82, 3) := by decide +kernel
theorem dX9_feed_18 : decode cX9_feed 18 = .ok (.sipush 250, 3) := by decide +kernel
theorem dX9_feed_21 : decode cX9_feed 21 = .ok (.if_icmp .lt 6, 3) := by decide +kernel
theorem dX9_feed_24 : decode cX9_feed 24 = .ok (.ldc 85, 2) := by decide +kernel
theorem dX9_feed_26 : decode cX9_feed 26 = .ok (.ireturn, 1) := by decide +kernel
theorem dX9_feed_27 : decode cX9_feed 27 = .ok (.aload_n 0, 1) := by decide +kernel
theorem dX9_feed_28 : decode cX9_feed 28 = .ok (.getfield 9, 3) := by decide +kernel
theorem dX9_feed_31 : decode cX9_feed 31 = .ok (.aload_n 0, 1) := by decide +kernel
theorem dX9_feed_32 : decode cX9_feed 32 = .ok (.getfield 82, 3) := by decide +kernel
theorem dX9_feed_35 : decode cX9_feed 35 = .ok (.iload_n 1, 1) := by decide +kernel
theorem dX9_feed_36 : decode cX9_feed 36 = .ok (.iastore, 1) := by decide +kernel
theorem dX9_feed_37 : decode cX9_feed 37 = .ok (.aload_n 0, 1) := by decide +kernel
theorem dX9_feed_38 : decode cX9_feed 38 = .ok (.dup, 1) := by decide +kernel
theorem dX9_feed_39 : decode cX9_feed 39 = .ok (.getfield 82, 3) := by decide +kernel
theorem dX9_feed_42 : decode cX9_feed 42 = .ok (.iconst 1, 1) := by decide +kernel
theorem dX9_feed_43 : decode cX9_feed 43 = .ok (.iadd, 1) := by decide +kernel
theorem dX9_feed_44 : decode cX9_feed 44 = .ok (.putfield 82, 3) := by decide +kernel
theorem dX9_feed_47 : decode cX9_feed 47 = .ok (.aload_n 0, 1) := by decide +kernel
theorem dX9_feed_48 : decode cX9_feed 48 = .ok (.getfield 82, 3) := by decide +kernel
theorem dX9_feed_51 : decode cX9_feed 51 = .ok (.ireturn, 1) := by decide +kernel
theorem dX9_ground_0 : decode cX9_ground 0 = .ok (.aload_n 0, 1) := by decide +kernel
theorem dX9_ground_1 : decode cX9_ground 1 = .ok (.getfield 20, 3) := by decide +kernel
theorem dX9_ground_4 : decode cX9_ground 4 = .ok (.aload_n 0, 1) := by decide +kernel
theorem dX9_ground_5 : decode cX9_ground 5 = .ok (.getfield 9, 3) := by decide +kernel
theorem dX9_ground_8 : decode cX9_ground 8 = .ok (.aload_n 0, 1) := by decide +kernel
theorem dX9_ground_9 : decode cX9_ground 9 = .ok (.getfield 82, 3) := by decide +kernel
theorem dX9_ground_12 : decode cX9_ground 12 = .ok (.aload_n 0, 1) := by decide +kernel
theorem dX9_ground_13 : decode cX9_ground 13 = .ok (.getfield 27, 3) := by decide +kernel
theorem dX9_ground_16 : decode cX9_ground 16 = .ok (.invokevirtual 86, 3) := by decide +kernel
theorem dX9_ground_19 : decode cX9_ground 19 = .ok (.istore_n 1, 1) := by decide +kernel
theorem dX9_ground_20 : decode cX9_ground 20 = .ok (.aload_n 0, 1) := by decide +kernel
theorem dX9_ground_21 : decode cX9_ground 21 = .ok (.iconst 0, 1) := by decide +kernel
theorem dX9_ground_22 : decode cX9_ground 22 = .ok (.putfield 82, 3) := by decide +kernel
theorem dX9_ground_25 : decode cX9_ground 25 = .ok (.iload_n 1, 1) := by decide +kernel
theorem dX9_ground_26 : decode cX9_ground 26 = .ok (.ifCond .eq 19, 3) := by decide +kernel
theorem dX9_ground_29 : decode cX9_ground 29 = .ok (.aload_n 0, 1) := by decide +kernel
theorem dX9_ground_30 : decode cX9_ground 30 = .ok (.aload_n 0, 1) := by decide +kernel
theorem dX9_ground_31 : decode cX9_ground 31 = .ok (.getfield 20, 3) := by decide +kernel
theorem dX9_ground_34 : decode cX9_ground 34 = .ok (.getfield 90, 3) := by decide +kernel
theorem dX9_ground_37 : decode cX9_ground 37 = .ok (.putfield 13, 3) := by decide +kernel
theorem dX9_ground_40 : decode cX9_ground 40 = .ok (.bipush (-10), 2) := by decide +kernel
theorem dX9_ground_42 : decode cX9_ground 42 = .ok (.iload_n 1, 1) := by decide +kernel
theorem dX9_ground_43 : decode cX9_ground 43 = .ok (.isub, 1) := by decide +kernel
theorem dX9_ground_44 : decode cX9_ground 44 = .ok (.ireturn, 1) := by decide +kernel
theorem dX9_ground_45 : decode cX9_ground 45 = .ok (.aload_n 0, 1) := by decide +kernel
theorem dX9_ground_46 : decode cX9_ground 46 = .ok (.iconst (-1), 1) := by decide +kernel
theorem dX9_ground_47 : decode cX9_ground 47 = .ok (.putfield 13, 3) := by decide +kernel
theorem dX9_ground_50 : decode cX9_ground 50 = .ok (.aload_n 0, 1) := by decide +kernel
theorem dX9_ground_51 : decode cX9_ground 51 = .ok (.getfield 43, 3) := by decide +kernel
theorem dX9_ground_54 : decode cX9_ground 54 = .ok (.getfield 91, 3) := by decide +kernel
theorem dX9_ground_57 : decode cX9_ground 57 = .ok (.astore_n 2, 1) := by decide +kernel
theorem dX9_ground_58 : decode cX9_ground 58 = .ok (.aload_n 0, 1) := by decide +kernel
theorem dX9_ground_59 : decode cX9_ground 59 = .ok (.getfield 43, 3) := by decide +kernel
theorem dX9_ground_62 : decode cX9_ground 62 = .ok (.aload_n 0, 1) := by decide +kernel
theorem dX9_ground_63 : decode cX9_ground 63 = .ok (.getfield 27, 3) := by decide +kernel
theorem dX9_ground_66 : decode cX9_ground 66 = .ok (.putfield 91, 3) := by decide +kernel
theorem dX9_ground_69 : decode cX9_ground 69 = .ok (.aload_n 0, 1) := by decide +kernel
theorem dX9_ground_70 : decode cX9_ground 70 = .ok (.aload_n 2, 1) := by decide +kernel
theorem dX9_ground_71 : decode cX9_ground 71 = .ok (.putfield 27, 3) := by decide +kernel
theorem dX9_ground_74 : decode cX9_ground 74 = .ok (.aload_n 0, 1) := by decide +kernel
theorem dX9_ground_75 : decode cX9_ground 75 = .ok (.invokevirtual 94, 3) := by decide +kernel
theorem dX9_ground_78 : decode cX9_ground 78 = .ok (.aload_n 0, 1) := by decide +kernel
theorem dX9_ground_79 : decode cX9_ground 79 = .ok (.getfield 43, 3) := by decide +kernel
theorem dX9_ground_82 : decode cX9_ground 82 = .ok (.getfield 91, 3) := by decide +kernel
theorem dX9_ground_85 : decode cX9_ground 85 = .ok (.getfield 97, 3) := by decide +kernel
theorem dX9_ground_88 : decode cX9_ground 88 = .ok (.ireturn, 1) := by decide +kernel
theorem dX9_startAnew_0 : decode cX9_startAnew 0 = .ok (.aload_n 0, 1) := by decide +kernel
theorem dX9_startAnew_1 : decode cX9_startAnew 1 = .ok (.getfield 34, 3) := by decide +kernel
theorem dX9_startAnew_4 : decode cX9_startAnew 4 = .ok (.invokevirtual 100, 3) := by decide +kernel
theorem dX9_startAnew_7 : decode cX9_startAnew 7 = .ok (.aload_n 0, 1) := by decide +kernel
theorem dX9_startAnew_8 : decode cX9_startAnew 8 = .ok (.getfield 70, 3) := by decide +kernel
theorem dX9_startAnew_11 : decode cX9_startAnew 11 = .ok (.iconst 0, 1) := by decide +kernel
theorem dX9_startAnew_12 : decode cX9_startAnew 12 = .ok (.putfield 103, 3) := by decide +kernel
theorem dX9_startAnew_15 : decode cX9_startAnew 15 = .ok (.aload_n 0, 1) := by decide +kernel
theorem dX9_startAnew_16 : decode cX9_startAnew 16 = .ok (.iconst 0, 1) := by decide +kernel
theorem dX9_startAnew_17 : decode cX9_startAnew 17 = .ok (.putfield 106, 3) := by decide +kernel
theorem dX9_startAnew_20 : decode cX9_startAnew 20 = .ok (.iconst 0, 1) := by decide +kernel
theorem dX9_startAnew_21 : decode cX9_startAnew 21 = .ok (.istore_n 1, 1) := by decide +kernel
theorem dX9_startAnew_22 : decode cX9_startAnew 22 = .ok (.iload_n 1, 1) := by decide +kernel
theorem dX9_startAnew_23 : decode cX9_startAnew 23 = .ok (.iconst 2, 1) := by decide +kernel
theorem dX9_startAnew_24 : decode cX9_startAnew 24 = .ok (.if_icmp .ge 19, 3) := by decide +kernel
theorem dX9_startAnew_27 : decode cX9_startAnew 27 = .ok (.aload_n 0, 1) := by decide +kernel
theorem dX9_startAnew_28 : decode cX9_startAnew 28 = .ok (.getfield 47, 3) := by decide +kernel
theorem dX9_startAnew_31 : decode cX9_startAnew 31 = .ok (.iload_n 1, 1) := by decide +kernel
theorem dX9_startAnew_32 : decode cX9_startAnew 32 = .ok (.aaload, 1) := by decide +kernel
theorem dX9_startAnew_33 : decode cX9_startAnew 33 = .ok (.iconst 0, 1) := by decide +kernel
theorem dX9_startAnew_34 : decode cX9_startAnew 34 = .ok (.putfield 109, 3) := by decide +kernel
theorem dX9_startAnew_37 : decode cX9_startAnew 37 = .ok (.iinc 1 1, 3) := by decide +kernel
theorem dX9_startAnew_40 : decode cX9_startAnew 40 = .ok (.goto (-18), 3) := by decide +kernel
theorem dX9_startAnew_43 : decode cX9_startAnew 43 = .ok (.return_, 1) := by decide +kernel
theorem dX9_fault_0 : decode cX9_fault 0 = .ok (.aload_n 0, 1) := by decide +kernel
theorem dX9_fault_1 : decode cX9_fault 1 = .ok (.getfield 13, 3) := by decide +kernel
theorem dX9_fault_4 : decode cX9_fault 4 = .ok (.ireturn, 1) := by decide +kernel
theorem dX9_told_0 : decode cX9_told 0 = .ok (.aload_n 0, 1) := by decide +kernel
theorem dX9_told_1 : decode cX9_told 1 = .ok (.getfield 43, 3) := by decide +kernel
theorem dX9_told_4 : decode cX9_told 4 = .ok (.getfield 91, 3) := by decide +kernel
theorem dX9_told_7 : decode cX9_told 7 = .ok (.astore_n 2, 1) := by decide +kernel
theorem dX9_told_8 : decode cX9_told 8 = .ok (.iload_n 1, 1) := by decide +kernel
theorem dX9_told_9 : decode cX9_told 9 = .ok (.tableswitch 181 0 14 #[75, 80, 85, 90, 98, 106, 114, 122, 127, 135, 140, 152, 160, 168, 176], 75) := by decide +kernel
theorem dX9_told_84 : decode cX9_told 84 = .ok (.aload_n 2, 1) := by decide +kernel
theorem dX9_told_85 : decode cX9_told 85 = .ok (.getfield 113, 3) := by decide +kernel
theorem dX9_told_88 : decode cX9_told 88 = .ok (.ireturn, 1) := by decide +kernel
theorem dX9_told_89 : decode cX9_told 89 = .ok (.aload_n 2, 1) := by decide +kernel
theorem dX9_told_90 : decode cX9_told 90 = .ok (.getfield 116, 3) := by decide +kernel
theorem dX9_told_93 : decode cX9_told 93 = .ok (.ireturn, 1) := by decide +kernel
theorem dX9_told_94 : decode cX9_told 94 = .ok (.aload_n 2, 1) := by decide +kernel
theorem dX9_told_95 : decode cX9_told 95 = .ok (.getfield 119, 3) := by decide +kernel
theorem dX9_told_98 : decode cX9_told 98 = .ok (.ireturn, 1) := by decide +kernel
theorem dX9_told_99 : decode cX9_told 99 = .ok (.aload_n 2, 1) := by decide +kernel
theorem dX9_told_100 : decode cX9_told 100 = .ok (.getfield 122, 3) := by decide +kernel
theorem dX9_told_103 : decode cX9_told 103 = .ok (.getfield 126, 3) := by decide +kernel
theorem dX9_told_106 : decode cX9_told 106 = .ok (.ireturn, 1) := by decide +kernel
theorem dX9_told_107 : decode cX9_told 107 = .ok (.aload_n 2, 1) := by decide +kernel
theorem dX9_told_108 : decode cX9_told 108 = .ok (.getfield 129, 3) := by decide +kernel
theorem dX9_told_111 : decode cX9_told 111 = .ok (.getfield 126, 3) := by decide +kernel
theorem dX9_told_114 : decode cX9_told 114 = .ok (.ireturn, 1) := by decide +kernel
theorem dX9_told_115 : decode cX9_told 115 = .ok (.aload_n 2, 1) := by decide +kernel
theorem dX9_told_116 : decode cX9_told 116 = .ok (.getfield 132, 3) := by decide +kernel
theorem dX9_told_119 : decode cX9_told 119 = .ok (.getfield 126, 3) := by decide +kernel
theorem dX9_told_122 : decode cX9_told 122 = .ok (.ireturn, 1) := by decide +kernel
theorem dX9_told_123 : decode cX9_told 123 = .ok (.aload_n 2, 1) := by decide +kernel
theorem dX9_told_124 : decode cX9_told 124 = .ok (.getfield 134, 3) := by decide +kernel
theorem dX9_told_127 : decode cX9_told 127 = .ok (.getfield 126, 3) := by decide +kernel
theorem dX9_told_130 : decode cX9_told 130 = .ok (.ireturn, 1) := by decide +kernel
theorem dX9_told_131 : decode cX9_told 131 = .ok (.aload_n 0, 1) := by decide +kernel
theorem dX9_told_132 : decode cX9_told 132 = .ok (.getfield 82, 3) := by decide +kernel
theorem dX9_told_135 : decode cX9_told 135 = .ok (.ireturn, 1) := by decide +kernel
theorem dX9_told_136 : decode cX9_told 136 = .ok (.aload_n 0, 1) := by decide +kernel
theorem dX9_told_137 : decode cX9_told 137 = .ok (.getfield 34, 3) := by decide +kernel
theorem dX9_told_140 : decode cX9_told 140 = .ok (.getfield 137, 3) := by decide +kernel
theorem dX9_told_143 : decode cX9_told 143 = .ok (.ireturn, 1) := by decide +kernel
theorem dX9_told_144 : decode cX9_told 144 = .ok (.aload_n 2, 1) := by decide +kernel
theorem dX9_told_145 : decode cX9_told 145 = .ok (.invokevirtual 140, 3) := by decide +kernel
theorem dX9_told_148 : decode cX9_told 148 = .ok (.ireturn, 1) := by decide +kernel
theorem dX9_told_149 : decode cX9_told 149 = .ok (.aload_n 2, 1) := by decide +kernel
theorem dX9_told_150 : decode cX9_told 150 = .ok (.aload_n 0, 1) := by decide +kernel
theorem dX9_told_151 : decode cX9_told 151 = .ok (.getfield 34, 3) := by decide +kernel
theorem dX9_told_154 : decode cX9_told 154 = .ok (.getfield 144, 3) := by decide +kernel
theorem dX9_told_157 : decode cX9_told 157 = .ok (.invokevirtual 147, 3) := by decide +kernel
theorem dX9_told_160 : decode cX9_told 160 = .ok (.ireturn, 1) := by decide +kernel
theorem dX9_told_161 : decode cX9_told 161 = .ok (.aload_n 0, 1) := by decide +kernel
theorem dX9_told_162 : decode cX9_told 162 = .ok (.getfield 34, 3) := by decide +kernel
theorem dX9_told_165 : decode cX9_told 165 = .ok (.getfield 151, 3) := by decide +kernel
theorem dX9_told_168 : decode cX9_told 168 = .ok (.ireturn, 1) := by decide +kernel
theorem dX9_told_169 : decode cX9_told 169 = .ok (.aload_n 0, 1) := by decide +kernel
theorem dX9_told_170 : decode cX9_told 170 = .ok (.getfield 34, 3) := by decide +kernel
theorem dX9_told_173 : decode cX9_told 173 = .ok (.getfield 154, 3) := by decide +kernel
theorem dX9_told_176 : decode cX9_told 176 = .ok (.ireturn, 1) := by decide +kernel
theorem dX9_told_177 : decode cX9_told 177 = .ok (.aload_n 0, 1) := by decide +kernel
theorem dX9_told_178 : decode cX9_told 178 = .ok (.getfield 70, 3) := by decide +kernel
theorem dX9_told_181 : decode cX9_told 181 = .ok (.getfield 103, 3) := by decide +kernel
theorem dX9_told_184 : decode cX9_told 184 = .ok (.ireturn, 1) := by decide +kernel
theorem dX9_told_185 : decode cX9_told 185 = .ok (.aload_n 0, 1) := by decide +kernel
theorem dX9_told_186 : decode cX9_told 186 = .ok (.getfield 106, 3) := by decide +kernel
theorem dX9_told_189 : decode cX9_told 189 = .ok (.ireturn, 1) := by decide +kernel
theorem dX9_told_190 : decode cX9_told 190 = .ok (.ldc 81, 2) := by decide +kernel
theorem dX9_told_192 : decode cX9_told 192 = .ok (.ireturn, 1) := by decide +kernel
theorem dX9_cell_0 : decode cX9_cell 0 = .ok (.aload_n 0, 1) := by decide +kernel
theorem dX9_cell_1 : decode cX9_cell 1 = .ok (.getfield 43, 3) := by decide +kernel
theorem dX9_cell_4 : decode cX9_cell 4 = .ok (.getfield 91, 3) := by decide +kernel
theorem dX9_cell_7 : decode cX9_cell 7 = .ok (.iload_n 1, 1) := by decide +kernel
theorem dX9_cell_8 : decode cX9_cell 8 = .ok (.iload_n 2, 1) := by decide +kernel
theorem dX9_cell_9 : decode cX9_cell 9 = .ok (.invokevirtual 157, 3) := by decide +kernel
theorem dX9_cell_12 : decode cX9_cell 12 = .ok (.istore 4, 2) := by decide +kernel
theorem dX9_cell_14 : decode cX9_cell 14 = .ok (.iload 4, 2) := by decide +kernel
theorem dX9_cell_16 : decode cX9_cell 16 = .ok (.iconst (-1), 1) := by decide +kernel
theorem dX9_cell_17 : decode cX9_cell 17 = .ok (.if_icmp .ne 6, 3) := by decide +kernel
theorem dX9_cell_20 : decode cX9_cell 20 = .ok (.ldc 161, 2) := by decide +kernel
theorem dX9_cell_22 : decode cX9_cell 22 = .ok (.ireturn, 1) := by decide +kernel
theorem dX9_cell_23 : decode cX9_cell 23 = .ok (.iload_n 3, 1) := by decide +kernel
theorem dX9_cell_24 : decode cX9_cell 24 = .ok (.tableswitch 147 0 6 #[44, 58, 72, 83, 93, 111, 129], 44) := by decide +kernel
theorem dX9_cell_68 : decode cX9_cell 68 = .ok (.aload_n 0, 1) := by decide +kernel
theorem dX9_cell_69 : decode cX9_cell 69 = .ok (.getfield 43, 3) := by decide +kernel
theorem dX9_cell_72 : decode cX9_cell 72 = .ok (.getfield 91, 3) := by decide +kernel
theorem dX9_cell_75 : decode cX9_cell 75 = .ok (.getfield 162, 3) := by decide +kernel
theorem dX9_cell_78 : decode cX9_cell 78 = .ok (.iload 4, 2) := by decide +kernel
theorem dX9_cell_80 : decode cX9_cell 80 = .ok (.iaload, 1) := by decide +kernel
theorem dX9_cell_81 : decode cX9_cell 81 = .ok (.ireturn, 1) := by decide +kernel
theorem dX9_cell_82 : decode cX9_cell 82 = .ok (.aload_n 0, 1) := by decide +kernel
theorem dX9_cell_83 : decode cX9_cell 83 = .ok (.getfield 43, 3) := by decide +kernel
theorem dX9_cell_86 : decode cX9_cell 86 = .ok (.getfield 91, 3) := by decide +kernel
theorem dX9_cell_89 : decode cX9_cell 89 = .ok (.getfield 165, 3) := by decide +kernel
theorem dX9_cell_92 : decode cX9_cell 92 = .ok (.iload 4, 2) := by decide +kernel
theorem dX9_cell_94 : decode cX9_cell 94 = .ok (.iaload, 1) := by decide +kernel
theorem dX9_cell_95 : decode cX9_cell 95 = .ok (.ireturn, 1) := by decide +kernel
theorem dX9_cell_96 : decode cX9_cell 96 = .ok (.aload_n 0, 1) := by decide +kernel
theorem dX9_cell_97 : decode cX9_cell 97 = .ok (.getfield 34, 3) := by decide +kernel
theorem dX9_cell_100 : decode cX9_cell 100 = .ok (.getfield 168, 3) := by decide +kernel
theorem dX9_cell_103 : decode cX9_cell 103 = .ok (.iload 4, 2) := by decide +kernel
theorem dX9_cell_105 : decode cX9_cell 105 = .ok (.iaload, 1) := by decide +kernel
theorem dX9_cell_106 : decode cX9_cell 106 = .ok (.ireturn, 1) := by decide +kernel
theorem dX9_cell_107 : decode cX9_cell 107 = .ok (.aload_n 0, 1) := by decide +kernel
theorem dX9_cell_108 : decode cX9_cell 108 = .ok (.getfield 43, 3) := by decide +kernel
theorem dX9_cell_111 : decode cX9_cell 111 = .ok (.iload 4, 2) := by decide +kernel
theorem dX9_cell_113 : decode cX9_cell 113 = .ok (.invokevirtual 171, 3) := by decide +kernel
theorem dX9_cell_116 : decode cX9_cell 116 = .ok (.ireturn, 1) := by decide +kernel
theorem dX9_cell_117 : decode cX9_cell 117 = .ok (.aload_n 0, 1) := by decide +kernel
theorem dX9_cell_118 : decode cX9_cell 118 = .ok (.getfield 43, 3) := by decide +kernel
theorem dX9_cell_121 : decode cX9_cell 121 = .ok (.iload 4, 2) := by decide +kernel
theorem dX9_cell_123 : decode cX9_cell 123 = .ok (.aload_n 0, 1) := by decide +kernel
theorem dX9_cell_124 : decode cX9_cell 124 = .ok (.getfield 34, 3) := by decide +kernel
theorem dX9_cell_127 : decode cX9_cell 127 = .ok (.getfield 137, 3) := by decide +kernel
theorem dX9_cell_130 : decode cX9_cell 130 = .ok (.iconst (-1), 1) := by decide +kernel
theorem dX9_cell_131 : decode cX9_cell 131 = .ok (.invokevirtual 174, 3) := by decide +kernel
theorem dX9_cell_134 : decode cX9_cell 134 = .ok (.ireturn, 1) := by decide +kernel
theorem dX9_cell_135 : decode cX9_cell 135 = .ok (.aload_n 0, 1) := by decide +kernel
theorem dX9_cell_136 : decode cX9_cell 136 = .ok (.getfield 43, 3) := by decide +kernel
theorem dX9_cell_139 : decode cX9_cell 139 = .ok (.iload 4, 2) := by decide +kernel
theorem dX9_cell_141 : decode cX9_cell 141 = .ok (.aload_n 0, 1) := by decide +kernel
theorem dX9_cell_142 : decode cX9_cell 142 = .ok (.getfield 34, 3) := by decide +kernel
theorem dX9_cell_145 : decode cX9_cell 145 = .ok (.getfield 137, 3) := by decide +kernel
theorem dX9_cell_148 : decode cX9_cell 148 = .ok (.iconst (-1), 1) := by decide +kernel
theorem dX9_cell_149 : decode cX9_cell 149 = .ok (.invokevirtual 178, 3) := by decide +kernel
theorem dX9_cell_152 : decode cX9_cell 152 = .ok (.ireturn, 1) := by decide +kernel
theorem dX9_cell_153 : decode cX9_cell 153 = .ok (.aload_n 0, 1) := by decide +kernel
theorem dX9_cell_154 : decode cX9_cell 154 = .ok (.getfield 43, 3) := by decide +kernel
theorem dX9_cell_157 : decode cX9_cell 157 = .ok (.iload 4, 2) := by decide +kernel
theorem dX9_cell_159 : decode cX9_cell 159 = .ok (.aload_n 0, 1) := by decide +kernel
theorem dX9_cell_160 : decode cX9_cell 160 = .ok (.getfield 34, 3) := by decide +kernel
theorem dX9_cell_163 : decode cX9_cell 163 = .ok (.getfield 137, 3) := by decide +kernel
theorem dX9_cell_166 : decode cX9_cell 166 = .ok (.iconst (-1), 1) := by decide +kernel
theorem dX9_cell_167 : decode cX9_cell 167 = .ok (.invokevirtual 181, 3) := by decide +kernel
theorem dX9_cell_170 : decode cX9_cell 170 = .ok (.ireturn, 1) := by decide +kernel
theorem dX9_cell_171 : decode cX9_cell 171 = .ok (.ldc 81, 2) := by decide +kernel
theorem dX9_cell_173 : decode cX9_cell 173 = .ok (.ireturn, 1) := by decide +kernel
theorem dX9_height_0 : decode cX9_height 0 = .ok (.aload_n 0, 1) := by decide +kernel
theorem dX9_height_1 : decode cX9_height 1 = .ok (.getfield 43, 3) := by decide +kernel
theorem dX9_height_4 : decode cX9_height 4 = .ok (.getfield 91, 3) := by decide +kernel
theorem dX9_height_7 : decode cX9_height 7 = .ok (.iload_n 1, 1) := by decide +kernel
theorem dX9_height_8 : decode cX9_height 8 = .ok (.iload_n 2, 1) := by decide +kernel
theorem dX9_height_9 : decode cX9_height 9 = .ok (.invokevirtual 157, 3) := by decide +kernel
theorem dX9_height_12 : decode cX9_height 12 = .ok (.istore 4, 2) := by decide +kernel
theorem dX9_height_14 : decode cX9_height 14 = .ok (.iload 4, 2) := by decide +kernel
theorem dX9_height_16 : decode cX9_height 16 = .ok (.iconst (-1), 1) := by decide +kernel
theorem dX9_height_17 : decode cX9_height 17 = .ok (.if_icmp .ne 6, 3) := by decide +kernel
theorem dX9_height_20 : decode cX9_height 20 = .ok (.ldc 161, 2) := by decide +kernel
theorem dX9_height_22 : decode cX9_height 22 = .ok (.ireturn, 1) := by decide +kernel
theorem dX9_height_23 : decode cX9_height 23 = .ok (.iload_n 3, 1) := by decide +kernel
theorem dX9_height_24 : decode cX9_height 24 = .ok (.iconst 0, 1) := by decide +kernel
theorem dX9_height_25 : decode cX9_height 25 = .ok (.ldc 184, 2) := by decide +kernel
theorem dX9_height_27 : decode cX9_height 27 = .ok (.invokestatic 77, 3) := by decide +kernel
theorem dX9_height_30 : decode cX9_height 30 = .ok (.ifCond .eq 6, 3) := by decide +kernel
theorem dX9_height_33 : decode cX9_height 33 = .ok (.ldc 81, 2) := by decide +kernel
theorem dX9_height_35 : decode cX9_height 35 = .ok (.ireturn, 1) := by decide +kernel
theorem dX9_height_36 : decode cX9_height 36 = .ok (.aload_n 0, 1) := by decide +kernel
theorem dX9_height_37 : decode cX9_height 37 = .ok (.getfield 43, 3) := by decide +kernel
theorem dX9_height_40 : decode cX9_height 40 = .ok (.iload 4, 2) := by decide +kernel
theorem dX9_height_42 : decode cX9_height 42 = .ok (.iload_n 3, 1) := by decide +kernel
theorem dX9_height_43 : decode cX9_height 43 = .ok (.iconst (-1), 1) := by decide +kernel
theorem dX9_height_44 : decode cX9_height 44 = .ok (.invokevirtual 178, 3) := by decide +kernel
theorem dX9_height_47 : decode cX9_height 47 = .ok (.ireturn, 1) := by decide +kernel
theorem dX9_moon_0 : decode cX9_moon 0 = .ok (.aload_n 0, 1) := by decide +kernel
theorem dX9_moon_1 : decode cX9_moon 1 = .ok (.iload_n 1, 1) := by decide +kernel
theorem dX9_moon_2 : decode cX9_moon 2 = .ok (.invokevirtual 185, 3) := by decide +kernel
theorem dX9_moon_5 : decode cX9_moon 5 = .ok (.ifCond .eq 6, 3) := by decide +kernel
theorem dX9_moon_8 : decode cX9_moon 8 = .ok (.ldc 161, 2) := by decide +kernel
theorem dX9_moon_10 : decode cX9_moon 10 = .ok (.ireturn, 1) := by decide +kernel
theorem dX9_moon_11 : decode cX9_moon 11 = .ok (.aload_n 0, 1) := by decide +kernel
theorem dX9_moon_12 : decode cX9_moon 12 = .ok (.getfield 43, 3) := by decide +kernel
theorem dX9_moon_15 : decode cX9_moon 15 = .ok (.getfield 91, 3) := by decide +kernel
theorem dX9_moon_18 : decode cX9_moon 18 = .ok (.getfield 189, 3) := by decide +kernel
theorem dX9_moon_21 : decode cX9_moon 21 = .ok (.iload_n 1, 1) := by decide +kernel
theorem dX9_moon_22 : decode cX9_moon 22 = .ok (.aaload, 1) := by decide +kernel
theorem dX9_moon_23 : decode cX9_moon 23 = .ok (.astore_n 3, 1) := by decide +kernel
theorem dX9_moon_24 : decode cX9_moon 24 = .ok (.iload_n 2, 1) := by decide +kernel
theorem dX9_moon_25 : decode cX9_moon 25 = .ok (.tableswitch 82 0 4 #[35, 40, 45, 50, 60], 35) := by decide +kernel
theorem dX9_moon_60 : decode cX9_moon 60 = .ok (.aload_n 3, 1) := by decide +kernel
theorem dX9_moon_61 : decode cX9_moon 61 = .ok (.getfield 193, 3) := by decide +kernel
theorem dX9_moon_64 : decode cX9_moon 64 = .ok (.ireturn, 1) := by decide +kernel
theorem dX9_moon_65 : decode cX9_moon 65 = .ok (.aload_n 3, 1) := by decide +kernel
theorem dX9_moon_66 : decode cX9_moon 66 = .ok (.getfield 198, 3) := by decide +kernel
theorem dX9_moon_69 : decode cX9_moon 69 = .ok (.ireturn, 1) := by decide +kernel
theorem dX9_moon_70 : decode cX9_moon 70 = .ok (.aload_n 3, 1) := by decide +kernel
theorem dX9_moon_71 : decode cX9_moon 71 = .ok (.getfield 201, 3) := by decide +kernel
theorem dX9_moon_74 : decode cX9_moon 74 = .ok (.ireturn, 1) := by decide +kernel
theorem dX9_moon_75 : decode cX9_moon 75 = .ok (.aload_n 0, 1) := by decide +kernel
theorem dX9_moon_76 : decode cX9_moon 76 = .ok (.getfield 34, 3) := by decide +kernel
theorem dX9_moon_79 : decode cX9_moon 79 = .ok (.getfield 204, 3) := by decide +kernel
theorem dX9_moon_82 : decode cX9_moon 82 = .ok (.iload_n 1, 1) := by decide +kernel
theorem dX9_moon_83 : decode cX9_moon 83 = .ok (.iaload, 1) := by decide +kernel
theorem dX9_moon_84 : decode cX9_moon 84 = .ok (.ireturn, 1) := by decide +kernel
theorem dX9_moon_85 : decode cX9_moon 85 = .ok (.aload_n 3, 1) := by decide +kernel
theorem dX9_moon_86 : decode cX9_moon 86 = .ok (.iconst 0, 1) := by decide +kernel
theorem dX9_moon_87 : decode cX9_moon 87 = .ok (.aload_n 0, 1) := by decide +kernel
theorem dX9_moon_88 : decode cX9_moon 88 = .ok (.getfield 34, 3) := by decide +kernel
theorem dX9_moon_91 : decode cX9_moon 91 = .ok (.getfield 137, 3) := by decide +kernel
theorem dX9_moon_94 : decode cX9_moon 94 = .ok (.aload_n 0, 1) := by decide +kernel
theorem dX9_moon_95 : decode cX9_moon 95 = .ok (.getfield 34, 3) := by decide +kernel
theorem dX9_moon_98 : decode cX9_moon 98 = .ok (.getfield 204, 3) := by decide +kernel
theorem dX9_moon_101 : decode cX9_moon 101 = .ok (.iload_n 1, 1) := by decide +kernel
theorem dX9_moon_102 : decode cX9_moon 102 = .ok (.iaload, 1) := by decide +kernel
theorem dX9_moon_103 : decode cX9_moon 103 = .ok (.invokevirtual 207, 3) := by decide +kernel
theorem dX9_moon_106 : decode cX9_moon 106 = .ok (.ireturn, 1) := by decide +kernel
theorem dX9_moon_107 : decode cX9_moon 107 = .ok (.ldc 81, 2) := by decide +kernel
theorem dX9_moon_109 : decode cX9_moon 109 = .ok (.ireturn, 1) := by decide +kernel
theorem dX9_house_0 : decode cX9_house 0 = .ok (.aload_n 0, 1) := by decide +kernel
theorem dX9_house_1 : decode cX9_house 1 = .ok (.getfield 43, 3) := by decide +kernel
theorem dX9_house_4 : decode cX9_house 4 = .ok (.getfield 91, 3) := by decide +kernel
theorem dX9_house_7 : decode cX9_house 7 = .ok (.getfield 122, 3) := by decide +kernel
theorem dX9_house_10 : decode cX9_house 10 = .ok (.astore_n 3, 1) := by decide +kernel
theorem dX9_house_11 : decode cX9_house 11 = .ok (.aload_n 3, 1) := by decide +kernel
theorem dX9_house_12 : decode cX9_house 12 = .ok (.iload_n 1, 1) := by decide +kernel
theorem dX9_house_13 : decode cX9_house 13 = .ok (.invokevirtual 210, 3) := by decide +kernel
theorem dX9_house_16 : decode cX9_house 16 = .ok (.ifCond .ne 6, 3) := by decide +kernel
theorem dX9_house_19 : decode cX9_house 19 = .ok (.ldc 161, 2) := by decide +kernel
theorem dX9_house_21 : decode cX9_house 21 = .ok (.ireturn, 1) := by decide +kernel
theorem dX9_house_22 : decode cX9_house 22 = .ok (.iload_n 2, 1) := by decide +kernel
theorem dX9_house_23 : decode cX9_house 23 = .ok (.tableswitch 100 0 4 #[33, 50, 57, 67, 91], 33) := by decide +kernel
theorem dX9_house_56 : decode cX9_house 56 = .ok (.aload_n 0, 1) := by decide +kernel
theorem dX9_house_57 : decode cX9_house 57 = .ok (.getfield 43, 3) := by decide +kernel
theorem dX9_house_60 : decode cX9_house 60 = .ok (.getfield 91, 3) := by decide +kernel
theorem dX9_house_63 : decode cX9_house 63 = .ok (.aload_n 3, 1) := by decide +kernel
theorem dX9_house_64 : decode cX9_house 64 = .ok (.getfield 213, 3) := by decide +kernel
theorem dX9_house_67 : decode cX9_house 67 = .ok (.iload_n 1, 1) := by decide +kernel
theorem dX9_house_68 : decode cX9_house 68 = .ok (.iaload, 1) := by decide +kernel
theorem dX9_house_69 : decode cX9_house 69 = .ok (.invokevirtual 147, 3) := by decide +kernel
theorem dX9_house_72 : decode cX9_house 72 = .ok (.ireturn, 1) := by decide +kernel
theorem dX9_house_73 : decode cX9_house 73 = .ok (.aload_n 3, 1) := by decide +kernel
theorem dX9_house_74 : decode cX9_house 74 = .ok (.getfield 216, 3) := by decide +kernel
theorem dX9_house_77 : decode cX9_house 77 = .ok (.iload_n 1, 1) := by decide +kernel
theorem dX9_house_78 : decode cX9_house 78 = .ok (.iaload, 1) := by decide +kernel
theorem dX9_house_79 : decode cX9_house 79 = .ok (.ireturn, 1) := by decide +kernel
theorem dX9_house_80 : decode cX9_house 80 = .ok (.aload_n 0, 1) := by decide +kernel
theorem dX9_house_81 : decode cX9_house 81 = .ok (.getfield 34, 3) := by decide +kernel
theorem dX9_house_84 : decode cX9_house 84 = .ok (.getfield 219, 3) := by decide +kernel
theorem dX9_house_87 : decode cX9_house 87 = .ok (.iload_n 1, 1) := by decide +kernel
theorem dX9_house_88 : decode cX9_house 88 = .ok (.iaload, 1) := by decide +kernel
theorem dX9_house_89 : decode cX9_house 89 = .ok (.ireturn, 1) := by decide +kernel
theorem dX9_house_90 : decode cX9_house 90 = .ok (.aload_n 0, 1) := by decide +kernel
theorem dX9_house_91 : decode cX9_house 91 = .ok (.getfield 43, 3) := by decide +kernel
theorem dX9_house_94 : decode cX9_house 94 = .ok (.iload_n 1, 1) := by decide +kernel
theorem dX9_house_95 : decode cX9_house 95 = .ok (.aload_n 0, 1) := by decide +kernel
theorem dX9_house_96 : decode cX9_house 96 = .ok (.getfield 34, 3) := by decide +kernel
theorem dX9_house_99 : decode cX9_house 99 = .ok (.getfield 137, 3) := by decide +kernel
theorem dX9_house_102 : decode cX9_house 102 = .ok (.invokevirtual 222, 3) := by decide +kernel
theorem dX9_house_105 : decode cX9_house 105 = .ok (.ifCond .eq 7, 3) := by decide +kernel
theorem dX9_house_108 : decode cX9_house 108 = .ok (.iconst 1, 1) := by decide +kernel
theorem dX9_house_109 : decode cX9_house 109 = .ok (.goto 4, 3) := by decide +kernel
theorem dX9_house_112 : decode cX9_house 112 = .ok (.iconst 0, 1) := by decide +kernel
theorem dX9_house_113 : decode cX9_house 113 = .ok (.ireturn, 1) := by decide +kernel
theorem dX9_house_114 : decode cX9_house 114 = .ok (.aload_n 0, 1) := by decide +kernel
theorem dX9_house_115 : decode cX9_house 115 = .ok (.getfield 43, 3) := by decide +kernel
theorem dX9_house_118 : decode cX9_house 118 = .ok (.iload_n 1, 1) := by decide +kernel
theorem dX9_house_119 : decode cX9_house 119 = .ok (.invokevirtual 226, 3) := by decide +kernel
theorem dX9_house_122 : decode cX9_house 122 = .ok (.ireturn, 1) := by decide +kernel
theorem dX9_house_123 : decode cX9_house 123 = .ok (.ldc 81, 2) := by decide +kernel
theorem dX9_house_125 : decode cX9_house 125 = .ok (.ireturn, 1) := by decide +kernel
theorem dX9_crack_0 : decode cX9_crack 0 = .ok (.aload_n 0, 1) := by decide +kernel
theorem dX9_crack_1 : decode cX9_crack 1 = .ok (.getfield 43, 3) := by decide +kernel
theorem dX9_crack_4 : decode cX9_crack 4 = .ok (.getfield 91, 3) := by decide +kernel
theorem dX9_crack_7 : decode cX9_crack 7 = .ok (.getfield 129, 3) := by decide +kernel
theorem dX9_crack_10 : decode cX9_crack 10 = .ok (.iload_n 1, 1) := by decide +kernel
theorem dX9_crack_11 : decode cX9_crack 11 = .ok (.invokevirtual 210, 3) := by decide +kernel
theorem dX9_crack_14 : decode cX9_crack 14 = .ok (.ifCond .ne 6, 3) := by decide +kernel
theorem dX9_crack_17 : decode cX9_crack 17 = .ok (.ldc 161, 2) := by decide +kernel
theorem dX9_crack_19 : decode cX9_crack 19 = .ok (.ireturn, 1) := by decide +kernel
theorem dX9_crack_20 : decode cX9_crack 20 = .ok (.iload_n 2, 1) := by decide +kernel
theorem dX9_crack_21 : decode cX9_crack 21 = .ok (.iconst 0, 1) := by decide +kernel
theorem dX9_crack_22 : decode cX9_crack 22 = .ok (.ldc 184, 2) := by decide +kernel
theorem dX9_crack_24 : decode cX9_crack 24 = .ok (.invokestatic 77, 3) := by decide +kernel
theorem dX9_crack_27 : decode cX9_crack 27 = .ok (.ifCond .eq 6, 3) := by decide +kernel
theorem dX9_crack_30 : decode cX9_crack 30 = .ok (.ldc 81, 2) := by decide +kernel
theorem dX9_crack_32 : decode cX9_crack 32 = .ok (.ireturn, 1) := by decide +kernel
theorem dX9_crack_33 : decode cX9_crack 33 = .ok (.aload_n 0, 1) := by decide +kernel
theorem dX9_crack_34 : decode cX9_crack 34 = .ok (.getfield 43, 3) := by decide +kernel
theorem dX9_crack_37 : decode cX9_crack 37 = .ok (.iload_n 1, 1) := by decide +kernel
theorem dX9_crack_38 : decode cX9_crack 38 = .ok (.iload_n 2, 1) := by decide +kernel
theorem dX9_crack_39 : decode cX9_crack 39 = .ok (.invokevirtual 229, 3) := by decide +kernel
theorem dX9_crack_42 : decode cX9_crack 42 = .ok (.ifCond .eq 7, 3) := by decide +kernel
theorem dX9_crack_45 : decode cX9_crack 45 = .ok (.iconst 1, 1) := by decide +kernel
theorem dX9_crack_46 : decode cX9_crack 46 = .ok (.goto 4, 3) := by decide +kernel
theorem dX9_crack_49 : decode cX9_crack 49 = .ok (.iconst 0, 1) := by decide +kernel
theorem dX9_crack_50 : decode cX9_crack 50 = .ok (.ireturn, 1) := by decide +kernel
theorem dX9_pass_0 : decode cX9_pass 0 = .ok (.iload_n 1, 1) := by decide +kernel
theorem dX9_pass_1 : decode cX9_pass 1 = .ok (.iconst 1, 1) := by decide +kernel
theorem dX9_pass_2 : decode cX9_pass 2 = .ok (.sipush 9999, 3) := by decide +kernel
theorem dX9_pass_5 : decode cX9_pass 5 = .ok (.invokestatic 77, 3) := by decide +kernel
theorem dX9_pass_8 : decode cX9_pass 8 = .ok (.ifCond .eq 6, 3) := by decide +kernel
theorem dX9_pass_11 : decode cX9_pass 11 = .ok (.ldc 81, 2) := by decide +kernel
theorem dX9_pass_13 : decode cX9_pass 13 = .ok (.ireturn, 1) := by decide +kernel
theorem dX9_pass_14 : decode cX9_pass 14 = .ok (.aload_n 0, 1) := by decide +kernel
theorem dX9_pass_15 : decode cX9_pass 15 = .ok (.getfield 34, 3) := by decide +kernel
theorem dX9_pass_18 : decode cX9_pass 18 = .ok (.getfield 137, 3) := by decide +kernel
theorem dX9_pass_21 : decode cX9_pass 21 = .ok (.iload_n 1, 1) := by decide +kernel
theorem dX9_pass_22 : decode cX9_pass 22 = .ok (.iadd, 1) := by decide +kernel
theorem dX9_pass_23 : decode cX9_pass 23 = .ok (.ldc 232, 2) := by decide +kernel
theorem dX9_pass_25 : decode cX9_pass 25 = .ok (.if_icmp .le 6, 3) := by decide +kernel
theorem dX9_pass_28 : decode cX9_pass 28 = .ok (.ldc 85, 2) := by decide +kernel
theorem dX9_pass_30 : decode cX9_pass 30 = .ok (.ireturn, 1) := by decide +kernel
theorem dX9_pass_31 : decode cX9_pass 31 = .ok (.aload_n 0, 1) := by decide +kernel
theorem dX9_pass_32 : decode cX9_pass 32 = .ok (.getfield 34, 3) := by decide +kernel
theorem dX9_pass_35 : decode cX9_pass 35 = .ok (.dup, 1) := by decide +kernel
theorem dX9_pass_36 : decode cX9_pass 36 = .ok (.getfield 137, 3) := by decide +kernel
theorem dX9_pass_39 : decode cX9_pass 39 = .ok (.iload_n 1, 1) := by decide +kernel
theorem dX9_pass_40 : decode cX9_pass 40 = .ok (.iadd, 1) := by decide +kernel
theorem dX9_pass_41 : decode cX9_pass 41 = .ok (.putfield 137, 3) := by decide +kernel
theorem dX9_pass_44 : decode cX9_pass 44 = .ok (.aload_n 0, 1) := by decide +kernel
theorem dX9_pass_45 : decode cX9_pass 45 = .ok (.getfield 34, 3) := by decide +kernel
theorem dX9_pass_48 : decode cX9_pass 48 = .ok (.getfield 137, 3) := by decide +kernel
theorem dX9_pass_51 : decode cX9_pass 51 = .ok (.ireturn, 1) := by decide +kernel
theorem dX9_roll_0 : decode cX9_roll 0 = .ok (.iload_n 1, 1) := by decide +kernel
theorem dX9_roll_1 : decode cX9_roll 1 = .ok (.invokestatic 233, 3) := by decide +kernel
theorem dX9_roll_4 : decode cX9_roll 4 = .ok (.ifCond .eq 6, 3) := by decide +kernel
theorem dX9_roll_7 : decode cX9_roll 7 = .ok (.ldc 81, 2) := by decide +kernel
theorem dX9_roll_9 : decode cX9_roll 9 = .ok (.ireturn, 1) := by decide +kernel
theorem dX9_roll_10 : decode cX9_roll 10 = .ok (.aload_n 0, 1) := by decide +kernel
theorem dX9_roll_11 : decode cX9_roll 11 = .ok (.getfield 43, 3) := by decide +kernel
theorem dX9_roll_14 : decode cX9_roll 14 = .ok (.getfield 91, 3) := by decide +kernel
theorem dX9_roll_17 : decode cX9_roll 17 = .ok (.getfield 97, 3) := by decide +kernel
theorem dX9_roll_20 : decode cX9_roll 20 = .ok (.ifCond .ne 6, 3) := by decide +kernel
theorem dX9_roll_23 : decode cX9_roll 23 = .ok (.ldc 236, 2) := by decide +kernel
theorem dX9_roll_25 : decode cX9_roll 25 = .ok (.ireturn, 1) := by decide +kernel
theorem dX9_roll_26 : decode cX9_roll 26 = .ok (.aload_n 0, 1) := by decide +kernel
theorem dX9_roll_27 : decode cX9_roll 27 = .ok (.getfield 43, 3) := by decide +kernel
theorem dX9_roll_30 : decode cX9_roll 30 = .ok (.getfield 91, 3) := by decide +kernel
theorem dX9_roll_33 : decode cX9_roll 33 = .ok (.aload_n 0, 1) := by decide +kernel
theorem dX9_roll_34 : decode cX9_roll 34 = .ok (.getfield 34, 3) := by decide +kernel
theorem dX9_roll_37 : decode cX9_roll 37 = .ok (.getfield 144, 3) := by decide +kernel
theorem dX9_roll_40 : decode cX9_roll 40 = .ok (.iload_n 1, 1) := by decide +kernel
theorem dX9_roll_41 : decode cX9_roll 41 = .ok (.invokevirtual 237, 3) := by decide +kernel
theorem dX9_roll_44 : decode cX9_roll 44 = .ok (.istore_n 2, 1) := by decide +kernel
theorem dX9_roll_45 : decode cX9_roll 45 = .ok (.aload_n 0, 1) := by decide +kernel
theorem dX9_roll_46 : decode cX9_roll 46 = .ok (.getfield 43, 3) := by decide +kernel
theorem dX9_roll_49 : decode cX9_roll 49 = .ok (.aload_n 0, 1) := by decide +kernel
theorem dX9_roll_50 : decode cX9_roll 50 = .ok (.getfield 34, 3) := by decide +kernel
theorem dX9_roll_53 : decode cX9_roll 53 = .ok (.getfield 144, 3) := by decide +kernel
theorem dX9_roll_56 : decode cX9_roll 56 = .ok (.iload_n 2, 1) := by decide +kernel
theorem dX9_roll_57 : decode cX9_roll 57 = .ok (.aload_n 0, 1) := by decide +kernel
theorem dX9_roll_58 : decode cX9_roll 58 = .ok (.getfield 34, 3) := by decide +kernel
theorem dX9_roll_61 : decode cX9_roll 61 = .ok (.getfield 137, 3) := by decide +kernel
theorem dX9_roll_64 : decode cX9_roll 64 = .ok (.iconst 1, 1) := by decide +kernel
theorem dX9_roll_65 : decode cX9_roll 65 = .ok (.iadd, 1) := by decide +kernel
theorem dX9_roll_66 : decode cX9_roll 66 = .ok (.invokevirtual 240, 3) := by decide +kernel
theorem dX9_roll_69 : decode cX9_roll 69 = .ok (.istore_n 3, 1) := by decide +kernel
theorem dX9_roll_70 : decode cX9_roll 70 = .ok (.iload_n 3, 1) := by decide +kernel
theorem dX9_roll_71 : decode cX9_roll 71 = .ok (.iconst (-1), 1) := by decide +kernel
theorem dX9_roll_72 : decode cX9_roll 72 = .ok (.if_icmp .ne 6, 3) := by decide +kernel
theorem dX9_roll_75 : decode cX9_roll 75 = .ok (.ldc 236, 2) := by decide +kernel
theorem dX9_roll_77 : decode cX9_roll 77 = .ok (.ireturn, 1) := by decide +kernel
theorem dX9_roll_78 : decode cX9_roll 78 = .ok (.aload_n 0, 1) := by decide +kernel
theorem dX9_roll_79 : decode cX9_roll 79 = .ok (.getfield 34, 3) := by decide +kernel
theorem dX9_roll_82 : decode cX9_roll 82 = .ok (.getfield 137, 3) := by decide +kernel
theorem dX9_roll_85 : decode cX9_roll 85 = .ok (.ldc 232, 2) := by decide +kernel
theorem dX9_roll_87 : decode cX9_roll 87 = .ok (.if_icmp .lt 6, 3) := by decide +kernel
theorem dX9_roll_90 : decode cX9_roll 90 = .ok (.ldc 85, 2) := by decide +kernel
theorem dX9_roll_92 : decode cX9_roll 92 = .ok (.ireturn, 1) := by decide +kernel
theorem dX9_roll_93 : decode cX9_roll 93 = .ok (.aload_n 0, 1) := by decide +kernel
theorem dX9_roll_94 : decode cX9_roll 94 = .ok (.getfield 43, 3) := by decide +kernel
theorem dX9_roll_97 : decode cX9_roll 97 = .ok (.iload_n 2, 1) := by decide +kernel
theorem dX9_roll_98 : decode cX9_roll 98 = .ok (.iload_n 3, 1) := by decide +kernel
theorem dX9_roll_99 : decode cX9_roll 99 = .ok (.invokevirtual 243, 3) := by decide +kernel
theorem dX9_roll_102 : decode cX9_roll 102 = .ok (.iload_n 3, 1) := by decide +kernel
theorem dX9_roll_103 : decode cX9_roll 103 = .ok (.ireturn, 1) := by decide +kernel
theorem dX9_steep_0 : decode cX9_steep 0 = .ok (.iload_n 1, 1) := by decide +kernel
theorem dX9_steep_1 : decode cX9_steep 1 = .ok (.iconst 0, 1) := by decide +kernel
theorem dX9_steep_2 : decode cX9_steep 2 = .ok (.bipush 99, 2) := by decide +kernel
theorem dX9_steep_4 : decode cX9_steep 4 = .ok (.invokestatic 77, 3) := by decide +kernel
theorem dX9_steep_7 : decode cX9_steep 7 = .ok (.ifCond .eq 6, 3) := by decide +kernel
theorem dX9_steep_10 : decode cX9_steep 10 = .ok (.ldc 81, 2) := by decide +kernel
theorem dX9_steep_12 : decode cX9_steep 12 = .ok (.ireturn, 1) := by decide +kernel
theorem dX9_steep_13 : decode cX9_steep 13 = .ok (.aload_n 0, 1) := by decide +kernel
theorem dX9_steep_14 : decode cX9_steep 14 = .ok (.getfield 34, 3) := by decide +kernel
theorem dX9_steep_17 : decode cX9_steep 17 = .ok (.getfield 154, 3) := by decide +kernel
theorem dX9_steep_20 : decode cX9_steep 20 = .ok (.istore_n 2, 1) := by decide +kernel
theorem dX9_steep_21 : decode cX9_steep 21 = .ok (.aload_n 0, 1) := by decide +kernel
theorem dX9_steep_22 : decode cX9_steep 22 = .ok (.getfield 34, 3) := by decide +kernel
theorem dX9_steep_25 : decode cX9_steep 25 = .ok (.iload_n 1, 1) := by decide +kernel
theorem dX9_steep_26 : decode cX9_steep 26 = .ok (.putfield 154, 3) := by decide +kernel
theorem dX9_steep_29 : decode cX9_steep 29 = .ok (.iload_n 2, 1) := by decide +kernel
theorem dX9_steep_30 : decode cX9_steep 30 = .ok (.ireturn, 1) := by decide +kernel
theorem dX9_load_0 : decode cX9_load 0 = .ok (.aload_n 0, 1) := by decide +kernel
theorem dX9_load_1 : decode cX9_load 1 = .ok (.getfield 43, 3) := by decide +kernel
theorem dX9_load_4 : decode cX9_load 4 = .ok (.getfield 91, 3) := by decide +kernel
theorem dX9_load_7 : decode cX9_load 7 = .ok (.iload_n 1, 1) := by decide +kernel
theorem dX9_load_8 : decode cX9_load 8 = .ok (.iload_n 2, 1) := by decide +kernel
theorem dX9_load_9 : decode cX9_load 9 = .ok (.invokevirtual 157, 3) := by decide +kernel
theorem dX9_load_12 : decode cX9_load 12 = .ok (.istore 4, 2) := by decide +kernel
theorem dX9_load_14 : decode cX9_load 14 = .ok (.iload 4, 2) := by decide +kernel
theorem dX9_load_16 : decode cX9_load 16 = .ok (.iconst (-1), 1) := by decide +kernel
theorem dX9_load_17 : decode cX9_load 17 = .ok (.if_icmp .ne 6, 3) := by decide +kernel
theorem dX9_load_20 : decode cX9_load 20 = .ok (.ldc 161, 2) := by decide +kernel
theorem dX9_load_22 : decode cX9_load 22 = .ok (.ireturn, 1) := by decide +kernel
theorem dX9_load_23 : decode cX9_load 23 = .ok (.iload_n 3, 1) := by decide +kernel
theorem dX9_load_24 : decode cX9_load 24 = .ok (.iconst 0, 1) := by decide +kernel
theorem dX9_load_25 : decode cX9_load 25 = .ok (.bipush 90, 2) := by decide +kernel
theorem dX9_load_27 : decode cX9_load 27 = .ok (.invokestatic 77, 3) := by decide +kernel
theorem dX9_load_30 : decode cX9_load 30 = .ok (.ifCond .eq 6, 3) := by decide +kernel
theorem dX9_load_33 : decode cX9_load 33 = .ok (.ldc 81, 2) := by decide +kernel
theorem dX9_load_35 : decode cX9_load 35 = .ok (.ireturn, 1) := by decide +kernel
theorem dX9_load_36 : decode cX9_load 36 = .ok (.aload_n 0, 1) := by decide +kernel
theorem dX9_load_37 : decode cX9_load 37 = .ok (.getfield 34, 3) := by decide +kernel
theorem dX9_load_40 : decode cX9_load 40 = .ok (.getfield 168, 3) := by decide +kernel
theorem dX9_load_43 : decode cX9_load 43 = .ok (.iload 4, 2) := by decide +kernel
theorem dX9_load_45 : decode cX9_load 45 = .ok (.iaload, 1) := by decide +kernel
theorem dX9_load_46 : decode cX9_load 46 = .ok (.istore 5, 2) := by decide +kernel
theorem dX9_load_48 : decode cX9_load 48 = .ok (.aload_n 0, 1) := by decide +kernel
theorem dX9_load_49 : decode cX9_load 49 = .ok (.getfield 34, 3) := by decide +kernel
theorem dX9_load_52 : decode cX9_load 52 = .ok (.getfield 168, 3) := by decide +kernel
theorem dX9_load_55 : decode cX9_load 55 = .ok (.iload 4, 2) := by decide +kernel
theorem dX9_load_57 : decode cX9_load 57 = .ok (.iload_n 3, 1) := by decide +kernel
theorem dX9_load_58 : decode cX9_load 58 = .ok (.iastore, 1) := by decide +kernel
theorem dX9_load_59 : decode cX9_load 59 = .ok (.iload 5, 2) := by decide +kernel
theorem dX9_load_61 : decode cX9_load 61 = .ok (.ireturn, 1) := by decide +kernel
theorem dX9_prop_0 : decode cX9_prop 0 = .ok (.aload_n 0, 1) := by decide +kernel
theorem dX9_prop_1 : decode cX9_prop 1 = .ok (.getfield 43, 3) := by decide +kernel
theorem dX9_prop_4 : decode cX9_prop 4 = .ok (.getfield 91, 3) := by decide +kernel
theorem dX9_prop_7 : decode cX9_prop 7 = .ok (.getfield 122, 3) := by decide +kernel
theorem dX9_prop_10 : decode cX9_prop 10 = .ok (.iload_n 1, 1) := by decide +kernel
theorem dX9_prop_11 : decode cX9_prop 11 = .ok (.invokevirtual 210, 3) := by decide +kernel
theorem dX9_prop_14 : decode cX9_prop 14 = .ok (.ifCond .ne 6, 3) := by decide +kernel
theorem dX9_prop_17 : decode cX9_prop 17 = .ok (.ldc 161, 2) := by decide +kernel
theorem dX9_prop_19 : decode cX9_prop 19 = .ok (.ireturn, 1) := by decide +kernel
theorem dX9_prop_20 : decode cX9_prop 20 = .ok (.iload_n 2, 1) := by decide +kernel
theorem dX9_prop_21 : decode cX9_prop 21 = .ok (.iconst 0, 1) := by decide +kernel
theorem dX9_prop_22 : decode cX9_prop 22 = .ok (.sipush 999, 3) := by decide +kernel
theorem dX9_prop_25 : decode cX9_prop 25 = .ok (.invokestatic 77, 3) := by decide +kernel
theorem dX9_prop_28 : decode cX9_prop 28 = .ok (.ifCond .eq 6, 3) := by decide +kernel
theorem dX9_prop_31 : decode cX9_prop 31 = .ok (.ldc 81, 2) := by decide +kernel
theorem dX9_prop_33 : decode cX9_prop 33 = .ok (.ireturn, 1) := by decide +kernel
theorem dX9_prop_34 : decode cX9_prop 34 = .ok (.aload_n 0, 1) := by decide +kernel
theorem dX9_prop_35 : decode cX9_prop 35 = .ok (.getfield 34, 3) := by decide +kernel
theorem dX9_prop_38 : decode cX9_prop 38 = .ok (.getfield 219, 3) := by decide +kernel
theorem dX9_prop_41 : decode cX9_prop 41 = .ok (.iload_n 1, 1) := by decide +kernel
theorem dX9_prop_42 : decode cX9_prop 42 = .ok (.iaload, 1) := by decide +kernel
theorem dX9_prop_43 : decode cX9_prop 43 = .ok (.istore_n 3, 1) := by decide +kernel
theorem dX9_prop_44 : decode cX9_prop 44 = .ok (.aload_n 0, 1) := by decide +kernel
theorem dX9_prop_45 : decode cX9_prop 45 = .ok (.getfield 34, 3) := by decide +kernel
theorem dX9_prop_48 : decode cX9_prop 48 = .ok (.getfield 219, 3) := by decide +kernel
theorem dX9_prop_51 : decode cX9_prop 51 = .ok (.iload_n 1, 1) := by decide +kernel
theorem dX9_prop_52 : decode cX9_prop 52 = .ok (.iload_n 2, 1) := by decide +kernel
theorem dX9_prop_53 : decode cX9_prop 53 = .ok (.iastore, 1) := by decide +kernel
theorem dX9_prop_54 : decode cX9_prop 54 = .ok (.iload_n 3, 1) := by decide +kernel
theorem dX9_prop_55 : decode cX9_prop 55 = .ok (.ireturn, 1) := by decide +kernel
theorem dX9_shift_0 : decode cX9_shift 0 = .ok (.aload_n 0, 1) := by decide +kernel
theorem dX9_shift_1 : decode cX9_shift 1 = .ok (.iload_n 1, 1) := by decide +kernel
theorem dX9_shift_2 : decode cX9_shift 2 = .ok (.invokevirtual 185, 3) := by decide +kernel
theorem dX9_shift_5 : decode cX9_shift 5 = .ok (.ifCond .eq 6, 3) := by decide +kernel
theorem dX9_shift_8 : decode cX9_shift 8 = .ok (.ldc 161, 2) := by decide +kernel
theorem dX9_shift_10 : decode cX9_shift 10 = .ok (.ireturn, 1) := by decide +kernel
theorem dX9_shift_11 : decode cX9_shift 11 = .ok (.iload_n 2, 1) := by decide +kernel
theorem dX9_shift_12 : decode cX9_shift 12 = .ok (.iconst 0, 1) := by decide +kernel
theorem dX9_shift_13 : decode cX9_shift 13 = .ok (.sipush 999, 3) := by decide +kernel
theorem dX9_shift_16 : decode cX9_shift 16 = .ok (.invokestatic 77, 3) := by decide +kernel
theorem dX9_shift_19 : decode cX9_shift 19 = .ok (.ifCond .eq 6, 3) := by decide +kernel
theorem dX9_shift_22 : decode cX9_shift 22 = .ok (.ldc 81, 2) := by decide +kernel
theorem dX9_shift_24 : decode cX9_shift 24 = .ok (.ireturn, 1) := by decide +kernel
theorem dX9_shift_25 : decode cX9_shift 25 = .ok (.aload_n 0, 1) := by decide +kernel
theorem dX9_shift_26 : decode cX9_shift 26 = .ok (.getfield 34, 3) := by decide +kernel
theorem dX9_shift_29 : decode cX9_shift 29 = .ok (.getfield 204, 3) := by decide +kernel
theorem dX9_shift_32 : decode cX9_shift 32 = .ok (.iload_n 1, 1) := by decide +kernel
theorem dX9_shift_33 : decode cX9_shift 33 = .ok (.iaload, 1) := by decide +kernel
theorem dX9_shift_34 : decode cX9_shift 34 = .ok (.istore_n 3, 1) := by decide +kernel
theorem dX9_shift_35 : decode cX9_shift 35 = .ok (.aload_n 0, 1) := by decide +kernel
theorem dX9_shift_36 : decode cX9_shift 36 = .ok (.getfield 34, 3) := by decide +kernel
theorem dX9_shift_39 : decode cX9_shift 39 = .ok (.getfield 204, 3) := by decide +kernel
theorem dX9_shift_42 : decode cX9_shift 42 = .ok (.iload_n 1, 1) := by decide +kernel
theorem dX9_shift_43 : decode cX9_shift 43 = .ok (.iload_n 2, 1) := by decide +kernel
theorem dX9_shift_44 : decode cX9_shift 44 = .ok (.aload_n 0, 1) := by decide +kernel
theorem dX9_shift_45 : decode cX9_shift 45 = .ok (.getfield 43, 3) := by decide +kernel
theorem dX9_shift_48 : decode cX9_shift 48 = .ok (.getfield 91, 3) := by decide +kernel
theorem dX9_shift_51 : decode cX9_shift 51 = .ok (.getfield 189, 3) := by decide +kernel
theorem dX9_shift_54 : decode cX9_shift 54 = .ok (.iload_n 1, 1) := by decide +kernel
theorem dX9_shift_55 : decode cX9_shift 55 = .ok (.aaload, 1) := by decide +kernel
theorem dX9_shift_56 : decode cX9_shift 56 = .ok (.getfield 193, 3) := by decide +kernel
theorem dX9_shift_59 : decode cX9_shift 59 = .ok (.invokestatic 247, 3) := by decide +kernel
theorem dX9_shift_62 : decode cX9_shift 62 = .ok (.iastore, 1) := by decide +kernel
theorem dX9_shift_63 : decode cX9_shift 63 = .ok (.iload_n 3, 1) := by decide +kernel
theorem dX9_shift_64 : decode cX9_shift 64 = .ok (.ireturn, 1) := by decide +kernel
theorem dX9_drift_0 : decode cX9_drift 0 = .ok (.iload_n 1, 1) := by decide +kernel
theorem dX9_drift_1 : decode cX9_drift 1 = .ok (.iconst 1, 1) := by decide +kernel
theorem dX9_drift_2 : decode cX9_drift 2 = .ok (.bipush 99, 2) := by decide +kernel
theorem dX9_drift_4 : decode cX9_drift 4 = .ok (.invokestatic 77, 3) := by decide +kernel
theorem dX9_drift_7 : decode cX9_drift 7 = .ok (.ifCond .eq 6, 3) := by decide +kernel
theorem dX9_drift_10 : decode cX9_drift 10 = .ok (.ldc 81, 2) := by decide +kernel
theorem dX9_drift_12 : decode cX9_drift 12 = .ok (.ireturn, 1) := by decide +kernel
theorem dX9_drift_13 : decode cX9_drift 13 = .ok (.aload_n 0, 1) := by decide +kernel
theorem dX9_drift_14 : decode cX9_drift 14 = .ok (.getfield 43, 3) := by decide +kernel
theorem dX9_drift_17 : decode cX9_drift 17 = .ok (.getfield 91, 3) := by decide +kernel
theorem dX9_drift_20 : decode cX9_drift 20 = .ok (.getfield 97, 3) := by decide +kernel
theorem dX9_drift_23 : decode cX9_drift 23 = .ok (.ifCond .ne 6, 3) := by decide +kernel
theorem dX9_drift_26 : decode cX9_drift 26 = .ok (.ldc 236, 2) := by decide +kernel
theorem dX9_drift_28 : decode cX9_drift 28 = .ok (.ireturn, 1) := by decide +kernel
theorem dX9_drift_29 : decode cX9_drift 29 = .ok (.aload_n 0, 1) := by decide +kernel
theorem dX9_drift_30 : decode cX9_drift 30 = .ok (.getfield 34, 3) := by decide +kernel
theorem dX9_drift_33 : decode cX9_drift 33 = .ok (.getfield 137, 3) := by decide +kernel
theorem dX9_drift_36 : decode cX9_drift 36 = .ok (.ldc 250, 2) := by decide +kernel
theorem dX9_drift_38 : decode cX9_drift 38 = .ok (.if_icmp .le 6, 3) := by decide +kernel
theorem dX9_drift_41 : decode cX9_drift 41 = .ok (.ldc 85, 2) := by decide +kernel
theorem dX9_drift_43 : decode cX9_drift 43 = .ok (.ireturn, 1) := by decide +kernel
theorem dX9_drift_44 : decode cX9_drift 44 = .ok (.iconst 0, 1) := by decide +kernel
theorem dX9_drift_45 : decode cX9_drift 45 = .ok (.istore_n 2, 1) := by decide +kernel
theorem dX9_drift_46 : decode cX9_drift 46 = .ok (.iload_n 2, 1) := by decide +kernel
theorem dX9_drift_47 : decode cX9_drift 47 = .ok (.iload_n 1, 1) := by decide +kernel
theorem dX9_drift_48 : decode cX9_drift 48 = .ok (.if_icmp .ge 16, 3) := by decide +kernel
theorem dX9_drift_51 : decode cX9_drift 51 = .ok (.aload_n 0, 1) := by decide +kernel
theorem dX9_drift_52 : decode cX9_drift 52 = .ok (.getfield 43, 3) := by decide +kernel
theorem dX9_drift_55 : decode cX9_drift 55 = .ok (.invokevirtual 251, 3) := by decide +kernel
theorem dX9_drift_58 : decode cX9_drift 58 = .ok (.iinc 2 1, 3) := by decide +kernel
theorem dX9_drift_61 : decode cX9_drift 61 = .ok (.goto (-15), 3) := by decide +kernel
theorem dX9_drift_64 : decode cX9_drift 64 = .ok (.aload_n 0, 1) := by decide +kernel
theorem dX9_drift_65 : decode cX9_drift 65 = .ok (.getfield 43, 3) := by decide +kernel
theorem dX9_drift_68 : decode cX9_drift 68 = .ok (.getfield 91, 3) := by decide +kernel
theorem dX9_drift_71 : decode cX9_drift 71 = .ok (.aload_n 0, 1) := by decide +kernel
theorem dX9_drift_72 : decode cX9_drift 72 = .ok (.getfield 34, 3) := by decide +kernel
theorem dX9_drift_75 : decode cX9_drift 75 = .ok (.getfield 144, 3) := by decide +kernel
theorem dX9_drift_78 : decode cX9_drift 78 = .ok (.invokevirtual 147, 3) := by decide +kernel
theorem dX9_drift_81 : decode cX9_drift 81 = .ok (.ireturn, 1) := by decide +kernel
theorem dX9_level_0 : decode cX9_level 0 = .ok (.iload_n 1, 1) := by decide +kernel
theorem dX9_level_1 : decode cX9_level 1 = .ok (.ifCond .lt 18, 3) := by decide +kernel
theorem dX9_level_4 : decode cX9_level 4 = .ok (.iload_n 1, 1) := by decide +kernel
theorem dX9_level_5 : decode cX9_level 5 = .ok (.aload_n 0, 1) := by decide +kernel
theorem dX9_level_6 : decode cX9_level 6 = .ok (.getfield 43, 3) := by decide +kernel
theorem dX9_level_9 : decode cX9_level 9 = .ok (.getfield 91, 3) := by decide +kernel
theorem dX9_level_12 : decode cX9_level 12 = .ok (.getfield 97, 3) := by decide +kernel
theorem dX9_level_15 : decode cX9_level 15 = .ok (.ishr, 1) := by decide +kernel
theorem dX9_level_16 : decode cX9_level 16 = .ok (.ifCond .eq 6, 3) := by decide +kernel
theorem dX9_level_19 : decode cX9_level 19 = .ok (.ldc 161, 2) := by decide +kernel
theorem dX9_level_21 : decode cX9_level 21 = .ok (.ireturn, 1) := by decide +kernel
theorem dX9_level_22 : decode cX9_level 22 = .ok (.iload_n 1, 1) := by decide +kernel
theorem dX9_level_23 : decode cX9_level 23 = .ok (.ifCond .eq 20, 3) := by decide +kernel
theorem dX9_level_26 : decode cX9_level 26 = .ok (.iload_n 2, 1) := by decide +kernel
theorem dX9_level_27 : decode cX9_level 27 = .ok (.iconst 0, 1) := by decide +kernel
theorem dX9_level_28 : decode cX9_level 28 = .ok (.bipush 99, 2) := by decide +kernel
theorem dX9_level_30 : decode cX9_level 30 = .ok (.invokestatic 77, 3) := by decide +kernel
theorem dX9_level_33 : decode cX9_level 33 = .ok (.ifCond .ne 10, 3) := by decide +kernel
theorem dX9_level_36 : decode cX9_level 36 = .ok (.iload_n 3, 1) := by decide +kernel
theorem dX9_level_37 : decode cX9_level 37 = .ok (.invokestatic 254, 3) := by decide +kernel
theorem dX9_level_40 : decode cX9_level 40 = .ok (.ifCond .eq 6, 3) := by decide +kernel
theorem dX9_level_43 : decode cX9_level 43 = .ok (.ldc 81, 2) := by decide +kernel
theorem dX9_level_45 : decode cX9_level 45 = .ok (.ireturn, 1) := by decide +kernel
theorem dX9_level_46 : decode cX9_level 46 = .ok (.aload_n 0, 1) := by decide +kernel
theorem dX9_level_47 : decode cX9_level 47 = .ok (.getfield 43, 3) := by decide +kernel
theorem dX9_level_50 : decode cX9_level 50 = .ok (.getfield 91, 3) := by decide +kernel
theorem dX9_level_53 : decode cX9_level 53 = .ok (.invokevirtual 140, 3) := by decide +kernel
theorem dX9_level_56 : decode cX9_level 56 = .ok (.istore 4, 2) := by decide +kernel
theorem dX9_level_58 : decode cX9_level 58 = .ok (.iconst 0, 1) := by decide +kernel
theorem dX9_level_59 : decode cX9_level 59 = .ok (.istore 5, 2) := by decide +kernel
theorem dX9_level_61 : decode cX9_level 61 = .ok (.iload 5, 2) := by decide +kernel
theorem dX9_level_63 : decode cX9_level 63 = .ok (.iload 4, 2) := by decide +kernel
theorem dX9_level_65 : decode cX9_level 65 = .ok (.if_icmp .ge 28, 3) := by decide +kernel
theorem dX9_level_68 : decode cX9_level 68 = .ok (.aload_n 0, 1) := by decide +kernel
theorem dX9_level_69 : decode cX9_level 69 = .ok (.getfield 43, 3) := by decide +kernel
theorem dX9_level_72 : decode cX9_level 72 = .ok (.iload_n 1, 1) := by decide +kernel
theorem dX9_level_73 : decode cX9_level 73 = .ok (.iload_n 3, 1) := by decide +kernel
theorem dX9_level_74 : decode cX9_level 74 = .ok (.iload 5, 2) := by decide +kernel
theorem dX9_level_76 : decode cX9_level 76 = .ok (.iadd, 1) := by decide +kernel
theorem dX9_level_77 : decode cX9_level 77 = .ok (.invokevirtual 257, 3) := by decide +kernel
theorem dX9_level_80 : decode cX9_level 80 = .ok (.iload_n 2, 1) := by decide +kernel
theorem dX9_level_81 : decode cX9_level 81 = .ok (.if_icmp .gt 6, 3) := by decide +kernel
theorem dX9_level_84 : decode cX9_level 84 = .ok (.iload 5, 2) := by decide +kernel
theorem dX9_level_86 : decode cX9_level 86 = .ok (.ireturn, 1) := by decide +kernel
theorem dX9_level_87 : decode cX9_level 87 = .ok (.iinc 5 1, 3) := by decide +kernel
theorem dX9_level_90 : decode cX9_level 90 = .ok (.goto (-29), 3) := by decide +kernel
theorem dX9_level_93 : decode cX9_level 93 = .ok (.iconst (-1), 1) := by decide +kernel
theorem dX9_level_94 : decode cX9_level 94 = .ok (.ireturn, 1) := by decide +kernel
theorem dX9_aslant_0 : decode cX9_aslant 0 = .ok (.iload_n 1, 1) := by decide +kernel
theorem dX9_aslant_1 : decode cX9_aslant 1 = .ok (.invokestatic 254, 3) := by decide +kernel
theorem dX9_aslant_4 : decode cX9_aslant 4 = .ok (.ifCond .eq 6, 3) := by decide +kernel
theorem dX9_aslant_7 : decode cX9_aslant 7 = .ok (.ldc 81, 2) := by decide +kernel
theorem dX9_aslant_9 : decode cX9_aslant 9 = .ok (.ireturn, 1) := by decide +kernel
theorem dX9_aslant_10 : decode cX9_aslant 10 = .ok (.aload_n 0, 1) := by decide +kernel
theorem dX9_aslant_11 : decode cX9_aslant 11 = .ok (.getfield 43, 3) := by decide +kernel
theorem dX9_aslant_14 : decode cX9_aslant 14 = .ok (.getfield 91, 3) := by decide +kernel
theorem dX9_aslant_17 : decode cX9_aslant 17 = .ok (.getfield 97, 3) := by decide +kernel
theorem dX9_aslant_20 : decode cX9_aslant 20 = .ok (.ifCond .ne 6, 3) := by decide +kernel
theorem dX9_aslant_23 : decode cX9_aslant 23 = .ok (.ldc 236, 2) := by decide +kernel
theorem dX9_aslant_25 : decode cX9_aslant 25 = .ok (.ireturn, 1) := by decide +kernel
theorem dX9_aslant_26 : decode cX9_aslant 26 = .ok (.aload_n 0, 1) := by decide +kernel
theorem dX9_aslant_27 : decode cX9_aslant 27 = .ok (.getfield 43, 3) := by decide +kernel
theorem dX9_aslant_30 : decode cX9_aslant 30 = .ok (.getfield 91, 3) := by decide +kernel
theorem dX9_aslant_33 : decode cX9_aslant 33 = .ok (.getfield 97, 3) := by decide +kernel
theorem dX9_aslant_36 : decode cX9_aslant 36 = .ok (.iconst 1, 1) := by decide +kernel
theorem dX9_aslant_37 : decode cX9_aslant 37 = .ok (.if_icmp .ne 5, 3) := by decide +kernel
theorem dX9_aslant_40 : decode cX9_aslant 40 = .ok (.iconst (-1), 1) := by decide +kernel
theorem dX9_aslant_41 : decode cX9_aslant 41 = .ok (.ireturn, 1) := by decide +kernel
theorem dX9_aslant_42 : decode cX9_aslant 42 = .ok (.aload_n 0, 1) := by decide +kernel
theorem dX9_aslant_43 : decode cX9_aslant 43 = .ok (.getfield 43, 3) := by decide +kernel
theorem dX9_aslant_46 : decode cX9_aslant 46 = .ok (.getfield 91, 3) := by decide +kernel
theorem dX9_aslant_49 : decode cX9_aslant 49 = .ok (.invokevirtual 140, 3) := by decide +kernel
theorem dX9_aslant_52 : decode cX9_aslant 52 = .ok (.istore_n 2, 1) := by decide +kernel
theorem dX9_aslant_53 : decode cX9_aslant 53 = .ok (.iconst 0, 1) := by decide +kernel
theorem dX9_aslant_54 : decode cX9_aslant 54 = .ok (.istore_n 3, 1) := by decide +kernel
theorem dX9_aslant_55 : decode cX9_aslant 55 = .ok (.iload_n 3, 1) := by decide +kernel
theorem dX9_aslant_56 : decode cX9_aslant 56 = .ok (.iload_n 2, 1) := by decide +kernel
theorem dX9_aslant_57 : decode cX9_aslant 57 = .ok (.if_icmp .ge 24, 3) := by decide +kernel
theorem dX9_aslant_60 : decode cX9_aslant 60 = .ok (.aload_n 0, 1) := by decide +kernel
theorem dX9_aslant_61 : decode cX9_aslant 61 = .ok (.getfield 43, 3) := by decide +kernel
theorem dX9_aslant_64 : decode cX9_aslant 64 = .ok (.iload_n 1, 1) := by decide +kernel
theorem dX9_aslant_65 : decode cX9_aslant 65 = .ok (.iload_n 3, 1) := by decide +kernel
theorem dX9_aslant_66 : decode cX9_aslant 66 = .ok (.iadd, 1) := by decide +kernel
theorem dX9_aslant_67 : decode cX9_aslant 67 = .ok (.invokevirtual 260, 3) := by decide +kernel
theorem dX9_aslant_70 : decode cX9_aslant 70 = .ok (.ifCond .eq 5, 3) := by decide +kernel
theorem dX9_aslant_73 : decode cX9_aslant 73 = .ok (.iload_n 3, 1) := by decide +kernel
theorem dX9_aslant_74 : decode cX9_aslant 74 = .ok (.ireturn, 1) := by decide +kernel
theorem dX9_aslant_75 : decode cX9_aslant 75 = .ok (.iinc 3 1, 3) := by decide +kernel
theorem dX9_aslant_78 : decode cX9_aslant 78 = .ok (.goto (-23), 3) := by decide +kernel
theorem dX9_aslant_81 : decode cX9_aslant 81 = .ok (.iconst (-1), 1) := by decide +kernel
theorem dX9_aslant_82 : decode cX9_aslant 82 = .ok (.ireturn, 1) := by decide +kernel
theorem dX9_turn_0 : decode cX9_turn 0 = .ok (.aload_n 0, 1) := by decide +kernel
theorem dX9_turn_1 : decode cX9_turn 1 = .ok (.getfield 43, 3) := by decide +kernel
theorem dX9_turn_4 : decode cX9_turn 4 = .ok (.getfield 91, 3) := by decide +kernel
theorem dX9_turn_7 : decode cX9_turn 7 = .ok (.iload_n 1, 1) := by decide +kernel
theorem dX9_turn_8 : decode cX9_turn 8 = .ok (.iload_n 2, 1) := by decide +kernel
theorem dX9_turn_9 : decode cX9_turn 9 = .ok (.invokevirtual 157, 3) := by decide +kernel
theorem dX9_turn_12 : decode cX9_turn 12 = .ok (.istore 4, 2) := by decide +kernel
theorem dX9_turn_14 : decode cX9_turn 14 = .ok (.iload 4, 2) := by decide +kernel
theorem dX9_turn_16 : decode cX9_turn 16 = .ok (.iconst (-1), 1) := by decide +kernel
theorem dX9_turn_17 : decode cX9_turn 17 = .ok (.if_icmp .ne 6, 3) := by decide +kernel
theorem dX9_turn_20 : decode cX9_turn 20 = .ok (.ldc 161, 2) := by decide +kernel
theorem dX9_turn_22 : decode cX9_turn 22 = .ok (.ireturn, 1) := by decide +kernel
theorem dX9_turn_23 : decode cX9_turn 23 = .ok (.iload_n 3, 1) := by decide +kernel
theorem dX9_turn_24 : decode cX9_turn 24 = .ok (.iconst 1, 1) := by decide +kernel
theorem dX9_turn_25 : decode cX9_turn 25 = .ok (.ldc 232, 2) := by decide +kernel
theorem dX9_turn_27 : decode cX9_turn 27 = .ok (.invokestatic 77, 3) := by decide +kernel
theorem dX9_turn_30 : decode cX9_turn 30 = .ok (.ifCond .eq 6, 3) := by decide +kernel
theorem dX9_turn_33 : decode cX9_turn 33 = .ok (.ldc 81, 2) := by decide +kernel
theorem dX9_turn_35 : decode cX9_turn 35 = .ok (.ireturn, 1) := by decide +kernel
theorem dX9_turn_36 : decode cX9_turn 36 = .ok (.aload_n 0, 1) := by decide +kernel
theorem dX9_turn_37 : decode cX9_turn 37 = .ok (.getfield 43, 3) := by decide +kernel
theorem dX9_turn_40 : decode cX9_turn 40 = .ok (.getfield 91, 3) := by decide +kernel
theorem dX9_turn_43 : decode cX9_turn 43 = .ok (.invokevirtual 140, 3) := by decide +kernel
theorem dX9_turn_46 : decode cX9_turn 46 = .ok (.istore 5, 2) := by decide +kernel
theorem dX9_turn_48 : decode cX9_turn 48 = .ok (.iconst 0, 1) := by decide +kernel
theorem dX9_turn_49 : decode cX9_turn 49 = .ok (.istore 6, 2) := by decide +kernel
theorem dX9_turn_51 : decode cX9_turn 51 = .ok (.iload 6, 2) := by decide +kernel
theorem dX9_turn_53 : decode cX9_turn 53 = .ok (.iload 5, 2) := by decide +kernel
theorem dX9_turn_55 : decode cX9_turn 55 = .ok (.if_icmp .ge 28, 3) := by decide +kernel
theorem dX9_turn_58 : decode cX9_turn 58 = .ok (.aload_n 0, 1) := by decide +kernel
theorem dX9_turn_59 : decode cX9_turn 59 = .ok (.getfield 43, 3) := by decide +kernel
theorem dX9_turn_62 : decode cX9_turn 62 = .ok (.iload 4, 2) := by decide +kernel
theorem dX9_turn_64 : decode cX9_turn 64 = .ok (.iload_n 3, 1) := by decide +kernel
theorem dX9_turn_65 : decode cX9_turn 65 = .ok (.iload 6, 2) := by decide +kernel
theorem dX9_turn_67 : decode cX9_turn 67 = .ok (.iadd, 1) := by decide +kernel
theorem dX9_turn_68 : decode cX9_turn 68 = .ok (.invokevirtual 263, 3) := by decide +kernel
theorem dX9_turn_71 : decode cX9_turn 71 = .ok (.ifCond .eq 6, 3) := by decide +kernel
theorem dX9_turn_74 : decode cX9_turn 74 = .ok (.iload 6, 2) := by decide +kernel
theorem dX9_turn_76 : decode cX9_turn 76 = .ok (.ireturn, 1) := by decide +kernel
theorem dX9_turn_77 : decode cX9_turn 77 = .ok (.iinc 6 1, 3) := by decide +kernel
theorem dX9_turn_80 : decode cX9_turn 80 = .ok (.goto (-29), 3) := by decide +kernel
theorem dX9_turn_83 : decode cX9_turn 83 = .ok (.iconst (-1), 1) := by decide +kernel
theorem dX9_turn_84 : decode cX9_turn 84 = .ok (.ireturn, 1) := by decide +kernel
theorem dX9_most_0 : decode cX9_most 0 = .ok (.aload_n 0, 1) := by decide +kernel
theorem dX9_most_1 : decode cX9_most 1 = .ok (.getfield 43, 3) := by decide +kernel
theorem dX9_most_4 : decode cX9_most 4 = .ok (.getfield 91, 3) := by decide +kernel
theorem dX9_most_7 : decode cX9_most 7 = .ok (.iload_n 1, 1) := by decide +kernel
theorem dX9_most_8 : decode cX9_most 8 = .ok (.iload_n 2, 1) := by decide +kernel
theorem dX9_most_9 : decode cX9_most 9 = .ok (.invokevirtual 157, 3) := by decide +kernel
theorem dX9_most_12 : decode cX9_most 12 = .ok (.istore 5, 2) := by decide +kernel
theorem dX9_most_14 : decode cX9_most 14 = .ok (.iload 5, 2) := by decide +kernel
theorem dX9_most_16 : decode cX9_most 16 = .ok (.iconst (-1), 1) := by decide +kernel
theorem dX9_most_17 : decode cX9_most 17 = .ok (.if_icmp .ne 6, 3) := by decide +kernel
theorem dX9_most_20 : decode cX9_most 20 = .ok (.ldc 161, 2) := by decide +kernel
theorem dX9_most_22 : decode cX9_most 22 = .ok (.ireturn, 1) := by decide +kernel
theorem dX9_most_23 : decode cX9_most 23 = .ok (.iload_n 3, 1) := by decide +kernel
theorem dX9_most_24 : decode cX9_most 24 = .ok (.invokestatic 254, 3) := by decide +kernel
theorem dX9_most_27 : decode cX9_most 27 = .ok (.ifCond .ne 13, 3) := by decide +kernel
theorem dX9_most_30 : decode cX9_most 30 = .ok (.iload 4, 2) := by decide +kernel
theorem dX9_most_32 : decode cX9_most 32 = .ok (.iconst 0, 1) := by decide +kernel
theorem dX9_most_33 : decode cX9_most 33 = .ok (.iconst 1, 1) := by decide +kernel
theorem dX9_most_34 : decode cX9_most 34 = .ok (.invokestatic 77, 3) := by decide +kernel
theorem dX9_most_37 : decode cX9_most 37 = .ok (.ifCond .eq 6, 3) := by decide +kernel
theorem dX9_most_40 : decode cX9_most 40 = .ok (.ldc 81, 2) := by decide +kernel
theorem dX9_most_42 : decode cX9_most 42 = .ok (.ireturn, 1) := by decide +kernel
theorem dX9_most_43 : decode cX9_most 43 = .ok (.aload_n 0, 1) := by decide +kernel
theorem dX9_most_44 : decode cX9_most 44 = .ok (.getfield 43, 3) := by decide +kernel
theorem dX9_most_47 : decode cX9_most 47 = .ok (.getfield 91, 3) := by decide +kernel
theorem dX9_most_50 : decode cX9_most 50 = .ok (.invokevirtual 140, 3) := by decide +kernel
theorem dX9_most_53 : decode cX9_most 53 = .ok (.istore 6, 2) := by decide +kernel
theorem dX9_most_55 : decode cX9_most 55 = .ok (.iload_n 3, 1) := by decide +kernel
theorem dX9_most_56 : decode cX9_most 56 = .ok (.istore 7, 2) := by decide +kernel
theorem dX9_most_58 : decode cX9_most 58 = .ok (.aload_n 0, 1) := by decide +kernel
theorem dX9_most_59 : decode cX9_most 59 = .ok (.getfield 43, 3) := by decide +kernel
theorem dX9_most_62 : decode cX9_most 62 = .ok (.iload 5, 2) := by decide +kernel
theorem dX9_most_64 : decode cX9_most 64 = .ok (.iload_n 3, 1) := by decide +kernel
theorem dX9_most_65 : decode cX9_most 65 = .ok (.iconst (-1), 1) := by decide +kernel
theorem dX9_most_66 : decode cX9_most 66 = .ok (.invokevirtual 174, 3) := by decide +kernel
theorem dX9_most_69 : decode cX9_most 69 = .ok (.istore 8, 2) := by decide +kernel
theorem dX9_most_71 : decode cX9_most 71 = .ok (.iconst 1, 1) := by decide +kernel
theorem dX9_most_72 : decode cX9_most 72 = .ok (.istore 9, 2) := by decide +kernel
theorem dX9_most_74 : decode cX9_most 74 = .ok (.iload 9, 2) := by decide +kernel
theorem dX9_most_76 : decode cX9_most 76 = .ok (.iload 6, 2) := by decide +kernel
theorem dX9_most_78 : decode cX9_most 78 = .ok (.if_icmp .ge 42, 3) := by decide +kernel
theorem dX9_most_81 : decode cX9_most 81 = .ok (.aload_n 0, 1) := by decide +kernel
theorem dX9_most_82 : decode cX9_most 82 = .ok (.getfield 43, 3) := by decide +kernel
theorem dX9_most_85 : decode cX9_most 85 = .ok (.iload 5, 2) := by decide +kernel
theorem dX9_most_87 : decode cX9_most 87 = .ok (.iload_n 3, 1) := by decide +kernel
theorem dX9_most_88 : decode cX9_most 88 = .ok (.iload 9, 2) := by decide +kernel
theorem dX9_most_90 : decode cX9_most 90 = .ok (.iadd, 1) := by decide +kernel
theorem dX9_most_91 : decode cX9_most 91 = .ok (.iconst (-1), 1) := by decide +kernel
theorem dX9_most_92 : decode cX9_most 92 = .ok (.invokevirtual 174, 3) := by decide +kernel
theorem dX9_most_95 : decode cX9_most 95 = .ok (.istore 10, 2) := by decide +kernel
theorem dX9_most_97 : decode cX9_most 97 = .ok (.iload 10, 2) := by decide +kernel
theorem dX9_most_99 : decode cX9_most 99 = .ok (.iload 8, 2) := by decide +kernel
theorem dX9_most_101 : decode cX9_most 101 = .ok (.if_icmp .le 13, 3) := by decide +kernel
theorem dX9_most_104 : decode cX9_most 104 = .ok (.iload 10, 2) := by decide +kernel
theorem dX9_most_106 : decode cX9_most 106 = .ok (.istore 8, 2) := by decide +kernel
theorem dX9_most_108 : decode cX9_most 108 = .ok (.iload_n 3, 1) := by decide +kernel
theorem dX9_most_109 : decode cX9_most 109 = .ok (.iload 9, 2) := by decide +kernel
theorem dX9_most_111 : decode cX9_most 111 = .ok (.iadd, 1) := by decide +kernel
theorem dX9_most_112 : decode cX9_most 112 = .ok (.istore 7, 2) := by decide +kernel
theorem dX9_most_114 : decode cX9_most 114 = .ok (.iinc 9 1, 3) := by decide +kernel
theorem dX9_most_117 : decode cX9_most 117 = .ok (.goto (-43), 3) := by decide +kernel
theorem dX9_most_120 : decode cX9_most 120 = .ok (.iload 4, 2) := by decide +kernel
theorem dX9_most_122 : decode cX9_most 122 = .ok (.ifCond .ne 8, 3) := by decide +kernel
theorem dX9_most_125 : decode cX9_most 125 = .ok (.iload 7, 2) := by decide +kernel
theorem dX9_most_127 : decode cX9_most 127 = .ok (.goto 5, 3) := by decide +kernel
theorem dX9_most_130 : decode cX9_most 130 = .ok (.iload 8, 2) := by decide +kernel
theorem dX9_most_132 : decode cX9_most 132 = .ok (.ireturn, 1) := by decide +kernel
theorem dX9_bell_0 : decode cX9_bell 0 = .ok (.aload_n 0, 1) := by decide +kernel
theorem dX9_bell_1 : decode cX9_bell 1 = .ok (.getfield 43, 3) := by decide +kernel
theorem dX9_bell_4 : decode cX9_bell 4 = .ok (.getfield 91, 3) := by decide +kernel
theorem dX9_bell_7 : decode cX9_bell 7 = .ok (.iload_n 1, 1) := by decide +kernel
theorem dX9_bell_8 : decode cX9_bell 8 = .ok (.iload_n 2, 1) := by decide +kernel
theorem dX9_bell_9 : decode cX9_bell 9 = .ok (.invokevirtual 157, 3) := by decide +kernel
theorem dX9_bell_12 : decode cX9_bell 12 = .ok (.istore 6, 2) := by decide +kernel
theorem dX9_bell_14 : decode cX9_bell 14 = .ok (.iload 6, 2) := by decide +kernel
theorem dX9_bell_16 : decode cX9_bell 16 = .ok (.iconst (-1), 1) := by decide +kernel
theorem dX9_bell_17 : decode cX9_bell 17 = .ok (.if_icmp .ne 6, 3) := by decide +kernel
theorem dX9_bell_20 : decode cX9_bell 20 = .ok (.ldc 161, 2) := by decide +kernel
theorem dX9_bell_22 : decode cX9_bell 22 = .ok (.ireturn, 1) := by decide +kernel
theorem dX9_bell_23 : decode cX9_bell 23 = .ok (.iload_n 3, 1) := by decide +kernel
theorem dX9_bell_24 : decode cX9_bell 24 = .ok (.iconst 0, 1) := by decide +kernel
theorem dX9_bell_25 : decode cX9_bell 25 = .ok (.sipush 999, 3) := by decide +kernel
theorem dX9_bell_28 : decode cX9_bell 28 = .ok (.invokestatic 77, 3) := by decide +kernel
theorem dX9_bell_31 : decode cX9_bell 31 = .ok (.ifCond .ne 21, 3) := by decide +kernel
theorem dX9_bell_34 : decode cX9_bell 34 = .ok (.iload 4, 2) := by decide +kernel
theorem dX9_bell_36 : decode cX9_bell 36 = .ok (.invokestatic 254, 3) := by decide +kernel
theorem dX9_bell_39 : decode cX9_bell 39 = .ok (.ifCond .ne 13, 3) := by decide +kernel
theorem dX9_bell_42 : decode cX9_bell 42 = .ok (.iload 5, 2) := by decide +kernel
theorem dX9_bell_44 : decode cX9_bell 44 = .ok (.iconst 0, 1) := by decide +kernel
theorem dX9_bell_45 : decode cX9_bell 45 = .ok (.iconst 1, 1) := by decide +kernel
theorem dX9_bell_46 : decode cX9_bell 46 = .ok (.invokestatic 77, 3) := by decide +kernel
theorem dX9_bell_49 : decode cX9_bell 49 = .ok (.ifCond .eq 6, 3) := by decide +kernel
theorem dX9_bell_52 : decode cX9_bell 52 = .ok (.ldc 81, 2) := by decide +kernel
theorem dX9_bell_54 : decode cX9_bell 54 = .ok (.ireturn, 1) := by decide +kernel
theorem dX9_bell_55 : decode cX9_bell 55 = .ok (.aload_n 0, 1) := by decide +kernel
theorem dX9_bell_56 : decode cX9_bell 56 = .ok (.getfield 43, 3) := by decide +kernel
theorem dX9_bell_59 : decode cX9_bell 59 = .ok (.getfield 91, 3) := by decide +kernel
theorem dX9_bell_62 : decode cX9_bell 62 = .ok (.invokevirtual 140, 3) := by decide +kernel
theorem dX9_bell_65 : decode cX9_bell 65 = .ok (.istore 7, 2) := by decide +kernel
theorem dX9_bell_67 : decode cX9_bell 67 = .ok (.iconst 0, 1) := by decide +kernel
theorem dX9_bell_68 : decode cX9_bell 68 = .ok (.istore 8, 2) := by decide +kernel
theorem dX9_bell_70 : decode cX9_bell 70 = .ok (.iconst 0, 1) := by decide +kernel
theorem dX9_bell_71 : decode cX9_bell 71 = .ok (.istore 9, 2) := by decide +kernel
theorem dX9_bell_73 : decode cX9_bell 73 = .ok (.iload 9, 2) := by decide +kernel
theorem dX9_bell_75 : decode cX9_bell 75 = .ok (.iload 7, 2) := by decide +kernel
theorem dX9_bell_77 : decode cX9_bell 77 = .ok (.if_icmp .ge 39, 3) := by decide +kernel
theorem dX9_bell_80 : decode cX9_bell 80 = .ok (.aload_n 0, 1) := by decide +kernel
theorem dX9_bell_81 : decode cX9_bell 81 = .ok (.getfield 43, 3) := by decide +kernel
theorem dX9_bell_84 : decode cX9_bell 84 = .ok (.iload 6, 2) := by decide +kernel
theorem dX9_bell_86 : decode cX9_bell 86 = .ok (.iload 4, 2) := by decide +kernel
theorem dX9_bell_88 : decode cX9_bell 88 = .ok (.iload 9, 2) := by decide +kernel
theorem dX9_bell_90 : decode cX9_bell 90 = .ok (.iadd, 1) := by decide +kernel
theorem dX9_bell_91 : decode cX9_bell 91 = .ok (.iconst (-1), 1) := by decide +kernel
theorem dX9_bell_92 : decode cX9_bell 92 = .ok (.invokevirtual 181, 3) := by decide +kernel
theorem dX9_bell_95 : decode cX9_bell 95 = .ok (.iload_n 3, 1) := by decide +kernel
theorem dX9_bell_96 : decode cX9_bell 96 = .ok (.if_icmp .le 14, 3) := by decide +kernel
theorem dX9_bell_99 : decode cX9_bell 99 = .ok (.iload 5, 2) := by decide +kernel
theorem dX9_bell_101 : decode cX9_bell 101 = .ok (.ifCond .ne 6, 3) := by decide +kernel
theorem dX9_bell_104 : decode cX9_bell 104 = .ok (.iload 9, 2) := by decide +kernel
theorem dX9_bell_106 : decode cX9_bell 106 = .ok (.ireturn, 1) := by decide +kernel
theorem dX9_bell_107 : decode cX9_bell 107 = .ok (.iinc 8 1, 3) := by decide +kernel
theorem dX9_bell_110 : decode cX9_bell 110 = .ok (.iinc 9 1, 3) := by decide +kernel
theorem dX9_bell_113 : decode cX9_bell 113 = .ok (.goto (-40), 3) := by decide +kernel
theorem dX9_bell_116 : decode cX9_bell 116 = .ok (.iload 5, 2) := by decide +kernel
theorem dX9_bell_118 : decode cX9_bell 118 = .ok (.ifCond .ne 7, 3) := by decide +kernel
theorem dX9_bell_121 : decode cX9_bell 121 = .ok (.iconst (-1), 1) := by decide +kernel
theorem dX9_bell_122 : decode cX9_bell 122 = .ok (.goto 5, 3) := by decide +kernel
theorem dX9_bell_125 : decode cX9_bell 125 = .ok (.iload 8, 2) := by decide +kernel
theorem dX9_bell_127 : decode cX9_bell 127 = .ok (.ireturn, 1) := by decide +kernel
theorem dX9_breaks_0 : decode cX9_breaks 0 = .ok (.iload_n 1, 1) := by decide +kernel
theorem dX9_breaks_1 : decode cX9_breaks 1 = .ok (.invokestatic 254, 3) := by decide +kernel
theorem dX9_breaks_4 : decode cX9_breaks 4 = .ok (.ifCond .ne 12, 3) := by decide +kernel
theorem dX9_breaks_7 : decode cX9_breaks 7 = .ok (.iload_n 2, 1) := by decide +kernel
theorem dX9_breaks_8 : decode cX9_breaks 8 = .ok (.iconst 0, 1) := by decide +kernel
theorem dX9_breaks_9 : decode cX9_breaks 9 = .ok (.iconst 1, 1) := by decide +kernel
theorem dX9_breaks_10 : decode cX9_breaks 10 = .ok (.invokestatic 77, 3) := by decide +kernel
theorem dX9_breaks_13 : decode cX9_breaks 13 = .ok (.ifCond .eq 6, 3) := by decide +kernel
theorem dX9_breaks_16 : decode cX9_breaks 16 = .ok (.ldc 81, 2) := by decide +kernel
theorem dX9_breaks_18 : decode cX9_breaks 18 = .ok (.ireturn, 1) := by decide +kernel
theorem dX9_breaks_19 : decode cX9_breaks 19 = .ok (.aload_n 0, 1) := by decide +kernel
theorem dX9_breaks_20 : decode cX9_breaks 20 = .ok (.getfield 43, 3) := by decide +kernel
theorem dX9_breaks_23 : decode cX9_breaks 23 = .ok (.getfield 91, 3) := by decide +kernel
theorem dX9_breaks_26 : decode cX9_breaks 26 = .ok (.invokevirtual 140, 3) := by decide +kernel
theorem dX9_breaks_29 : decode cX9_breaks 29 = .ok (.istore_n 3, 1) := by decide +kernel
theorem dX9_breaks_30 : decode cX9_breaks 30 = .ok (.iconst 0, 1) := by decide +kernel
theorem dX9_breaks_31 : decode cX9_breaks 31 = .ok (.istore 4, 2) := by decide +kernel
theorem dX9_breaks_33 : decode cX9_breaks 33 = .ok (.iload 4, 2) := by decide +kernel
theorem dX9_breaks_35 : decode cX9_breaks 35 = .ok (.iload_n 3, 1) := by decide +kernel
theorem dX9_breaks_36 : decode cX9_breaks 36 = .ok (.if_icmp .ge 42, 3) := by decide +kernel
theorem dX9_breaks_39 : decode cX9_breaks 39 = .ok (.aload_n 0, 1) := by decide +kernel
theorem dX9_breaks_40 : decode cX9_breaks 40 = .ok (.getfield 43, 3) := by decide +kernel
theorem dX9_breaks_43 : decode cX9_breaks 43 = .ok (.iload_n 1, 1) := by decide +kernel
theorem dX9_breaks_44 : decode cX9_breaks 44 = .ok (.iload 4, 2) := by decide +kernel
theorem dX9_breaks_46 : decode cX9_breaks 46 = .ok (.iadd, 1) := by decide +kernel
theorem dX9_breaks_47 : decode cX9_breaks 47 = .ok (.invokevirtual 266, 3) := by decide +kernel
theorem dX9_breaks_50 : decode cX9_breaks 50 = .ok (.istore 5, 2) := by decide +kernel
theorem dX9_breaks_52 : decode cX9_breaks 52 = .ok (.iload 5, 2) := by decide +kernel
theorem dX9_breaks_54 : decode cX9_breaks 54 = .ok (.iconst (-1), 1) := by decide +kernel
theorem dX9_breaks_55 : decode cX9_breaks 55 = .ok (.if_icmp .eq 17, 3) := by decide +kernel
theorem dX9_breaks_58 : decode cX9_breaks 58 = .ok (.iload_n 2, 1) := by decide +kernel
theorem dX9_breaks_59 : decode cX9_breaks 59 = .ok (.ifCond .ne 10, 3) := by decide +kernel
theorem dX9_breaks_62 : decode cX9_breaks 62 = .ok (.iload_n 1, 1) := by decide +kernel
theorem dX9_breaks_63 : decode cX9_breaks 63 = .ok (.iload 4, 2) := by decide +kernel
theorem dX9_breaks_65 : decode cX9_breaks 65 = .ok (.iadd, 1) := by decide +kernel
theorem dX9_breaks_66 : decode cX9_breaks 66 = .ok (.goto 5, 3) := by decide +kernel
theorem dX9_breaks_69 : decode cX9_breaks 69 = .ok (.iload 5, 2) := by decide +kernel
theorem dX9_breaks_71 : decode cX9_breaks 71 = .ok (.ireturn, 1) := by decide +kernel
theorem dX9_breaks_72 : decode cX9_breaks 72 = .ok (.iinc 4 1, 3) := by decide +kernel
theorem dX9_breaks_75 : decode cX9_breaks 75 = .ok (.goto (-42), 3) := by decide +kernel
theorem dX9_breaks_78 : decode cX9_breaks 78 = .ok (.iconst (-1), 1) := by decide +kernel
theorem dX9_breaks_79 : decode cX9_breaks 79 = .ok (.ireturn, 1) := by decide +kernel
theorem dX9_props_0 : decode cX9_props 0 = .ok (.iload_n 1, 1) := by decide +kernel
theorem dX9_props_1 : decode cX9_props 1 = .ok (.iconst 1, 1) := by decide +kernel
theorem dX9_props_2 : decode cX9_props 2 = .ok (.bipush 20, 2) := by decide +kernel
theorem dX9_props_4 : decode cX9_props 4 = .ok (.invokestatic 77, 3) := by decide +kernel
theorem dX9_props_7 : decode cX9_props 7 = .ok (.ifCond .eq 6, 3) := by decide +kernel
theorem dX9_props_10 : decode cX9_props 10 = .ok (.ldc 81, 2) := by decide +kernel
theorem dX9_props_12 : decode cX9_props 12 = .ok (.ireturn, 1) := by decide +kernel
theorem dX9_props_13 : decode cX9_props 13 = .ok (.iconst 0, 1) := by decide +kernel
theorem dX9_props_14 : decode cX9_props 14 = .ok (.istore_n 2, 1) := by decide +kernel
theorem dX9_props_15 : decode cX9_props 15 = .ok (.iconst 0, 1) := by decide +kernel
theorem dX9_props_16 : decode cX9_props 16 = .ok (.istore_n 3, 1) := by decide +kernel
theorem dX9_props_17 : decode cX9_props 17 = .ok (.iload_n 3, 1) := by decide +kernel
theorem dX9_props_18 : decode cX9_props 18 = .ok (.aload_n 0, 1) := by decide +kernel
theorem dX9_props_19 : decode cX9_props 19 = .ok (.getfield 43, 3) := by decide +kernel
theorem dX9_props_22 : decode cX9_props 22 = .ok (.getfield 91, 3) := by decide +kernel
theorem dX9_props_25 : decode cX9_props 25 = .ok (.getfield 122, 3) := by decide +kernel
theorem dX9_props_28 : decode cX9_props 28 = .ok (.getfield 126, 3) := by decide +kernel
theorem dX9_props_31 : decode cX9_props 31 = .ok (.if_icmp .ge 26, 3) := by decide +kernel
theorem dX9_props_34 : decode cX9_props 34 = .ok (.iload_n 2, 1) := by decide +kernel
theorem dX9_props_35 : decode cX9_props 35 = .ok (.aload_n 0, 1) := by decide +kernel
theorem dX9_props_36 : decode cX9_props 36 = .ok (.getfield 43, 3) := by decide +kernel
theorem dX9_props_39 : decode cX9_props 39 = .ok (.iload_n 3, 1) := by decide +kernel
theorem dX9_props_40 : decode cX9_props 40 = .ok (.invokevirtual 226, 3) := by decide +kernel
theorem dX9_props_43 : decode cX9_props 43 = .ok (.iload_n 1, 1) := by decide +kernel
theorem dX9_props_44 : decode cX9_props 44 = .ok (.iadd, 1) := by decide +kernel
theorem dX9_props_45 : decode cX9_props 45 = .ok (.iconst 1, 1) := by decide +kernel
theorem dX9_props_46 : decode cX9_props 46 = .ok (.isub, 1) := by decide +kernel
theorem dX9_props_47 : decode cX9_props 47 = .ok (.iload_n 1, 1) := by decide +kernel
theorem dX9_props_48 : decode cX9_props 48 = .ok (.idiv, 1) := by decide +kernel
theorem dX9_props_49 : decode cX9_props 49 = .ok (.iadd, 1) := by decide +kernel
theorem dX9_props_50 : decode cX9_props 50 = .ok (.istore_n 2, 1) := by decide +kernel
theorem dX9_props_51 : decode cX9_props 51 = .ok (.iinc 3 1, 3) := by decide +kernel
theorem dX9_props_54 : decode cX9_props 54 = .ok (.goto (-37), 3) := by decide +kernel
theorem dX9_props_57 : decode cX9_props 57 = .ok (.iload_n 2, 1) := by decide +kernel
theorem dX9_props_58 : decode cX9_props 58 = .ok (.ireturn, 1) := by decide +kernel
theorem dX9_soonest_0 : decode cX9_soonest 0 = .ok (.aload_n 0, 1) := by decide +kernel
theorem dX9_soonest_1 : decode cX9_soonest 1 = .ok (.getfield 43, 3) := by decide +kernel
theorem dX9_soonest_4 : decode cX9_soonest 4 = .ok (.getfield 91, 3) := by decide +kernel
theorem dX9_soonest_7 : decode cX9_soonest 7 = .ok (.iload_n 1, 1) := by decide +kernel
theorem dX9_soonest_8 : decode cX9_soonest 8 = .ok (.invokevirtual 269, 3) := by decide +kernel
theorem dX9_soonest_11 : decode cX9_soonest 11 = .ok (.istore 4, 2) := by decide +kernel
theorem dX9_soonest_13 : decode cX9_soonest 13 = .ok (.aload_n 0, 1) := by decide +kernel
theorem dX9_soonest_14 : decode cX9_soonest 14 = .ok (.getfield 43, 3) := by decide +kernel
theorem dX9_soonest_17 : decode cX9_soonest 17 = .ok (.getfield 91, 3) := by decide +kernel
theorem dX9_soonest_20 : decode cX9_soonest 20 = .ok (.iload_n 2, 1) := by decide +kernel
theorem dX9_soonest_21 : decode cX9_soonest 21 = .ok (.invokevirtual 269, 3) := by decide +kernel
theorem dX9_soonest_24 : decode cX9_soonest 24 = .ok (.istore 5, 2) := by decide +kernel
theorem dX9_soonest_26 : decode cX9_soonest 26 = .ok (.iload 4, 2) := by decide +kernel
theorem dX9_soonest_28 : decode cX9_soonest 28 = .ok (.iconst (-1), 1) := by decide +kernel
theorem dX9_soonest_29 : decode cX9_soonest 29 = .ok (.if_icmp .eq 9, 3) := by decide +kernel
theorem dX9_soonest_32 : decode cX9_soonest 32 = .ok (.iload 5, 2) := by decide +kernel
theorem dX9_soonest_34 : decode cX9_soonest 34 = .ok (.iconst (-1), 1) := by decide +kernel
theorem dX9_soonest_35 : decode cX9_soonest 35 = .ok (.if_icmp .ne 6, 3) := by decide +kernel
theorem dX9_soonest_38 : decode cX9_soonest 38 = .ok (.ldc 161, 2) := by decide +kernel
theorem dX9_soonest_40 : decode cX9_soonest 40 = .ok (.ireturn, 1) := by decide +kernel
theorem dX9_soonest_41 : decode cX9_soonest 41 = .ok (.iload_n 3, 1) := by decide +kernel
theorem dX9_soonest_42 : decode cX9_soonest 42 = .ok (.invokestatic 254, 3) := by decide +kernel
theorem dX9_soonest_45 : decode cX9_soonest 45 = .ok (.ifCond .eq 6, 3) := by decide +kernel
theorem dX9_soonest_48 : decode cX9_soonest 48 = .ok (.ldc 81, 2) := by decide +kernel
theorem dX9_soonest_50 : decode cX9_soonest 50 = .ok (.ireturn, 1) := by decide +kernel
theorem dX9_soonest_51 : decode cX9_soonest 51 = .ok (.aload_n 0, 1) := by decide +kernel
theorem dX9_soonest_52 : decode cX9_soonest 52 = .ok (.getfield 56, 3) := by decide +kernel
theorem dX9_soonest_55 : decode cX9_soonest 55 = .ok (.iload 4, 2) := by decide +kernel
theorem dX9_soonest_57 : decode cX9_soonest 57 = .ok (.iload 5, 2) := by decide +kernel
theorem dX9_soonest_59 : decode cX9_soonest 59 = .ok (.iload_n 3, 1) := by decide +kernel
theorem dX9_soonest_60 : decode cX9_soonest 60 = .ok (.invokevirtual 272, 3) := by decide +kernel
theorem dX9_soonest_63 : decode cX9_soonest 63 = .ok (.ireturn, 1) := by decide +kernel
theorem dX9_least_0 : decode cX9_least 0 = .ok (.aload_n 0, 1) := by decide +kernel
theorem dX9_least_1 : decode cX9_least 1 = .ok (.getfield 43, 3) := by decide +kernel
theorem dX9_least_4 : decode cX9_least 4 = .ok (.getfield 91, 3) := by decide +kernel
theorem dX9_least_7 : decode cX9_least 7 = .ok (.iload_n 1, 1) := by decide +kernel
theorem dX9_least_8 : decode cX9_least 8 = .ok (.invokevirtual 269, 3) := by decide +kernel
theorem dX9_least_11 : decode cX9_least 11 = .ok (.istore 6, 2) := by decide +kernel
theorem dX9_least_13 : decode cX9_least 13 = .ok (.aload_n 0, 1) := by decide +kernel
theorem dX9_least_14 : decode cX9_least 14 = .ok (.getfield 43, 3) := by decide +kernel
theorem dX9_least_17 : decode cX9_least 17 = .ok (.getfield 91, 3) := by decide +kernel
theorem dX9_least_20 : decode cX9_least 20 = .ok (.iload_n 2, 1) := by decide +kernel
theorem dX9_least_21 : decode cX9_least 21 = .ok (.invokevirtual 269, 3) := by decide +kernel
theorem dX9_least_24 : decode cX9_least 24 = .ok (.istore 7, 2) := by decide +kernel
theorem dX9_least_26 : decode cX9_least 26 = .ok (.iload 6, 2) := by decide +kernel
theorem dX9_least_28 : decode cX9_least 28 = .ok (.iconst (-1), 1) := by decide +kernel
theorem dX9_least_29 : decode cX9_least 29 = .ok (.if_icmp .eq 9, 3) := by decide +kernel
theorem dX9_least_32 : decode cX9_least 32 = .ok (.iload 7, 2) := by decide +kernel
theorem dX9_least_34 : decode cX9_least 34 = .ok (.iconst (-1), 1) := by decide +kernel
theorem dX9_least_35 : decode cX9_least 35 = .ok (.if_icmp .ne 6, 3) := by decide +kernel
theorem dX9_least_38 : decode cX9_least 38 = .ok (.ldc 161, 2) := by decide +kernel
theorem dX9_least_40 : decode cX9_least 40 = .ok (.ireturn, 1) := by decide +kernel
theorem dX9_least_41 : decode cX9_least 41 = .ok (.iload_n 3, 1) := by decide +kernel
theorem dX9_least_42 : decode cX9_least 42 = .ok (.invokestatic 254, 3) := by decide +kernel
theorem dX9_least_45 : decode cX9_least 45 = .ok (.ifCond .ne 14, 3) := by decide +kernel
theorem dX9_least_48 : decode cX9_least 48 = .ok (.iload 4, 2) := by decide +kernel
theorem dX9_least_50 : decode cX9_least 50 = .ok (.iconst 1, 1) := by decide +kernel
theorem dX9_least_51 : decode cX9_least 51 = .ok (.bipush 40, 2) := by decide +kernel
theorem dX9_least_53 : decode cX9_least 53 = .ok (.invokestatic 77, 3) := by decide +kernel
theorem dX9_least_56 : decode cX9_least 56 = .ok (.ifCond .eq 6, 3) := by decide +kernel
theorem dX9_least_59 : decode cX9_least 59 = .ok (.ldc 81, 2) := by decide +kernel
theorem dX9_least_61 : decode cX9_least 61 = .ok (.ireturn, 1) := by decide +kernel
theorem dX9_least_62 : decode cX9_least 62 = .ok (.aload_n 0, 1) := by decide +kernel
theorem dX9_least_63 : decode cX9_least 63 = .ok (.getfield 56, 3) := by decide +kernel
theorem dX9_least_66 : decode cX9_least 66 = .ok (.iload 6, 2) := by decide +kernel
theorem dX9_least_68 : decode cX9_least 68 = .ok (.iload 7, 2) := by decide +kernel
theorem dX9_least_70 : decode cX9_least 70 = .ok (.iload_n 3, 1) := by decide +kernel
theorem dX9_least_71 : decode cX9_least 71 = .ok (.iload 4, 2) := by decide +kernel
theorem dX9_least_73 : decode cX9_least 73 = .ok (.invokevirtual 275, 3) := by decide +kernel
theorem dX9_least_76 : decode cX9_least 76 = .ok (.istore 8, 2) := by decide +kernel
theorem dX9_least_78 : decode cX9_least 78 = .ok (.iload 5, 2) := by decide +kernel
theorem dX9_least_80 : decode cX9_least 80 = .ok (.iconst (-1), 1) := by decide +kernel
theorem dX9_least_81 : decode cX9_least 81 = .ok (.if_icmp .eq 9, 3) := by decide +kernel
theorem dX9_least_84 : decode cX9_least 84 = .ok (.iload 8, 2) := by decide +kernel
theorem dX9_least_86 : decode cX9_least 86 = .ok (.iconst (-1), 1) := by decide +kernel
theorem dX9_least_87 : decode cX9_least 87 = .ok (.if_icmp .ne 6, 3) := by decide +kernel
theorem dX9_least_90 : decode cX9_least 90 = .ok (.iload 8, 2) := by decide +kernel
theorem dX9_least_92 : decode cX9_least 92 = .ok (.ireturn, 1) := by decide +kernel
theorem dX9_least_93 : decode cX9_least 93 = .ok (.aload_n 0, 1) := by decide +kernel
theorem dX9_least_94 : decode cX9_least 94 = .ok (.getfield 56, 3) := by decide +kernel
theorem dX9_least_97 : decode cX9_least 97 = .ok (.iload 6, 2) := by decide +kernel
theorem dX9_least_99 : decode cX9_least 99 = .ok (.iload 7, 2) := by decide +kernel
theorem dX9_least_101 : decode cX9_least 101 = .ok (.iload 4, 2) := by decide +kernel
theorem dX9_least_103 : decode cX9_least 103 = .ok (.iload 5, 2) := by decide +kernel
theorem dX9_least_105 : decode cX9_least 105 = .ok (.invokevirtual 279, 3) := by decide +kernel
theorem dX9_least_108 : decode cX9_least 108 = .ok (.ireturn, 1) := by decide +kernel
theorem dX9_water_0 : decode cX9_water 0 = .ok (.iload_n 1, 1) := by decide +kernel
theorem dX9_water_1 : decode cX9_water 1 = .ok (.iconst 0, 1) := by decide +kernel
theorem dX9_water_2 : decode cX9_water 2 = .ok (.sipush 9999, 3) := by decide +kernel
theorem dX9_water_5 : decode cX9_water 5 = .ok (.invokestatic 77, 3) := by decide +kernel
theorem dX9_water_8 : decode cX9_water 8 = .ok (.ifCond .ne 19, 3) := by decide +kernel
theorem dX9_water_11 : decode cX9_water 11 = .ok (.iload_n 2, 1) := by decide +kernel
theorem dX9_water_12 : decode cX9_water 12 = .ok (.invokestatic 254, 3) := by decide +kernel
theorem dX9_water_15 : decode cX9_water 15 = .ok (.ifCond .ne 12, 3) := by decide +kernel
theorem dX9_water_18 : decode cX9_water 18 = .ok (.iload_n 3, 1) := by decide +kernel
theorem dX9_water_19 : decode cX9_water 19 = .ok (.iconst 0, 1) := by decide +kernel
theorem dX9_water_20 : decode cX9_water 20 = .ok (.iconst 2, 1) := by decide +kernel
theorem dX9_water_21 : decode cX9_water 21 = .ok (.invokestatic 77, 3) := by decide +kernel
theorem dX9_water_24 : decode cX9_water 24 = .ok (.ifCond .eq 6, 3) := by decide +kernel
theorem dX9_water_27 : decode cX9_water 27 = .ok (.ldc 81, 2) := by decide +kernel
theorem dX9_water_29 : decode cX9_water 29 = .ok (.ireturn, 1) := by decide +kernel
theorem dX9_water_30 : decode cX9_water 30 = .ok (.aload_n 0, 1) := by decide +kernel
theorem dX9_water_31 : decode cX9_water 31 = .ok (.getfield 43, 3) := by decide +kernel
theorem dX9_water_34 : decode cX9_water 34 = .ok (.getfield 91, 3) := by decide +kernel
theorem dX9_water_37 : decode cX9_water 37 = .ok (.getfield 132, 3) := by decide +kernel
theorem dX9_water_40 : decode cX9_water 40 = .ok (.getfield 126, 3) := by decide +kernel
theorem dX9_water_43 : decode cX9_water 43 = .ok (.ifCond .ne 6, 3) := by decide +kernel
theorem dX9_water_46 : decode cX9_water 46 = .ok (.ldc 236, 2) := by decide +kernel
theorem dX9_water_48 : decode cX9_water 48 = .ok (.ireturn, 1) := by decide +kernel
theorem dX9_water_49 : decode cX9_water 49 = .ok (.aload_n 0, 1) := by decide +kernel
theorem dX9_water_50 : decode cX9_water 50 = .ok (.getfield 63, 3) := by decide +kernel
theorem dX9_water_53 : decode cX9_water 53 = .ok (.iload_n 1, 1) := by decide +kernel
theorem dX9_water_54 : decode cX9_water 54 = .ok (.iload_n 2, 1) := by decide +kernel
theorem dX9_water_55 : decode cX9_water 55 = .ok (.invokevirtual 282, 3) := by decide +kernel
theorem dX9_water_58 : decode cX9_water 58 = .ok (.iload_n 3, 1) := by decide +kernel
theorem dX9_water_59 : decode cX9_water 59 = .ok (.ifCond .ne 11, 3) := by decide +kernel
theorem dX9_water_62 : decode cX9_water 62 = .ok (.aload_n 0, 1) := by decide +kernel
theorem dX9_water_63 : decode cX9_water 63 = .ok (.getfield 63, 3) := by decide +kernel
theorem dX9_water_66 : decode cX9_water 66 = .ok (.getfield 285, 3) := by decide +kernel
theorem dX9_water_69 : decode cX9_water 69 = .ok (.ireturn, 1) := by decide +kernel
theorem dX9_water_70 : decode cX9_water 70 = .ok (.iload_n 3, 1) := by decide +kernel
theorem dX9_water_71 : decode cX9_water 71 = .ok (.iconst 1, 1) := by decide +kernel
theorem dX9_water_72 : decode cX9_water 72 = .ok (.if_icmp .ne 13, 3) := by decide +kernel
theorem dX9_water_75 : decode cX9_water 75 = .ok (.aload_n 0, 1) := by decide +kernel
theorem dX9_water_76 : decode cX9_water 76 = .ok (.getfield 63, 3) := by decide +kernel
theorem dX9_water_79 : decode cX9_water 79 = .ok (.getfield 288, 3) := by decide +kernel
theorem dX9_water_82 : decode cX9_water 82 = .ok (.goto 10, 3) := by decide +kernel
theorem dX9_water_85 : decode cX9_water 85 = .ok (.aload_n 0, 1) := by decide +kernel
theorem dX9_water_86 : decode cX9_water 86 = .ok (.getfield 63, 3) := by decide +kernel
theorem dX9_water_89 : decode cX9_water 89 = .ok (.invokevirtual 291, 3) := by decide +kernel
theorem dX9_water_92 : decode cX9_water 92 = .ok (.ireturn, 1) := by decide +kernel
theorem dX9_whose_0 : decode cX9_whose 0 = .ok (.aload_n 0, 1) := by decide +kernel
theorem dX9_whose_1 : decode cX9_whose 1 = .ok (.getfield 43, 3) := by decide +kernel
theorem dX9_whose_4 : decode cX9_whose 4 = .ok (.getfield 91, 3) := by decide +kernel
theorem dX9_whose_7 : decode cX9_whose 7 = .ok (.getfield 134, 3) := by decide +kernel
theorem dX9_whose_10 : decode cX9_whose 10 = .ok (.iload_n 1, 1) := by decide +kernel
theorem dX9_whose_11 : decode cX9_whose 11 = .ok (.invokevirtual 210, 3) := by decide +kernel
theorem dX9_whose_14 : decode cX9_whose 14 = .ok (.ifCond .ne 6, 3) := by decide +kernel
theorem dX9_whose_17 : decode cX9_whose 17 = .ok (.ldc 161, 2) := by decide +kernel
theorem dX9_whose_19 : decode cX9_whose 19 = .ok (.ireturn, 1) := by decide +kernel
theorem dX9_whose_20 : decode cX9_whose 20 = .ok (.iload_n 2, 1) := by decide +kernel
theorem dX9_whose_21 : decode cX9_whose 21 = .ok (.invokestatic 254, 3) := by decide +kernel
theorem dX9_whose_24 : decode cX9_whose 24 = .ok (.ifCond .eq 6, 3) := by decide +kernel
theorem dX9_whose_27 : decode cX9_whose 27 = .ok (.ldc 81, 2) := by decide +kernel
theorem dX9_whose_29 : decode cX9_whose 29 = .ok (.ireturn, 1) := by decide +kernel
theorem dX9_whose_30 : decode cX9_whose 30 = .ok (.aload_n 0, 1) := by decide +kernel
theorem dX9_whose_31 : decode cX9_whose 31 = .ok (.getfield 43, 3) := by decide +kernel
theorem dX9_whose_34 : decode cX9_whose 34 = .ok (.iload_n 1, 1) := by decide +kernel
theorem dX9_whose_35 : decode cX9_whose 35 = .ok (.iload_n 2, 1) := by decide +kernel
theorem dX9_whose_36 : decode cX9_whose 36 = .ok (.invokevirtual 294, 3) := by decide +kernel
theorem dX9_whose_39 : decode cX9_whose 39 = .ok (.ireturn, 1) := by decide +kernel
theorem dX9_stays_0 : decode cX9_stays 0 = .ok (.aload_n 0, 1) := by decide +kernel
theorem dX9_stays_1 : decode cX9_stays 1 = .ok (.getfield 43, 3) := by decide +kernel
theorem dX9_stays_4 : decode cX9_stays 4 = .ok (.getfield 91, 3) := by decide +kernel
theorem dX9_stays_7 : decode cX9_stays 7 = .ok (.getfield 134, 3) := by decide +kernel
theorem dX9_stays_10 : decode cX9_stays 10 = .ok (.iload_n 1, 1) := by decide +kernel
theorem dX9_stays_11 : decode cX9_stays 11 = .ok (.invokevirtual 210, 3) := by decide +kernel
theorem dX9_stays_14 : decode cX9_stays 14 = .ok (.ifCond .ne 6, 3) := by decide +kernel
theorem dX9_stays_17 : decode cX9_stays 17 = .ok (.ldc 161, 2) := by decide +kernel
theorem dX9_stays_19 : decode cX9_stays 19 = .ok (.ireturn, 1) := by decide +kernel
theorem dX9_stays_20 : decode cX9_stays 20 = .ok (.aload_n 0, 1) := by decide +kernel
theorem dX9_stays_21 : decode cX9_stays 21 = .ok (.getfield 43, 3) := by decide +kernel
theorem dX9_stays_24 : decode cX9_stays 24 = .ok (.getfield 91, 3) := by decide +kernel
theorem dX9_stays_27 : decode cX9_stays 27 = .ok (.invokevirtual 140, 3) := by decide +kernel
theorem dX9_stays_30 : decode cX9_stays 30 = .ok (.istore_n 2, 1) := by decide +kernel
theorem dX9_stays_31 : decode cX9_stays 31 = .ok (.aload_n 0, 1) := by decide +kernel
theorem dX9_stays_32 : decode cX9_stays 32 = .ok (.getfield 43, 3) := by decide +kernel
theorem dX9_stays_35 : decode cX9_stays 35 = .ok (.iload_n 1, 1) := by decide +kernel
theorem dX9_stays_36 : decode cX9_stays 36 = .ok (.iconst 0, 1) := by decide +kernel
theorem dX9_stays_37 : decode cX9_stays 37 = .ok (.invokevirtual 294, 3) := by decide +kernel
theorem dX9_stays_40 : decode cX9_stays 40 = .ok (.istore_n 3, 1) := by decide +kernel
theorem dX9_stays_41 : decode cX9_stays 41 = .ok (.iconst 1, 1) := by decide +kernel
theorem dX9_stays_42 : decode cX9_stays 42 = .ok (.istore 4, 2) := by decide +kernel
theorem dX9_stays_44 : decode cX9_stays 44 = .ok (.iload 4, 2) := by decide +kernel
theorem dX9_stays_46 : decode cX9_stays 46 = .ok (.iload_n 2, 1) := by decide +kernel
theorem dX9_stays_47 : decode cX9_stays 47 = .ok (.if_icmp .ge 22, 3) := by decide +kernel
theorem dX9_stays_50 : decode cX9_stays 50 = .ok (.iload_n 3, 1) := by decide +kernel
theorem dX9_stays_51 : decode cX9_stays 51 = .ok (.aload_n 0, 1) := by decide +kernel
theorem dX9_stays_52 : decode cX9_stays 52 = .ok (.getfield 43, 3) := by decide +kernel
theorem dX9_stays_55 : decode cX9_stays 55 = .ok (.iload_n 1, 1) := by decide +kernel
theorem dX9_stays_56 : decode cX9_stays 56 = .ok (.iload 4, 2) := by decide +kernel
theorem dX9_stays_58 : decode cX9_stays 58 = .ok (.invokevirtual 294, 3) := by decide +kernel
theorem dX9_stays_61 : decode cX9_stays 61 = .ok (.iand, 1) := by decide +kernel
theorem dX9_stays_62 : decode cX9_stays 62 = .ok (.istore_n 3, 1) := by decide +kernel
theorem dX9_stays_63 : decode cX9_stays 63 = .ok (.iinc 4 1, 3) := by decide +kernel
theorem dX9_stays_66 : decode cX9_stays 66 = .ok (.goto (-22), 3) := by decide +kernel
theorem dX9_stays_69 : decode cX9_stays 69 = .ok (.iload_n 3, 1) := by decide +kernel
theorem dX9_stays_70 : decode cX9_stays 70 = .ok (.ireturn, 1) := by decide +kernel
theorem dX9_see_0 : decode cX9_see 0 = .ok (.aload_n 0, 1) := by decide +kernel
theorem dX9_see_1 : decode cX9_see 1 = .ok (.getfield 43, 3) := by decide +kernel
theorem dX9_see_4 : decode cX9_see 4 = .ok (.getfield 91, 3) := by decide +kernel
theorem dX9_see_7 : decode cX9_see 7 = .ok (.iload_n 1, 1) := by decide +kernel
theorem dX9_see_8 : decode cX9_see 8 = .ok (.iload_n 2, 1) := by decide +kernel
theorem dX9_see_9 : decode cX9_see 9 = .ok (.invokevirtual 157, 3) := by decide +kernel
theorem dX9_see_12 : decode cX9_see 12 = .ok (.istore 5, 2) := by decide +kernel
theorem dX9_see_14 : decode cX9_see 14 = .ok (.iload 5, 2) := by decide +kernel
theorem dX9_see_16 : decode cX9_see 16 = .ok (.iconst (-1), 1) := by decide +kernel
theorem dX9_see_17 : decode cX9_see 17 = .ok (.if_icmp .ne 6, 3) := by decide +kernel
theorem dX9_see_20 : decode cX9_see 20 = .ok (.ldc 161, 2) := by decide +kernel
theorem dX9_see_22 : decode cX9_see 22 = .ok (.ireturn, 1) := by decide +kernel
theorem dX9_see_23 : decode cX9_see 23 = .ok (.iload_n 3, 1) := by decide +kernel
theorem dX9_see_24 : decode cX9_see 24 = .ok (.iconst 0, 1) := by decide +kernel
theorem dX9_see_25 : decode cX9_see 25 = .ok (.sipush 999, 3) := by decide +kernel
theorem dX9_see_28 : decode cX9_see 28 = .ok (.invokestatic 77, 3) := by decide +kernel
theorem dX9_see_31 : decode cX9_see 31 = .ok (.ifCond .ne 17, 3) := by decide +kernel
theorem dX9_see_34 : decode cX9_see 34 = .ok (.iload 4, 2) := by decide +kernel
theorem dX9_see_36 : decode cX9_see 36 = .ok (.sipush (-999), 3) := by decide +kernel
theorem dX9_see_39 : decode cX9_see 39 = .ok (.sipush 999, 3) := by decide +kernel
theorem dX9_see_42 : decode cX9_see 42 = .ok (.invokestatic 77, 3) := by decide +kernel
theorem dX9_see_45 : decode cX9_see 45 = .ok (.ifCond .eq 6, 3) := by decide +kernel
theorem dX9_see_48 : decode cX9_see 48 = .ok (.ldc 81, 2) := by decide +kernel
theorem dX9_see_50 : decode cX9_see 50 = .ok (.ireturn, 1) := by decide +kernel
theorem dX9_see_51 : decode cX9_see 51 = .ok (.aload_n 0, 1) := by decide +kernel
theorem dX9_see_52 : decode cX9_see 52 = .ok (.getfield 70, 3) := by decide +kernel
theorem dX9_see_55 : decode cX9_see 55 = .ok (.getfield 103, 3) := by decide +kernel
theorem dX9_see_58 : decode cX9_see 58 = .ok (.bipush 12, 2) := by decide +kernel
theorem dX9_see_60 : decode cX9_see 60 = .ok (.if_icmp .lt 6, 3) := by decide +kernel
theorem dX9_see_63 : decode cX9_see 63 = .ok (.ldc 85, 2) := by decide +kernel
theorem dX9_see_65 : decode cX9_see 65 = .ok (.ireturn, 1) := by decide +kernel
theorem dX9_see_66 : decode cX9_see 66 = .ok (.aload_n 0, 1) := by decide +kernel
theorem dX9_see_67 : decode cX9_see 67 = .ok (.getfield 70, 3) := by decide +kernel
theorem dX9_see_70 : decode cX9_see 70 = .ok (.iload 5, 2) := by decide +kernel
theorem dX9_see_72 : decode cX9_see 72 = .ok (.iload_n 3, 1) := by decide +kernel
theorem dX9_see_73 : decode cX9_see 73 = .ok (.iload 4, 2) := by decide +kernel
theorem dX9_see_75 : decode cX9_see 75 = .ok (.invokevirtual 297, 3) := by decide +kernel
theorem dX9_see_78 : decode cX9_see 78 = .ok (.aload_n 0, 1) := by decide +kernel
theorem dX9_see_79 : decode cX9_see 79 = .ok (.getfield 70, 3) := by decide +kernel
theorem dX9_see_82 : decode cX9_see 82 = .ok (.getfield 103, 3) := by decide +kernel
theorem dX9_see_85 : decode cX9_see 85 = .ok (.ireturn, 1) := by decide +kernel
theorem dX9_fits_0 : decode cX9_fits 0 = .ok (.iload_n 1, 1) := by decide +kernel
theorem dX9_fits_1 : decode cX9_fits 1 = .ok (.iconst (-1), 1) := by decide +kernel
theorem dX9_fits_2 : decode cX9_fits 2 = .ok (.if_icmp .eq 14, 3) := by decide +kernel
theorem dX9_fits_5 : decode cX9_fits 5 = .ok (.aload_n 0, 1) := by decide +kernel
theorem dX9_fits_6 : decode cX9_fits 6 = .ok (.iload_n 2, 1) := by decide +kernel
theorem dX9_fits_7 : decode cX9_fits 7 = .ok (.invokevirtual 185, 3) := by decide +kernel
theorem dX9_fits_10 : decode cX9_fits 10 = .ok (.ifCond .eq 6, 3) := by decide +kernel
theorem dX9_fits_13 : decode cX9_fits 13 = .ok (.ldc 161, 2) := by decide +kernel
theorem dX9_fits_15 : decode cX9_fits 15 = .ok (.ireturn, 1) := by decide +kernel
theorem dX9_fits_16 : decode cX9_fits 16 = .ok (.aload_n 0, 1) := by decide +kernel
theorem dX9_fits_17 : decode cX9_fits 17 = .ok (.getfield 70, 3) := by decide +kernel
theorem dX9_fits_20 : decode cX9_fits 20 = .ok (.invokevirtual 301, 3) := by decide +kernel
theorem dX9_fits_23 : decode cX9_fits 23 = .ok (.istore_n 3, 1) := by decide +kernel
theorem dX9_fits_24 : decode cX9_fits 24 = .ok (.iload_n 1, 1) := by decide +kernel
theorem dX9_fits_25 : decode cX9_fits 25 = .ok (.iconst (-1), 1) := by decide +kernel
theorem dX9_fits_26 : decode cX9_fits 26 = .ok (.if_icmp .ne 5, 3) := by decide +kernel
theorem dX9_fits_29 : decode cX9_fits 29 = .ok (.iload_n 3, 1) := by decide +kernel
theorem dX9_fits_30 : decode cX9_fits 30 = .ok (.ireturn, 1) := by decide +kernel
theorem dX9_fits_31 : decode cX9_fits 31 = .ok (.iload_n 1, 1) := by decide +kernel
theorem dX9_fits_32 : decode cX9_fits 32 = .ok (.iconst 0, 1) := by decide +kernel
theorem dX9_fits_33 : decode cX9_fits 33 = .ok (.iload_n 3, 1) := by decide +kernel
theorem dX9_fits_34 : decode cX9_fits 34 = .ok (.iconst 1, 1) := by decide +kernel
theorem dX9_fits_35 : decode cX9_fits 35 = .ok (.isub, 1) := by decide +kernel
theorem dX9_fits_36 : decode cX9_fits 36 = .ok (.invokestatic 77, 3) := by decide +kernel
theorem dX9_fits_39 : decode cX9_fits 39 = .ok (.ifCond .eq 7, 3) := by decide +kernel
theorem dX9_fits_42 : decode cX9_fits 42 = .ok (.iconst (-1), 1) := by decide +kernel
theorem dX9_fits_43 : decode cX9_fits 43 = .ok (.goto 12, 3) := by decide +kernel
theorem dX9_fits_46 : decode cX9_fits 46 = .ok (.aload_n 0, 1) := by decide +kernel
theorem dX9_fits_47 : decode cX9_fits 47 = .ok (.getfield 70, 3) := by decide +kernel
theorem dX9_fits_50 : decode cX9_fits 50 = .ok (.iload_n 1, 1) := by decide +kernel
theorem dX9_fits_51 : decode cX9_fits 51 = .ok (.iload_n 2, 1) := by decide +kernel
theorem dX9_fits_52 : decode cX9_fits 52 = .ok (.invokevirtual 304, 3) := by decide +kernel
theorem dX9_fits_55 : decode cX9_fits 55 = .ok (.ireturn, 1) := by decide +kernel
theorem dX9_look_0 : decode cX9_look 0 = .ok (.iload_n 1, 1) := by decide +kernel
theorem dX9_look_1 : decode cX9_look 1 = .ok (.iconst 0, 1) := by decide +kernel
theorem dX9_look_2 : decode cX9_look 2 = .ok (.iconst 2, 1) := by decide +kernel
theorem dX9_look_3 : decode cX9_look 3 = .ok (.invokestatic 77, 3) := by decide +kernel
theorem dX9_look_6 : decode cX9_look 6 = .ok (.ifCond .eq 6, 3) := by decide +kernel
theorem dX9_look_9 : decode cX9_look 9 = .ok (.ldc 81, 2) := by decide +kernel
theorem dX9_look_11 : decode cX9_look 11 = .ok (.ireturn, 1) := by decide +kernel
theorem dX9_look_12 : decode cX9_look 12 = .ok (.aload_n 0, 1) := by decide +kernel
theorem dX9_look_13 : decode cX9_look 13 = .ok (.getfield 70, 3) := by decide +kernel
theorem dX9_look_16 : decode cX9_look 16 = .ok (.invokevirtual 307, 3) := by decide +kernel
theorem dX9_look_19 : decode cX9_look 19 = .ok (.ifCond .ne 5, 3) := by decide +kernel
theorem dX9_look_22 : decode cX9_look 22 = .ok (.iconst (-1), 1) := by decide +kernel
theorem dX9_look_23 : decode cX9_look 23 = .ok (.ireturn, 1) := by decide +kernel
theorem dX9_look_24 : decode cX9_look 24 = .ok (.iload_n 1, 1) := by decide +kernel
theorem dX9_look_25 : decode cX9_look 25 = .ok (.ifCond .ne 21, 3) := by decide +kernel
theorem dX9_look_28 : decode cX9_look 28 = .ok (.aload_n 0, 1) := by decide +kernel
theorem dX9_look_29 : decode cX9_look 29 = .ok (.getfield 43, 3) := by decide +kernel
theorem dX9_look_32 : decode cX9_look 32 = .ok (.getfield 91, 3) := by decide +kernel
theorem dX9_look_35 : decode cX9_look 35 = .ok (.aload_n 0, 1) := by decide +kernel
theorem dX9_look_36 : decode cX9_look 36 = .ok (.getfield 70, 3) := by decide +kernel
theorem dX9_look_39 : decode cX9_look 39 = .ok (.getfield 311, 3) := by decide +kernel
theorem dX9_look_42 : decode cX9_look 42 = .ok (.invokevirtual 147, 3) := by decide +kernel
theorem dX9_look_45 : decode cX9_look 45 = .ok (.ireturn, 1) := by decide +kernel
theorem dX9_look_46 : decode cX9_look 46 = .ok (.iload_n 1, 1) := by decide +kernel
theorem dX9_look_47 : decode cX9_look 47 = .ok (.iconst 1, 1) := by decide +kernel
theorem dX9_look_48 : decode cX9_look 48 = .ok (.if_icmp .ne 13, 3) := by decide +kernel
theorem dX9_look_51 : decode cX9_look 51 = .ok (.aload_n 0, 1) := by decide +kernel
theorem dX9_look_52 : decode cX9_look 52 = .ok (.getfield 70, 3) := by decide +kernel
theorem dX9_look_55 : decode cX9_look 55 = .ok (.getfield 314, 3) := by decide +kernel
theorem dX9_look_58 : decode cX9_look 58 = .ok (.goto 10, 3) := by decide +kernel
theorem dX9_look_61 : decode cX9_look 61 = .ok (.aload_n 0, 1) := by decide +kernel
theorem dX9_look_62 : decode cX9_look 62 = .ok (.getfield 70, 3) := by decide +kernel
theorem dX9_look_65 : decode cX9_look 65 = .ok (.getfield 317, 3) := by decide +kernel
theorem dX9_look_68 : decode cX9_look 68 = .ok (.ireturn, 1) := by decide +kernel
theorem dX9_odds_0 : decode cX9_odds 0 = .ok (.aload_n 0, 1) := by decide +kernel
theorem dX9_odds_1 : decode cX9_odds 1 = .ok (.getfield 43, 3) := by decide +kernel
theorem dX9_odds_4 : decode cX9_odds 4 = .ok (.getfield 91, 3) := by decide +kernel
theorem dX9_odds_7 : decode cX9_odds 7 = .ok (.iload_n 3, 1) := by decide +kernel
theorem dX9_odds_8 : decode cX9_odds 8 = .ok (.iload 4, 2) := by decide +kernel
theorem dX9_odds_10 : decode cX9_odds 10 = .ok (.invokevirtual 157, 3) := by decide +kernel
theorem dX9_odds_13 : decode cX9_odds 13 = .ok (.istore 7, 2) := by decide +kernel
theorem dX9_odds_15 : decode cX9_odds 15 = .ok (.aload_n 0, 1) := by decide +kernel
theorem dX9_odds_16 : decode cX9_odds 16 = .ok (.iload_n 1, 1) := by decide +kernel
theorem dX9_odds_17 : decode cX9_odds 17 = .ok (.invokevirtual 185, 3) := by decide +kernel
theorem dX9_odds_20 : decode cX9_odds 20 = .ok (.ifCond .ne 9, 3) := by decide +kernel
theorem dX9_odds_23 : decode cX9_odds 23 = .ok (.iload 7, 2) := by decide +kernel
theorem dX9_odds_25 : decode cX9_odds 25 = .ok (.iconst (-1), 1) := by decide +kernel
theorem dX9_odds_26 : decode cX9_odds 26 = .ok (.if_icmp .ne 6, 3) := by decide +kernel
theorem dX9_odds_29 : decode cX9_odds 29 = .ok (.ldc 161, 2) := by decide +kernel
theorem dX9_odds_31 : decode cX9_odds 31 = .ok (.ireturn, 1) := by decide +kernel
theorem dX9_odds_32 : decode cX9_odds 32 = .ok (.iload_n 2, 1) := by decide +kernel
theorem dX9_odds_33 : decode cX9_odds 33 = .ok (.iconst 0, 1) := by decide +kernel
theorem dX9_odds_34 : decode cX9_odds 34 = .ok (.bipush 100, 2) := by decide +kernel
theorem dX9_odds_36 : decode cX9_odds 36 = .ok (.invokestatic 77, 3) := by decide +kernel
theorem dX9_odds_39 : decode cX9_odds 39 = .ok (.ifCond .ne 23, 3) := by decide +kernel
theorem dX9_odds_42 : decode cX9_odds 42 = .ok (.iload 5, 2) := by decide +kernel
theorem dX9_odds_44 : decode cX9_odds 44 = .ok (.iconst 0, 1) := by decide +kernel
theorem dX9_odds_45 : decode cX9_odds 45 = .ok (.sipush 999, 3) := by decide +kernel
theorem dX9_odds_48 : decode cX9_odds 48 = .ok (.invokestatic 77, 3) := by decide +kernel
theorem dX9_odds_51 : decode cX9_odds 51 = .ok (.ifCond .ne 11, 3) := by decide +kernel
theorem dX9_odds_54 : decode cX9_odds 54 = .ok (.iload 6, 2) := by decide +kernel
theorem dX9_odds_56 : decode cX9_odds 56 = .ok (.invokestatic 254, 3) := by decide +kernel
theorem dX9_odds_59 : decode cX9_odds 59 = .ok (.ifCond .eq 6, 3) := by decide +kernel
theorem dX9_odds_62 : decode cX9_odds 62 = .ok (.ldc 81, 2) := by decide +kernel
theorem dX9_odds_64 : decode cX9_odds 64 = .ok (.ireturn, 1) := by decide +kernel
theorem dX9_odds_65 : decode cX9_odds 65 = .ok (.ldc_w 320, 3) := by decide +kernel
theorem dX9_odds_68 : decode cX9_odds 68 = .ok (.iload_n 2, 1) := by decide +kernel
theorem dX9_odds_69 : decode cX9_odds 69 = .ok (.imul, 1) := by decide +kernel
theorem dX9_odds_70 : decode cX9_odds 70 = .ok (.istore 8, 2) := by decide +kernel
theorem dX9_odds_72 : decode cX9_odds 72 = .ok (.iconst 0, 1) := by decide +kernel
theorem dX9_odds_73 : decode cX9_odds 73 = .ok (.istore 9, 2) := by decide +kernel
theorem dX9_odds_75 : decode cX9_odds 75 = .ok (.aload_n 0, 1) := by decide +kernel
theorem dX9_odds_76 : decode cX9_odds 76 = .ok (.getfield 43, 3) := by decide +kernel
theorem dX9_odds_79 : decode cX9_odds 79 = .ok (.iload 7, 2) := by decide +kernel
theorem dX9_odds_81 : decode cX9_odds 81 = .ok (.iload 6, 2) := by decide +kernel
theorem dX9_odds_83 : decode cX9_odds 83 = .ok (.iconst (-1), 1) := by decide +kernel
theorem dX9_odds_84 : decode cX9_odds 84 = .ok (.invokevirtual 181, 3) := by decide +kernel
theorem dX9_odds_87 : decode cX9_odds 87 = .ok (.iload 5, 2) := by decide +kernel
theorem dX9_odds_89 : decode cX9_odds 89 = .ok (.if_icmp .le 10, 3) := by decide +kernel
theorem dX9_odds_92 : decode cX9_odds 92 = .ok (.iload 9, 2) := by decide +kernel
theorem dX9_odds_94 : decode cX9_odds 94 = .ok (.iload 8, 2) := by decide +kernel
theorem dX9_odds_96 : decode cX9_odds 96 = .ok (.iadd, 1) := by decide +kernel
theorem dX9_odds_97 : decode cX9_odds 97 = .ok (.istore 9, 2) := by decide +kernel
theorem dX9_odds_99 : decode cX9_odds 99 = .ok (.aload_n 0, 1) := by decide +kernel
theorem dX9_odds_100 : decode cX9_odds 100 = .ok (.getfield 43, 3) := by decide +kernel
theorem dX9_odds_103 : decode cX9_odds 103 = .ok (.iload 7, 2) := by decide +kernel
theorem dX9_odds_105 : decode cX9_odds 105 = .ok (.iload 6, 2) := by decide +kernel
theorem dX9_odds_107 : decode cX9_odds 107 = .ok (.iload_n 1, 1) := by decide +kernel
theorem dX9_odds_108 : decode cX9_odds 108 = .ok (.invokevirtual 181, 3) := by decide +kernel
theorem dX9_odds_111 : decode cX9_odds 111 = .ok (.iload 5, 2) := by decide +kernel
theorem dX9_odds_113 : decode cX9_odds 113 = .ok (.if_icmp .le 14, 3) := by decide +kernel
theorem dX9_odds_116 : decode cX9_odds 116 = .ok (.iload 9, 2) := by decide +kernel
theorem dX9_odds_118 : decode cX9_odds 118 = .ok (.ldc_w 321, 3) := by decide +kernel
theorem dX9_odds_121 : decode cX9_odds 121 = .ok (.iload 8, 2) := by decide +kernel
theorem dX9_odds_123 : decode cX9_odds 123 = .ok (.isub, 1) := by decide +kernel
theorem dX9_odds_124 : decode cX9_odds 124 = .ok (.iadd, 1) := by decide +kernel
theorem dX9_odds_125 : decode cX9_odds 125 = .ok (.istore 9, 2) := by decide +kernel
theorem dX9_odds_127 : decode cX9_odds 127 = .ok (.iload 9, 2) := by decide +kernel
theorem dX9_odds_129 : decode cX9_odds 129 = .ok (.ireturn, 1) := by decide +kernel
theorem dX9_write_0 : decode cX9_write 0 = .ok (.iload_n 1, 1) := by decide +kernel
theorem dX9_write_1 : decode cX9_write 1 = .ok (.invokestatic 233, 3) := by decide +kernel
theorem dX9_write_4 : decode cX9_write 4 = .ok (.ifCond .eq 6, 3) := by decide +kernel
theorem dX9_write_7 : decode cX9_write 7 = .ok (.ldc 81, 2) := by decide +kernel
theorem dX9_write_9 : decode cX9_write 9 = .ok (.ireturn, 1) := by decide +kernel
theorem dX9_write_10 : decode cX9_write 10 = .ok (.aload_n 0, 1) := by decide +kernel
theorem dX9_write_11 : decode cX9_write 11 = .ok (.getfield 106, 3) := by decide +kernel
theorem dX9_write_14 : decode cX9_write 14 = .ok (.bipush 30, 2) := by decide +kernel
theorem dX9_write_16 : decode cX9_write 16 = .ok (.if_icmp .lt 6, 3) := by decide +kernel
theorem dX9_write_19 : decode cX9_write 19 = .ok (.ldc 85, 2) := by decide +kernel
theorem dX9_write_21 : decode cX9_write 21 = .ok (.ireturn, 1) := by decide +kernel
theorem dX9_write_22 : decode cX9_write 22 = .ok (.aload_n 0, 1) := by decide +kernel
theorem dX9_write_23 : decode cX9_write 23 = .ok (.getfield 74, 3) := by decide +kernel
theorem dX9_write_26 : decode cX9_write 26 = .ok (.aload_n 0, 1) := by decide +kernel
theorem dX9_write_27 : decode cX9_write 27 = .ok (.getfield 106, 3) := by decide +kernel
theorem dX9_write_30 : decode cX9_write 30 = .ok (.iload_n 1, 1) := by decide +kernel
theorem dX9_write_31 : decode cX9_write 31 = .ok (.iastore, 1) := by decide +kernel
theorem dX9_write_32 : decode cX9_write 32 = .ok (.aload_n 0, 1) := by decide +kernel
theorem dX9_write_33 : decode cX9_write 33 = .ok (.dup, 1) := by decide +kernel
theorem dX9_write_34 : decode cX9_write 34 = .ok (.getfield 106, 3) := by decide +kernel
theorem dX9_write_37 : decode cX9_write 37 = .ok (.iconst 1, 1) := by decide +kernel
theorem dX9_write_38 : decode cX9_write 38 = .ok (.iadd, 1) := by decide +kernel
theorem dX9_write_39 : decode cX9_write 39 = .ok (.putfield 106, 3) := by decide +kernel
theorem dX9_write_42 : decode cX9_write 42 = .ok (.aload_n 0, 1) := by decide +kernel
theorem dX9_write_43 : decode cX9_write 43 = .ok (.getfield 106, 3) := by decide +kernel
theorem dX9_write_46 : decode cX9_write 46 = .ok (.ireturn, 1) := by decide +kernel
theorem dX9_tear_0 : decode cX9_tear 0 = .ok (.aload_n 0, 1) := by decide +kernel
theorem dX9_tear_1 : decode cX9_tear 1 = .ok (.getfield 106, 3) := by decide +kernel
theorem dX9_tear_4 : decode cX9_tear 4 = .ok (.aload_n 0, 1) := by decide +kernel
theorem dX9_tear_5 : decode cX9_tear 5 = .ok (.getfield 70, 3) := by decide +kernel
theorem dX9_tear_8 : decode cX9_tear 8 = .ok (.getfield 103, 3) := by decide +kernel
theorem dX9_tear_11 : decode cX9_tear 11 = .ok (.iadd, 1) := by decide +kernel
theorem dX9_tear_12 : decode cX9_tear 12 = .ok (.istore_n 1, 1) := by decide +kernel
theorem dX9_tear_13 : decode cX9_tear 13 = .ok (.aload_n 0, 1) := by decide +kernel
theorem dX9_tear_14 : decode cX9_tear 14 = .ok (.iconst 0, 1) := by decide +kernel
theorem dX9_tear_15 : decode cX9_tear 15 = .ok (.putfield 106, 3) := by decide +kernel
theorem dX9_tear_18 : decode cX9_tear 18 = .ok (.aload_n 0, 1) := by decide +kernel
theorem dX9_tear_19 : decode cX9_tear 19 = .ok (.getfield 70, 3) := by decide +kernel
theorem dX9_tear_22 : decode cX9_tear 22 = .ok (.iconst 0, 1) := by decide +kernel
theorem dX9_tear_23 : decode cX9_tear 23 = .ok (.putfield 103, 3) := by decide +kernel
theorem dX9_tear_26 : decode cX9_tear 26 = .ok (.iload_n 1, 1) := by decide +kernel
theorem dX9_tear_27 : decode cX9_tear 27 = .ok (.ireturn, 1) := by decide +kernel
theorem dX9_judge_0 : decode cX9_judge 0 = .ok (.iload_n 1, 1) := by decide +kernel
theorem dX9_judge_1 : decode cX9_judge 1 = .ok (.iconst 0, 1) := by decide +kernel
theorem dX9_judge_2 : decode cX9_judge 2 = .ok (.iconst 1, 1) := by decide +kernel
theorem dX9_judge_3 : decode cX9_judge 3 = .ok (.invokestatic 77, 3) := by decide +kernel
theorem dX9_judge_6 : decode cX9_judge 6 = .ok (.ifCond .eq 6, 3) := by decide +kernel
theorem dX9_judge_9 : decode cX9_judge 9 = .ok (.ldc 81, 2) := by decide +kernel
theorem dX9_judge_11 : decode cX9_judge 11 = .ok (.ireturn, 1) := by decide +kernel
theorem dX9_judge_12 : decode cX9_judge 12 = .ok (.aload_n 0, 1) := by decide +kernel
theorem dX9_judge_13 : decode cX9_judge 13 = .ok (.getfield 43, 3) := by decide +kernel
theorem dX9_judge_16 : decode cX9_judge 16 = .ok (.getfield 91, 3) := by decide +kernel
theorem dX9_judge_19 : decode cX9_judge 19 = .ok (.getfield 97, 3) := by decide +kernel
theorem dX9_judge_22 : decode cX9_judge 22 = .ok (.ifCond .ne 6, 3) := by decide +kernel
theorem dX9_judge_25 : decode cX9_judge 25 = .ok (.ldc 236, 2) := by decide +kernel
theorem dX9_judge_27 : decode cX9_judge 27 = .ok (.ireturn, 1) := by decide +kernel
theorem dX9_judge_28 : decode cX9_judge 28 = .ok (.aload_n 0, 1) := by decide +kernel
theorem dX9_judge_29 : decode cX9_judge 29 = .ok (.getfield 34, 3) := by decide +kernel
theorem dX9_judge_32 : decode cX9_judge 32 = .ok (.getfield 144, 3) := by decide +kernel
theorem dX9_judge_35 : decode cX9_judge 35 = .ok (.istore_n 2, 1) := by decide +kernel
theorem dX9_judge_36 : decode cX9_judge 36 = .ok (.iconst 0, 1) := by decide +kernel
theorem dX9_judge_37 : decode cX9_judge 37 = .ok (.istore_n 3, 1) := by decide +kernel
theorem dX9_judge_38 : decode cX9_judge 38 = .ok (.iconst 0, 1) := by decide +kernel
theorem dX9_judge_39 : decode cX9_judge 39 = .ok (.istore 4, 2) := by decide +kernel
theorem dX9_judge_41 : decode cX9_judge 41 = .ok (.iload 4, 2) := by decide +kernel
theorem dX9_judge_43 : decode cX9_judge 43 = .ok (.aload_n 0, 1) := by decide +kernel
theorem dX9_judge_44 : decode cX9_judge 44 = .ok (.getfield 106, 3) := by decide +kernel
theorem dX9_judge_47 : decode cX9_judge 47 = .ok (.if_icmp .ge 78, 3) := by decide +kernel
theorem dX9_judge_50 : decode cX9_judge 50 = .ok (.aload_n 0, 1) := by decide +kernel
theorem dX9_judge_51 : decode cX9_judge 51 = .ok (.getfield 43, 3) := by decide +kernel
theorem dX9_judge_54 : decode cX9_judge 54 = .ok (.getfield 91, 3) := by decide +kernel
theorem dX9_judge_57 : decode cX9_judge 57 = .ok (.iload_n 2, 1) := by decide +kernel
theorem dX9_judge_58 : decode cX9_judge 58 = .ok (.aload_n 0, 1) := by decide +kernel
theorem dX9_judge_59 : decode cX9_judge 59 = .ok (.getfield 74, 3) := by decide +kernel
theorem dX9_judge_62 : decode cX9_judge 62 = .ok (.iload 4, 2) := by decide +kernel
theorem dX9_judge_64 : decode cX9_judge 64 = .ok (.iaload, 1) := by decide +kernel
theorem dX9_judge_65 : decode cX9_judge 65 = .ok (.invokevirtual 237, 3) := by decide +kernel
theorem dX9_judge_68 : decode cX9_judge 68 = .ok (.istore 5, 2) := by decide +kernel
theorem dX9_judge_70 : decode cX9_judge 70 = .ok (.aload_n 0, 1) := by decide +kernel
theorem dX9_judge_71 : decode cX9_judge 71 = .ok (.getfield 43, 3) := by decide +kernel
theorem dX9_judge_74 : decode cX9_judge 74 = .ok (.iload_n 2, 1) := by decide +kernel
theorem dX9_judge_75 : decode cX9_judge 75 = .ok (.iload 5, 2) := by decide +kernel
theorem dX9_judge_77 : decode cX9_judge 77 = .ok (.aload_n 0, 1) := by decide +kernel
theorem dX9_judge_78 : decode cX9_judge 78 = .ok (.getfield 34, 3) := by decide +kernel
theorem dX9_judge_81 : decode cX9_judge 81 = .ok (.getfield 137, 3) := by decide +kernel
theorem dX9_judge_84 : decode cX9_judge 84 = .ok (.iconst 1, 1) := by decide +kernel
theorem dX9_judge_85 : decode cX9_judge 85 = .ok (.iadd, 1) := by decide +kernel
theorem dX9_judge_86 : decode cX9_judge 86 = .ok (.iload 4, 2) := by decide +kernel
theorem dX9_judge_88 : decode cX9_judge 88 = .ok (.iadd, 1) := by decide +kernel
theorem dX9_judge_89 : decode cX9_judge 89 = .ok (.invokevirtual 240, 3) := by decide +kernel
theorem dX9_judge_92 : decode cX9_judge 92 = .ok (.istore 6, 2) := by decide +kernel
theorem dX9_judge_94 : decode cX9_judge 94 = .ok (.iload 6, 2) := by decide +kernel
theorem dX9_judge_96 : decode cX9_judge 96 = .ok (.iconst (-1), 1) := by decide +kernel
theorem dX9_judge_97 : decode cX9_judge 97 = .ok (.if_icmp .ne 14, 3) := by decide +kernel
theorem dX9_judge_100 : decode cX9_judge 100 = .ok (.iload_n 1, 1) := by decide +kernel
theorem dX9_judge_101 : decode cX9_judge 101 = .ok (.ifCond .ne 8, 3) := by decide +kernel
theorem dX9_judge_104 : decode cX9_judge 104 = .ok (.iload 4, 2) := by decide +kernel
theorem dX9_judge_106 : decode cX9_judge 106 = .ok (.goto 4, 3) := by decide +kernel
theorem dX9_judge_109 : decode cX9_judge 109 = .ok (.iload_n 3, 1) := by decide +kernel
theorem dX9_judge_110 : decode cX9_judge 110 = .ok (.ireturn, 1) := by decide +kernel
theorem dX9_judge_111 : decode cX9_judge 111 = .ok (.iload_n 3, 1) := by decide +kernel
theorem dX9_judge_112 : decode cX9_judge 112 = .ok (.iload 6, 2) := by decide +kernel
theorem dX9_judge_114 : decode cX9_judge 114 = .ok (.iadd, 1) := by decide +kernel
theorem dX9_judge_115 : decode cX9_judge 115 = .ok (.istore_n 3, 1) := by decide +kernel
theorem dX9_judge_116 : decode cX9_judge 116 = .ok (.iload 5, 2) := by decide +kernel
theorem dX9_judge_118 : decode cX9_judge 118 = .ok (.istore_n 2, 1) := by decide +kernel
theorem dX9_judge_119 : decode cX9_judge 119 = .ok (.iinc 4 1, 3) := by decide +kernel
theorem dX9_judge_122 : decode cX9_judge 122 = .ok (.goto (-81), 3) := by decide +kernel
theorem dX9_judge_125 : decode cX9_judge 125 = .ok (.iload_n 1, 1) := by decide +kernel
theorem dX9_judge_126 : decode cX9_judge 126 = .ok (.ifCond .ne 7, 3) := by decide +kernel
theorem dX9_judge_129 : decode cX9_judge 129 = .ok (.iconst (-1), 1) := by decide +kernel
theorem dX9_judge_130 : decode cX9_judge 130 = .ok (.goto 4, 3) := by decide +kernel
theorem dX9_judge_133 : decode cX9_judge 133 = .ok (.iload_n 3, 1) := by decide +kernel
theorem dX9_judge_134 : decode cX9_judge 134 = .ok (.ireturn, 1) := by decide +kernel
theorem dX9_seed_0 : decode cX9_seed 0 = .ok (.iload_n 1, 1) := by decide +kernel
theorem dX9_seed_1 : decode cX9_seed 1 = .ok (.ifCond .ge 6, 3) := by decide +kernel
theorem dX9_seed_4 : decode cX9_seed 4 = .ok (.ldc 81, 2) := by decide +kernel
theorem dX9_seed_6 : decode cX9_seed 6 = .ok (.ireturn, 1) := by decide +kernel
theorem dX9_seed_7 : decode cX9_seed 7 = .ok (.aload_n 0, 1) := by decide +kernel
theorem dX9_seed_8 : decode cX9_seed 8 = .ok (.getfield 34, 3) := by decide +kernel
theorem dX9_seed_11 : decode cX9_seed 11 = .ok (.getfield 322, 3) := by decide +kernel
theorem dX9_seed_14 : decode cX9_seed 14 = .ok (.istore_n 2, 1) := by decide +kernel
theorem dX9_seed_15 : decode cX9_seed 15 = .ok (.aload_n 0, 1) := by decide +kernel
theorem dX9_seed_16 : decode cX9_seed 16 = .ok (.getfield 34, 3) := by decide +kernel
theorem dX9_seed_19 : decode cX9_seed 19 = .ok (.iload_n 1, 1) := by decide +kernel
theorem dX9_seed_20 : decode cX9_seed 20 = .ok (.putfield 322, 3) := by decide +kernel
theorem dX9_seed_23 : decode cX9_seed 23 = .ok (.iload_n 2, 1) := by decide +kernel
theorem dX9_seed_24 : decode cX9_seed 24 = .ok (.ireturn, 1) := by decide +kernel
theorem dX9_keep_0 : decode cX9_keep 0 = .ok (.iload_n 1, 1) := by decide +kernel
theorem dX9_keep_1 : decode cX9_keep 1 = .ok (.iconst 0, 1) := by decide +kernel
theorem dX9_keep_2 : decode cX9_keep 2 = .ok (.iconst 1, 1) := by decide +kernel
theorem dX9_keep_3 : decode cX9_keep 3 = .ok (.invokestatic 77, 3) := by decide +kernel
theorem dX9_keep_6 : decode cX9_keep 6 = .ok (.ifCond .eq 6, 3) := by decide +kernel
theorem dX9_keep_9 : decode cX9_keep 9 = .ok (.ldc 161, 2) := by decide +kernel
theorem dX9_keep_11 : decode cX9_keep 11 = .ok (.ireturn, 1) := by decide +kernel
theorem dX9_keep_12 : decode cX9_keep 12 = .ok (.aload_n 0, 1) := by decide +kernel
theorem dX9_keep_13 : decode cX9_keep 13 = .ok (.getfield 47, 3) := by decide +kernel
theorem dX9_keep_16 : decode cX9_keep 16 = .ok (.iload_n 1, 1) := by decide +kernel
theorem dX9_keep_17 : decode cX9_keep 17 = .ok (.aaload, 1) := by decide +kernel
theorem dX9_keep_18 : decode cX9_keep 18 = .ok (.aload_n 0, 1) := by decide +kernel
theorem dX9_keep_19 : decode cX9_keep 19 = .ok (.getfield 34, 3) := by decide +kernel
theorem dX9_keep_22 : decode cX9_keep 22 = .ok (.invokevirtual 325, 3) := by decide +kernel
theorem dX9_keep_25 : decode cX9_keep 25 = .ok (.aload_n 0, 1) := by decide +kernel
theorem dX9_keep_26 : decode cX9_keep 26 = .ok (.getfield 47, 3) := by decide +kernel
theorem dX9_keep_29 : decode cX9_keep 29 = .ok (.iload_n 1, 1) := by decide +kernel
theorem dX9_keep_30 : decode cX9_keep 30 = .ok (.aaload, 1) := by decide +kernel
theorem dX9_keep_31 : decode cX9_keep 31 = .ok (.iconst 1, 1) := by decide +kernel
theorem dX9_keep_32 : decode cX9_keep 32 = .ok (.putfield 109, 3) := by decide +kernel
theorem dX9_keep_35 : decode cX9_keep 35 = .ok (.iconst 1, 1) := by decide +kernel
theorem dX9_keep_36 : decode cX9_keep 36 = .ok (.ireturn, 1) := by decide +kernel
theorem dX9_goBack_0 : decode cX9_goBack 0 = .ok (.iload_n 1, 1) := by decide +kernel
theorem dX9_goBack_1 : decode cX9_goBack 1 = .ok (.iconst 0, 1) := by decide +kernel
theorem dX9_goBack_2 : decode cX9_goBack 2 = .ok (.iconst 1, 1) := by decide +kernel
theorem dX9_goBack_3 : decode cX9_goBack 3 = .ok (.invokestatic 77, 3) := by decide +kernel
theorem dX9_goBack_6 : decode cX9_goBack 6 = .ok (.ifCond .eq 6, 3) := by decide +kernel
theorem dX9_goBack_9 : decode cX9_goBack 9 = .ok (.ldc 161, 2) := by decide +kernel
theorem dX9_goBack_11 : decode cX9_goBack 11 = .ok (.ireturn, 1) := by decide +kernel
theorem dX9_goBack_12 : decode cX9_goBack 12 = .ok (.aload_n 0, 1) := by decide +kernel
theorem dX9_goBack_13 : decode cX9_goBack 13 = .ok (.getfield 47, 3) := by decide +kernel
theorem dX9_goBack_16 : decode cX9_goBack 16 = .ok (.iload_n 1, 1) := by decide +kernel
theorem dX9_goBack_17 : decode cX9_goBack 17 = .ok (.aaload, 1) := by decide +kernel
theorem dX9_goBack_18 : decode cX9_goBack 18 = .ok (.getfield 109, 3) := by decide +kernel
theorem dX9_goBack_21 : decode cX9_goBack 21 = .ok (.ifCond .ne 6, 3) := by decide +kernel
theorem dX9_goBack_24 : decode cX9_goBack 24 = .ok (.ldc 236, 2) := by decide +kernel
theorem dX9_goBack_26 : decode cX9_goBack 26 = .ok (.ireturn, 1) := by decide +kernel
theorem dX9_goBack_27 : decode cX9_goBack 27 = .ok (.aload_n 0, 1) := by decide +kernel
theorem dX9_goBack_28 : decode cX9_goBack 28 = .ok (.getfield 34, 3) := by decide +kernel
theorem dX9_goBack_31 : decode cX9_goBack 31 = .ok (.aload_n 0, 1) := by decide +kernel
theorem dX9_goBack_32 : decode cX9_goBack 32 = .ok (.getfield 47, 3) := by decide +kernel
theorem dX9_goBack_35 : decode cX9_goBack 35 = .ok (.iload_n 1, 1) := by decide +kernel
theorem dX9_goBack_36 : decode cX9_goBack 36 = .ok (.aaload, 1) := by decide +kernel
theorem dX9_goBack_37 : decode cX9_goBack 37 = .ok (.invokevirtual 325, 3) := by decide +kernel
theorem dX9_goBack_40 : decode cX9_goBack 40 = .ok (.iconst 1, 1) := by decide +kernel
theorem dX9_goBack_41 : decode cX9_goBack 41 = .ok (.ireturn, 1) := by decide +kernel
theorem dX9_isOff_0 : decode cX9_isOff 0 = .ok (.iload_n 0, 1) := by decide +kernel
theorem dX9_isOff_1 : decode cX9_isOff 1 = .ok (.iload_n 1, 1) := by decide +kernel
theorem dX9_isOff_2 : decode cX9_isOff 2 = .ok (.if_icmp .lt 8, 3) := by decide +kernel
theorem dX9_isOff_5 : decode cX9_isOff 5 = .ok (.iload_n 0, 1) := by decide +kernel
theorem dX9_isOff_6 : decode cX9_isOff 6 = .ok (.iload_n 2, 1) := by decide +kernel
theorem dX9_isOff_7 : decode cX9_isOff 7 = .ok (.if_icmp .le 7, 3) := by decide +kernel
theorem dX9_isOff_10 : decode cX9_isOff 10 = .ok (.iconst 1, 1) := by decide +kernel
theorem dX9_isOff_11 : decode cX9_isOff 11 = .ok (.goto 4, 3) := by decide +kernel
theorem dX9_isOff_14 : decode cX9_isOff 14 = .ok (.iconst 0, 1) := by decide +kernel
theorem dX9_isOff_15 : decode cX9_isOff 15 = .ok (.ireturn, 1) := by decide +kernel
theorem dX9_isNoStep_0 : decode cX9_isNoStep 0 = .ok (.iload_n 0, 1) := by decide +kernel
theorem dX9_isNoStep_1 : decode cX9_isNoStep 1 = .ok (.iconst 0, 1) := by decide +kernel
theorem dX9_isNoStep_2 : decode cX9_isNoStep 2 = .ok (.ldc 232, 2) := by decide +kernel
theorem dX9_isNoStep_4 : decode cX9_isNoStep 4 = .ok (.invokestatic 77, 3) := by decide +kernel
theorem dX9_isNoStep_7 : decode cX9_isNoStep 7 = .ok (.ireturn, 1) := by decide +kernel
theorem dX9_isNoWay_0 : decode cX9_isNoWay 0 = .ok (.iload_n 0, 1) := by decide +kernel
theorem dX9_isNoWay_1 : decode cX9_isNoWay 1 = .ok (.iconst 0, 1) := by decide +kernel
theorem dX9_isNoWay_2 : decode cX9_isNoWay 2 = .ok (.iconst 4, 1) := by decide +kernel
theorem dX9_isNoWay_3 : decode cX9_isNoWay 3 = .ok (.invokestatic 77, 3) := by decide +kernel
theorem dX9_isNoWay_6 : decode cX9_isNoWay 6 = .ok (.ireturn, 1) := by decide +kernel
theorem dX9_isNoMoon_0 : decode cX9_isNoMoon 0 = .ok (.iload_n 1, 1) := by decide +kernel
theorem dX9_isNoMoon_1 : decode cX9_isNoMoon 1 = .ok (.iconst 0, 1) := by decide +kernel
theorem dX9_isNoMoon_2 : decode cX9_isNoMoon 2 = .ok (.aload_n 0, 1) := by decide +kernel
theorem dX9_isNoMoon_3 : decode cX9_isNoMoon 3 = .ok (.getfield 43, 3) := by decide +kernel
theorem dX9_isNoMoon_6 : decode cX9_isNoMoon 6 = .ok (.getfield 91, 3) := by decide +kernel
theorem dX9_isNoMoon_9 : decode cX9_isNoMoon 9 = .ok (.getfield 119, 3) := by decide +kernel
theorem dX9_isNoMoon_12 : decode cX9_isNoMoon 12 = .ok (.iconst 1, 1) := by decide +kernel
theorem dX9_isNoMoon_13 : decode cX9_isNoMoon 13 = .ok (.isub, 1) := by decide +kernel
theorem dX9_isNoMoon_14 : decode cX9_isNoMoon 14 = .ok (.invokestatic 77, 3) := by decide +kernel
theorem dX9_isNoMoon_17 : decode cX9_isNoMoon 17 = .ok (.ireturn, 1) := by decide +kernel
theorem dX9_leftOver_0 : decode cX9_leftOver 0 = .ok (.iload_n 1, 1) := by decide +kernel
theorem dX9_leftOver_1 : decode cX9_leftOver 1 = .ok (.iconst 1, 1) := by decide +kernel
theorem dX9_leftOver_2 : decode cX9_leftOver 2 = .ok (.if_icmp .ge 7, 3) := by decide +kernel
theorem dX9_leftOver_5 : decode cX9_leftOver 5 = .ok (.iconst 0, 1) := by decide +kernel
theorem dX9_leftOver_6 : decode cX9_leftOver 6 = .ok (.goto 6, 3) := by decide +kernel
theorem dX9_leftOver_9 : decode cX9_leftOver 9 = .ok (.iload_n 0, 1) := by decide +kernel
theorem dX9_leftOver_10 : decode cX9_leftOver 10 = .ok (.iload_n 1, 1) := by decide +kernel
theorem dX9_leftOver_11 : decode cX9_leftOver 11 = .ok (.irem, 1) := by decide +kernel
theorem dX9_leftOver_12 : decode cX9_leftOver 12 = .ok (.ireturn, 1) := by decide +kernel
theorem dX9_greatestDivisor_0 : decode cX9_greatestDivisor 0 = .ok (.iload_n 0, 1) := by decide +kernel
theorem dX9_greatestDivisor_1 : decode cX9_greatestDivisor 1 = .ok (.invokestatic 329, 3) := by decide +kernel
theorem dX9_greatestDivisor_4 : decode cX9_greatestDivisor 4 = .ok (.istore_n 2, 1) := by decide +kernel
theorem dX9_greatestDivisor_5 : decode cX9_greatestDivisor 5 = .ok (.iload_n 1, 1) := by decide +kernel
theorem dX9_greatestDivisor_6 : decode cX9_greatestDivisor 6 = .ok (.invokestatic 329, 3) := by decide +kernel
theorem dX9_greatestDivisor_9 : decode cX9_greatestDivisor 9 = .ok (.istore_n 3, 1) := by decide +kernel
theorem dX9_greatestDivisor_10 : decode cX9_greatestDivisor 10 = .ok (.iconst 0, 1) := by decide +kernel
theorem dX9_greatestDivisor_11 : decode cX9_greatestDivisor 11 = .ok (.istore 4, 2) := by decide +kernel
theorem dX9_greatestDivisor_13 : decode cX9_greatestDivisor 13 = .ok (.iload 4, 2) := by decide +kernel
theorem dX9_greatestDivisor_15 : decode cX9_greatestDivisor 15 = .ok (.bipush 64, 2) := by decide +kernel
theorem dX9_greatestDivisor_17 : decode cX9_greatestDivisor 17 = .ok (.if_icmp .ge 23, 3) := by decide +kernel
theorem dX9_greatestDivisor_20 : decode cX9_greatestDivisor 20 = .ok (.iload_n 3, 1) := by decide +kernel
theorem dX9_greatestDivisor_21 : decode cX9_greatestDivisor 21 = .ok (.ifCond .eq 19, 3) := by decide +kernel
theorem dX9_greatestDivisor_24 : decode cX9_greatestDivisor 24 = .ok (.iload_n 2, 1) := by decide +kernel
theorem dX9_greatestDivisor_25 : decode cX9_greatestDivisor 25 = .ok (.iload_n 3, 1) := by decide +kernel
theorem dX9_greatestDivisor_26 : decode cX9_greatestDivisor 26 = .ok (.irem, 1) := by decide +kernel
theorem dX9_greatestDivisor_27 : decode cX9_greatestDivisor 27 = .ok (.istore 5, 2) := by decide +kernel
theorem dX9_greatestDivisor_29 : decode cX9_greatestDivisor 29 = .ok (.iload_n 3, 1) := by decide +kernel
theorem dX9_greatestDivisor_30 : decode cX9_greatestDivisor 30 = .ok (.istore_n 2, 1) := by decide +kernel
theorem dX9_greatestDivisor_31 : decode cX9_greatestDivisor 31 = .ok (.iload 5, 2) := by decide +kernel
theorem dX9_greatestDivisor_33 : decode cX9_greatestDivisor 33 = .ok (.istore_n 3, 1) := by decide +kernel
theorem dX9_greatestDivisor_34 : decode cX9_greatestDivisor 34 = .ok (.iinc 4 1, 3) := by decide +kernel
theorem dX9_greatestDivisor_37 : decode cX9_greatestDivisor 37 = .ok (.goto (-24), 3) := by decide +kernel
theorem dX9_greatestDivisor_40 : decode cX9_greatestDivisor 40 = .ok (.iload_n 2, 1) := by decide +kernel
theorem dX9_greatestDivisor_41 : decode cX9_greatestDivisor 41 = .ok (.ireturn, 1) := by decide +kernel
