theorem dX7_wrongWay_0 : decode cX7_wrongWay 0 = .ok (.iload_n 1, 1) := by decide +kernel
theorem dX7_wrongWay_1 : decode cX7_wrongWay 1 = .ok (.i2l, 1) := by decide +kernel
theorem dX7_wrongWay_2 : decode cX7_wrongWay 2 = .ok (.lconst 1, 1) := by decide +kernel
theorem dX7_wrongWay_3 : decode cX7_wrongWay 3 = .ok (.ldc2_w 214, 3) := by decide +kernel
theorem dX7_wrongWay_6 : decode cX7_wrongWay 6 = .ok (.invokestatic 51, 3) := by decide +kernel
theorem dX7_wrongWay_9 : decode cX7_wrongWay 9 = .ok (.ifCond .ne 8, 3) := by decide +kernel
theorem dX7_wrongWay_12 : decode cX7_wrongWay 12 = .ok (.ldc 43, 2) := by decide +kernel
theorem dX7_wrongWay_14 : decode cX7_wrongWay 14 = .ok (.goto 30, 3) := by decide +kernel
theorem dX7_wrongWay_17 : decode cX7_wrongWay 17 = .ok (.aload_n 0, 1) := by decide +kernel
theorem dX7_wrongWay_18 : decode cX7_wrongWay 18 = .ok (.iload_n 1, 1) := by decide +kernel
theorem dX7_wrongWay_19 : decode cX7_wrongWay 19 = .ok (.invokevirtual 172, 3) := by decide +kernel
theorem dX7_wrongWay_22 : decode cX7_wrongWay 22 = .ok (.ifCond .eq 8, 3) := by decide +kernel
theorem dX7_wrongWay_25 : decode cX7_wrongWay 25 = .ok (.ldc 130, 2) := by decide +kernel
theorem dX7_wrongWay_27 : decode cX7_wrongWay 27 = .ok (.goto 17, 3) := by decide +kernel
theorem dX7_wrongWay_30 : decode cX7_wrongWay 30 = .ok (.aload_n 0, 1) := by decide +kernel
theorem dX7_wrongWay_31 : decode cX7_wrongWay 31 = .ok (.invokevirtual 216, 3) := by decide +kernel
theorem dX7_wrongWay_34 : decode cX7_wrongWay 34 = .ok (.iconst 4, 1) := by decide +kernel
theorem dX7_wrongWay_35 : decode cX7_wrongWay 35 = .ok (.if_icmp .le 8, 3) := by decide +kernel
theorem dX7_wrongWay_38 : decode cX7_wrongWay 38 = .ok (.ldc 219, 2) := by decide +kernel
theorem dX7_wrongWay_40 : decode cX7_wrongWay 40 = .ok (.goto 4, 3) := by decide +kernel
theorem dX7_wrongWay_43 : decode cX7_wrongWay 43 = .ok (.iconst 0, 1) := by decide +kernel
theorem dX7_wrongWay_44 : decode cX7_wrongWay 44 = .ok (.ireturn, 1) := by decide +kernel
theorem dX7_most_0 : decode cX7_most 0 = .ok (.aload_n 0, 1) := by decide +kernel
theorem dX7_most_1 : decode cX7_most 1 = .ok (.iload_n 1, 1) := by decide +kernel
theorem dX7_most_2 : decode cX7_most 2 = .ok (.invokevirtual 220, 3) := by decide +kernel
theorem dX7_most_5 : decode cX7_most 5 = .ok (.istore_n 2, 1) := by decide +kernel
theorem dX7_most_6 : decode cX7_most 6 = .ok (.iload_n 2, 1) := by decide +kernel
theorem dX7_most_7 : decode cX7_most 7 = .ok (.ifCond .ge 11, 3) := by decide +kernel
theorem dX7_most_10 : decode cX7_most 10 = .ok (.aload_n 0, 1) := by decide +kernel
theorem dX7_most_11 : decode cX7_most 11 = .ok (.iload_n 2, 1) := by decide +kernel
theorem dX7_most_12 : decode cX7_most 12 = .ok (.invokevirtual 45, 3) := by decide +kernel
theorem dX7_most_15 : decode cX7_most 15 = .ok (.goto 8, 3) := by decide +kernel
theorem dX7_most_18 : decode cX7_most 18 = .ok (.aload_n 0, 1) := by decide +kernel
theorem dX7_most_19 : decode cX7_most 19 = .ok (.iload_n 1, 1) := by decide +kernel
theorem dX7_most_20 : decode cX7_most 20 = .ok (.invokevirtual 223, 3) := by decide +kernel
theorem dX7_most_23 : decode cX7_most 23 = .ok (.ireturn, 1) := by decide +kernel
theorem dX7_give_0 : decode cX7_give 0 = .ok (.aload_n 0, 1) := by decide +kernel
theorem dX7_give_1 : decode cX7_give 1 = .ok (.iload_n 1, 1) := by decide +kernel
theorem dX7_give_2 : decode cX7_give 2 = .ok (.invokevirtual 220, 3) := by decide +kernel
theorem dX7_give_5 : decode cX7_give 5 = .ok (.istore_n 2, 1) := by decide +kernel
theorem dX7_give_6 : decode cX7_give 6 = .ok (.iload_n 2, 1) := by decide +kernel
theorem dX7_give_7 : decode cX7_give 7 = .ok (.ifCond .ge 9, 3) := by decide +kernel
theorem dX7_give_10 : decode cX7_give 10 = .ok (.aload_n 0, 1) := by decide +kernel
theorem dX7_give_11 : decode cX7_give 11 = .ok (.iload_n 2, 1) := by decide +kernel
theorem dX7_give_12 : decode cX7_give 12 = .ok (.invokevirtual 45, 3) := by decide +kernel
theorem dX7_give_15 : decode cX7_give 15 = .ok (.ireturn, 1) := by decide +kernel
theorem dX7_give_16 : decode cX7_give 16 = .ok (.aload_n 0, 1) := by decide +kernel
theorem dX7_give_17 : decode cX7_give 17 = .ok (.iload_n 1, 1) := by decide +kernel
theorem dX7_give_18 : decode cX7_give 18 = .ok (.invokevirtual 223, 3) := by decide +kernel
theorem dX7_give_21 : decode cX7_give 21 = .ok (.pop, 1) := by decide +kernel
theorem dX7_give_22 : decode cX7_give 22 = .ok (.iconst 0, 1) := by decide +kernel
theorem dX7_give_23 : decode cX7_give 23 = .ok (.istore_n 3, 1) := by decide +kernel
theorem dX7_give_24 : decode cX7_give 24 = .ok (.iconst 0, 1) := by decide +kernel
theorem dX7_give_25 : decode cX7_give 25 = .ok (.istore 4, 2) := by decide +kernel
theorem dX7_give_27 : decode cX7_give 27 = .ok (.iload 4, 2) := by decide +kernel
theorem dX7_give_29 : decode cX7_give 29 = .ok (.bipush 8, 2) := by decide +kernel
theorem dX7_give_31 : decode cX7_give 31 = .ok (.if_icmp .ge 44, 3) := by decide +kernel
theorem dX7_give_34 : decode cX7_give 34 = .ok (.aload_n 0, 1) := by decide +kernel
theorem dX7_give_35 : decode cX7_give 35 = .ok (.getfield 28, 3) := by decide +kernel
theorem dX7_give_38 : decode cX7_give 38 = .ok (.iload 4, 2) := by decide +kernel
theorem dX7_give_40 : decode cX7_give 40 = .ok (.iaload, 1) := by decide +kernel
theorem dX7_give_41 : decode cX7_give 41 = .ok (.ifCond .ge 6, 3) := by decide +kernel
theorem dX7_give_44 : decode cX7_give 44 = .ok (.goto 25, 3) := by decide +kernel
theorem dX7_give_47 : decode cX7_give 47 = .ok (.aload_n 0, 1) := by decide +kernel
theorem dX7_give_48 : decode cX7_give 48 = .ok (.getfield 9, 3) := by decide +kernel
theorem dX7_give_51 : decode cX7_give 51 = .ok (.bipush 100, 2) := by decide +kernel
theorem dX7_give_53 : decode cX7_give 53 = .ok (.iconst 4, 1) := by decide +kernel
theorem dX7_give_54 : decode cX7_give 54 = .ok (.iload 4, 2) := by decide +kernel
theorem dX7_give_56 : decode cX7_give 56 = .ok (.imul, 1) := by decide +kernel
theorem dX7_give_57 : decode cX7_give 57 = .ok (.iadd, 1) := by decide +kernel
theorem dX7_give_58 : decode cX7_give 58 = .ok (.aload_n 0, 1) := by decide +kernel
theorem dX7_give_59 : decode cX7_give 59 = .ok (.getfield 28, 3) := by decide +kernel
theorem dX7_give_62 : decode cX7_give 62 = .ok (.iload 4, 2) := by decide +kernel
theorem dX7_give_64 : decode cX7_give 64 = .ok (.iaload, 1) := by decide +kernel
theorem dX7_give_65 : decode cX7_give 65 = .ok (.iastore, 1) := by decide +kernel
theorem dX7_give_66 : decode cX7_give 66 = .ok (.iinc 3 1, 3) := by decide +kernel
theorem dX7_give_69 : decode cX7_give 69 = .ok (.iinc 4 1, 3) := by decide +kernel
theorem dX7_give_72 : decode cX7_give 72 = .ok (.goto (-45), 3) := by decide +kernel
theorem dX7_give_75 : decode cX7_give 75 = .ok (.iload_n 3, 1) := by decide +kernel
theorem dX7_give_76 : decode cX7_give 76 = .ok (.ireturn, 1) := by decide +kernel
theorem dX7_lives_0 : decode cX7_lives 0 = .ok (.iload_n 1, 1) := by decide +kernel
theorem dX7_lives_1 : decode cX7_lives 1 = .ok (.invokestatic 66, 3) := by decide +kernel
theorem dX7_lives_4 : decode cX7_lives 4 = .ok (.ifCond .eq 10, 3) := by decide +kernel
theorem dX7_lives_7 : decode cX7_lives 7 = .ok (.iload_n 2, 1) := by decide +kernel
theorem dX7_lives_8 : decode cX7_lives 8 = .ok (.invokestatic 116, 3) := by decide +kernel
theorem dX7_lives_11 : decode cX7_lives 11 = .ok (.ifCond .ne 10, 3) := by decide +kernel
theorem dX7_lives_14 : decode cX7_lives 14 = .ok (.aload_n 0, 1) := by decide +kernel
theorem dX7_lives_15 : decode cX7_lives 15 = .ok (.ldc 43, 2) := by decide +kernel
theorem dX7_lives_17 : decode cX7_lives 17 = .ok (.invokevirtual 45, 3) := by decide +kernel
theorem dX7_lives_20 : decode cX7_lives 20 = .ok (.ireturn, 1) := by decide +kernel
theorem dX7_lives_21 : decode cX7_lives 21 = .ok (.aload_n 0, 1) := by decide +kernel
theorem dX7_lives_22 : decode cX7_lives 22 = .ok (.iload_n 1, 1) := by decide +kernel
theorem dX7_lives_23 : decode cX7_lives 23 = .ok (.invokevirtual 103, 3) := by decide +kernel
theorem dX7_lives_26 : decode cX7_lives 26 = .ok (.ifCond .ne 10, 3) := by decide +kernel
theorem dX7_lives_29 : decode cX7_lives 29 = .ok (.aload_n 0, 1) := by decide +kernel
theorem dX7_lives_30 : decode cX7_lives 30 = .ok (.ldc 130, 2) := by decide +kernel
theorem dX7_lives_32 : decode cX7_lives 32 = .ok (.invokevirtual 45, 3) := by decide +kernel
theorem dX7_lives_35 : decode cX7_lives 35 = .ok (.ireturn, 1) := by decide +kernel
theorem dX7_lives_36 : decode cX7_lives 36 = .ok (.aload_n 0, 1) := by decide +kernel
theorem dX7_lives_37 : decode cX7_lives 37 = .ok (.getfield 9, 3) := by decide +kernel
theorem dX7_lives_40 : decode cX7_lives 40 = .ok (.aload_n 0, 1) := by decide +kernel
theorem dX7_lives_41 : decode cX7_lives 41 = .ok (.getfield 16, 3) := by decide +kernel
theorem dX7_lives_44 : decode cX7_lives 44 = .ok (.invokestatic 185, 3) := by decide +kernel
theorem dX7_lives_47 : decode cX7_lives 47 = .ok (.aload_n 0, 1) := by decide +kernel
theorem dX7_lives_48 : decode cX7_lives 48 = .ok (.getfield 9, 3) := by decide +kernel
theorem dX7_lives_51 : decode cX7_lives 51 = .ok (.iconst 3, 1) := by decide +kernel
theorem dX7_lives_52 : decode cX7_lives 52 = .ok (.iconst 0, 1) := by decide +kernel
theorem dX7_lives_53 : decode cX7_lives 53 = .ok (.iastore, 1) := by decide +kernel
theorem dX7_lives_54 : decode cX7_lives 54 = .ok (.iconst 0, 1) := by decide +kernel
theorem dX7_lives_55 : decode cX7_lives 55 = .ok (.istore_n 3, 1) := by decide +kernel
theorem dX7_lives_56 : decode cX7_lives 56 = .ok (.iload_n 3, 1) := by decide +kernel
theorem dX7_lives_57 : decode cX7_lives 57 = .ok (.bipush 9, 2) := by decide +kernel
theorem dX7_lives_59 : decode cX7_lives 59 = .ok (.if_icmp .ge 59, 3) := by decide +kernel
theorem dX7_lives_62 : decode cX7_lives 62 = .ok (.aload_n 0, 1) := by decide +kernel
theorem dX7_lives_63 : decode cX7_lives 63 = .ok (.iload_n 1, 1) := by decide +kernel
theorem dX7_lives_64 : decode cX7_lives 64 = .ok (.invokevirtual 103, 3) := by decide +kernel
theorem dX7_lives_67 : decode cX7_lives 67 = .ok (.ifCond .eq 51, 3) := by decide +kernel
theorem dX7_lives_70 : decode cX7_lives 70 = .ok (.iinc 3 1, 3) := by decide +kernel
theorem dX7_lives_73 : decode cX7_lives 73 = .ok (.aload_n 0, 1) := by decide +kernel
theorem dX7_lives_74 : decode cX7_lives 74 = .ok (.getfield 9, 3) := by decide +kernel
theorem dX7_lives_77 : decode cX7_lives 77 = .ok (.iconst 3, 1) := by decide +kernel
theorem dX7_lives_78 : decode cX7_lives 78 = .ok (.iconst 0, 1) := by decide +kernel
theorem dX7_lives_79 : decode cX7_lives 79 = .ok (.iastore, 1) := by decide +kernel
theorem dX7_lives_80 : decode cX7_lives 80 = .ok (.aload_n 0, 1) := by decide +kernel
theorem dX7_lives_81 : decode cX7_lives 81 = .ok (.iload_n 2, 1) := by decide +kernel
theorem dX7_lives_82 : decode cX7_lives 82 = .ok (.iconst 0, 1) := by decide +kernel
theorem dX7_lives_83 : decode cX7_lives 83 = .ok (.iload_n 1, 1) := by decide +kernel
theorem dX7_lives_84 : decode cX7_lives 84 = .ok (.invokevirtual 119, 3) := by decide +kernel
theorem dX7_lives_87 : decode cX7_lives 87 = .ok (.iconst 0, 1) := by decide +kernel
theorem dX7_lives_88 : decode cX7_lives 88 = .ok (.istore 4, 2) := by decide +kernel
theorem dX7_lives_90 : decode cX7_lives 90 = .ok (.iload 4, 2) := by decide +kernel
theorem dX7_lives_92 : decode cX7_lives 92 = .ok (.bipush 40, 2) := by decide +kernel
theorem dX7_lives_94 : decode cX7_lives 94 = .ok (.if_icmp .ge 21, 3) := by decide +kernel
theorem dX7_lives_97 : decode cX7_lives 97 = .ok (.aload_n 0, 1) := by decide +kernel
theorem dX7_lives_98 : decode cX7_lives 98 = .ok (.iload_n 1, 1) := by decide +kernel
theorem dX7_lives_99 : decode cX7_lives 99 = .ok (.invokevirtual 103, 3) := by decide +kernel
theorem dX7_lives_102 : decode cX7_lives 102 = .ok (.ifCond .eq 13, 3) := by decide +kernel
theorem dX7_lives_105 : decode cX7_lives 105 = .ok (.aload_n 0, 1) := by decide +kernel
theorem dX7_lives_106 : decode cX7_lives 106 = .ok (.invokevirtual 167, 3) := by decide +kernel
theorem dX7_lives_109 : decode cX7_lives 109 = .ok (.iinc 4 1, 3) := by decide +kernel
theorem dX7_lives_112 : decode cX7_lives 112 = .ok (.goto (-22), 3) := by decide +kernel
theorem dX7_lives_115 : decode cX7_lives 115 = .ok (.goto (-59), 3) := by decide +kernel
theorem dX7_lives_118 : decode cX7_lives 118 = .ok (.aload_n 0, 1) := by decide +kernel
theorem dX7_lives_119 : decode cX7_lives 119 = .ok (.iload_n 1, 1) := by decide +kernel
theorem dX7_lives_120 : decode cX7_lives 120 = .ok (.invokevirtual 103, 3) := by decide +kernel
theorem dX7_lives_123 : decode cX7_lives 123 = .ok (.ifCond .ne 7, 3) := by decide +kernel
theorem dX7_lives_126 : decode cX7_lives 126 = .ok (.iconst 1, 1) := by decide +kernel
theorem dX7_lives_127 : decode cX7_lives 127 = .ok (.goto 4, 3) := by decide +kernel
theorem dX7_lives_130 : decode cX7_lives 130 = .ok (.iconst 0, 1) := by decide +kernel
theorem dX7_lives_131 : decode cX7_lives 131 = .ok (.istore 4, 2) := by decide +kernel
theorem dX7_lives_133 : decode cX7_lives 133 = .ok (.aload_n 0, 1) := by decide +kernel
theorem dX7_lives_134 : decode cX7_lives 134 = .ok (.getfield 16, 3) := by decide +kernel
theorem dX7_lives_137 : decode cX7_lives 137 = .ok (.aload_n 0, 1) := by decide +kernel
theorem dX7_lives_138 : decode cX7_lives 138 = .ok (.getfield 9, 3) := by decide +kernel
theorem dX7_lives_141 : decode cX7_lives 141 = .ok (.invokestatic 185, 3) := by decide +kernel
theorem dX7_lives_144 : decode cX7_lives 144 = .ok (.iload 4, 2) := by decide +kernel
theorem dX7_lives_146 : decode cX7_lives 146 = .ok (.ifCond .eq 7, 3) := by decide +kernel
theorem dX7_lives_149 : decode cX7_lives 149 = .ok (.iload_n 3, 1) := by decide +kernel
theorem dX7_lives_150 : decode cX7_lives 150 = .ok (.goto 9, 3) := by decide +kernel
theorem dX7_lives_153 : decode cX7_lives 153 = .ok (.aload_n 0, 1) := by decide +kernel
theorem dX7_lives_154 : decode cX7_lives 154 = .ok (.ldc 44, 2) := by decide +kernel
theorem dX7_lives_156 : decode cX7_lives 156 = .ok (.invokevirtual 45, 3) := by decide +kernel
theorem dX7_lives_159 : decode cX7_lives 159 = .ok (.ireturn, 1) := by decide +kernel
theorem dX7_hoursBehind_0 : decode cX7_hoursBehind 0 = .ok (.aload_n 0, 1) := by decide +kernel
theorem dX7_hoursBehind_1 : decode cX7_hoursBehind 1 = .ok (.getfield 9, 3) := by decide +kernel
theorem dX7_hoursBehind_4 : decode cX7_hoursBehind 4 = .ok (.aload_n 0, 1) := by decide +kernel
theorem dX7_hoursBehind_5 : decode cX7_hoursBehind 5 = .ok (.getfield 16, 3) := by decide +kernel
theorem dX7_hoursBehind_8 : decode cX7_hoursBehind 8 = .ok (.invokestatic 185, 3) := by decide +kernel
theorem dX7_hoursBehind_11 : decode cX7_hoursBehind 11 = .ok (.aload_n 0, 1) := by decide +kernel
theorem dX7_hoursBehind_12 : decode cX7_hoursBehind 12 = .ok (.iload_n 1, 1) := by decide +kernel
theorem dX7_hoursBehind_13 : decode cX7_hoursBehind 13 = .ok (.invokevirtual 178, 3) := by decide +kernel
theorem dX7_hoursBehind_16 : decode cX7_hoursBehind 16 = .ok (.aload_n 0, 1) := by decide +kernel
theorem dX7_hoursBehind_17 : decode cX7_hoursBehind 17 = .ok (.invokevirtual 189, 3) := by decide +kernel
theorem dX7_hoursBehind_20 : decode cX7_hoursBehind 20 = .ok (.istore_n 2, 1) := by decide +kernel
theorem dX7_hoursBehind_21 : decode cX7_hoursBehind 21 = .ok (.aload_n 0, 1) := by decide +kernel
theorem dX7_hoursBehind_22 : decode cX7_hoursBehind 22 = .ok (.getfield 16, 3) := by decide +kernel
theorem dX7_hoursBehind_25 : decode cX7_hoursBehind 25 = .ok (.aload_n 0, 1) := by decide +kernel
theorem dX7_hoursBehind_26 : decode cX7_hoursBehind 26 = .ok (.getfield 9, 3) := by decide +kernel
theorem dX7_hoursBehind_29 : decode cX7_hoursBehind 29 = .ok (.invokestatic 185, 3) := by decide +kernel
theorem dX7_hoursBehind_32 : decode cX7_hoursBehind 32 = .ok (.iload_n 2, 1) := by decide +kernel
theorem dX7_hoursBehind_33 : decode cX7_hoursBehind 33 = .ok (.ireturn, 1) := by decide +kernel
theorem dX7_best_0 : decode cX7_best 0 = .ok (.iload_n 1, 1) := by decide +kernel
theorem dX7_best_1 : decode cX7_best 1 = .ok (.i2l, 1) := by decide +kernel
theorem dX7_best_2 : decode cX7_best 2 = .ok (.lconst 1, 1) := by decide +kernel
theorem dX7_best_3 : decode cX7_best 3 = .ok (.ldc2_w 170, 3) := by decide +kernel
theorem dX7_best_6 : decode cX7_best 6 = .ok (.invokestatic 51, 3) := by decide +kernel
theorem dX7_best_9 : decode cX7_best 9 = .ok (.ifCond .ne 10, 3) := by decide +kernel
theorem dX7_best_12 : decode cX7_best 12 = .ok (.aload_n 0, 1) := by decide +kernel
theorem dX7_best_13 : decode cX7_best 13 = .ok (.ldc 43, 2) := by decide +kernel
theorem dX7_best_15 : decode cX7_best 15 = .ok (.invokevirtual 45, 3) := by decide +kernel
theorem dX7_best_18 : decode cX7_best 18 = .ok (.ireturn, 1) := by decide +kernel
theorem dX7_best_19 : decode cX7_best 19 = .ok (.aload_n 0, 1) := by decide +kernel
theorem dX7_best_20 : decode cX7_best 20 = .ok (.iload_n 1, 1) := by decide +kernel
theorem dX7_best_21 : decode cX7_best 21 = .ok (.invokevirtual 172, 3) := by decide +kernel
theorem dX7_best_24 : decode cX7_best 24 = .ok (.ifCond .eq 10, 3) := by decide +kernel
theorem dX7_best_27 : decode cX7_best 27 = .ok (.aload_n 0, 1) := by decide +kernel
theorem dX7_best_28 : decode cX7_best 28 = .ok (.ldc 130, 2) := by decide +kernel
theorem dX7_best_30 : decode cX7_best 30 = .ok (.invokevirtual 45, 3) := by decide +kernel
theorem dX7_best_33 : decode cX7_best 33 = .ok (.ireturn, 1) := by decide +kernel
theorem dX7_best_34 : decode cX7_best 34 = .ok (.iconst (-1), 1) := by decide +kernel
theorem dX7_best_35 : decode cX7_best 35 = .ok (.istore_n 2, 1) := by decide +kernel
theorem dX7_best_36 : decode cX7_best 36 = .ok (.iconst 0, 1) := by decide +kernel
theorem dX7_best_37 : decode cX7_best 37 = .ok (.istore_n 3, 1) := by decide +kernel
theorem dX7_best_38 : decode cX7_best 38 = .ok (.iconst 0, 1) := by decide +kernel
theorem dX7_best_39 : decode cX7_best 39 = .ok (.istore 4, 2) := by decide +kernel
theorem dX7_best_41 : decode cX7_best 41 = .ok (.iload 4, 2) := by decide +kernel
theorem dX7_best_43 : decode cX7_best 43 = .ok (.aload_n 0, 1) := by decide +kernel
theorem dX7_best_44 : decode cX7_best 44 = .ok (.getfield 9, 3) := by decide +kernel
theorem dX7_best_47 : decode cX7_best 47 = .ok (.iconst 2, 1) := by decide +kernel
theorem dX7_best_48 : decode cX7_best 48 = .ok (.iaload, 1) := by decide +kernel
theorem dX7_best_49 : decode cX7_best 49 = .ok (.if_icmp .ge 79, 3) := by decide +kernel
theorem dX7_best_52 : decode cX7_best 52 = .ok (.aload_n 0, 1) := by decide +kernel
theorem dX7_best_53 : decode cX7_best 53 = .ok (.iload 4, 2) := by decide +kernel
theorem dX7_best_55 : decode cX7_best 55 = .ok (.invokevirtual 85, 3) := by decide +kernel
theorem dX7_best_58 : decode cX7_best 58 = .ok (.ifCond .eq 6, 3) := by decide +kernel
theorem dX7_best_61 : decode cX7_best 61 = .ok (.goto 61, 3) := by decide +kernel
theorem dX7_best_64 : decode cX7_best 64 = .ok (.aload_n 0, 1) := by decide +kernel
theorem dX7_best_65 : decode cX7_best 65 = .ok (.bipush 20, 2) := by decide +kernel
theorem dX7_best_67 : decode cX7_best 67 = .ok (.iconst 4, 1) := by decide +kernel
theorem dX7_best_68 : decode cX7_best 68 = .ok (.iload 4, 2) := by decide +kernel
theorem dX7_best_70 : decode cX7_best 70 = .ok (.imul, 1) := by decide +kernel
theorem dX7_best_71 : decode cX7_best 71 = .ok (.iadd, 1) := by decide +kernel
theorem dX7_best_72 : decode cX7_best 72 = .ok (.iconst 2, 1) := by decide +kernel
theorem dX7_best_73 : decode cX7_best 73 = .ok (.iadd, 1) := by decide +kernel
theorem dX7_best_74 : decode cX7_best 74 = .ok (.iconst 0, 1) := by decide +kernel
theorem dX7_best_75 : decode cX7_best 75 = .ok (.invokevirtual 72, 3) := by decide +kernel
theorem dX7_best_78 : decode cX7_best 78 = .ok (.istore 5, 2) := by decide +kernel
theorem dX7_best_80 : decode cX7_best 80 = .ok (.aload_n 0, 1) := by decide +kernel
theorem dX7_best_81 : decode cX7_best 81 = .ok (.iload_n 1, 1) := by decide +kernel
theorem dX7_best_82 : decode cX7_best 82 = .ok (.invokevirtual 226, 3) := by decide +kernel
theorem dX7_best_85 : decode cX7_best 85 = .ok (.istore 6, 2) := by decide +kernel
theorem dX7_best_87 : decode cX7_best 87 = .ok (.aload_n 0, 1) := by decide +kernel
theorem dX7_best_88 : decode cX7_best 88 = .ok (.getfield 9, 3) := by decide +kernel
theorem dX7_best_91 : decode cX7_best 91 = .ok (.bipush 20, 2) := by decide +kernel
theorem dX7_best_93 : decode cX7_best 93 = .ok (.iconst 4, 1) := by decide +kernel
theorem dX7_best_94 : decode cX7_best 94 = .ok (.iload 4, 2) := by decide +kernel
theorem dX7_best_96 : decode cX7_best 96 = .ok (.imul, 1) := by decide +kernel
theorem dX7_best_97 : decode cX7_best 97 = .ok (.iadd, 1) := by decide +kernel
theorem dX7_best_98 : decode cX7_best 98 = .ok (.iconst 2, 1) := by decide +kernel
theorem dX7_best_99 : decode cX7_best 99 = .ok (.iadd, 1) := by decide +kernel
theorem dX7_best_100 : decode cX7_best 100 = .ok (.iload 5, 2) := by decide +kernel
theorem dX7_best_102 : decode cX7_best 102 = .ok (.iastore, 1) := by decide +kernel
theorem dX7_best_103 : decode cX7_best 103 = .ok (.iload_n 2, 1) := by decide +kernel
theorem dX7_best_104 : decode cX7_best 104 = .ok (.ifCond .lt 12, 3) := by decide +kernel
theorem dX7_best_107 : decode cX7_best 107 = .ok (.iload 6, 2) := by decide +kernel
theorem dX7_best_109 : decode cX7_best 109 = .ok (.iload_n 3, 1) := by decide +kernel
theorem dX7_best_110 : decode cX7_best 110 = .ok (.if_icmp .lt 6, 3) := by decide +kernel
theorem dX7_best_113 : decode cX7_best 113 = .ok (.goto 9, 3) := by decide +kernel
theorem dX7_best_116 : decode cX7_best 116 = .ok (.iload 4, 2) := by decide +kernel
theorem dX7_best_118 : decode cX7_best 118 = .ok (.istore_n 2, 1) := by decide +kernel
theorem dX7_best_119 : decode cX7_best 119 = .ok (.iload 6, 2) := by decide +kernel
theorem dX7_best_121 : decode cX7_best 121 = .ok (.istore_n 3, 1) := by decide +kernel
theorem dX7_best_122 : decode cX7_best 122 = .ok (.iinc 4 1, 3) := by decide +kernel
theorem dX7_best_125 : decode cX7_best 125 = .ok (.goto (-84), 3) := by decide +kernel
theorem dX7_best_128 : decode cX7_best 128 = .ok (.aload_n 0, 1) := by decide +kernel
theorem dX7_best_129 : decode cX7_best 129 = .ok (.iload_n 2, 1) := by decide +kernel
theorem dX7_best_130 : decode cX7_best 130 = .ok (.invokevirtual 208, 3) := by decide +kernel
theorem dX7_best_133 : decode cX7_best 133 = .ok (.ireturn, 1) := by decide +kernel
theorem dX7_whom_0 : decode cX7_whom 0 = .ok (.aload_n 0, 1) := by decide +kernel
theorem dX7_whom_1 : decode cX7_whom 1 = .ok (.iload_n 1, 1) := by decide +kernel
theorem dX7_whom_2 : decode cX7_whom 2 = .ok (.invokevirtual 123, 3) := by decide +kernel
theorem dX7_whom_5 : decode cX7_whom 5 = .ok (.ifCond .eq 15, 3) := by decide +kernel
theorem dX7_whom_8 : decode cX7_whom 8 = .ok (.iload_n 2, 1) := by decide +kernel
theorem dX7_whom_9 : decode cX7_whom 9 = .ok (.i2l, 1) := by decide +kernel
theorem dX7_whom_10 : decode cX7_whom 10 = .ok (.lconst 1, 1) := by decide +kernel
theorem dX7_whom_11 : decode cX7_whom 11 = .ok (.ldc2_w 170, 3) := by decide +kernel
theorem dX7_whom_14 : decode cX7_whom 14 = .ok (.invokestatic 51, 3) := by decide +kernel
theorem dX7_whom_17 : decode cX7_whom 17 = .ok (.ifCond .ne 10, 3) := by decide +kernel
theorem dX7_whom_20 : decode cX7_whom 20 = .ok (.aload_n 0, 1) := by decide +kernel
theorem dX7_whom_21 : decode cX7_whom 21 = .ok (.ldc 43, 2) := by decide +kernel
theorem dX7_whom_23 : decode cX7_whom 23 = .ok (.invokevirtual 45, 3) := by decide +kernel
theorem dX7_whom_26 : decode cX7_whom 26 = .ok (.ireturn, 1) := by decide +kernel
theorem dX7_whom_27 : decode cX7_whom 27 = .ok (.aload_n 0, 1) := by decide +kernel
theorem dX7_whom_28 : decode cX7_whom 28 = .ok (.iload_n 2, 1) := by decide +kernel
theorem dX7_whom_29 : decode cX7_whom 29 = .ok (.invokevirtual 172, 3) := by decide +kernel
theorem dX7_whom_32 : decode cX7_whom 32 = .ok (.ifCond .eq 10, 3) := by decide +kernel
theorem dX7_whom_35 : decode cX7_whom 35 = .ok (.aload_n 0, 1) := by decide +kernel
theorem dX7_whom_36 : decode cX7_whom 36 = .ok (.ldc 130, 2) := by decide +kernel
theorem dX7_whom_38 : decode cX7_whom 38 = .ok (.invokevirtual 45, 3) := by decide +kernel
theorem dX7_whom_41 : decode cX7_whom 41 = .ok (.ireturn, 1) := by decide +kernel
theorem dX7_whom_42 : decode cX7_whom 42 = .ok (.bipush 100, 2) := by decide +kernel
theorem dX7_whom_44 : decode cX7_whom 44 = .ok (.iconst 4, 1) := by decide +kernel
theorem dX7_whom_45 : decode cX7_whom 45 = .ok (.iload_n 1, 1) := by decide +kernel
theorem dX7_whom_46 : decode cX7_whom 46 = .ok (.imul, 1) := by decide +kernel
theorem dX7_whom_47 : decode cX7_whom 47 = .ok (.iadd, 1) := by decide +kernel
theorem dX7_whom_48 : decode cX7_whom 48 = .ok (.iconst 3, 1) := by decide +kernel
theorem dX7_whom_49 : decode cX7_whom 49 = .ok (.iadd, 1) := by decide +kernel
theorem dX7_whom_50 : decode cX7_whom 50 = .ok (.istore_n 3, 1) := by decide +kernel
theorem dX7_whom_51 : decode cX7_whom 51 = .ok (.aload_n 0, 1) := by decide +kernel
theorem dX7_whom_52 : decode cX7_whom 52 = .ok (.iload_n 3, 1) := by decide +kernel
theorem dX7_whom_53 : decode cX7_whom 53 = .ok (.iconst (-1), 1) := by decide +kernel
theorem dX7_whom_54 : decode cX7_whom 54 = .ok (.invokevirtual 72, 3) := by decide +kernel
theorem dX7_whom_57 : decode cX7_whom 57 = .ok (.istore 4, 2) := by decide +kernel
theorem dX7_whom_59 : decode cX7_whom 59 = .ok (.iconst (-1), 1) := by decide +kernel
theorem dX7_whom_60 : decode cX7_whom 60 = .ok (.istore 5, 2) := by decide +kernel
theorem dX7_whom_62 : decode cX7_whom 62 = .ok (.aload_n 0, 1) := by decide +kernel
theorem dX7_whom_63 : decode cX7_whom 63 = .ok (.iload_n 2, 1) := by decide +kernel
theorem dX7_whom_64 : decode cX7_whom 64 = .ok (.invokevirtual 226, 3) := by decide +kernel
theorem dX7_whom_67 : decode cX7_whom 67 = .ok (.istore 6, 2) := by decide +kernel
theorem dX7_whom_69 : decode cX7_whom 69 = .ok (.iconst 0, 1) := by decide +kernel
theorem dX7_whom_70 : decode cX7_whom 70 = .ok (.istore 7, 2) := by decide +kernel
theorem dX7_whom_72 : decode cX7_whom 72 = .ok (.iload 7, 2) := by decide +kernel
theorem dX7_whom_74 : decode cX7_whom 74 = .ok (.aload_n 0, 1) := by decide +kernel
theorem dX7_whom_75 : decode cX7_whom 75 = .ok (.getfield 9, 3) := by decide +kernel
theorem dX7_whom_78 : decode cX7_whom 78 = .ok (.iconst 3, 1) := by decide +kernel
theorem dX7_whom_79 : decode cX7_whom 79 = .ok (.iaload, 1) := by decide +kernel
theorem dX7_whom_80 : decode cX7_whom 80 = .ok (.if_icmp .ge 51, 3) := by decide +kernel
theorem dX7_whom_83 : decode cX7_whom 83 = .ok (.iload 7, 2) := by decide +kernel
theorem dX7_whom_85 : decode cX7_whom 85 = .ok (.iload_n 1, 1) := by decide +kernel
theorem dX7_whom_86 : decode cX7_whom 86 = .ok (.if_icmp .ne 6, 3) := by decide +kernel
theorem dX7_whom_89 : decode cX7_whom 89 = .ok (.goto 36, 3) := by decide +kernel
theorem dX7_whom_92 : decode cX7_whom 92 = .ok (.aload_n 0, 1) := by decide +kernel
theorem dX7_whom_93 : decode cX7_whom 93 = .ok (.getfield 9, 3) := by decide +kernel
theorem dX7_whom_96 : decode cX7_whom 96 = .ok (.iload_n 3, 1) := by decide +kernel
theorem dX7_whom_97 : decode cX7_whom 97 = .ok (.iload 7, 2) := by decide +kernel
theorem dX7_whom_99 : decode cX7_whom 99 = .ok (.iastore, 1) := by decide +kernel
theorem dX7_whom_100 : decode cX7_whom 100 = .ok (.aload_n 0, 1) := by decide +kernel
theorem dX7_whom_101 : decode cX7_whom 101 = .ok (.iload_n 2, 1) := by decide +kernel
theorem dX7_whom_102 : decode cX7_whom 102 = .ok (.invokevirtual 226, 3) := by decide +kernel
theorem dX7_whom_105 : decode cX7_whom 105 = .ok (.istore 8, 2) := by decide +kernel
theorem dX7_whom_107 : decode cX7_whom 107 = .ok (.iload 8, 2) := by decide +kernel
theorem dX7_whom_109 : decode cX7_whom 109 = .ok (.iload 6, 2) := by decide +kernel
theorem dX7_whom_111 : decode cX7_whom 111 = .ok (.if_icmp .lt 6, 3) := by decide +kernel
theorem dX7_whom_114 : decode cX7_whom 114 = .ok (.goto 11, 3) := by decide +kernel
theorem dX7_whom_117 : decode cX7_whom 117 = .ok (.iload 7, 2) := by decide +kernel
theorem dX7_whom_119 : decode cX7_whom 119 = .ok (.istore 5, 2) := by decide +kernel
theorem dX7_whom_121 : decode cX7_whom 121 = .ok (.iload 8, 2) := by decide +kernel
theorem dX7_whom_123 : decode cX7_whom 123 = .ok (.istore 6, 2) := by decide +kernel
theorem dX7_whom_125 : decode cX7_whom 125 = .ok (.iinc 7 1, 3) := by decide +kernel
theorem dX7_whom_128 : decode cX7_whom 128 = .ok (.goto (-56), 3) := by decide +kernel
theorem dX7_whom_131 : decode cX7_whom 131 = .ok (.aload_n 0, 1) := by decide +kernel
theorem dX7_whom_132 : decode cX7_whom 132 = .ok (.getfield 9, 3) := by decide +kernel
theorem dX7_whom_135 : decode cX7_whom 135 = .ok (.iload_n 3, 1) := by decide +kernel
theorem dX7_whom_136 : decode cX7_whom 136 = .ok (.iload 4, 2) := by decide +kernel
theorem dX7_whom_138 : decode cX7_whom 138 = .ok (.iastore, 1) := by decide +kernel
theorem dX7_whom_139 : decode cX7_whom 139 = .ok (.iload 5, 2) := by decide +kernel
theorem dX7_whom_141 : decode cX7_whom 141 = .ok (.ireturn, 1) := by decide +kernel
theorem dX7_seed_0 : decode cX7_seed 0 = .ok (.aload_n 0, 1) := by decide +kernel
theorem dX7_seed_1 : decode cX7_seed 1 = .ok (.iconst 1, 1) := by decide +kernel
theorem dX7_seed_2 : decode cX7_seed 2 = .ok (.iload_n 1, 1) := by decide +kernel
theorem dX7_seed_3 : decode cX7_seed 3 = .ok (.invokevirtual 72, 3) := by decide +kernel
theorem dX7_seed_6 : decode cX7_seed 6 = .ok (.ireturn, 1) := by decide +kernel
theorem dX7_feed_0 : decode cX7_feed 0 = .ok (.iload_n 2, 1) := by decide +kernel
theorem dX7_feed_1 : decode cX7_feed 1 = .ok (.i2l, 1) := by decide +kernel
theorem dX7_feed_2 : decode cX7_feed 2 = .ok (.lconst 1, 1) := by decide +kernel
theorem dX7_feed_3 : decode cX7_feed 3 = .ok (.ldc2_w 183, 3) := by decide +kernel
theorem dX7_feed_6 : decode cX7_feed 6 = .ok (.invokestatic 51, 3) := by decide +kernel
theorem dX7_feed_9 : decode cX7_feed 9 = .ok (.ifCond .ne 10, 3) := by decide +kernel
theorem dX7_feed_12 : decode cX7_feed 12 = .ok (.aload_n 0, 1) := by decide +kernel
theorem dX7_feed_13 : decode cX7_feed 13 = .ok (.ldc 43, 2) := by decide +kernel
theorem dX7_feed_15 : decode cX7_feed 15 = .ok (.invokevirtual 45, 3) := by decide +kernel
theorem dX7_feed_18 : decode cX7_feed 18 = .ok (.ireturn, 1) := by decide +kernel
theorem dX7_feed_19 : decode cX7_feed 19 = .ok (.aload_n 0, 1) := by decide +kernel
theorem dX7_feed_20 : decode cX7_feed 20 = .ok (.getfield 229, 3) := by decide +kernel
theorem dX7_feed_23 : decode cX7_feed 23 = .ok (.iload_n 2, 1) := by decide +kernel
theorem dX7_feed_24 : decode cX7_feed 24 = .ok (.iadd, 1) := by decide +kernel
theorem dX7_feed_25 : decode cX7_feed 25 = .ok (.bipush 120, 2) := by decide +kernel
theorem dX7_feed_27 : decode cX7_feed 27 = .ok (.if_icmp .le 10, 3) := by decide +kernel
theorem dX7_feed_30 : decode cX7_feed 30 = .ok (.aload_n 0, 1) := by decide +kernel
theorem dX7_feed_31 : decode cX7_feed 31 = .ok (.ldc 80, 2) := by decide +kernel
theorem dX7_feed_33 : decode cX7_feed 33 = .ok (.invokevirtual 45, 3) := by decide +kernel
theorem dX7_feed_36 : decode cX7_feed 36 = .ok (.ireturn, 1) := by decide +kernel
theorem dX7_feed_37 : decode cX7_feed 37 = .ok (.iload_n 2, 1) := by decide +kernel
theorem dX7_feed_38 : decode cX7_feed 38 = .ok (.iconst 1, 1) := by decide +kernel
theorem dX7_feed_39 : decode cX7_feed 39 = .ok (.isub, 1) := by decide +kernel
theorem dX7_feed_40 : decode cX7_feed 40 = .ok (.istore_n 3, 1) := by decide +kernel
theorem dX7_feed_41 : decode cX7_feed 41 = .ok (.iload_n 3, 1) := by decide +kernel
theorem dX7_feed_42 : decode cX7_feed 42 = .ok (.ifCond .lt 38, 3) := by decide +kernel
theorem dX7_feed_45 : decode cX7_feed 45 = .ok (.aload_n 0, 1) := by decide +kernel
theorem dX7_feed_46 : decode cX7_feed 46 = .ok (.getfield 31, 3) := by decide +kernel
theorem dX7_feed_49 : decode cX7_feed 49 = .ok (.aload_n 0, 1) := by decide +kernel
theorem dX7_feed_50 : decode cX7_feed 50 = .ok (.getfield 229, 3) := by decide +kernel
theorem dX7_feed_53 : decode cX7_feed 53 = .ok (.iload_n 1, 1) := by decide +kernel
theorem dX7_feed_54 : decode cX7_feed 54 = .ok (.bipush 8, 2) := by decide +kernel
theorem dX7_feed_56 : decode cX7_feed 56 = .ok (.iload_n 3, 1) := by decide +kernel
theorem dX7_feed_57 : decode cX7_feed 57 = .ok (.imul, 1) := by decide +kernel
theorem dX7_feed_58 : decode cX7_feed 58 = .ok (.ishr, 1) := by decide +kernel
theorem dX7_feed_59 : decode cX7_feed 59 = .ok (.sipush 255, 3) := by decide +kernel
theorem dX7_feed_62 : decode cX7_feed 62 = .ok (.iand, 1) := by decide +kernel
theorem dX7_feed_63 : decode cX7_feed 63 = .ok (.iastore, 1) := by decide +kernel
theorem dX7_feed_64 : decode cX7_feed 64 = .ok (.aload_n 0, 1) := by decide +kernel
theorem dX7_feed_65 : decode cX7_feed 65 = .ok (.dup, 1) := by decide +kernel
theorem dX7_feed_66 : decode cX7_feed 66 = .ok (.getfield 229, 3) := by decide +kernel
theorem dX7_feed_69 : decode cX7_feed 69 = .ok (.iconst 1, 1) := by decide +kernel
theorem dX7_feed_70 : decode cX7_feed 70 = .ok (.iadd, 1) := by decide +kernel
theorem dX7_feed_71 : decode cX7_feed 71 = .ok (.putfield 229, 3) := by decide +kernel
theorem dX7_feed_74 : decode cX7_feed 74 = .ok (.iinc 3 (-1), 3) := by decide +kernel
theorem dX7_feed_77 : decode cX7_feed 77 = .ok (.goto (-36), 3) := by decide +kernel
theorem dX7_feed_80 : decode cX7_feed 80 = .ok (.aload_n 0, 1) := by decide +kernel
theorem dX7_feed_81 : decode cX7_feed 81 = .ok (.getfield 229, 3) := by decide +kernel
theorem dX7_feed_84 : decode cX7_feed 84 = .ok (.ireturn, 1) := by decide +kernel
theorem dX7_wipe_0 : decode cX7_wipe 0 = .ok (.aload_n 0, 1) := by decide +kernel
theorem dX7_wipe_1 : decode cX7_wipe 1 = .ok (.getfield 229, 3) := by decide +kernel
theorem dX7_wipe_4 : decode cX7_wipe 4 = .ok (.istore_n 1, 1) := by decide +kernel
theorem dX7_wipe_5 : decode cX7_wipe 5 = .ok (.aload_n 0, 1) := by decide +kernel
theorem dX7_wipe_6 : decode cX7_wipe 6 = .ok (.iconst 0, 1) := by decide +kernel
theorem dX7_wipe_7 : decode cX7_wipe 7 = .ok (.putfield 229, 3) := by decide +kernel
theorem dX7_wipe_10 : decode cX7_wipe 10 = .ok (.iload_n 1, 1) := by decide +kernel
theorem dX7_wipe_11 : decode cX7_wipe 11 = .ok (.ireturn, 1) := by decide +kernel
theorem dX7_isByte_0 : decode cX7_isByte 0 = .ok (.iload_n 1, 1) := by decide +kernel
theorem dX7_isByte_1 : decode cX7_isByte 1 = .ok (.aload_n 0, 1) := by decide +kernel
theorem dX7_isByte_2 : decode cX7_isByte 2 = .ok (.getfield 229, 3) := by decide +kernel
theorem dX7_isByte_5 : decode cX7_isByte 5 = .ok (.if_icmp .ge 24, 3) := by decide +kernel
theorem dX7_isByte_8 : decode cX7_isByte 8 = .ok (.aload_n 0, 1) := by decide +kernel
theorem dX7_isByte_9 : decode cX7_isByte 9 = .ok (.getfield 31, 3) := by decide +kernel
theorem dX7_isByte_12 : decode cX7_isByte 12 = .ok (.iload_n 1, 1) := by decide +kernel
theorem dX7_isByte_13 : decode cX7_isByte 13 = .ok (.iaload, 1) := by decide +kernel
theorem dX7_isByte_14 : decode cX7_isByte 14 = .ok (.i2l, 1) := by decide +kernel
theorem dX7_isByte_15 : decode cX7_isByte 15 = .ok (.iload_n 2, 1) := by decide +kernel
theorem dX7_isByte_16 : decode cX7_isByte 16 = .ok (.i2l, 1) := by decide +kernel
theorem dX7_isByte_17 : decode cX7_isByte 17 = .ok (.iload_n 3, 1) := by decide +kernel
theorem dX7_isByte_18 : decode cX7_isByte 18 = .ok (.i2l, 1) := by decide +kernel
theorem dX7_isByte_19 : decode cX7_isByte 19 = .ok (.invokestatic 51, 3) := by decide +kernel
theorem dX7_isByte_22 : decode cX7_isByte 22 = .ok (.ifCond .eq 7, 3) := by decide +kernel
theorem dX7_isByte_25 : decode cX7_isByte 25 = .ok (.iconst 1, 1) := by decide +kernel
theorem dX7_isByte_26 : decode cX7_isByte 26 = .ok (.goto 4, 3) := by decide +kernel
theorem dX7_isByte_29 : decode cX7_isByte 29 = .ok (.iconst 0, 1) := by decide +kernel
theorem dX7_isByte_30 : decode cX7_isByte 30 = .ok (.ireturn, 1) := by decide +kernel
theorem dX7_token_0 : decode cX7_token 0 = .ok (.aload_n 0, 1) := by decide +kernel
theorem dX7_token_1 : decode cX7_token 1 = .ok (.aload_n 0, 1) := by decide +kernel
theorem dX7_token_2 : decode cX7_token 2 = .ok (.getfield 233, 3) := by decide +kernel
theorem dX7_token_5 : decode cX7_token 5 = .ok (.putfield 236, 3) := by decide +kernel
theorem dX7_token_8 : decode cX7_token 8 = .ok (.aload_n 0, 1) := by decide +kernel
theorem dX7_token_9 : decode cX7_token 9 = .ok (.aload_n 0, 1) := by decide +kernel
theorem dX7_token_10 : decode cX7_token 10 = .ok (.getfield 236, 3) := by decide +kernel
theorem dX7_token_13 : decode cX7_token 13 = .ok (.bipush 32, 2) := by decide +kernel
theorem dX7_token_15 : decode cX7_token 15 = .ok (.bipush 32, 2) := by decide +kernel
theorem dX7_token_17 : decode cX7_token 17 = .ok (.invokevirtual 239, 3) := by decide +kernel
theorem dX7_token_20 : decode cX7_token 20 = .ok (.ifCond .eq 16, 3) := by decide +kernel
theorem dX7_token_23 : decode cX7_token 23 = .ok (.aload_n 0, 1) := by decide +kernel
theorem dX7_token_24 : decode cX7_token 24 = .ok (.dup, 1) := by decide +kernel
theorem dX7_token_25 : decode cX7_token 25 = .ok (.getfield 236, 3) := by decide +kernel
theorem dX7_token_28 : decode cX7_token 28 = .ok (.iconst 1, 1) := by decide +kernel
theorem dX7_token_29 : decode cX7_token 29 = .ok (.iadd, 1) := by decide +kernel
theorem dX7_token_30 : decode cX7_token 30 = .ok (.putfield 236, 3) := by decide +kernel
theorem dX7_token_33 : decode cX7_token 33 = .ok (.goto (-25), 3) := by decide +kernel
theorem dX7_token_36 : decode cX7_token 36 = .ok (.aload_n 0, 1) := by decide +kernel
theorem dX7_token_37 : decode cX7_token 37 = .ok (.aload_n 0, 1) := by decide +kernel
theorem dX7_token_38 : decode cX7_token 38 = .ok (.getfield 236, 3) := by decide +kernel
theorem dX7_token_41 : decode cX7_token 41 = .ok (.putfield 233, 3) := by decide +kernel
theorem dX7_token_44 : decode cX7_token 44 = .ok (.aload_n 0, 1) := by decide +kernel
theorem dX7_token_45 : decode cX7_token 45 = .ok (.iconst 0, 1) := by decide +kernel
theorem dX7_token_46 : decode cX7_token 46 = .ok (.putfield 243, 3) := by decide +kernel
theorem dX7_token_49 : decode cX7_token 49 = .ok (.aload_n 0, 1) := by decide +kernel
theorem dX7_token_50 : decode cX7_token 50 = .ok (.aload_n 0, 1) := by decide +kernel
theorem dX7_token_51 : decode cX7_token 51 = .ok (.getfield 236, 3) := by decide +kernel
theorem dX7_token_54 : decode cX7_token 54 = .ok (.aload_n 0, 1) := by decide +kernel
theorem dX7_token_55 : decode cX7_token 55 = .ok (.getfield 229, 3) := by decide +kernel
theorem dX7_token_58 : decode cX7_token 58 = .ok (.if_icmp .ne 7, 3) := by decide +kernel
theorem dX7_token_61 : decode cX7_token 61 = .ok (.iconst 0, 1) := by decide +kernel
theorem dX7_token_62 : decode cX7_token 62 = .ok (.goto 42, 3) := by decide +kernel
theorem dX7_token_65 : decode cX7_token 65 = .ok (.aload_n 0, 1) := by decide +kernel
theorem dX7_token_66 : decode cX7_token 66 = .ok (.aload_n 0, 1) := by decide +kernel
theorem dX7_token_67 : decode cX7_token 67 = .ok (.getfield 236, 3) := by decide +kernel
theorem dX7_token_70 : decode cX7_token 70 = .ok (.bipush 97, 2) := by decide +kernel
theorem dX7_token_72 : decode cX7_token 72 = .ok (.bipush 122, 2) := by decide +kernel
theorem dX7_token_74 : decode cX7_token 74 = .ok (.invokevirtual 239, 3) := by decide +kernel
theorem dX7_token_77 : decode cX7_token 77 = .ok (.ifCond .eq 7, 3) := by decide +kernel
theorem dX7_token_80 : decode cX7_token 80 = .ok (.iconst 1, 1) := by decide +kernel
theorem dX7_token_81 : decode cX7_token 81 = .ok (.goto 23, 3) := by decide +kernel
theorem dX7_token_84 : decode cX7_token 84 = .ok (.aload_n 0, 1) := by decide +kernel
theorem dX7_token_85 : decode cX7_token 85 = .ok (.aload_n 0, 1) := by decide +kernel
theorem dX7_token_86 : decode cX7_token 86 = .ok (.getfield 236, 3) := by decide +kernel
theorem dX7_token_89 : decode cX7_token 89 = .ok (.bipush 48, 2) := by decide +kernel
theorem dX7_token_91 : decode cX7_token 91 = .ok (.bipush 57, 2) := by decide +kernel
theorem dX7_token_93 : decode cX7_token 93 = .ok (.invokevirtual 239, 3) := by decide +kernel
theorem dX7_token_96 : decode cX7_token 96 = .ok (.ifCond .eq 7, 3) := by decide +kernel
theorem dX7_token_99 : decode cX7_token 99 = .ok (.iconst 2, 1) := by decide +kernel
theorem dX7_token_100 : decode cX7_token 100 = .ok (.goto 4, 3) := by decide +kernel
theorem dX7_token_103 : decode cX7_token 103 = .ok (.iconst 3, 1) := by decide +kernel
theorem dX7_token_104 : decode cX7_token 104 = .ok (.putfield 246, 3) := by decide +kernel
theorem dX7_token_107 : decode cX7_token 107 = .ok (.aload_n 0, 1) := by decide +kernel
theorem dX7_token_108 : decode cX7_token 108 = .ok (.getfield 246, 3) := by decide +kernel
theorem dX7_token_111 : decode cX7_token 111 = .ok (.iconst 3, 1) := by decide +kernel
theorem dX7_token_112 : decode cX7_token 112 = .ok (.if_icmp .ne 13, 3) := by decide +kernel
theorem dX7_token_115 : decode cX7_token 115 = .ok (.aload_n 0, 1) := by decide +kernel
theorem dX7_token_116 : decode cX7_token 116 = .ok (.dup, 1) := by decide +kernel
theorem dX7_token_117 : decode cX7_token 117 = .ok (.getfield 233, 3) := by decide +kernel
theorem dX7_token_120 : decode cX7_token 120 = .ok (.iconst 1, 1) := by decide +kernel
theorem dX7_token_121 : decode cX7_token 121 = .ok (.iadd, 1) := by decide +kernel
theorem dX7_token_122 : decode cX7_token 122 = .ok (.putfield 233, 3) := by decide +kernel
theorem dX7_token_125 : decode cX7_token 125 = .ok (.aload_n 0, 1) := by decide +kernel
theorem dX7_token_126 : decode cX7_token 126 = .ok (.getfield 246, 3) := by decide +kernel
theorem dX7_token_129 : decode cX7_token 129 = .ok (.iconst 1, 1) := by decide +kernel
theorem dX7_token_130 : decode cX7_token 130 = .ok (.if_icmp .ne 31, 3) := by decide +kernel
theorem dX7_token_133 : decode cX7_token 133 = .ok (.aload_n 0, 1) := by decide +kernel
theorem dX7_token_134 : decode cX7_token 134 = .ok (.aload_n 0, 1) := by decide +kernel
theorem dX7_token_135 : decode cX7_token 135 = .ok (.getfield 233, 3) := by decide +kernel
theorem dX7_token_138 : decode cX7_token 138 = .ok (.bipush 97, 2) := by decide +kernel
theorem dX7_token_140 : decode cX7_token 140 = .ok (.bipush 122, 2) := by decide +kernel
theorem dX7_token_142 : decode cX7_token 142 = .ok (.invokevirtual 239, 3) := by decide +kernel
theorem dX7_token_145 : decode cX7_token 145 = .ok (.ifCond .eq 16, 3) := by decide +kernel
theorem dX7_token_148 : decode cX7_token 148 = .ok (.aload_n 0, 1) := by decide +kernel
theorem dX7_token_149 : decode cX7_token 149 = .ok (.dup, 1) := by decide +kernel
theorem dX7_token_150 : decode cX7_token 150 = .ok (.getfield 233, 3) := by decide +kernel
theorem dX7_token_153 : decode cX7_token 153 = .ok (.iconst 1, 1) := by decide +kernel
theorem dX7_token_154 : decode cX7_token 154 = .ok (.iadd, 1) := by decide +kernel
theorem dX7_token_155 : decode cX7_token 155 = .ok (.putfield 233, 3) := by decide +kernel
theorem dX7_token_158 : decode cX7_token 158 = .ok (.goto (-33), 3) := by decide +kernel
theorem dX7_token_161 : decode cX7_token 161 = .ok (.aload_n 0, 1) := by decide +kernel
theorem dX7_token_162 : decode cX7_token 162 = .ok (.getfield 246, 3) := by decide +kernel
theorem dX7_token_165 : decode cX7_token 165 = .ok (.iconst 2, 1) := by decide +kernel
theorem dX7_token_166 : decode cX7_token 166 = .ok (.if_icmp .ne 72, 3) := by decide +kernel
theorem dX7_token_169 : decode cX7_token 169 = .ok (.aload_n 0, 1) := by decide +kernel
theorem dX7_token_170 : decode cX7_token 170 = .ok (.aload_n 0, 1) := by decide +kernel
theorem dX7_token_171 : decode cX7_token 171 = .ok (.getfield 233, 3) := by decide +kernel
theorem dX7_token_174 : decode cX7_token 174 = .ok (.bipush 48, 2) := by decide +kernel
theorem dX7_token_176 : decode cX7_token 176 = .ok (.bipush 57, 2) := by decide +kernel
theorem dX7_token_178 : decode cX7_token 178 = .ok (.invokevirtual 239, 3) := by decide +kernel
theorem dX7_token_181 : decode cX7_token 181 = .ok (.ifCond .eq 57, 3) := by decide +kernel
theorem dX7_token_184 : decode cX7_token 184 = .ok (.aload_n 0, 1) := by decide +kernel
theorem dX7_token_185 : decode cX7_token 185 = .ok (.aload_n 0, 1) := by decide +kernel
theorem dX7_token_186 : decode cX7_token 186 = .ok (.getfield 243, 3) := by decide +kernel
theorem dX7_token_189 : decode cX7_token 189 = .ok (.sipush 9999, 3) := by decide +kernel
theorem dX7_token_192 : decode cX7_token 192 = .ok (.if_icmp .le 10, 3) := by decide +kernel
theorem dX7_token_195 : decode cX7_token 195 = .ok (.aload_n 0, 1) := by decide +kernel
theorem dX7_token_196 : decode cX7_token 196 = .ok (.getfield 243, 3) := by decide +kernel
theorem dX7_token_199 : decode cX7_token 199 = .ok (.goto 23, 3) := by decide +kernel
theorem dX7_token_202 : decode cX7_token 202 = .ok (.bipush 10, 2) := by decide +kernel
theorem dX7_token_204 : decode cX7_token 204 = .ok (.aload_n 0, 1) := by decide +kernel
theorem dX7_token_205 : decode cX7_token 205 = .ok (.getfield 243, 3) := by decide +kernel
theorem dX7_token_208 : decode cX7_token 208 = .ok (.imul, 1) := by decide +kernel
theorem dX7_token_209 : decode cX7_token 209 = .ok (.aload_n 0, 1) := by decide +kernel
theorem dX7_token_210 : decode cX7_token 210 = .ok (.getfield 31, 3) := by decide +kernel
theorem dX7_token_213 : decode cX7_token 213 = .ok (.aload_n 0, 1) := by decide +kernel
theorem dX7_token_214 : decode cX7_token 214 = .ok (.getfield 233, 3) := by decide +kernel
theorem dX7_token_217 : decode cX7_token 217 = .ok (.iaload, 1) := by decide +kernel
theorem dX7_token_218 : decode cX7_token 218 = .ok (.iadd, 1) := by decide +kernel
theorem dX7_token_219 : decode cX7_token 219 = .ok (.bipush 48, 2) := by decide +kernel
theorem dX7_token_221 : decode cX7_token 221 = .ok (.isub, 1) := by decide +kernel
theorem dX7_token_222 : decode cX7_token 222 = .ok (.putfield 243, 3) := by decide +kernel
theorem dX7_token_225 : decode cX7_token 225 = .ok (.aload_n 0, 1) := by decide +kernel
theorem dX7_token_226 : decode cX7_token 226 = .ok (.dup, 1) := by decide +kernel
theorem dX7_token_227 : decode cX7_token 227 = .ok (.getfield 233, 3) := by decide +kernel
theorem dX7_token_230 : decode cX7_token 230 = .ok (.iconst 1, 1) := by decide +kernel
theorem dX7_token_231 : decode cX7_token 231 = .ok (.iadd, 1) := by decide +kernel
theorem dX7_token_232 : decode cX7_token 232 = .ok (.putfield 233, 3) := by decide +kernel
theorem dX7_token_235 : decode cX7_token 235 = .ok (.goto (-74), 3) := by decide +kernel
theorem dX7_token_238 : decode cX7_token 238 = .ok (.return_, 1) := by decide +kernel
theorem dX7_isWord_0 : decode cX7_isWord 0 = .ok (.aload_n 0, 1) := by decide +kernel
theorem dX7_isWord_1 : decode cX7_isWord 1 = .ok (.getfield 249, 3) := by decide +kernel
theorem dX7_isWord_4 : decode cX7_isWord 4 = .ok (.ifCond .ne 31, 3) := by decide +kernel
theorem dX7_isWord_7 : decode cX7_isWord 7 = .ok (.aload_n 0, 1) := by decide +kernel
theorem dX7_isWord_8 : decode cX7_isWord 8 = .ok (.getfield 246, 3) := by decide +kernel
theorem dX7_isWord_11 : decode cX7_isWord 11 = .ok (.iconst 1, 1) := by decide +kernel
theorem dX7_isWord_12 : decode cX7_isWord 12 = .ok (.if_icmp .ne 23, 3) := by decide +kernel
theorem dX7_isWord_15 : decode cX7_isWord 15 = .ok (.aload_n 0, 1) := by decide +kernel
theorem dX7_isWord_16 : decode cX7_isWord 16 = .ok (.getfield 233, 3) := by decide +kernel
theorem dX7_isWord_19 : decode cX7_isWord 19 = .ok (.aload_n 0, 1) := by decide +kernel
theorem dX7_isWord_20 : decode cX7_isWord 20 = .ok (.getfield 236, 3) := by decide +kernel
theorem dX7_isWord_23 : decode cX7_isWord 23 = .ok (.isub, 1) := by decide +kernel
theorem dX7_isWord_24 : decode cX7_isWord 24 = .ok (.aload_n 1, 1) := by decide +kernel
theorem dX7_isWord_25 : decode cX7_isWord 25 = .ok (.invokevirtual 253, 3) := by decide +kernel
theorem dX7_isWord_28 : decode cX7_isWord 28 = .ok (.if_icmp .ne 7, 3) := by decide +kernel
theorem dX7_isWord_31 : decode cX7_isWord 31 = .ok (.iconst 1, 1) := by decide +kernel
theorem dX7_isWord_32 : decode cX7_isWord 32 = .ok (.goto 4, 3) := by decide +kernel
theorem dX7_isWord_35 : decode cX7_isWord 35 = .ok (.iconst 0, 1) := by decide +kernel
theorem dX7_isWord_36 : decode cX7_isWord 36 = .ok (.istore_n 2, 1) := by decide +kernel
theorem dX7_isWord_37 : decode cX7_isWord 37 = .ok (.iconst 0, 1) := by decide +kernel
theorem dX7_isWord_38 : decode cX7_isWord 38 = .ok (.istore_n 3, 1) := by decide +kernel
theorem dX7_isWord_39 : decode cX7_isWord 39 = .ok (.iload_n 2, 1) := by decide +kernel
theorem dX7_isWord_40 : decode cX7_isWord 40 = .ok (.ifCond .eq 42, 3) := by decide +kernel
theorem dX7_isWord_43 : decode cX7_isWord 43 = .ok (.iload_n 3, 1) := by decide +kernel
theorem dX7_isWord_44 : decode cX7_isWord 44 = .ok (.aload_n 1, 1) := by decide +kernel
theorem dX7_isWord_45 : decode cX7_isWord 45 = .ok (.invokevirtual 253, 3) := by decide +kernel
theorem dX7_isWord_48 : decode cX7_isWord 48 = .ok (.if_icmp .ge 34, 3) := by decide +kernel
theorem dX7_isWord_51 : decode cX7_isWord 51 = .ok (.aload_n 0, 1) := by decide +kernel
theorem dX7_isWord_52 : decode cX7_isWord 52 = .ok (.getfield 31, 3) := by decide +kernel
theorem dX7_isWord_55 : decode cX7_isWord 55 = .ok (.aload_n 0, 1) := by decide +kernel
theorem dX7_isWord_56 : decode cX7_isWord 56 = .ok (.getfield 236, 3) := by decide +kernel
theorem dX7_isWord_59 : decode cX7_isWord 59 = .ok (.iload_n 3, 1) := by decide +kernel
theorem dX7_isWord_60 : decode cX7_isWord 60 = .ok (.iadd, 1) := by decide +kernel
theorem dX7_isWord_61 : decode cX7_isWord 61 = .ok (.iaload, 1) := by decide +kernel
theorem dX7_isWord_62 : decode cX7_isWord 62 = .ok (.aload_n 1, 1) := by decide +kernel
theorem dX7_isWord_63 : decode cX7_isWord 63 = .ok (.iload_n 3, 1) := by decide +kernel
theorem dX7_isWord_64 : decode cX7_isWord 64 = .ok (.invokevirtual 258, 3) := by decide +kernel
theorem dX7_isWord_67 : decode cX7_isWord 67 = .ok (.if_icmp .ne 7, 3) := by decide +kernel
theorem dX7_isWord_70 : decode cX7_isWord 70 = .ok (.iconst 1, 1) := by decide +kernel
theorem dX7_isWord_71 : decode cX7_isWord 71 = .ok (.goto 4, 3) := by decide +kernel
theorem dX7_isWord_74 : decode cX7_isWord 74 = .ok (.iconst 0, 1) := by decide +kernel
theorem dX7_isWord_75 : decode cX7_isWord 75 = .ok (.istore_n 2, 1) := by decide +kernel
theorem dX7_isWord_76 : decode cX7_isWord 76 = .ok (.iinc 3 1, 3) := by decide +kernel
theorem dX7_isWord_79 : decode cX7_isWord 79 = .ok (.goto (-40), 3) := by decide +kernel
theorem dX7_isWord_82 : decode cX7_isWord 82 = .ok (.iload_n 2, 1) := by decide +kernel
theorem dX7_isWord_83 : decode cX7_isWord 83 = .ok (.ireturn, 1) := by decide +kernel
theorem dX7_takes_0 : decode cX7_takes 0 = .ok (.aload_n 0, 1) := by decide +kernel
theorem dX7_takes_1 : decode cX7_takes 1 = .ok (.aload_n 1, 1) := by decide +kernel
theorem dX7_takes_2 : decode cX7_takes 2 = .ok (.invokevirtual 262, 3) := by decide +kernel
theorem dX7_takes_5 : decode cX7_takes 5 = .ok (.ifCond .ne 5, 3) := by decide +kernel
theorem dX7_takes_8 : decode cX7_takes 8 = .ok (.iconst 0, 1) := by decide +kernel
theorem dX7_takes_9 : decode cX7_takes 9 = .ok (.ireturn, 1) := by decide +kernel
theorem dX7_takes_10 : decode cX7_takes 10 = .ok (.aload_n 0, 1) := by decide +kernel
theorem dX7_takes_11 : decode cX7_takes 11 = .ok (.invokevirtual 266, 3) := by decide +kernel
theorem dX7_takes_14 : decode cX7_takes 14 = .ok (.iconst 1, 1) := by decide +kernel
theorem dX7_takes_15 : decode cX7_takes 15 = .ok (.ireturn, 1) := by decide +kernel
theorem dX7_isSign_0 : decode cX7_isSign 0 = .ok (.aload_n 0, 1) := by decide +kernel
theorem dX7_isSign_1 : decode cX7_isSign 1 = .ok (.getfield 249, 3) := by decide +kernel
theorem dX7_isSign_4 : decode cX7_isSign 4 = .ok (.ifCond .ne 28, 3) := by decide +kernel
theorem dX7_isSign_7 : decode cX7_isSign 7 = .ok (.aload_n 0, 1) := by decide +kernel
theorem dX7_isSign_8 : decode cX7_isSign 8 = .ok (.getfield 246, 3) := by decide +kernel
theorem dX7_isSign_11 : decode cX7_isSign 11 = .ok (.iconst 3, 1) := by decide +kernel
theorem dX7_isSign_12 : decode cX7_isSign 12 = .ok (.if_icmp .ne 20, 3) := by decide +kernel
theorem dX7_isSign_15 : decode cX7_isSign 15 = .ok (.aload_n 0, 1) := by decide +kernel
theorem dX7_isSign_16 : decode cX7_isSign 16 = .ok (.getfield 31, 3) := by decide +kernel
theorem dX7_isSign_19 : decode cX7_isSign 19 = .ok (.aload_n 0, 1) := by decide +kernel
theorem dX7_isSign_20 : decode cX7_isSign 20 = .ok (.getfield 236, 3) := by decide +kernel
theorem dX7_isSign_23 : decode cX7_isSign 23 = .ok (.iaload, 1) := by decide +kernel
theorem dX7_isSign_24 : decode cX7_isSign 24 = .ok (.iload_n 1, 1) := by decide +kernel
theorem dX7_isSign_25 : decode cX7_isSign 25 = .ok (.if_icmp .ne 7, 3) := by decide +kernel
theorem dX7_isSign_28 : decode cX7_isSign 28 = .ok (.iconst 1, 1) := by decide +kernel
theorem dX7_isSign_29 : decode cX7_isSign 29 = .ok (.goto 4, 3) := by decide +kernel
theorem dX7_isSign_32 : decode cX7_isSign 32 = .ok (.iconst 0, 1) := by decide +kernel
theorem dX7_isSign_33 : decode cX7_isSign 33 = .ok (.ireturn, 1) := by decide +kernel
theorem dX7_number_0 : decode cX7_number 0 = .ok (.aload_n 0, 1) := by decide +kernel
theorem dX7_number_1 : decode cX7_number 1 = .ok (.aload_n 0, 1) := by decide +kernel
theorem dX7_number_2 : decode cX7_number 2 = .ok (.getfield 249, 3) := by decide +kernel
theorem dX7_number_5 : decode cX7_number 5 = .ok (.ifCond .ne 30, 3) := by decide +kernel
theorem dX7_number_8 : decode cX7_number 8 = .ok (.iload_n 3, 1) := by decide +kernel
theorem dX7_number_9 : decode cX7_number 9 = .ok (.ifCond .eq 26, 3) := by decide +kernel
theorem dX7_number_12 : decode cX7_number 12 = .ok (.aload_n 0, 1) := by decide +kernel
theorem dX7_number_13 : decode cX7_number 13 = .ok (.getfield 246, 3) := by decide +kernel
theorem dX7_number_16 : decode cX7_number 16 = .ok (.iconst 2, 1) := by decide +kernel
theorem dX7_number_17 : decode cX7_number 17 = .ok (.if_icmp .ne 18, 3) := by decide +kernel
theorem dX7_number_20 : decode cX7_number 20 = .ok (.aload_n 0, 1) := by decide +kernel
theorem dX7_number_21 : decode cX7_number 21 = .ok (.getfield 243, 3) := by decide +kernel
theorem dX7_number_24 : decode cX7_number 24 = .ok (.i2l, 1) := by decide +kernel
theorem dX7_number_25 : decode cX7_number 25 = .ok (.iload_n 1, 1) := by decide +kernel
theorem dX7_number_26 : decode cX7_number 26 = .ok (.i2l, 1) := by decide +kernel
theorem dX7_number_27 : decode cX7_number 27 = .ok (.iload_n 2, 1) := by decide +kernel
theorem dX7_number_28 : decode cX7_number 28 = .ok (.i2l, 1) := by decide +kernel
theorem dX7_number_29 : decode cX7_number 29 = .ok (.invokestatic 51, 3) := by decide +kernel
theorem dX7_number_32 : decode cX7_number 32 = .ok (.ifCond .ne 7, 3) := by decide +kernel
theorem dX7_number_35 : decode cX7_number 35 = .ok (.iconst 1, 1) := by decide +kernel
theorem dX7_number_36 : decode cX7_number 36 = .ok (.goto 4, 3) := by decide +kernel
theorem dX7_number_39 : decode cX7_number 39 = .ok (.iconst 0, 1) := by decide +kernel
theorem dX7_number_40 : decode cX7_number 40 = .ok (.putfield 249, 3) := by decide +kernel
theorem dX7_number_43 : decode cX7_number 43 = .ok (.aload_n 0, 1) := by decide +kernel
theorem dX7_number_44 : decode cX7_number 44 = .ok (.getfield 243, 3) := by decide +kernel
theorem dX7_number_47 : decode cX7_number 47 = .ok (.istore 4, 2) := by decide +kernel
theorem dX7_number_49 : decode cX7_number 49 = .ok (.aload_n 0, 1) := by decide +kernel
theorem dX7_number_50 : decode cX7_number 50 = .ok (.getfield 249, 3) := by decide +kernel
theorem dX7_number_53 : decode cX7_number 53 = .ok (.ifCond .ne 7, 3) := by decide +kernel
theorem dX7_number_56 : decode cX7_number 56 = .ok (.aload_n 0, 1) := by decide +kernel
theorem dX7_number_57 : decode cX7_number 57 = .ok (.invokevirtual 266, 3) := by decide +kernel
theorem dX7_number_60 : decode cX7_number 60 = .ok (.iload 4, 2) := by decide +kernel
theorem dX7_number_62 : decode cX7_number 62 = .ok (.ireturn, 1) := by decide +kernel
theorem dX7_word_0 : decode cX7_word 0 = .ok (.aload_n 0, 1) := by decide +kernel
theorem dX7_word_1 : decode cX7_word 1 = .ok (.aload_n 0, 1) := by decide +kernel
theorem dX7_word_2 : decode cX7_word 2 = .ok (.getfield 249, 3) := by decide +kernel
theorem dX7_word_5 : decode cX7_word 5 = .ok (.ifCond .ne 11, 3) := by decide +kernel
theorem dX7_word_8 : decode cX7_word 8 = .ok (.aload_n 0, 1) := by decide +kernel
theorem dX7_word_9 : decode cX7_word 9 = .ok (.aload_n 1, 1) := by decide +kernel
theorem dX7_word_10 : decode cX7_word 10 = .ok (.invokevirtual 269, 3) := by decide +kernel
theorem dX7_word_13 : decode cX7_word 13 = .ok (.ifCond .ne 7, 3) := by decide +kernel
theorem dX7_word_16 : decode cX7_word 16 = .ok (.iconst 1, 1) := by decide +kernel
theorem dX7_word_17 : decode cX7_word 17 = .ok (.goto 4, 3) := by decide +kernel
theorem dX7_word_20 : decode cX7_word 20 = .ok (.iconst 0, 1) := by decide +kernel
theorem dX7_word_21 : decode cX7_word 21 = .ok (.putfield 249, 3) := by decide +kernel
theorem dX7_word_24 : decode cX7_word 24 = .ok (.return_, 1) := by decide +kernel
theorem dX7_kindHere_0 : decode cX7_kindHere 0 = .ok (.aload_n 0, 1) := by decide +kernel
theorem dX7_kindHere_1 : decode cX7_kindHere 1 = .ok (.ldc_w 272, 3) := by decide +kernel
theorem dX7_kindHere_4 : decode cX7_kindHere 4 = .ok (.invokevirtual 262, 3) := by decide +kernel
theorem dX7_kindHere_7 : decode cX7_kindHere 7 = .ok (.ifCond .eq 5, 3) := by decide +kernel
theorem dX7_kindHere_10 : decode cX7_kindHere 10 = .ok (.iconst 0, 1) := by decide +kernel
theorem dX7_kindHere_11 : decode cX7_kindHere 11 = .ok (.ireturn, 1) := by decide +kernel
theorem dX7_kindHere_12 : decode cX7_kindHere 12 = .ok (.aload_n 0, 1) := by decide +kernel
theorem dX7_kindHere_13 : decode cX7_kindHere 13 = .ok (.ldc_w 274, 3) := by decide +kernel
theorem dX7_kindHere_16 : decode cX7_kindHere 16 = .ok (.invokevirtual 262, 3) := by decide +kernel
theorem dX7_kindHere_19 : decode cX7_kindHere 19 = .ok (.ifCond .eq 5, 3) := by decide +kernel
theorem dX7_kindHere_22 : decode cX7_kindHere 22 = .ok (.iconst 1, 1) := by decide +kernel
theorem dX7_kindHere_23 : decode cX7_kindHere 23 = .ok (.ireturn, 1) := by decide +kernel
theorem dX7_kindHere_24 : decode cX7_kindHere 24 = .ok (.aload_n 0, 1) := by decide +kernel
theorem dX7_kindHere_25 : decode cX7_kindHere 25 = .ok (.ldc_w 276, 3) := by decide +kernel
theorem dX7_kindHere_28 : decode cX7_kindHere 28 = .ok (.invokevirtual 262, 3) := by decide +kernel
theorem dX7_kindHere_31 : decode cX7_kindHere 31 = .ok (.ifCond .eq 5, 3) := by decide +kernel
theorem dX7_kindHere_34 : decode cX7_kindHere 34 = .ok (.iconst 2, 1) := by decide +kernel
theorem dX7_kindHere_35 : decode cX7_kindHere 35 = .ok (.ireturn, 1) := by decide +kernel
theorem dX7_kindHere_36 : decode cX7_kindHere 36 = .ok (.aload_n 0, 1) := by decide +kernel
theorem dX7_kindHere_37 : decode cX7_kindHere 37 = .ok (.ldc_w 278, 3) := by decide +kernel
theorem dX7_kindHere_40 : decode cX7_kindHere 40 = .ok (.invokevirtual 262, 3) := by decide +kernel
theorem dX7_kindHere_43 : decode cX7_kindHere 43 = .ok (.ifCond .eq 5, 3) := by decide +kernel
theorem dX7_kindHere_46 : decode cX7_kindHere 46 = .ok (.iconst 3, 1) := by decide +kernel
theorem dX7_kindHere_47 : decode cX7_kindHere 47 = .ok (.ireturn, 1) := by decide +kernel
theorem dX7_kindHere_48 : decode cX7_kindHere 48 = .ok (.aload_n 0, 1) := by decide +kernel
theorem dX7_kindHere_49 : decode cX7_kindHere 49 = .ok (.ldc_w 280, 3) := by decide +kernel
theorem dX7_kindHere_52 : decode cX7_kindHere 52 = .ok (.invokevirtual 262, 3) := by decide +kernel
theorem dX7_kindHere_55 : decode cX7_kindHere 55 = .ok (.ifCond .eq 5, 3) := by decide +kernel
theorem dX7_kindHere_58 : decode cX7_kindHere 58 = .ok (.iconst 4, 1) := by decide +kernel
theorem dX7_kindHere_59 : decode cX7_kindHere 59 = .ok (.ireturn, 1) := by decide +kernel
theorem dX7_kindHere_60 : decode cX7_kindHere 60 = .ok (.aload_n 0, 1) := by decide +kernel
theorem dX7_kindHere_61 : decode cX7_kindHere 61 = .ok (.ldc_w 282, 3) := by decide +kernel
theorem dX7_kindHere_64 : decode cX7_kindHere 64 = .ok (.invokevirtual 262, 3) := by decide +kernel
theorem dX7_kindHere_67 : decode cX7_kindHere 67 = .ok (.ifCond .eq 7, 3) := by decide +kernel
theorem dX7_kindHere_70 : decode cX7_kindHere 70 = .ok (.iconst 5, 1) := by decide +kernel
theorem dX7_kindHere_71 : decode cX7_kindHere 71 = .ok (.goto 19, 3) := by decide +kernel
theorem dX7_kindHere_74 : decode cX7_kindHere 74 = .ok (.aload_n 0, 1) := by decide +kernel
theorem dX7_kindHere_75 : decode cX7_kindHere 75 = .ok (.ldc_w 284, 3) := by decide +kernel
theorem dX7_kindHere_78 : decode cX7_kindHere 78 = .ok (.invokevirtual 262, 3) := by decide +kernel
theorem dX7_kindHere_81 : decode cX7_kindHere 81 = .ok (.ifCond .eq 8, 3) := by decide +kernel
theorem dX7_kindHere_84 : decode cX7_kindHere 84 = .ok (.bipush 6, 2) := by decide +kernel
theorem dX7_kindHere_86 : decode cX7_kindHere 86 = .ok (.goto 4, 3) := by decide +kernel
theorem dX7_kindHere_89 : decode cX7_kindHere 89 = .ok (.iconst (-1), 1) := by decide +kernel
theorem dX7_kindHere_90 : decode cX7_kindHere 90 = .ok (.ireturn, 1) := by decide +kernel
theorem dX7_nameItem_0 : decode cX7_nameItem 0 = .ok (.aload_n 0, 1) := by decide +kernel
theorem dX7_nameItem_1 : decode cX7_nameItem 1 = .ok (.iconst 0, 1) := by decide +kernel
theorem dX7_nameItem_2 : decode cX7_nameItem 2 = .ok (.bipush 7, 2) := by decide +kernel
theorem dX7_nameItem_4 : decode cX7_nameItem 4 = .ok (.iconst 1, 1) := by decide +kernel
theorem dX7_nameItem_5 : decode cX7_nameItem 5 = .ok (.invokevirtual 286, 3) := by decide +kernel
theorem dX7_nameItem_8 : decode cX7_nameItem 8 = .ok (.istore_n 1, 1) := by decide +kernel
theorem dX7_nameItem_9 : decode cX7_nameItem 9 = .ok (.aload_n 0, 1) := by decide +kernel
theorem dX7_nameItem_10 : decode cX7_nameItem 10 = .ok (.ldc_w 289, 3) := by decide +kernel
theorem dX7_nameItem_13 : decode cX7_nameItem 13 = .ok (.invokevirtual 291, 3) := by decide +kernel
theorem dX7_nameItem_16 : decode cX7_nameItem 16 = .ok (.aload_n 0, 1) := by decide +kernel
theorem dX7_nameItem_17 : decode cX7_nameItem 17 = .ok (.iconst 0, 1) := by decide +kernel
theorem dX7_nameItem_18 : decode cX7_nameItem 18 = .ok (.bipush 99, 2) := by decide +kernel
theorem dX7_nameItem_20 : decode cX7_nameItem 20 = .ok (.iconst 1, 1) := by decide +kernel
theorem dX7_nameItem_21 : decode cX7_nameItem 21 = .ok (.invokevirtual 286, 3) := by decide +kernel
theorem dX7_nameItem_24 : decode cX7_nameItem 24 = .ok (.istore_n 2, 1) := by decide +kernel
theorem dX7_nameItem_25 : decode cX7_nameItem 25 = .ok (.aload_n 0, 1) := by decide +kernel
theorem dX7_nameItem_26 : decode cX7_nameItem 26 = .ok (.getfield 249, 3) := by decide +kernel
theorem dX7_nameItem_29 : decode cX7_nameItem 29 = .ok (.ifCond .ne 14, 3) := by decide +kernel
theorem dX7_nameItem_32 : decode cX7_nameItem 32 = .ok (.aload_n 0, 1) := by decide +kernel
theorem dX7_nameItem_33 : decode cX7_nameItem 33 = .ok (.getfield 9, 3) := by decide +kernel
theorem dX7_nameItem_36 : decode cX7_nameItem 36 = .ok (.iconst 4, 1) := by decide +kernel
theorem dX7_nameItem_37 : decode cX7_nameItem 37 = .ok (.iconst 2, 1) := by decide +kernel
theorem dX7_nameItem_38 : decode cX7_nameItem 38 = .ok (.iload_n 1, 1) := by decide +kernel
theorem dX7_nameItem_39 : decode cX7_nameItem 39 = .ok (.imul, 1) := by decide +kernel
theorem dX7_nameItem_40 : decode cX7_nameItem 40 = .ok (.iadd, 1) := by decide +kernel
theorem dX7_nameItem_41 : decode cX7_nameItem 41 = .ok (.iload_n 2, 1) := by decide +kernel
theorem dX7_nameItem_42 : decode cX7_nameItem 42 = .ok (.iastore, 1) := by decide +kernel
theorem dX7_nameItem_43 : decode cX7_nameItem 43 = .ok (.return_, 1) := by decide +kernel
theorem dX7_taskItem_0 : decode cX7_taskItem 0 = .ok (.aload_n 0, 1) := by decide +kernel
theorem dX7_taskItem_1 : decode cX7_taskItem 1 = .ok (.aload_n 0, 1) := by decide +kernel
theorem dX7_taskItem_2 : decode cX7_taskItem 2 = .ok (.getfield 249, 3) := by decide +kernel
theorem dX7_taskItem_5 : decode cX7_taskItem 5 = .ok (.ifCond .ne 14, 3) := by decide +kernel
theorem dX7_taskItem_8 : decode cX7_taskItem 8 = .ok (.aload_n 0, 1) := by decide +kernel
theorem dX7_taskItem_9 : decode cX7_taskItem 9 = .ok (.getfield 9, 3) := by decide +kernel
theorem dX7_taskItem_12 : decode cX7_taskItem 12 = .ok (.iconst 2, 1) := by decide +kernel
theorem dX7_taskItem_13 : decode cX7_taskItem 13 = .ok (.iaload, 1) := by decide +kernel
theorem dX7_taskItem_14 : decode cX7_taskItem 14 = .ok (.bipush 20, 2) := by decide +kernel
theorem dX7_taskItem_16 : decode cX7_taskItem 16 = .ok (.if_icmp .ne 7, 3) := by decide +kernel
theorem dX7_taskItem_19 : decode cX7_taskItem 19 = .ok (.iconst 1, 1) := by decide +kernel
theorem dX7_taskItem_20 : decode cX7_taskItem 20 = .ok (.goto 4, 3) := by decide +kernel
theorem dX7_taskItem_23 : decode cX7_taskItem 23 = .ok (.iconst 0, 1) := by decide +kernel
theorem dX7_taskItem_24 : decode cX7_taskItem 24 = .ok (.putfield 249, 3) := by decide +kernel
theorem dX7_taskItem_27 : decode cX7_taskItem 27 = .ok (.aload_n 0, 1) := by decide +kernel
theorem dX7_taskItem_28 : decode cX7_taskItem 28 = .ok (.getfield 249, 3) := by decide +kernel
theorem dX7_taskItem_31 : decode cX7_taskItem 31 = .ok (.ifCond .eq 4, 3) := by decide +kernel
theorem dX7_taskItem_34 : decode cX7_taskItem 34 = .ok (.return_, 1) := by decide +kernel
theorem dX7_taskItem_35 : decode cX7_taskItem 35 = .ok (.aload_n 0, 1) := by decide +kernel
theorem dX7_taskItem_36 : decode cX7_taskItem 36 = .ok (.invokevirtual 266, 3) := by decide +kernel
theorem dX7_taskItem_39 : decode cX7_taskItem 39 = .ok (.aload_n 0, 1) := by decide +kernel
theorem dX7_taskItem_40 : decode cX7_taskItem 40 = .ok (.iconst 0, 1) := by decide +kernel
theorem dX7_taskItem_41 : decode cX7_taskItem 41 = .ok (.bipush 7, 2) := by decide +kernel
theorem dX7_taskItem_43 : decode cX7_taskItem 43 = .ok (.iconst 1, 1) := by decide +kernel
theorem dX7_taskItem_44 : decode cX7_taskItem 44 = .ok (.invokevirtual 286, 3) := by decide +kernel
theorem dX7_taskItem_47 : decode cX7_taskItem 47 = .ok (.istore_n 2, 1) := by decide +kernel
theorem dX7_taskItem_48 : decode cX7_taskItem 48 = .ok (.aload_n 0, 1) := by decide +kernel
theorem dX7_taskItem_49 : decode cX7_taskItem 49 = .ok (.ldc_w 295, 3) := by decide +kernel
theorem dX7_taskItem_52 : decode cX7_taskItem 52 = .ok (.invokevirtual 291, 3) := by decide +kernel
theorem dX7_taskItem_55 : decode cX7_taskItem 55 = .ok (.aload_n 0, 1) := by decide +kernel
theorem dX7_taskItem_56 : decode cX7_taskItem 56 = .ok (.iconst 1, 1) := by decide +kernel
theorem dX7_taskItem_57 : decode cX7_taskItem 57 = .ok (.sipush 999, 3) := by decide +kernel
theorem dX7_taskItem_60 : decode cX7_taskItem 60 = .ok (.iconst 1, 1) := by decide +kernel
theorem dX7_taskItem_61 : decode cX7_taskItem 61 = .ok (.invokevirtual 286, 3) := by decide +kernel
theorem dX7_taskItem_64 : decode cX7_taskItem 64 = .ok (.istore_n 3, 1) := by decide +kernel
theorem dX7_taskItem_65 : decode cX7_taskItem 65 = .ok (.aload_n 0, 1) := by decide +kernel
theorem dX7_taskItem_66 : decode cX7_taskItem 66 = .ok (.ldc_w 296, 3) := by decide +kernel
theorem dX7_taskItem_69 : decode cX7_taskItem 69 = .ok (.invokevirtual 269, 3) := by decide +kernel
theorem dX7_taskItem_72 : decode cX7_taskItem 72 = .ok (.ifCond .eq 20, 3) := by decide +kernel
theorem dX7_taskItem_75 : decode cX7_taskItem 75 = .ok (.aload_n 0, 1) := by decide +kernel
theorem dX7_taskItem_76 : decode cX7_taskItem 76 = .ok (.iconst 0, 1) := by decide +kernel
theorem dX7_taskItem_77 : decode cX7_taskItem 77 = .ok (.aload_n 0, 1) := by decide +kernel
theorem dX7_taskItem_78 : decode cX7_taskItem 78 = .ok (.getfield 9, 3) := by decide +kernel
theorem dX7_taskItem_81 : decode cX7_taskItem 81 = .ok (.iconst 2, 1) := by decide +kernel
theorem dX7_taskItem_82 : decode cX7_taskItem 82 = .ok (.iaload, 1) := by decide +kernel
theorem dX7_taskItem_83 : decode cX7_taskItem 83 = .ok (.iconst 1, 1) := by decide +kernel
theorem dX7_taskItem_84 : decode cX7_taskItem 84 = .ok (.isub, 1) := by decide +kernel
theorem dX7_taskItem_85 : decode cX7_taskItem 85 = .ok (.iconst 1, 1) := by decide +kernel
theorem dX7_taskItem_86 : decode cX7_taskItem 86 = .ok (.invokevirtual 286, 3) := by decide +kernel
theorem dX7_taskItem_89 : decode cX7_taskItem 89 = .ok (.goto 4, 3) := by decide +kernel
theorem dX7_taskItem_92 : decode cX7_taskItem 92 = .ok (.iconst (-1), 1) := by decide +kernel
theorem dX7_taskItem_93 : decode cX7_taskItem 93 = .ok (.istore 4, 2) := by decide +kernel
theorem dX7_taskItem_95 : decode cX7_taskItem 95 = .ok (.aload_n 0, 1) := by decide +kernel
theorem dX7_taskItem_96 : decode cX7_taskItem 96 = .ok (.getfield 249, 3) := by decide +kernel
theorem dX7_taskItem_99 : decode cX7_taskItem 99 = .ok (.ifCond .ne 12, 3) := by decide +kernel
theorem dX7_taskItem_102 : decode cX7_taskItem 102 = .ok (.aload_n 0, 1) := by decide +kernel
theorem dX7_taskItem_103 : decode cX7_taskItem 103 = .ok (.iload_n 1, 1) := by decide +kernel
theorem dX7_taskItem_104 : decode cX7_taskItem 104 = .ok (.iload_n 2, 1) := by decide +kernel
theorem dX7_taskItem_105 : decode cX7_taskItem 105 = .ok (.iload_n 3, 1) := by decide +kernel
theorem dX7_taskItem_106 : decode cX7_taskItem 106 = .ok (.iload 4, 2) := by decide +kernel
theorem dX7_taskItem_108 : decode cX7_taskItem 108 = .ok (.invokevirtual 81, 3) := by decide +kernel
theorem dX7_taskItem_111 : decode cX7_taskItem 111 = .ok (.return_, 1) := by decide +kernel
theorem dX7_personItem_0 : decode cX7_personItem 0 = .ok (.aload_n 0, 1) := by decide +kernel
theorem dX7_personItem_1 : decode cX7_personItem 1 = .ok (.aload_n 0, 1) := by decide +kernel
theorem dX7_personItem_2 : decode cX7_personItem 2 = .ok (.getfield 249, 3) := by decide +kernel
theorem dX7_personItem_5 : decode cX7_personItem 5 = .ok (.ifCond .ne 24, 3) := by decide +kernel
theorem dX7_personItem_8 : decode cX7_personItem 8 = .ok (.aload_n 0, 1) := by decide +kernel
theorem dX7_personItem_9 : decode cX7_personItem 9 = .ok (.ldc_w 298, 3) := by decide +kernel
theorem dX7_personItem_12 : decode cX7_personItem 12 = .ok (.invokevirtual 262, 3) := by decide +kernel
theorem dX7_personItem_15 : decode cX7_personItem 15 = .ok (.ifCond .eq 14, 3) := by decide +kernel
theorem dX7_personItem_18 : decode cX7_personItem 18 = .ok (.aload_n 0, 1) := by decide +kernel
theorem dX7_personItem_19 : decode cX7_personItem 19 = .ok (.getfield 9, 3) := by decide +kernel
theorem dX7_personItem_22 : decode cX7_personItem 22 = .ok (.iconst 3, 1) := by decide +kernel
theorem dX7_personItem_23 : decode cX7_personItem 23 = .ok (.iaload, 1) := by decide +kernel
theorem dX7_personItem_24 : decode cX7_personItem 24 = .ok (.bipush 8, 2) := by decide +kernel
theorem dX7_personItem_26 : decode cX7_personItem 26 = .ok (.if_icmp .ne 7, 3) := by decide +kernel
theorem dX7_personItem_29 : decode cX7_personItem 29 = .ok (.iconst 1, 1) := by decide +kernel
theorem dX7_personItem_30 : decode cX7_personItem 30 = .ok (.goto 4, 3) := by decide +kernel
theorem dX7_personItem_33 : decode cX7_personItem 33 = .ok (.iconst 0, 1) := by decide +kernel
theorem dX7_personItem_34 : decode cX7_personItem 34 = .ok (.putfield 249, 3) := by decide +kernel
theorem dX7_personItem_37 : decode cX7_personItem 37 = .ok (.aload_n 0, 1) := by decide +kernel
theorem dX7_personItem_38 : decode cX7_personItem 38 = .ok (.getfield 249, 3) := by decide +kernel
theorem dX7_personItem_41 : decode cX7_personItem 41 = .ok (.ifCond .eq 4, 3) := by decide +kernel
theorem dX7_personItem_44 : decode cX7_personItem 44 = .ok (.return_, 1) := by decide +kernel
theorem dX7_personItem_45 : decode cX7_personItem 45 = .ok (.aload_n 0, 1) := by decide +kernel
theorem dX7_personItem_46 : decode cX7_personItem 46 = .ok (.invokevirtual 266, 3) := by decide +kernel
theorem dX7_personItem_49 : decode cX7_personItem 49 = .ok (.aload_n 0, 1) := by decide +kernel
theorem dX7_personItem_50 : decode cX7_personItem 50 = .ok (.ldc_w 300, 3) := by decide +kernel
theorem dX7_personItem_53 : decode cX7_personItem 53 = .ok (.invokevirtual 269, 3) := by decide +kernel
theorem dX7_personItem_56 : decode cX7_personItem 56 = .ok (.ifCond .eq 14, 3) := by decide +kernel
theorem dX7_personItem_59 : decode cX7_personItem 59 = .ok (.aload_n 0, 1) := by decide +kernel
theorem dX7_personItem_60 : decode cX7_personItem 60 = .ok (.iconst 1, 1) := by decide +kernel
theorem dX7_personItem_61 : decode cX7_personItem 61 = .ok (.bipush 9, 2) := by decide +kernel
theorem dX7_personItem_63 : decode cX7_personItem 63 = .ok (.iconst 1, 1) := by decide +kernel
theorem dX7_personItem_64 : decode cX7_personItem 64 = .ok (.invokevirtual 286, 3) := by decide +kernel
theorem dX7_personItem_67 : decode cX7_personItem 67 = .ok (.goto 4, 3) := by decide +kernel
theorem dX7_personItem_70 : decode cX7_personItem 70 = .ok (.iconst 3, 1) := by decide +kernel
theorem dX7_personItem_71 : decode cX7_personItem 71 = .ok (.istore_n 1, 1) := by decide +kernel
theorem dX7_personItem_72 : decode cX7_personItem 72 = .ok (.aload_n 0, 1) := by decide +kernel
theorem dX7_personItem_73 : decode cX7_personItem 73 = .ok (.ldc_w 302, 3) := by decide +kernel
theorem dX7_personItem_76 : decode cX7_personItem 76 = .ok (.invokevirtual 269, 3) := by decide +kernel
theorem dX7_personItem_79 : decode cX7_personItem 79 = .ok (.ifCond .eq 14, 3) := by decide +kernel
theorem dX7_personItem_82 : decode cX7_personItem 82 = .ok (.aload_n 0, 1) := by decide +kernel
theorem dX7_personItem_83 : decode cX7_personItem 83 = .ok (.iconst 0, 1) := by decide +kernel
theorem dX7_personItem_84 : decode cX7_personItem 84 = .ok (.bipush 39, 2) := by decide +kernel
theorem dX7_personItem_86 : decode cX7_personItem 86 = .ok (.iconst 1, 1) := by decide +kernel
theorem dX7_personItem_87 : decode cX7_personItem 87 = .ok (.invokevirtual 286, 3) := by decide +kernel
theorem dX7_personItem_90 : decode cX7_personItem 90 = .ok (.goto 4, 3) := by decide +kernel
theorem dX7_personItem_93 : decode cX7_personItem 93 = .ok (.iconst 0, 1) := by decide +kernel
theorem dX7_personItem_94 : decode cX7_personItem 94 = .ok (.istore_n 2, 1) := by decide +kernel
theorem dX7_personItem_95 : decode cX7_personItem 95 = .ok (.iconst (-1), 1) := by decide +kernel
theorem dX7_personItem_96 : decode cX7_personItem 96 = .ok (.istore_n 3, 1) := by decide +kernel
theorem dX7_personItem_97 : decode cX7_personItem 97 = .ok (.aload_n 0, 1) := by decide +kernel
theorem dX7_personItem_98 : decode cX7_personItem 98 = .ok (.ldc_w 304, 3) := by decide +kernel
theorem dX7_personItem_101 : decode cX7_personItem 101 = .ok (.invokevirtual 269, 3) := by decide +kernel
theorem dX7_personItem_104 : decode cX7_personItem 104 = .ok (.ifCond .eq 37, 3) := by decide +kernel
theorem dX7_personItem_107 : decode cX7_personItem 107 = .ok (.aload_n 0, 1) := by decide +kernel
theorem dX7_personItem_108 : decode cX7_personItem 108 = .ok (.iconst 0, 1) := by decide +kernel
theorem dX7_personItem_109 : decode cX7_personItem 109 = .ok (.bipush 7, 2) := by decide +kernel
theorem dX7_personItem_111 : decode cX7_personItem 111 = .ok (.aload_n 0, 1) := by decide +kernel
theorem dX7_personItem_112 : decode cX7_personItem 112 = .ok (.getfield 243, 3) := by decide +kernel
theorem dX7_personItem_115 : decode cX7_personItem 115 = .ok (.invokestatic 66, 3) := by decide +kernel
theorem dX7_personItem_118 : decode cX7_personItem 118 = .ok (.ifCond .eq 14, 3) := by decide +kernel
theorem dX7_personItem_121 : decode cX7_personItem 121 = .ok (.aload_n 0, 1) := by decide +kernel
theorem dX7_personItem_122 : decode cX7_personItem 122 = .ok (.aload_n 0, 1) := by decide +kernel
theorem dX7_personItem_123 : decode cX7_personItem 123 = .ok (.getfield 243, 3) := by decide +kernel
theorem dX7_personItem_126 : decode cX7_personItem 126 = .ok (.invokevirtual 106, 3) := by decide +kernel
theorem dX7_personItem_129 : decode cX7_personItem 129 = .ok (.ifCond .ge 7, 3) := by decide +kernel
theorem dX7_personItem_132 : decode cX7_personItem 132 = .ok (.iconst 1, 1) := by decide +kernel
theorem dX7_personItem_133 : decode cX7_personItem 133 = .ok (.goto 4, 3) := by decide +kernel
theorem dX7_personItem_136 : decode cX7_personItem 136 = .ok (.iconst 0, 1) := by decide +kernel
theorem dX7_personItem_137 : decode cX7_personItem 137 = .ok (.invokevirtual 286, 3) := by decide +kernel
theorem dX7_personItem_140 : decode cX7_personItem 140 = .ok (.istore_n 3, 1) := by decide +kernel
theorem dX7_personItem_141 : decode cX7_personItem 141 = .ok (.aload_n 0, 1) := by decide +kernel
theorem dX7_personItem_142 : decode cX7_personItem 142 = .ok (.getfield 249, 3) := by decide +kernel
theorem dX7_personItem_145 : decode cX7_personItem 145 = .ok (.ifCond .ne 10, 3) := by decide +kernel
theorem dX7_personItem_148 : decode cX7_personItem 148 = .ok (.aload_n 0, 1) := by decide +kernel
theorem dX7_personItem_149 : decode cX7_personItem 149 = .ok (.iload_n 1, 1) := by decide +kernel
theorem dX7_personItem_150 : decode cX7_personItem 150 = .ok (.iload_n 2, 1) := by decide +kernel
theorem dX7_personItem_151 : decode cX7_personItem 151 = .ok (.iload_n 3, 1) := by decide +kernel
theorem dX7_personItem_152 : decode cX7_personItem 152 = .ok (.invokevirtual 119, 3) := by decide +kernel
theorem dX7_personItem_155 : decode cX7_personItem 155 = .ok (.return_, 1) := by decide +kernel
theorem dX7_item_0 : decode cX7_item 0 = .ok (.aload_n 0, 1) := by decide +kernel
theorem dX7_item_1 : decode cX7_item 1 = .ok (.invokevirtual 306, 3) := by decide +kernel
theorem dX7_item_4 : decode cX7_item 4 = .ok (.istore_n 1, 1) := by decide +kernel
theorem dX7_item_5 : decode cX7_item 5 = .ok (.aload_n 0, 1) := by decide +kernel
theorem dX7_item_6 : decode cX7_item 6 = .ok (.ldc_w 309, 3) := by decide +kernel
theorem dX7_item_9 : decode cX7_item 9 = .ok (.invokevirtual 269, 3) := by decide +kernel
theorem dX7_item_12 : decode cX7_item 12 = .ok (.ifCond .eq 10, 3) := by decide +kernel
theorem dX7_item_15 : decode cX7_item 15 = .ok (.aload_n 0, 1) := by decide +kernel
theorem dX7_item_16 : decode cX7_item 16 = .ok (.invokevirtual 311, 3) := by decide +kernel
theorem dX7_item_19 : decode cX7_item 19 = .ok (.goto 19, 3) := by decide +kernel
theorem dX7_item_22 : decode cX7_item 22 = .ok (.iload_n 1, 1) := by decide +kernel
theorem dX7_item_23 : decode cX7_item 23 = .ok (.ifCond .lt 11, 3) := by decide +kernel
theorem dX7_item_26 : decode cX7_item 26 = .ok (.aload_n 0, 1) := by decide +kernel
theorem dX7_item_27 : decode cX7_item 27 = .ok (.iload_n 1, 1) := by decide +kernel
theorem dX7_item_28 : decode cX7_item 28 = .ok (.invokevirtual 314, 3) := by decide +kernel
theorem dX7_item_31 : decode cX7_item 31 = .ok (.goto 7, 3) := by decide +kernel
theorem dX7_item_34 : decode cX7_item 34 = .ok (.aload_n 0, 1) := by decide +kernel
theorem dX7_item_35 : decode cX7_item 35 = .ok (.invokevirtual 317, 3) := by decide +kernel
theorem dX7_item_38 : decode cX7_item 38 = .ok (.return_, 1) := by decide +kernel
theorem dX7_text_0 : decode cX7_text 0 = .ok (.aload_n 0, 1) := by decide +kernel
theorem dX7_text_1 : decode cX7_text 1 = .ok (.getfield 9, 3) := by decide +kernel
theorem dX7_text_4 : decode cX7_text 4 = .ok (.aload_n 0, 1) := by decide +kernel
theorem dX7_text_5 : decode cX7_text 5 = .ok (.getfield 16, 3) := by decide +kernel
theorem dX7_text_8 : decode cX7_text 8 = .ok (.invokestatic 185, 3) := by decide +kernel
theorem dX7_text_11 : decode cX7_text 11 = .ok (.aload_n 0, 1) := by decide +kernel
theorem dX7_text_12 : decode cX7_text 12 = .ok (.iconst 0, 1) := by decide +kernel
theorem dX7_text_13 : decode cX7_text 13 = .ok (.putfield 233, 3) := by decide +kernel
theorem dX7_text_16 : decode cX7_text 16 = .ok (.aload_n 0, 1) := by decide +kernel
theorem dX7_text_17 : decode cX7_text 17 = .ok (.iconst 0, 1) := by decide +kernel
theorem dX7_text_18 : decode cX7_text 18 = .ok (.putfield 249, 3) := by decide +kernel
theorem dX7_text_21 : decode cX7_text 21 = .ok (.aload_n 0, 1) := by decide +kernel
theorem dX7_text_22 : decode cX7_text 22 = .ok (.invokevirtual 266, 3) := by decide +kernel
theorem dX7_text_25 : decode cX7_text 25 = .ok (.iconst 0, 1) := by decide +kernel
theorem dX7_text_26 : decode cX7_text 26 = .ok (.istore_n 1, 1) := by decide +kernel
theorem dX7_text_27 : decode cX7_text 27 = .ok (.iconst 1, 1) := by decide +kernel
theorem dX7_text_28 : decode cX7_text 28 = .ok (.istore_n 2, 1) := by decide +kernel
theorem dX7_text_29 : decode cX7_text 29 = .ok (.iload_n 2, 1) := by decide +kernel
theorem dX7_text_30 : decode cX7_text 30 = .ok (.ifCond .eq 28, 3) := by decide +kernel
theorem dX7_text_33 : decode cX7_text 33 = .ok (.aload_n 0, 1) := by decide +kernel
theorem dX7_text_34 : decode cX7_text 34 = .ok (.invokevirtual 320, 3) := by decide +kernel
theorem dX7_text_37 : decode cX7_text 37 = .ok (.iinc 1 1, 3) := by decide +kernel
theorem dX7_text_40 : decode cX7_text 40 = .ok (.aload_n 0, 1) := by decide +kernel
theorem dX7_text_41 : decode cX7_text 41 = .ok (.bipush 59, 2) := by decide +kernel
theorem dX7_text_43 : decode cX7_text 43 = .ok (.invokevirtual 323, 3) := by decide +kernel
theorem dX7_text_46 : decode cX7_text 46 = .ok (.istore_n 2, 1) := by decide +kernel
theorem dX7_text_47 : decode cX7_text 47 = .ok (.iload_n 2, 1) := by decide +kernel
theorem dX7_text_48 : decode cX7_text 48 = .ok (.ifCond .eq (-19), 3) := by decide +kernel
theorem dX7_text_51 : decode cX7_text 51 = .ok (.aload_n 0, 1) := by decide +kernel
theorem dX7_text_52 : decode cX7_text 52 = .ok (.invokevirtual 266, 3) := by decide +kernel
theorem dX7_text_55 : decode cX7_text 55 = .ok (.goto (-26), 3) := by decide +kernel
theorem dX7_text_58 : decode cX7_text 58 = .ok (.aload_n 0, 1) := by decide +kernel
theorem dX7_text_59 : decode cX7_text 59 = .ok (.aload_n 0, 1) := by decide +kernel
theorem dX7_text_60 : decode cX7_text 60 = .ok (.getfield 249, 3) := by decide +kernel
theorem dX7_text_63 : decode cX7_text 63 = .ok (.ifCond .ne 10, 3) := by decide +kernel
theorem dX7_text_66 : decode cX7_text 66 = .ok (.aload_n 0, 1) := by decide +kernel
theorem dX7_text_67 : decode cX7_text 67 = .ok (.getfield 246, 3) := by decide +kernel
theorem dX7_text_70 : decode cX7_text 70 = .ok (.ifCond .eq 7, 3) := by decide +kernel
theorem dX7_text_73 : decode cX7_text 73 = .ok (.iconst 1, 1) := by decide +kernel
theorem dX7_text_74 : decode cX7_text 74 = .ok (.goto 4, 3) := by decide +kernel
theorem dX7_text_77 : decode cX7_text 77 = .ok (.iconst 0, 1) := by decide +kernel
theorem dX7_text_78 : decode cX7_text 78 = .ok (.putfield 249, 3) := by decide +kernel
theorem dX7_text_81 : decode cX7_text 81 = .ok (.aload_n 0, 1) := by decide +kernel
theorem dX7_text_82 : decode cX7_text 82 = .ok (.getfield 236, 3) := by decide +kernel
theorem dX7_text_85 : decode cX7_text 85 = .ok (.istore_n 3, 1) := by decide +kernel
theorem dX7_text_86 : decode cX7_text 86 = .ok (.aload_n 0, 1) := by decide +kernel
theorem dX7_text_87 : decode cX7_text 87 = .ok (.iconst 0, 1) := by decide +kernel
theorem dX7_text_88 : decode cX7_text 88 = .ok (.putfield 229, 3) := by decide +kernel
theorem dX7_text_91 : decode cX7_text 91 = .ok (.aload_n 0, 1) := by decide +kernel
theorem dX7_text_92 : decode cX7_text 92 = .ok (.getfield 249, 3) := by decide +kernel
theorem dX7_text_95 : decode cX7_text 95 = .ok (.ifCond .ne 5, 3) := by decide +kernel
theorem dX7_text_98 : decode cX7_text 98 = .ok (.iload_n 1, 1) := by decide +kernel
theorem dX7_text_99 : decode cX7_text 99 = .ok (.ireturn, 1) := by decide +kernel
theorem dX7_text_100 : decode cX7_text 100 = .ok (.aload_n 0, 1) := by decide +kernel
theorem dX7_text_101 : decode cX7_text 101 = .ok (.getfield 16, 3) := by decide +kernel
theorem dX7_text_104 : decode cX7_text 104 = .ok (.aload_n 0, 1) := by decide +kernel
theorem dX7_text_105 : decode cX7_text 105 = .ok (.getfield 9, 3) := by decide +kernel
theorem dX7_text_108 : decode cX7_text 108 = .ok (.invokestatic 185, 3) := by decide +kernel
theorem dX7_text_111 : decode cX7_text 111 = .ok (.iconst (-1), 1) := by decide +kernel
theorem dX7_text_112 : decode cX7_text 112 = .ok (.iload_n 3, 1) := by decide +kernel
theorem dX7_text_113 : decode cX7_text 113 = .ok (.isub, 1) := by decide +kernel
theorem dX7_text_114 : decode cX7_text 114 = .ok (.ireturn, 1) := by decide +kernel
theorem dX7_hold_0 : decode cX7_hold 0 = .ok (.iload_n 1, 1) := by decide +kernel
theorem dX7_hold_1 : decode cX7_hold 1 = .ok (.i2l, 1) := by decide +kernel
theorem dX7_hold_2 : decode cX7_hold 2 = .ok (.lconst 0, 1) := by decide +kernel
theorem dX7_hold_3 : decode cX7_hold 3 = .ok (.ldc2_w 57, 3) := by decide +kernel
theorem dX7_hold_6 : decode cX7_hold 6 = .ok (.invokestatic 51, 3) := by decide +kernel
theorem dX7_hold_9 : decode cX7_hold 9 = .ok (.ifCond .eq 16, 3) := by decide +kernel
theorem dX7_hold_12 : decode cX7_hold 12 = .ok (.iload_n 2, 1) := by decide +kernel
theorem dX7_hold_13 : decode cX7_hold 13 = .ok (.iconst (-1), 1) := by decide +kernel
theorem dX7_hold_14 : decode cX7_hold 14 = .ok (.if_icmp .eq 18, 3) := by decide +kernel
theorem dX7_hold_17 : decode cX7_hold 17 = .ok (.aload_n 0, 1) := by decide +kernel
theorem dX7_hold_18 : decode cX7_hold 18 = .ok (.iload_n 2, 1) := by decide +kernel
theorem dX7_hold_19 : decode cX7_hold 19 = .ok (.invokevirtual 91, 3) := by decide +kernel
theorem dX7_hold_22 : decode cX7_hold 22 = .ok (.ifCond .ne 10, 3) := by decide +kernel
theorem dX7_hold_25 : decode cX7_hold 25 = .ok (.aload_n 0, 1) := by decide +kernel
theorem dX7_hold_26 : decode cX7_hold 26 = .ok (.ldc 43, 2) := by decide +kernel
theorem dX7_hold_28 : decode cX7_hold 28 = .ok (.invokevirtual 45, 3) := by decide +kernel
theorem dX7_hold_31 : decode cX7_hold 31 = .ok (.ireturn, 1) := by decide +kernel
theorem dX7_hold_32 : decode cX7_hold 32 = .ok (.aload_n 0, 1) := by decide +kernel
theorem dX7_hold_33 : decode cX7_hold 33 = .ok (.getfield 9, 3) := by decide +kernel
theorem dX7_hold_36 : decode cX7_hold 36 = .ok (.sipush 132, 3) := by decide +kernel
theorem dX7_hold_39 : decode cX7_hold 39 = .ok (.iload_n 1, 1) := by decide +kernel
theorem dX7_hold_40 : decode cX7_hold 40 = .ok (.iadd, 1) := by decide +kernel
theorem dX7_hold_41 : decode cX7_hold 41 = .ok (.iload_n 2, 1) := by decide +kernel
theorem dX7_hold_42 : decode cX7_hold 42 = .ok (.iastore, 1) := by decide +kernel
theorem dX7_hold_43 : decode cX7_hold 43 = .ok (.iconst 1, 1) := by decide +kernel
theorem dX7_hold_44 : decode cX7_hold 44 = .ok (.ireturn, 1) := by decide +kernel
theorem dX7_above_0 : decode cX7_above 0 = .ok (.iload_n 0, 1) := by decide +kernel
theorem dX7_above_1 : decode cX7_above 1 = .ok (.tableswitch 51 0 6 #[43, 51, 51, 45, 51, 47, 49], 43) := by decide +kernel
theorem dX7_above_44 : decode cX7_above 44 = .ok (.iconst (-1), 1) := by decide +kernel
theorem dX7_above_45 : decode cX7_above 45 = .ok (.ireturn, 1) := by decide +kernel
theorem dX7_above_46 : decode cX7_above 46 = .ok (.iconst 2, 1) := by decide +kernel
theorem dX7_above_47 : decode cX7_above 47 = .ok (.ireturn, 1) := by decide +kernel
theorem dX7_above_48 : decode cX7_above 48 = .ok (.iconst 4, 1) := by decide +kernel
theorem dX7_above_49 : decode cX7_above 49 = .ok (.ireturn, 1) := by decide +kernel
theorem dX7_above_50 : decode cX7_above 50 = .ok (.iconst 1, 1) := by decide +kernel
theorem dX7_above_51 : decode cX7_above 51 = .ok (.ireturn, 1) := by decide +kernel
theorem dX7_above_52 : decode cX7_above 52 = .ok (.iconst 0, 1) := by decide +kernel
theorem dX7_above_53 : decode cX7_above 53 = .ok (.ireturn, 1) := by decide +kernel
theorem dX7_as_0 : decode cX7_as 0 = .ok (.iload_n 1, 1) := by decide +kernel
theorem dX7_as_1 : decode cX7_as 1 = .ok (.i2l, 1) := by decide +kernel
theorem dX7_as_2 : decode cX7_as 2 = .ok (.lconst 0, 1) := by decide +kernel
theorem dX7_as_3 : decode cX7_as 3 = .ok (.ldc2_w 57, 3) := by decide +kernel
theorem dX7_as_6 : decode cX7_as 6 = .ok (.invokestatic 51, 3) := by decide +kernel
theorem dX7_as_9 : decode cX7_as 9 = .ok (.ifCond .eq 10, 3) := by decide +kernel
theorem dX7_as_12 : decode cX7_as 12 = .ok (.iload_n 2, 1) := by decide +kernel
theorem dX7_as_13 : decode cX7_as 13 = .ok (.invokestatic 75, 3) := by decide +kernel
theorem dX7_as_16 : decode cX7_as 16 = .ok (.ifCond .ne 10, 3) := by decide +kernel
theorem dX7_as_19 : decode cX7_as 19 = .ok (.aload_n 0, 1) := by decide +kernel
theorem dX7_as_20 : decode cX7_as 20 = .ok (.ldc 43, 2) := by decide +kernel
theorem dX7_as_22 : decode cX7_as 22 = .ok (.invokevirtual 45, 3) := by decide +kernel
theorem dX7_as_25 : decode cX7_as 25 = .ok (.ireturn, 1) := by decide +kernel
theorem dX7_as_26 : decode cX7_as 26 = .ok (.aload_n 0, 1) := by decide +kernel
theorem dX7_as_27 : decode cX7_as 27 = .ok (.getfield 9, 3) := by decide +kernel
theorem dX7_as_30 : decode cX7_as 30 = .ok (.sipush 132, 3) := by decide +kernel
theorem dX7_as_33 : decode cX7_as 33 = .ok (.iload_n 1, 1) := by decide +kernel
theorem dX7_as_34 : decode cX7_as 34 = .ok (.iadd, 1) := by decide +kernel
theorem dX7_as_35 : decode cX7_as 35 = .ok (.iaload, 1) := by decide +kernel
theorem dX7_as_36 : decode cX7_as 36 = .ok (.istore_n 3, 1) := by decide +kernel
theorem dX7_as_37 : decode cX7_as 37 = .ok (.iload_n 3, 1) := by decide +kernel
theorem dX7_as_38 : decode cX7_as 38 = .ok (.ifCond .ge 11, 3) := by decide +kernel
theorem dX7_as_41 : decode cX7_as 41 = .ok (.aload_n 0, 1) := by decide +kernel
theorem dX7_as_42 : decode cX7_as 42 = .ok (.ldc_w 326, 3) := by decide +kernel
theorem dX7_as_45 : decode cX7_as 45 = .ok (.invokevirtual 45, 3) := by decide +kernel
theorem dX7_as_48 : decode cX7_as 48 = .ok (.ireturn, 1) := by decide +kernel
theorem dX7_as_49 : decode cX7_as 49 = .ok (.aload_n 0, 1) := by decide +kernel
theorem dX7_as_50 : decode cX7_as 50 = .ok (.iload_n 3, 1) := by decide +kernel
theorem dX7_as_51 : decode cX7_as 51 = .ok (.iconst 0, 1) := by decide +kernel
theorem dX7_as_52 : decode cX7_as 52 = .ok (.invokevirtual 59, 3) := by decide +kernel
theorem dX7_as_55 : decode cX7_as 55 = .ok (.istore 4, 2) := by decide +kernel
theorem dX7_as_57 : decode cX7_as 57 = .ok (.iload 4, 2) := by decide +kernel
theorem dX7_as_59 : decode cX7_as 59 = .ok (.ifCond .lt 21, 3) := by decide +kernel
theorem dX7_as_62 : decode cX7_as 62 = .ok (.iload 4, 2) := by decide +kernel
theorem dX7_as_64 : decode cX7_as 64 = .ok (.iload_n 2, 1) := by decide +kernel
theorem dX7_as_65 : decode cX7_as 65 = .ok (.if_icmp .ne 5, 3) := by decide +kernel
theorem dX7_as_68 : decode cX7_as 68 = .ok (.iload_n 3, 1) := by decide +kernel
theorem dX7_as_69 : decode cX7_as 69 = .ok (.ireturn, 1) := by decide +kernel
theorem dX7_as_70 : decode cX7_as 70 = .ok (.iload 4, 2) := by decide +kernel
theorem dX7_as_72 : decode cX7_as 72 = .ok (.invokestatic 327, 3) := by decide +kernel
theorem dX7_as_75 : decode cX7_as 75 = .ok (.istore 4, 2) := by decide +kernel
theorem dX7_as_77 : decode cX7_as 77 = .ok (.goto (-20), 3) := by decide +kernel
theorem dX7_as_80 : decode cX7_as 80 = .ok (.aload_n 0, 1) := by decide +kernel
theorem dX7_as_81 : decode cX7_as 81 = .ok (.ldc_w 330, 3) := by decide +kernel
theorem dX7_as_84 : decode cX7_as 84 = .ok (.invokevirtual 45, 3) := by decide +kernel
theorem dX7_as_87 : decode cX7_as 87 = .ok (.ireturn, 1) := by decide +kernel
theorem dX7_isSheet_0 : decode cX7_isSheet 0 = .ok (.iload_n 0, 1) := by decide +kernel
theorem dX7_isSheet_1 : decode cX7_isSheet 1 = .ok (.i2l, 1) := by decide +kernel
theorem dX7_isSheet_2 : decode cX7_isSheet 2 = .ok (.lconst 0, 1) := by decide +kernel
theorem dX7_isSheet_3 : decode cX7_isSheet 3 = .ok (.ldc2_w 126, 3) := by decide +kernel
theorem dX7_isSheet_6 : decode cX7_isSheet 6 = .ok (.invokestatic 51, 3) := by decide +kernel
theorem dX7_isSheet_9 : decode cX7_isSheet 9 = .ok (.ireturn, 1) := by decide +kernel
theorem dX7_sheet_0 : decode cX7_sheet 0 = .ok (.iload_n 1, 1) := by decide +kernel
theorem dX7_sheet_1 : decode cX7_sheet 1 = .ok (.invokestatic 331, 3) := by decide +kernel
theorem dX7_sheet_4 : decode cX7_sheet 4 = .ok (.ifCond .eq 25, 3) := by decide +kernel
theorem dX7_sheet_7 : decode cX7_sheet 7 = .ok (.iload_n 2, 1) := by decide +kernel
theorem dX7_sheet_8 : decode cX7_sheet 8 = .ok (.ifCond .eq 28, 3) := by decide +kernel
theorem dX7_sheet_11 : decode cX7_sheet 11 = .ok (.iload_n 2, 1) := by decide +kernel
theorem dX7_sheet_12 : decode cX7_sheet 12 = .ok (.bipush 8, 2) := by decide +kernel
theorem dX7_sheet_14 : decode cX7_sheet 14 = .ok (.if_icmp .eq 22, 3) := by decide +kernel
theorem dX7_sheet_17 : decode cX7_sheet 17 = .ok (.iload_n 2, 1) := by decide +kernel
theorem dX7_sheet_18 : decode cX7_sheet 18 = .ok (.bipush 16, 2) := by decide +kernel
theorem dX7_sheet_20 : decode cX7_sheet 20 = .ok (.if_icmp .eq 16, 3) := by decide +kernel
theorem dX7_sheet_23 : decode cX7_sheet 23 = .ok (.iload_n 2, 1) := by decide +kernel
theorem dX7_sheet_24 : decode cX7_sheet 24 = .ok (.bipush 32, 2) := by decide +kernel
theorem dX7_sheet_26 : decode cX7_sheet 26 = .ok (.if_icmp .eq 10, 3) := by decide +kernel
theorem dX7_sheet_29 : decode cX7_sheet 29 = .ok (.aload_n 0, 1) := by decide +kernel
theorem dX7_sheet_30 : decode cX7_sheet 30 = .ok (.ldc 43, 2) := by decide +kernel
theorem dX7_sheet_32 : decode cX7_sheet 32 = .ok (.invokevirtual 45, 3) := by decide +kernel
theorem dX7_sheet_35 : decode cX7_sheet 35 = .ok (.ireturn, 1) := by decide +kernel
theorem dX7_sheet_36 : decode cX7_sheet 36 = .ok (.iload_n 3, 1) := by decide +kernel
theorem dX7_sheet_37 : decode cX7_sheet 37 = .ok (.ifCond .ge 10, 3) := by decide +kernel
theorem dX7_sheet_40 : decode cX7_sheet 40 = .ok (.aload_n 0, 1) := by decide +kernel
theorem dX7_sheet_41 : decode cX7_sheet 41 = .ok (.ldc 219, 2) := by decide +kernel
theorem dX7_sheet_43 : decode cX7_sheet 43 = .ok (.invokevirtual 45, 3) := by decide +kernel
theorem dX7_sheet_46 : decode cX7_sheet 46 = .ok (.ireturn, 1) := by decide +kernel
theorem dX7_sheet_47 : decode cX7_sheet 47 = .ok (.iload_n 3, 1) := by decide +kernel
theorem dX7_sheet_48 : decode cX7_sheet 48 = .ok (.bipush 40, 2) := by decide +kernel
theorem dX7_sheet_50 : decode cX7_sheet 50 = .ok (.if_icmp .le 10, 3) := by decide +kernel
theorem dX7_sheet_53 : decode cX7_sheet 53 = .ok (.aload_n 0, 1) := by decide +kernel
theorem dX7_sheet_54 : decode cX7_sheet 54 = .ok (.ldc 43, 2) := by decide +kernel
theorem dX7_sheet_56 : decode cX7_sheet 56 = .ok (.invokevirtual 45, 3) := by decide +kernel
theorem dX7_sheet_59 : decode cX7_sheet 59 = .ok (.ireturn, 1) := by decide +kernel
theorem dX7_sheet_60 : decode cX7_sheet 60 = .ok (.aload_n 0, 1) := by decide +kernel
theorem dX7_sheet_61 : decode cX7_sheet 61 = .ok (.getfield 34, 3) := by decide +kernel
theorem dX7_sheet_64 : decode cX7_sheet 64 = .ok (.iload_n 1, 1) := by decide +kernel
theorem dX7_sheet_65 : decode cX7_sheet 65 = .ok (.iload_n 2, 1) := by decide +kernel
theorem dX7_sheet_66 : decode cX7_sheet 66 = .ok (.iastore, 1) := by decide +kernel
theorem dX7_sheet_67 : decode cX7_sheet 67 = .ok (.aload_n 0, 1) := by decide +kernel
theorem dX7_sheet_68 : decode cX7_sheet 68 = .ok (.getfield 37, 3) := by decide +kernel
theorem dX7_sheet_71 : decode cX7_sheet 71 = .ok (.iload_n 1, 1) := by decide +kernel
theorem dX7_sheet_72 : decode cX7_sheet 72 = .ok (.iload_n 2, 1) := by decide +kernel
theorem dX7_sheet_73 : decode cX7_sheet 73 = .ok (.ifCond .ne 7, 3) := by decide +kernel
theorem dX7_sheet_76 : decode cX7_sheet 76 = .ok (.iconst 0, 1) := by decide +kernel
theorem dX7_sheet_77 : decode cX7_sheet 77 = .ok (.goto 4, 3) := by decide +kernel
theorem dX7_sheet_80 : decode cX7_sheet 80 = .ok (.iload_n 3, 1) := by decide +kernel
theorem dX7_sheet_81 : decode cX7_sheet 81 = .ok (.iastore, 1) := by decide +kernel
theorem dX7_sheet_82 : decode cX7_sheet 82 = .ok (.iconst 0, 1) := by decide +kernel
theorem dX7_sheet_83 : decode cX7_sheet 83 = .ok (.istore 4, 2) := by decide +kernel
theorem dX7_sheet_85 : decode cX7_sheet 85 = .ok (.iload 4, 2) := by decide +kernel
theorem dX7_sheet_87 : decode cX7_sheet 87 = .ok (.bipush 40, 2) := by decide +kernel
theorem dX7_sheet_89 : decode cX7_sheet 89 = .ok (.if_icmp .ge 22, 3) := by decide +kernel
theorem dX7_sheet_92 : decode cX7_sheet 92 = .ok (.aload_n 0, 1) := by decide +kernel
theorem dX7_sheet_93 : decode cX7_sheet 93 = .ok (.getfield 40, 3) := by decide +kernel
theorem dX7_sheet_96 : decode cX7_sheet 96 = .ok (.bipush 40, 2) := by decide +kernel
theorem dX7_sheet_98 : decode cX7_sheet 98 = .ok (.iload_n 1, 1) := by decide +kernel
theorem dX7_sheet_99 : decode cX7_sheet 99 = .ok (.imul, 1) := by decide +kernel
theorem dX7_sheet_100 : decode cX7_sheet 100 = .ok (.iload 4, 2) := by decide +kernel
theorem dX7_sheet_102 : decode cX7_sheet 102 = .ok (.iadd, 1) := by decide +kernel
theorem dX7_sheet_103 : decode cX7_sheet 103 = .ok (.iconst 0, 1) := by decide +kernel
theorem dX7_sheet_104 : decode cX7_sheet 104 = .ok (.iastore, 1) := by decide +kernel
theorem dX7_sheet_105 : decode cX7_sheet 105 = .ok (.iinc 4 1, 3) := by decide +kernel
theorem dX7_sheet_108 : decode cX7_sheet 108 = .ok (.goto (-23), 3) := by decide +kernel
theorem dX7_sheet_111 : decode cX7_sheet 111 = .ok (.aload_n 0, 1) := by decide +kernel
theorem dX7_sheet_112 : decode cX7_sheet 112 = .ok (.getfield 37, 3) := by decide +kernel
theorem dX7_sheet_115 : decode cX7_sheet 115 = .ok (.iload_n 1, 1) := by decide +kernel
theorem dX7_sheet_116 : decode cX7_sheet 116 = .ok (.iaload, 1) := by decide +kernel
theorem dX7_sheet_117 : decode cX7_sheet 117 = .ok (.ireturn, 1) := by decide +kernel
theorem dX7_write_0 : decode cX7_write 0 = .ok (.iload_n 1, 1) := by decide +kernel
theorem dX7_write_1 : decode cX7_write 1 = .ok (.invokestatic 331, 3) := by decide +kernel
theorem dX7_write_4 : decode cX7_write 4 = .ok (.ifCond .ne 10, 3) := by decide +kernel
theorem dX7_write_7 : decode cX7_write 7 = .ok (.aload_n 0, 1) := by decide +kernel
theorem dX7_write_8 : decode cX7_write 8 = .ok (.ldc 43, 2) := by decide +kernel
theorem dX7_write_10 : decode cX7_write 10 = .ok (.invokevirtual 45, 3) := by decide +kernel
theorem dX7_write_13 : decode cX7_write 13 = .ok (.ireturn, 1) := by decide +kernel
theorem dX7_write_14 : decode cX7_write 14 = .ok (.aload_n 0, 1) := by decide +kernel
theorem dX7_write_15 : decode cX7_write 15 = .ok (.getfield 34, 3) := by decide +kernel
theorem dX7_write_18 : decode cX7_write 18 = .ok (.iload_n 1, 1) := by decide +kernel
theorem dX7_write_19 : decode cX7_write 19 = .ok (.iaload, 1) := by decide +kernel
theorem dX7_write_20 : decode cX7_write 20 = .ok (.ifCond .ne 11, 3) := by decide +kernel
theorem dX7_write_23 : decode cX7_write 23 = .ok (.aload_n 0, 1) := by decide +kernel
theorem dX7_write_24 : decode cX7_write 24 = .ok (.ldc_w 326, 3) := by decide +kernel
theorem dX7_write_27 : decode cX7_write 27 = .ok (.invokevirtual 45, 3) := by decide +kernel
theorem dX7_write_30 : decode cX7_write 30 = .ok (.ireturn, 1) := by decide +kernel
theorem dX7_write_31 : decode cX7_write 31 = .ok (.iload_n 2, 1) := by decide +kernel
theorem dX7_write_32 : decode cX7_write 32 = .ok (.i2l, 1) := by decide +kernel
theorem dX7_write_33 : decode cX7_write 33 = .ok (.lconst 0, 1) := by decide +kernel
theorem dX7_write_34 : decode cX7_write 34 = .ok (.aload_n 0, 1) := by decide +kernel
theorem dX7_write_35 : decode cX7_write 35 = .ok (.getfield 37, 3) := by decide +kernel
theorem dX7_write_38 : decode cX7_write 38 = .ok (.iload_n 1, 1) := by decide +kernel
theorem dX7_write_39 : decode cX7_write 39 = .ok (.iaload, 1) := by decide +kernel
theorem dX7_write_40 : decode cX7_write 40 = .ok (.iconst 1, 1) := by decide +kernel
theorem dX7_write_41 : decode cX7_write 41 = .ok (.isub, 1) := by decide +kernel
theorem dX7_write_42 : decode cX7_write 42 = .ok (.i2l, 1) := by decide +kernel
theorem dX7_write_43 : decode cX7_write 43 = .ok (.invokestatic 51, 3) := by decide +kernel
theorem dX7_write_46 : decode cX7_write 46 = .ok (.ifCond .ne 10, 3) := by decide +kernel
theorem dX7_write_49 : decode cX7_write 49 = .ok (.aload_n 0, 1) := by decide +kernel
theorem dX7_write_50 : decode cX7_write 50 = .ok (.ldc 43, 2) := by decide +kernel
theorem dX7_write_52 : decode cX7_write 52 = .ok (.invokevirtual 45, 3) := by decide +kernel
theorem dX7_write_55 : decode cX7_write 55 = .ok (.ireturn, 1) := by decide +kernel
theorem dX7_write_56 : decode cX7_write 56 = .ok (.aload_n 0, 1) := by decide +kernel
theorem dX7_write_57 : decode cX7_write 57 = .ok (.getfield 40, 3) := by decide +kernel
theorem dX7_write_60 : decode cX7_write 60 = .ok (.bipush 40, 2) := by decide +kernel
theorem dX7_write_62 : decode cX7_write 62 = .ok (.iload_n 1, 1) := by decide +kernel
theorem dX7_write_63 : decode cX7_write 63 = .ok (.imul, 1) := by decide +kernel
theorem dX7_write_64 : decode cX7_write 64 = .ok (.iload_n 2, 1) := by decide +kernel
theorem dX7_write_65 : decode cX7_write 65 = .ok (.iadd, 1) := by decide +kernel
theorem dX7_write_66 : decode cX7_write 66 = .ok (.aload_n 0, 1) := by decide +kernel
theorem dX7_write_67 : decode cX7_write 67 = .ok (.getfield 34, 3) := by decide +kernel
theorem dX7_write_70 : decode cX7_write 70 = .ok (.iload_n 1, 1) := by decide +kernel
theorem dX7_write_71 : decode cX7_write 71 = .ok (.iaload, 1) := by decide +kernel
theorem dX7_write_72 : decode cX7_write 72 = .ok (.bipush 8, 2) := by decide +kernel
theorem dX7_write_74 : decode cX7_write 74 = .ok (.if_icmp .ne 8, 3) := by decide +kernel
theorem dX7_write_77 : decode cX7_write 77 = .ok (.iload_n 3, 1) := by decide +kernel
theorem dX7_write_78 : decode cX7_write 78 = .ok (.i2b, 1) := by decide +kernel
theorem dX7_write_79 : decode cX7_write 79 = .ok (.goto 20, 3) := by decide +kernel
theorem dX7_write_82 : decode cX7_write 82 = .ok (.aload_n 0, 1) := by decide +kernel
theorem dX7_write_83 : decode cX7_write 83 = .ok (.getfield 34, 3) := by decide +kernel
theorem dX7_write_86 : decode cX7_write 86 = .ok (.iload_n 1, 1) := by decide +kernel
theorem dX7_write_87 : decode cX7_write 87 = .ok (.iaload, 1) := by decide +kernel
theorem dX7_write_88 : decode cX7_write 88 = .ok (.bipush 16, 2) := by decide +kernel
theorem dX7_write_90 : decode cX7_write 90 = .ok (.if_icmp .ne 8, 3) := by decide +kernel
theorem dX7_write_93 : decode cX7_write 93 = .ok (.iload_n 3, 1) := by decide +kernel
theorem dX7_write_94 : decode cX7_write 94 = .ok (.i2s, 1) := by decide +kernel
theorem dX7_write_95 : decode cX7_write 95 = .ok (.goto 4, 3) := by decide +kernel
theorem dX7_write_98 : decode cX7_write 98 = .ok (.iload_n 3, 1) := by decide +kernel
theorem dX7_write_99 : decode cX7_write 99 = .ok (.iastore, 1) := by decide +kernel
theorem dX7_write_100 : decode cX7_write 100 = .ok (.iconst 1, 1) := by decide +kernel
theorem dX7_write_101 : decode cX7_write 101 = .ok (.ireturn, 1) := by decide +kernel
theorem dX7_copy_0 : decode cX7_copy 0 = .ok (.iload_n 1, 1) := by decide +kernel
theorem dX7_copy_1 : decode cX7_copy 1 = .ok (.invokestatic 331, 3) := by decide +kernel
theorem dX7_copy_4 : decode cX7_copy 4 = .ok (.ifCond .eq 10, 3) := by decide +kernel
theorem dX7_copy_7 : decode cX7_copy 7 = .ok (.iload_n 3, 1) := by decide +kernel
theorem dX7_copy_8 : decode cX7_copy 8 = .ok (.invokestatic 331, 3) := by decide +kernel
theorem dX7_copy_11 : decode cX7_copy 11 = .ok (.ifCond .ne 10, 3) := by decide +kernel
theorem dX7_copy_14 : decode cX7_copy 14 = .ok (.aload_n 0, 1) := by decide +kernel
theorem dX7_copy_15 : decode cX7_copy 15 = .ok (.ldc 43, 2) := by decide +kernel
theorem dX7_copy_17 : decode cX7_copy 17 = .ok (.invokevirtual 45, 3) := by decide +kernel
theorem dX7_copy_20 : decode cX7_copy 20 = .ok (.ireturn, 1) := by decide +kernel
theorem dX7_copy_21 : decode cX7_copy 21 = .ok (.aload_n 0, 1) := by decide +kernel
theorem dX7_copy_22 : decode cX7_copy 22 = .ok (.getfield 34, 3) := by decide +kernel
theorem dX7_copy_25 : decode cX7_copy 25 = .ok (.iload_n 1, 1) := by decide +kernel
theorem dX7_copy_26 : decode cX7_copy 26 = .ok (.iaload, 1) := by decide +kernel
theorem dX7_copy_27 : decode cX7_copy 27 = .ok (.ifCond .eq 12, 3) := by decide +kernel
theorem dX7_copy_30 : decode cX7_copy 30 = .ok (.aload_n 0, 1) := by decide +kernel
theorem dX7_copy_31 : decode cX7_copy 31 = .ok (.getfield 34, 3) := by decide +kernel
theorem dX7_copy_34 : decode cX7_copy 34 = .ok (.iload_n 3, 1) := by decide +kernel
theorem dX7_copy_35 : decode cX7_copy 35 = .ok (.iaload, 1) := by decide +kernel
theorem dX7_copy_36 : decode cX7_copy 36 = .ok (.ifCond .ne 11, 3) := by decide +kernel
theorem dX7_copy_39 : decode cX7_copy 39 = .ok (.aload_n 0, 1) := by decide +kernel
theorem dX7_copy_40 : decode cX7_copy 40 = .ok (.ldc_w 326, 3) := by decide +kernel
theorem dX7_copy_43 : decode cX7_copy 43 = .ok (.invokevirtual 45, 3) := by decide +kernel
theorem dX7_copy_46 : decode cX7_copy 46 = .ok (.ireturn, 1) := by decide +kernel
theorem dX7_copy_47 : decode cX7_copy 47 = .ok (.aload_n 0, 1) := by decide +kernel
theorem dX7_copy_48 : decode cX7_copy 48 = .ok (.getfield 34, 3) := by decide +kernel
theorem dX7_copy_51 : decode cX7_copy 51 = .ok (.iload_n 1, 1) := by decide +kernel
theorem dX7_copy_52 : decode cX7_copy 52 = .ok (.iaload, 1) := by decide +kernel
theorem dX7_copy_53 : decode cX7_copy 53 = .ok (.aload_n 0, 1) := by decide +kernel
theorem dX7_copy_54 : decode cX7_copy 54 = .ok (.getfield 34, 3) := by decide +kernel
theorem dX7_copy_57 : decode cX7_copy 57 = .ok (.iload_n 3, 1) := by decide +kernel
theorem dX7_copy_58 : decode cX7_copy 58 = .ok (.iaload, 1) := by decide +kernel
theorem dX7_copy_59 : decode cX7_copy 59 = .ok (.if_icmp .eq 11, 3) := by decide +kernel
theorem dX7_copy_62 : decode cX7_copy 62 = .ok (.aload_n 0, 1) := by decide +kernel
theorem dX7_copy_63 : decode cX7_copy 63 = .ok (.ldc_w 330, 3) := by decide +kernel
theorem dX7_copy_66 : decode cX7_copy 66 = .ok (.invokevirtual 45, 3) := by decide +kernel
theorem dX7_copy_69 : decode cX7_copy 69 = .ok (.ireturn, 1) := by decide +kernel
theorem dX7_copy_70 : decode cX7_copy 70 = .ok (.iload 5, 2) := by decide +kernel
theorem dX7_copy_72 : decode cX7_copy 72 = .ok (.ifCond .lt 39, 3) := by decide +kernel
theorem dX7_copy_75 : decode cX7_copy 75 = .ok (.iload_n 2, 1) := by decide +kernel
theorem dX7_copy_76 : decode cX7_copy 76 = .ok (.ifCond .lt 35, 3) := by decide +kernel
theorem dX7_copy_79 : decode cX7_copy 79 = .ok (.iload 4, 2) := by decide +kernel
theorem dX7_copy_81 : decode cX7_copy 81 = .ok (.ifCond .lt 30, 3) := by decide +kernel
theorem dX7_copy_84 : decode cX7_copy 84 = .ok (.iload 5, 2) := by decide +kernel
theorem dX7_copy_86 : decode cX7_copy 86 = .ok (.aload_n 0, 1) := by decide +kernel
theorem dX7_copy_87 : decode cX7_copy 87 = .ok (.getfield 37, 3) := by decide +kernel
theorem dX7_copy_90 : decode cX7_copy 90 = .ok (.iload_n 1, 1) := by decide +kernel
theorem dX7_copy_91 : decode cX7_copy 91 = .ok (.iaload, 1) := by decide +kernel
theorem dX7_copy_92 : decode cX7_copy 92 = .ok (.iload_n 2, 1) := by decide +kernel
theorem dX7_copy_93 : decode cX7_copy 93 = .ok (.isub, 1) := by decide +kernel
theorem dX7_copy_94 : decode cX7_copy 94 = .ok (.if_icmp .gt 17, 3) := by decide +kernel
theorem dX7_copy_97 : decode cX7_copy 97 = .ok (.iload 5, 2) := by decide +kernel
theorem dX7_copy_99 : decode cX7_copy 99 = .ok (.aload_n 0, 1) := by decide +kernel
theorem dX7_copy_100 : decode cX7_copy 100 = .ok (.getfield 37, 3) := by decide +kernel
theorem dX7_copy_103 : decode cX7_copy 103 = .ok (.iload_n 3, 1) := by decide +kernel
theorem dX7_copy_104 : decode cX7_copy 104 = .ok (.iaload, 1) := by decide +kernel
theorem dX7_copy_105 : decode cX7_copy 105 = .ok (.iload 4, 2) := by decide +kernel
theorem dX7_copy_107 : decode cX7_copy 107 = .ok (.isub, 1) := by decide +kernel
theorem dX7_copy_108 : decode cX7_copy 108 = .ok (.if_icmp .le 10, 3) := by decide +kernel
theorem dX7_copy_111 : decode cX7_copy 111 = .ok (.aload_n 0, 1) := by decide +kernel
theorem dX7_copy_112 : decode cX7_copy 112 = .ok (.ldc 43, 2) := by decide +kernel
theorem dX7_copy_114 : decode cX7_copy 114 = .ok (.invokevirtual 45, 3) := by decide +kernel
theorem dX7_copy_117 : decode cX7_copy 117 = .ok (.ireturn, 1) := by decide +kernel
theorem dX7_copy_118 : decode cX7_copy 118 = .ok (.iload_n 1, 1) := by decide +kernel
theorem dX7_copy_119 : decode cX7_copy 119 = .ok (.iload_n 3, 1) := by decide +kernel
theorem dX7_copy_120 : decode cX7_copy 120 = .ok (.if_icmp .ne 13, 3) := by decide +kernel
theorem dX7_copy_123 : decode cX7_copy 123 = .ok (.iload_n 2, 1) := by decide +kernel
theorem dX7_copy_124 : decode cX7_copy 124 = .ok (.iload 4, 2) := by decide +kernel
theorem dX7_copy_126 : decode cX7_copy 126 = .ok (.if_icmp .ge 7, 3) := by decide +kernel
theorem dX7_copy_129 : decode cX7_copy 129 = .ok (.iconst 1, 1) := by decide +kernel
theorem dX7_copy_130 : decode cX7_copy 130 = .ok (.goto 4, 3) := by decide +kernel
theorem dX7_copy_133 : decode cX7_copy 133 = .ok (.iconst 0, 1) := by decide +kernel
theorem dX7_copy_134 : decode cX7_copy 134 = .ok (.istore 6, 2) := by decide +kernel
theorem dX7_copy_136 : decode cX7_copy 136 = .ok (.iconst 0, 1) := by decide +kernel
theorem dX7_copy_137 : decode cX7_copy 137 = .ok (.istore 7, 2) := by decide +kernel
theorem dX7_copy_139 : decode cX7_copy 139 = .ok (.iload 7, 2) := by decide +kernel
theorem dX7_copy_141 : decode cX7_copy 141 = .ok (.iload 5, 2) := by decide +kernel
theorem dX7_copy_143 : decode cX7_copy 143 = .ok (.if_icmp .ge 57, 3) := by decide +kernel
theorem dX7_copy_146 : decode cX7_copy 146 = .ok (.iload 6, 2) := by decide +kernel
theorem dX7_copy_148 : decode cX7_copy 148 = .ok (.ifCond .eq 13, 3) := by decide +kernel
theorem dX7_copy_151 : decode cX7_copy 151 = .ok (.iload 5, 2) := by decide +kernel
theorem dX7_copy_153 : decode cX7_copy 153 = .ok (.iconst 1, 1) := by decide +kernel
theorem dX7_copy_154 : decode cX7_copy 154 = .ok (.isub, 1) := by decide +kernel
theorem dX7_copy_155 : decode cX7_copy 155 = .ok (.iload 7, 2) := by decide +kernel
theorem dX7_copy_157 : decode cX7_copy 157 = .ok (.isub, 1) := by decide +kernel
theorem dX7_copy_158 : decode cX7_copy 158 = .ok (.goto 5, 3) := by decide +kernel
theorem dX7_copy_161 : decode cX7_copy 161 = .ok (.iload 7, 2) := by decide +kernel
theorem dX7_copy_163 : decode cX7_copy 163 = .ok (.istore 8, 2) := by decide +kernel
theorem dX7_copy_165 : decode cX7_copy 165 = .ok (.aload_n 0, 1) := by decide +kernel
theorem dX7_copy_166 : decode cX7_copy 166 = .ok (.getfield 40, 3) := by decide +kernel
theorem dX7_copy_169 : decode cX7_copy 169 = .ok (.bipush 40, 2) := by decide +kernel
theorem dX7_copy_171 : decode cX7_copy 171 = .ok (.iload_n 3, 1) := by decide +kernel
theorem dX7_copy_172 : decode cX7_copy 172 = .ok (.imul, 1) := by decide +kernel
theorem dX7_copy_173 : decode cX7_copy 173 = .ok (.iload 4, 2) := by decide +kernel
theorem dX7_copy_175 : decode cX7_copy 175 = .ok (.iadd, 1) := by decide +kernel
theorem dX7_copy_176 : decode cX7_copy 176 = .ok (.iload 8, 2) := by decide +kernel
theorem dX7_copy_178 : decode cX7_copy 178 = .ok (.iadd, 1) := by decide +kernel
theorem dX7_copy_179 : decode cX7_copy 179 = .ok (.aload_n 0, 1) := by decide +kernel
theorem dX7_copy_180 : decode cX7_copy 180 = .ok (.getfield 40, 3) := by decide +kernel
theorem dX7_copy_183 : decode cX7_copy 183 = .ok (.bipush 40, 2) := by decide +kernel
theorem dX7_copy_185 : decode cX7_copy 185 = .ok (.iload_n 1, 1) := by decide +kernel
theorem dX7_copy_186 : decode cX7_copy 186 = .ok (.imul, 1) := by decide +kernel
theorem dX7_copy_187 : decode cX7_copy 187 = .ok (.iload_n 2, 1) := by decide +kernel
theorem dX7_copy_188 : decode cX7_copy 188 = .ok (.iadd, 1) := by decide +kernel
theorem dX7_copy_189 : decode cX7_copy 189 = .ok (.iload 8, 2) := by decide +kernel
theorem dX7_copy_191 : decode cX7_copy 191 = .ok (.iadd, 1) := by decide +kernel
theorem dX7_copy_192 : decode cX7_copy 192 = .ok (.iaload, 1) := by decide +kernel
theorem dX7_copy_193 : decode cX7_copy 193 = .ok (.iastore, 1) := by decide +kernel
theorem dX7_copy_194 : decode cX7_copy 194 = .ok (.iinc 7 1, 3) := by decide +kernel
theorem dX7_copy_197 : decode cX7_copy 197 = .ok (.goto (-58), 3) := by decide +kernel
theorem dX7_copy_200 : decode cX7_copy 200 = .ok (.iload 5, 2) := by decide +kernel
theorem dX7_copy_202 : decode cX7_copy 202 = .ok (.ireturn, 1) := by decide +kernel
theorem dX7_load_0 : decode cX7_load 0 = .ok (.iload_n 1, 1) := by decide +kernel
theorem dX7_load_1 : decode cX7_load 1 = .ok (.invokestatic 331, 3) := by decide +kernel
theorem dX7_load_4 : decode cX7_load 4 = .ok (.ifCond .ne 10, 3) := by decide +kernel
theorem dX7_load_7 : decode cX7_load 7 = .ok (.aload_n 0, 1) := by decide +kernel
theorem dX7_load_8 : decode cX7_load 8 = .ok (.ldc 43, 2) := by decide +kernel
theorem dX7_load_10 : decode cX7_load 10 = .ok (.invokevirtual 45, 3) := by decide +kernel
theorem dX7_load_13 : decode cX7_load 13 = .ok (.ireturn, 1) := by decide +kernel
theorem dX7_load_14 : decode cX7_load 14 = .ok (.aload_n 0, 1) := by decide +kernel
theorem dX7_load_15 : decode cX7_load 15 = .ok (.getfield 34, 3) := by decide +kernel
theorem dX7_load_18 : decode cX7_load 18 = .ok (.iload_n 1, 1) := by decide +kernel
theorem dX7_load_19 : decode cX7_load 19 = .ok (.iaload, 1) := by decide +kernel
theorem dX7_load_20 : decode cX7_load 20 = .ok (.ifCond .ne 11, 3) := by decide +kernel
theorem dX7_load_23 : decode cX7_load 23 = .ok (.aload_n 0, 1) := by decide +kernel
theorem dX7_load_24 : decode cX7_load 24 = .ok (.ldc_w 326, 3) := by decide +kernel
theorem dX7_load_27 : decode cX7_load 27 = .ok (.invokevirtual 45, 3) := by decide +kernel
theorem dX7_load_30 : decode cX7_load 30 = .ok (.ireturn, 1) := by decide +kernel
theorem dX7_load_31 : decode cX7_load 31 = .ok (.iconst 0, 1) := by decide +kernel
theorem dX7_load_32 : decode cX7_load 32 = .ok (.istore_n 2, 1) := by decide +kernel
theorem dX7_load_33 : decode cX7_load 33 = .ok (.iload_n 2, 1) := by decide +kernel
theorem dX7_load_34 : decode cX7_load 34 = .ok (.aload_n 0, 1) := by decide +kernel
theorem dX7_load_35 : decode cX7_load 35 = .ok (.getfield 37, 3) := by decide +kernel
theorem dX7_load_38 : decode cX7_load 38 = .ok (.iload_n 1, 1) := by decide +kernel
theorem dX7_load_39 : decode cX7_load 39 = .ok (.iaload, 1) := by decide +kernel
theorem dX7_load_40 : decode cX7_load 40 = .ok (.if_icmp .ge 50, 3) := by decide +kernel
theorem dX7_load_43 : decode cX7_load 43 = .ok (.aload_n 0, 1) := by decide +kernel
theorem dX7_load_44 : decode cX7_load 44 = .ok (.iload_n 2, 1) := by decide +kernel
theorem dX7_load_45 : decode cX7_load 45 = .ok (.aload_n 0, 1) := by decide +kernel
theorem dX7_load_46 : decode cX7_load 46 = .ok (.getfield 40, 3) := by decide +kernel
theorem dX7_load_49 : decode cX7_load 49 = .ok (.bipush 40, 2) := by decide +kernel
theorem dX7_load_51 : decode cX7_load 51 = .ok (.iload_n 1, 1) := by decide +kernel
theorem dX7_load_52 : decode cX7_load 52 = .ok (.imul, 1) := by decide +kernel
theorem dX7_load_53 : decode cX7_load 53 = .ok (.iload_n 2, 1) := by decide +kernel
theorem dX7_load_54 : decode cX7_load 54 = .ok (.iadd, 1) := by decide +kernel
theorem dX7_load_55 : decode cX7_load 55 = .ok (.iaload, 1) := by decide +kernel
theorem dX7_load_56 : decode cX7_load 56 = .ok (.invokevirtual 131, 3) := by decide +kernel
theorem dX7_load_59 : decode cX7_load 59 = .ok (.ifCond .ne 31, 3) := by decide +kernel
theorem dX7_load_62 : decode cX7_load 62 = .ok (.aload_n 0, 1) := by decide +kernel
theorem dX7_load_63 : decode cX7_load 63 = .ok (.getfield 9, 3) := by decide +kernel
theorem dX7_load_66 : decode cX7_load 66 = .ok (.bipush 100, 2) := by decide +kernel
theorem dX7_load_68 : decode cX7_load 68 = .ok (.iconst 4, 1) := by decide +kernel
theorem dX7_load_69 : decode cX7_load 69 = .ok (.iload_n 2, 1) := by decide +kernel
theorem dX7_load_70 : decode cX7_load 70 = .ok (.imul, 1) := by decide +kernel
theorem dX7_load_71 : decode cX7_load 71 = .ok (.iadd, 1) := by decide +kernel
theorem dX7_load_72 : decode cX7_load 72 = .ok (.aload_n 0, 1) := by decide +kernel
theorem dX7_load_73 : decode cX7_load 73 = .ok (.getfield 40, 3) := by decide +kernel
theorem dX7_load_76 : decode cX7_load 76 = .ok (.bipush 40, 2) := by decide +kernel
theorem dX7_load_78 : decode cX7_load 78 = .ok (.iload_n 1, 1) := by decide +kernel
theorem dX7_load_79 : decode cX7_load 79 = .ok (.imul, 1) := by decide +kernel
theorem dX7_load_80 : decode cX7_load 80 = .ok (.iload_n 2, 1) := by decide +kernel
theorem dX7_load_81 : decode cX7_load 81 = .ok (.iadd, 1) := by decide +kernel
theorem dX7_load_82 : decode cX7_load 82 = .ok (.iaload, 1) := by decide +kernel
theorem dX7_load_83 : decode cX7_load 83 = .ok (.iastore, 1) := by decide +kernel
theorem dX7_load_84 : decode cX7_load 84 = .ok (.iinc 2 1, 3) := by decide +kernel
theorem dX7_load_87 : decode cX7_load 87 = .ok (.goto (-54), 3) := by decide +kernel
theorem dX7_load_90 : decode cX7_load 90 = .ok (.iload_n 2, 1) := by decide +kernel
theorem dX7_load_91 : decode cX7_load 91 = .ok (.ireturn, 1) := by decide +kernel
theorem dX7_judge_0 : decode cX7_judge 0 = .ok (.iload_n 1, 1) := by decide +kernel
theorem dX7_judge_1 : decode cX7_judge 1 = .ok (.invokestatic 331, 3) := by decide +kernel
theorem dX7_judge_4 : decode cX7_judge 4 = .ok (.ifCond .ne 10, 3) := by decide +kernel
theorem dX7_judge_7 : decode cX7_judge 7 = .ok (.aload_n 0, 1) := by decide +kernel
theorem dX7_judge_8 : decode cX7_judge 8 = .ok (.ldc 43, 2) := by decide +kernel
theorem dX7_judge_10 : decode cX7_judge 10 = .ok (.invokevirtual 45, 3) := by decide +kernel
theorem dX7_judge_13 : decode cX7_judge 13 = .ok (.ireturn, 1) := by decide +kernel
theorem dX7_judge_14 : decode cX7_judge 14 = .ok (.aload_n 0, 1) := by decide +kernel
theorem dX7_judge_15 : decode cX7_judge 15 = .ok (.getfield 34, 3) := by decide +kernel
theorem dX7_judge_18 : decode cX7_judge 18 = .ok (.iload_n 1, 1) := by decide +kernel
theorem dX7_judge_19 : decode cX7_judge 19 = .ok (.iaload, 1) := by decide +kernel
theorem dX7_judge_20 : decode cX7_judge 20 = .ok (.ifCond .ne 11, 3) := by decide +kernel
theorem dX7_judge_23 : decode cX7_judge 23 = .ok (.aload_n 0, 1) := by decide +kernel
theorem dX7_judge_24 : decode cX7_judge 24 = .ok (.ldc_w 326, 3) := by decide +kernel
theorem dX7_judge_27 : decode cX7_judge 27 = .ok (.invokevirtual 45, 3) := by decide +kernel
theorem dX7_judge_30 : decode cX7_judge 30 = .ok (.ireturn, 1) := by decide +kernel
theorem dX7_judge_31 : decode cX7_judge 31 = .ok (.iload_n 2, 1) := by decide +kernel
theorem dX7_judge_32 : decode cX7_judge 32 = .ok (.i2l, 1) := by decide +kernel
theorem dX7_judge_33 : decode cX7_judge 33 = .ok (.lconst 0, 1) := by decide +kernel
theorem dX7_judge_34 : decode cX7_judge 34 = .ok (.ldc2_w 170, 3) := by decide +kernel
theorem dX7_judge_37 : decode cX7_judge 37 = .ok (.invokestatic 51, 3) := by decide +kernel
theorem dX7_judge_40 : decode cX7_judge 40 = .ok (.ifCond .ne 10, 3) := by decide +kernel
theorem dX7_judge_43 : decode cX7_judge 43 = .ok (.aload_n 0, 1) := by decide +kernel
theorem dX7_judge_44 : decode cX7_judge 44 = .ok (.ldc 43, 2) := by decide +kernel
theorem dX7_judge_46 : decode cX7_judge 46 = .ok (.invokevirtual 45, 3) := by decide +kernel
theorem dX7_judge_49 : decode cX7_judge 49 = .ok (.ireturn, 1) := by decide +kernel
theorem dX7_judge_50 : decode cX7_judge 50 = .ok (.aload_n 0, 1) := by decide +kernel
theorem dX7_judge_51 : decode cX7_judge 51 = .ok (.iload_n 2, 1) := by decide +kernel
theorem dX7_judge_52 : decode cX7_judge 52 = .ok (.invokevirtual 172, 3) := by decide +kernel
theorem dX7_judge_55 : decode cX7_judge 55 = .ok (.ifCond .eq 10, 3) := by decide +kernel
theorem dX7_judge_58 : decode cX7_judge 58 = .ok (.aload_n 0, 1) := by decide +kernel
theorem dX7_judge_59 : decode cX7_judge 59 = .ok (.ldc 130, 2) := by decide +kernel
theorem dX7_judge_61 : decode cX7_judge 61 = .ok (.invokevirtual 45, 3) := by decide +kernel
theorem dX7_judge_64 : decode cX7_judge 64 = .ok (.ireturn, 1) := by decide +kernel
theorem dX7_judge_65 : decode cX7_judge 65 = .ok (.aload_n 0, 1) := by decide +kernel
theorem dX7_judge_66 : decode cX7_judge 66 = .ok (.getfield 9, 3) := by decide +kernel
theorem dX7_judge_69 : decode cX7_judge 69 = .ok (.aload_n 0, 1) := by decide +kernel
theorem dX7_judge_70 : decode cX7_judge 70 = .ok (.getfield 16, 3) := by decide +kernel
theorem dX7_judge_73 : decode cX7_judge 73 = .ok (.invokestatic 185, 3) := by decide +kernel
theorem dX7_judge_76 : decode cX7_judge 76 = .ok (.aload_n 0, 1) := by decide +kernel
theorem dX7_judge_77 : decode cX7_judge 77 = .ok (.iload_n 2, 1) := by decide +kernel
theorem dX7_judge_78 : decode cX7_judge 78 = .ok (.invokevirtual 178, 3) := by decide +kernel
theorem dX7_judge_81 : decode cX7_judge 81 = .ok (.iconst 0, 1) := by decide +kernel
theorem dX7_judge_82 : decode cX7_judge 82 = .ok (.istore_n 3, 1) := by decide +kernel
theorem dX7_judge_83 : decode cX7_judge 83 = .ok (.iload_n 3, 1) := by decide +kernel
theorem dX7_judge_84 : decode cX7_judge 84 = .ok (.aload_n 0, 1) := by decide +kernel
theorem dX7_judge_85 : decode cX7_judge 85 = .ok (.getfield 37, 3) := by decide +kernel
theorem dX7_judge_88 : decode cX7_judge 88 = .ok (.iload_n 1, 1) := by decide +kernel
theorem dX7_judge_89 : decode cX7_judge 89 = .ok (.iaload, 1) := by decide +kernel
theorem dX7_judge_90 : decode cX7_judge 90 = .ok (.if_icmp .ge 39, 3) := by decide +kernel
theorem dX7_judge_93 : decode cX7_judge 93 = .ok (.iload_n 3, 1) := by decide +kernel
theorem dX7_judge_94 : decode cX7_judge 94 = .ok (.aload_n 0, 1) := by decide +kernel
theorem dX7_judge_95 : decode cX7_judge 95 = .ok (.getfield 9, 3) := by decide +kernel
theorem dX7_judge_98 : decode cX7_judge 98 = .ok (.iconst 2, 1) := by decide +kernel
theorem dX7_judge_99 : decode cX7_judge 99 = .ok (.iaload, 1) := by decide +kernel
theorem dX7_judge_100 : decode cX7_judge 100 = .ok (.if_icmp .ge 29, 3) := by decide +kernel
theorem dX7_judge_103 : decode cX7_judge 103 = .ok (.aload_n 0, 1) := by decide +kernel
theorem dX7_judge_104 : decode cX7_judge 104 = .ok (.getfield 40, 3) := by decide +kernel
theorem dX7_judge_107 : decode cX7_judge 107 = .ok (.bipush 40, 2) := by decide +kernel
theorem dX7_judge_109 : decode cX7_judge 109 = .ok (.iload_n 1, 1) := by decide +kernel
theorem dX7_judge_110 : decode cX7_judge 110 = .ok (.imul, 1) := by decide +kernel
theorem dX7_judge_111 : decode cX7_judge 111 = .ok (.iload_n 3, 1) := by decide +kernel
theorem dX7_judge_112 : decode cX7_judge 112 = .ok (.iadd, 1) := by decide +kernel
theorem dX7_judge_113 : decode cX7_judge 113 = .ok (.iaload, 1) := by decide +kernel
theorem dX7_judge_114 : decode cX7_judge 114 = .ok (.aload_n 0, 1) := by decide +kernel
theorem dX7_judge_115 : decode cX7_judge 115 = .ok (.iload_n 3, 1) := by decide +kernel
theorem dX7_judge_116 : decode cX7_judge 116 = .ok (.iconst 2, 1) := by decide +kernel
theorem dX7_judge_117 : decode cX7_judge 117 = .ok (.invokevirtual 59, 3) := by decide +kernel
theorem dX7_judge_120 : decode cX7_judge 120 = .ok (.if_icmp .ne 9, 3) := by decide +kernel
theorem dX7_judge_123 : decode cX7_judge 123 = .ok (.iinc 3 1, 3) := by decide +kernel
theorem dX7_judge_126 : decode cX7_judge 126 = .ok (.goto (-43), 3) := by decide +kernel
theorem dX7_judge_129 : decode cX7_judge 129 = .ok (.iload_n 3, 1) := by decide +kernel
theorem dX7_judge_130 : decode cX7_judge 130 = .ok (.aload_n 0, 1) := by decide +kernel
theorem dX7_judge_131 : decode cX7_judge 131 = .ok (.getfield 37, 3) := by decide +kernel
theorem dX7_judge_134 : decode cX7_judge 134 = .ok (.iload_n 1, 1) := by decide +kernel
theorem dX7_judge_135 : decode cX7_judge 135 = .ok (.iaload, 1) := by decide +kernel
theorem dX7_judge_136 : decode cX7_judge 136 = .ok (.if_icmp .ne 17, 3) := by decide +kernel
theorem dX7_judge_139 : decode cX7_judge 139 = .ok (.iload_n 3, 1) := by decide +kernel
theorem dX7_judge_140 : decode cX7_judge 140 = .ok (.aload_n 0, 1) := by decide +kernel
theorem dX7_judge_141 : decode cX7_judge 141 = .ok (.getfield 9, 3) := by decide +kernel
theorem dX7_judge_144 : decode cX7_judge 144 = .ok (.iconst 2, 1) := by decide +kernel
theorem dX7_judge_145 : decode cX7_judge 145 = .ok (.iaload, 1) := by decide +kernel
theorem dX7_judge_146 : decode cX7_judge 146 = .ok (.if_icmp .ne 7, 3) := by decide +kernel
theorem dX7_judge_149 : decode cX7_judge 149 = .ok (.iconst 1, 1) := by decide +kernel
theorem dX7_judge_150 : decode cX7_judge 150 = .ok (.goto 4, 3) := by decide +kernel
theorem dX7_judge_153 : decode cX7_judge 153 = .ok (.iconst 0, 1) := by decide +kernel
theorem dX7_judge_154 : decode cX7_judge 154 = .ok (.istore 4, 2) := by decide +kernel
theorem dX7_judge_156 : decode cX7_judge 156 = .ok (.aload_n 0, 1) := by decide +kernel
theorem dX7_judge_157 : decode cX7_judge 157 = .ok (.getfield 16, 3) := by decide +kernel
theorem dX7_judge_160 : decode cX7_judge 160 = .ok (.aload_n 0, 1) := by decide +kernel
theorem dX7_judge_161 : decode cX7_judge 161 = .ok (.getfield 9, 3) := by decide +kernel
theorem dX7_judge_164 : decode cX7_judge 164 = .ok (.invokestatic 185, 3) := by decide +kernel
theorem dX7_judge_167 : decode cX7_judge 167 = .ok (.iload 4, 2) := by decide +kernel
theorem dX7_judge_169 : decode cX7_judge 169 = .ok (.ifCond .eq 7, 3) := by decide +kernel
theorem dX7_judge_172 : decode cX7_judge 172 = .ok (.iconst 0, 1) := by decide +kernel
theorem dX7_judge_173 : decode cX7_judge 173 = .ok (.goto 6, 3) := by decide +kernel
theorem dX7_judge_176 : decode cX7_judge 176 = .ok (.iconst 1, 1) := by decide +kernel
theorem dX7_judge_177 : decode cX7_judge 177 = .ok (.iload_n 3, 1) := by decide +kernel
theorem dX7_judge_178 : decode cX7_judge 178 = .ok (.iadd, 1) := by decide +kernel
theorem dX7_judge_179 : decode cX7_judge 179 = .ok (.ireturn, 1) := by decide +kernel
theorem dX7_image_0 : decode cX7_image 0 = .ok (.aload_n 0, 1) := by decide +kernel
theorem dX7_image_1 : decode cX7_image 1 = .ok (.getfield 9, 3) := by decide +kernel
theorem dX7_image_4 : decode cX7_image 4 = .ok (.aload_n 0, 1) := by decide +kernel
theorem dX7_image_5 : decode cX7_image 5 = .ok (.getfield 13, 3) := by decide +kernel
theorem dX7_image_8 : decode cX7_image 8 = .ok (.invokestatic 185, 3) := by decide +kernel
theorem dX7_image_11 : decode cX7_image 11 = .ok (.aload_n 0, 1) := by decide +kernel
theorem dX7_image_12 : decode cX7_image 12 = .ok (.iconst 1, 1) := by decide +kernel
theorem dX7_image_13 : decode cX7_image 13 = .ok (.putfield 334, 3) := by decide +kernel
theorem dX7_image_16 : decode cX7_image 16 = .ok (.iconst 1, 1) := by decide +kernel
theorem dX7_image_17 : decode cX7_image 17 = .ok (.ireturn, 1) := by decide +kernel
theorem dX7_undo_0 : decode cX7_undo 0 = .ok (.aload_n 0, 1) := by decide +kernel
theorem dX7_undo_1 : decode cX7_undo 1 = .ok (.getfield 334, 3) := by decide +kernel
theorem dX7_undo_4 : decode cX7_undo 4 = .ok (.ifCond .ne 10, 3) := by decide +kernel
theorem dX7_undo_7 : decode cX7_undo 7 = .ok (.aload_n 0, 1) := by decide +kernel
theorem dX7_undo_8 : decode cX7_undo 8 = .ok (.ldc 44, 2) := by decide +kernel
theorem dX7_undo_10 : decode cX7_undo 10 = .ok (.invokevirtual 45, 3) := by decide +kernel
theorem dX7_undo_13 : decode cX7_undo 13 = .ok (.ireturn, 1) := by decide +kernel
theorem dX7_undo_14 : decode cX7_undo 14 = .ok (.aload_n 0, 1) := by decide +kernel
theorem dX7_undo_15 : decode cX7_undo 15 = .ok (.getfield 13, 3) := by decide +kernel
theorem dX7_undo_18 : decode cX7_undo 18 = .ok (.aload_n 0, 1) := by decide +kernel
theorem dX7_undo_19 : decode cX7_undo 19 = .ok (.getfield 9, 3) := by decide +kernel
theorem dX7_undo_22 : decode cX7_undo 22 = .ok (.invokestatic 185, 3) := by decide +kernel
theorem dX7_undo_25 : decode cX7_undo 25 = .ok (.aload_n 0, 1) := by decide +kernel
theorem dX7_undo_26 : decode cX7_undo 26 = .ok (.getfield 9, 3) := by decide +kernel
theorem dX7_undo_29 : decode cX7_undo 29 = .ok (.iconst 0, 1) := by decide +kernel
theorem dX7_undo_30 : decode cX7_undo 30 = .ok (.iaload, 1) := by decide +kernel
theorem dX7_undo_31 : decode cX7_undo 31 = .ok (.ireturn, 1) := by decide +kernel
theorem dX7_tear_0 : decode cX7_tear 0 = .ok (.aload_n 0, 1) := by decide +kernel
theorem dX7_tear_1 : decode cX7_tear 1 = .ok (.getfield 334, 3) := by decide +kernel
theorem dX7_tear_4 : decode cX7_tear 4 = .ok (.ifCond .eq 7, 3) := by decide +kernel
theorem dX7_tear_7 : decode cX7_tear 7 = .ok (.iconst 1, 1) := by decide +kernel
theorem dX7_tear_8 : decode cX7_tear 8 = .ok (.goto 4, 3) := by decide +kernel
theorem dX7_tear_11 : decode cX7_tear 11 = .ok (.iconst 0, 1) := by decide +kernel
theorem dX7_tear_12 : decode cX7_tear 12 = .ok (.istore_n 1, 1) := by decide +kernel
theorem dX7_tear_13 : decode cX7_tear 13 = .ok (.aload_n 0, 1) := by decide +kernel
theorem dX7_tear_14 : decode cX7_tear 14 = .ok (.iconst 0, 1) := by decide +kernel
theorem dX7_tear_15 : decode cX7_tear 15 = .ok (.putfield 334, 3) := by decide +kernel
theorem dX7_tear_18 : decode cX7_tear 18 = .ok (.iload_n 1, 1) := by decide +kernel
theorem dX7_tear_19 : decode cX7_tear 19 = .ok (.ireturn, 1) := by decide +kernel
theorem dX7_count_0 : decode cX7_count 0 = .ok (.iload_n 1, 1) := by decide +kernel
theorem dX7_count_1 : decode cX7_count 1 = .ok (.tableswitch 95 0 7 #[47, 54, 61, 66, 73, 78, 83, 88], 47) := by decide +kernel
theorem dX7_count_48 : decode cX7_count 48 = .ok (.aload_n 0, 1) := by decide +kernel
theorem dX7_count_49 : decode cX7_count 49 = .ok (.getfield 9, 3) := by decide +kernel
theorem dX7_count_52 : decode cX7_count 52 = .ok (.iconst 0, 1) := by decide +kernel
theorem dX7_count_53 : decode cX7_count 53 = .ok (.iaload, 1) := by decide +kernel
theorem dX7_count_54 : decode cX7_count 54 = .ok (.ireturn, 1) := by decide +kernel
theorem dX7_count_55 : decode cX7_count 55 = .ok (.aload_n 0, 1) := by decide +kernel
theorem dX7_count_56 : decode cX7_count 56 = .ok (.getfield 9, 3) := by decide +kernel
theorem dX7_count_59 : decode cX7_count 59 = .ok (.iconst 2, 1) := by decide +kernel
theorem dX7_count_60 : decode cX7_count 60 = .ok (.iaload, 1) := by decide +kernel
theorem dX7_count_61 : decode cX7_count 61 = .ok (.ireturn, 1) := by decide +kernel
theorem dX7_count_62 : decode cX7_count 62 = .ok (.aload_n 0, 1) := by decide +kernel
theorem dX7_count_63 : decode cX7_count 63 = .ok (.invokevirtual 164, 3) := by decide +kernel
theorem dX7_count_66 : decode cX7_count 66 = .ok (.ireturn, 1) := by decide +kernel
theorem dX7_count_67 : decode cX7_count 67 = .ok (.aload_n 0, 1) := by decide +kernel
theorem dX7_count_68 : decode cX7_count 68 = .ok (.getfield 9, 3) := by decide +kernel
theorem dX7_count_71 : decode cX7_count 71 = .ok (.iconst 3, 1) := by decide +kernel
theorem dX7_count_72 : decode cX7_count 72 = .ok (.iaload, 1) := by decide +kernel
theorem dX7_count_73 : decode cX7_count 73 = .ok (.ireturn, 1) := by decide +kernel
theorem dX7_count_74 : decode cX7_count 74 = .ok (.aload_n 0, 1) := by decide +kernel
theorem dX7_count_75 : decode cX7_count 75 = .ok (.invokevirtual 195, 3) := by decide +kernel
theorem dX7_count_78 : decode cX7_count 78 = .ok (.ireturn, 1) := by decide +kernel
theorem dX7_count_79 : decode cX7_count 79 = .ok (.aload_n 0, 1) := by decide +kernel
theorem dX7_count_80 : decode cX7_count 80 = .ok (.invokevirtual 189, 3) := by decide +kernel
theorem dX7_count_83 : decode cX7_count 83 = .ok (.ireturn, 1) := by decide +kernel
theorem dX7_count_84 : decode cX7_count 84 = .ok (.aload_n 0, 1) := by decide +kernel
theorem dX7_count_85 : decode cX7_count 85 = .ok (.getfield 229, 3) := by decide +kernel
theorem dX7_count_88 : decode cX7_count 88 = .ok (.ireturn, 1) := by decide +kernel
theorem dX7_count_89 : decode cX7_count 89 = .ok (.aload_n 0, 1) := by decide +kernel
theorem dX7_count_90 : decode cX7_count 90 = .ok (.getfield 9, 3) := by decide +kernel
theorem dX7_count_93 : decode cX7_count 93 = .ok (.iconst 1, 1) := by decide +kernel
theorem dX7_count_94 : decode cX7_count 94 = .ok (.iaload, 1) := by decide +kernel
theorem dX7_count_95 : decode cX7_count 95 = .ok (.ireturn, 1) := by decide +kernel
theorem dX7_count_96 : decode cX7_count 96 = .ok (.aload_n 0, 1) := by decide +kernel
theorem dX7_count_97 : decode cX7_count 97 = .ok (.ldc 43, 2) := by decide +kernel
theorem dX7_count_99 : decode cX7_count 99 = .ok (.invokevirtual 45, 3) := by decide +kernel
theorem dX7_count_102 : decode cX7_count 102 = .ok (.ireturn, 1) := by decide +kernel
