theorem dX6_handsFor_0 : decode cX6_handsFor 0 = .ok (.aload_n 0, 1) := by decide +kernel
theorem dX6_handsFor_1 : decode cX6_handsFor 1 = .ok (.getfield 12, 3) := by decide +kernel
theorem dX6_handsFor_4 : decode cX6_handsFor 4 = .ok (.iload_n 1, 1) := by decide +kernel
theorem dX6_handsFor_5 : decode cX6_handsFor 5 = .ok (.invokevirtual 133, 3) := by decide +kernel
theorem dX6_handsFor_8 : decode cX6_handsFor 8 = .ok (.ifCond .ne 10, 3) := by decide +kernel
theorem dX6_handsFor_11 : decode cX6_handsFor 11 = .ok (.aload_n 0, 1) := by decide +kernel
theorem dX6_handsFor_12 : decode cX6_handsFor 12 = .ok (.ldc 64, 2) := by decide +kernel
theorem dX6_handsFor_14 : decode cX6_handsFor 14 = .ok (.invokevirtual 65, 3) := by decide +kernel
theorem dX6_handsFor_17 : decode cX6_handsFor 17 = .ok (.ireturn, 1) := by decide +kernel
theorem dX6_handsFor_18 : decode cX6_handsFor 18 = .ok (.aload_n 0, 1) := by decide +kernel
theorem dX6_handsFor_19 : decode cX6_handsFor 19 = .ok (.getfield 12, 3) := by decide +kernel
theorem dX6_handsFor_22 : decode cX6_handsFor 22 = .ok (.getfield 136, 3) := by decide +kernel
theorem dX6_handsFor_25 : decode cX6_handsFor 25 = .ok (.iload_n 1, 1) := by decide +kernel
theorem dX6_handsFor_26 : decode cX6_handsFor 26 = .ok (.iaload, 1) := by decide +kernel
theorem dX6_handsFor_27 : decode cX6_handsFor 27 = .ok (.istore_n 2, 1) := by decide +kernel
theorem dX6_handsFor_28 : decode cX6_handsFor 28 = .ok (.iload_n 2, 1) := by decide +kernel
theorem dX6_handsFor_29 : decode cX6_handsFor 29 = .ok (.ifCond .lt 12, 3) := by decide +kernel
theorem dX6_handsFor_32 : decode cX6_handsFor 32 = .ok (.aload_n 0, 1) := by decide +kernel
theorem dX6_handsFor_33 : decode cX6_handsFor 33 = .ok (.bipush 40, 2) := by decide +kernel
theorem dX6_handsFor_35 : decode cX6_handsFor 35 = .ok (.invokevirtual 156, 3) := by decide +kernel
theorem dX6_handsFor_38 : decode cX6_handsFor 38 = .ok (.ifCond .eq 10, 3) := by decide +kernel
theorem dX6_handsFor_41 : decode cX6_handsFor 41 = .ok (.aload_n 0, 1) := by decide +kernel
theorem dX6_handsFor_42 : decode cX6_handsFor 42 = .ok (.ldc 151, 2) := by decide +kernel
theorem dX6_handsFor_44 : decode cX6_handsFor 44 = .ok (.invokevirtual 65, 3) := by decide +kernel
theorem dX6_handsFor_47 : decode cX6_handsFor 47 = .ok (.ireturn, 1) := by decide +kernel
theorem dX6_handsFor_48 : decode cX6_handsFor 48 = .ok (.iconst 1, 1) := by decide +kernel
theorem dX6_handsFor_49 : decode cX6_handsFor 49 = .ok (.istore_n 3, 1) := by decide +kernel
theorem dX6_handsFor_50 : decode cX6_handsFor 50 = .ok (.iload_n 3, 1) := by decide +kernel
theorem dX6_handsFor_51 : decode cX6_handsFor 51 = .ok (.bipush 9, 2) := by decide +kernel
theorem dX6_handsFor_53 : decode cX6_handsFor 53 = .ok (.if_icmp .gt 21, 3) := by decide +kernel
theorem dX6_handsFor_56 : decode cX6_handsFor 56 = .ok (.aload_n 0, 1) := by decide +kernel
theorem dX6_handsFor_57 : decode cX6_handsFor 57 = .ok (.iload_n 1, 1) := by decide +kernel
theorem dX6_handsFor_58 : decode cX6_handsFor 58 = .ok (.iload_n 2, 1) := by decide +kernel
theorem dX6_handsFor_59 : decode cX6_handsFor 59 = .ok (.iload_n 3, 1) := by decide +kernel
theorem dX6_handsFor_60 : decode cX6_handsFor 60 = .ok (.invokevirtual 189, 3) := by decide +kernel
theorem dX6_handsFor_63 : decode cX6_handsFor 63 = .ok (.ifCond .eq 5, 3) := by decide +kernel
theorem dX6_handsFor_66 : decode cX6_handsFor 66 = .ok (.iload_n 3, 1) := by decide +kernel
theorem dX6_handsFor_67 : decode cX6_handsFor 67 = .ok (.ireturn, 1) := by decide +kernel
theorem dX6_handsFor_68 : decode cX6_handsFor 68 = .ok (.iinc 3 1, 3) := by decide +kernel
theorem dX6_handsFor_71 : decode cX6_handsFor 71 = .ok (.goto (-21), 3) := by decide +kernel
theorem dX6_handsFor_74 : decode cX6_handsFor 74 = .ok (.aload_n 0, 1) := by decide +kernel
theorem dX6_handsFor_75 : decode cX6_handsFor 75 = .ok (.ldc 182, 2) := by decide +kernel
theorem dX6_handsFor_77 : decode cX6_handsFor 77 = .ok (.invokevirtual 65, 3) := by decide +kernel
theorem dX6_handsFor_80 : decode cX6_handsFor 80 = .ok (.ireturn, 1) := by decide +kernel
theorem dX6_most_0 : decode cX6_most 0 = .ok (.aload_n 0, 1) := by decide +kernel
theorem dX6_most_1 : decode cX6_most 1 = .ok (.iload_n 1, 1) := by decide +kernel
theorem dX6_most_2 : decode cX6_most 2 = .ok (.invokevirtual 192, 3) := by decide +kernel
theorem dX6_most_5 : decode cX6_most 5 = .ok (.istore_n 2, 1) := by decide +kernel
theorem dX6_most_6 : decode cX6_most 6 = .ok (.iload_n 2, 1) := by decide +kernel
theorem dX6_most_7 : decode cX6_most 7 = .ok (.ifCond .eq 9, 3) := by decide +kernel
theorem dX6_most_10 : decode cX6_most 10 = .ok (.aload_n 0, 1) := by decide +kernel
theorem dX6_most_11 : decode cX6_most 11 = .ok (.iload_n 2, 1) := by decide +kernel
theorem dX6_most_12 : decode cX6_most 12 = .ok (.invokevirtual 65, 3) := by decide +kernel
theorem dX6_most_15 : decode cX6_most 15 = .ok (.ireturn, 1) := by decide +kernel
theorem dX6_most_16 : decode cX6_most 16 = .ok (.aload_n 0, 1) := by decide +kernel
theorem dX6_most_17 : decode cX6_most 17 = .ok (.getfield 34, 3) := by decide +kernel
theorem dX6_most_20 : decode cX6_most 20 = .ok (.aload_n 0, 1) := by decide +kernel
theorem dX6_most_21 : decode cX6_most 21 = .ok (.getfield 12, 3) := by decide +kernel
theorem dX6_most_24 : decode cX6_most 24 = .ok (.iload_n 1, 1) := by decide +kernel
theorem dX6_most_25 : decode cX6_most 25 = .ok (.invokevirtual 195, 3) := by decide +kernel
theorem dX6_most_28 : decode cX6_most 28 = .ok (.aload_n 0, 1) := by decide +kernel
theorem dX6_most_29 : decode cX6_most 29 = .ok (.getfield 34, 3) := by decide +kernel
theorem dX6_most_32 : decode cX6_most 32 = .ok (.aload_n 0, 1) := by decide +kernel
theorem dX6_most_33 : decode cX6_most 33 = .ok (.getfield 12, 3) := by decide +kernel
theorem dX6_most_36 : decode cX6_most 36 = .ok (.iload_n 1, 1) := by decide +kernel
theorem dX6_most_37 : decode cX6_most 37 = .ok (.iconst 0, 1) := by decide +kernel
theorem dX6_most_38 : decode cX6_most 38 = .ok (.aload_n 0, 1) := by decide +kernel
theorem dX6_most_39 : decode cX6_most 39 = .ok (.getfield 12, 3) := by decide +kernel
theorem dX6_most_42 : decode cX6_most 42 = .ok (.invokevirtual 186, 3) := by decide +kernel
theorem dX6_most_45 : decode cX6_most 45 = .ok (.aload_n 0, 1) := by decide +kernel
theorem dX6_most_46 : decode cX6_most 46 = .ok (.getfield 34, 3) := by decide +kernel
theorem dX6_most_49 : decode cX6_most 49 = .ok (.getfield 198, 3) := by decide +kernel
theorem dX6_most_52 : decode cX6_most 52 = .ok (.invokevirtual 201, 3) := by decide +kernel
theorem dX6_most_55 : decode cX6_most 55 = .ok (.aload_n 0, 1) := by decide +kernel
theorem dX6_most_56 : decode cX6_most 56 = .ok (.getfield 34, 3) := by decide +kernel
theorem dX6_most_59 : decode cX6_most 59 = .ok (.getfield 205, 3) := by decide +kernel
theorem dX6_most_62 : decode cX6_most 62 = .ok (.ireturn, 1) := by decide +kernel
theorem dX6_give_0 : decode cX6_give 0 = .ok (.aload_n 0, 1) := by decide +kernel
theorem dX6_give_1 : decode cX6_give 1 = .ok (.iload_n 1, 1) := by decide +kernel
theorem dX6_give_2 : decode cX6_give 2 = .ok (.invokevirtual 192, 3) := by decide +kernel
theorem dX6_give_5 : decode cX6_give 5 = .ok (.istore_n 2, 1) := by decide +kernel
theorem dX6_give_6 : decode cX6_give 6 = .ok (.iload_n 2, 1) := by decide +kernel
theorem dX6_give_7 : decode cX6_give 7 = .ok (.ifCond .eq 9, 3) := by decide +kernel
theorem dX6_give_10 : decode cX6_give 10 = .ok (.aload_n 0, 1) := by decide +kernel
theorem dX6_give_11 : decode cX6_give 11 = .ok (.iload_n 2, 1) := by decide +kernel
theorem dX6_give_12 : decode cX6_give 12 = .ok (.invokevirtual 65, 3) := by decide +kernel
theorem dX6_give_15 : decode cX6_give 15 = .ok (.ireturn, 1) := by decide +kernel
theorem dX6_give_16 : decode cX6_give 16 = .ok (.aload_n 0, 1) := by decide +kernel
theorem dX6_give_17 : decode cX6_give 17 = .ok (.getfield 34, 3) := by decide +kernel
theorem dX6_give_20 : decode cX6_give 20 = .ok (.aload_n 0, 1) := by decide +kernel
theorem dX6_give_21 : decode cX6_give 21 = .ok (.getfield 12, 3) := by decide +kernel
theorem dX6_give_24 : decode cX6_give 24 = .ok (.iload_n 1, 1) := by decide +kernel
theorem dX6_give_25 : decode cX6_give 25 = .ok (.invokevirtual 195, 3) := by decide +kernel
theorem dX6_give_28 : decode cX6_give 28 = .ok (.aload_n 0, 1) := by decide +kernel
theorem dX6_give_29 : decode cX6_give 29 = .ok (.getfield 34, 3) := by decide +kernel
theorem dX6_give_32 : decode cX6_give 32 = .ok (.aload_n 0, 1) := by decide +kernel
theorem dX6_give_33 : decode cX6_give 33 = .ok (.getfield 12, 3) := by decide +kernel
theorem dX6_give_36 : decode cX6_give 36 = .ok (.iload_n 1, 1) := by decide +kernel
theorem dX6_give_37 : decode cX6_give 37 = .ok (.iconst 0, 1) := by decide +kernel
theorem dX6_give_38 : decode cX6_give 38 = .ok (.aload_n 0, 1) := by decide +kernel
theorem dX6_give_39 : decode cX6_give 39 = .ok (.getfield 12, 3) := by decide +kernel
theorem dX6_give_42 : decode cX6_give 42 = .ok (.invokevirtual 186, 3) := by decide +kernel
theorem dX6_give_45 : decode cX6_give 45 = .ok (.aload_n 0, 1) := by decide +kernel
theorem dX6_give_46 : decode cX6_give 46 = .ok (.getfield 34, 3) := by decide +kernel
theorem dX6_give_49 : decode cX6_give 49 = .ok (.getfield 198, 3) := by decide +kernel
theorem dX6_give_52 : decode cX6_give 52 = .ok (.invokevirtual 201, 3) := by decide +kernel
theorem dX6_give_55 : decode cX6_give 55 = .ok (.aload_n 0, 1) := by decide +kernel
theorem dX6_give_56 : decode cX6_give 56 = .ok (.getfield 34, 3) := by decide +kernel
theorem dX6_give_59 : decode cX6_give 59 = .ok (.aload_n 0, 1) := by decide +kernel
theorem dX6_give_60 : decode cX6_give 60 = .ok (.getfield 12, 3) := by decide +kernel
theorem dX6_give_63 : decode cX6_give 63 = .ok (.invokevirtual 208, 3) := by decide +kernel
theorem dX6_give_66 : decode cX6_give 66 = .ok (.ireturn, 1) := by decide +kernel
theorem dX6_lives_0 : decode cX6_lives 0 = .ok (.iload_n 1, 1) := by decide +kernel
theorem dX6_lives_1 : decode cX6_lives 1 = .ok (.invokestatic 56, 3) := by decide +kernel
theorem dX6_lives_4 : decode cX6_lives 4 = .ok (.ifCond .eq 13, 3) := by decide +kernel
theorem dX6_lives_7 : decode cX6_lives 7 = .ok (.iload_n 2, 1) := by decide +kernel
theorem dX6_lives_8 : decode cX6_lives 8 = .ok (.iconst 1, 1) := by decide +kernel
theorem dX6_lives_9 : decode cX6_lives 9 = .ok (.bipush 9, 2) := by decide +kernel
theorem dX6_lives_11 : decode cX6_lives 11 = .ok (.invokestatic 60, 3) := by decide +kernel
theorem dX6_lives_14 : decode cX6_lives 14 = .ok (.ifCond .ne 10, 3) := by decide +kernel
theorem dX6_lives_17 : decode cX6_lives 17 = .ok (.aload_n 0, 1) := by decide +kernel
theorem dX6_lives_18 : decode cX6_lives 18 = .ok (.ldc 64, 2) := by decide +kernel
theorem dX6_lives_20 : decode cX6_lives 20 = .ok (.invokevirtual 65, 3) := by decide +kernel
theorem dX6_lives_23 : decode cX6_lives 23 = .ok (.ireturn, 1) := by decide +kernel
theorem dX6_lives_24 : decode cX6_lives 24 = .ok (.aload_n 0, 1) := by decide +kernel
theorem dX6_lives_25 : decode cX6_lives 25 = .ok (.getfield 12, 3) := by decide +kernel
theorem dX6_lives_28 : decode cX6_lives 28 = .ok (.iload_n 1, 1) := by decide +kernel
theorem dX6_lives_29 : decode cX6_lives 29 = .ok (.invokevirtual 108, 3) := by decide +kernel
theorem dX6_lives_32 : decode cX6_lives 32 = .ok (.ifCond .ne 10, 3) := by decide +kernel
theorem dX6_lives_35 : decode cX6_lives 35 = .ok (.aload_n 0, 1) := by decide +kernel
theorem dX6_lives_36 : decode cX6_lives 36 = .ok (.ldc 151, 2) := by decide +kernel
theorem dX6_lives_38 : decode cX6_lives 38 = .ok (.invokevirtual 65, 3) := by decide +kernel
theorem dX6_lives_41 : decode cX6_lives 41 = .ok (.ireturn, 1) := by decide +kernel
theorem dX6_lives_42 : decode cX6_lives 42 = .ok (.aload_n 0, 1) := by decide +kernel
theorem dX6_lives_43 : decode cX6_lives 43 = .ok (.iconst 0, 1) := by decide +kernel
theorem dX6_lives_44 : decode cX6_lives 44 = .ok (.invokevirtual 166, 3) := by decide +kernel
theorem dX6_lives_47 : decode cX6_lives 47 = .ok (.iconst 1, 1) := by decide +kernel
theorem dX6_lives_48 : decode cX6_lives 48 = .ok (.istore_n 3, 1) := by decide +kernel
theorem dX6_lives_49 : decode cX6_lives 49 = .ok (.iload_n 3, 1) := by decide +kernel
theorem dX6_lives_50 : decode cX6_lives 50 = .ok (.bipush 9, 2) := by decide +kernel
theorem dX6_lives_52 : decode cX6_lives 52 = .ok (.if_icmp .gt 54, 3) := by decide +kernel
theorem dX6_lives_55 : decode cX6_lives 55 = .ok (.aload_n 0, 1) := by decide +kernel
theorem dX6_lives_56 : decode cX6_lives 56 = .ok (.getfield 19, 3) := by decide +kernel
theorem dX6_lives_59 : decode cX6_lives 59 = .ok (.iconst 0, 1) := by decide +kernel
theorem dX6_lives_60 : decode cX6_lives 60 = .ok (.putfield 126, 3) := by decide +kernel
theorem dX6_lives_63 : decode cX6_lives 63 = .ok (.aload_n 0, 1) := by decide +kernel
theorem dX6_lives_64 : decode cX6_lives 64 = .ok (.getfield 19, 3) := by decide +kernel
theorem dX6_lives_67 : decode cX6_lives 67 = .ok (.iload_n 2, 1) := by decide +kernel
theorem dX6_lives_68 : decode cX6_lives 68 = .ok (.iconst 0, 1) := by decide +kernel
theorem dX6_lives_69 : decode cX6_lives 69 = .ok (.iload_n 1, 1) := by decide +kernel
theorem dX6_lives_70 : decode cX6_lives 70 = .ok (.invokevirtual 129, 3) := by decide +kernel
theorem dX6_lives_73 : decode cX6_lives 73 = .ok (.pop, 1) := by decide +kernel
theorem dX6_lives_74 : decode cX6_lives 74 = .ok (.aload_n 0, 1) := by decide +kernel
theorem dX6_lives_75 : decode cX6_lives 75 = .ok (.getfield 25, 3) := by decide +kernel
theorem dX6_lives_78 : decode cX6_lives 78 = .ok (.aload_n 0, 1) := by decide +kernel
theorem dX6_lives_79 : decode cX6_lives 79 = .ok (.getfield 19, 3) := by decide +kernel
theorem dX6_lives_82 : decode cX6_lives 82 = .ok (.bipush 40, 2) := by decide +kernel
theorem dX6_lives_84 : decode cX6_lives 84 = .ok (.invokevirtual 162, 3) := by decide +kernel
theorem dX6_lives_87 : decode cX6_lives 87 = .ok (.aload_n 0, 1) := by decide +kernel
theorem dX6_lives_88 : decode cX6_lives 88 = .ok (.getfield 19, 3) := by decide +kernel
theorem dX6_lives_91 : decode cX6_lives 91 = .ok (.iload_n 1, 1) := by decide +kernel
theorem dX6_lives_92 : decode cX6_lives 92 = .ok (.invokevirtual 108, 3) := by decide +kernel
theorem dX6_lives_95 : decode cX6_lives 95 = .ok (.ifCond .ne 5, 3) := by decide +kernel
theorem dX6_lives_98 : decode cX6_lives 98 = .ok (.iload_n 3, 1) := by decide +kernel
theorem dX6_lives_99 : decode cX6_lives 99 = .ok (.ireturn, 1) := by decide +kernel
theorem dX6_lives_100 : decode cX6_lives 100 = .ok (.iinc 3 1, 3) := by decide +kernel
theorem dX6_lives_103 : decode cX6_lives 103 = .ok (.goto (-54), 3) := by decide +kernel
theorem dX6_lives_106 : decode cX6_lives 106 = .ok (.aload_n 0, 1) := by decide +kernel
theorem dX6_lives_107 : decode cX6_lives 107 = .ok (.ldc 182, 2) := by decide +kernel
theorem dX6_lives_109 : decode cX6_lives 109 = .ok (.invokevirtual 65, 3) := by decide +kernel
theorem dX6_lives_112 : decode cX6_lives 112 = .ok (.ireturn, 1) := by decide +kernel
theorem dX6_best_0 : decode cX6_best 0 = .ok (.iload_n 1, 1) := by decide +kernel
theorem dX6_best_1 : decode cX6_best 1 = .ok (.iconst 1, 1) := by decide +kernel
theorem dX6_best_2 : decode cX6_best 2 = .ok (.bipush 60, 2) := by decide +kernel
theorem dX6_best_4 : decode cX6_best 4 = .ok (.invokestatic 60, 3) := by decide +kernel
theorem dX6_best_7 : decode cX6_best 7 = .ok (.ifCond .ne 10, 3) := by decide +kernel
theorem dX6_best_10 : decode cX6_best 10 = .ok (.aload_n 0, 1) := by decide +kernel
theorem dX6_best_11 : decode cX6_best 11 = .ok (.ldc 64, 2) := by decide +kernel
theorem dX6_best_13 : decode cX6_best 13 = .ok (.invokevirtual 65, 3) := by decide +kernel
theorem dX6_best_16 : decode cX6_best 16 = .ok (.ireturn, 1) := by decide +kernel
theorem dX6_best_17 : decode cX6_best 17 = .ok (.aload_n 0, 1) := by decide +kernel
theorem dX6_best_18 : decode cX6_best 18 = .ok (.iload_n 1, 1) := by decide +kernel
theorem dX6_best_19 : decode cX6_best 19 = .ok (.invokevirtual 156, 3) := by decide +kernel
theorem dX6_best_22 : decode cX6_best 22 = .ok (.ifCond .eq 10, 3) := by decide +kernel
theorem dX6_best_25 : decode cX6_best 25 = .ok (.aload_n 0, 1) := by decide +kernel
theorem dX6_best_26 : decode cX6_best 26 = .ok (.ldc 151, 2) := by decide +kernel
theorem dX6_best_28 : decode cX6_best 28 = .ok (.invokevirtual 65, 3) := by decide +kernel
theorem dX6_best_31 : decode cX6_best 31 = .ok (.ireturn, 1) := by decide +kernel
theorem dX6_best_32 : decode cX6_best 32 = .ok (.iconst (-1), 1) := by decide +kernel
theorem dX6_best_33 : decode cX6_best 33 = .ok (.istore_n 2, 1) := by decide +kernel
theorem dX6_best_34 : decode cX6_best 34 = .ok (.iconst 0, 1) := by decide +kernel
theorem dX6_best_35 : decode cX6_best 35 = .ok (.istore_n 3, 1) := by decide +kernel
theorem dX6_best_36 : decode cX6_best 36 = .ok (.iconst 0, 1) := by decide +kernel
theorem dX6_best_37 : decode cX6_best 37 = .ok (.istore 4, 2) := by decide +kernel
theorem dX6_best_39 : decode cX6_best 39 = .ok (.iload 4, 2) := by decide +kernel
theorem dX6_best_41 : decode cX6_best 41 = .ok (.aload_n 0, 1) := by decide +kernel
theorem dX6_best_42 : decode cX6_best 42 = .ok (.getfield 12, 3) := by decide +kernel
theorem dX6_best_45 : decode cX6_best 45 = .ok (.getfield 77, 3) := by decide +kernel
theorem dX6_best_48 : decode cX6_best 48 = .ok (.if_icmp .ge 83, 3) := by decide +kernel
theorem dX6_best_51 : decode cX6_best 51 = .ok (.aload_n 0, 1) := by decide +kernel
theorem dX6_best_52 : decode cX6_best 52 = .ok (.getfield 12, 3) := by decide +kernel
theorem dX6_best_55 : decode cX6_best 55 = .ok (.iload 4, 2) := by decide +kernel
theorem dX6_best_57 : decode cX6_best 57 = .ok (.invokevirtual 183, 3) := by decide +kernel
theorem dX6_best_60 : decode cX6_best 60 = .ok (.ifCond .eq 6, 3) := by decide +kernel
theorem dX6_best_63 : decode cX6_best 63 = .ok (.goto 62, 3) := by decide +kernel
theorem dX6_best_66 : decode cX6_best 66 = .ok (.aload_n 0, 1) := by decide +kernel
theorem dX6_best_67 : decode cX6_best 67 = .ok (.getfield 19, 3) := by decide +kernel
theorem dX6_best_70 : decode cX6_best 70 = .ok (.aload_n 0, 1) := by decide +kernel
theorem dX6_best_71 : decode cX6_best 71 = .ok (.getfield 12, 3) := by decide +kernel
theorem dX6_best_74 : decode cX6_best 74 = .ok (.invokevirtual 212, 3) := by decide +kernel
theorem dX6_best_77 : decode cX6_best 77 = .ok (.aload_n 0, 1) := by decide +kernel
theorem dX6_best_78 : decode cX6_best 78 = .ok (.getfield 19, 3) := by decide +kernel
theorem dX6_best_81 : decode cX6_best 81 = .ok (.getfield 95, 3) := by decide +kernel
theorem dX6_best_84 : decode cX6_best 84 = .ok (.iload 4, 2) := by decide +kernel
theorem dX6_best_86 : decode cX6_best 86 = .ok (.iconst 0, 1) := by decide +kernel
theorem dX6_best_87 : decode cX6_best 87 = .ok (.iastore, 1) := by decide +kernel
theorem dX6_best_88 : decode cX6_best 88 = .ok (.aload_n 0, 1) := by decide +kernel
theorem dX6_best_89 : decode cX6_best 89 = .ok (.getfield 25, 3) := by decide +kernel
theorem dX6_best_92 : decode cX6_best 92 = .ok (.aload_n 0, 1) := by decide +kernel
theorem dX6_best_93 : decode cX6_best 93 = .ok (.getfield 19, 3) := by decide +kernel
theorem dX6_best_96 : decode cX6_best 96 = .ok (.iload_n 1, 1) := by decide +kernel
theorem dX6_best_97 : decode cX6_best 97 = .ok (.invokevirtual 162, 3) := by decide +kernel
theorem dX6_best_100 : decode cX6_best 100 = .ok (.aload_n 0, 1) := by decide +kernel
theorem dX6_best_101 : decode cX6_best 101 = .ok (.getfield 19, 3) := by decide +kernel
theorem dX6_best_104 : decode cX6_best 104 = .ok (.invokevirtual 170, 3) := by decide +kernel
theorem dX6_best_107 : decode cX6_best 107 = .ok (.istore 5, 2) := by decide +kernel
theorem dX6_best_109 : decode cX6_best 109 = .ok (.iload_n 2, 1) := by decide +kernel
theorem dX6_best_110 : decode cX6_best 110 = .ok (.ifCond .lt 9, 3) := by decide +kernel
theorem dX6_best_113 : decode cX6_best 113 = .ok (.iload 5, 2) := by decide +kernel
theorem dX6_best_115 : decode cX6_best 115 = .ok (.iload_n 3, 1) := by decide +kernel
theorem dX6_best_116 : decode cX6_best 116 = .ok (.if_icmp .ge 9, 3) := by decide +kernel
theorem dX6_best_119 : decode cX6_best 119 = .ok (.iload 4, 2) := by decide +kernel
theorem dX6_best_121 : decode cX6_best 121 = .ok (.istore_n 2, 1) := by decide +kernel
theorem dX6_best_122 : decode cX6_best 122 = .ok (.iload 5, 2) := by decide +kernel
theorem dX6_best_124 : decode cX6_best 124 = .ok (.istore_n 3, 1) := by decide +kernel
theorem dX6_best_125 : decode cX6_best 125 = .ok (.iinc 4 1, 3) := by decide +kernel
theorem dX6_best_128 : decode cX6_best 128 = .ok (.goto (-89), 3) := by decide +kernel
theorem dX6_best_131 : decode cX6_best 131 = .ok (.iload_n 2, 1) := by decide +kernel
theorem dX6_best_132 : decode cX6_best 132 = .ok (.ifCond .ge 12, 3) := by decide +kernel
theorem dX6_best_135 : decode cX6_best 135 = .ok (.aload_n 0, 1) := by decide +kernel
theorem dX6_best_136 : decode cX6_best 136 = .ok (.ldc 182, 2) := by decide +kernel
theorem dX6_best_138 : decode cX6_best 138 = .ok (.invokevirtual 65, 3) := by decide +kernel
theorem dX6_best_141 : decode cX6_best 141 = .ok (.goto 4, 3) := by decide +kernel
theorem dX6_best_144 : decode cX6_best 144 = .ok (.iload_n 2, 1) := by decide +kernel
theorem dX6_best_145 : decode cX6_best 145 = .ok (.ireturn, 1) := by decide +kernel
theorem dX6_whom_0 : decode cX6_whom 0 = .ok (.aload_n 0, 1) := by decide +kernel
theorem dX6_whom_1 : decode cX6_whom 1 = .ok (.getfield 12, 3) := by decide +kernel
theorem dX6_whom_4 : decode cX6_whom 4 = .ok (.iload_n 1, 1) := by decide +kernel
theorem dX6_whom_5 : decode cX6_whom 5 = .ok (.invokevirtual 133, 3) := by decide +kernel
theorem dX6_whom_8 : decode cX6_whom 8 = .ok (.ifCond .eq 13, 3) := by decide +kernel
theorem dX6_whom_11 : decode cX6_whom 11 = .ok (.iload_n 2, 1) := by decide +kernel
theorem dX6_whom_12 : decode cX6_whom 12 = .ok (.iconst 1, 1) := by decide +kernel
theorem dX6_whom_13 : decode cX6_whom 13 = .ok (.bipush 60, 2) := by decide +kernel
theorem dX6_whom_15 : decode cX6_whom 15 = .ok (.invokestatic 60, 3) := by decide +kernel
theorem dX6_whom_18 : decode cX6_whom 18 = .ok (.ifCond .ne 10, 3) := by decide +kernel
theorem dX6_whom_21 : decode cX6_whom 21 = .ok (.aload_n 0, 1) := by decide +kernel
theorem dX6_whom_22 : decode cX6_whom 22 = .ok (.ldc 64, 2) := by decide +kernel
theorem dX6_whom_24 : decode cX6_whom 24 = .ok (.invokevirtual 65, 3) := by decide +kernel
theorem dX6_whom_27 : decode cX6_whom 27 = .ok (.ireturn, 1) := by decide +kernel
theorem dX6_whom_28 : decode cX6_whom 28 = .ok (.aload_n 0, 1) := by decide +kernel
theorem dX6_whom_29 : decode cX6_whom 29 = .ok (.iload_n 2, 1) := by decide +kernel
theorem dX6_whom_30 : decode cX6_whom 30 = .ok (.invokevirtual 156, 3) := by decide +kernel
theorem dX6_whom_33 : decode cX6_whom 33 = .ok (.ifCond .eq 10, 3) := by decide +kernel
theorem dX6_whom_36 : decode cX6_whom 36 = .ok (.aload_n 0, 1) := by decide +kernel
theorem dX6_whom_37 : decode cX6_whom 37 = .ok (.ldc 151, 2) := by decide +kernel
theorem dX6_whom_39 : decode cX6_whom 39 = .ok (.invokevirtual 65, 3) := by decide +kernel
theorem dX6_whom_42 : decode cX6_whom 42 = .ok (.ireturn, 1) := by decide +kernel
theorem dX6_whom_43 : decode cX6_whom 43 = .ok (.iconst (-1), 1) := by decide +kernel
theorem dX6_whom_44 : decode cX6_whom 44 = .ok (.istore_n 3, 1) := by decide +kernel
theorem dX6_whom_45 : decode cX6_whom 45 = .ok (.iconst 0, 1) := by decide +kernel
theorem dX6_whom_46 : decode cX6_whom 46 = .ok (.istore 4, 2) := by decide +kernel
theorem dX6_whom_48 : decode cX6_whom 48 = .ok (.iconst (-1), 1) := by decide +kernel
theorem dX6_whom_49 : decode cX6_whom 49 = .ok (.istore 5, 2) := by decide +kernel
theorem dX6_whom_51 : decode cX6_whom 51 = .ok (.iload 5, 2) := by decide +kernel
theorem dX6_whom_53 : decode cX6_whom 53 = .ok (.aload_n 0, 1) := by decide +kernel
theorem dX6_whom_54 : decode cX6_whom 54 = .ok (.getfield 12, 3) := by decide +kernel
theorem dX6_whom_57 : decode cX6_whom 57 = .ok (.getfield 126, 3) := by decide +kernel
theorem dX6_whom_60 : decode cX6_whom 60 = .ok (.if_icmp .ge 80, 3) := by decide +kernel
theorem dX6_whom_63 : decode cX6_whom 63 = .ok (.iload 5, 2) := by decide +kernel
theorem dX6_whom_65 : decode cX6_whom 65 = .ok (.iload_n 1, 1) := by decide +kernel
theorem dX6_whom_66 : decode cX6_whom 66 = .ok (.if_icmp .ne 6, 3) := by decide +kernel
theorem dX6_whom_69 : decode cX6_whom 69 = .ok (.goto 65, 3) := by decide +kernel
theorem dX6_whom_72 : decode cX6_whom 72 = .ok (.aload_n 0, 1) := by decide +kernel
theorem dX6_whom_73 : decode cX6_whom 73 = .ok (.getfield 19, 3) := by decide +kernel
theorem dX6_whom_76 : decode cX6_whom 76 = .ok (.aload_n 0, 1) := by decide +kernel
theorem dX6_whom_77 : decode cX6_whom 77 = .ok (.getfield 12, 3) := by decide +kernel
theorem dX6_whom_80 : decode cX6_whom 80 = .ok (.invokevirtual 212, 3) := by decide +kernel
theorem dX6_whom_83 : decode cX6_whom 83 = .ok (.aload_n 0, 1) := by decide +kernel
theorem dX6_whom_84 : decode cX6_whom 84 = .ok (.getfield 19, 3) := by decide +kernel
theorem dX6_whom_87 : decode cX6_whom 87 = .ok (.getfield 145, 3) := by decide +kernel
theorem dX6_whom_90 : decode cX6_whom 90 = .ok (.iload_n 1, 1) := by decide +kernel
theorem dX6_whom_91 : decode cX6_whom 91 = .ok (.iload 5, 2) := by decide +kernel
theorem dX6_whom_93 : decode cX6_whom 93 = .ok (.iastore, 1) := by decide +kernel
theorem dX6_whom_94 : decode cX6_whom 94 = .ok (.aload_n 0, 1) := by decide +kernel
theorem dX6_whom_95 : decode cX6_whom 95 = .ok (.getfield 25, 3) := by decide +kernel
theorem dX6_whom_98 : decode cX6_whom 98 = .ok (.aload_n 0, 1) := by decide +kernel
theorem dX6_whom_99 : decode cX6_whom 99 = .ok (.getfield 19, 3) := by decide +kernel
theorem dX6_whom_102 : decode cX6_whom 102 = .ok (.iload_n 2, 1) := by decide +kernel
theorem dX6_whom_103 : decode cX6_whom 103 = .ok (.invokevirtual 162, 3) := by decide +kernel
theorem dX6_whom_106 : decode cX6_whom 106 = .ok (.aload_n 0, 1) := by decide +kernel
theorem dX6_whom_107 : decode cX6_whom 107 = .ok (.getfield 19, 3) := by decide +kernel
theorem dX6_whom_110 : decode cX6_whom 110 = .ok (.invokevirtual 170, 3) := by decide +kernel
theorem dX6_whom_113 : decode cX6_whom 113 = .ok (.istore 6, 2) := by decide +kernel
theorem dX6_whom_115 : decode cX6_whom 115 = .ok (.iload 5, 2) := by decide +kernel
theorem dX6_whom_117 : decode cX6_whom 117 = .ok (.ifCond .lt 10, 3) := by decide +kernel
theorem dX6_whom_120 : decode cX6_whom 120 = .ok (.iload 6, 2) := by decide +kernel
theorem dX6_whom_122 : decode cX6_whom 122 = .ok (.iload 4, 2) := by decide +kernel
theorem dX6_whom_124 : decode cX6_whom 124 = .ok (.if_icmp .ge 10, 3) := by decide +kernel
theorem dX6_whom_127 : decode cX6_whom 127 = .ok (.iload 5, 2) := by decide +kernel
theorem dX6_whom_129 : decode cX6_whom 129 = .ok (.istore_n 3, 1) := by decide +kernel
theorem dX6_whom_130 : decode cX6_whom 130 = .ok (.iload 6, 2) := by decide +kernel
theorem dX6_whom_132 : decode cX6_whom 132 = .ok (.istore 4, 2) := by decide +kernel
theorem dX6_whom_134 : decode cX6_whom 134 = .ok (.iinc 5 1, 3) := by decide +kernel
theorem dX6_whom_137 : decode cX6_whom 137 = .ok (.goto (-86), 3) := by decide +kernel
theorem dX6_whom_140 : decode cX6_whom 140 = .ok (.iload_n 3, 1) := by decide +kernel
theorem dX6_whom_141 : decode cX6_whom 141 = .ok (.ireturn, 1) := by decide +kernel
theorem dX6_seed_0 : decode cX6_seed 0 = .ok (.aload_n 0, 1) := by decide +kernel
theorem dX6_seed_1 : decode cX6_seed 1 = .ok (.getfield 12, 3) := by decide +kernel
theorem dX6_seed_4 : decode cX6_seed 4 = .ok (.getfield 216, 3) := by decide +kernel
theorem dX6_seed_7 : decode cX6_seed 7 = .ok (.istore_n 2, 1) := by decide +kernel
theorem dX6_seed_8 : decode cX6_seed 8 = .ok (.aload_n 0, 1) := by decide +kernel
theorem dX6_seed_9 : decode cX6_seed 9 = .ok (.getfield 12, 3) := by decide +kernel
theorem dX6_seed_12 : decode cX6_seed 12 = .ok (.iload_n 1, 1) := by decide +kernel
theorem dX6_seed_13 : decode cX6_seed 13 = .ok (.putfield 216, 3) := by decide +kernel
theorem dX6_seed_16 : decode cX6_seed 16 = .ok (.iload_n 2, 1) := by decide +kernel
theorem dX6_seed_17 : decode cX6_seed 17 = .ok (.ireturn, 1) := by decide +kernel
theorem dX6_feed_0 : decode cX6_feed 0 = .ok (.iload_n 2, 1) := by decide +kernel
theorem dX6_feed_1 : decode cX6_feed 1 = .ok (.iconst 1, 1) := by decide +kernel
theorem dX6_feed_2 : decode cX6_feed 2 = .ok (.iconst 4, 1) := by decide +kernel
theorem dX6_feed_3 : decode cX6_feed 3 = .ok (.invokestatic 60, 3) := by decide +kernel
theorem dX6_feed_6 : decode cX6_feed 6 = .ok (.ifCond .ne 10, 3) := by decide +kernel
theorem dX6_feed_9 : decode cX6_feed 9 = .ok (.aload_n 0, 1) := by decide +kernel
theorem dX6_feed_10 : decode cX6_feed 10 = .ok (.ldc 64, 2) := by decide +kernel
theorem dX6_feed_12 : decode cX6_feed 12 = .ok (.invokevirtual 65, 3) := by decide +kernel
theorem dX6_feed_15 : decode cX6_feed 15 = .ok (.ireturn, 1) := by decide +kernel
theorem dX6_feed_16 : decode cX6_feed 16 = .ok (.aload_n 0, 1) := by decide +kernel
theorem dX6_feed_17 : decode cX6_feed 17 = .ok (.getfield 41, 3) := by decide +kernel
theorem dX6_feed_20 : decode cX6_feed 20 = .ok (.iload_n 2, 1) := by decide +kernel
theorem dX6_feed_21 : decode cX6_feed 21 = .ok (.invokevirtual 219, 3) := by decide +kernel
theorem dX6_feed_24 : decode cX6_feed 24 = .ok (.ifCond .eq 15, 3) := by decide +kernel
theorem dX6_feed_27 : decode cX6_feed 27 = .ok (.aload_n 0, 1) := by decide +kernel
theorem dX6_feed_28 : decode cX6_feed 28 = .ok (.getfield 41, 3) := by decide +kernel
theorem dX6_feed_31 : decode cX6_feed 31 = .ok (.iload_n 1, 1) := by decide +kernel
theorem dX6_feed_32 : decode cX6_feed 32 = .ok (.iload_n 2, 1) := by decide +kernel
theorem dX6_feed_33 : decode cX6_feed 33 = .ok (.invokevirtual 222, 3) := by decide +kernel
theorem dX6_feed_36 : decode cX6_feed 36 = .ok (.goto 9, 3) := by decide +kernel
theorem dX6_feed_39 : decode cX6_feed 39 = .ok (.aload_n 0, 1) := by decide +kernel
theorem dX6_feed_40 : decode cX6_feed 40 = .ok (.ldc 81, 2) := by decide +kernel
theorem dX6_feed_42 : decode cX6_feed 42 = .ok (.invokevirtual 65, 3) := by decide +kernel
theorem dX6_feed_45 : decode cX6_feed 45 = .ok (.ireturn, 1) := by decide +kernel
theorem dX6_wipe_0 : decode cX6_wipe 0 = .ok (.aload_n 0, 1) := by decide +kernel
theorem dX6_wipe_1 : decode cX6_wipe 1 = .ok (.getfield 41, 3) := by decide +kernel
theorem dX6_wipe_4 : decode cX6_wipe 4 = .ok (.invokevirtual 226, 3) := by decide +kernel
theorem dX6_wipe_7 : decode cX6_wipe 7 = .ok (.ireturn, 1) := by decide +kernel
theorem dX6_text_0 : decode cX6_text 0 = .ok (.aload_n 0, 1) := by decide +kernel
theorem dX6_text_1 : decode cX6_text 1 = .ok (.getfield 19, 3) := by decide +kernel
theorem dX6_text_4 : decode cX6_text 4 = .ok (.aload_n 0, 1) := by decide +kernel
theorem dX6_text_5 : decode cX6_text 5 = .ok (.getfield 12, 3) := by decide +kernel
theorem dX6_text_8 : decode cX6_text 8 = .ok (.invokevirtual 212, 3) := by decide +kernel
theorem dX6_text_11 : decode cX6_text 11 = .ok (.aload_n 0, 1) := by decide +kernel
theorem dX6_text_12 : decode cX6_text 12 = .ok (.getfield 41, 3) := by decide +kernel
theorem dX6_text_15 : decode cX6_text 15 = .ok (.aload_n 0, 1) := by decide +kernel
theorem dX6_text_16 : decode cX6_text 16 = .ok (.getfield 19, 3) := by decide +kernel
theorem dX6_text_19 : decode cX6_text 19 = .ok (.invokevirtual 229, 3) := by decide +kernel
theorem dX6_text_22 : decode cX6_text 22 = .ok (.istore_n 1, 1) := by decide +kernel
theorem dX6_text_23 : decode cX6_text 23 = .ok (.aload_n 0, 1) := by decide +kernel
theorem dX6_text_24 : decode cX6_text 24 = .ok (.getfield 41, 3) := by decide +kernel
theorem dX6_text_27 : decode cX6_text 27 = .ok (.invokevirtual 226, 3) := by decide +kernel
theorem dX6_text_30 : decode cX6_text 30 = .ok (.pop, 1) := by decide +kernel
theorem dX6_text_31 : decode cX6_text 31 = .ok (.iload_n 1, 1) := by decide +kernel
theorem dX6_text_32 : decode cX6_text 32 = .ok (.ifCond .lt 14, 3) := by decide +kernel
theorem dX6_text_35 : decode cX6_text 35 = .ok (.aload_n 0, 1) := by decide +kernel
theorem dX6_text_36 : decode cX6_text 36 = .ok (.getfield 12, 3) := by decide +kernel
theorem dX6_text_39 : decode cX6_text 39 = .ok (.aload_n 0, 1) := by decide +kernel
theorem dX6_text_40 : decode cX6_text 40 = .ok (.getfield 19, 3) := by decide +kernel
theorem dX6_text_43 : decode cX6_text 43 = .ok (.invokevirtual 212, 3) := by decide +kernel
theorem dX6_text_46 : decode cX6_text 46 = .ok (.iload_n 1, 1) := by decide +kernel
theorem dX6_text_47 : decode cX6_text 47 = .ok (.ireturn, 1) := by decide +kernel
theorem dX6_hold_0 : decode cX6_hold 0 = .ok (.iload_n 1, 1) := by decide +kernel
theorem dX6_hold_1 : decode cX6_hold 1 = .ok (.iconst 0, 1) := by decide +kernel
theorem dX6_hold_2 : decode cX6_hold 2 = .ok (.bipush 9, 2) := by decide +kernel
theorem dX6_hold_4 : decode cX6_hold 4 = .ok (.invokestatic 60, 3) := by decide +kernel
theorem dX6_hold_7 : decode cX6_hold 7 = .ok (.ifCond .eq 19, 3) := by decide +kernel
theorem dX6_hold_10 : decode cX6_hold 10 = .ok (.iload_n 2, 1) := by decide +kernel
theorem dX6_hold_11 : decode cX6_hold 11 = .ok (.iconst (-1), 1) := by decide +kernel
theorem dX6_hold_12 : decode cX6_hold 12 = .ok (.if_icmp .eq 21, 3) := by decide +kernel
theorem dX6_hold_15 : decode cX6_hold 15 = .ok (.aload_n 0, 1) := by decide +kernel
theorem dX6_hold_16 : decode cX6_hold 16 = .ok (.getfield 12, 3) := by decide +kernel
theorem dX6_hold_19 : decode cX6_hold 19 = .ok (.iload_n 2, 1) := by decide +kernel
theorem dX6_hold_20 : decode cX6_hold 20 = .ok (.invokevirtual 86, 3) := by decide +kernel
theorem dX6_hold_23 : decode cX6_hold 23 = .ok (.ifCond .ne 10, 3) := by decide +kernel
theorem dX6_hold_26 : decode cX6_hold 26 = .ok (.aload_n 0, 1) := by decide +kernel
theorem dX6_hold_27 : decode cX6_hold 27 = .ok (.ldc 64, 2) := by decide +kernel
theorem dX6_hold_29 : decode cX6_hold 29 = .ok (.invokevirtual 65, 3) := by decide +kernel
theorem dX6_hold_32 : decode cX6_hold 32 = .ok (.ireturn, 1) := by decide +kernel
theorem dX6_hold_33 : decode cX6_hold 33 = .ok (.aload_n 0, 1) := by decide +kernel
theorem dX6_hold_34 : decode cX6_hold 34 = .ok (.getfield 12, 3) := by decide +kernel
theorem dX6_hold_37 : decode cX6_hold 37 = .ok (.getfield 232, 3) := by decide +kernel
theorem dX6_hold_40 : decode cX6_hold 40 = .ok (.iload_n 1, 1) := by decide +kernel
theorem dX6_hold_41 : decode cX6_hold 41 = .ok (.iload_n 2, 1) := by decide +kernel
theorem dX6_hold_42 : decode cX6_hold 42 = .ok (.iastore, 1) := by decide +kernel
theorem dX6_hold_43 : decode cX6_hold 43 = .ok (.iconst 1, 1) := by decide +kernel
theorem dX6_hold_44 : decode cX6_hold 44 = .ok (.ireturn, 1) := by decide +kernel
theorem dX6_as_0 : decode cX6_as 0 = .ok (.iload_n 1, 1) := by decide +kernel
theorem dX6_as_1 : decode cX6_as 1 = .ok (.iconst 0, 1) := by decide +kernel
theorem dX6_as_2 : decode cX6_as 2 = .ok (.bipush 9, 2) := by decide +kernel
theorem dX6_as_4 : decode cX6_as 4 = .ok (.invokestatic 60, 3) := by decide +kernel
theorem dX6_as_7 : decode cX6_as 7 = .ok (.ifCond .eq 10, 3) := by decide +kernel
theorem dX6_as_10 : decode cX6_as 10 = .ok (.iload_n 2, 1) := by decide +kernel
theorem dX6_as_11 : decode cX6_as 11 = .ok (.invokestatic 72, 3) := by decide +kernel
theorem dX6_as_14 : decode cX6_as 14 = .ok (.ifCond .ne 10, 3) := by decide +kernel
theorem dX6_as_17 : decode cX6_as 17 = .ok (.aload_n 0, 1) := by decide +kernel
theorem dX6_as_18 : decode cX6_as 18 = .ok (.ldc 64, 2) := by decide +kernel
theorem dX6_as_20 : decode cX6_as 20 = .ok (.invokevirtual 65, 3) := by decide +kernel
theorem dX6_as_23 : decode cX6_as 23 = .ok (.ireturn, 1) := by decide +kernel
theorem dX6_as_24 : decode cX6_as 24 = .ok (.aload_n 0, 1) := by decide +kernel
theorem dX6_as_25 : decode cX6_as 25 = .ok (.getfield 12, 3) := by decide +kernel
theorem dX6_as_28 : decode cX6_as 28 = .ok (.getfield 232, 3) := by decide +kernel
theorem dX6_as_31 : decode cX6_as 31 = .ok (.iload_n 1, 1) := by decide +kernel
theorem dX6_as_32 : decode cX6_as 32 = .ok (.iaload, 1) := by decide +kernel
theorem dX6_as_33 : decode cX6_as 33 = .ok (.istore_n 3, 1) := by decide +kernel
theorem dX6_as_34 : decode cX6_as 34 = .ok (.aload_n 0, 1) := by decide +kernel
theorem dX6_as_35 : decode cX6_as 35 = .ok (.getfield 12, 3) := by decide +kernel
theorem dX6_as_38 : decode cX6_as 38 = .ok (.iload_n 3, 1) := by decide +kernel
theorem dX6_as_39 : decode cX6_as 39 = .ok (.invokevirtual 86, 3) := by decide +kernel
theorem dX6_as_42 : decode cX6_as 42 = .ok (.ifCond .ne 10, 3) := by decide +kernel
theorem dX6_as_45 : decode cX6_as 45 = .ok (.aload_n 0, 1) := by decide +kernel
theorem dX6_as_46 : decode cX6_as 46 = .ok (.ldc 235, 2) := by decide +kernel
theorem dX6_as_48 : decode cX6_as 48 = .ok (.invokevirtual 65, 3) := by decide +kernel
theorem dX6_as_51 : decode cX6_as 51 = .ok (.ireturn, 1) := by decide +kernel
theorem dX6_as_52 : decode cX6_as 52 = .ok (.aload_n 0, 1) := by decide +kernel
theorem dX6_as_53 : decode cX6_as 53 = .ok (.getfield 12, 3) := by decide +kernel
theorem dX6_as_56 : decode cX6_as 56 = .ok (.getfield 89, 3) := by decide +kernel
theorem dX6_as_59 : decode cX6_as 59 = .ok (.iload_n 3, 1) := by decide +kernel
theorem dX6_as_60 : decode cX6_as 60 = .ok (.iaload, 1) := by decide +kernel
theorem dX6_as_61 : decode cX6_as 61 = .ok (.iload_n 2, 1) := by decide +kernel
theorem dX6_as_62 : decode cX6_as 62 = .ok (.invokestatic 236, 3) := by decide +kernel
theorem dX6_as_65 : decode cX6_as 65 = .ok (.ifCond .eq 7, 3) := by decide +kernel
theorem dX6_as_68 : decode cX6_as 68 = .ok (.iload_n 3, 1) := by decide +kernel
theorem dX6_as_69 : decode cX6_as 69 = .ok (.goto 9, 3) := by decide +kernel
theorem dX6_as_72 : decode cX6_as 72 = .ok (.aload_n 0, 1) := by decide +kernel
theorem dX6_as_73 : decode cX6_as 73 = .ok (.ldc 239, 2) := by decide +kernel
theorem dX6_as_75 : decode cX6_as 75 = .ok (.invokevirtual 65, 3) := by decide +kernel
theorem dX6_as_78 : decode cX6_as 78 = .ok (.ireturn, 1) := by decide +kernel
theorem dX6_sheet_0 : decode cX6_sheet 0 = .ok (.iload_n 1, 1) := by decide +kernel
theorem dX6_sheet_1 : decode cX6_sheet 1 = .ok (.invokestatic 240, 3) := by decide +kernel
theorem dX6_sheet_4 : decode cX6_sheet 4 = .ok (.ifCond .eq 25, 3) := by decide +kernel
theorem dX6_sheet_7 : decode cX6_sheet 7 = .ok (.iload_n 2, 1) := by decide +kernel
theorem dX6_sheet_8 : decode cX6_sheet 8 = .ok (.ifCond .eq 28, 3) := by decide +kernel
theorem dX6_sheet_11 : decode cX6_sheet 11 = .ok (.iload_n 2, 1) := by decide +kernel
theorem dX6_sheet_12 : decode cX6_sheet 12 = .ok (.bipush 8, 2) := by decide +kernel
theorem dX6_sheet_14 : decode cX6_sheet 14 = .ok (.if_icmp .eq 22, 3) := by decide +kernel
theorem dX6_sheet_17 : decode cX6_sheet 17 = .ok (.iload_n 2, 1) := by decide +kernel
theorem dX6_sheet_18 : decode cX6_sheet 18 = .ok (.bipush 16, 2) := by decide +kernel
theorem dX6_sheet_20 : decode cX6_sheet 20 = .ok (.if_icmp .eq 16, 3) := by decide +kernel
theorem dX6_sheet_23 : decode cX6_sheet 23 = .ok (.iload_n 2, 1) := by decide +kernel
theorem dX6_sheet_24 : decode cX6_sheet 24 = .ok (.bipush 32, 2) := by decide +kernel
theorem dX6_sheet_26 : decode cX6_sheet 26 = .ok (.if_icmp .eq 10, 3) := by decide +kernel
theorem dX6_sheet_29 : decode cX6_sheet 29 = .ok (.aload_n 0, 1) := by decide +kernel
theorem dX6_sheet_30 : decode cX6_sheet 30 = .ok (.ldc 64, 2) := by decide +kernel
theorem dX6_sheet_32 : decode cX6_sheet 32 = .ok (.invokevirtual 65, 3) := by decide +kernel
theorem dX6_sheet_35 : decode cX6_sheet 35 = .ok (.ireturn, 1) := by decide +kernel
theorem dX6_sheet_36 : decode cX6_sheet 36 = .ok (.iload_n 3, 1) := by decide +kernel
theorem dX6_sheet_37 : decode cX6_sheet 37 = .ok (.ifCond .ge 10, 3) := by decide +kernel
theorem dX6_sheet_40 : decode cX6_sheet 40 = .ok (.aload_n 0, 1) := by decide +kernel
theorem dX6_sheet_41 : decode cX6_sheet 41 = .ok (.ldc 243, 2) := by decide +kernel
theorem dX6_sheet_43 : decode cX6_sheet 43 = .ok (.invokevirtual 65, 3) := by decide +kernel
theorem dX6_sheet_46 : decode cX6_sheet 46 = .ok (.ireturn, 1) := by decide +kernel
theorem dX6_sheet_47 : decode cX6_sheet 47 = .ok (.iload_n 3, 1) := by decide +kernel
theorem dX6_sheet_48 : decode cX6_sheet 48 = .ok (.bipush 40, 2) := by decide +kernel
theorem dX6_sheet_50 : decode cX6_sheet 50 = .ok (.if_icmp .le 12, 3) := by decide +kernel
theorem dX6_sheet_53 : decode cX6_sheet 53 = .ok (.aload_n 0, 1) := by decide +kernel
theorem dX6_sheet_54 : decode cX6_sheet 54 = .ok (.ldc 64, 2) := by decide +kernel
theorem dX6_sheet_56 : decode cX6_sheet 56 = .ok (.invokevirtual 65, 3) := by decide +kernel
theorem dX6_sheet_59 : decode cX6_sheet 59 = .ok (.goto 14, 3) := by decide +kernel
theorem dX6_sheet_62 : decode cX6_sheet 62 = .ok (.aload_n 0, 1) := by decide +kernel
theorem dX6_sheet_63 : decode cX6_sheet 63 = .ok (.getfield 47, 3) := by decide +kernel
theorem dX6_sheet_66 : decode cX6_sheet 66 = .ok (.iload_n 1, 1) := by decide +kernel
theorem dX6_sheet_67 : decode cX6_sheet 67 = .ok (.aaload, 1) := by decide +kernel
theorem dX6_sheet_68 : decode cX6_sheet 68 = .ok (.iload_n 2, 1) := by decide +kernel
theorem dX6_sheet_69 : decode cX6_sheet 69 = .ok (.iload_n 3, 1) := by decide +kernel
theorem dX6_sheet_70 : decode cX6_sheet 70 = .ok (.invokevirtual 244, 3) := by decide +kernel
theorem dX6_sheet_73 : decode cX6_sheet 73 = .ok (.ireturn, 1) := by decide +kernel
theorem dX6_write_0 : decode cX6_write 0 = .ok (.iload_n 1, 1) := by decide +kernel
theorem dX6_write_1 : decode cX6_write 1 = .ok (.invokestatic 240, 3) := by decide +kernel
theorem dX6_write_4 : decode cX6_write 4 = .ok (.ifCond .ne 10, 3) := by decide +kernel
theorem dX6_write_7 : decode cX6_write 7 = .ok (.aload_n 0, 1) := by decide +kernel
theorem dX6_write_8 : decode cX6_write 8 = .ok (.ldc 64, 2) := by decide +kernel
theorem dX6_write_10 : decode cX6_write 10 = .ok (.invokevirtual 65, 3) := by decide +kernel
theorem dX6_write_13 : decode cX6_write 13 = .ok (.ireturn, 1) := by decide +kernel
theorem dX6_write_14 : decode cX6_write 14 = .ok (.aload_n 0, 1) := by decide +kernel
theorem dX6_write_15 : decode cX6_write 15 = .ok (.getfield 47, 3) := by decide +kernel
theorem dX6_write_18 : decode cX6_write 18 = .ok (.iload_n 1, 1) := by decide +kernel
theorem dX6_write_19 : decode cX6_write 19 = .ok (.aaload, 1) := by decide +kernel
theorem dX6_write_20 : decode cX6_write 20 = .ok (.invokevirtual 247, 3) := by decide +kernel
theorem dX6_write_23 : decode cX6_write 23 = .ok (.ifCond .eq 10, 3) := by decide +kernel
theorem dX6_write_26 : decode cX6_write 26 = .ok (.aload_n 0, 1) := by decide +kernel
theorem dX6_write_27 : decode cX6_write 27 = .ok (.ldc 235, 2) := by decide +kernel
theorem dX6_write_29 : decode cX6_write 29 = .ok (.invokevirtual 65, 3) := by decide +kernel
theorem dX6_write_32 : decode cX6_write 32 = .ok (.ireturn, 1) := by decide +kernel
theorem dX6_write_33 : decode cX6_write 33 = .ok (.iload_n 2, 1) := by decide +kernel
theorem dX6_write_34 : decode cX6_write 34 = .ok (.iconst 0, 1) := by decide +kernel
theorem dX6_write_35 : decode cX6_write 35 = .ok (.aload_n 0, 1) := by decide +kernel
theorem dX6_write_36 : decode cX6_write 36 = .ok (.getfield 47, 3) := by decide +kernel
theorem dX6_write_39 : decode cX6_write 39 = .ok (.iload_n 1, 1) := by decide +kernel
theorem dX6_write_40 : decode cX6_write 40 = .ok (.aaload, 1) := by decide +kernel
theorem dX6_write_41 : decode cX6_write 41 = .ok (.getfield 251, 3) := by decide +kernel
theorem dX6_write_44 : decode cX6_write 44 = .ok (.iconst 1, 1) := by decide +kernel
theorem dX6_write_45 : decode cX6_write 45 = .ok (.isub, 1) := by decide +kernel
theorem dX6_write_46 : decode cX6_write 46 = .ok (.invokestatic 60, 3) := by decide +kernel
theorem dX6_write_49 : decode cX6_write 49 = .ok (.ifCond .ne 10, 3) := by decide +kernel
theorem dX6_write_52 : decode cX6_write 52 = .ok (.aload_n 0, 1) := by decide +kernel
theorem dX6_write_53 : decode cX6_write 53 = .ok (.ldc 64, 2) := by decide +kernel
theorem dX6_write_55 : decode cX6_write 55 = .ok (.invokevirtual 65, 3) := by decide +kernel
theorem dX6_write_58 : decode cX6_write 58 = .ok (.ireturn, 1) := by decide +kernel
theorem dX6_write_59 : decode cX6_write 59 = .ok (.aload_n 0, 1) := by decide +kernel
theorem dX6_write_60 : decode cX6_write 60 = .ok (.getfield 47, 3) := by decide +kernel
theorem dX6_write_63 : decode cX6_write 63 = .ok (.iload_n 1, 1) := by decide +kernel
theorem dX6_write_64 : decode cX6_write 64 = .ok (.aaload, 1) := by decide +kernel
theorem dX6_write_65 : decode cX6_write 65 = .ok (.iload_n 2, 1) := by decide +kernel
theorem dX6_write_66 : decode cX6_write 66 = .ok (.iload_n 3, 1) := by decide +kernel
theorem dX6_write_67 : decode cX6_write 67 = .ok (.invokevirtual 254, 3) := by decide +kernel
theorem dX6_write_70 : decode cX6_write 70 = .ok (.iconst 1, 1) := by decide +kernel
theorem dX6_write_71 : decode cX6_write 71 = .ok (.ireturn, 1) := by decide +kernel
theorem dX6_copy_0 : decode cX6_copy 0 = .ok (.iload_n 1, 1) := by decide +kernel
theorem dX6_copy_1 : decode cX6_copy 1 = .ok (.invokestatic 240, 3) := by decide +kernel
theorem dX6_copy_4 : decode cX6_copy 4 = .ok (.ifCond .eq 10, 3) := by decide +kernel
theorem dX6_copy_7 : decode cX6_copy 7 = .ok (.iload_n 3, 1) := by decide +kernel
theorem dX6_copy_8 : decode cX6_copy 8 = .ok (.invokestatic 240, 3) := by decide +kernel
theorem dX6_copy_11 : decode cX6_copy 11 = .ok (.ifCond .ne 10, 3) := by decide +kernel
theorem dX6_copy_14 : decode cX6_copy 14 = .ok (.aload_n 0, 1) := by decide +kernel
theorem dX6_copy_15 : decode cX6_copy 15 = .ok (.ldc 64, 2) := by decide +kernel
theorem dX6_copy_17 : decode cX6_copy 17 = .ok (.invokevirtual 65, 3) := by decide +kernel
theorem dX6_copy_20 : decode cX6_copy 20 = .ok (.ireturn, 1) := by decide +kernel
theorem dX6_copy_21 : decode cX6_copy 21 = .ok (.aload_n 0, 1) := by decide +kernel
theorem dX6_copy_22 : decode cX6_copy 22 = .ok (.getfield 47, 3) := by decide +kernel
theorem dX6_copy_25 : decode cX6_copy 25 = .ok (.iload_n 1, 1) := by decide +kernel
theorem dX6_copy_26 : decode cX6_copy 26 = .ok (.aaload, 1) := by decide +kernel
theorem dX6_copy_27 : decode cX6_copy 27 = .ok (.invokevirtual 247, 3) := by decide +kernel
theorem dX6_copy_30 : decode cX6_copy 30 = .ok (.ifCond .ne 15, 3) := by decide +kernel
theorem dX6_copy_33 : decode cX6_copy 33 = .ok (.aload_n 0, 1) := by decide +kernel
theorem dX6_copy_34 : decode cX6_copy 34 = .ok (.getfield 47, 3) := by decide +kernel
theorem dX6_copy_37 : decode cX6_copy 37 = .ok (.iload_n 3, 1) := by decide +kernel
theorem dX6_copy_38 : decode cX6_copy 38 = .ok (.aaload, 1) := by decide +kernel
theorem dX6_copy_39 : decode cX6_copy 39 = .ok (.invokevirtual 247, 3) := by decide +kernel
theorem dX6_copy_42 : decode cX6_copy 42 = .ok (.ifCond .eq 10, 3) := by decide +kernel
theorem dX6_copy_45 : decode cX6_copy 45 = .ok (.aload_n 0, 1) := by decide +kernel
theorem dX6_copy_46 : decode cX6_copy 46 = .ok (.ldc 235, 2) := by decide +kernel
theorem dX6_copy_48 : decode cX6_copy 48 = .ok (.invokevirtual 65, 3) := by decide +kernel
theorem dX6_copy_51 : decode cX6_copy 51 = .ok (.ireturn, 1) := by decide +kernel
theorem dX6_copy_52 : decode cX6_copy 52 = .ok (.aload_n 0, 1) := by decide +kernel
theorem dX6_copy_53 : decode cX6_copy 53 = .ok (.getfield 47, 3) := by decide +kernel
theorem dX6_copy_56 : decode cX6_copy 56 = .ok (.iload_n 1, 1) := by decide +kernel
theorem dX6_copy_57 : decode cX6_copy 57 = .ok (.aaload, 1) := by decide +kernel
theorem dX6_copy_58 : decode cX6_copy 58 = .ok (.getfield 258, 3) := by decide +kernel
theorem dX6_copy_61 : decode cX6_copy 61 = .ok (.aload_n 0, 1) := by decide +kernel
theorem dX6_copy_62 : decode cX6_copy 62 = .ok (.getfield 47, 3) := by decide +kernel
theorem dX6_copy_65 : decode cX6_copy 65 = .ok (.iload_n 3, 1) := by decide +kernel
theorem dX6_copy_66 : decode cX6_copy 66 = .ok (.aaload, 1) := by decide +kernel
theorem dX6_copy_67 : decode cX6_copy 67 = .ok (.getfield 258, 3) := by decide +kernel
theorem dX6_copy_70 : decode cX6_copy 70 = .ok (.if_icmp .eq 10, 3) := by decide +kernel
theorem dX6_copy_73 : decode cX6_copy 73 = .ok (.aload_n 0, 1) := by decide +kernel
theorem dX6_copy_74 : decode cX6_copy 74 = .ok (.ldc 239, 2) := by decide +kernel
theorem dX6_copy_76 : decode cX6_copy 76 = .ok (.invokevirtual 65, 3) := by decide +kernel
theorem dX6_copy_79 : decode cX6_copy 79 = .ok (.ireturn, 1) := by decide +kernel
theorem dX6_copy_80 : decode cX6_copy 80 = .ok (.aload_n 0, 1) := by decide +kernel
theorem dX6_copy_81 : decode cX6_copy 81 = .ok (.getfield 47, 3) := by decide +kernel
theorem dX6_copy_84 : decode cX6_copy 84 = .ok (.iload_n 1, 1) := by decide +kernel
theorem dX6_copy_85 : decode cX6_copy 85 = .ok (.aaload, 1) := by decide +kernel
theorem dX6_copy_86 : decode cX6_copy 86 = .ok (.iload_n 2, 1) := by decide +kernel
theorem dX6_copy_87 : decode cX6_copy 87 = .ok (.iload 5, 2) := by decide +kernel
theorem dX6_copy_89 : decode cX6_copy 89 = .ok (.invokevirtual 261, 3) := by decide +kernel
theorem dX6_copy_92 : decode cX6_copy 92 = .ok (.ifCond .eq 19, 3) := by decide +kernel
theorem dX6_copy_95 : decode cX6_copy 95 = .ok (.aload_n 0, 1) := by decide +kernel
theorem dX6_copy_96 : decode cX6_copy 96 = .ok (.getfield 47, 3) := by decide +kernel
theorem dX6_copy_99 : decode cX6_copy 99 = .ok (.iload_n 3, 1) := by decide +kernel
theorem dX6_copy_100 : decode cX6_copy 100 = .ok (.aaload, 1) := by decide +kernel
theorem dX6_copy_101 : decode cX6_copy 101 = .ok (.iload 4, 2) := by decide +kernel
theorem dX6_copy_103 : decode cX6_copy 103 = .ok (.iload 5, 2) := by decide +kernel
theorem dX6_copy_105 : decode cX6_copy 105 = .ok (.invokevirtual 261, 3) := by decide +kernel
theorem dX6_copy_108 : decode cX6_copy 108 = .ok (.ifCond .ne 10, 3) := by decide +kernel
theorem dX6_copy_111 : decode cX6_copy 111 = .ok (.aload_n 0, 1) := by decide +kernel
theorem dX6_copy_112 : decode cX6_copy 112 = .ok (.ldc 64, 2) := by decide +kernel
theorem dX6_copy_114 : decode cX6_copy 114 = .ok (.invokevirtual 65, 3) := by decide +kernel
theorem dX6_copy_117 : decode cX6_copy 117 = .ok (.ireturn, 1) := by decide +kernel
theorem dX6_copy_118 : decode cX6_copy 118 = .ok (.aload_n 0, 1) := by decide +kernel
theorem dX6_copy_119 : decode cX6_copy 119 = .ok (.getfield 47, 3) := by decide +kernel
theorem dX6_copy_122 : decode cX6_copy 122 = .ok (.iload_n 1, 1) := by decide +kernel
theorem dX6_copy_123 : decode cX6_copy 123 = .ok (.aaload, 1) := by decide +kernel
theorem dX6_copy_124 : decode cX6_copy 124 = .ok (.getfield 264, 3) := by decide +kernel
theorem dX6_copy_127 : decode cX6_copy 127 = .ok (.iload_n 2, 1) := by decide +kernel
theorem dX6_copy_128 : decode cX6_copy 128 = .ok (.aload_n 0, 1) := by decide +kernel
theorem dX6_copy_129 : decode cX6_copy 129 = .ok (.getfield 47, 3) := by decide +kernel
theorem dX6_copy_132 : decode cX6_copy 132 = .ok (.iload_n 3, 1) := by decide +kernel
theorem dX6_copy_133 : decode cX6_copy 133 = .ok (.aaload, 1) := by decide +kernel
theorem dX6_copy_134 : decode cX6_copy 134 = .ok (.getfield 264, 3) := by decide +kernel
theorem dX6_copy_137 : decode cX6_copy 137 = .ok (.iload 4, 2) := by decide +kernel
theorem dX6_copy_139 : decode cX6_copy 139 = .ok (.iload 5, 2) := by decide +kernel
theorem dX6_copy_141 : decode cX6_copy 141 = .ok (.invokestatic 267, 3) := by decide +kernel
theorem dX6_copy_144 : decode cX6_copy 144 = .ok (.iload 5, 2) := by decide +kernel
theorem dX6_copy_146 : decode cX6_copy 146 = .ok (.ireturn, 1) := by decide +kernel
theorem dX6_load_0 : decode cX6_load 0 = .ok (.iload_n 1, 1) := by decide +kernel
theorem dX6_load_1 : decode cX6_load 1 = .ok (.invokestatic 240, 3) := by decide +kernel
theorem dX6_load_4 : decode cX6_load 4 = .ok (.ifCond .ne 10, 3) := by decide +kernel
theorem dX6_load_7 : decode cX6_load 7 = .ok (.aload_n 0, 1) := by decide +kernel
theorem dX6_load_8 : decode cX6_load 8 = .ok (.ldc 64, 2) := by decide +kernel
theorem dX6_load_10 : decode cX6_load 10 = .ok (.invokevirtual 65, 3) := by decide +kernel
theorem dX6_load_13 : decode cX6_load 13 = .ok (.ireturn, 1) := by decide +kernel
theorem dX6_load_14 : decode cX6_load 14 = .ok (.aload_n 0, 1) := by decide +kernel
theorem dX6_load_15 : decode cX6_load 15 = .ok (.getfield 47, 3) := by decide +kernel
theorem dX6_load_18 : decode cX6_load 18 = .ok (.iload_n 1, 1) := by decide +kernel
theorem dX6_load_19 : decode cX6_load 19 = .ok (.aaload, 1) := by decide +kernel
theorem dX6_load_20 : decode cX6_load 20 = .ok (.invokevirtual 247, 3) := by decide +kernel
theorem dX6_load_23 : decode cX6_load 23 = .ok (.ifCond .eq 10, 3) := by decide +kernel
theorem dX6_load_26 : decode cX6_load 26 = .ok (.aload_n 0, 1) := by decide +kernel
theorem dX6_load_27 : decode cX6_load 27 = .ok (.ldc 235, 2) := by decide +kernel
theorem dX6_load_29 : decode cX6_load 29 = .ok (.invokevirtual 65, 3) := by decide +kernel
theorem dX6_load_32 : decode cX6_load 32 = .ok (.ireturn, 1) := by decide +kernel
theorem dX6_load_33 : decode cX6_load 33 = .ok (.aload_n 0, 1) := by decide +kernel
theorem dX6_load_34 : decode cX6_load 34 = .ok (.getfield 47, 3) := by decide +kernel
theorem dX6_load_37 : decode cX6_load 37 = .ok (.iload_n 1, 1) := by decide +kernel
theorem dX6_load_38 : decode cX6_load 38 = .ok (.aaload, 1) := by decide +kernel
theorem dX6_load_39 : decode cX6_load 39 = .ok (.getfield 251, 3) := by decide +kernel
theorem dX6_load_42 : decode cX6_load 42 = .ok (.aload_n 0, 1) := by decide +kernel
theorem dX6_load_43 : decode cX6_load 43 = .ok (.getfield 12, 3) := by decide +kernel
theorem dX6_load_46 : decode cX6_load 46 = .ok (.getfield 126, 3) := by decide +kernel
theorem dX6_load_49 : decode cX6_load 49 = .ok (.invokestatic 273, 3) := by decide +kernel
theorem dX6_load_52 : decode cX6_load 52 = .ok (.istore_n 2, 1) := by decide +kernel
theorem dX6_load_53 : decode cX6_load 53 = .ok (.iconst 0, 1) := by decide +kernel
theorem dX6_load_54 : decode cX6_load 54 = .ok (.istore_n 3, 1) := by decide +kernel
theorem dX6_load_55 : decode cX6_load 55 = .ok (.iload_n 3, 1) := by decide +kernel
theorem dX6_load_56 : decode cX6_load 56 = .ok (.iload_n 2, 1) := by decide +kernel
theorem dX6_load_57 : decode cX6_load 57 = .ok (.if_icmp .ge 62, 3) := by decide +kernel
theorem dX6_load_60 : decode cX6_load 60 = .ok (.aload_n 0, 1) := by decide +kernel
theorem dX6_load_61 : decode cX6_load 61 = .ok (.getfield 47, 3) := by decide +kernel
theorem dX6_load_64 : decode cX6_load 64 = .ok (.iload_n 1, 1) := by decide +kernel
theorem dX6_load_65 : decode cX6_load 65 = .ok (.aaload, 1) := by decide +kernel
theorem dX6_load_66 : decode cX6_load 66 = .ok (.getfield 264, 3) := by decide +kernel
theorem dX6_load_69 : decode cX6_load 69 = .ok (.iload_n 3, 1) := by decide +kernel
theorem dX6_load_70 : decode cX6_load 70 = .ok (.iaload, 1) := by decide +kernel
theorem dX6_load_71 : decode cX6_load 71 = .ok (.istore 4, 2) := by decide +kernel
theorem dX6_load_73 : decode cX6_load 73 = .ok (.iload 4, 2) := by decide +kernel
theorem dX6_load_75 : decode cX6_load 75 = .ok (.iconst (-1), 1) := by decide +kernel
theorem dX6_load_76 : decode cX6_load 76 = .ok (.if_icmp .eq 11, 3) := by decide +kernel
theorem dX6_load_79 : decode cX6_load 79 = .ok (.iload 4, 2) := by decide +kernel
theorem dX6_load_81 : decode cX6_load 81 = .ok (.invokestatic 56, 3) := by decide +kernel
theorem dX6_load_84 : decode cX6_load 84 = .ok (.ifCond .eq 16, 3) := by decide +kernel
theorem dX6_load_87 : decode cX6_load 87 = .ok (.aload_n 0, 1) := by decide +kernel
theorem dX6_load_88 : decode cX6_load 88 = .ok (.getfield 12, 3) := by decide +kernel
theorem dX6_load_91 : decode cX6_load 91 = .ok (.iload_n 3, 1) := by decide +kernel
theorem dX6_load_92 : decode cX6_load 92 = .ok (.iload 4, 2) := by decide +kernel
theorem dX6_load_94 : decode cX6_load 94 = .ok (.invokevirtual 148, 3) := by decide +kernel
theorem dX6_load_97 : decode cX6_load 97 = .ok (.ifCond .ne 5, 3) := by decide +kernel
theorem dX6_load_100 : decode cX6_load 100 = .ok (.iload_n 3, 1) := by decide +kernel
theorem dX6_load_101 : decode cX6_load 101 = .ok (.ireturn, 1) := by decide +kernel
theorem dX6_load_102 : decode cX6_load 102 = .ok (.aload_n 0, 1) := by decide +kernel
theorem dX6_load_103 : decode cX6_load 103 = .ok (.getfield 12, 3) := by decide +kernel
theorem dX6_load_106 : decode cX6_load 106 = .ok (.getfield 136, 3) := by decide +kernel
theorem dX6_load_109 : decode cX6_load 109 = .ok (.iload_n 3, 1) := by decide +kernel
theorem dX6_load_110 : decode cX6_load 110 = .ok (.iload 4, 2) := by decide +kernel
theorem dX6_load_112 : decode cX6_load 112 = .ok (.iastore, 1) := by decide +kernel
theorem dX6_load_113 : decode cX6_load 113 = .ok (.iinc 3 1, 3) := by decide +kernel
theorem dX6_load_116 : decode cX6_load 116 = .ok (.goto (-61), 3) := by decide +kernel
theorem dX6_load_119 : decode cX6_load 119 = .ok (.iload_n 2, 1) := by decide +kernel
theorem dX6_load_120 : decode cX6_load 120 = .ok (.ireturn, 1) := by decide +kernel
theorem dX6_judge_0 : decode cX6_judge 0 = .ok (.iload_n 1, 1) := by decide +kernel
theorem dX6_judge_1 : decode cX6_judge 1 = .ok (.invokestatic 240, 3) := by decide +kernel
theorem dX6_judge_4 : decode cX6_judge 4 = .ok (.ifCond .ne 10, 3) := by decide +kernel
theorem dX6_judge_7 : decode cX6_judge 7 = .ok (.aload_n 0, 1) := by decide +kernel
theorem dX6_judge_8 : decode cX6_judge 8 = .ok (.ldc 64, 2) := by decide +kernel
theorem dX6_judge_10 : decode cX6_judge 10 = .ok (.invokevirtual 65, 3) := by decide +kernel
theorem dX6_judge_13 : decode cX6_judge 13 = .ok (.ireturn, 1) := by decide +kernel
theorem dX6_judge_14 : decode cX6_judge 14 = .ok (.aload_n 0, 1) := by decide +kernel
theorem dX6_judge_15 : decode cX6_judge 15 = .ok (.getfield 47, 3) := by decide +kernel
theorem dX6_judge_18 : decode cX6_judge 18 = .ok (.iload_n 1, 1) := by decide +kernel
theorem dX6_judge_19 : decode cX6_judge 19 = .ok (.aaload, 1) := by decide +kernel
theorem dX6_judge_20 : decode cX6_judge 20 = .ok (.invokevirtual 247, 3) := by decide +kernel
theorem dX6_judge_23 : decode cX6_judge 23 = .ok (.ifCond .eq 10, 3) := by decide +kernel
theorem dX6_judge_26 : decode cX6_judge 26 = .ok (.aload_n 0, 1) := by decide +kernel
theorem dX6_judge_27 : decode cX6_judge 27 = .ok (.ldc 235, 2) := by decide +kernel
theorem dX6_judge_29 : decode cX6_judge 29 = .ok (.invokevirtual 65, 3) := by decide +kernel
theorem dX6_judge_32 : decode cX6_judge 32 = .ok (.ireturn, 1) := by decide +kernel
theorem dX6_judge_33 : decode cX6_judge 33 = .ok (.iload_n 2, 1) := by decide +kernel
theorem dX6_judge_34 : decode cX6_judge 34 = .ok (.iconst 0, 1) := by decide +kernel
theorem dX6_judge_35 : decode cX6_judge 35 = .ok (.bipush 60, 2) := by decide +kernel
theorem dX6_judge_37 : decode cX6_judge 37 = .ok (.invokestatic 60, 3) := by decide +kernel
theorem dX6_judge_40 : decode cX6_judge 40 = .ok (.ifCond .ne 10, 3) := by decide +kernel
theorem dX6_judge_43 : decode cX6_judge 43 = .ok (.aload_n 0, 1) := by decide +kernel
theorem dX6_judge_44 : decode cX6_judge 44 = .ok (.ldc 64, 2) := by decide +kernel
theorem dX6_judge_46 : decode cX6_judge 46 = .ok (.invokevirtual 65, 3) := by decide +kernel
theorem dX6_judge_49 : decode cX6_judge 49 = .ok (.ireturn, 1) := by decide +kernel
theorem dX6_judge_50 : decode cX6_judge 50 = .ok (.aload_n 0, 1) := by decide +kernel
theorem dX6_judge_51 : decode cX6_judge 51 = .ok (.iload_n 2, 1) := by decide +kernel
theorem dX6_judge_52 : decode cX6_judge 52 = .ok (.invokevirtual 156, 3) := by decide +kernel
theorem dX6_judge_55 : decode cX6_judge 55 = .ok (.ifCond .eq 10, 3) := by decide +kernel
theorem dX6_judge_58 : decode cX6_judge 58 = .ok (.aload_n 0, 1) := by decide +kernel
theorem dX6_judge_59 : decode cX6_judge 59 = .ok (.ldc 151, 2) := by decide +kernel
theorem dX6_judge_61 : decode cX6_judge 61 = .ok (.invokevirtual 65, 3) := by decide +kernel
theorem dX6_judge_64 : decode cX6_judge 64 = .ok (.ireturn, 1) := by decide +kernel
theorem dX6_judge_65 : decode cX6_judge 65 = .ok (.aload_n 0, 1) := by decide +kernel
theorem dX6_judge_66 : decode cX6_judge 66 = .ok (.iload_n 2, 1) := by decide +kernel
theorem dX6_judge_67 : decode cX6_judge 67 = .ok (.invokevirtual 166, 3) := by decide +kernel
theorem dX6_judge_70 : decode cX6_judge 70 = .ok (.aload_n 0, 1) := by decide +kernel
theorem dX6_judge_71 : decode cX6_judge 71 = .ok (.getfield 47, 3) := by decide +kernel
theorem dX6_judge_74 : decode cX6_judge 74 = .ok (.iload_n 1, 1) := by decide +kernel
theorem dX6_judge_75 : decode cX6_judge 75 = .ok (.aaload, 1) := by decide +kernel
theorem dX6_judge_76 : decode cX6_judge 76 = .ok (.getfield 251, 3) := by decide +kernel
theorem dX6_judge_79 : decode cX6_judge 79 = .ok (.aload_n 0, 1) := by decide +kernel
theorem dX6_judge_80 : decode cX6_judge 80 = .ok (.getfield 19, 3) := by decide +kernel
theorem dX6_judge_83 : decode cX6_judge 83 = .ok (.getfield 77, 3) := by decide +kernel
theorem dX6_judge_86 : decode cX6_judge 86 = .ok (.invokestatic 273, 3) := by decide +kernel
theorem dX6_judge_89 : decode cX6_judge 89 = .ok (.istore_n 3, 1) := by decide +kernel
theorem dX6_judge_90 : decode cX6_judge 90 = .ok (.iconst 0, 1) := by decide +kernel
theorem dX6_judge_91 : decode cX6_judge 91 = .ok (.istore 4, 2) := by decide +kernel
theorem dX6_judge_93 : decode cX6_judge 93 = .ok (.iload 4, 2) := by decide +kernel
theorem dX6_judge_95 : decode cX6_judge 95 = .ok (.iload_n 3, 1) := by decide +kernel
theorem dX6_judge_96 : decode cX6_judge 96 = .ok (.if_icmp .ge 34, 3) := by decide +kernel
theorem dX6_judge_99 : decode cX6_judge 99 = .ok (.aload_n 0, 1) := by decide +kernel
theorem dX6_judge_100 : decode cX6_judge 100 = .ok (.getfield 47, 3) := by decide +kernel
theorem dX6_judge_103 : decode cX6_judge 103 = .ok (.iload_n 1, 1) := by decide +kernel
theorem dX6_judge_104 : decode cX6_judge 104 = .ok (.aaload, 1) := by decide +kernel
theorem dX6_judge_105 : decode cX6_judge 105 = .ok (.getfield 264, 3) := by decide +kernel
theorem dX6_judge_108 : decode cX6_judge 108 = .ok (.iload 4, 2) := by decide +kernel
theorem dX6_judge_110 : decode cX6_judge 110 = .ok (.iaload, 1) := by decide +kernel
theorem dX6_judge_111 : decode cX6_judge 111 = .ok (.aload_n 0, 1) := by decide +kernel
theorem dX6_judge_112 : decode cX6_judge 112 = .ok (.getfield 19, 3) := by decide +kernel
theorem dX6_judge_115 : decode cX6_judge 115 = .ok (.getfield 95, 3) := by decide +kernel
theorem dX6_judge_118 : decode cX6_judge 118 = .ok (.iload 4, 2) := by decide +kernel
theorem dX6_judge_120 : decode cX6_judge 120 = .ok (.iaload, 1) := by decide +kernel
theorem dX6_judge_121 : decode cX6_judge 121 = .ok (.if_icmp .ne 9, 3) := by decide +kernel
theorem dX6_judge_124 : decode cX6_judge 124 = .ok (.iinc 4 1, 3) := by decide +kernel
theorem dX6_judge_127 : decode cX6_judge 127 = .ok (.goto (-34), 3) := by decide +kernel
theorem dX6_judge_130 : decode cX6_judge 130 = .ok (.iload 4, 2) := by decide +kernel
theorem dX6_judge_132 : decode cX6_judge 132 = .ok (.aload_n 0, 1) := by decide +kernel
theorem dX6_judge_133 : decode cX6_judge 133 = .ok (.getfield 47, 3) := by decide +kernel
theorem dX6_judge_136 : decode cX6_judge 136 = .ok (.iload_n 1, 1) := by decide +kernel
theorem dX6_judge_137 : decode cX6_judge 137 = .ok (.aaload, 1) := by decide +kernel
theorem dX6_judge_138 : decode cX6_judge 138 = .ok (.getfield 251, 3) := by decide +kernel
theorem dX6_judge_141 : decode cX6_judge 141 = .ok (.if_icmp .ne 19, 3) := by decide +kernel
theorem dX6_judge_144 : decode cX6_judge 144 = .ok (.iload 4, 2) := by decide +kernel
theorem dX6_judge_146 : decode cX6_judge 146 = .ok (.aload_n 0, 1) := by decide +kernel
theorem dX6_judge_147 : decode cX6_judge 147 = .ok (.getfield 19, 3) := by decide +kernel
theorem dX6_judge_150 : decode cX6_judge 150 = .ok (.getfield 77, 3) := by decide +kernel
theorem dX6_judge_153 : decode cX6_judge 153 = .ok (.if_icmp .ne 7, 3) := by decide +kernel
theorem dX6_judge_156 : decode cX6_judge 156 = .ok (.iconst 1, 1) := by decide +kernel
theorem dX6_judge_157 : decode cX6_judge 157 = .ok (.goto 4, 3) := by decide +kernel
theorem dX6_judge_160 : decode cX6_judge 160 = .ok (.iconst 0, 1) := by decide +kernel
theorem dX6_judge_161 : decode cX6_judge 161 = .ok (.istore 5, 2) := by decide +kernel
theorem dX6_judge_163 : decode cX6_judge 163 = .ok (.iload 5, 2) := by decide +kernel
theorem dX6_judge_165 : decode cX6_judge 165 = .ok (.ifCond .eq 7, 3) := by decide +kernel
theorem dX6_judge_168 : decode cX6_judge 168 = .ok (.iconst 0, 1) := by decide +kernel
theorem dX6_judge_169 : decode cX6_judge 169 = .ok (.goto 7, 3) := by decide +kernel
theorem dX6_judge_172 : decode cX6_judge 172 = .ok (.iconst 1, 1) := by decide +kernel
theorem dX6_judge_173 : decode cX6_judge 173 = .ok (.iload 4, 2) := by decide +kernel
theorem dX6_judge_175 : decode cX6_judge 175 = .ok (.iadd, 1) := by decide +kernel
theorem dX6_judge_176 : decode cX6_judge 176 = .ok (.ireturn, 1) := by decide +kernel
theorem dX6_image_0 : decode cX6_image 0 = .ok (.aload_n 0, 1) := by decide +kernel
theorem dX6_image_1 : decode cX6_image 1 = .ok (.getfield 16, 3) := by decide +kernel
theorem dX6_image_4 : decode cX6_image 4 = .ok (.aload_n 0, 1) := by decide +kernel
theorem dX6_image_5 : decode cX6_image 5 = .ok (.getfield 12, 3) := by decide +kernel
theorem dX6_image_8 : decode cX6_image 8 = .ok (.invokevirtual 212, 3) := by decide +kernel
theorem dX6_image_11 : decode cX6_image 11 = .ok (.aload_n 0, 1) := by decide +kernel
theorem dX6_image_12 : decode cX6_image 12 = .ok (.iconst 1, 1) := by decide +kernel
theorem dX6_image_13 : decode cX6_image 13 = .ok (.putfield 278, 3) := by decide +kernel
theorem dX6_image_16 : decode cX6_image 16 = .ok (.iconst 1, 1) := by decide +kernel
theorem dX6_image_17 : decode cX6_image 17 = .ok (.ireturn, 1) := by decide +kernel
theorem dX6_undo_0 : decode cX6_undo 0 = .ok (.aload_n 0, 1) := by decide +kernel
theorem dX6_undo_1 : decode cX6_undo 1 = .ok (.getfield 278, 3) := by decide +kernel
theorem dX6_undo_4 : decode cX6_undo 4 = .ok (.ifCond .ne 10, 3) := by decide +kernel
theorem dX6_undo_7 : decode cX6_undo 7 = .ok (.aload_n 0, 1) := by decide +kernel
theorem dX6_undo_8 : decode cX6_undo 8 = .ok (.ldc 182, 2) := by decide +kernel
theorem dX6_undo_10 : decode cX6_undo 10 = .ok (.invokevirtual 65, 3) := by decide +kernel
theorem dX6_undo_13 : decode cX6_undo 13 = .ok (.ireturn, 1) := by decide +kernel
theorem dX6_undo_14 : decode cX6_undo 14 = .ok (.aload_n 0, 1) := by decide +kernel
theorem dX6_undo_15 : decode cX6_undo 15 = .ok (.getfield 12, 3) := by decide +kernel
theorem dX6_undo_18 : decode cX6_undo 18 = .ok (.aload_n 0, 1) := by decide +kernel
theorem dX6_undo_19 : decode cX6_undo 19 = .ok (.getfield 16, 3) := by decide +kernel
theorem dX6_undo_22 : decode cX6_undo 22 = .ok (.invokevirtual 212, 3) := by decide +kernel
theorem dX6_undo_25 : decode cX6_undo 25 = .ok (.aload_n 0, 1) := by decide +kernel
theorem dX6_undo_26 : decode cX6_undo 26 = .ok (.getfield 12, 3) := by decide +kernel
theorem dX6_undo_29 : decode cX6_undo 29 = .ok (.getfield 282, 3) := by decide +kernel
theorem dX6_undo_32 : decode cX6_undo 32 = .ok (.ireturn, 1) := by decide +kernel
theorem dX6_tear_0 : decode cX6_tear 0 = .ok (.aload_n 0, 1) := by decide +kernel
theorem dX6_tear_1 : decode cX6_tear 1 = .ok (.getfield 278, 3) := by decide +kernel
theorem dX6_tear_4 : decode cX6_tear 4 = .ok (.ifCond .eq 7, 3) := by decide +kernel
theorem dX6_tear_7 : decode cX6_tear 7 = .ok (.iconst 1, 1) := by decide +kernel
theorem dX6_tear_8 : decode cX6_tear 8 = .ok (.goto 4, 3) := by decide +kernel
theorem dX6_tear_11 : decode cX6_tear 11 = .ok (.iconst 0, 1) := by decide +kernel
theorem dX6_tear_12 : decode cX6_tear 12 = .ok (.istore_n 1, 1) := by decide +kernel
theorem dX6_tear_13 : decode cX6_tear 13 = .ok (.aload_n 0, 1) := by decide +kernel
theorem dX6_tear_14 : decode cX6_tear 14 = .ok (.iconst 0, 1) := by decide +kernel
theorem dX6_tear_15 : decode cX6_tear 15 = .ok (.putfield 278, 3) := by decide +kernel
theorem dX6_tear_18 : decode cX6_tear 18 = .ok (.iload_n 1, 1) := by decide +kernel
theorem dX6_tear_19 : decode cX6_tear 19 = .ok (.ireturn, 1) := by decide +kernel
theorem dX6_count_0 : decode cX6_count 0 = .ok (.iload_n 1, 1) := by decide +kernel
theorem dX6_count_1 : decode cX6_count 1 = .ok (.tableswitch 119 0 7 #[47, 55, 63, 79, 87, 95, 103, 111], 47) := by decide +kernel
theorem dX6_count_48 : decode cX6_count 48 = .ok (.aload_n 0, 1) := by decide +kernel
theorem dX6_count_49 : decode cX6_count 49 = .ok (.getfield 12, 3) := by decide +kernel
theorem dX6_count_52 : decode cX6_count 52 = .ok (.getfield 282, 3) := by decide +kernel
theorem dX6_count_55 : decode cX6_count 55 = .ok (.ireturn, 1) := by decide +kernel
theorem dX6_count_56 : decode cX6_count 56 = .ok (.aload_n 0, 1) := by decide +kernel
theorem dX6_count_57 : decode cX6_count 57 = .ok (.getfield 12, 3) := by decide +kernel
theorem dX6_count_60 : decode cX6_count 60 = .ok (.getfield 77, 3) := by decide +kernel
theorem dX6_count_63 : decode cX6_count 63 = .ok (.ireturn, 1) := by decide +kernel
theorem dX6_count_64 : decode cX6_count 64 = .ok (.aload_n 0, 1) := by decide +kernel
theorem dX6_count_65 : decode cX6_count 65 = .ok (.getfield 12, 3) := by decide +kernel
theorem dX6_count_68 : decode cX6_count 68 = .ok (.getfield 77, 3) := by decide +kernel
theorem dX6_count_71 : decode cX6_count 71 = .ok (.aload_n 0, 1) := by decide +kernel
theorem dX6_count_72 : decode cX6_count 72 = .ok (.getfield 12, 3) := by decide +kernel
theorem dX6_count_75 : decode cX6_count 75 = .ok (.invokevirtual 159, 3) := by decide +kernel
theorem dX6_count_78 : decode cX6_count 78 = .ok (.isub, 1) := by decide +kernel
theorem dX6_count_79 : decode cX6_count 79 = .ok (.ireturn, 1) := by decide +kernel
theorem dX6_count_80 : decode cX6_count 80 = .ok (.aload_n 0, 1) := by decide +kernel
theorem dX6_count_81 : decode cX6_count 81 = .ok (.getfield 12, 3) := by decide +kernel
theorem dX6_count_84 : decode cX6_count 84 = .ok (.getfield 126, 3) := by decide +kernel
theorem dX6_count_87 : decode cX6_count 87 = .ok (.ireturn, 1) := by decide +kernel
theorem dX6_count_88 : decode cX6_count 88 = .ok (.aload_n 0, 1) := by decide +kernel
theorem dX6_count_89 : decode cX6_count 89 = .ok (.getfield 12, 3) := by decide +kernel
theorem dX6_count_92 : decode cX6_count 92 = .ok (.invokevirtual 176, 3) := by decide +kernel
theorem dX6_count_95 : decode cX6_count 95 = .ok (.ireturn, 1) := by decide +kernel
theorem dX6_count_96 : decode cX6_count 96 = .ok (.aload_n 0, 1) := by decide +kernel
theorem dX6_count_97 : decode cX6_count 97 = .ok (.getfield 12, 3) := by decide +kernel
theorem dX6_count_100 : decode cX6_count 100 = .ok (.invokevirtual 170, 3) := by decide +kernel
theorem dX6_count_103 : decode cX6_count 103 = .ok (.ireturn, 1) := by decide +kernel
theorem dX6_count_104 : decode cX6_count 104 = .ok (.aload_n 0, 1) := by decide +kernel
theorem dX6_count_105 : decode cX6_count 105 = .ok (.getfield 41, 3) := by decide +kernel
theorem dX6_count_108 : decode cX6_count 108 = .ok (.getfield 285, 3) := by decide +kernel
theorem dX6_count_111 : decode cX6_count 111 = .ok (.ireturn, 1) := by decide +kernel
theorem dX6_count_112 : decode cX6_count 112 = .ok (.aload_n 0, 1) := by decide +kernel
theorem dX6_count_113 : decode cX6_count 113 = .ok (.getfield 12, 3) := by decide +kernel
theorem dX6_count_116 : decode cX6_count 116 = .ok (.getfield 216, 3) := by decide +kernel
theorem dX6_count_119 : decode cX6_count 119 = .ok (.ireturn, 1) := by decide +kernel
theorem dX6_count_120 : decode cX6_count 120 = .ok (.aload_n 0, 1) := by decide +kernel
theorem dX6_count_121 : decode cX6_count 121 = .ok (.ldc 64, 2) := by decide +kernel
theorem dX6_count_123 : decode cX6_count 123 = .ok (.invokevirtual 65, 3) := by decide +kernel
theorem dX6_count_126 : decode cX6_count 126 = .ok (.ireturn, 1) := by decide +kernel
theorem dX6_status_0 : decode cX6_status 0 = .ok (.iload_n 1, 1) := by decide +kernel
theorem dX6_status_1 : decode cX6_status 1 = .ok (.iconst (-1), 1) := by decide +kernel
theorem dX6_status_2 : decode cX6_status 2 = .ok (.bipush 6, 2) := by decide +kernel
theorem dX6_status_4 : decode cX6_status 4 = .ok (.invokestatic 60, 3) := by decide +kernel
theorem dX6_status_7 : decode cX6_status 7 = .ok (.ifCond .ne 10, 3) := by decide +kernel
theorem dX6_status_10 : decode cX6_status 10 = .ok (.aload_n 0, 1) := by decide +kernel
theorem dX6_status_11 : decode cX6_status 11 = .ok (.ldc 64, 2) := by decide +kernel
theorem dX6_status_13 : decode cX6_status 13 = .ok (.invokevirtual 65, 3) := by decide +kernel
theorem dX6_status_16 : decode cX6_status 16 = .ok (.ireturn, 1) := by decide +kernel
theorem dX6_status_17 : decode cX6_status 17 = .ok (.iload_n 1, 1) := by decide +kernel
theorem dX6_status_18 : decode cX6_status 18 = .ok (.ifCond .lt 10, 3) := by decide +kernel
theorem dX6_status_21 : decode cX6_status 21 = .ok (.aload_n 0, 1) := by decide +kernel
theorem dX6_status_22 : decode cX6_status 22 = .ok (.getfield 51, 3) := by decide +kernel
theorem dX6_status_25 : decode cX6_status 25 = .ok (.iload_n 1, 1) := by decide +kernel
theorem dX6_status_26 : decode cX6_status 26 = .ok (.iaload, 1) := by decide +kernel
theorem dX6_status_27 : decode cX6_status 27 = .ok (.ireturn, 1) := by decide +kernel
theorem dX6_status_28 : decode cX6_status 28 = .ok (.iconst 0, 1) := by decide +kernel
theorem dX6_status_29 : decode cX6_status 29 = .ok (.istore_n 2, 1) := by decide +kernel
theorem dX6_status_30 : decode cX6_status 30 = .ok (.iconst 0, 1) := by decide +kernel
theorem dX6_status_31 : decode cX6_status 31 = .ok (.istore_n 3, 1) := by decide +kernel
theorem dX6_status_32 : decode cX6_status 32 = .ok (.iload_n 3, 1) := by decide +kernel
theorem dX6_status_33 : decode cX6_status 33 = .ok (.bipush 7, 2) := by decide +kernel
theorem dX6_status_35 : decode cX6_status 35 = .ok (.if_icmp .ge 18, 3) := by decide +kernel
theorem dX6_status_38 : decode cX6_status 38 = .ok (.iload_n 2, 1) := by decide +kernel
theorem dX6_status_39 : decode cX6_status 39 = .ok (.aload_n 0, 1) := by decide +kernel
theorem dX6_status_40 : decode cX6_status 40 = .ok (.getfield 51, 3) := by decide +kernel
theorem dX6_status_43 : decode cX6_status 43 = .ok (.iload_n 3, 1) := by decide +kernel
theorem dX6_status_44 : decode cX6_status 44 = .ok (.iaload, 1) := by decide +kernel
theorem dX6_status_45 : decode cX6_status 45 = .ok (.iadd, 1) := by decide +kernel
theorem dX6_status_46 : decode cX6_status 46 = .ok (.istore_n 2, 1) := by decide +kernel
theorem dX6_status_47 : decode cX6_status 47 = .ok (.iinc 3 1, 3) := by decide +kernel
theorem dX6_status_50 : decode cX6_status 50 = .ok (.goto (-18), 3) := by decide +kernel
theorem dX6_status_53 : decode cX6_status 53 = .ok (.iload_n 2, 1) := by decide +kernel
theorem dX6_status_54 : decode cX6_status 54 = .ok (.ireturn, 1) := by decide +kernel
theorem dX6_found_0 : decode cX6_found 0 = .ok (.ldc 64, 2) := by decide +kernel
theorem dX6_found_2 : decode cX6_found 2 = .ok (.iload_n 1, 1) := by decide +kernel
theorem dX6_found_3 : decode cX6_found 3 = .ok (.isub, 1) := by decide +kernel
theorem dX6_found_4 : decode cX6_found 4 = .ok (.istore_n 2, 1) := by decide +kernel
theorem dX6_found_5 : decode cX6_found 5 = .ok (.iload_n 2, 1) := by decide +kernel
theorem dX6_found_6 : decode cX6_found 6 = .ok (.iconst 0, 1) := by decide +kernel
theorem dX6_found_7 : decode cX6_found 7 = .ok (.bipush 6, 2) := by decide +kernel
theorem dX6_found_9 : decode cX6_found 9 = .ok (.invokestatic 60, 3) := by decide +kernel
theorem dX6_found_12 : decode cX6_found 12 = .ok (.ifCond .eq 13, 3) := by decide +kernel
theorem dX6_found_15 : decode cX6_found 15 = .ok (.aload_n 0, 1) := by decide +kernel
theorem dX6_found_16 : decode cX6_found 16 = .ok (.getfield 51, 3) := by decide +kernel
theorem dX6_found_19 : decode cX6_found 19 = .ok (.iload_n 2, 1) := by decide +kernel
theorem dX6_found_20 : decode cX6_found 20 = .ok (.dup2, 1) := by decide +kernel
theorem dX6_found_21 : decode cX6_found 21 = .ok (.iaload, 1) := by decide +kernel
theorem dX6_found_22 : decode cX6_found 22 = .ok (.iconst 1, 1) := by decide +kernel
theorem dX6_found_23 : decode cX6_found 23 = .ok (.iadd, 1) := by decide +kernel
theorem dX6_found_24 : decode cX6_found 24 = .ok (.iastore, 1) := by decide +kernel
theorem dX6_found_25 : decode cX6_found 25 = .ok (.iload_n 1, 1) := by decide +kernel
theorem dX6_found_26 : decode cX6_found 26 = .ok (.ireturn, 1) := by decide +kernel
theorem dX6_isIn_0 : decode cX6_isIn 0 = .ok (.iload_n 0, 1) := by decide +kernel
theorem dX6_isIn_1 : decode cX6_isIn 1 = .ok (.iload_n 1, 1) := by decide +kernel
theorem dX6_isIn_2 : decode cX6_isIn 2 = .ok (.if_icmp .lt 12, 3) := by decide +kernel
theorem dX6_isIn_5 : decode cX6_isIn 5 = .ok (.iload_n 0, 1) := by decide +kernel
theorem dX6_isIn_6 : decode cX6_isIn 6 = .ok (.iload_n 2, 1) := by decide +kernel
theorem dX6_isIn_7 : decode cX6_isIn 7 = .ok (.if_icmp .gt 7, 3) := by decide +kernel
theorem dX6_isIn_10 : decode cX6_isIn 10 = .ok (.iconst 1, 1) := by decide +kernel
theorem dX6_isIn_11 : decode cX6_isIn 11 = .ok (.goto 4, 3) := by decide +kernel
theorem dX6_isIn_14 : decode cX6_isIn 14 = .ok (.iconst 0, 1) := by decide +kernel
theorem dX6_isIn_15 : decode cX6_isIn 15 = .ok (.ireturn, 1) := by decide +kernel
theorem dX6_isName_0 : decode cX6_isName 0 = .ok (.iload_n 0, 1) := by decide +kernel
theorem dX6_isName_1 : decode cX6_isName 1 = .ok (.ifCond .lt 13, 3) := by decide +kernel
theorem dX6_isName_4 : decode cX6_isName 4 = .ok (.iload_n 0, 1) := by decide +kernel
theorem dX6_isName_5 : decode cX6_isName 5 = .ok (.bipush 8, 2) := by decide +kernel
theorem dX6_isName_7 : decode cX6_isName 7 = .ok (.if_icmp .ge 7, 3) := by decide +kernel
theorem dX6_isName_10 : decode cX6_isName 10 = .ok (.iconst 1, 1) := by decide +kernel
theorem dX6_isName_11 : decode cX6_isName 11 = .ok (.goto 4, 3) := by decide +kernel
theorem dX6_isName_14 : decode cX6_isName 14 = .ok (.iconst 0, 1) := by decide +kernel
theorem dX6_isName_15 : decode cX6_isName 15 = .ok (.ireturn, 1) := by decide +kernel
theorem dX6_isSheet_0 : decode cX6_isSheet 0 = .ok (.iload_n 0, 1) := by decide +kernel
theorem dX6_isSheet_1 : decode cX6_isSheet 1 = .ok (.ifCond .lt 12, 3) := by decide +kernel
theorem dX6_isSheet_4 : decode cX6_isSheet 4 = .ok (.iload_n 0, 1) := by decide +kernel
theorem dX6_isSheet_5 : decode cX6_isSheet 5 = .ok (.iconst 4, 1) := by decide +kernel
theorem dX6_isSheet_6 : decode cX6_isSheet 6 = .ok (.if_icmp .ge 7, 3) := by decide +kernel
theorem dX6_isSheet_9 : decode cX6_isSheet 9 = .ok (.iconst 1, 1) := by decide +kernel
theorem dX6_isSheet_10 : decode cX6_isSheet 10 = .ok (.goto 4, 3) := by decide +kernel
theorem dX6_isSheet_13 : decode cX6_isSheet 13 = .ok (.iconst 0, 1) := by decide +kernel
theorem dX6_isSheet_14 : decode cX6_isSheet 14 = .ok (.ireturn, 1) := by decide +kernel
theorem dX6_isTooLate_0 : decode cX6_isTooLate 0 = .ok (.aload_n 0, 1) := by decide +kernel
theorem dX6_isTooLate_1 : decode cX6_isTooLate 1 = .ok (.getfield 12, 3) := by decide +kernel
theorem dX6_isTooLate_4 : decode cX6_isTooLate 4 = .ok (.getfield 282, 3) := by decide +kernel
theorem dX6_isTooLate_7 : decode cX6_isTooLate 7 = .ok (.iload_n 1, 1) := by decide +kernel
theorem dX6_isTooLate_8 : decode cX6_isTooLate 8 = .ok (.iadd, 1) := by decide +kernel
theorem dX6_isTooLate_9 : decode cX6_isTooLate 9 = .ok (.sipush 999, 3) := by decide +kernel
theorem dX6_isTooLate_12 : decode cX6_isTooLate 12 = .ok (.if_icmp .le 7, 3) := by decide +kernel
theorem dX6_isTooLate_15 : decode cX6_isTooLate 15 = .ok (.iconst 1, 1) := by decide +kernel
theorem dX6_isTooLate_16 : decode cX6_isTooLate 16 = .ok (.goto 4, 3) := by decide +kernel
theorem dX6_isTooLate_19 : decode cX6_isTooLate 19 = .ok (.iconst 0, 1) := by decide +kernel
theorem dX6_isTooLate_20 : decode cX6_isTooLate 20 = .ok (.ireturn, 1) := by decide +kernel
theorem dX6_lookAhead_0 : decode cX6_lookAhead 0 = .ok (.aload_n 0, 1) := by decide +kernel
theorem dX6_lookAhead_1 : decode cX6_lookAhead 1 = .ok (.getfield 19, 3) := by decide +kernel
theorem dX6_lookAhead_4 : decode cX6_lookAhead 4 = .ok (.aload_n 0, 1) := by decide +kernel
theorem dX6_lookAhead_5 : decode cX6_lookAhead 5 = .ok (.getfield 12, 3) := by decide +kernel
theorem dX6_lookAhead_8 : decode cX6_lookAhead 8 = .ok (.invokevirtual 212, 3) := by decide +kernel
theorem dX6_lookAhead_11 : decode cX6_lookAhead 11 = .ok (.aload_n 0, 1) := by decide +kernel
theorem dX6_lookAhead_12 : decode cX6_lookAhead 12 = .ok (.getfield 25, 3) := by decide +kernel
theorem dX6_lookAhead_15 : decode cX6_lookAhead 15 = .ok (.aload_n 0, 1) := by decide +kernel
theorem dX6_lookAhead_16 : decode cX6_lookAhead 16 = .ok (.getfield 19, 3) := by decide +kernel
theorem dX6_lookAhead_19 : decode cX6_lookAhead 19 = .ok (.iload_n 1, 1) := by decide +kernel
theorem dX6_lookAhead_20 : decode cX6_lookAhead 20 = .ok (.invokevirtual 162, 3) := by decide +kernel
theorem dX6_lookAhead_23 : decode cX6_lookAhead 23 = .ok (.return_, 1) := by decide +kernel
theorem dX6_isShutInTime_0 : decode cX6_isShutInTime 0 = .ok (.aload_n 0, 1) := by decide +kernel
theorem dX6_isShutInTime_1 : decode cX6_isShutInTime 1 = .ok (.getfield 19, 3) := by decide +kernel
theorem dX6_isShutInTime_4 : decode cX6_isShutInTime 4 = .ok (.aload_n 0, 1) := by decide +kernel
theorem dX6_isShutInTime_5 : decode cX6_isShutInTime 5 = .ok (.getfield 12, 3) := by decide +kernel
theorem dX6_isShutInTime_8 : decode cX6_isShutInTime 8 = .ok (.invokevirtual 212, 3) := by decide +kernel
theorem dX6_isShutInTime_11 : decode cX6_isShutInTime 11 = .ok (.aload_n 0, 1) := by decide +kernel
theorem dX6_isShutInTime_12 : decode cX6_isShutInTime 12 = .ok (.getfield 19, 3) := by decide +kernel
theorem dX6_isShutInTime_15 : decode cX6_isShutInTime 15 = .ok (.getfield 136, 3) := by decide +kernel
theorem dX6_isShutInTime_18 : decode cX6_isShutInTime 18 = .ok (.iload_n 1, 1) := by decide +kernel
theorem dX6_isShutInTime_19 : decode cX6_isShutInTime 19 = .ok (.iload_n 2, 1) := by decide +kernel
theorem dX6_isShutInTime_20 : decode cX6_isShutInTime 20 = .ok (.iastore, 1) := by decide +kernel
theorem dX6_isShutInTime_21 : decode cX6_isShutInTime 21 = .ok (.aload_n 0, 1) := by decide +kernel
theorem dX6_isShutInTime_22 : decode cX6_isShutInTime 22 = .ok (.getfield 19, 3) := by decide +kernel
theorem dX6_isShutInTime_25 : decode cX6_isShutInTime 25 = .ok (.getfield 142, 3) := by decide +kernel
theorem dX6_isShutInTime_28 : decode cX6_isShutInTime 28 = .ok (.iload_n 1, 1) := by decide +kernel
theorem dX6_isShutInTime_29 : decode cX6_isShutInTime 29 = .ok (.iload_n 3, 1) := by decide +kernel
theorem dX6_isShutInTime_30 : decode cX6_isShutInTime 30 = .ok (.iastore, 1) := by decide +kernel
theorem dX6_isShutInTime_31 : decode cX6_isShutInTime 31 = .ok (.aload_n 0, 1) := by decide +kernel
theorem dX6_isShutInTime_32 : decode cX6_isShutInTime 32 = .ok (.getfield 25, 3) := by decide +kernel
theorem dX6_isShutInTime_35 : decode cX6_isShutInTime 35 = .ok (.aload_n 0, 1) := by decide +kernel
theorem dX6_isShutInTime_36 : decode cX6_isShutInTime 36 = .ok (.getfield 19, 3) := by decide +kernel
theorem dX6_isShutInTime_39 : decode cX6_isShutInTime 39 = .ok (.bipush 40, 2) := by decide +kernel
theorem dX6_isShutInTime_41 : decode cX6_isShutInTime 41 = .ok (.aload_n 0, 1) := by decide +kernel
theorem dX6_isShutInTime_42 : decode cX6_isShutInTime 42 = .ok (.getfield 12, 3) := by decide +kernel
theorem dX6_isShutInTime_45 : decode cX6_isShutInTime 45 = .ok (.getfield 139, 3) := by decide +kernel
theorem dX6_isShutInTime_48 : decode cX6_isShutInTime 48 = .ok (.iload_n 1, 1) := by decide +kernel
theorem dX6_isShutInTime_49 : decode cX6_isShutInTime 49 = .ok (.iaload, 1) := by decide +kernel
theorem dX6_isShutInTime_50 : decode cX6_isShutInTime 50 = .ok (.isub, 1) := by decide +kernel
theorem dX6_isShutInTime_51 : decode cX6_isShutInTime 51 = .ok (.invokevirtual 162, 3) := by decide +kernel
theorem dX6_isShutInTime_54 : decode cX6_isShutInTime 54 = .ok (.aload_n 0, 1) := by decide +kernel
theorem dX6_isShutInTime_55 : decode cX6_isShutInTime 55 = .ok (.getfield 19, 3) := by decide +kernel
theorem dX6_isShutInTime_58 : decode cX6_isShutInTime 58 = .ok (.iload_n 2, 1) := by decide +kernel
theorem dX6_isShutInTime_59 : decode cX6_isShutInTime 59 = .ok (.invokevirtual 108, 3) := by decide +kernel
theorem dX6_isShutInTime_62 : decode cX6_isShutInTime 62 = .ok (.ifCond .ne 7, 3) := by decide +kernel
theorem dX6_isShutInTime_65 : decode cX6_isShutInTime 65 = .ok (.iconst 1, 1) := by decide +kernel
theorem dX6_isShutInTime_66 : decode cX6_isShutInTime 66 = .ok (.goto 4, 3) := by decide +kernel
theorem dX6_isShutInTime_69 : decode cX6_isShutInTime 69 = .ok (.iconst 0, 1) := by decide +kernel
theorem dX6_isShutInTime_70 : decode cX6_isShutInTime 70 = .ok (.ireturn, 1) := by decide +kernel
theorem dX6_whyNoGiving_0 : decode cX6_whyNoGiving 0 = .ok (.iload_n 1, 1) := by decide +kernel
theorem dX6_whyNoGiving_1 : decode cX6_whyNoGiving 1 = .ok (.iconst 1, 1) := by decide +kernel
theorem dX6_whyNoGiving_2 : decode cX6_whyNoGiving 2 = .ok (.bipush 40, 2) := by decide +kernel
theorem dX6_whyNoGiving_4 : decode cX6_whyNoGiving 4 = .ok (.invokestatic 60, 3) := by decide +kernel
theorem dX6_whyNoGiving_7 : decode cX6_whyNoGiving 7 = .ok (.ifCond .ne 6, 3) := by decide +kernel
theorem dX6_whyNoGiving_10 : decode cX6_whyNoGiving 10 = .ok (.ldc 64, 2) := by decide +kernel
theorem dX6_whyNoGiving_12 : decode cX6_whyNoGiving 12 = .ok (.ireturn, 1) := by decide +kernel
theorem dX6_whyNoGiving_13 : decode cX6_whyNoGiving 13 = .ok (.aload_n 0, 1) := by decide +kernel
theorem dX6_whyNoGiving_14 : decode cX6_whyNoGiving 14 = .ok (.iload_n 1, 1) := by decide +kernel
theorem dX6_whyNoGiving_15 : decode cX6_whyNoGiving 15 = .ok (.invokevirtual 156, 3) := by decide +kernel
theorem dX6_whyNoGiving_18 : decode cX6_whyNoGiving 18 = .ok (.ifCond .eq 6, 3) := by decide +kernel
theorem dX6_whyNoGiving_21 : decode cX6_whyNoGiving 21 = .ok (.ldc 151, 2) := by decide +kernel
theorem dX6_whyNoGiving_23 : decode cX6_whyNoGiving 23 = .ok (.ireturn, 1) := by decide +kernel
theorem dX6_whyNoGiving_24 : decode cX6_whyNoGiving 24 = .ok (.aload_n 0, 1) := by decide +kernel
theorem dX6_whyNoGiving_25 : decode cX6_whyNoGiving 25 = .ok (.getfield 34, 3) := by decide +kernel
theorem dX6_whyNoGiving_28 : decode cX6_whyNoGiving 28 = .ok (.aload_n 0, 1) := by decide +kernel
theorem dX6_whyNoGiving_29 : decode cX6_whyNoGiving 29 = .ok (.getfield 12, 3) := by decide +kernel
theorem dX6_whyNoGiving_32 : decode cX6_whyNoGiving 32 = .ok (.invokevirtual 288, 3) := by decide +kernel
theorem dX6_whyNoGiving_35 : decode cX6_whyNoGiving 35 = .ok (.ifCond .eq 7, 3) := by decide +kernel
theorem dX6_whyNoGiving_38 : decode cX6_whyNoGiving 38 = .ok (.iconst 0, 1) := by decide +kernel
theorem dX6_whyNoGiving_39 : decode cX6_whyNoGiving 39 = .ok (.goto 5, 3) := by decide +kernel
theorem dX6_whyNoGiving_42 : decode cX6_whyNoGiving 42 = .ok (.ldc 243, 2) := by decide +kernel
theorem dX6_whyNoGiving_44 : decode cX6_whyNoGiving 44 = .ok (.ireturn, 1) := by decide +kernel
theorem dX7_init_0 : decode cX7_init 0 = .ok (.aload_n 0, 1) := by decide +kernel
theorem dX7_init_1 : decode cX7_init 1 = .ok (.invokespecial 3, 3) := by decide +kernel
theorem dX7_init_4 : decode cX7_init 4 = .ok (.aload_n 0, 1) := by decide +kernel
theorem dX7_init_5 : decode cX7_init 5 = .ok (.sipush 142, 3) := by decide +kernel
theorem dX7_init_8 : decode cX7_init 8 = .ok (.newarray .int, 2) := by decide +kernel
theorem dX7_init_10 : decode cX7_init 10 = .ok (.putfield 9, 3) := by decide +kernel
theorem dX7_init_13 : decode cX7_init 13 = .ok (.aload_n 0, 1) := by decide +kernel
theorem dX7_init_14 : decode cX7_init 14 = .ok (.sipush 142, 3) := by decide +kernel
theorem dX7_init_17 : decode cX7_init 17 = .ok (.newarray .int, 2) := by decide +kernel
theorem dX7_init_19 : decode cX7_init 19 = .ok (.putfield 13, 3) := by decide +kernel
theorem dX7_init_22 : decode cX7_init 22 = .ok (.aload_n 0, 1) := by decide +kernel
theorem dX7_init_23 : decode cX7_init 23 = .ok (.sipush 142, 3) := by decide +kernel
theorem dX7_init_26 : decode cX7_init 26 = .ok (.newarray .int, 2) := by decide +kernel
theorem dX7_init_28 : decode cX7_init 28 = .ok (.putfield 16, 3) := by decide +kernel
theorem dX7_init_31 : decode cX7_init 31 = .ok (.aload_n 0, 1) := by decide +kernel
theorem dX7_init_32 : decode cX7_init 32 = .ok (.sipush 142, 3) := by decide +kernel
theorem dX7_init_35 : decode cX7_init 35 = .ok (.newarray .int, 2) := by decide +kernel
theorem dX7_init_37 : decode cX7_init 37 = .ok (.putfield 19, 3) := by decide +kernel
theorem dX7_init_40 : decode cX7_init 40 = .ok (.aload_n 0, 1) := by decide +kernel
theorem dX7_init_41 : decode cX7_init 41 = .ok (.bipush 7, 2) := by decide +kernel
theorem dX7_init_43 : decode cX7_init 43 = .ok (.newarray .int, 2) := by decide +kernel
theorem dX7_init_45 : decode cX7_init 45 = .ok (.putfield 22, 3) := by decide +kernel
theorem dX7_init_48 : decode cX7_init 48 = .ok (.aload_n 0, 1) := by decide +kernel
theorem dX7_init_49 : decode cX7_init 49 = .ok (.bipush 8, 2) := by decide +kernel
theorem dX7_init_51 : decode cX7_init 51 = .ok (.newarray .int, 2) := by decide +kernel
theorem dX7_init_53 : decode cX7_init 53 = .ok (.putfield 25, 3) := by decide +kernel
theorem dX7_init_56 : decode cX7_init 56 = .ok (.aload_n 0, 1) := by decide +kernel
theorem dX7_init_57 : decode cX7_init 57 = .ok (.bipush 8, 2) := by decide +kernel
theorem dX7_init_59 : decode cX7_init 59 = .ok (.newarray .int, 2) := by decide +kernel
theorem dX7_init_61 : decode cX7_init 61 = .ok (.putfield 28, 3) := by decide +kernel
theorem dX7_init_64 : decode cX7_init 64 = .ok (.aload_n 0, 1) := by decide +kernel
theorem dX7_init_65 : decode cX7_init 65 = .ok (.bipush 120, 2) := by decide +kernel
theorem dX7_init_67 : decode cX7_init 67 = .ok (.newarray .int, 2) := by decide +kernel
theorem dX7_init_69 : decode cX7_init 69 = .ok (.putfield 31, 3) := by decide +kernel
theorem dX7_init_72 : decode cX7_init 72 = .ok (.aload_n 0, 1) := by decide +kernel
theorem dX7_init_73 : decode cX7_init 73 = .ok (.iconst 4, 1) := by decide +kernel
theorem dX7_init_74 : decode cX7_init 74 = .ok (.newarray .int, 2) := by decide +kernel
theorem dX7_init_76 : decode cX7_init 76 = .ok (.putfield 34, 3) := by decide +kernel
theorem dX7_init_79 : decode cX7_init 79 = .ok (.aload_n 0, 1) := by decide +kernel
theorem dX7_init_80 : decode cX7_init 80 = .ok (.iconst 4, 1) := by decide +kernel
theorem dX7_init_81 : decode cX7_init 81 = .ok (.newarray .int, 2) := by decide +kernel
theorem dX7_init_83 : decode cX7_init 83 = .ok (.putfield 37, 3) := by decide +kernel
theorem dX7_init_86 : decode cX7_init 86 = .ok (.aload_n 0, 1) := by decide +kernel
theorem dX7_init_87 : decode cX7_init 87 = .ok (.sipush 160, 3) := by decide +kernel
theorem dX7_init_90 : decode cX7_init 90 = .ok (.newarray .int, 2) := by decide +kernel
theorem dX7_init_92 : decode cX7_init 92 = .ok (.putfield 40, 3) := by decide +kernel
theorem dX7_init_95 : decode cX7_init 95 = .ok (.aload_n 0, 1) := by decide +kernel
theorem dX7_init_96 : decode cX7_init 96 = .ok (.getfield 9, 3) := by decide +kernel
theorem dX7_init_99 : decode cX7_init 99 = .ok (.iconst 1, 1) := by decide +kernel
theorem dX7_init_100 : decode cX7_init 100 = .ok (.iconst 1, 1) := by decide +kernel
theorem dX7_init_101 : decode cX7_init 101 = .ok (.iastore, 1) := by decide +kernel
theorem dX7_init_102 : decode cX7_init 102 = .ok (.iconst 0, 1) := by decide +kernel
theorem dX7_init_103 : decode cX7_init 103 = .ok (.istore_n 1, 1) := by decide +kernel
theorem dX7_init_104 : decode cX7_init 104 = .ok (.iload_n 1, 1) := by decide +kernel
theorem dX7_init_105 : decode cX7_init 105 = .ok (.bipush 8, 2) := by decide +kernel
theorem dX7_init_107 : decode cX7_init 107 = .ok (.if_icmp .ge 21, 3) := by decide +kernel
theorem dX7_init_110 : decode cX7_init 110 = .ok (.aload_n 0, 1) := by decide +kernel
theorem dX7_init_111 : decode cX7_init 111 = .ok (.getfield 9, 3) := by decide +kernel
theorem dX7_init_114 : decode cX7_init 114 = .ok (.iconst 4, 1) := by decide +kernel
theorem dX7_init_115 : decode cX7_init 115 = .ok (.iconst 2, 1) := by decide +kernel
theorem dX7_init_116 : decode cX7_init 116 = .ok (.iload_n 1, 1) := by decide +kernel
theorem dX7_init_117 : decode cX7_init 117 = .ok (.imul, 1) := by decide +kernel
theorem dX7_init_118 : decode cX7_init 118 = .ok (.iadd, 1) := by decide +kernel
theorem dX7_init_119 : decode cX7_init 119 = .ok (.bipush 10, 2) := by decide +kernel
theorem dX7_init_121 : decode cX7_init 121 = .ok (.iastore, 1) := by decide +kernel
theorem dX7_init_122 : decode cX7_init 122 = .ok (.iinc 1 1, 3) := by decide +kernel
theorem dX7_init_125 : decode cX7_init 125 = .ok (.goto (-21), 3) := by decide +kernel
theorem dX7_init_128 : decode cX7_init 128 = .ok (.iconst 0, 1) := by decide +kernel
theorem dX7_init_129 : decode cX7_init 129 = .ok (.istore_n 1, 1) := by decide +kernel
theorem dX7_init_130 : decode cX7_init 130 = .ok (.iload_n 1, 1) := by decide +kernel
theorem dX7_init_131 : decode cX7_init 131 = .ok (.bipush 10, 2) := by decide +kernel
theorem dX7_init_133 : decode cX7_init 133 = .ok (.if_icmp .ge 20, 3) := by decide +kernel
theorem dX7_init_136 : decode cX7_init 136 = .ok (.aload_n 0, 1) := by decide +kernel
theorem dX7_init_137 : decode cX7_init 137 = .ok (.getfield 9, 3) := by decide +kernel
theorem dX7_init_140 : decode cX7_init 140 = .ok (.sipush 132, 3) := by decide +kernel
theorem dX7_init_143 : decode cX7_init 143 = .ok (.iload_n 1, 1) := by decide +kernel
theorem dX7_init_144 : decode cX7_init 144 = .ok (.iadd, 1) := by decide +kernel
theorem dX7_init_145 : decode cX7_init 145 = .ok (.iconst (-1), 1) := by decide +kernel
theorem dX7_init_146 : decode cX7_init 146 = .ok (.iastore, 1) := by decide +kernel
theorem dX7_init_147 : decode cX7_init 147 = .ok (.iinc 1 1, 3) := by decide +kernel
theorem dX7_init_150 : decode cX7_init 150 = .ok (.goto (-20), 3) := by decide +kernel
theorem dX7_init_153 : decode cX7_init 153 = .ok (.return_, 1) := by decide +kernel
theorem dX7_finds_0 : decode cX7_finds 0 = .ok (.aload_n 0, 1) := by decide +kernel
theorem dX7_finds_1 : decode cX7_finds 1 = .ok (.getfield 22, 3) := by decide +kernel
theorem dX7_finds_4 : decode cX7_finds 4 = .ok (.ldc 43, 2) := by decide +kernel
theorem dX7_finds_6 : decode cX7_finds 6 = .ok (.iload_n 1, 1) := by decide +kernel
theorem dX7_finds_7 : decode cX7_finds 7 = .ok (.isub, 1) := by decide +kernel
theorem dX7_finds_8 : decode cX7_finds 8 = .ok (.dup2, 1) := by decide +kernel
theorem dX7_finds_9 : decode cX7_finds 9 = .ok (.iaload, 1) := by decide +kernel
theorem dX7_finds_10 : decode cX7_finds 10 = .ok (.iconst 1, 1) := by decide +kernel
theorem dX7_finds_11 : decode cX7_finds 11 = .ok (.iadd, 1) := by decide +kernel
theorem dX7_finds_12 : decode cX7_finds 12 = .ok (.iastore, 1) := by decide +kernel
theorem dX7_finds_13 : decode cX7_finds 13 = .ok (.iload_n 1, 1) := by decide +kernel
theorem dX7_finds_14 : decode cX7_finds 14 = .ok (.ireturn, 1) := by decide +kernel
theorem dX7_orNone_0 : decode cX7_orNone 0 = .ok (.iload_n 1, 1) := by decide +kernel
theorem dX7_orNone_1 : decode cX7_orNone 1 = .ok (.ifCond .ge 12, 3) := by decide +kernel
theorem dX7_orNone_4 : decode cX7_orNone 4 = .ok (.aload_n 0, 1) := by decide +kernel
theorem dX7_orNone_5 : decode cX7_orNone 5 = .ok (.ldc 44, 2) := by decide +kernel
theorem dX7_orNone_7 : decode cX7_orNone 7 = .ok (.invokevirtual 45, 3) := by decide +kernel
theorem dX7_orNone_10 : decode cX7_orNone 10 = .ok (.goto 4, 3) := by decide +kernel
theorem dX7_orNone_13 : decode cX7_orNone 13 = .ok (.iload_n 1, 1) := by decide +kernel
theorem dX7_orNone_14 : decode cX7_orNone 14 = .ok (.ireturn, 1) := by decide +kernel
theorem dX7_in_0 : decode cX7_in 0 = .ok (.lload_n 0, 1) := by decide +kernel
theorem dX7_in_1 : decode cX7_in 1 = .ok (.lload_n 2, 1) := by decide +kernel
theorem dX7_in_2 : decode cX7_in 2 = .ok (.lcmp, 1) := by decide +kernel
theorem dX7_in_3 : decode cX7_in 3 = .ok (.ifCond .lt 14, 3) := by decide +kernel
theorem dX7_in_6 : decode cX7_in 6 = .ok (.lload_n 0, 1) := by decide +kernel
theorem dX7_in_7 : decode cX7_in 7 = .ok (.lload 4, 2) := by decide +kernel
theorem dX7_in_9 : decode cX7_in 9 = .ok (.lcmp, 1) := by decide +kernel
theorem dX7_in_10 : decode cX7_in 10 = .ok (.ifCond .gt 7, 3) := by decide +kernel
theorem dX7_in_13 : decode cX7_in 13 = .ok (.iconst 1, 1) := by decide +kernel
theorem dX7_in_14 : decode cX7_in 14 = .ok (.goto 4, 3) := by decide +kernel
theorem dX7_in_17 : decode cX7_in 17 = .ok (.iconst 0, 1) := by decide +kernel
theorem dX7_in_18 : decode cX7_in 18 = .ok (.ireturn, 1) := by decide +kernel
theorem dX7_held_0 : decode cX7_held 0 = .ok (.iload_n 0, 1) := by decide +kernel
theorem dX7_held_1 : decode cX7_held 1 = .ok (.ifCond .ge 7, 3) := by decide +kernel
theorem dX7_held_4 : decode cX7_held 4 = .ok (.iconst 0, 1) := by decide +kernel
theorem dX7_held_5 : decode cX7_held 5 = .ok (.goto 17, 3) := by decide +kernel
theorem dX7_held_8 : decode cX7_held 8 = .ok (.iload_n 0, 1) := by decide +kernel
theorem dX7_held_9 : decode cX7_held 9 = .ok (.sipush 999, 3) := by decide +kernel
theorem dX7_held_12 : decode cX7_held 12 = .ok (.if_icmp .le 9, 3) := by decide +kernel
theorem dX7_held_15 : decode cX7_held 15 = .ok (.sipush 999, 3) := by decide +kernel
theorem dX7_held_18 : decode cX7_held 18 = .ok (.goto 4, 3) := by decide +kernel
theorem dX7_held_21 : decode cX7_held 21 = .ok (.iload_n 0, 1) := by decide +kernel
theorem dX7_held_22 : decode cX7_held 22 = .ok (.ireturn, 1) := by decide +kernel
theorem dX7_row_0 : decode cX7_row 0 = .ok (.iconst 0, 1) := by decide +kernel
theorem dX7_row_1 : decode cX7_row 1 = .ok (.istore_n 2, 1) := by decide +kernel
theorem dX7_row_2 : decode cX7_row 2 = .ok (.iload_n 2, 1) := by decide +kernel
theorem dX7_row_3 : decode cX7_row 3 = .ok (.sipush 142, 3) := by decide +kernel
theorem dX7_row_6 : decode cX7_row 6 = .ok (.if_icmp .ge 15, 3) := by decide +kernel
theorem dX7_row_9 : decode cX7_row 9 = .ok (.aload_n 1, 1) := by decide +kernel
theorem dX7_row_10 : decode cX7_row 10 = .ok (.iload_n 2, 1) := by decide +kernel
theorem dX7_row_11 : decode cX7_row 11 = .ok (.aload_n 0, 1) := by decide +kernel
theorem dX7_row_12 : decode cX7_row 12 = .ok (.iload_n 2, 1) := by decide +kernel
theorem dX7_row_13 : decode cX7_row 13 = .ok (.iaload, 1) := by decide +kernel
theorem dX7_row_14 : decode cX7_row 14 = .ok (.iastore, 1) := by decide +kernel
theorem dX7_row_15 : decode cX7_row 15 = .ok (.iinc 2 1, 3) := by decide +kernel
theorem dX7_row_18 : decode cX7_row 18 = .ok (.goto (-16), 3) := by decide +kernel
theorem dX7_row_21 : decode cX7_row 21 = .ok (.return_, 1) := by decide +kernel
theorem dX7_becomes_0 : decode cX7_becomes 0 = .ok (.aload_n 0, 1) := by decide +kernel
theorem dX7_becomes_1 : decode cX7_becomes 1 = .ok (.getfield 9, 3) := by decide +kernel
theorem dX7_becomes_4 : decode cX7_becomes 4 = .ok (.iload_n 1, 1) := by decide +kernel
theorem dX7_becomes_5 : decode cX7_becomes 5 = .ok (.iaload, 1) := by decide +kernel
theorem dX7_becomes_6 : decode cX7_becomes 6 = .ok (.istore_n 3, 1) := by decide +kernel
theorem dX7_becomes_7 : decode cX7_becomes 7 = .ok (.aload_n 0, 1) := by decide +kernel
theorem dX7_becomes_8 : decode cX7_becomes 8 = .ok (.getfield 9, 3) := by decide +kernel
theorem dX7_becomes_11 : decode cX7_becomes 11 = .ok (.iload_n 1, 1) := by decide +kernel
theorem dX7_becomes_12 : decode cX7_becomes 12 = .ok (.iload_n 2, 1) := by decide +kernel
theorem dX7_becomes_13 : decode cX7_becomes 13 = .ok (.iastore, 1) := by decide +kernel
theorem dX7_becomes_14 : decode cX7_becomes 14 = .ok (.iload_n 3, 1) := by decide +kernel
theorem dX7_becomes_15 : decode cX7_becomes 15 = .ok (.ireturn, 1) := by decide +kernel
theorem dX7_isName_0 : decode cX7_isName 0 = .ok (.iload_n 0, 1) := by decide +kernel
theorem dX7_isName_1 : decode cX7_isName 1 = .ok (.i2l, 1) := by decide +kernel
theorem dX7_isName_2 : decode cX7_isName 2 = .ok (.lconst 0, 1) := by decide +kernel
theorem dX7_isName_3 : decode cX7_isName 3 = .ok (.ldc2_w 49, 3) := by decide +kernel
theorem dX7_isName_6 : decode cX7_isName 6 = .ok (.invokestatic 51, 3) := by decide +kernel
theorem dX7_isName_9 : decode cX7_isName 9 = .ok (.ireturn, 1) := by decide +kernel
theorem dX7_isTask_0 : decode cX7_isTask 0 = .ok (.iload_n 1, 1) := by decide +kernel
theorem dX7_isTask_1 : decode cX7_isTask 1 = .ok (.i2l, 1) := by decide +kernel
theorem dX7_isTask_2 : decode cX7_isTask 2 = .ok (.lconst 0, 1) := by decide +kernel
theorem dX7_isTask_3 : decode cX7_isTask 3 = .ok (.aload_n 0, 1) := by decide +kernel
theorem dX7_isTask_4 : decode cX7_isTask 4 = .ok (.getfield 9, 3) := by decide +kernel
theorem dX7_isTask_7 : decode cX7_isTask 7 = .ok (.iconst 2, 1) := by decide +kernel
theorem dX7_isTask_8 : decode cX7_isTask 8 = .ok (.iaload, 1) := by decide +kernel
theorem dX7_isTask_9 : decode cX7_isTask 9 = .ok (.iconst 1, 1) := by decide +kernel
theorem dX7_isTask_10 : decode cX7_isTask 10 = .ok (.isub, 1) := by decide +kernel
theorem dX7_isTask_11 : decode cX7_isTask 11 = .ok (.i2l, 1) := by decide +kernel
theorem dX7_isTask_12 : decode cX7_isTask 12 = .ok (.invokestatic 51, 3) := by decide +kernel
theorem dX7_isTask_15 : decode cX7_isTask 15 = .ok (.ireturn, 1) := by decide +kernel
theorem dX7_isPerson_0 : decode cX7_isPerson 0 = .ok (.iload_n 1, 1) := by decide +kernel
theorem dX7_isPerson_1 : decode cX7_isPerson 1 = .ok (.i2l, 1) := by decide +kernel
theorem dX7_isPerson_2 : decode cX7_isPerson 2 = .ok (.lconst 0, 1) := by decide +kernel
theorem dX7_isPerson_3 : decode cX7_isPerson 3 = .ok (.aload_n 0, 1) := by decide +kernel
theorem dX7_isPerson_4 : decode cX7_isPerson 4 = .ok (.getfield 9, 3) := by decide +kernel
theorem dX7_isPerson_7 : decode cX7_isPerson 7 = .ok (.iconst 3, 1) := by decide +kernel
theorem dX7_isPerson_8 : decode cX7_isPerson 8 = .ok (.iaload, 1) := by decide +kernel
theorem dX7_isPerson_9 : decode cX7_isPerson 9 = .ok (.iconst 1, 1) := by decide +kernel
theorem dX7_isPerson_10 : decode cX7_isPerson 10 = .ok (.isub, 1) := by decide +kernel
theorem dX7_isPerson_11 : decode cX7_isPerson 11 = .ok (.i2l, 1) := by decide +kernel
theorem dX7_isPerson_12 : decode cX7_isPerson 12 = .ok (.invokestatic 51, 3) := by decide +kernel
theorem dX7_isPerson_15 : decode cX7_isPerson 15 = .ok (.ireturn, 1) := by decide +kernel
theorem dX7_isKind_0 : decode cX7_isKind 0 = .ok (.iload_n 0, 1) := by decide +kernel
theorem dX7_isKind_1 : decode cX7_isKind 1 = .ok (.i2l, 1) := by decide +kernel
theorem dX7_isKind_2 : decode cX7_isKind 2 = .ok (.lconst 0, 1) := by decide +kernel
theorem dX7_isKind_3 : decode cX7_isKind 3 = .ok (.ldc2_w 55, 3) := by decide +kernel
theorem dX7_isKind_6 : decode cX7_isKind 6 = .ok (.invokestatic 51, 3) := by decide +kernel
theorem dX7_isKind_9 : decode cX7_isKind 9 = .ok (.ireturn, 1) := by decide +kernel
theorem dX7_areHands_0 : decode cX7_areHands 0 = .ok (.iload_n 0, 1) := by decide +kernel
theorem dX7_areHands_1 : decode cX7_areHands 1 = .ok (.i2l, 1) := by decide +kernel
theorem dX7_areHands_2 : decode cX7_areHands 2 = .ok (.lconst 1, 1) := by decide +kernel
theorem dX7_areHands_3 : decode cX7_areHands 3 = .ok (.ldc2_w 57, 3) := by decide +kernel
theorem dX7_areHands_6 : decode cX7_areHands 6 = .ok (.invokestatic 51, 3) := by decide +kernel
theorem dX7_areHands_9 : decode cX7_areHands 9 = .ok (.ireturn, 1) := by decide +kernel
theorem dX7_task0_0 : decode cX7_task0 0 = .ok (.aload_n 0, 1) := by decide +kernel
theorem dX7_task0_1 : decode cX7_task0 1 = .ok (.getfield 9, 3) := by decide +kernel
theorem dX7_task0_4 : decode cX7_task0 4 = .ok (.bipush 20, 2) := by decide +kernel
theorem dX7_task0_6 : decode cX7_task0 6 = .ok (.iconst 4, 1) := by decide +kernel
theorem dX7_task0_7 : decode cX7_task0 7 = .ok (.iload_n 1, 1) := by decide +kernel
theorem dX7_task0_8 : decode cX7_task0 8 = .ok (.imul, 1) := by decide +kernel
theorem dX7_task0_9 : decode cX7_task0 9 = .ok (.iadd, 1) := by decide +kernel
theorem dX7_task0_10 : decode cX7_task0 10 = .ok (.iload_n 2, 1) := by decide +kernel
theorem dX7_task0_11 : decode cX7_task0 11 = .ok (.iadd, 1) := by decide +kernel
theorem dX7_task0_12 : decode cX7_task0 12 = .ok (.iaload, 1) := by decide +kernel
theorem dX7_task0_13 : decode cX7_task0 13 = .ok (.ireturn, 1) := by decide +kernel
theorem dX7_person0_0 : decode cX7_person0 0 = .ok (.aload_n 0, 1) := by decide +kernel
theorem dX7_person0_1 : decode cX7_person0 1 = .ok (.getfield 9, 3) := by decide +kernel
theorem dX7_person0_4 : decode cX7_person0 4 = .ok (.bipush 100, 2) := by decide +kernel
theorem dX7_person0_6 : decode cX7_person0 6 = .ok (.iconst 4, 1) := by decide +kernel
theorem dX7_person0_7 : decode cX7_person0 7 = .ok (.iload_n 1, 1) := by decide +kernel
theorem dX7_person0_8 : decode cX7_person0 8 = .ok (.imul, 1) := by decide +kernel
theorem dX7_person0_9 : decode cX7_person0 9 = .ok (.iadd, 1) := by decide +kernel
theorem dX7_person0_10 : decode cX7_person0 10 = .ok (.iload_n 2, 1) := by decide +kernel
theorem dX7_person0_11 : decode cX7_person0 11 = .ok (.iadd, 1) := by decide +kernel
theorem dX7_person0_12 : decode cX7_person0 12 = .ok (.iaload, 1) := by decide +kernel
theorem dX7_person0_13 : decode cX7_person0 13 = .ok (.ireturn, 1) := by decide +kernel
theorem dX7_isEnded_0 : decode cX7_isEnded 0 = .ok (.aload_n 0, 1) := by decide +kernel
theorem dX7_isEnded_1 : decode cX7_isEnded 1 = .ok (.iload_n 1, 1) := by decide +kernel
theorem dX7_isEnded_2 : decode cX7_isEnded 2 = .ok (.iconst 2, 1) := by decide +kernel
theorem dX7_isEnded_3 : decode cX7_isEnded 3 = .ok (.invokevirtual 59, 3) := by decide +kernel
theorem dX7_isEnded_6 : decode cX7_isEnded 6 = .ok (.ifCond .ne 7, 3) := by decide +kernel
theorem dX7_isEnded_9 : decode cX7_isEnded 9 = .ok (.iconst 1, 1) := by decide +kernel
theorem dX7_isEnded_10 : decode cX7_isEnded 10 = .ok (.goto 4, 3) := by decide +kernel
theorem dX7_isEnded_13 : decode cX7_isEnded 13 = .ok (.iconst 0, 1) := by decide +kernel
theorem dX7_isEnded_14 : decode cX7_isEnded 14 = .ok (.ireturn, 1) := by decide +kernel
theorem dX7_bearer_0 : decode cX7_bearer 0 = .ok (.iconst 0, 1) := by decide +kernel
theorem dX7_bearer_1 : decode cX7_bearer 1 = .ok (.istore_n 2, 1) := by decide +kernel
theorem dX7_bearer_2 : decode cX7_bearer 2 = .ok (.iload_n 2, 1) := by decide +kernel
theorem dX7_bearer_3 : decode cX7_bearer 3 = .ok (.aload_n 0, 1) := by decide +kernel
theorem dX7_bearer_4 : decode cX7_bearer 4 = .ok (.getfield 9, 3) := by decide +kernel
theorem dX7_bearer_7 : decode cX7_bearer 7 = .ok (.iconst 3, 1) := by decide +kernel
theorem dX7_bearer_8 : decode cX7_bearer 8 = .ok (.iaload, 1) := by decide +kernel
theorem dX7_bearer_9 : decode cX7_bearer 9 = .ok (.if_icmp .ge 21, 3) := by decide +kernel
theorem dX7_bearer_12 : decode cX7_bearer 12 = .ok (.aload_n 0, 1) := by decide +kernel
theorem dX7_bearer_13 : decode cX7_bearer 13 = .ok (.iload_n 2, 1) := by decide +kernel
theorem dX7_bearer_14 : decode cX7_bearer 14 = .ok (.iconst 0, 1) := by decide +kernel
theorem dX7_bearer_15 : decode cX7_bearer 15 = .ok (.invokevirtual 63, 3) := by decide +kernel
theorem dX7_bearer_18 : decode cX7_bearer 18 = .ok (.iload_n 1, 1) := by decide +kernel
theorem dX7_bearer_19 : decode cX7_bearer 19 = .ok (.if_icmp .ne 5, 3) := by decide +kernel
theorem dX7_bearer_22 : decode cX7_bearer 22 = .ok (.iload_n 2, 1) := by decide +kernel
theorem dX7_bearer_23 : decode cX7_bearer 23 = .ok (.ireturn, 1) := by decide +kernel
theorem dX7_bearer_24 : decode cX7_bearer 24 = .ok (.iinc 2 1, 3) := by decide +kernel
theorem dX7_bearer_27 : decode cX7_bearer 27 = .ok (.goto (-25), 3) := by decide +kernel
theorem dX7_bearer_30 : decode cX7_bearer 30 = .ok (.iconst (-1), 1) := by decide +kernel
theorem dX7_bearer_31 : decode cX7_bearer 31 = .ok (.ireturn, 1) := by decide +kernel
theorem dX7_worth_0 : decode cX7_worth 0 = .ok (.iload_n 1, 1) := by decide +kernel
theorem dX7_worth_1 : decode cX7_worth 1 = .ok (.invokestatic 66, 3) := by decide +kernel
theorem dX7_worth_4 : decode cX7_worth 4 = .ok (.ifCond .eq 28, 3) := by decide +kernel
theorem dX7_worth_7 : decode cX7_worth 7 = .ok (.iload_n 2, 1) := by decide +kernel
theorem dX7_worth_8 : decode cX7_worth 8 = .ok (.i2l, 1) := by decide +kernel
theorem dX7_worth_9 : decode cX7_worth 9 = .ok (.lconst 0, 1) := by decide +kernel
theorem dX7_worth_10 : decode cX7_worth 10 = .ok (.ldc2_w 70, 3) := by decide +kernel
theorem dX7_worth_13 : decode cX7_worth 13 = .ok (.invokestatic 51, 3) := by decide +kernel
theorem dX7_worth_16 : decode cX7_worth 16 = .ok (.ifCond .eq 16, 3) := by decide +kernel
theorem dX7_worth_19 : decode cX7_worth 19 = .ok (.aload_n 0, 1) := by decide +kernel
theorem dX7_worth_20 : decode cX7_worth 20 = .ok (.iconst 4, 1) := by decide +kernel
theorem dX7_worth_21 : decode cX7_worth 21 = .ok (.iconst 2, 1) := by decide +kernel
theorem dX7_worth_22 : decode cX7_worth 22 = .ok (.iload_n 1, 1) := by decide +kernel
theorem dX7_worth_23 : decode cX7_worth 23 = .ok (.imul, 1) := by decide +kernel
theorem dX7_worth_24 : decode cX7_worth 24 = .ok (.iadd, 1) := by decide +kernel
theorem dX7_worth_25 : decode cX7_worth 25 = .ok (.iload_n 2, 1) := by decide +kernel
theorem dX7_worth_26 : decode cX7_worth 26 = .ok (.invokevirtual 72, 3) := by decide +kernel
theorem dX7_worth_29 : decode cX7_worth 29 = .ok (.goto 9, 3) := by decide +kernel
theorem dX7_worth_32 : decode cX7_worth 32 = .ok (.aload_n 0, 1) := by decide +kernel
theorem dX7_worth_33 : decode cX7_worth 33 = .ok (.ldc 43, 2) := by decide +kernel
theorem dX7_worth_35 : decode cX7_worth 35 = .ok (.invokevirtual 45, 3) := by decide +kernel
theorem dX7_worth_38 : decode cX7_worth 38 = .ok (.ireturn, 1) := by decide +kernel
theorem dX7_comes_0 : decode cX7_comes 0 = .ok (.bipush 20, 2) := by decide +kernel
theorem dX7_comes_2 : decode cX7_comes 2 = .ok (.iconst 4, 1) := by decide +kernel
theorem dX7_comes_3 : decode cX7_comes 3 = .ok (.aload_n 0, 1) := by decide +kernel
theorem dX7_comes_4 : decode cX7_comes 4 = .ok (.getfield 9, 3) := by decide +kernel
theorem dX7_comes_7 : decode cX7_comes 7 = .ok (.iconst 2, 1) := by decide +kernel
theorem dX7_comes_8 : decode cX7_comes 8 = .ok (.iaload, 1) := by decide +kernel
theorem dX7_comes_9 : decode cX7_comes 9 = .ok (.imul, 1) := by decide +kernel
theorem dX7_comes_10 : decode cX7_comes 10 = .ok (.iadd, 1) := by decide +kernel
theorem dX7_comes_11 : decode cX7_comes 11 = .ok (.istore 5, 2) := by decide +kernel
theorem dX7_comes_13 : decode cX7_comes 13 = .ok (.aload_n 0, 1) := by decide +kernel
theorem dX7_comes_14 : decode cX7_comes 14 = .ok (.getfield 9, 3) := by decide +kernel
theorem dX7_comes_17 : decode cX7_comes 17 = .ok (.iload 5, 2) := by decide +kernel
theorem dX7_comes_19 : decode cX7_comes 19 = .ok (.iload_n 1, 1) := by decide +kernel
theorem dX7_comes_20 : decode cX7_comes 20 = .ok (.iastore, 1) := by decide +kernel
theorem dX7_comes_21 : decode cX7_comes 21 = .ok (.aload_n 0, 1) := by decide +kernel
theorem dX7_comes_22 : decode cX7_comes 22 = .ok (.getfield 9, 3) := by decide +kernel
theorem dX7_comes_25 : decode cX7_comes 25 = .ok (.iload 5, 2) := by decide +kernel
theorem dX7_comes_27 : decode cX7_comes 27 = .ok (.iconst 1, 1) := by decide +kernel
theorem dX7_comes_28 : decode cX7_comes 28 = .ok (.iadd, 1) := by decide +kernel
theorem dX7_comes_29 : decode cX7_comes 29 = .ok (.iload_n 2, 1) := by decide +kernel
theorem dX7_comes_30 : decode cX7_comes 30 = .ok (.iastore, 1) := by decide +kernel
theorem dX7_comes_31 : decode cX7_comes 31 = .ok (.aload_n 0, 1) := by decide +kernel
theorem dX7_comes_32 : decode cX7_comes 32 = .ok (.getfield 9, 3) := by decide +kernel
theorem dX7_comes_35 : decode cX7_comes 35 = .ok (.iload 5, 2) := by decide +kernel
theorem dX7_comes_37 : decode cX7_comes 37 = .ok (.iconst 2, 1) := by decide +kernel
theorem dX7_comes_38 : decode cX7_comes 38 = .ok (.iadd, 1) := by decide +kernel
theorem dX7_comes_39 : decode cX7_comes 39 = .ok (.iload_n 3, 1) := by decide +kernel
theorem dX7_comes_40 : decode cX7_comes 40 = .ok (.iastore, 1) := by decide +kernel
theorem dX7_comes_41 : decode cX7_comes 41 = .ok (.aload_n 0, 1) := by decide +kernel
theorem dX7_comes_42 : decode cX7_comes 42 = .ok (.getfield 9, 3) := by decide +kernel
theorem dX7_comes_45 : decode cX7_comes 45 = .ok (.iload 5, 2) := by decide +kernel
theorem dX7_comes_47 : decode cX7_comes 47 = .ok (.iconst 3, 1) := by decide +kernel
theorem dX7_comes_48 : decode cX7_comes 48 = .ok (.iadd, 1) := by decide +kernel
theorem dX7_comes_49 : decode cX7_comes 49 = .ok (.iload 4, 2) := by decide +kernel
theorem dX7_comes_51 : decode cX7_comes 51 = .ok (.iastore, 1) := by decide +kernel
theorem dX7_comes_52 : decode cX7_comes 52 = .ok (.aload_n 0, 1) := by decide +kernel
theorem dX7_comes_53 : decode cX7_comes 53 = .ok (.getfield 9, 3) := by decide +kernel
theorem dX7_comes_56 : decode cX7_comes 56 = .ok (.iconst 2, 1) := by decide +kernel
theorem dX7_comes_57 : decode cX7_comes 57 = .ok (.dup2, 1) := by decide +kernel
theorem dX7_comes_58 : decode cX7_comes 58 = .ok (.iaload, 1) := by decide +kernel
theorem dX7_comes_59 : decode cX7_comes 59 = .ok (.iconst 1, 1) := by decide +kernel
theorem dX7_comes_60 : decode cX7_comes 60 = .ok (.iadd, 1) := by decide +kernel
theorem dX7_comes_61 : decode cX7_comes 61 = .ok (.iastore, 1) := by decide +kernel
theorem dX7_comes_62 : decode cX7_comes 62 = .ok (.return_, 1) := by decide +kernel
theorem dX7_task_0 : decode cX7_task 0 = .ok (.iload_n 1, 1) := by decide +kernel
theorem dX7_task_1 : decode cX7_task 1 = .ok (.invokestatic 75, 3) := by decide +kernel
theorem dX7_task_4 : decode cX7_task 4 = .ok (.ifCond .eq 22, 3) := by decide +kernel
theorem dX7_task_7 : decode cX7_task 7 = .ok (.iload_n 2, 1) := by decide +kernel
theorem dX7_task_8 : decode cX7_task 8 = .ok (.invokestatic 66, 3) := by decide +kernel
theorem dX7_task_11 : decode cX7_task 11 = .ok (.ifCond .eq 15, 3) := by decide +kernel
theorem dX7_task_14 : decode cX7_task 14 = .ok (.iload_n 3, 1) := by decide +kernel
theorem dX7_task_15 : decode cX7_task 15 = .ok (.i2l, 1) := by decide +kernel
theorem dX7_task_16 : decode cX7_task 16 = .ok (.lconst 1, 1) := by decide +kernel
theorem dX7_task_17 : decode cX7_task 17 = .ok (.ldc2_w 78, 3) := by decide +kernel
theorem dX7_task_20 : decode cX7_task 20 = .ok (.invokestatic 51, 3) := by decide +kernel
theorem dX7_task_23 : decode cX7_task 23 = .ok (.ifCond .ne 10, 3) := by decide +kernel
theorem dX7_task_26 : decode cX7_task 26 = .ok (.aload_n 0, 1) := by decide +kernel
theorem dX7_task_27 : decode cX7_task 27 = .ok (.ldc 43, 2) := by decide +kernel
theorem dX7_task_29 : decode cX7_task 29 = .ok (.invokevirtual 45, 3) := by decide +kernel
theorem dX7_task_32 : decode cX7_task 32 = .ok (.ireturn, 1) := by decide +kernel
theorem dX7_task_33 : decode cX7_task 33 = .ok (.aload_n 0, 1) := by decide +kernel
theorem dX7_task_34 : decode cX7_task 34 = .ok (.getfield 9, 3) := by decide +kernel
theorem dX7_task_37 : decode cX7_task 37 = .ok (.iconst 2, 1) := by decide +kernel
theorem dX7_task_38 : decode cX7_task 38 = .ok (.iaload, 1) := by decide +kernel
theorem dX7_task_39 : decode cX7_task 39 = .ok (.bipush 20, 2) := by decide +kernel
theorem dX7_task_41 : decode cX7_task 41 = .ok (.if_icmp .ne 10, 3) := by decide +kernel
theorem dX7_task_44 : decode cX7_task 44 = .ok (.aload_n 0, 1) := by decide +kernel
theorem dX7_task_45 : decode cX7_task 45 = .ok (.ldc 80, 2) := by decide +kernel
theorem dX7_task_47 : decode cX7_task 47 = .ok (.invokevirtual 45, 3) := by decide +kernel
theorem dX7_task_50 : decode cX7_task 50 = .ok (.ireturn, 1) := by decide +kernel
theorem dX7_task_51 : decode cX7_task 51 = .ok (.aload_n 0, 1) := by decide +kernel
theorem dX7_task_52 : decode cX7_task 52 = .ok (.iload_n 1, 1) := by decide +kernel
theorem dX7_task_53 : decode cX7_task 53 = .ok (.iload_n 2, 1) := by decide +kernel
theorem dX7_task_54 : decode cX7_task 54 = .ok (.iload_n 3, 1) := by decide +kernel
theorem dX7_task_55 : decode cX7_task 55 = .ok (.iconst (-1), 1) := by decide +kernel
theorem dX7_task_56 : decode cX7_task 56 = .ok (.invokevirtual 81, 3) := by decide +kernel
theorem dX7_task_59 : decode cX7_task 59 = .ok (.aload_n 0, 1) := by decide +kernel
theorem dX7_task_60 : decode cX7_task 60 = .ok (.getfield 9, 3) := by decide +kernel
theorem dX7_task_63 : decode cX7_task 63 = .ok (.iconst 2, 1) := by decide +kernel
theorem dX7_task_64 : decode cX7_task 64 = .ok (.iaload, 1) := by decide +kernel
theorem dX7_task_65 : decode cX7_task 65 = .ok (.iconst 1, 1) := by decide +kernel
theorem dX7_task_66 : decode cX7_task 66 = .ok (.isub, 1) := by decide +kernel
theorem dX7_task_67 : decode cX7_task 67 = .ok (.ireturn, 1) := by decide +kernel
theorem dX7_grows_0 : decode cX7_grows 0 = .ok (.aload_n 0, 1) := by decide +kernel
theorem dX7_grows_1 : decode cX7_grows 1 = .ok (.iload_n 1, 1) := by decide +kernel
theorem dX7_grows_2 : decode cX7_grows 2 = .ok (.invokevirtual 85, 3) := by decide +kernel
theorem dX7_grows_5 : decode cX7_grows 5 = .ok (.ifCond .eq 5, 3) := by decide +kernel
theorem dX7_grows_8 : decode cX7_grows 8 = .ok (.iconst 0, 1) := by decide +kernel
theorem dX7_grows_9 : decode cX7_grows 9 = .ok (.ireturn, 1) := by decide +kernel
theorem dX7_grows_10 : decode cX7_grows 10 = .ok (.aload_n 0, 1) := by decide +kernel
theorem dX7_grows_11 : decode cX7_grows 11 = .ok (.iload_n 1, 1) := by decide +kernel
theorem dX7_grows_12 : decode cX7_grows 12 = .ok (.iconst 0, 1) := by decide +kernel
theorem dX7_grows_13 : decode cX7_grows 13 = .ok (.invokevirtual 59, 3) := by decide +kernel
theorem dX7_grows_16 : decode cX7_grows 16 = .ok (.istore_n 2, 1) := by decide +kernel
theorem dX7_grows_17 : decode cX7_grows 17 = .ok (.aload_n 0, 1) := by decide +kernel
theorem dX7_grows_18 : decode cX7_grows 18 = .ok (.iload_n 1, 1) := by decide +kernel
theorem dX7_grows_19 : decode cX7_grows 19 = .ok (.iconst 2, 1) := by decide +kernel
theorem dX7_grows_20 : decode cX7_grows 20 = .ok (.invokevirtual 59, 3) := by decide +kernel
theorem dX7_grows_23 : decode cX7_grows 23 = .ok (.bipush 10, 2) := by decide +kernel
theorem dX7_grows_25 : decode cX7_grows 25 = .ok (.idiv, 1) := by decide +kernel
theorem dX7_grows_26 : decode cX7_grows 26 = .ok (.istore_n 3, 1) := by decide +kernel
theorem dX7_grows_27 : decode cX7_grows 27 = .ok (.iload_n 2, 1) := by decide +kernel
theorem dX7_grows_28 : decode cX7_grows 28 = .ok (.iconst 2, 1) := by decide +kernel
theorem dX7_grows_29 : decode cX7_grows 29 = .ok (.if_icmp .ne 7, 3) := by decide +kernel
theorem dX7_grows_32 : decode cX7_grows 32 = .ok (.iload_n 3, 1) := by decide +kernel
theorem dX7_grows_33 : decode cX7_grows 33 = .ok (.goto 36, 3) := by decide +kernel
theorem dX7_grows_36 : decode cX7_grows 36 = .ok (.iload_n 2, 1) := by decide +kernel
theorem dX7_grows_37 : decode cX7_grows 37 = .ok (.iconst 3, 1) := by decide +kernel
theorem dX7_grows_38 : decode cX7_grows 38 = .ok (.if_icmp .ne 9, 3) := by decide +kernel
theorem dX7_grows_41 : decode cX7_grows 41 = .ok (.iload_n 3, 1) := by decide +kernel
theorem dX7_grows_42 : decode cX7_grows 42 = .ok (.iconst 1, 1) := by decide +kernel
theorem dX7_grows_43 : decode cX7_grows 43 = .ok (.iadd, 1) := by decide +kernel
theorem dX7_grows_44 : decode cX7_grows 44 = .ok (.goto 25, 3) := by decide +kernel
theorem dX7_grows_47 : decode cX7_grows 47 = .ok (.iload_n 2, 1) := by decide +kernel
theorem dX7_grows_48 : decode cX7_grows 48 = .ok (.bipush 6, 2) := by decide +kernel
theorem dX7_grows_50 : decode cX7_grows 50 = .ok (.if_icmp .ne 18, 3) := by decide +kernel
theorem dX7_grows_53 : decode cX7_grows 53 = .ok (.aload_n 0, 1) := by decide +kernel
theorem dX7_grows_54 : decode cX7_grows 54 = .ok (.getfield 9, 3) := by decide +kernel
theorem dX7_grows_57 : decode cX7_grows 57 = .ok (.iconst 0, 1) := by decide +kernel
theorem dX7_grows_58 : decode cX7_grows 58 = .ok (.iaload, 1) := by decide +kernel
theorem dX7_grows_59 : decode cX7_grows 59 = .ok (.iconst 2, 1) := by decide +kernel
theorem dX7_grows_60 : decode cX7_grows 60 = .ok (.irem, 1) := by decide +kernel
theorem dX7_grows_61 : decode cX7_grows 61 = .ok (.ifCond .ne 7, 3) := by decide +kernel
theorem dX7_grows_64 : decode cX7_grows 64 = .ok (.iconst 1, 1) := by decide +kernel
theorem dX7_grows_65 : decode cX7_grows 65 = .ok (.goto 4, 3) := by decide +kernel
theorem dX7_grows_68 : decode cX7_grows 68 = .ok (.iconst 0, 1) := by decide +kernel
theorem dX7_grows_69 : decode cX7_grows 69 = .ok (.ireturn, 1) := by decide +kernel
theorem dX7_waitsFor_0 : decode cX7_waitsFor 0 = .ok (.aload_n 0, 1) := by decide +kernel
theorem dX7_waitsFor_1 : decode cX7_waitsFor 1 = .ok (.iload_n 1, 1) := by decide +kernel
theorem dX7_waitsFor_2 : decode cX7_waitsFor 2 = .ok (.iconst 3, 1) := by decide +kernel
theorem dX7_waitsFor_3 : decode cX7_waitsFor 3 = .ok (.invokevirtual 59, 3) := by decide +kernel
theorem dX7_waitsFor_6 : decode cX7_waitsFor 6 = .ok (.istore_n 2, 1) := by decide +kernel
theorem dX7_waitsFor_7 : decode cX7_waitsFor 7 = .ok (.aload_n 0, 1) := by decide +kernel
theorem dX7_waitsFor_8 : decode cX7_waitsFor 8 = .ok (.iload_n 1, 1) := by decide +kernel
theorem dX7_waitsFor_9 : decode cX7_waitsFor 9 = .ok (.invokevirtual 85, 3) := by decide +kernel
theorem dX7_waitsFor_12 : decode cX7_waitsFor 12 = .ok (.ifCond .ne 15, 3) := by decide +kernel
theorem dX7_waitsFor_15 : decode cX7_waitsFor 15 = .ok (.iload_n 2, 1) := by decide +kernel
theorem dX7_waitsFor_16 : decode cX7_waitsFor 16 = .ok (.ifCond .lt 11, 3) := by decide +kernel
theorem dX7_waitsFor_19 : decode cX7_waitsFor 19 = .ok (.aload_n 0, 1) := by decide +kernel
theorem dX7_waitsFor_20 : decode cX7_waitsFor 20 = .ok (.iload_n 2, 1) := by decide +kernel
theorem dX7_waitsFor_21 : decode cX7_waitsFor 21 = .ok (.invokevirtual 85, 3) := by decide +kernel
theorem dX7_waitsFor_24 : decode cX7_waitsFor 24 = .ok (.ifCond .eq 7, 3) := by decide +kernel
theorem dX7_waitsFor_27 : decode cX7_waitsFor 27 = .ok (.iconst (-1), 1) := by decide +kernel
theorem dX7_waitsFor_28 : decode cX7_waitsFor 28 = .ok (.goto 4, 3) := by decide +kernel
theorem dX7_waitsFor_31 : decode cX7_waitsFor 31 = .ok (.iload_n 2, 1) := by decide +kernel
theorem dX7_waitsFor_32 : decode cX7_waitsFor 32 = .ok (.ireturn, 1) := by decide +kernel
theorem dX7_comesTo_0 : decode cX7_comesTo 0 = .ok (.iload_n 1, 1) := by decide +kernel
theorem dX7_comesTo_1 : decode cX7_comesTo 1 = .ok (.istore_n 3, 1) := by decide +kernel
theorem dX7_comesTo_2 : decode cX7_comesTo 2 = .ok (.iconst 0, 1) := by decide +kernel
theorem dX7_comesTo_3 : decode cX7_comesTo 3 = .ok (.istore 4, 2) := by decide +kernel
theorem dX7_comesTo_5 : decode cX7_comesTo 5 = .ok (.iload 4, 2) := by decide +kernel
theorem dX7_comesTo_7 : decode cX7_comesTo 7 = .ok (.bipush 20, 2) := by decide +kernel
theorem dX7_comesTo_9 : decode cX7_comesTo 9 = .ok (.if_icmp .ge 26, 3) := by decide +kernel
theorem dX7_comesTo_12 : decode cX7_comesTo 12 = .ok (.iload_n 3, 1) := by decide +kernel
theorem dX7_comesTo_13 : decode cX7_comesTo 13 = .ok (.ifCond .lt 22, 3) := by decide +kernel
theorem dX7_comesTo_16 : decode cX7_comesTo 16 = .ok (.aload_n 0, 1) := by decide +kernel
theorem dX7_comesTo_17 : decode cX7_comesTo 17 = .ok (.iload_n 3, 1) := by decide +kernel
theorem dX7_comesTo_18 : decode cX7_comesTo 18 = .ok (.invokevirtual 88, 3) := by decide +kernel
theorem dX7_comesTo_21 : decode cX7_comesTo 21 = .ok (.istore_n 3, 1) := by decide +kernel
theorem dX7_comesTo_22 : decode cX7_comesTo 22 = .ok (.iload_n 3, 1) := by decide +kernel
theorem dX7_comesTo_23 : decode cX7_comesTo 23 = .ok (.iload_n 2, 1) := by decide +kernel
theorem dX7_comesTo_24 : decode cX7_comesTo 24 = .ok (.if_icmp .ne 5, 3) := by decide +kernel
theorem dX7_comesTo_27 : decode cX7_comesTo 27 = .ok (.iconst 1, 1) := by decide +kernel
theorem dX7_comesTo_28 : decode cX7_comesTo 28 = .ok (.ireturn, 1) := by decide +kernel
theorem dX7_comesTo_29 : decode cX7_comesTo 29 = .ok (.iinc 4 1, 3) := by decide +kernel
theorem dX7_comesTo_32 : decode cX7_comesTo 32 = .ok (.goto (-27), 3) := by decide +kernel
theorem dX7_comesTo_35 : decode cX7_comesTo 35 = .ok (.iconst 0, 1) := by decide +kernel
theorem dX7_comesTo_36 : decode cX7_comesTo 36 = .ok (.ireturn, 1) := by decide +kernel
theorem dX7_taskOf_0 : decode cX7_taskOf 0 = .ok (.aload_n 0, 1) := by decide +kernel
theorem dX7_taskOf_1 : decode cX7_taskOf 1 = .ok (.iload_n 1, 1) := by decide +kernel
theorem dX7_taskOf_2 : decode cX7_taskOf 2 = .ok (.invokevirtual 91, 3) := by decide +kernel
theorem dX7_taskOf_5 : decode cX7_taskOf 5 = .ok (.ifCond .eq 15, 3) := by decide +kernel
theorem dX7_taskOf_8 : decode cX7_taskOf 8 = .ok (.iload_n 2, 1) := by decide +kernel
theorem dX7_taskOf_9 : decode cX7_taskOf 9 = .ok (.i2l, 1) := by decide +kernel
theorem dX7_taskOf_10 : decode cX7_taskOf 10 = .ok (.lconst 0, 1) := by decide +kernel
theorem dX7_taskOf_11 : decode cX7_taskOf 11 = .ok (.ldc2_w 94, 3) := by decide +kernel
theorem dX7_taskOf_14 : decode cX7_taskOf 14 = .ok (.invokestatic 51, 3) := by decide +kernel
theorem dX7_taskOf_17 : decode cX7_taskOf 17 = .ok (.ifCond .ne 10, 3) := by decide +kernel
theorem dX7_taskOf_20 : decode cX7_taskOf 20 = .ok (.aload_n 0, 1) := by decide +kernel
theorem dX7_taskOf_21 : decode cX7_taskOf 21 = .ok (.ldc 43, 2) := by decide +kernel
theorem dX7_taskOf_23 : decode cX7_taskOf 23 = .ok (.invokevirtual 45, 3) := by decide +kernel
theorem dX7_taskOf_26 : decode cX7_taskOf 26 = .ok (.ireturn, 1) := by decide +kernel
theorem dX7_taskOf_27 : decode cX7_taskOf 27 = .ok (.iload_n 2, 1) := by decide +kernel
theorem dX7_taskOf_28 : decode cX7_taskOf 28 = .ok (.iconst 4, 1) := by decide +kernel
theorem dX7_taskOf_29 : decode cX7_taskOf 29 = .ok (.if_icmp .ge 12, 3) := by decide +kernel
theorem dX7_taskOf_32 : decode cX7_taskOf 32 = .ok (.aload_n 0, 1) := by decide +kernel
theorem dX7_taskOf_33 : decode cX7_taskOf 33 = .ok (.iload_n 1, 1) := by decide +kernel
theorem dX7_taskOf_34 : decode cX7_taskOf 34 = .ok (.iload_n 2, 1) := by decide +kernel
theorem dX7_taskOf_35 : decode cX7_taskOf 35 = .ok (.invokevirtual 59, 3) := by decide +kernel
theorem dX7_taskOf_38 : decode cX7_taskOf 38 = .ok (.goto 30, 3) := by decide +kernel
theorem dX7_taskOf_41 : decode cX7_taskOf 41 = .ok (.iload_n 2, 1) := by decide +kernel
theorem dX7_taskOf_42 : decode cX7_taskOf 42 = .ok (.iconst 4, 1) := by decide +kernel
theorem dX7_taskOf_43 : decode cX7_taskOf 43 = .ok (.if_icmp .ne 11, 3) := by decide +kernel
theorem dX7_taskOf_46 : decode cX7_taskOf 46 = .ok (.aload_n 0, 1) := by decide +kernel
theorem dX7_taskOf_47 : decode cX7_taskOf 47 = .ok (.iload_n 1, 1) := by decide +kernel
theorem dX7_taskOf_48 : decode cX7_taskOf 48 = .ok (.invokevirtual 96, 3) := by decide +kernel
theorem dX7_taskOf_51 : decode cX7_taskOf 51 = .ok (.goto 17, 3) := by decide +kernel
theorem dX7_taskOf_54 : decode cX7_taskOf 54 = .ok (.aload_n 0, 1) := by decide +kernel
theorem dX7_taskOf_55 : decode cX7_taskOf 55 = .ok (.iload_n 1, 1) := by decide +kernel
theorem dX7_taskOf_56 : decode cX7_taskOf 56 = .ok (.iload_n 1, 1) := by decide +kernel
theorem dX7_taskOf_57 : decode cX7_taskOf 57 = .ok (.invokevirtual 99, 3) := by decide +kernel
theorem dX7_taskOf_60 : decode cX7_taskOf 60 = .ok (.ifCond .eq 7, 3) := by decide +kernel
theorem dX7_taskOf_63 : decode cX7_taskOf 63 = .ok (.iconst 1, 1) := by decide +kernel
theorem dX7_taskOf_64 : decode cX7_taskOf 64 = .ok (.goto 4, 3) := by decide +kernel
theorem dX7_taskOf_67 : decode cX7_taskOf 67 = .ok (.iconst 0, 1) := by decide +kernel
theorem dX7_taskOf_68 : decode cX7_taskOf 68 = .ok (.ireturn, 1) := by decide +kernel
theorem dX7_turn_0 : decode cX7_turn 0 = .ok (.aload_n 0, 1) := by decide +kernel
theorem dX7_turn_1 : decode cX7_turn 1 = .ok (.iload_n 1, 1) := by decide +kernel
theorem dX7_turn_2 : decode cX7_turn 2 = .ok (.invokevirtual 91, 3) := by decide +kernel
theorem dX7_turn_5 : decode cX7_turn 5 = .ok (.ifCond .eq 24, 3) := by decide +kernel
theorem dX7_turn_8 : decode cX7_turn 8 = .ok (.iload_n 2, 1) := by decide +kernel
theorem dX7_turn_9 : decode cX7_turn 9 = .ok (.invokestatic 75, 3) := by decide +kernel
theorem dX7_turn_12 : decode cX7_turn 12 = .ok (.ifCond .eq 17, 3) := by decide +kernel
theorem dX7_turn_15 : decode cX7_turn 15 = .ok (.aload_n 0, 1) := by decide +kernel
theorem dX7_turn_16 : decode cX7_turn 16 = .ok (.bipush 20, 2) := by decide +kernel
theorem dX7_turn_18 : decode cX7_turn 18 = .ok (.iconst 4, 1) := by decide +kernel
theorem dX7_turn_19 : decode cX7_turn 19 = .ok (.iload_n 1, 1) := by decide +kernel
theorem dX7_turn_20 : decode cX7_turn 20 = .ok (.imul, 1) := by decide +kernel
theorem dX7_turn_21 : decode cX7_turn 21 = .ok (.iadd, 1) := by decide +kernel
theorem dX7_turn_22 : decode cX7_turn 22 = .ok (.iload_n 2, 1) := by decide +kernel
theorem dX7_turn_23 : decode cX7_turn 23 = .ok (.invokevirtual 72, 3) := by decide +kernel
theorem dX7_turn_26 : decode cX7_turn 26 = .ok (.goto 9, 3) := by decide +kernel
theorem dX7_turn_29 : decode cX7_turn 29 = .ok (.aload_n 0, 1) := by decide +kernel
theorem dX7_turn_30 : decode cX7_turn 30 = .ok (.ldc 43, 2) := by decide +kernel
theorem dX7_turn_32 : decode cX7_turn 32 = .ok (.invokevirtual 45, 3) := by decide +kernel
theorem dX7_turn_35 : decode cX7_turn 35 = .ok (.ireturn, 1) := by decide +kernel
theorem dX7_needs_0 : decode cX7_needs 0 = .ok (.aload_n 0, 1) := by decide +kernel
theorem dX7_needs_1 : decode cX7_needs 1 = .ok (.iload_n 1, 1) := by decide +kernel
theorem dX7_needs_2 : decode cX7_needs 2 = .ok (.invokevirtual 91, 3) := by decide +kernel
theorem dX7_needs_5 : decode cX7_needs 5 = .ok (.ifCond .eq 25, 3) := by decide +kernel
theorem dX7_needs_8 : decode cX7_needs 8 = .ok (.iload_n 2, 1) := by decide +kernel
theorem dX7_needs_9 : decode cX7_needs 9 = .ok (.iconst (-1), 1) := by decide +kernel
theorem dX7_needs_10 : decode cX7_needs 10 = .ok (.if_icmp .eq 16, 3) := by decide +kernel
theorem dX7_needs_13 : decode cX7_needs 13 = .ok (.aload_n 0, 1) := by decide +kernel
theorem dX7_needs_14 : decode cX7_needs 14 = .ok (.iload_n 2, 1) := by decide +kernel
theorem dX7_needs_15 : decode cX7_needs 15 = .ok (.invokevirtual 91, 3) := by decide +kernel
theorem dX7_needs_18 : decode cX7_needs 18 = .ok (.ifCond .eq 12, 3) := by decide +kernel
theorem dX7_needs_21 : decode cX7_needs 21 = .ok (.iload_n 2, 1) := by decide +kernel
theorem dX7_needs_22 : decode cX7_needs 22 = .ok (.iload_n 1, 1) := by decide +kernel
theorem dX7_needs_23 : decode cX7_needs 23 = .ok (.if_icmp .eq 7, 3) := by decide +kernel
theorem dX7_needs_26 : decode cX7_needs 26 = .ok (.iconst 1, 1) := by decide +kernel
theorem dX7_needs_27 : decode cX7_needs 27 = .ok (.goto 4, 3) := by decide +kernel
theorem dX7_needs_30 : decode cX7_needs 30 = .ok (.iconst 0, 1) := by decide +kernel
theorem dX7_needs_31 : decode cX7_needs 31 = .ok (.istore_n 3, 1) := by decide +kernel
theorem dX7_needs_32 : decode cX7_needs 32 = .ok (.iload_n 3, 1) := by decide +kernel
theorem dX7_needs_33 : decode cX7_needs 33 = .ok (.ifCond .eq 19, 3) := by decide +kernel
theorem dX7_needs_36 : decode cX7_needs 36 = .ok (.aload_n 0, 1) := by decide +kernel
theorem dX7_needs_37 : decode cX7_needs 37 = .ok (.bipush 20, 2) := by decide +kernel
theorem dX7_needs_39 : decode cX7_needs 39 = .ok (.iconst 4, 1) := by decide +kernel
theorem dX7_needs_40 : decode cX7_needs 40 = .ok (.iload_n 1, 1) := by decide +kernel
theorem dX7_needs_41 : decode cX7_needs 41 = .ok (.imul, 1) := by decide +kernel
theorem dX7_needs_42 : decode cX7_needs 42 = .ok (.iadd, 1) := by decide +kernel
theorem dX7_needs_43 : decode cX7_needs 43 = .ok (.iconst 3, 1) := by decide +kernel
theorem dX7_needs_44 : decode cX7_needs 44 = .ok (.iadd, 1) := by decide +kernel
theorem dX7_needs_45 : decode cX7_needs 45 = .ok (.iload_n 2, 1) := by decide +kernel
theorem dX7_needs_46 : decode cX7_needs 46 = .ok (.invokevirtual 72, 3) := by decide +kernel
theorem dX7_needs_49 : decode cX7_needs 49 = .ok (.goto 9, 3) := by decide +kernel
theorem dX7_needs_52 : decode cX7_needs 52 = .ok (.aload_n 0, 1) := by decide +kernel
theorem dX7_needs_53 : decode cX7_needs 53 = .ok (.ldc 43, 2) := by decide +kernel
theorem dX7_needs_55 : decode cX7_needs 55 = .ok (.invokevirtual 45, 3) := by decide +kernel
theorem dX7_needs_58 : decode cX7_needs 58 = .ok (.ireturn, 1) := by decide +kernel
