theorem dX4_readNumber_0 : decode cX4_readNumber 0 = .ok (.aload_n 0, 1) := by decide +kernel
theorem dX4_readNumber_1 : decode cX4_readNumber 1 = .ok (.iconst 0, 1) := by decide +kernel
theorem dX4_readNumber_2 : decode cX4_readNumber 2 = .ok (.putfield 45, 3) := by decide +kernel
theorem dX4_readNumber_5 : decode cX4_readNumber 5 = .ok (.aload_n 0, 1) := by decide +kernel
theorem dX4_readNumber_6 : decode cX4_readNumber 6 = .ok (.getfield 19, 3) := by decide +kernel
theorem dX4_readNumber_9 : decode cX4_readNumber 9 = .ok (.aload_n 0, 1) := by decide +kernel
theorem dX4_readNumber_10 : decode cX4_readNumber 10 = .ok (.getfield 15, 3) := by decide +kernel
theorem dX4_readNumber_13 : decode cX4_readNumber 13 = .ok (.if_icmp .ge 57, 3) := by decide +kernel
theorem dX4_readNumber_16 : decode cX4_readNumber 16 = .ok (.aload_n 0, 1) := by decide +kernel
theorem dX4_readNumber_17 : decode cX4_readNumber 17 = .ok (.aload_n 0, 1) := by decide +kernel
theorem dX4_readNumber_18 : decode cX4_readNumber 18 = .ok (.getfield 19, 3) := by decide +kernel
theorem dX4_readNumber_21 : decode cX4_readNumber 21 = .ok (.invokevirtual 39, 3) := by decide +kernel
theorem dX4_readNumber_24 : decode cX4_readNumber 24 = .ok (.ifCond .eq 46, 3) := by decide +kernel
theorem dX4_readNumber_27 : decode cX4_readNumber 27 = .ok (.aload_n 0, 1) := by decide +kernel
theorem dX4_readNumber_28 : decode cX4_readNumber 28 = .ok (.sipush 10000, 3) := by decide +kernel
theorem dX4_readNumber_31 : decode cX4_readNumber 31 = .ok (.aload_n 0, 1) := by decide +kernel
theorem dX4_readNumber_32 : decode cX4_readNumber 32 = .ok (.getfield 45, 3) := by decide +kernel
theorem dX4_readNumber_35 : decode cX4_readNumber 35 = .ok (.bipush 10, 2) := by decide +kernel
theorem dX4_readNumber_37 : decode cX4_readNumber 37 = .ok (.imul, 1) := by decide +kernel
theorem dX4_readNumber_38 : decode cX4_readNumber 38 = .ok (.aload_n 0, 1) := by decide +kernel
theorem dX4_readNumber_39 : decode cX4_readNumber 39 = .ok (.getfield 11, 3) := by decide +kernel
theorem dX4_readNumber_42 : decode cX4_readNumber 42 = .ok (.aload_n 0, 1) := by decide +kernel
theorem dX4_readNumber_43 : decode cX4_readNumber 43 = .ok (.getfield 19, 3) := by decide +kernel
theorem dX4_readNumber_46 : decode cX4_readNumber 46 = .ok (.iaload, 1) := by decide +kernel
theorem dX4_readNumber_47 : decode cX4_readNumber 47 = .ok (.iadd, 1) := by decide +kernel
theorem dX4_readNumber_48 : decode cX4_readNumber 48 = .ok (.bipush 48, 2) := by decide +kernel
theorem dX4_readNumber_50 : decode cX4_readNumber 50 = .ok (.isub, 1) := by decide +kernel
theorem dX4_readNumber_51 : decode cX4_readNumber 51 = .ok (.invokestatic 48, 3) := by decide +kernel
theorem dX4_readNumber_54 : decode cX4_readNumber 54 = .ok (.putfield 45, 3) := by decide +kernel
theorem dX4_readNumber_57 : decode cX4_readNumber 57 = .ok (.aload_n 0, 1) := by decide +kernel
theorem dX4_readNumber_58 : decode cX4_readNumber 58 = .ok (.dup, 1) := by decide +kernel
theorem dX4_readNumber_59 : decode cX4_readNumber 59 = .ok (.getfield 19, 3) := by decide +kernel
theorem dX4_readNumber_62 : decode cX4_readNumber 62 = .ok (.iconst 1, 1) := by decide +kernel
theorem dX4_readNumber_63 : decode cX4_readNumber 63 = .ok (.iadd, 1) := by decide +kernel
theorem dX4_readNumber_64 : decode cX4_readNumber 64 = .ok (.putfield 19, 3) := by decide +kernel
theorem dX4_readNumber_67 : decode cX4_readNumber 67 = .ok (.goto (-62), 3) := by decide +kernel
theorem dX4_readNumber_70 : decode cX4_readNumber 70 = .ok (.return_, 1) := by decide +kernel
theorem dX4_isLetter_0 : decode cX4_isLetter 0 = .ok (.aload_n 0, 1) := by decide +kernel
theorem dX4_isLetter_1 : decode cX4_isLetter 1 = .ok (.getfield 11, 3) := by decide +kernel
theorem dX4_isLetter_4 : decode cX4_isLetter 4 = .ok (.iload_n 1, 1) := by decide +kernel
theorem dX4_isLetter_5 : decode cX4_isLetter 5 = .ok (.iaload, 1) := by decide +kernel
theorem dX4_isLetter_6 : decode cX4_isLetter 6 = .ok (.bipush 97, 2) := by decide +kernel
theorem dX4_isLetter_8 : decode cX4_isLetter 8 = .ok (.if_icmp .lt 18, 3) := by decide +kernel
theorem dX4_isLetter_11 : decode cX4_isLetter 11 = .ok (.aload_n 0, 1) := by decide +kernel
theorem dX4_isLetter_12 : decode cX4_isLetter 12 = .ok (.getfield 11, 3) := by decide +kernel
theorem dX4_isLetter_15 : decode cX4_isLetter 15 = .ok (.iload_n 1, 1) := by decide +kernel
theorem dX4_isLetter_16 : decode cX4_isLetter 16 = .ok (.iaload, 1) := by decide +kernel
theorem dX4_isLetter_17 : decode cX4_isLetter 17 = .ok (.bipush 122, 2) := by decide +kernel
theorem dX4_isLetter_19 : decode cX4_isLetter 19 = .ok (.if_icmp .gt 7, 3) := by decide +kernel
theorem dX4_isLetter_22 : decode cX4_isLetter 22 = .ok (.iconst 1, 1) := by decide +kernel
theorem dX4_isLetter_23 : decode cX4_isLetter 23 = .ok (.goto 4, 3) := by decide +kernel
theorem dX4_isLetter_26 : decode cX4_isLetter 26 = .ok (.iconst 0, 1) := by decide +kernel
theorem dX4_isLetter_27 : decode cX4_isLetter 27 = .ok (.ireturn, 1) := by decide +kernel
theorem dX4_isDigit_0 : decode cX4_isDigit 0 = .ok (.aload_n 0, 1) := by decide +kernel
theorem dX4_isDigit_1 : decode cX4_isDigit 1 = .ok (.getfield 11, 3) := by decide +kernel
theorem dX4_isDigit_4 : decode cX4_isDigit 4 = .ok (.iload_n 1, 1) := by decide +kernel
theorem dX4_isDigit_5 : decode cX4_isDigit 5 = .ok (.iaload, 1) := by decide +kernel
theorem dX4_isDigit_6 : decode cX4_isDigit 6 = .ok (.bipush 48, 2) := by decide +kernel
theorem dX4_isDigit_8 : decode cX4_isDigit 8 = .ok (.if_icmp .lt 18, 3) := by decide +kernel
theorem dX4_isDigit_11 : decode cX4_isDigit 11 = .ok (.aload_n 0, 1) := by decide +kernel
theorem dX4_isDigit_12 : decode cX4_isDigit 12 = .ok (.getfield 11, 3) := by decide +kernel
theorem dX4_isDigit_15 : decode cX4_isDigit 15 = .ok (.iload_n 1, 1) := by decide +kernel
theorem dX4_isDigit_16 : decode cX4_isDigit 16 = .ok (.iaload, 1) := by decide +kernel
theorem dX4_isDigit_17 : decode cX4_isDigit 17 = .ok (.bipush 57, 2) := by decide +kernel
theorem dX4_isDigit_19 : decode cX4_isDigit 19 = .ok (.if_icmp .gt 7, 3) := by decide +kernel
theorem dX4_isDigit_22 : decode cX4_isDigit 22 = .ok (.iconst 1, 1) := by decide +kernel
theorem dX4_isDigit_23 : decode cX4_isDigit 23 = .ok (.goto 4, 3) := by decide +kernel
theorem dX4_isDigit_26 : decode cX4_isDigit 26 = .ok (.iconst 0, 1) := by decide +kernel
theorem dX4_isDigit_27 : decode cX4_isDigit 27 = .ok (.ireturn, 1) := by decide +kernel
theorem dX4_isWord_0 : decode cX4_isWord 0 = .ok (.aload_n 0, 1) := by decide +kernel
theorem dX4_isWord_1 : decode cX4_isWord 1 = .ok (.getfield 29, 3) := by decide +kernel
theorem dX4_isWord_4 : decode cX4_isWord 4 = .ok (.iconst 1, 1) := by decide +kernel
theorem dX4_isWord_5 : decode cX4_isWord 5 = .ok (.if_icmp .ne 19, 3) := by decide +kernel
theorem dX4_isWord_8 : decode cX4_isWord 8 = .ok (.aload_n 0, 1) := by decide +kernel
theorem dX4_isWord_9 : decode cX4_isWord 9 = .ok (.getfield 19, 3) := by decide +kernel
theorem dX4_isWord_12 : decode cX4_isWord 12 = .ok (.aload_n 0, 1) := by decide +kernel
theorem dX4_isWord_13 : decode cX4_isWord 13 = .ok (.getfield 32, 3) := by decide +kernel
theorem dX4_isWord_16 : decode cX4_isWord 16 = .ok (.isub, 1) := by decide +kernel
theorem dX4_isWord_17 : decode cX4_isWord 17 = .ok (.aload_n 1, 1) := by decide +kernel
theorem dX4_isWord_18 : decode cX4_isWord 18 = .ok (.invokevirtual 54, 3) := by decide +kernel
theorem dX4_isWord_21 : decode cX4_isWord 21 = .ok (.if_icmp .eq 5, 3) := by decide +kernel
theorem dX4_isWord_24 : decode cX4_isWord 24 = .ok (.iconst 0, 1) := by decide +kernel
theorem dX4_isWord_25 : decode cX4_isWord 25 = .ok (.ireturn, 1) := by decide +kernel
theorem dX4_isWord_26 : decode cX4_isWord 26 = .ok (.iconst 0, 1) := by decide +kernel
theorem dX4_isWord_27 : decode cX4_isWord 27 = .ok (.istore_n 2, 1) := by decide +kernel
theorem dX4_isWord_28 : decode cX4_isWord 28 = .ok (.iload_n 2, 1) := by decide +kernel
theorem dX4_isWord_29 : decode cX4_isWord 29 = .ok (.aload_n 1, 1) := by decide +kernel
theorem dX4_isWord_30 : decode cX4_isWord 30 = .ok (.invokevirtual 54, 3) := by decide +kernel
theorem dX4_isWord_33 : decode cX4_isWord 33 = .ok (.if_icmp .ge 30, 3) := by decide +kernel
theorem dX4_isWord_36 : decode cX4_isWord 36 = .ok (.aload_n 0, 1) := by decide +kernel
theorem dX4_isWord_37 : decode cX4_isWord 37 = .ok (.getfield 11, 3) := by decide +kernel
theorem dX4_isWord_40 : decode cX4_isWord 40 = .ok (.aload_n 0, 1) := by decide +kernel
theorem dX4_isWord_41 : decode cX4_isWord 41 = .ok (.getfield 32, 3) := by decide +kernel
theorem dX4_isWord_44 : decode cX4_isWord 44 = .ok (.iload_n 2, 1) := by decide +kernel
theorem dX4_isWord_45 : decode cX4_isWord 45 = .ok (.iadd, 1) := by decide +kernel
theorem dX4_isWord_46 : decode cX4_isWord 46 = .ok (.iaload, 1) := by decide +kernel
theorem dX4_isWord_47 : decode cX4_isWord 47 = .ok (.aload_n 1, 1) := by decide +kernel
theorem dX4_isWord_48 : decode cX4_isWord 48 = .ok (.iload_n 2, 1) := by decide +kernel
theorem dX4_isWord_49 : decode cX4_isWord 49 = .ok (.invokevirtual 59, 3) := by decide +kernel
theorem dX4_isWord_52 : decode cX4_isWord 52 = .ok (.if_icmp .eq 5, 3) := by decide +kernel
theorem dX4_isWord_55 : decode cX4_isWord 55 = .ok (.iconst 0, 1) := by decide +kernel
theorem dX4_isWord_56 : decode cX4_isWord 56 = .ok (.ireturn, 1) := by decide +kernel
theorem dX4_isWord_57 : decode cX4_isWord 57 = .ok (.iinc 2 1, 3) := by decide +kernel
theorem dX4_isWord_60 : decode cX4_isWord 60 = .ok (.goto (-32), 3) := by decide +kernel
theorem dX4_isWord_63 : decode cX4_isWord 63 = .ok (.iconst 1, 1) := by decide +kernel
theorem dX4_isWord_64 : decode cX4_isWord 64 = .ok (.ireturn, 1) := by decide +kernel
theorem dX4_passWord_0 : decode cX4_passWord 0 = .ok (.aload_n 0, 1) := by decide +kernel
theorem dX4_passWord_1 : decode cX4_passWord 1 = .ok (.aload_n 1, 1) := by decide +kernel
theorem dX4_passWord_2 : decode cX4_passWord 2 = .ok (.invokevirtual 63, 3) := by decide +kernel
theorem dX4_passWord_5 : decode cX4_passWord 5 = .ok (.istore_n 2, 1) := by decide +kernel
theorem dX4_passWord_6 : decode cX4_passWord 6 = .ok (.iload_n 2, 1) := by decide +kernel
theorem dX4_passWord_7 : decode cX4_passWord 7 = .ok (.ifCond .eq 7, 3) := by decide +kernel
theorem dX4_passWord_10 : decode cX4_passWord 10 = .ok (.aload_n 0, 1) := by decide +kernel
theorem dX4_passWord_11 : decode cX4_passWord 11 = .ok (.invokevirtual 22, 3) := by decide +kernel
theorem dX4_passWord_14 : decode cX4_passWord 14 = .ok (.iload_n 2, 1) := by decide +kernel
theorem dX4_passWord_15 : decode cX4_passWord 15 = .ok (.ireturn, 1) := by decide +kernel
theorem dX4_passNumber_0 : decode cX4_passNumber 0 = .ok (.aload_n 0, 1) := by decide +kernel
theorem dX4_passNumber_1 : decode cX4_passNumber 1 = .ok (.getfield 29, 3) := by decide +kernel
theorem dX4_passNumber_4 : decode cX4_passNumber 4 = .ok (.iconst 2, 1) := by decide +kernel
theorem dX4_passNumber_5 : decode cX4_passNumber 5 = .ok (.if_icmp .ne 19, 3) := by decide +kernel
theorem dX4_passNumber_8 : decode cX4_passNumber 8 = .ok (.aload_n 0, 1) := by decide +kernel
theorem dX4_passNumber_9 : decode cX4_passNumber 9 = .ok (.getfield 45, 3) := by decide +kernel
theorem dX4_passNumber_12 : decode cX4_passNumber 12 = .ok (.iload_n 1, 1) := by decide +kernel
theorem dX4_passNumber_13 : decode cX4_passNumber 13 = .ok (.if_icmp .lt 11, 3) := by decide +kernel
theorem dX4_passNumber_16 : decode cX4_passNumber 16 = .ok (.aload_n 0, 1) := by decide +kernel
theorem dX4_passNumber_17 : decode cX4_passNumber 17 = .ok (.getfield 45, 3) := by decide +kernel
theorem dX4_passNumber_20 : decode cX4_passNumber 20 = .ok (.iload_n 2, 1) := by decide +kernel
theorem dX4_passNumber_21 : decode cX4_passNumber 21 = .ok (.if_icmp .le 5, 3) := by decide +kernel
theorem dX4_passNumber_24 : decode cX4_passNumber 24 = .ok (.iconst (-1), 1) := by decide +kernel
theorem dX4_passNumber_25 : decode cX4_passNumber 25 = .ok (.ireturn, 1) := by decide +kernel
theorem dX4_passNumber_26 : decode cX4_passNumber 26 = .ok (.aload_n 0, 1) := by decide +kernel
theorem dX4_passNumber_27 : decode cX4_passNumber 27 = .ok (.getfield 45, 3) := by decide +kernel
theorem dX4_passNumber_30 : decode cX4_passNumber 30 = .ok (.istore_n 3, 1) := by decide +kernel
theorem dX4_passNumber_31 : decode cX4_passNumber 31 = .ok (.aload_n 0, 1) := by decide +kernel
theorem dX4_passNumber_32 : decode cX4_passNumber 32 = .ok (.invokevirtual 22, 3) := by decide +kernel
theorem dX4_passNumber_35 : decode cX4_passNumber 35 = .ok (.iload_n 3, 1) := by decide +kernel
theorem dX4_passNumber_36 : decode cX4_passNumber 36 = .ok (.ireturn, 1) := by decide +kernel
theorem dX4_readItem_0 : decode cX4_readItem 0 = .ok (.aload_n 0, 1) := by decide +kernel
theorem dX4_readItem_1 : decode cX4_readItem 1 = .ok (.ldc 67, 2) := by decide +kernel
theorem dX4_readItem_3 : decode cX4_readItem 3 = .ok (.invokevirtual 69, 3) := by decide +kernel
theorem dX4_readItem_6 : decode cX4_readItem 6 = .ok (.ifCond .eq 9, 3) := by decide +kernel
theorem dX4_readItem_9 : decode cX4_readItem 9 = .ok (.aload_n 0, 1) := by decide +kernel
theorem dX4_readItem_10 : decode cX4_readItem 10 = .ok (.aload_n 1, 1) := by decide +kernel
theorem dX4_readItem_11 : decode cX4_readItem 11 = .ok (.invokevirtual 72, 3) := by decide +kernel
theorem dX4_readItem_14 : decode cX4_readItem 14 = .ok (.ireturn, 1) := by decide +kernel
theorem dX4_readItem_15 : decode cX4_readItem 15 = .ok (.aload_n 0, 1) := by decide +kernel
theorem dX4_readItem_16 : decode cX4_readItem 16 = .ok (.ldc 75, 2) := by decide +kernel
theorem dX4_readItem_18 : decode cX4_readItem 18 = .ok (.invokevirtual 63, 3) := by decide +kernel
theorem dX4_readItem_21 : decode cX4_readItem 21 = .ok (.ifCond .eq 26, 3) := by decide +kernel
theorem dX4_readItem_24 : decode cX4_readItem 24 = .ok (.aload_n 1, 1) := by decide +kernel
theorem dX4_readItem_25 : decode cX4_readItem 25 = .ok (.getfield 77, 3) := by decide +kernel
theorem dX4_readItem_28 : decode cX4_readItem 28 = .ok (.bipush 8, 2) := by decide +kernel
theorem dX4_readItem_30 : decode cX4_readItem 30 = .ok (.if_icmp .ge 15, 3) := by decide +kernel
theorem dX4_readItem_33 : decode cX4_readItem 33 = .ok (.aload_n 0, 1) := by decide +kernel
theorem dX4_readItem_34 : decode cX4_readItem 34 = .ok (.aload_n 1, 1) := by decide +kernel
theorem dX4_readItem_35 : decode cX4_readItem 35 = .ok (.invokevirtual 82, 3) := by decide +kernel
theorem dX4_readItem_38 : decode cX4_readItem 38 = .ok (.ifCond .eq 7, 3) := by decide +kernel
theorem dX4_readItem_41 : decode cX4_readItem 41 = .ok (.iconst 1, 1) := by decide +kernel
theorem dX4_readItem_42 : decode cX4_readItem 42 = .ok (.goto 4, 3) := by decide +kernel
theorem dX4_readItem_45 : decode cX4_readItem 45 = .ok (.iconst 0, 1) := by decide +kernel
theorem dX4_readItem_46 : decode cX4_readItem 46 = .ok (.ireturn, 1) := by decide +kernel
theorem dX4_readItem_47 : decode cX4_readItem 47 = .ok (.aload_n 0, 1) := by decide +kernel
theorem dX4_readItem_48 : decode cX4_readItem 48 = .ok (.invokevirtual 85, 3) := by decide +kernel
theorem dX4_readItem_51 : decode cX4_readItem 51 = .ok (.istore_n 2, 1) := by decide +kernel
theorem dX4_readItem_52 : decode cX4_readItem 52 = .ok (.iload_n 2, 1) := by decide +kernel
theorem dX4_readItem_53 : decode cX4_readItem 53 = .ok (.ifCond .lt 25, 3) := by decide +kernel
theorem dX4_readItem_56 : decode cX4_readItem 56 = .ok (.aload_n 1, 1) := by decide +kernel
theorem dX4_readItem_57 : decode cX4_readItem 57 = .ok (.getfield 88, 3) := by decide +kernel
theorem dX4_readItem_60 : decode cX4_readItem 60 = .ok (.bipush 20, 2) := by decide +kernel
theorem dX4_readItem_62 : decode cX4_readItem 62 = .ok (.if_icmp .ge 16, 3) := by decide +kernel
theorem dX4_readItem_65 : decode cX4_readItem 65 = .ok (.aload_n 0, 1) := by decide +kernel
theorem dX4_readItem_66 : decode cX4_readItem 66 = .ok (.aload_n 1, 1) := by decide +kernel
theorem dX4_readItem_67 : decode cX4_readItem 67 = .ok (.iload_n 2, 1) := by decide +kernel
theorem dX4_readItem_68 : decode cX4_readItem 68 = .ok (.invokevirtual 91, 3) := by decide +kernel
theorem dX4_readItem_71 : decode cX4_readItem 71 = .ok (.ifCond .eq 7, 3) := by decide +kernel
theorem dX4_readItem_74 : decode cX4_readItem 74 = .ok (.iconst 1, 1) := by decide +kernel
theorem dX4_readItem_75 : decode cX4_readItem 75 = .ok (.goto 4, 3) := by decide +kernel
theorem dX4_readItem_78 : decode cX4_readItem 78 = .ok (.iconst 0, 1) := by decide +kernel
theorem dX4_readItem_79 : decode cX4_readItem 79 = .ok (.ireturn, 1) := by decide +kernel
theorem dX4_kindHere_0 : decode cX4_kindHere 0 = .ok (.aload_n 0, 1) := by decide +kernel
theorem dX4_kindHere_1 : decode cX4_kindHere 1 = .ok (.ldc 95, 2) := by decide +kernel
theorem dX4_kindHere_3 : decode cX4_kindHere 3 = .ok (.invokevirtual 63, 3) := by decide +kernel
theorem dX4_kindHere_6 : decode cX4_kindHere 6 = .ok (.ifCond .eq 5, 3) := by decide +kernel
theorem dX4_kindHere_9 : decode cX4_kindHere 9 = .ok (.iconst 0, 1) := by decide +kernel
theorem dX4_kindHere_10 : decode cX4_kindHere 10 = .ok (.ireturn, 1) := by decide +kernel
theorem dX4_kindHere_11 : decode cX4_kindHere 11 = .ok (.aload_n 0, 1) := by decide +kernel
theorem dX4_kindHere_12 : decode cX4_kindHere 12 = .ok (.ldc 99, 2) := by decide +kernel
theorem dX4_kindHere_14 : decode cX4_kindHere 14 = .ok (.invokevirtual 63, 3) := by decide +kernel
theorem dX4_kindHere_17 : decode cX4_kindHere 17 = .ok (.ifCond .eq 5, 3) := by decide +kernel
theorem dX4_kindHere_20 : decode cX4_kindHere 20 = .ok (.iconst 1, 1) := by decide +kernel
theorem dX4_kindHere_21 : decode cX4_kindHere 21 = .ok (.ireturn, 1) := by decide +kernel
theorem dX4_kindHere_22 : decode cX4_kindHere 22 = .ok (.aload_n 0, 1) := by decide +kernel
theorem dX4_kindHere_23 : decode cX4_kindHere 23 = .ok (.ldc 101, 2) := by decide +kernel
theorem dX4_kindHere_25 : decode cX4_kindHere 25 = .ok (.invokevirtual 63, 3) := by decide +kernel
theorem dX4_kindHere_28 : decode cX4_kindHere 28 = .ok (.ifCond .eq 5, 3) := by decide +kernel
theorem dX4_kindHere_31 : decode cX4_kindHere 31 = .ok (.iconst 2, 1) := by decide +kernel
theorem dX4_kindHere_32 : decode cX4_kindHere 32 = .ok (.ireturn, 1) := by decide +kernel
theorem dX4_kindHere_33 : decode cX4_kindHere 33 = .ok (.aload_n 0, 1) := by decide +kernel
theorem dX4_kindHere_34 : decode cX4_kindHere 34 = .ok (.ldc 103, 2) := by decide +kernel
theorem dX4_kindHere_36 : decode cX4_kindHere 36 = .ok (.invokevirtual 63, 3) := by decide +kernel
theorem dX4_kindHere_39 : decode cX4_kindHere 39 = .ok (.ifCond .eq 5, 3) := by decide +kernel
theorem dX4_kindHere_42 : decode cX4_kindHere 42 = .ok (.iconst 3, 1) := by decide +kernel
theorem dX4_kindHere_43 : decode cX4_kindHere 43 = .ok (.ireturn, 1) := by decide +kernel
theorem dX4_kindHere_44 : decode cX4_kindHere 44 = .ok (.aload_n 0, 1) := by decide +kernel
theorem dX4_kindHere_45 : decode cX4_kindHere 45 = .ok (.ldc 105, 2) := by decide +kernel
theorem dX4_kindHere_47 : decode cX4_kindHere 47 = .ok (.invokevirtual 63, 3) := by decide +kernel
theorem dX4_kindHere_50 : decode cX4_kindHere 50 = .ok (.ifCond .eq 5, 3) := by decide +kernel
theorem dX4_kindHere_53 : decode cX4_kindHere 53 = .ok (.iconst 4, 1) := by decide +kernel
theorem dX4_kindHere_54 : decode cX4_kindHere 54 = .ok (.ireturn, 1) := by decide +kernel
theorem dX4_kindHere_55 : decode cX4_kindHere 55 = .ok (.aload_n 0, 1) := by decide +kernel
theorem dX4_kindHere_56 : decode cX4_kindHere 56 = .ok (.ldc 107, 2) := by decide +kernel
theorem dX4_kindHere_58 : decode cX4_kindHere 58 = .ok (.invokevirtual 63, 3) := by decide +kernel
theorem dX4_kindHere_61 : decode cX4_kindHere 61 = .ok (.ifCond .eq 5, 3) := by decide +kernel
theorem dX4_kindHere_64 : decode cX4_kindHere 64 = .ok (.iconst 5, 1) := by decide +kernel
theorem dX4_kindHere_65 : decode cX4_kindHere 65 = .ok (.ireturn, 1) := by decide +kernel
theorem dX4_kindHere_66 : decode cX4_kindHere 66 = .ok (.aload_n 0, 1) := by decide +kernel
theorem dX4_kindHere_67 : decode cX4_kindHere 67 = .ok (.ldc 109, 2) := by decide +kernel
theorem dX4_kindHere_69 : decode cX4_kindHere 69 = .ok (.invokevirtual 63, 3) := by decide +kernel
theorem dX4_kindHere_72 : decode cX4_kindHere 72 = .ok (.ifCond .eq 8, 3) := by decide +kernel
theorem dX4_kindHere_75 : decode cX4_kindHere 75 = .ok (.bipush 6, 2) := by decide +kernel
theorem dX4_kindHere_77 : decode cX4_kindHere 77 = .ok (.goto 4, 3) := by decide +kernel
theorem dX4_kindHere_80 : decode cX4_kindHere 80 = .ok (.iconst (-1), 1) := by decide +kernel
theorem dX4_kindHere_81 : decode cX4_kindHere 81 = .ok (.ireturn, 1) := by decide +kernel
theorem dX4_readName_0 : decode cX4_readName 0 = .ok (.aload_n 0, 1) := by decide +kernel
theorem dX4_readName_1 : decode cX4_readName 1 = .ok (.iconst 0, 1) := by decide +kernel
theorem dX4_readName_2 : decode cX4_readName 2 = .ok (.bipush 7, 2) := by decide +kernel
theorem dX4_readName_4 : decode cX4_readName 4 = .ok (.invokevirtual 111, 3) := by decide +kernel
theorem dX4_readName_7 : decode cX4_readName 7 = .ok (.istore_n 2, 1) := by decide +kernel
theorem dX4_readName_8 : decode cX4_readName 8 = .ok (.iload_n 2, 1) := by decide +kernel
theorem dX4_readName_9 : decode cX4_readName 9 = .ok (.ifCond .lt 12, 3) := by decide +kernel
theorem dX4_readName_12 : decode cX4_readName 12 = .ok (.aload_n 0, 1) := by decide +kernel
theorem dX4_readName_13 : decode cX4_readName 13 = .ok (.ldc 114, 2) := by decide +kernel
theorem dX4_readName_15 : decode cX4_readName 15 = .ok (.invokevirtual 69, 3) := by decide +kernel
theorem dX4_readName_18 : decode cX4_readName 18 = .ok (.ifCond .ne 5, 3) := by decide +kernel
theorem dX4_readName_21 : decode cX4_readName 21 = .ok (.iconst 0, 1) := by decide +kernel
theorem dX4_readName_22 : decode cX4_readName 22 = .ok (.ireturn, 1) := by decide +kernel
theorem dX4_readName_23 : decode cX4_readName 23 = .ok (.aload_n 0, 1) := by decide +kernel
theorem dX4_readName_24 : decode cX4_readName 24 = .ok (.iconst 0, 1) := by decide +kernel
theorem dX4_readName_25 : decode cX4_readName 25 = .ok (.bipush 99, 2) := by decide +kernel
theorem dX4_readName_27 : decode cX4_readName 27 = .ok (.invokevirtual 111, 3) := by decide +kernel
theorem dX4_readName_30 : decode cX4_readName 30 = .ok (.istore_n 3, 1) := by decide +kernel
theorem dX4_readName_31 : decode cX4_readName 31 = .ok (.iload_n 3, 1) := by decide +kernel
theorem dX4_readName_32 : decode cX4_readName 32 = .ok (.ifCond .ge 5, 3) := by decide +kernel
theorem dX4_readName_35 : decode cX4_readName 35 = .ok (.iconst 0, 1) := by decide +kernel
theorem dX4_readName_36 : decode cX4_readName 36 = .ok (.ireturn, 1) := by decide +kernel
theorem dX4_readName_37 : decode cX4_readName 37 = .ok (.aload_n 1, 1) := by decide +kernel
theorem dX4_readName_38 : decode cX4_readName 38 = .ok (.getfield 116, 3) := by decide +kernel
theorem dX4_readName_41 : decode cX4_readName 41 = .ok (.iload_n 2, 1) := by decide +kernel
theorem dX4_readName_42 : decode cX4_readName 42 = .ok (.iload_n 3, 1) := by decide +kernel
theorem dX4_readName_43 : decode cX4_readName 43 = .ok (.iastore, 1) := by decide +kernel
theorem dX4_readName_44 : decode cX4_readName 44 = .ok (.iconst 1, 1) := by decide +kernel
theorem dX4_readName_45 : decode cX4_readName 45 = .ok (.ireturn, 1) := by decide +kernel
theorem dX4_readTask_0 : decode cX4_readTask 0 = .ok (.aload_n 0, 1) := by decide +kernel
theorem dX4_readTask_1 : decode cX4_readTask 1 = .ok (.invokevirtual 22, 3) := by decide +kernel
theorem dX4_readTask_4 : decode cX4_readTask 4 = .ok (.aload_n 0, 1) := by decide +kernel
theorem dX4_readTask_5 : decode cX4_readTask 5 = .ok (.iconst 0, 1) := by decide +kernel
theorem dX4_readTask_6 : decode cX4_readTask 6 = .ok (.bipush 7, 2) := by decide +kernel
theorem dX4_readTask_8 : decode cX4_readTask 8 = .ok (.invokevirtual 111, 3) := by decide +kernel
theorem dX4_readTask_11 : decode cX4_readTask 11 = .ok (.istore_n 3, 1) := by decide +kernel
theorem dX4_readTask_12 : decode cX4_readTask 12 = .ok (.iload_n 3, 1) := by decide +kernel
theorem dX4_readTask_13 : decode cX4_readTask 13 = .ok (.ifCond .lt 12, 3) := by decide +kernel
theorem dX4_readTask_16 : decode cX4_readTask 16 = .ok (.aload_n 0, 1) := by decide +kernel
theorem dX4_readTask_17 : decode cX4_readTask 17 = .ok (.ldc 119, 2) := by decide +kernel
theorem dX4_readTask_19 : decode cX4_readTask 19 = .ok (.invokevirtual 69, 3) := by decide +kernel
theorem dX4_readTask_22 : decode cX4_readTask 22 = .ok (.ifCond .ne 5, 3) := by decide +kernel
theorem dX4_readTask_25 : decode cX4_readTask 25 = .ok (.iconst 0, 1) := by decide +kernel
theorem dX4_readTask_26 : decode cX4_readTask 26 = .ok (.ireturn, 1) := by decide +kernel
theorem dX4_readTask_27 : decode cX4_readTask 27 = .ok (.aload_n 0, 1) := by decide +kernel
theorem dX4_readTask_28 : decode cX4_readTask 28 = .ok (.iconst 1, 1) := by decide +kernel
theorem dX4_readTask_29 : decode cX4_readTask 29 = .ok (.sipush 999, 3) := by decide +kernel
theorem dX4_readTask_32 : decode cX4_readTask 32 = .ok (.invokevirtual 111, 3) := by decide +kernel
theorem dX4_readTask_35 : decode cX4_readTask 35 = .ok (.istore 4, 2) := by decide +kernel
theorem dX4_readTask_37 : decode cX4_readTask 37 = .ok (.iload 4, 2) := by decide +kernel
theorem dX4_readTask_39 : decode cX4_readTask 39 = .ok (.ifCond .ge 5, 3) := by decide +kernel
theorem dX4_readTask_42 : decode cX4_readTask 42 = .ok (.iconst 0, 1) := by decide +kernel
theorem dX4_readTask_43 : decode cX4_readTask 43 = .ok (.ireturn, 1) := by decide +kernel
theorem dX4_readTask_44 : decode cX4_readTask 44 = .ok (.iconst (-1), 1) := by decide +kernel
theorem dX4_readTask_45 : decode cX4_readTask 45 = .ok (.istore 5, 2) := by decide +kernel
theorem dX4_readTask_47 : decode cX4_readTask 47 = .ok (.aload_n 0, 1) := by decide +kernel
theorem dX4_readTask_48 : decode cX4_readTask 48 = .ok (.ldc 121, 2) := by decide +kernel
theorem dX4_readTask_50 : decode cX4_readTask 50 = .ok (.invokevirtual 69, 3) := by decide +kernel
theorem dX4_readTask_53 : decode cX4_readTask 53 = .ok (.ifCond .eq 23, 3) := by decide +kernel
theorem dX4_readTask_56 : decode cX4_readTask 56 = .ok (.aload_n 0, 1) := by decide +kernel
theorem dX4_readTask_57 : decode cX4_readTask 57 = .ok (.iconst 0, 1) := by decide +kernel
theorem dX4_readTask_58 : decode cX4_readTask 58 = .ok (.aload_n 1, 1) := by decide +kernel
theorem dX4_readTask_59 : decode cX4_readTask 59 = .ok (.getfield 88, 3) := by decide +kernel
theorem dX4_readTask_62 : decode cX4_readTask 62 = .ok (.iconst 1, 1) := by decide +kernel
theorem dX4_readTask_63 : decode cX4_readTask 63 = .ok (.isub, 1) := by decide +kernel
theorem dX4_readTask_64 : decode cX4_readTask 64 = .ok (.invokevirtual 111, 3) := by decide +kernel
theorem dX4_readTask_67 : decode cX4_readTask 67 = .ok (.istore 5, 2) := by decide +kernel
theorem dX4_readTask_69 : decode cX4_readTask 69 = .ok (.iload 5, 2) := by decide +kernel
theorem dX4_readTask_71 : decode cX4_readTask 71 = .ok (.ifCond .ge 5, 3) := by decide +kernel
theorem dX4_readTask_74 : decode cX4_readTask 74 = .ok (.iconst 0, 1) := by decide +kernel
theorem dX4_readTask_75 : decode cX4_readTask 75 = .ok (.ireturn, 1) := by decide +kernel
theorem dX4_readTask_76 : decode cX4_readTask 76 = .ok (.aload_n 1, 1) := by decide +kernel
theorem dX4_readTask_77 : decode cX4_readTask 77 = .ok (.iload_n 2, 1) := by decide +kernel
theorem dX4_readTask_78 : decode cX4_readTask 78 = .ok (.iload_n 3, 1) := by decide +kernel
theorem dX4_readTask_79 : decode cX4_readTask 79 = .ok (.iload 4, 2) := by decide +kernel
theorem dX4_readTask_81 : decode cX4_readTask 81 = .ok (.iload 5, 2) := by decide +kernel
theorem dX4_readTask_83 : decode cX4_readTask 83 = .ok (.invokevirtual 123, 3) := by decide +kernel
theorem dX4_readTask_86 : decode cX4_readTask 86 = .ok (.pop, 1) := by decide +kernel
theorem dX4_readTask_87 : decode cX4_readTask 87 = .ok (.iconst 1, 1) := by decide +kernel
theorem dX4_readTask_88 : decode cX4_readTask 88 = .ok (.ireturn, 1) := by decide +kernel
theorem dX4_readPerson_0 : decode cX4_readPerson 0 = .ok (.aload_n 0, 1) := by decide +kernel
theorem dX4_readPerson_1 : decode cX4_readPerson 1 = .ok (.invokevirtual 22, 3) := by decide +kernel
theorem dX4_readPerson_4 : decode cX4_readPerson 4 = .ok (.aload_n 0, 1) := by decide +kernel
theorem dX4_readPerson_5 : decode cX4_readPerson 5 = .ok (.ldc 127, 2) := by decide +kernel
theorem dX4_readPerson_7 : decode cX4_readPerson 7 = .ok (.invokevirtual 69, 3) := by decide +kernel
theorem dX4_readPerson_10 : decode cX4_readPerson 10 = .ok (.ifCond .eq 13, 3) := by decide +kernel
theorem dX4_readPerson_13 : decode cX4_readPerson 13 = .ok (.aload_n 0, 1) := by decide +kernel
theorem dX4_readPerson_14 : decode cX4_readPerson 14 = .ok (.iconst 1, 1) := by decide +kernel
theorem dX4_readPerson_15 : decode cX4_readPerson 15 = .ok (.bipush 9, 2) := by decide +kernel
theorem dX4_readPerson_17 : decode cX4_readPerson 17 = .ok (.invokevirtual 111, 3) := by decide +kernel
theorem dX4_readPerson_20 : decode cX4_readPerson 20 = .ok (.goto 4, 3) := by decide +kernel
theorem dX4_readPerson_23 : decode cX4_readPerson 23 = .ok (.iconst 3, 1) := by decide +kernel
theorem dX4_readPerson_24 : decode cX4_readPerson 24 = .ok (.istore_n 2, 1) := by decide +kernel
theorem dX4_readPerson_25 : decode cX4_readPerson 25 = .ok (.iload_n 2, 1) := by decide +kernel
theorem dX4_readPerson_26 : decode cX4_readPerson 26 = .ok (.ifCond .ge 5, 3) := by decide +kernel
theorem dX4_readPerson_29 : decode cX4_readPerson 29 = .ok (.iconst 0, 1) := by decide +kernel
theorem dX4_readPerson_30 : decode cX4_readPerson 30 = .ok (.ireturn, 1) := by decide +kernel
theorem dX4_readPerson_31 : decode cX4_readPerson 31 = .ok (.aload_n 0, 1) := by decide +kernel
theorem dX4_readPerson_32 : decode cX4_readPerson 32 = .ok (.ldc 129, 2) := by decide +kernel
theorem dX4_readPerson_34 : decode cX4_readPerson 34 = .ok (.invokevirtual 69, 3) := by decide +kernel
theorem dX4_readPerson_37 : decode cX4_readPerson 37 = .ok (.ifCond .eq 13, 3) := by decide +kernel
theorem dX4_readPerson_40 : decode cX4_readPerson 40 = .ok (.aload_n 0, 1) := by decide +kernel
theorem dX4_readPerson_41 : decode cX4_readPerson 41 = .ok (.iconst 0, 1) := by decide +kernel
theorem dX4_readPerson_42 : decode cX4_readPerson 42 = .ok (.bipush 39, 2) := by decide +kernel
theorem dX4_readPerson_44 : decode cX4_readPerson 44 = .ok (.invokevirtual 111, 3) := by decide +kernel
theorem dX4_readPerson_47 : decode cX4_readPerson 47 = .ok (.goto 4, 3) := by decide +kernel
theorem dX4_readPerson_50 : decode cX4_readPerson 50 = .ok (.iconst 0, 1) := by decide +kernel
theorem dX4_readPerson_51 : decode cX4_readPerson 51 = .ok (.istore_n 3, 1) := by decide +kernel
theorem dX4_readPerson_52 : decode cX4_readPerson 52 = .ok (.iload_n 3, 1) := by decide +kernel
theorem dX4_readPerson_53 : decode cX4_readPerson 53 = .ok (.ifCond .ge 5, 3) := by decide +kernel
theorem dX4_readPerson_56 : decode cX4_readPerson 56 = .ok (.iconst 0, 1) := by decide +kernel
theorem dX4_readPerson_57 : decode cX4_readPerson 57 = .ok (.ireturn, 1) := by decide +kernel
theorem dX4_readPerson_58 : decode cX4_readPerson 58 = .ok (.iconst (-1), 1) := by decide +kernel
theorem dX4_readPerson_59 : decode cX4_readPerson 59 = .ok (.istore 4, 2) := by decide +kernel
theorem dX4_readPerson_61 : decode cX4_readPerson 61 = .ok (.aload_n 0, 1) := by decide +kernel
theorem dX4_readPerson_62 : decode cX4_readPerson 62 = .ok (.ldc 131, 2) := by decide +kernel
theorem dX4_readPerson_64 : decode cX4_readPerson 64 = .ok (.invokevirtual 69, 3) := by decide +kernel
theorem dX4_readPerson_67 : decode cX4_readPerson 67 = .ok (.ifCond .eq 49, 3) := by decide +kernel
theorem dX4_readPerson_70 : decode cX4_readPerson 70 = .ok (.aload_n 0, 1) := by decide +kernel
theorem dX4_readPerson_71 : decode cX4_readPerson 71 = .ok (.getfield 29, 3) := by decide +kernel
theorem dX4_readPerson_74 : decode cX4_readPerson 74 = .ok (.iconst 2, 1) := by decide +kernel
theorem dX4_readPerson_75 : decode cX4_readPerson 75 = .ok (.if_icmp .ne 25, 3) := by decide +kernel
theorem dX4_readPerson_78 : decode cX4_readPerson 78 = .ok (.aload_n 0, 1) := by decide +kernel
theorem dX4_readPerson_79 : decode cX4_readPerson 79 = .ok (.getfield 45, 3) := by decide +kernel
theorem dX4_readPerson_82 : decode cX4_readPerson 82 = .ok (.bipush 8, 2) := by decide +kernel
theorem dX4_readPerson_84 : decode cX4_readPerson 84 = .ok (.if_icmp .ge 16, 3) := by decide +kernel
theorem dX4_readPerson_87 : decode cX4_readPerson 87 = .ok (.aload_n 1, 1) := by decide +kernel
theorem dX4_readPerson_88 : decode cX4_readPerson 88 = .ok (.aload_n 0, 1) := by decide +kernel
theorem dX4_readPerson_89 : decode cX4_readPerson 89 = .ok (.getfield 45, 3) := by decide +kernel
theorem dX4_readPerson_92 : decode cX4_readPerson 92 = .ok (.invokevirtual 133, 3) := by decide +kernel
theorem dX4_readPerson_95 : decode cX4_readPerson 95 = .ok (.ifCond .lt 5, 3) := by decide +kernel
theorem dX4_readPerson_98 : decode cX4_readPerson 98 = .ok (.iconst 0, 1) := by decide +kernel
theorem dX4_readPerson_99 : decode cX4_readPerson 99 = .ok (.ireturn, 1) := by decide +kernel
theorem dX4_readPerson_100 : decode cX4_readPerson 100 = .ok (.aload_n 0, 1) := by decide +kernel
theorem dX4_readPerson_101 : decode cX4_readPerson 101 = .ok (.iconst 0, 1) := by decide +kernel
theorem dX4_readPerson_102 : decode cX4_readPerson 102 = .ok (.bipush 7, 2) := by decide +kernel
theorem dX4_readPerson_104 : decode cX4_readPerson 104 = .ok (.invokevirtual 111, 3) := by decide +kernel
theorem dX4_readPerson_107 : decode cX4_readPerson 107 = .ok (.istore 4, 2) := by decide +kernel
theorem dX4_readPerson_109 : decode cX4_readPerson 109 = .ok (.iload 4, 2) := by decide +kernel
theorem dX4_readPerson_111 : decode cX4_readPerson 111 = .ok (.ifCond .ge 5, 3) := by decide +kernel
theorem dX4_readPerson_114 : decode cX4_readPerson 114 = .ok (.iconst 0, 1) := by decide +kernel
theorem dX4_readPerson_115 : decode cX4_readPerson 115 = .ok (.ireturn, 1) := by decide +kernel
theorem dX4_readPerson_116 : decode cX4_readPerson 116 = .ok (.aload_n 1, 1) := by decide +kernel
theorem dX4_readPerson_117 : decode cX4_readPerson 117 = .ok (.iload_n 2, 1) := by decide +kernel
theorem dX4_readPerson_118 : decode cX4_readPerson 118 = .ok (.iload_n 3, 1) := by decide +kernel
theorem dX4_readPerson_119 : decode cX4_readPerson 119 = .ok (.iload 4, 2) := by decide +kernel
theorem dX4_readPerson_121 : decode cX4_readPerson 121 = .ok (.invokevirtual 137, 3) := by decide +kernel
theorem dX4_readPerson_124 : decode cX4_readPerson 124 = .ok (.pop, 1) := by decide +kernel
theorem dX4_readPerson_125 : decode cX4_readPerson 125 = .ok (.iconst 1, 1) := by decide +kernel
theorem dX4_readPerson_126 : decode cX4_readPerson 126 = .ok (.ireturn, 1) := by decide +kernel
theorem dX5_init_0 : decode cX5_init 0 = .ok (.aload_n 0, 1) := by decide +kernel
theorem dX5_init_1 : decode cX5_init 1 = .ok (.invokespecial 3, 3) := by decide +kernel
theorem dX5_init_4 : decode cX5_init 4 = .ok (.aload_n 0, 1) := by decide +kernel
theorem dX5_init_5 : decode cX5_init 5 = .ok (.bipush 8, 2) := by decide +kernel
theorem dX5_init_7 : decode cX5_init 7 = .ok (.newarray .int, 2) := by decide +kernel
theorem dX5_init_9 : decode cX5_init 9 = .ok (.putfield 9, 3) := by decide +kernel
theorem dX5_init_12 : decode cX5_init 12 = .ok (.return_, 1) := by decide +kernel
theorem dX5_go_0 : decode cX5_go 0 = .ok (.aload_n 1, 1) := by decide +kernel
theorem dX5_go_1 : decode cX5_go 1 = .ok (.aload_n 0, 1) := by decide +kernel
theorem dX5_go_2 : decode cX5_go 2 = .ok (.getfield 9, 3) := by decide +kernel
theorem dX5_go_5 : decode cX5_go 5 = .ok (.invokevirtual 15, 3) := by decide +kernel
theorem dX5_go_8 : decode cX5_go 8 = .ok (.iconst 0, 1) := by decide +kernel
theorem dX5_go_9 : decode cX5_go 9 = .ok (.istore_n 3, 1) := by decide +kernel
theorem dX5_go_10 : decode cX5_go 10 = .ok (.iload_n 3, 1) := by decide +kernel
theorem dX5_go_11 : decode cX5_go 11 = .ok (.iload_n 2, 1) := by decide +kernel
theorem dX5_go_12 : decode cX5_go 12 = .ok (.if_icmp .ge 39, 3) := by decide +kernel
theorem dX5_go_15 : decode cX5_go 15 = .ok (.aload_n 0, 1) := by decide +kernel
theorem dX5_go_16 : decode cX5_go 16 = .ok (.aload_n 1, 1) := by decide +kernel
theorem dX5_go_17 : decode cX5_go 17 = .ok (.invokevirtual 21, 3) := by decide +kernel
theorem dX5_go_20 : decode cX5_go 20 = .ok (.aload_n 0, 1) := by decide +kernel
theorem dX5_go_21 : decode cX5_go 21 = .ok (.aload_n 1, 1) := by decide +kernel
theorem dX5_go_22 : decode cX5_go 22 = .ok (.invokevirtual 25, 3) := by decide +kernel
theorem dX5_go_25 : decode cX5_go 25 = .ok (.aload_n 0, 1) := by decide +kernel
theorem dX5_go_26 : decode cX5_go 26 = .ok (.aload_n 1, 1) := by decide +kernel
theorem dX5_go_27 : decode cX5_go 27 = .ok (.invokevirtual 28, 3) := by decide +kernel
theorem dX5_go_30 : decode cX5_go 30 = .ok (.aload_n 0, 1) := by decide +kernel
theorem dX5_go_31 : decode cX5_go 31 = .ok (.aload_n 1, 1) := by decide +kernel
theorem dX5_go_32 : decode cX5_go 32 = .ok (.invokevirtual 31, 3) := by decide +kernel
theorem dX5_go_35 : decode cX5_go 35 = .ok (.aload_n 1, 1) := by decide +kernel
theorem dX5_go_36 : decode cX5_go 36 = .ok (.dup, 1) := by decide +kernel
theorem dX5_go_37 : decode cX5_go 37 = .ok (.getfield 34, 3) := by decide +kernel
theorem dX5_go_40 : decode cX5_go 40 = .ok (.iconst 1, 1) := by decide +kernel
theorem dX5_go_41 : decode cX5_go 41 = .ok (.iadd, 1) := by decide +kernel
theorem dX5_go_42 : decode cX5_go 42 = .ok (.putfield 34, 3) := by decide +kernel
theorem dX5_go_45 : decode cX5_go 45 = .ok (.iinc 3 1, 3) := by decide +kernel
theorem dX5_go_48 : decode cX5_go 48 = .ok (.goto (-38), 3) := by decide +kernel
theorem dX5_go_51 : decode cX5_go 51 = .ok (.return_, 1) := by decide +kernel
theorem dX5_bearersWork_0 : decode cX5_bearersWork 0 = .ok (.iconst 0, 1) := by decide +kernel
theorem dX5_bearersWork_1 : decode cX5_bearersWork 1 = .ok (.istore_n 2, 1) := by decide +kernel
theorem dX5_bearersWork_2 : decode cX5_bearersWork 2 = .ok (.iload_n 2, 1) := by decide +kernel
theorem dX5_bearersWork_3 : decode cX5_bearersWork 3 = .ok (.aload_n 1, 1) := by decide +kernel
theorem dX5_bearersWork_4 : decode cX5_bearersWork 4 = .ok (.getfield 38, 3) := by decide +kernel
theorem dX5_bearersWork_7 : decode cX5_bearersWork 7 = .ok (.if_icmp .ge 51, 3) := by decide +kernel
theorem dX5_bearersWork_10 : decode cX5_bearersWork 10 = .ok (.aload_n 1, 1) := by decide +kernel
theorem dX5_bearersWork_11 : decode cX5_bearersWork 11 = .ok (.getfield 41, 3) := by decide +kernel
theorem dX5_bearersWork_14 : decode cX5_bearersWork 14 = .ok (.iload_n 2, 1) := by decide +kernel
theorem dX5_bearersWork_15 : decode cX5_bearersWork 15 = .ok (.iaload, 1) := by decide +kernel
theorem dX5_bearersWork_16 : decode cX5_bearersWork 16 = .ok (.ifCond .lt 36, 3) := by decide +kernel
theorem dX5_bearersWork_19 : decode cX5_bearersWork 19 = .ok (.aload_n 1, 1) := by decide +kernel
theorem dX5_bearersWork_20 : decode cX5_bearersWork 20 = .ok (.getfield 44, 3) := by decide +kernel
theorem dX5_bearersWork_23 : decode cX5_bearersWork 23 = .ok (.iload_n 2, 1) := by decide +kernel
theorem dX5_bearersWork_24 : decode cX5_bearersWork 24 = .ok (.iaload, 1) := by decide +kernel
theorem dX5_bearersWork_25 : decode cX5_bearersWork 25 = .ok (.bipush 7, 2) := by decide +kernel
theorem dX5_bearersWork_27 : decode cX5_bearersWork 27 = .ok (.if_icmp .lt 25, 3) := by decide +kernel
theorem dX5_bearersWork_30 : decode cX5_bearersWork 30 = .ok (.aload_n 0, 1) := by decide +kernel
theorem dX5_bearersWork_31 : decode cX5_bearersWork 31 = .ok (.aload_n 1, 1) := by decide +kernel
theorem dX5_bearersWork_32 : decode cX5_bearersWork 32 = .ok (.aload_n 0, 1) := by decide +kernel
theorem dX5_bearersWork_33 : decode cX5_bearersWork 33 = .ok (.getfield 9, 3) := by decide +kernel
theorem dX5_bearersWork_36 : decode cX5_bearersWork 36 = .ok (.aload_n 1, 1) := by decide +kernel
theorem dX5_bearersWork_37 : decode cX5_bearersWork 37 = .ok (.getfield 41, 3) := by decide +kernel
theorem dX5_bearersWork_40 : decode cX5_bearersWork 40 = .ok (.iload_n 2, 1) := by decide +kernel
theorem dX5_bearersWork_41 : decode cX5_bearersWork 41 = .ok (.iaload, 1) := by decide +kernel
theorem dX5_bearersWork_42 : decode cX5_bearersWork 42 = .ok (.iaload, 1) := by decide +kernel
theorem dX5_bearersWork_43 : decode cX5_bearersWork 43 = .ok (.aload_n 1, 1) := by decide +kernel
theorem dX5_bearersWork_44 : decode cX5_bearersWork 44 = .ok (.getfield 47, 3) := by decide +kernel
theorem dX5_bearersWork_47 : decode cX5_bearersWork 47 = .ok (.iload_n 2, 1) := by decide +kernel
theorem dX5_bearersWork_48 : decode cX5_bearersWork 48 = .ok (.iaload, 1) := by decide +kernel
theorem dX5_bearersWork_49 : decode cX5_bearersWork 49 = .ok (.invokevirtual 50, 3) := by decide +kernel
theorem dX5_bearersWork_52 : decode cX5_bearersWork 52 = .ok (.iinc 2 1, 3) := by decide +kernel
theorem dX5_bearersWork_55 : decode cX5_bearersWork 55 = .ok (.goto (-53), 3) := by decide +kernel
theorem dX5_bearersWork_58 : decode cX5_bearersWork 58 = .ok (.return_, 1) := by decide +kernel
theorem dX5_helpersWork_0 : decode cX5_helpersWork 0 = .ok (.iconst 0, 1) := by decide +kernel
theorem dX5_helpersWork_1 : decode cX5_helpersWork 1 = .ok (.istore_n 2, 1) := by decide +kernel
theorem dX5_helpersWork_2 : decode cX5_helpersWork 2 = .ok (.iload_n 2, 1) := by decide +kernel
theorem dX5_helpersWork_3 : decode cX5_helpersWork 3 = .ok (.aload_n 1, 1) := by decide +kernel
theorem dX5_helpersWork_4 : decode cX5_helpersWork 4 = .ok (.getfield 38, 3) := by decide +kernel
theorem dX5_helpersWork_7 : decode cX5_helpersWork 7 = .ok (.if_icmp .ge 90, 3) := by decide +kernel
theorem dX5_helpersWork_10 : decode cX5_helpersWork 10 = .ok (.aload_n 1, 1) := by decide +kernel
theorem dX5_helpersWork_11 : decode cX5_helpersWork 11 = .ok (.getfield 54, 3) := by decide +kernel
theorem dX5_helpersWork_14 : decode cX5_helpersWork 14 = .ok (.iload_n 2, 1) := by decide +kernel
theorem dX5_helpersWork_15 : decode cX5_helpersWork 15 = .ok (.iaload, 1) := by decide +kernel
theorem dX5_helpersWork_16 : decode cX5_helpersWork 16 = .ok (.istore_n 3, 1) := by decide +kernel
theorem dX5_helpersWork_17 : decode cX5_helpersWork 17 = .ok (.iload_n 3, 1) := by decide +kernel
theorem dX5_helpersWork_18 : decode cX5_helpersWork 18 = .ok (.ifCond .lt 73, 3) := by decide +kernel
theorem dX5_helpersWork_21 : decode cX5_helpersWork 21 = .ok (.aload_n 1, 1) := by decide +kernel
theorem dX5_helpersWork_22 : decode cX5_helpersWork 22 = .ok (.getfield 44, 3) := by decide +kernel
theorem dX5_helpersWork_25 : decode cX5_helpersWork 25 = .ok (.iload_n 2, 1) := by decide +kernel
theorem dX5_helpersWork_26 : decode cX5_helpersWork 26 = .ok (.iaload, 1) := by decide +kernel
theorem dX5_helpersWork_27 : decode cX5_helpersWork 27 = .ok (.bipush 7, 2) := by decide +kernel
theorem dX5_helpersWork_29 : decode cX5_helpersWork 29 = .ok (.if_icmp .lt 62, 3) := by decide +kernel
theorem dX5_helpersWork_32 : decode cX5_helpersWork 32 = .ok (.aload_n 1, 1) := by decide +kernel
theorem dX5_helpersWork_33 : decode cX5_helpersWork 33 = .ok (.getfield 41, 3) := by decide +kernel
theorem dX5_helpersWork_36 : decode cX5_helpersWork 36 = .ok (.iload_n 3, 1) := by decide +kernel
theorem dX5_helpersWork_37 : decode cX5_helpersWork 37 = .ok (.iaload, 1) := by decide +kernel
theorem dX5_helpersWork_38 : decode cX5_helpersWork 38 = .ok (.ifCond .ge 6, 3) := by decide +kernel
theorem dX5_helpersWork_41 : decode cX5_helpersWork 41 = .ok (.goto 50, 3) := by decide +kernel
theorem dX5_helpersWork_44 : decode cX5_helpersWork 44 = .ok (.aload_n 1, 1) := by decide +kernel
theorem dX5_helpersWork_45 : decode cX5_helpersWork 45 = .ok (.getfield 41, 3) := by decide +kernel
theorem dX5_helpersWork_48 : decode cX5_helpersWork 48 = .ok (.iload_n 2, 1) := by decide +kernel
theorem dX5_helpersWork_49 : decode cX5_helpersWork 49 = .ok (.iaload, 1) := by decide +kernel
theorem dX5_helpersWork_50 : decode cX5_helpersWork 50 = .ok (.ifCond .lt 17, 3) := by decide +kernel
theorem dX5_helpersWork_53 : decode cX5_helpersWork 53 = .ok (.aload_n 0, 1) := by decide +kernel
theorem dX5_helpersWork_54 : decode cX5_helpersWork 54 = .ok (.getfield 9, 3) := by decide +kernel
theorem dX5_helpersWork_57 : decode cX5_helpersWork 57 = .ok (.aload_n 1, 1) := by decide +kernel
theorem dX5_helpersWork_58 : decode cX5_helpersWork 58 = .ok (.getfield 41, 3) := by decide +kernel
theorem dX5_helpersWork_61 : decode cX5_helpersWork 61 = .ok (.iload_n 2, 1) := by decide +kernel
theorem dX5_helpersWork_62 : decode cX5_helpersWork 62 = .ok (.iaload, 1) := by decide +kernel
theorem dX5_helpersWork_63 : decode cX5_helpersWork 63 = .ok (.iaload, 1) := by decide +kernel
theorem dX5_helpersWork_64 : decode cX5_helpersWork 64 = .ok (.ifCond .ge 27, 3) := by decide +kernel
theorem dX5_helpersWork_67 : decode cX5_helpersWork 67 = .ok (.aload_n 0, 1) := by decide +kernel
theorem dX5_helpersWork_68 : decode cX5_helpersWork 68 = .ok (.aload_n 1, 1) := by decide +kernel
theorem dX5_helpersWork_69 : decode cX5_helpersWork 69 = .ok (.aload_n 0, 1) := by decide +kernel
theorem dX5_helpersWork_70 : decode cX5_helpersWork 70 = .ok (.getfield 9, 3) := by decide +kernel
theorem dX5_helpersWork_73 : decode cX5_helpersWork 73 = .ok (.aload_n 1, 1) := by decide +kernel
theorem dX5_helpersWork_74 : decode cX5_helpersWork 74 = .ok (.getfield 41, 3) := by decide +kernel
theorem dX5_helpersWork_77 : decode cX5_helpersWork 77 = .ok (.iload_n 3, 1) := by decide +kernel
theorem dX5_helpersWork_78 : decode cX5_helpersWork 78 = .ok (.iaload, 1) := by decide +kernel
theorem dX5_helpersWork_79 : decode cX5_helpersWork 79 = .ok (.iaload, 1) := by decide +kernel
theorem dX5_helpersWork_80 : decode cX5_helpersWork 80 = .ok (.aload_n 1, 1) := by decide +kernel
theorem dX5_helpersWork_81 : decode cX5_helpersWork 81 = .ok (.getfield 47, 3) := by decide +kernel
theorem dX5_helpersWork_84 : decode cX5_helpersWork 84 = .ok (.iload_n 2, 1) := by decide +kernel
theorem dX5_helpersWork_85 : decode cX5_helpersWork 85 = .ok (.iaload, 1) := by decide +kernel
theorem dX5_helpersWork_86 : decode cX5_helpersWork 86 = .ok (.iconst 2, 1) := by decide +kernel
theorem dX5_helpersWork_87 : decode cX5_helpersWork 87 = .ok (.idiv, 1) := by decide +kernel
theorem dX5_helpersWork_88 : decode cX5_helpersWork 88 = .ok (.invokevirtual 50, 3) := by decide +kernel
theorem dX5_helpersWork_91 : decode cX5_helpersWork 91 = .ok (.iinc 2 1, 3) := by decide +kernel
theorem dX5_helpersWork_94 : decode cX5_helpersWork 94 = .ok (.goto (-92), 3) := by decide +kernel
theorem dX5_helpersWork_97 : decode cX5_helpersWork 97 = .ok (.return_, 1) := by decide +kernel
theorem dX5_workOn_0 : decode cX5_workOn 0 = .ok (.iload_n 2, 1) := by decide +kernel
theorem dX5_workOn_1 : decode cX5_workOn 1 = .ok (.ifCond .ge 4, 3) := by decide +kernel
theorem dX5_workOn_4 : decode cX5_workOn 4 = .ok (.return_, 1) := by decide +kernel
theorem dX5_workOn_5 : decode cX5_workOn 5 = .ok (.aload_n 1, 1) := by decide +kernel
theorem dX5_workOn_6 : decode cX5_workOn 6 = .ok (.getfield 57, 3) := by decide +kernel
theorem dX5_workOn_9 : decode cX5_workOn 9 = .ok (.iload_n 2, 1) := by decide +kernel
theorem dX5_workOn_10 : decode cX5_workOn 10 = .ok (.iconst 0, 1) := by decide +kernel
theorem dX5_workOn_11 : decode cX5_workOn 11 = .ok (.aload_n 1, 1) := by decide +kernel
theorem dX5_workOn_12 : decode cX5_workOn 12 = .ok (.getfield 57, 3) := by decide +kernel
theorem dX5_workOn_15 : decode cX5_workOn 15 = .ok (.iload_n 2, 1) := by decide +kernel
theorem dX5_workOn_16 : decode cX5_workOn 16 = .ok (.iaload, 1) := by decide +kernel
theorem dX5_workOn_17 : decode cX5_workOn 17 = .ok (.aload_n 1, 1) := by decide +kernel
theorem dX5_workOn_18 : decode cX5_workOn 18 = .ok (.iload_n 2, 1) := by decide +kernel
theorem dX5_workOn_19 : decode cX5_workOn 19 = .ok (.iload_n 3, 1) := by decide +kernel
theorem dX5_workOn_20 : decode cX5_workOn 20 = .ok (.invokevirtual 60, 3) := by decide +kernel
theorem dX5_workOn_23 : decode cX5_workOn 23 = .ok (.isub, 1) := by decide +kernel
theorem dX5_workOn_24 : decode cX5_workOn 24 = .ok (.invokestatic 64, 3) := by decide +kernel
theorem dX5_workOn_27 : decode cX5_workOn 27 = .ok (.iastore, 1) := by decide +kernel
theorem dX5_workOn_28 : decode cX5_workOn 28 = .ok (.aload_n 1, 1) := by decide +kernel
theorem dX5_workOn_29 : decode cX5_workOn 29 = .ok (.getfield 57, 3) := by decide +kernel
theorem dX5_workOn_32 : decode cX5_workOn 32 = .ok (.iload_n 2, 1) := by decide +kernel
theorem dX5_workOn_33 : decode cX5_workOn 33 = .ok (.iaload, 1) := by decide +kernel
theorem dX5_workOn_34 : decode cX5_workOn 34 = .ok (.ifCond .ne 11, 3) := by decide +kernel
theorem dX5_workOn_37 : decode cX5_workOn 37 = .ok (.aload_n 1, 1) := by decide +kernel
theorem dX5_workOn_38 : decode cX5_workOn 38 = .ok (.aload_n 0, 1) := by decide +kernel
theorem dX5_workOn_39 : decode cX5_workOn 39 = .ok (.getfield 9, 3) := by decide +kernel
theorem dX5_workOn_42 : decode cX5_workOn 42 = .ok (.invokevirtual 15, 3) := by decide +kernel
theorem dX5_workOn_45 : decode cX5_workOn 45 = .ok (.return_, 1) := by decide +kernel
theorem dX5_tasksGrow_0 : decode cX5_tasksGrow 0 = .ok (.iconst 0, 1) := by decide +kernel
theorem dX5_tasksGrow_1 : decode cX5_tasksGrow 1 = .ok (.istore_n 2, 1) := by decide +kernel
theorem dX5_tasksGrow_2 : decode cX5_tasksGrow 2 = .ok (.iload_n 2, 1) := by decide +kernel
theorem dX5_tasksGrow_3 : decode cX5_tasksGrow 3 = .ok (.aload_n 1, 1) := by decide +kernel
theorem dX5_tasksGrow_4 : decode cX5_tasksGrow 4 = .ok (.getfield 69, 3) := by decide +kernel
theorem dX5_tasksGrow_7 : decode cX5_tasksGrow 7 = .ok (.if_icmp .ge 51, 3) := by decide +kernel
theorem dX5_tasksGrow_10 : decode cX5_tasksGrow 10 = .ok (.aload_n 1, 1) := by decide +kernel
theorem dX5_tasksGrow_11 : decode cX5_tasksGrow 11 = .ok (.getfield 57, 3) := by decide +kernel
theorem dX5_tasksGrow_14 : decode cX5_tasksGrow 14 = .ok (.iload_n 2, 1) := by decide +kernel
theorem dX5_tasksGrow_15 : decode cX5_tasksGrow 15 = .ok (.iaload, 1) := by decide +kernel
theorem dX5_tasksGrow_16 : decode cX5_tasksGrow 16 = .ok (.ifCond .le 36, 3) := by decide +kernel
theorem dX5_tasksGrow_19 : decode cX5_tasksGrow 19 = .ok (.aload_n 1, 1) := by decide +kernel
theorem dX5_tasksGrow_20 : decode cX5_tasksGrow 20 = .ok (.getfield 72, 3) := by decide +kernel
theorem dX5_tasksGrow_23 : decode cX5_tasksGrow 23 = .ok (.iload_n 2, 1) := by decide +kernel
theorem dX5_tasksGrow_24 : decode cX5_tasksGrow 24 = .ok (.iaload, 1) := by decide +kernel
theorem dX5_tasksGrow_25 : decode cX5_tasksGrow 25 = .ok (.ifCond .eq 27, 3) := by decide +kernel
theorem dX5_tasksGrow_28 : decode cX5_tasksGrow 28 = .ok (.aload_n 1, 1) := by decide +kernel
theorem dX5_tasksGrow_29 : decode cX5_tasksGrow 29 = .ok (.getfield 57, 3) := by decide +kernel
theorem dX5_tasksGrow_32 : decode cX5_tasksGrow 32 = .ok (.iload_n 2, 1) := by decide +kernel
theorem dX5_tasksGrow_33 : decode cX5_tasksGrow 33 = .ok (.sipush 999, 3) := by decide +kernel
theorem dX5_tasksGrow_36 : decode cX5_tasksGrow 36 = .ok (.aload_n 1, 1) := by decide +kernel
theorem dX5_tasksGrow_37 : decode cX5_tasksGrow 37 = .ok (.getfield 57, 3) := by decide +kernel
theorem dX5_tasksGrow_40 : decode cX5_tasksGrow 40 = .ok (.iload_n 2, 1) := by decide +kernel
theorem dX5_tasksGrow_41 : decode cX5_tasksGrow 41 = .ok (.iaload, 1) := by decide +kernel
theorem dX5_tasksGrow_42 : decode cX5_tasksGrow 42 = .ok (.aload_n 1, 1) := by decide +kernel
theorem dX5_tasksGrow_43 : decode cX5_tasksGrow 43 = .ok (.iload_n 2, 1) := by decide +kernel
theorem dX5_tasksGrow_44 : decode cX5_tasksGrow 44 = .ok (.invokevirtual 75, 3) := by decide +kernel
theorem dX5_tasksGrow_47 : decode cX5_tasksGrow 47 = .ok (.iadd, 1) := by decide +kernel
theorem dX5_tasksGrow_48 : decode cX5_tasksGrow 48 = .ok (.invokestatic 79, 3) := by decide +kernel
theorem dX5_tasksGrow_51 : decode cX5_tasksGrow 51 = .ok (.iastore, 1) := by decide +kernel
theorem dX5_tasksGrow_52 : decode cX5_tasksGrow 52 = .ok (.iinc 2 1, 3) := by decide +kernel
theorem dX5_tasksGrow_55 : decode cX5_tasksGrow 55 = .ok (.goto (-53), 3) := by decide +kernel
theorem dX5_tasksGrow_58 : decode cX5_tasksGrow 58 = .ok (.return_, 1) := by decide +kernel
theorem dX5_personsAge_0 : decode cX5_personsAge 0 = .ok (.iconst 0, 1) := by decide +kernel
theorem dX5_personsAge_1 : decode cX5_personsAge 1 = .ok (.istore_n 2, 1) := by decide +kernel
theorem dX5_personsAge_2 : decode cX5_personsAge 2 = .ok (.iload_n 2, 1) := by decide +kernel
theorem dX5_personsAge_3 : decode cX5_personsAge 3 = .ok (.aload_n 1, 1) := by decide +kernel
theorem dX5_personsAge_4 : decode cX5_personsAge 4 = .ok (.getfield 38, 3) := by decide +kernel
theorem dX5_personsAge_7 : decode cX5_personsAge 7 = .ok (.if_icmp .ge 56, 3) := by decide +kernel
theorem dX5_personsAge_10 : decode cX5_personsAge 10 = .ok (.aload_n 1, 1) := by decide +kernel
theorem dX5_personsAge_11 : decode cX5_personsAge 11 = .ok (.getfield 44, 3) := by decide +kernel
theorem dX5_personsAge_14 : decode cX5_personsAge 14 = .ok (.iload_n 2, 1) := by decide +kernel
theorem dX5_personsAge_15 : decode cX5_personsAge 15 = .ok (.iaload, 1) := by decide +kernel
theorem dX5_personsAge_16 : decode cX5_personsAge 16 = .ok (.bipush 40, 2) := by decide +kernel
theorem dX5_personsAge_18 : decode cX5_personsAge 18 = .ok (.if_icmp .ge 13, 3) := by decide +kernel
theorem dX5_personsAge_21 : decode cX5_personsAge 21 = .ok (.aload_n 1, 1) := by decide +kernel
theorem dX5_personsAge_22 : decode cX5_personsAge 22 = .ok (.getfield 44, 3) := by decide +kernel
theorem dX5_personsAge_25 : decode cX5_personsAge 25 = .ok (.iload_n 2, 1) := by decide +kernel
theorem dX5_personsAge_26 : decode cX5_personsAge 26 = .ok (.dup2, 1) := by decide +kernel
theorem dX5_personsAge_27 : decode cX5_personsAge 27 = .ok (.iaload, 1) := by decide +kernel
theorem dX5_personsAge_28 : decode cX5_personsAge 28 = .ok (.iconst 1, 1) := by decide +kernel
theorem dX5_personsAge_29 : decode cX5_personsAge 29 = .ok (.iadd, 1) := by decide +kernel
theorem dX5_personsAge_30 : decode cX5_personsAge 30 = .ok (.iastore, 1) := by decide +kernel
theorem dX5_personsAge_31 : decode cX5_personsAge 31 = .ok (.aload_n 1, 1) := by decide +kernel
theorem dX5_personsAge_32 : decode cX5_personsAge 32 = .ok (.getfield 44, 3) := by decide +kernel
theorem dX5_personsAge_35 : decode cX5_personsAge 35 = .ok (.iload_n 2, 1) := by decide +kernel
theorem dX5_personsAge_36 : decode cX5_personsAge 36 = .ok (.iaload, 1) := by decide +kernel
theorem dX5_personsAge_37 : decode cX5_personsAge 37 = .ok (.bipush 40, 2) := by decide +kernel
theorem dX5_personsAge_39 : decode cX5_personsAge 39 = .ok (.if_icmp .lt 18, 3) := by decide +kernel
theorem dX5_personsAge_42 : decode cX5_personsAge 42 = .ok (.aload_n 1, 1) := by decide +kernel
theorem dX5_personsAge_43 : decode cX5_personsAge 43 = .ok (.getfield 41, 3) := by decide +kernel
theorem dX5_personsAge_46 : decode cX5_personsAge 46 = .ok (.iload_n 2, 1) := by decide +kernel
theorem dX5_personsAge_47 : decode cX5_personsAge 47 = .ok (.iaload, 1) := by decide +kernel
theorem dX5_personsAge_48 : decode cX5_personsAge 48 = .ok (.ifCond .lt 9, 3) := by decide +kernel
theorem dX5_personsAge_51 : decode cX5_personsAge 51 = .ok (.aload_n 0, 1) := by decide +kernel
theorem dX5_personsAge_52 : decode cX5_personsAge 52 = .ok (.aload_n 1, 1) := by decide +kernel
theorem dX5_personsAge_53 : decode cX5_personsAge 53 = .ok (.iload_n 2, 1) := by decide +kernel
theorem dX5_personsAge_54 : decode cX5_personsAge 54 = .ok (.invokevirtual 82, 3) := by decide +kernel
theorem dX5_personsAge_57 : decode cX5_personsAge 57 = .ok (.iinc 2 1, 3) := by decide +kernel
theorem dX5_personsAge_60 : decode cX5_personsAge 60 = .ok (.goto (-58), 3) := by decide +kernel
theorem dX5_personsAge_63 : decode cX5_personsAge 63 = .ok (.return_, 1) := by decide +kernel
theorem dX5_leave_0 : decode cX5_leave 0 = .ok (.aload_n 1, 1) := by decide +kernel
theorem dX5_leave_1 : decode cX5_leave 1 = .ok (.getfield 41, 3) := by decide +kernel
theorem dX5_leave_4 : decode cX5_leave 4 = .ok (.iload_n 2, 1) := by decide +kernel
theorem dX5_leave_5 : decode cX5_leave 5 = .ok (.iaload, 1) := by decide +kernel
theorem dX5_leave_6 : decode cX5_leave 6 = .ok (.istore_n 3, 1) := by decide +kernel
theorem dX5_leave_7 : decode cX5_leave 7 = .ok (.aload_n 1, 1) := by decide +kernel
theorem dX5_leave_8 : decode cX5_leave 8 = .ok (.getfield 41, 3) := by decide +kernel
theorem dX5_leave_11 : decode cX5_leave 11 = .ok (.iload_n 2, 1) := by decide +kernel
theorem dX5_leave_12 : decode cX5_leave 12 = .ok (.iconst (-1), 1) := by decide +kernel
theorem dX5_leave_13 : decode cX5_leave 13 = .ok (.iastore, 1) := by decide +kernel
theorem dX5_leave_14 : decode cX5_leave 14 = .ok (.aload_n 1, 1) := by decide +kernel
theorem dX5_leave_15 : decode cX5_leave 15 = .ok (.getfield 86, 3) := by decide +kernel
theorem dX5_leave_18 : decode cX5_leave 18 = .ok (.iload_n 3, 1) := by decide +kernel
theorem dX5_leave_19 : decode cX5_leave 19 = .ok (.dup2, 1) := by decide +kernel
theorem dX5_leave_20 : decode cX5_leave 20 = .ok (.iaload, 1) := by decide +kernel
theorem dX5_leave_21 : decode cX5_leave 21 = .ok (.iconst 1, 1) := by decide +kernel
theorem dX5_leave_22 : decode cX5_leave 22 = .ok (.iadd, 1) := by decide +kernel
theorem dX5_leave_23 : decode cX5_leave 23 = .ok (.iastore, 1) := by decide +kernel
theorem dX5_leave_24 : decode cX5_leave 24 = .ok (.aload_n 1, 1) := by decide +kernel
theorem dX5_leave_25 : decode cX5_leave 25 = .ok (.iload_n 3, 1) := by decide +kernel
theorem dX5_leave_26 : decode cX5_leave 26 = .ok (.invokevirtual 89, 3) := by decide +kernel
theorem dX5_leave_29 : decode cX5_leave 29 = .ok (.ifCond .eq 20, 3) := by decide +kernel
theorem dX5_leave_32 : decode cX5_leave 32 = .ok (.aload_n 1, 1) := by decide +kernel
theorem dX5_leave_33 : decode cX5_leave 33 = .ok (.iconst 0, 1) := by decide +kernel
theorem dX5_leave_34 : decode cX5_leave 34 = .ok (.iload_n 3, 1) := by decide +kernel
theorem dX5_leave_35 : decode cX5_leave 35 = .ok (.iconst 5, 1) := by decide +kernel
theorem dX5_leave_36 : decode cX5_leave 36 = .ok (.iconst (-1), 1) := by decide +kernel
theorem dX5_leave_37 : decode cX5_leave 37 = .ok (.invokevirtual 95, 3) := by decide +kernel
theorem dX5_leave_40 : decode cX5_leave 40 = .ok (.pop, 1) := by decide +kernel
theorem dX5_leave_41 : decode cX5_leave 41 = .ok (.aload_n 1, 1) := by decide +kernel
theorem dX5_leave_42 : decode cX5_leave 42 = .ok (.aload_n 0, 1) := by decide +kernel
theorem dX5_leave_43 : decode cX5_leave 43 = .ok (.getfield 9, 3) := by decide +kernel
theorem dX5_leave_46 : decode cX5_leave 46 = .ok (.invokevirtual 15, 3) := by decide +kernel
theorem dX5_leave_49 : decode cX5_leave 49 = .ok (.return_, 1) := by decide +kernel
theorem dX6_init_0 : decode cX6_init 0 = .ok (.aload_n 0, 1) := by decide +kernel
theorem dX6_init_1 : decode cX6_init 1 = .ok (.invokespecial 3, 3) := by decide +kernel
theorem dX6_init_4 : decode cX6_init 4 = .ok (.aload_n 0, 1) := by decide +kernel
theorem dX6_init_5 : decode cX6_init 5 = .ok (.new 9, 3) := by decide +kernel
theorem dX6_init_8 : decode cX6_init 8 = .ok (.dup, 1) := by decide +kernel
theorem dX6_init_9 : decode cX6_init 9 = .ok (.invokespecial 11, 3) := by decide +kernel
theorem dX6_init_12 : decode cX6_init 12 = .ok (.putfield 12, 3) := by decide +kernel
theorem dX6_init_15 : decode cX6_init 15 = .ok (.aload_n 0, 1) := by decide +kernel
theorem dX6_init_16 : decode cX6_init 16 = .ok (.new 9, 3) := by decide +kernel
theorem dX6_init_19 : decode cX6_init 19 = .ok (.dup, 1) := by decide +kernel
theorem dX6_init_20 : decode cX6_init 20 = .ok (.invokespecial 11, 3) := by decide +kernel
theorem dX6_init_23 : decode cX6_init 23 = .ok (.putfield 16, 3) := by decide +kernel
theorem dX6_init_26 : decode cX6_init 26 = .ok (.aload_n 0, 1) := by decide +kernel
theorem dX6_init_27 : decode cX6_init 27 = .ok (.new 9, 3) := by decide +kernel
theorem dX6_init_30 : decode cX6_init 30 = .ok (.dup, 1) := by decide +kernel
theorem dX6_init_31 : decode cX6_init 31 = .ok (.invokespecial 11, 3) := by decide +kernel
theorem dX6_init_34 : decode cX6_init 34 = .ok (.putfield 19, 3) := by decide +kernel
theorem dX6_init_37 : decode cX6_init 37 = .ok (.aload_n 0, 1) := by decide +kernel
theorem dX6_init_38 : decode cX6_init 38 = .ok (.new 22, 3) := by decide +kernel
theorem dX6_init_41 : decode cX6_init 41 = .ok (.dup, 1) := by decide +kernel
theorem dX6_init_42 : decode cX6_init 42 = .ok (.invokespecial 24, 3) := by decide +kernel
theorem dX6_init_45 : decode cX6_init 45 = .ok (.putfield 25, 3) := by decide +kernel
theorem dX6_init_48 : decode cX6_init 48 = .ok (.aload_n 0, 1) := by decide +kernel
theorem dX6_init_49 : decode cX6_init 49 = .ok (.new 29, 3) := by decide +kernel
theorem dX6_init_52 : decode cX6_init 52 = .ok (.dup, 1) := by decide +kernel
theorem dX6_init_53 : decode cX6_init 53 = .ok (.aload_n 0, 1) := by decide +kernel
theorem dX6_init_54 : decode cX6_init 54 = .ok (.getfield 19, 3) := by decide +kernel
theorem dX6_init_57 : decode cX6_init 57 = .ok (.aload_n 0, 1) := by decide +kernel
theorem dX6_init_58 : decode cX6_init 58 = .ok (.getfield 25, 3) := by decide +kernel
theorem dX6_init_61 : decode cX6_init 61 = .ok (.invokespecial 31, 3) := by decide +kernel
theorem dX6_init_64 : decode cX6_init 64 = .ok (.putfield 34, 3) := by decide +kernel
theorem dX6_init_67 : decode cX6_init 67 = .ok (.aload_n 0, 1) := by decide +kernel
theorem dX6_init_68 : decode cX6_init 68 = .ok (.new 38, 3) := by decide +kernel
theorem dX6_init_71 : decode cX6_init 71 = .ok (.dup, 1) := by decide +kernel
theorem dX6_init_72 : decode cX6_init 72 = .ok (.invokespecial 40, 3) := by decide +kernel
theorem dX6_init_75 : decode cX6_init 75 = .ok (.putfield 41, 3) := by decide +kernel
theorem dX6_init_78 : decode cX6_init 78 = .ok (.aload_n 0, 1) := by decide +kernel
theorem dX6_init_79 : decode cX6_init 79 = .ok (.iconst 4, 1) := by decide +kernel
theorem dX6_init_80 : decode cX6_init 80 = .ok (.anewarray 45, 3) := by decide +kernel
theorem dX6_init_83 : decode cX6_init 83 = .ok (.putfield 47, 3) := by decide +kernel
theorem dX6_init_86 : decode cX6_init 86 = .ok (.aload_n 0, 1) := by decide +kernel
theorem dX6_init_87 : decode cX6_init 87 = .ok (.bipush 7, 2) := by decide +kernel
theorem dX6_init_89 : decode cX6_init 89 = .ok (.newarray .int, 2) := by decide +kernel
theorem dX6_init_91 : decode cX6_init 91 = .ok (.putfield 51, 3) := by decide +kernel
theorem dX6_init_94 : decode cX6_init 94 = .ok (.iconst 0, 1) := by decide +kernel
theorem dX6_init_95 : decode cX6_init 95 = .ok (.istore_n 1, 1) := by decide +kernel
theorem dX6_init_96 : decode cX6_init 96 = .ok (.iload_n 1, 1) := by decide +kernel
theorem dX6_init_97 : decode cX6_init 97 = .ok (.iconst 4, 1) := by decide +kernel
theorem dX6_init_98 : decode cX6_init 98 = .ok (.if_icmp .ge 22, 3) := by decide +kernel
theorem dX6_init_101 : decode cX6_init 101 = .ok (.aload_n 0, 1) := by decide +kernel
theorem dX6_init_102 : decode cX6_init 102 = .ok (.getfield 47, 3) := by decide +kernel
theorem dX6_init_105 : decode cX6_init 105 = .ok (.iload_n 1, 1) := by decide +kernel
theorem dX6_init_106 : decode cX6_init 106 = .ok (.new 45, 3) := by decide +kernel
theorem dX6_init_109 : decode cX6_init 109 = .ok (.dup, 1) := by decide +kernel
theorem dX6_init_110 : decode cX6_init 110 = .ok (.invokespecial 55, 3) := by decide +kernel
theorem dX6_init_113 : decode cX6_init 113 = .ok (.aastore, 1) := by decide +kernel
theorem dX6_init_114 : decode cX6_init 114 = .ok (.iinc 1 1, 3) := by decide +kernel
theorem dX6_init_117 : decode cX6_init 117 = .ok (.goto (-21), 3) := by decide +kernel
theorem dX6_init_120 : decode cX6_init 120 = .ok (.return_, 1) := by decide +kernel
theorem dX6_worth_0 : decode cX6_worth 0 = .ok (.iload_n 1, 1) := by decide +kernel
theorem dX6_worth_1 : decode cX6_worth 1 = .ok (.invokestatic 56, 3) := by decide +kernel
theorem dX6_worth_4 : decode cX6_worth 4 = .ok (.ifCond .eq 13, 3) := by decide +kernel
theorem dX6_worth_7 : decode cX6_worth 7 = .ok (.iload_n 2, 1) := by decide +kernel
theorem dX6_worth_8 : decode cX6_worth 8 = .ok (.iconst 0, 1) := by decide +kernel
theorem dX6_worth_9 : decode cX6_worth 9 = .ok (.bipush 99, 2) := by decide +kernel
theorem dX6_worth_11 : decode cX6_worth 11 = .ok (.invokestatic 60, 3) := by decide +kernel
theorem dX6_worth_14 : decode cX6_worth 14 = .ok (.ifCond .ne 10, 3) := by decide +kernel
theorem dX6_worth_17 : decode cX6_worth 17 = .ok (.aload_n 0, 1) := by decide +kernel
theorem dX6_worth_18 : decode cX6_worth 18 = .ok (.ldc 64, 2) := by decide +kernel
theorem dX6_worth_20 : decode cX6_worth 20 = .ok (.invokevirtual 65, 3) := by decide +kernel
theorem dX6_worth_23 : decode cX6_worth 23 = .ok (.ireturn, 1) := by decide +kernel
theorem dX6_worth_24 : decode cX6_worth 24 = .ok (.aload_n 0, 1) := by decide +kernel
theorem dX6_worth_25 : decode cX6_worth 25 = .ok (.getfield 12, 3) := by decide +kernel
theorem dX6_worth_28 : decode cX6_worth 28 = .ok (.getfield 69, 3) := by decide +kernel
theorem dX6_worth_31 : decode cX6_worth 31 = .ok (.iload_n 1, 1) := by decide +kernel
theorem dX6_worth_32 : decode cX6_worth 32 = .ok (.iaload, 1) := by decide +kernel
theorem dX6_worth_33 : decode cX6_worth 33 = .ok (.istore_n 3, 1) := by decide +kernel
theorem dX6_worth_34 : decode cX6_worth 34 = .ok (.aload_n 0, 1) := by decide +kernel
theorem dX6_worth_35 : decode cX6_worth 35 = .ok (.getfield 12, 3) := by decide +kernel
theorem dX6_worth_38 : decode cX6_worth 38 = .ok (.getfield 69, 3) := by decide +kernel
theorem dX6_worth_41 : decode cX6_worth 41 = .ok (.iload_n 1, 1) := by decide +kernel
theorem dX6_worth_42 : decode cX6_worth 42 = .ok (.iload_n 2, 1) := by decide +kernel
theorem dX6_worth_43 : decode cX6_worth 43 = .ok (.iastore, 1) := by decide +kernel
theorem dX6_worth_44 : decode cX6_worth 44 = .ok (.iload_n 3, 1) := by decide +kernel
theorem dX6_worth_45 : decode cX6_worth 45 = .ok (.ireturn, 1) := by decide +kernel
theorem dX6_task_0 : decode cX6_task 0 = .ok (.iload_n 1, 1) := by decide +kernel
theorem dX6_task_1 : decode cX6_task 1 = .ok (.invokestatic 72, 3) := by decide +kernel
theorem dX6_task_4 : decode cX6_task 4 = .ok (.ifCond .eq 21, 3) := by decide +kernel
theorem dX6_task_7 : decode cX6_task 7 = .ok (.iload_n 2, 1) := by decide +kernel
theorem dX6_task_8 : decode cX6_task 8 = .ok (.invokestatic 56, 3) := by decide +kernel
theorem dX6_task_11 : decode cX6_task 11 = .ok (.ifCond .eq 14, 3) := by decide +kernel
theorem dX6_task_14 : decode cX6_task 14 = .ok (.iload_n 3, 1) := by decide +kernel
theorem dX6_task_15 : decode cX6_task 15 = .ok (.iconst 1, 1) := by decide +kernel
theorem dX6_task_16 : decode cX6_task 16 = .ok (.sipush 999, 3) := by decide +kernel
theorem dX6_task_19 : decode cX6_task 19 = .ok (.invokestatic 60, 3) := by decide +kernel
theorem dX6_task_22 : decode cX6_task 22 = .ok (.ifCond .ne 10, 3) := by decide +kernel
theorem dX6_task_25 : decode cX6_task 25 = .ok (.aload_n 0, 1) := by decide +kernel
theorem dX6_task_26 : decode cX6_task 26 = .ok (.ldc 64, 2) := by decide +kernel
theorem dX6_task_28 : decode cX6_task 28 = .ok (.invokevirtual 65, 3) := by decide +kernel
theorem dX6_task_31 : decode cX6_task 31 = .ok (.ireturn, 1) := by decide +kernel
theorem dX6_task_32 : decode cX6_task 32 = .ok (.aload_n 0, 1) := by decide +kernel
theorem dX6_task_33 : decode cX6_task 33 = .ok (.getfield 12, 3) := by decide +kernel
theorem dX6_task_36 : decode cX6_task 36 = .ok (.getfield 77, 3) := by decide +kernel
theorem dX6_task_39 : decode cX6_task 39 = .ok (.bipush 20, 2) := by decide +kernel
theorem dX6_task_41 : decode cX6_task 41 = .ok (.if_icmp .lt 12, 3) := by decide +kernel
theorem dX6_task_44 : decode cX6_task 44 = .ok (.aload_n 0, 1) := by decide +kernel
theorem dX6_task_45 : decode cX6_task 45 = .ok (.ldc 81, 2) := by decide +kernel
theorem dX6_task_47 : decode cX6_task 47 = .ok (.invokevirtual 65, 3) := by decide +kernel
theorem dX6_task_50 : decode cX6_task 50 = .ok (.goto 14, 3) := by decide +kernel
theorem dX6_task_53 : decode cX6_task 53 = .ok (.aload_n 0, 1) := by decide +kernel
theorem dX6_task_54 : decode cX6_task 54 = .ok (.getfield 12, 3) := by decide +kernel
theorem dX6_task_57 : decode cX6_task 57 = .ok (.iload_n 1, 1) := by decide +kernel
theorem dX6_task_58 : decode cX6_task 58 = .ok (.iload_n 2, 1) := by decide +kernel
theorem dX6_task_59 : decode cX6_task 59 = .ok (.iload_n 3, 1) := by decide +kernel
theorem dX6_task_60 : decode cX6_task 60 = .ok (.iconst (-1), 1) := by decide +kernel
theorem dX6_task_61 : decode cX6_task 61 = .ok (.invokevirtual 82, 3) := by decide +kernel
theorem dX6_task_64 : decode cX6_task 64 = .ok (.ireturn, 1) := by decide +kernel
theorem dX6_taskOf_0 : decode cX6_taskOf 0 = .ok (.aload_n 0, 1) := by decide +kernel
theorem dX6_taskOf_1 : decode cX6_taskOf 1 = .ok (.getfield 12, 3) := by decide +kernel
theorem dX6_taskOf_4 : decode cX6_taskOf 4 = .ok (.iload_n 1, 1) := by decide +kernel
theorem dX6_taskOf_5 : decode cX6_taskOf 5 = .ok (.invokevirtual 86, 3) := by decide +kernel
theorem dX6_taskOf_8 : decode cX6_taskOf 8 = .ok (.ifCond .ne 10, 3) := by decide +kernel
theorem dX6_taskOf_11 : decode cX6_taskOf 11 = .ok (.aload_n 0, 1) := by decide +kernel
theorem dX6_taskOf_12 : decode cX6_taskOf 12 = .ok (.ldc 64, 2) := by decide +kernel
theorem dX6_taskOf_14 : decode cX6_taskOf 14 = .ok (.invokevirtual 65, 3) := by decide +kernel
theorem dX6_taskOf_17 : decode cX6_taskOf 17 = .ok (.ireturn, 1) := by decide +kernel
theorem dX6_taskOf_18 : decode cX6_taskOf 18 = .ok (.iload_n 2, 1) := by decide +kernel
theorem dX6_taskOf_19 : decode cX6_taskOf 19 = .ok (.tableswitch 104 0 5 #[37, 47, 57, 67, 77, 86], 37) := by decide +kernel
theorem dX6_taskOf_56 : decode cX6_taskOf 56 = .ok (.aload_n 0, 1) := by decide +kernel
theorem dX6_taskOf_57 : decode cX6_taskOf 57 = .ok (.getfield 12, 3) := by decide +kernel
theorem dX6_taskOf_60 : decode cX6_taskOf 60 = .ok (.getfield 89, 3) := by decide +kernel
theorem dX6_taskOf_63 : decode cX6_taskOf 63 = .ok (.iload_n 1, 1) := by decide +kernel
theorem dX6_taskOf_64 : decode cX6_taskOf 64 = .ok (.iaload, 1) := by decide +kernel
theorem dX6_taskOf_65 : decode cX6_taskOf 65 = .ok (.ireturn, 1) := by decide +kernel
theorem dX6_taskOf_66 : decode cX6_taskOf 66 = .ok (.aload_n 0, 1) := by decide +kernel
theorem dX6_taskOf_67 : decode cX6_taskOf 67 = .ok (.getfield 12, 3) := by decide +kernel
theorem dX6_taskOf_70 : decode cX6_taskOf 70 = .ok (.getfield 92, 3) := by decide +kernel
theorem dX6_taskOf_73 : decode cX6_taskOf 73 = .ok (.iload_n 1, 1) := by decide +kernel
theorem dX6_taskOf_74 : decode cX6_taskOf 74 = .ok (.iaload, 1) := by decide +kernel
theorem dX6_taskOf_75 : decode cX6_taskOf 75 = .ok (.ireturn, 1) := by decide +kernel
theorem dX6_taskOf_76 : decode cX6_taskOf 76 = .ok (.aload_n 0, 1) := by decide +kernel
theorem dX6_taskOf_77 : decode cX6_taskOf 77 = .ok (.getfield 12, 3) := by decide +kernel
theorem dX6_taskOf_80 : decode cX6_taskOf 80 = .ok (.getfield 95, 3) := by decide +kernel
theorem dX6_taskOf_83 : decode cX6_taskOf 83 = .ok (.iload_n 1, 1) := by decide +kernel
theorem dX6_taskOf_84 : decode cX6_taskOf 84 = .ok (.iaload, 1) := by decide +kernel
theorem dX6_taskOf_85 : decode cX6_taskOf 85 = .ok (.ireturn, 1) := by decide +kernel
theorem dX6_taskOf_86 : decode cX6_taskOf 86 = .ok (.aload_n 0, 1) := by decide +kernel
theorem dX6_taskOf_87 : decode cX6_taskOf 87 = .ok (.getfield 12, 3) := by decide +kernel
theorem dX6_taskOf_90 : decode cX6_taskOf 90 = .ok (.getfield 98, 3) := by decide +kernel
theorem dX6_taskOf_93 : decode cX6_taskOf 93 = .ok (.iload_n 1, 1) := by decide +kernel
theorem dX6_taskOf_94 : decode cX6_taskOf 94 = .ok (.iaload, 1) := by decide +kernel
theorem dX6_taskOf_95 : decode cX6_taskOf 95 = .ok (.ireturn, 1) := by decide +kernel
theorem dX6_taskOf_96 : decode cX6_taskOf 96 = .ok (.aload_n 0, 1) := by decide +kernel
theorem dX6_taskOf_97 : decode cX6_taskOf 97 = .ok (.getfield 12, 3) := by decide +kernel
theorem dX6_taskOf_100 : decode cX6_taskOf 100 = .ok (.iload_n 1, 1) := by decide +kernel
theorem dX6_taskOf_101 : decode cX6_taskOf 101 = .ok (.invokevirtual 101, 3) := by decide +kernel
theorem dX6_taskOf_104 : decode cX6_taskOf 104 = .ok (.ireturn, 1) := by decide +kernel
theorem dX6_taskOf_105 : decode cX6_taskOf 105 = .ok (.aload_n 0, 1) := by decide +kernel
theorem dX6_taskOf_106 : decode cX6_taskOf 106 = .ok (.getfield 12, 3) := by decide +kernel
theorem dX6_taskOf_109 : decode cX6_taskOf 109 = .ok (.iload_n 1, 1) := by decide +kernel
theorem dX6_taskOf_110 : decode cX6_taskOf 110 = .ok (.iload_n 1, 1) := by decide +kernel
theorem dX6_taskOf_111 : decode cX6_taskOf 111 = .ok (.invokevirtual 104, 3) := by decide +kernel
theorem dX6_taskOf_114 : decode cX6_taskOf 114 = .ok (.ifCond .eq 7, 3) := by decide +kernel
theorem dX6_taskOf_117 : decode cX6_taskOf 117 = .ok (.iconst 1, 1) := by decide +kernel
theorem dX6_taskOf_118 : decode cX6_taskOf 118 = .ok (.goto 4, 3) := by decide +kernel
theorem dX6_taskOf_121 : decode cX6_taskOf 121 = .ok (.iconst 0, 1) := by decide +kernel
theorem dX6_taskOf_122 : decode cX6_taskOf 122 = .ok (.ireturn, 1) := by decide +kernel
theorem dX6_taskOf_123 : decode cX6_taskOf 123 = .ok (.aload_n 0, 1) := by decide +kernel
theorem dX6_taskOf_124 : decode cX6_taskOf 124 = .ok (.ldc 64, 2) := by decide +kernel
theorem dX6_taskOf_126 : decode cX6_taskOf 126 = .ok (.invokevirtual 65, 3) := by decide +kernel
theorem dX6_taskOf_129 : decode cX6_taskOf 129 = .ok (.ireturn, 1) := by decide +kernel
theorem dX6_turn_0 : decode cX6_turn 0 = .ok (.aload_n 0, 1) := by decide +kernel
theorem dX6_turn_1 : decode cX6_turn 1 = .ok (.getfield 12, 3) := by decide +kernel
theorem dX6_turn_4 : decode cX6_turn 4 = .ok (.iload_n 1, 1) := by decide +kernel
theorem dX6_turn_5 : decode cX6_turn 5 = .ok (.invokevirtual 86, 3) := by decide +kernel
theorem dX6_turn_8 : decode cX6_turn 8 = .ok (.ifCond .eq 10, 3) := by decide +kernel
theorem dX6_turn_11 : decode cX6_turn 11 = .ok (.iload_n 2, 1) := by decide +kernel
theorem dX6_turn_12 : decode cX6_turn 12 = .ok (.invokestatic 72, 3) := by decide +kernel
theorem dX6_turn_15 : decode cX6_turn 15 = .ok (.ifCond .ne 10, 3) := by decide +kernel
theorem dX6_turn_18 : decode cX6_turn 18 = .ok (.aload_n 0, 1) := by decide +kernel
theorem dX6_turn_19 : decode cX6_turn 19 = .ok (.ldc 64, 2) := by decide +kernel
theorem dX6_turn_21 : decode cX6_turn 21 = .ok (.invokevirtual 65, 3) := by decide +kernel
theorem dX6_turn_24 : decode cX6_turn 24 = .ok (.ireturn, 1) := by decide +kernel
theorem dX6_turn_25 : decode cX6_turn 25 = .ok (.aload_n 0, 1) := by decide +kernel
theorem dX6_turn_26 : decode cX6_turn 26 = .ok (.getfield 12, 3) := by decide +kernel
theorem dX6_turn_29 : decode cX6_turn 29 = .ok (.getfield 89, 3) := by decide +kernel
theorem dX6_turn_32 : decode cX6_turn 32 = .ok (.iload_n 1, 1) := by decide +kernel
theorem dX6_turn_33 : decode cX6_turn 33 = .ok (.iaload, 1) := by decide +kernel
theorem dX6_turn_34 : decode cX6_turn 34 = .ok (.istore_n 3, 1) := by decide +kernel
theorem dX6_turn_35 : decode cX6_turn 35 = .ok (.aload_n 0, 1) := by decide +kernel
theorem dX6_turn_36 : decode cX6_turn 36 = .ok (.getfield 12, 3) := by decide +kernel
theorem dX6_turn_39 : decode cX6_turn 39 = .ok (.getfield 89, 3) := by decide +kernel
theorem dX6_turn_42 : decode cX6_turn 42 = .ok (.iload_n 1, 1) := by decide +kernel
theorem dX6_turn_43 : decode cX6_turn 43 = .ok (.iload_n 2, 1) := by decide +kernel
theorem dX6_turn_44 : decode cX6_turn 44 = .ok (.iastore, 1) := by decide +kernel
theorem dX6_turn_45 : decode cX6_turn 45 = .ok (.iload_n 3, 1) := by decide +kernel
theorem dX6_turn_46 : decode cX6_turn 46 = .ok (.ireturn, 1) := by decide +kernel
theorem dX6_needs_0 : decode cX6_needs 0 = .ok (.aload_n 0, 1) := by decide +kernel
theorem dX6_needs_1 : decode cX6_needs 1 = .ok (.getfield 12, 3) := by decide +kernel
theorem dX6_needs_4 : decode cX6_needs 4 = .ok (.iload_n 1, 1) := by decide +kernel
theorem dX6_needs_5 : decode cX6_needs 5 = .ok (.invokevirtual 86, 3) := by decide +kernel
theorem dX6_needs_8 : decode cX6_needs 8 = .ok (.ifCond .eq 24, 3) := by decide +kernel
theorem dX6_needs_11 : decode cX6_needs 11 = .ok (.iload_n 2, 1) := by decide +kernel
theorem dX6_needs_12 : decode cX6_needs 12 = .ok (.iload_n 1, 1) := by decide +kernel
theorem dX6_needs_13 : decode cX6_needs 13 = .ok (.if_icmp .eq 19, 3) := by decide +kernel
theorem dX6_needs_16 : decode cX6_needs 16 = .ok (.iload_n 2, 1) := by decide +kernel
theorem dX6_needs_17 : decode cX6_needs 17 = .ok (.iconst (-1), 1) := by decide +kernel
theorem dX6_needs_18 : decode cX6_needs 18 = .ok (.if_icmp .eq 21, 3) := by decide +kernel
theorem dX6_needs_21 : decode cX6_needs 21 = .ok (.aload_n 0, 1) := by decide +kernel
theorem dX6_needs_22 : decode cX6_needs 22 = .ok (.getfield 12, 3) := by decide +kernel
theorem dX6_needs_25 : decode cX6_needs 25 = .ok (.iload_n 2, 1) := by decide +kernel
theorem dX6_needs_26 : decode cX6_needs 26 = .ok (.invokevirtual 86, 3) := by decide +kernel
theorem dX6_needs_29 : decode cX6_needs 29 = .ok (.ifCond .ne 10, 3) := by decide +kernel
theorem dX6_needs_32 : decode cX6_needs 32 = .ok (.aload_n 0, 1) := by decide +kernel
theorem dX6_needs_33 : decode cX6_needs 33 = .ok (.ldc 64, 2) := by decide +kernel
theorem dX6_needs_35 : decode cX6_needs 35 = .ok (.invokevirtual 65, 3) := by decide +kernel
theorem dX6_needs_38 : decode cX6_needs 38 = .ok (.ireturn, 1) := by decide +kernel
theorem dX6_needs_39 : decode cX6_needs 39 = .ok (.aload_n 0, 1) := by decide +kernel
theorem dX6_needs_40 : decode cX6_needs 40 = .ok (.getfield 12, 3) := by decide +kernel
theorem dX6_needs_43 : decode cX6_needs 43 = .ok (.getfield 98, 3) := by decide +kernel
theorem dX6_needs_46 : decode cX6_needs 46 = .ok (.iload_n 1, 1) := by decide +kernel
theorem dX6_needs_47 : decode cX6_needs 47 = .ok (.iaload, 1) := by decide +kernel
theorem dX6_needs_48 : decode cX6_needs 48 = .ok (.istore_n 3, 1) := by decide +kernel
theorem dX6_needs_49 : decode cX6_needs 49 = .ok (.aload_n 0, 1) := by decide +kernel
theorem dX6_needs_50 : decode cX6_needs 50 = .ok (.getfield 12, 3) := by decide +kernel
theorem dX6_needs_53 : decode cX6_needs 53 = .ok (.getfield 98, 3) := by decide +kernel
theorem dX6_needs_56 : decode cX6_needs 56 = .ok (.iload_n 1, 1) := by decide +kernel
theorem dX6_needs_57 : decode cX6_needs 57 = .ok (.iload_n 2, 1) := by decide +kernel
theorem dX6_needs_58 : decode cX6_needs 58 = .ok (.iastore, 1) := by decide +kernel
theorem dX6_needs_59 : decode cX6_needs 59 = .ok (.iload_n 3, 1) := by decide +kernel
theorem dX6_needs_60 : decode cX6_needs 60 = .ok (.ireturn, 1) := by decide +kernel
theorem dX6_strike_0 : decode cX6_strike 0 = .ok (.aload_n 0, 1) := by decide +kernel
theorem dX6_strike_1 : decode cX6_strike 1 = .ok (.getfield 12, 3) := by decide +kernel
theorem dX6_strike_4 : decode cX6_strike 4 = .ok (.iload_n 1, 1) := by decide +kernel
theorem dX6_strike_5 : decode cX6_strike 5 = .ok (.invokevirtual 86, 3) := by decide +kernel
theorem dX6_strike_8 : decode cX6_strike 8 = .ok (.ifCond .ne 10, 3) := by decide +kernel
theorem dX6_strike_11 : decode cX6_strike 11 = .ok (.aload_n 0, 1) := by decide +kernel
theorem dX6_strike_12 : decode cX6_strike 12 = .ok (.ldc 64, 2) := by decide +kernel
theorem dX6_strike_14 : decode cX6_strike 14 = .ok (.invokevirtual 65, 3) := by decide +kernel
theorem dX6_strike_17 : decode cX6_strike 17 = .ok (.ireturn, 1) := by decide +kernel
theorem dX6_strike_18 : decode cX6_strike 18 = .ok (.aload_n 0, 1) := by decide +kernel
theorem dX6_strike_19 : decode cX6_strike 19 = .ok (.getfield 12, 3) := by decide +kernel
theorem dX6_strike_22 : decode cX6_strike 22 = .ok (.getfield 95, 3) := by decide +kernel
theorem dX6_strike_25 : decode cX6_strike 25 = .ok (.iload_n 1, 1) := by decide +kernel
theorem dX6_strike_26 : decode cX6_strike 26 = .ok (.iaload, 1) := by decide +kernel
theorem dX6_strike_27 : decode cX6_strike 27 = .ok (.istore_n 2, 1) := by decide +kernel
theorem dX6_strike_28 : decode cX6_strike 28 = .ok (.aload_n 0, 1) := by decide +kernel
theorem dX6_strike_29 : decode cX6_strike 29 = .ok (.getfield 12, 3) := by decide +kernel
theorem dX6_strike_32 : decode cX6_strike 32 = .ok (.getfield 95, 3) := by decide +kernel
theorem dX6_strike_35 : decode cX6_strike 35 = .ok (.iload_n 1, 1) := by decide +kernel
theorem dX6_strike_36 : decode cX6_strike 36 = .ok (.iconst 0, 1) := by decide +kernel
theorem dX6_strike_37 : decode cX6_strike 37 = .ok (.iastore, 1) := by decide +kernel
theorem dX6_strike_38 : decode cX6_strike 38 = .ok (.iload_n 2, 1) := by decide +kernel
theorem dX6_strike_39 : decode cX6_strike 39 = .ok (.ireturn, 1) := by decide +kernel
theorem dX6_nameOf_0 : decode cX6_nameOf 0 = .ok (.iload_n 1, 1) := by decide +kernel
theorem dX6_nameOf_1 : decode cX6_nameOf 1 = .ok (.invokestatic 56, 3) := by decide +kernel
theorem dX6_nameOf_4 : decode cX6_nameOf 4 = .ok (.ifCond .ne 10, 3) := by decide +kernel
theorem dX6_nameOf_7 : decode cX6_nameOf 7 = .ok (.aload_n 0, 1) := by decide +kernel
theorem dX6_nameOf_8 : decode cX6_nameOf 8 = .ok (.ldc 64, 2) := by decide +kernel
theorem dX6_nameOf_10 : decode cX6_nameOf 10 = .ok (.invokevirtual 65, 3) := by decide +kernel
theorem dX6_nameOf_13 : decode cX6_nameOf 13 = .ok (.ireturn, 1) := by decide +kernel
theorem dX6_nameOf_14 : decode cX6_nameOf 14 = .ok (.iload_n 2, 1) := by decide +kernel
theorem dX6_nameOf_15 : decode cX6_nameOf 15 = .ok (.tableswitch 114 0 6 #[41, 51, 68, 77, 86, 95, 104], 41) := by decide +kernel
theorem dX6_nameOf_56 : decode cX6_nameOf 56 = .ok (.aload_n 0, 1) := by decide +kernel
theorem dX6_nameOf_57 : decode cX6_nameOf 57 = .ok (.getfield 12, 3) := by decide +kernel
theorem dX6_nameOf_60 : decode cX6_nameOf 60 = .ok (.getfield 69, 3) := by decide +kernel
theorem dX6_nameOf_63 : decode cX6_nameOf 63 = .ok (.iload_n 1, 1) := by decide +kernel
theorem dX6_nameOf_64 : decode cX6_nameOf 64 = .ok (.iaload, 1) := by decide +kernel
theorem dX6_nameOf_65 : decode cX6_nameOf 65 = .ok (.ireturn, 1) := by decide +kernel
theorem dX6_nameOf_66 : decode cX6_nameOf 66 = .ok (.aload_n 0, 1) := by decide +kernel
theorem dX6_nameOf_67 : decode cX6_nameOf 67 = .ok (.getfield 12, 3) := by decide +kernel
theorem dX6_nameOf_70 : decode cX6_nameOf 70 = .ok (.iload_n 1, 1) := by decide +kernel
theorem dX6_nameOf_71 : decode cX6_nameOf 71 = .ok (.invokevirtual 108, 3) := by decide +kernel
theorem dX6_nameOf_74 : decode cX6_nameOf 74 = .ok (.ifCond .eq 7, 3) := by decide +kernel
theorem dX6_nameOf_77 : decode cX6_nameOf 77 = .ok (.iconst 1, 1) := by decide +kernel
theorem dX6_nameOf_78 : decode cX6_nameOf 78 = .ok (.goto 4, 3) := by decide +kernel
theorem dX6_nameOf_81 : decode cX6_nameOf 81 = .ok (.iconst 0, 1) := by decide +kernel
theorem dX6_nameOf_82 : decode cX6_nameOf 82 = .ok (.ireturn, 1) := by decide +kernel
theorem dX6_nameOf_83 : decode cX6_nameOf 83 = .ok (.aload_n 0, 1) := by decide +kernel
theorem dX6_nameOf_84 : decode cX6_nameOf 84 = .ok (.getfield 12, 3) := by decide +kernel
theorem dX6_nameOf_87 : decode cX6_nameOf 87 = .ok (.iload_n 1, 1) := by decide +kernel
theorem dX6_nameOf_88 : decode cX6_nameOf 88 = .ok (.invokevirtual 111, 3) := by decide +kernel
theorem dX6_nameOf_91 : decode cX6_nameOf 91 = .ok (.ireturn, 1) := by decide +kernel
theorem dX6_nameOf_92 : decode cX6_nameOf 92 = .ok (.aload_n 0, 1) := by decide +kernel
theorem dX6_nameOf_93 : decode cX6_nameOf 93 = .ok (.getfield 12, 3) := by decide +kernel
theorem dX6_nameOf_96 : decode cX6_nameOf 96 = .ok (.iload_n 1, 1) := by decide +kernel
theorem dX6_nameOf_97 : decode cX6_nameOf 97 = .ok (.invokevirtual 114, 3) := by decide +kernel
theorem dX6_nameOf_100 : decode cX6_nameOf 100 = .ok (.ireturn, 1) := by decide +kernel
theorem dX6_nameOf_101 : decode cX6_nameOf 101 = .ok (.aload_n 0, 1) := by decide +kernel
theorem dX6_nameOf_102 : decode cX6_nameOf 102 = .ok (.getfield 12, 3) := by decide +kernel
theorem dX6_nameOf_105 : decode cX6_nameOf 105 = .ok (.iload_n 1, 1) := by decide +kernel
theorem dX6_nameOf_106 : decode cX6_nameOf 106 = .ok (.invokevirtual 117, 3) := by decide +kernel
theorem dX6_nameOf_109 : decode cX6_nameOf 109 = .ok (.ireturn, 1) := by decide +kernel
theorem dX6_nameOf_110 : decode cX6_nameOf 110 = .ok (.aload_n 0, 1) := by decide +kernel
theorem dX6_nameOf_111 : decode cX6_nameOf 111 = .ok (.getfield 12, 3) := by decide +kernel
theorem dX6_nameOf_114 : decode cX6_nameOf 114 = .ok (.iload_n 1, 1) := by decide +kernel
theorem dX6_nameOf_115 : decode cX6_nameOf 115 = .ok (.invokevirtual 120, 3) := by decide +kernel
theorem dX6_nameOf_118 : decode cX6_nameOf 118 = .ok (.ireturn, 1) := by decide +kernel
theorem dX6_nameOf_119 : decode cX6_nameOf 119 = .ok (.aload_n 0, 1) := by decide +kernel
theorem dX6_nameOf_120 : decode cX6_nameOf 120 = .ok (.getfield 12, 3) := by decide +kernel
theorem dX6_nameOf_123 : decode cX6_nameOf 123 = .ok (.getfield 123, 3) := by decide +kernel
theorem dX6_nameOf_126 : decode cX6_nameOf 126 = .ok (.iload_n 1, 1) := by decide +kernel
theorem dX6_nameOf_127 : decode cX6_nameOf 127 = .ok (.iaload, 1) := by decide +kernel
theorem dX6_nameOf_128 : decode cX6_nameOf 128 = .ok (.ireturn, 1) := by decide +kernel
theorem dX6_nameOf_129 : decode cX6_nameOf 129 = .ok (.aload_n 0, 1) := by decide +kernel
theorem dX6_nameOf_130 : decode cX6_nameOf 130 = .ok (.ldc 64, 2) := by decide +kernel
theorem dX6_nameOf_132 : decode cX6_nameOf 132 = .ok (.invokevirtual 65, 3) := by decide +kernel
theorem dX6_nameOf_135 : decode cX6_nameOf 135 = .ok (.ireturn, 1) := by decide +kernel
theorem dX6_rings_0 : decode cX6_rings 0 = .ok (.iconst 0, 1) := by decide +kernel
theorem dX6_rings_1 : decode cX6_rings 1 = .ok (.istore_n 1, 1) := by decide +kernel
theorem dX6_rings_2 : decode cX6_rings 2 = .ok (.iconst 0, 1) := by decide +kernel
theorem dX6_rings_3 : decode cX6_rings 3 = .ok (.istore_n 2, 1) := by decide +kernel
theorem dX6_rings_4 : decode cX6_rings 4 = .ok (.iload_n 2, 1) := by decide +kernel
theorem dX6_rings_5 : decode cX6_rings 5 = .ok (.aload_n 0, 1) := by decide +kernel
theorem dX6_rings_6 : decode cX6_rings 6 = .ok (.getfield 12, 3) := by decide +kernel
theorem dX6_rings_9 : decode cX6_rings 9 = .ok (.getfield 77, 3) := by decide +kernel
theorem dX6_rings_12 : decode cX6_rings 12 = .ok (.if_icmp .ge 27, 3) := by decide +kernel
theorem dX6_rings_15 : decode cX6_rings 15 = .ok (.aload_n 0, 1) := by decide +kernel
theorem dX6_rings_16 : decode cX6_rings 16 = .ok (.getfield 12, 3) := by decide +kernel
theorem dX6_rings_19 : decode cX6_rings 19 = .ok (.iload_n 2, 1) := by decide +kernel
theorem dX6_rings_20 : decode cX6_rings 20 = .ok (.iload_n 2, 1) := by decide +kernel
theorem dX6_rings_21 : decode cX6_rings 21 = .ok (.invokevirtual 104, 3) := by decide +kernel
theorem dX6_rings_24 : decode cX6_rings 24 = .ok (.ifCond .eq 9, 3) := by decide +kernel
theorem dX6_rings_27 : decode cX6_rings 27 = .ok (.iload_n 1, 1) := by decide +kernel
theorem dX6_rings_28 : decode cX6_rings 28 = .ok (.iconst 1, 1) := by decide +kernel
theorem dX6_rings_29 : decode cX6_rings 29 = .ok (.iload_n 2, 1) := by decide +kernel
theorem dX6_rings_30 : decode cX6_rings 30 = .ok (.ishl, 1) := by decide +kernel
theorem dX6_rings_31 : decode cX6_rings 31 = .ok (.ior, 1) := by decide +kernel
theorem dX6_rings_32 : decode cX6_rings 32 = .ok (.istore_n 1, 1) := by decide +kernel
theorem dX6_rings_33 : decode cX6_rings 33 = .ok (.iinc 2 1, 3) := by decide +kernel
theorem dX6_rings_36 : decode cX6_rings 36 = .ok (.goto (-32), 3) := by decide +kernel
theorem dX6_rings_39 : decode cX6_rings 39 = .ok (.iload_n 1, 1) := by decide +kernel
theorem dX6_rings_40 : decode cX6_rings 40 = .ok (.ireturn, 1) := by decide +kernel
theorem dX6_waits_0 : decode cX6_waits 0 = .ok (.aload_n 0, 1) := by decide +kernel
theorem dX6_waits_1 : decode cX6_waits 1 = .ok (.getfield 12, 3) := by decide +kernel
theorem dX6_waits_4 : decode cX6_waits 4 = .ok (.iload_n 1, 1) := by decide +kernel
theorem dX6_waits_5 : decode cX6_waits 5 = .ok (.invokevirtual 86, 3) := by decide +kernel
theorem dX6_waits_8 : decode cX6_waits 8 = .ok (.ifCond .ne 10, 3) := by decide +kernel
theorem dX6_waits_11 : decode cX6_waits 11 = .ok (.aload_n 0, 1) := by decide +kernel
theorem dX6_waits_12 : decode cX6_waits 12 = .ok (.ldc 64, 2) := by decide +kernel
theorem dX6_waits_14 : decode cX6_waits 14 = .ok (.invokevirtual 65, 3) := by decide +kernel
theorem dX6_waits_17 : decode cX6_waits 17 = .ok (.ireturn, 1) := by decide +kernel
theorem dX6_waits_18 : decode cX6_waits 18 = .ok (.iconst 0, 1) := by decide +kernel
theorem dX6_waits_19 : decode cX6_waits 19 = .ok (.istore_n 2, 1) := by decide +kernel
theorem dX6_waits_20 : decode cX6_waits 20 = .ok (.iconst 0, 1) := by decide +kernel
theorem dX6_waits_21 : decode cX6_waits 21 = .ok (.istore_n 3, 1) := by decide +kernel
theorem dX6_waits_22 : decode cX6_waits 22 = .ok (.iload_n 3, 1) := by decide +kernel
theorem dX6_waits_23 : decode cX6_waits 23 = .ok (.aload_n 0, 1) := by decide +kernel
theorem dX6_waits_24 : decode cX6_waits 24 = .ok (.getfield 12, 3) := by decide +kernel
theorem dX6_waits_27 : decode cX6_waits 27 = .ok (.getfield 77, 3) := by decide +kernel
theorem dX6_waits_30 : decode cX6_waits 30 = .ok (.if_icmp .ge 27, 3) := by decide +kernel
theorem dX6_waits_33 : decode cX6_waits 33 = .ok (.aload_n 0, 1) := by decide +kernel
theorem dX6_waits_34 : decode cX6_waits 34 = .ok (.getfield 12, 3) := by decide +kernel
theorem dX6_waits_37 : decode cX6_waits 37 = .ok (.iload_n 3, 1) := by decide +kernel
theorem dX6_waits_38 : decode cX6_waits 38 = .ok (.iload_n 1, 1) := by decide +kernel
theorem dX6_waits_39 : decode cX6_waits 39 = .ok (.invokevirtual 104, 3) := by decide +kernel
theorem dX6_waits_42 : decode cX6_waits 42 = .ok (.ifCond .eq 9, 3) := by decide +kernel
theorem dX6_waits_45 : decode cX6_waits 45 = .ok (.iload_n 2, 1) := by decide +kernel
theorem dX6_waits_46 : decode cX6_waits 46 = .ok (.iconst 1, 1) := by decide +kernel
theorem dX6_waits_47 : decode cX6_waits 47 = .ok (.iload_n 3, 1) := by decide +kernel
theorem dX6_waits_48 : decode cX6_waits 48 = .ok (.ishl, 1) := by decide +kernel
theorem dX6_waits_49 : decode cX6_waits 49 = .ok (.ior, 1) := by decide +kernel
theorem dX6_waits_50 : decode cX6_waits 50 = .ok (.istore_n 2, 1) := by decide +kernel
theorem dX6_waits_51 : decode cX6_waits 51 = .ok (.iinc 3 1, 3) := by decide +kernel
theorem dX6_waits_54 : decode cX6_waits 54 = .ok (.goto (-32), 3) := by decide +kernel
theorem dX6_waits_57 : decode cX6_waits 57 = .ok (.iload_n 2, 1) := by decide +kernel
theorem dX6_waits_58 : decode cX6_waits 58 = .ok (.ireturn, 1) := by decide +kernel
theorem dX6_person_0 : decode cX6_person 0 = .ok (.iload_n 1, 1) := by decide +kernel
theorem dX6_person_1 : decode cX6_person 1 = .ok (.iconst 1, 1) := by decide +kernel
theorem dX6_person_2 : decode cX6_person 2 = .ok (.bipush 9, 2) := by decide +kernel
theorem dX6_person_4 : decode cX6_person 4 = .ok (.invokestatic 60, 3) := by decide +kernel
theorem dX6_person_7 : decode cX6_person 7 = .ok (.ifCond .ne 10, 3) := by decide +kernel
theorem dX6_person_10 : decode cX6_person 10 = .ok (.aload_n 0, 1) := by decide +kernel
theorem dX6_person_11 : decode cX6_person 11 = .ok (.ldc 64, 2) := by decide +kernel
theorem dX6_person_13 : decode cX6_person 13 = .ok (.invokevirtual 65, 3) := by decide +kernel
theorem dX6_person_16 : decode cX6_person 16 = .ok (.ireturn, 1) := by decide +kernel
theorem dX6_person_17 : decode cX6_person 17 = .ok (.aload_n 0, 1) := by decide +kernel
theorem dX6_person_18 : decode cX6_person 18 = .ok (.getfield 12, 3) := by decide +kernel
theorem dX6_person_21 : decode cX6_person 21 = .ok (.getfield 126, 3) := by decide +kernel
theorem dX6_person_24 : decode cX6_person 24 = .ok (.bipush 8, 2) := by decide +kernel
theorem dX6_person_26 : decode cX6_person 26 = .ok (.if_icmp .lt 12, 3) := by decide +kernel
theorem dX6_person_29 : decode cX6_person 29 = .ok (.aload_n 0, 1) := by decide +kernel
theorem dX6_person_30 : decode cX6_person 30 = .ok (.ldc 81, 2) := by decide +kernel
theorem dX6_person_32 : decode cX6_person 32 = .ok (.invokevirtual 65, 3) := by decide +kernel
theorem dX6_person_35 : decode cX6_person 35 = .ok (.goto 13, 3) := by decide +kernel
theorem dX6_person_38 : decode cX6_person 38 = .ok (.aload_n 0, 1) := by decide +kernel
theorem dX6_person_39 : decode cX6_person 39 = .ok (.getfield 12, 3) := by decide +kernel
theorem dX6_person_42 : decode cX6_person 42 = .ok (.iload_n 1, 1) := by decide +kernel
theorem dX6_person_43 : decode cX6_person 43 = .ok (.iconst 0, 1) := by decide +kernel
theorem dX6_person_44 : decode cX6_person 44 = .ok (.iconst (-1), 1) := by decide +kernel
theorem dX6_person_45 : decode cX6_person 45 = .ok (.invokevirtual 129, 3) := by decide +kernel
theorem dX6_person_48 : decode cX6_person 48 = .ok (.ireturn, 1) := by decide +kernel
theorem dX6_of_0 : decode cX6_of 0 = .ok (.aload_n 0, 1) := by decide +kernel
theorem dX6_of_1 : decode cX6_of 1 = .ok (.getfield 12, 3) := by decide +kernel
theorem dX6_of_4 : decode cX6_of 4 = .ok (.iload_n 1, 1) := by decide +kernel
theorem dX6_of_5 : decode cX6_of 5 = .ok (.invokevirtual 133, 3) := by decide +kernel
theorem dX6_of_8 : decode cX6_of 8 = .ok (.ifCond .ne 10, 3) := by decide +kernel
theorem dX6_of_11 : decode cX6_of 11 = .ok (.aload_n 0, 1) := by decide +kernel
theorem dX6_of_12 : decode cX6_of 12 = .ok (.ldc 64, 2) := by decide +kernel
theorem dX6_of_14 : decode cX6_of 14 = .ok (.invokevirtual 65, 3) := by decide +kernel
theorem dX6_of_17 : decode cX6_of 17 = .ok (.ireturn, 1) := by decide +kernel
theorem dX6_of_18 : decode cX6_of 18 = .ok (.iload_n 2, 1) := by decide +kernel
theorem dX6_of_19 : decode cX6_of 19 = .ok (.tableswitch 69 0 3 #[29, 39, 49, 59], 29) := by decide +kernel
theorem dX6_of_48 : decode cX6_of 48 = .ok (.aload_n 0, 1) := by decide +kernel
theorem dX6_of_49 : decode cX6_of 49 = .ok (.getfield 12, 3) := by decide +kernel
theorem dX6_of_52 : decode cX6_of 52 = .ok (.getfield 136, 3) := by decide +kernel
theorem dX6_of_55 : decode cX6_of 55 = .ok (.iload_n 1, 1) := by decide +kernel
theorem dX6_of_56 : decode cX6_of 56 = .ok (.iaload, 1) := by decide +kernel
theorem dX6_of_57 : decode cX6_of 57 = .ok (.ireturn, 1) := by decide +kernel
theorem dX6_of_58 : decode cX6_of 58 = .ok (.aload_n 0, 1) := by decide +kernel
theorem dX6_of_59 : decode cX6_of 59 = .ok (.getfield 12, 3) := by decide +kernel
theorem dX6_of_62 : decode cX6_of 62 = .ok (.getfield 139, 3) := by decide +kernel
theorem dX6_of_65 : decode cX6_of 65 = .ok (.iload_n 1, 1) := by decide +kernel
theorem dX6_of_66 : decode cX6_of 66 = .ok (.iaload, 1) := by decide +kernel
theorem dX6_of_67 : decode cX6_of 67 = .ok (.ireturn, 1) := by decide +kernel
theorem dX6_of_68 : decode cX6_of 68 = .ok (.aload_n 0, 1) := by decide +kernel
theorem dX6_of_69 : decode cX6_of 69 = .ok (.getfield 12, 3) := by decide +kernel
theorem dX6_of_72 : decode cX6_of 72 = .ok (.getfield 142, 3) := by decide +kernel
theorem dX6_of_75 : decode cX6_of 75 = .ok (.iload_n 1, 1) := by decide +kernel
theorem dX6_of_76 : decode cX6_of 76 = .ok (.iaload, 1) := by decide +kernel
theorem dX6_of_77 : decode cX6_of 77 = .ok (.ireturn, 1) := by decide +kernel
theorem dX6_of_78 : decode cX6_of 78 = .ok (.aload_n 0, 1) := by decide +kernel
theorem dX6_of_79 : decode cX6_of 79 = .ok (.getfield 12, 3) := by decide +kernel
theorem dX6_of_82 : decode cX6_of 82 = .ok (.getfield 145, 3) := by decide +kernel
theorem dX6_of_85 : decode cX6_of 85 = .ok (.iload_n 1, 1) := by decide +kernel
theorem dX6_of_86 : decode cX6_of 86 = .ok (.iaload, 1) := by decide +kernel
theorem dX6_of_87 : decode cX6_of 87 = .ok (.ireturn, 1) := by decide +kernel
theorem dX6_of_88 : decode cX6_of 88 = .ok (.aload_n 0, 1) := by decide +kernel
theorem dX6_of_89 : decode cX6_of 89 = .ok (.ldc 64, 2) := by decide +kernel
theorem dX6_of_91 : decode cX6_of 91 = .ok (.invokevirtual 65, 3) := by decide +kernel
theorem dX6_of_94 : decode cX6_of 94 = .ok (.ireturn, 1) := by decide +kernel
theorem dX6_change_0 : decode cX6_change 0 = .ok (.aload_n 0, 1) := by decide +kernel
theorem dX6_change_1 : decode cX6_change 1 = .ok (.getfield 12, 3) := by decide +kernel
theorem dX6_change_4 : decode cX6_change 4 = .ok (.iload_n 1, 1) := by decide +kernel
theorem dX6_change_5 : decode cX6_change 5 = .ok (.invokevirtual 133, 3) := by decide +kernel
theorem dX6_change_8 : decode cX6_change 8 = .ok (.ifCond .ne 10, 3) := by decide +kernel
theorem dX6_change_11 : decode cX6_change 11 = .ok (.aload_n 0, 1) := by decide +kernel
theorem dX6_change_12 : decode cX6_change 12 = .ok (.ldc 64, 2) := by decide +kernel
theorem dX6_change_14 : decode cX6_change 14 = .ok (.invokevirtual 65, 3) := by decide +kernel
theorem dX6_change_17 : decode cX6_change 17 = .ok (.ireturn, 1) := by decide +kernel
theorem dX6_change_18 : decode cX6_change 18 = .ok (.iload_n 2, 1) := by decide +kernel
theorem dX6_change_19 : decode cX6_change 19 = .ok (.iconst 2, 1) := by decide +kernel
theorem dX6_change_20 : decode cX6_change 20 = .ok (.if_icmp .ne 37, 3) := by decide +kernel
theorem dX6_change_23 : decode cX6_change 23 = .ok (.iload_n 3, 1) := by decide +kernel
theorem dX6_change_24 : decode cX6_change 24 = .ok (.iconst 1, 1) := by decide +kernel
theorem dX6_change_25 : decode cX6_change 25 = .ok (.bipush 9, 2) := by decide +kernel
theorem dX6_change_27 : decode cX6_change 27 = .ok (.invokestatic 60, 3) := by decide +kernel
theorem dX6_change_30 : decode cX6_change 30 = .ok (.ifCond .eq 27, 3) := by decide +kernel
theorem dX6_change_33 : decode cX6_change 33 = .ok (.aload_n 0, 1) := by decide +kernel
theorem dX6_change_34 : decode cX6_change 34 = .ok (.getfield 12, 3) := by decide +kernel
theorem dX6_change_37 : decode cX6_change 37 = .ok (.getfield 142, 3) := by decide +kernel
theorem dX6_change_40 : decode cX6_change 40 = .ok (.iload_n 1, 1) := by decide +kernel
theorem dX6_change_41 : decode cX6_change 41 = .ok (.iaload, 1) := by decide +kernel
theorem dX6_change_42 : decode cX6_change 42 = .ok (.istore 4, 2) := by decide +kernel
theorem dX6_change_44 : decode cX6_change 44 = .ok (.aload_n 0, 1) := by decide +kernel
theorem dX6_change_45 : decode cX6_change 45 = .ok (.getfield 12, 3) := by decide +kernel
theorem dX6_change_48 : decode cX6_change 48 = .ok (.getfield 142, 3) := by decide +kernel
theorem dX6_change_51 : decode cX6_change 51 = .ok (.iload_n 1, 1) := by decide +kernel
theorem dX6_change_52 : decode cX6_change 52 = .ok (.iload_n 3, 1) := by decide +kernel
theorem dX6_change_53 : decode cX6_change 53 = .ok (.iastore, 1) := by decide +kernel
theorem dX6_change_54 : decode cX6_change 54 = .ok (.iload 4, 2) := by decide +kernel
theorem dX6_change_56 : decode cX6_change 56 = .ok (.ireturn, 1) := by decide +kernel
theorem dX6_change_57 : decode cX6_change 57 = .ok (.iload_n 2, 1) := by decide +kernel
theorem dX6_change_58 : decode cX6_change 58 = .ok (.iconst 1, 1) := by decide +kernel
theorem dX6_change_59 : decode cX6_change 59 = .ok (.if_icmp .ne 37, 3) := by decide +kernel
theorem dX6_change_62 : decode cX6_change 62 = .ok (.iload_n 3, 1) := by decide +kernel
theorem dX6_change_63 : decode cX6_change 63 = .ok (.iconst 0, 1) := by decide +kernel
theorem dX6_change_64 : decode cX6_change 64 = .ok (.bipush 39, 2) := by decide +kernel
theorem dX6_change_66 : decode cX6_change 66 = .ok (.invokestatic 60, 3) := by decide +kernel
theorem dX6_change_69 : decode cX6_change 69 = .ok (.ifCond .eq 27, 3) := by decide +kernel
theorem dX6_change_72 : decode cX6_change 72 = .ok (.aload_n 0, 1) := by decide +kernel
theorem dX6_change_73 : decode cX6_change 73 = .ok (.getfield 12, 3) := by decide +kernel
theorem dX6_change_76 : decode cX6_change 76 = .ok (.getfield 139, 3) := by decide +kernel
theorem dX6_change_79 : decode cX6_change 79 = .ok (.iload_n 1, 1) := by decide +kernel
theorem dX6_change_80 : decode cX6_change 80 = .ok (.iaload, 1) := by decide +kernel
theorem dX6_change_81 : decode cX6_change 81 = .ok (.istore 4, 2) := by decide +kernel
theorem dX6_change_83 : decode cX6_change 83 = .ok (.aload_n 0, 1) := by decide +kernel
theorem dX6_change_84 : decode cX6_change 84 = .ok (.getfield 12, 3) := by decide +kernel
theorem dX6_change_87 : decode cX6_change 87 = .ok (.getfield 139, 3) := by decide +kernel
theorem dX6_change_90 : decode cX6_change 90 = .ok (.iload_n 1, 1) := by decide +kernel
theorem dX6_change_91 : decode cX6_change 91 = .ok (.iload_n 3, 1) := by decide +kernel
theorem dX6_change_92 : decode cX6_change 92 = .ok (.iastore, 1) := by decide +kernel
theorem dX6_change_93 : decode cX6_change 93 = .ok (.iload 4, 2) := by decide +kernel
theorem dX6_change_95 : decode cX6_change 95 = .ok (.ireturn, 1) := by decide +kernel
theorem dX6_change_96 : decode cX6_change 96 = .ok (.aload_n 0, 1) := by decide +kernel
theorem dX6_change_97 : decode cX6_change 97 = .ok (.ldc 64, 2) := by decide +kernel
theorem dX6_change_99 : decode cX6_change 99 = .ok (.invokevirtual 65, 3) := by decide +kernel
theorem dX6_change_102 : decode cX6_change 102 = .ok (.ireturn, 1) := by decide +kernel
theorem dX6_helps_0 : decode cX6_helps 0 = .ok (.aload_n 0, 1) := by decide +kernel
theorem dX6_helps_1 : decode cX6_helps 1 = .ok (.getfield 12, 3) := by decide +kernel
theorem dX6_helps_4 : decode cX6_helps 4 = .ok (.iload_n 1, 1) := by decide +kernel
theorem dX6_helps_5 : decode cX6_helps 5 = .ok (.invokevirtual 133, 3) := by decide +kernel
theorem dX6_helps_8 : decode cX6_helps 8 = .ok (.ifCond .eq 24, 3) := by decide +kernel
theorem dX6_helps_11 : decode cX6_helps 11 = .ok (.iload_n 2, 1) := by decide +kernel
theorem dX6_helps_12 : decode cX6_helps 12 = .ok (.iload_n 1, 1) := by decide +kernel
theorem dX6_helps_13 : decode cX6_helps 13 = .ok (.if_icmp .eq 19, 3) := by decide +kernel
theorem dX6_helps_16 : decode cX6_helps 16 = .ok (.iload_n 2, 1) := by decide +kernel
theorem dX6_helps_17 : decode cX6_helps 17 = .ok (.iconst (-1), 1) := by decide +kernel
theorem dX6_helps_18 : decode cX6_helps 18 = .ok (.if_icmp .eq 21, 3) := by decide +kernel
theorem dX6_helps_21 : decode cX6_helps 21 = .ok (.aload_n 0, 1) := by decide +kernel
theorem dX6_helps_22 : decode cX6_helps 22 = .ok (.getfield 12, 3) := by decide +kernel
theorem dX6_helps_25 : decode cX6_helps 25 = .ok (.iload_n 2, 1) := by decide +kernel
theorem dX6_helps_26 : decode cX6_helps 26 = .ok (.invokevirtual 133, 3) := by decide +kernel
theorem dX6_helps_29 : decode cX6_helps 29 = .ok (.ifCond .ne 10, 3) := by decide +kernel
theorem dX6_helps_32 : decode cX6_helps 32 = .ok (.aload_n 0, 1) := by decide +kernel
theorem dX6_helps_33 : decode cX6_helps 33 = .ok (.ldc 64, 2) := by decide +kernel
theorem dX6_helps_35 : decode cX6_helps 35 = .ok (.invokevirtual 65, 3) := by decide +kernel
theorem dX6_helps_38 : decode cX6_helps 38 = .ok (.ireturn, 1) := by decide +kernel
theorem dX6_helps_39 : decode cX6_helps 39 = .ok (.aload_n 0, 1) := by decide +kernel
theorem dX6_helps_40 : decode cX6_helps 40 = .ok (.getfield 12, 3) := by decide +kernel
theorem dX6_helps_43 : decode cX6_helps 43 = .ok (.getfield 145, 3) := by decide +kernel
theorem dX6_helps_46 : decode cX6_helps 46 = .ok (.iload_n 1, 1) := by decide +kernel
theorem dX6_helps_47 : decode cX6_helps 47 = .ok (.iaload, 1) := by decide +kernel
theorem dX6_helps_48 : decode cX6_helps 48 = .ok (.istore_n 3, 1) := by decide +kernel
theorem dX6_helps_49 : decode cX6_helps 49 = .ok (.aload_n 0, 1) := by decide +kernel
theorem dX6_helps_50 : decode cX6_helps 50 = .ok (.getfield 12, 3) := by decide +kernel
theorem dX6_helps_53 : decode cX6_helps 53 = .ok (.getfield 145, 3) := by decide +kernel
theorem dX6_helps_56 : decode cX6_helps 56 = .ok (.iload_n 1, 1) := by decide +kernel
theorem dX6_helps_57 : decode cX6_helps 57 = .ok (.iload_n 2, 1) := by decide +kernel
theorem dX6_helps_58 : decode cX6_helps 58 = .ok (.iastore, 1) := by decide +kernel
theorem dX6_helps_59 : decode cX6_helps 59 = .ok (.iload_n 3, 1) := by decide +kernel
theorem dX6_helps_60 : decode cX6_helps 60 = .ok (.ireturn, 1) := by decide +kernel
theorem dX6_take_0 : decode cX6_take 0 = .ok (.aload_n 0, 1) := by decide +kernel
theorem dX6_take_1 : decode cX6_take 1 = .ok (.getfield 12, 3) := by decide +kernel
theorem dX6_take_4 : decode cX6_take 4 = .ok (.iload_n 1, 1) := by decide +kernel
theorem dX6_take_5 : decode cX6_take 5 = .ok (.invokevirtual 133, 3) := by decide +kernel
theorem dX6_take_8 : decode cX6_take 8 = .ok (.ifCond .eq 15, 3) := by decide +kernel
theorem dX6_take_11 : decode cX6_take 11 = .ok (.iload_n 2, 1) := by decide +kernel
theorem dX6_take_12 : decode cX6_take 12 = .ok (.iconst (-1), 1) := by decide +kernel
theorem dX6_take_13 : decode cX6_take 13 = .ok (.if_icmp .eq 17, 3) := by decide +kernel
theorem dX6_take_16 : decode cX6_take 16 = .ok (.iload_n 2, 1) := by decide +kernel
theorem dX6_take_17 : decode cX6_take 17 = .ok (.invokestatic 56, 3) := by decide +kernel
theorem dX6_take_20 : decode cX6_take 20 = .ok (.ifCond .ne 10, 3) := by decide +kernel
theorem dX6_take_23 : decode cX6_take 23 = .ok (.aload_n 0, 1) := by decide +kernel
theorem dX6_take_24 : decode cX6_take 24 = .ok (.ldc 64, 2) := by decide +kernel
theorem dX6_take_26 : decode cX6_take 26 = .ok (.invokevirtual 65, 3) := by decide +kernel
theorem dX6_take_29 : decode cX6_take 29 = .ok (.ireturn, 1) := by decide +kernel
theorem dX6_take_30 : decode cX6_take 30 = .ok (.aload_n 0, 1) := by decide +kernel
theorem dX6_take_31 : decode cX6_take 31 = .ok (.getfield 12, 3) := by decide +kernel
theorem dX6_take_34 : decode cX6_take 34 = .ok (.iload_n 1, 1) := by decide +kernel
theorem dX6_take_35 : decode cX6_take 35 = .ok (.iload_n 2, 1) := by decide +kernel
theorem dX6_take_36 : decode cX6_take 36 = .ok (.invokevirtual 148, 3) := by decide +kernel
theorem dX6_take_39 : decode cX6_take 39 = .ok (.ifCond .ne 10, 3) := by decide +kernel
theorem dX6_take_42 : decode cX6_take 42 = .ok (.aload_n 0, 1) := by decide +kernel
theorem dX6_take_43 : decode cX6_take 43 = .ok (.ldc 151, 2) := by decide +kernel
theorem dX6_take_45 : decode cX6_take 45 = .ok (.invokevirtual 65, 3) := by decide +kernel
theorem dX6_take_48 : decode cX6_take 48 = .ok (.ireturn, 1) := by decide +kernel
theorem dX6_take_49 : decode cX6_take 49 = .ok (.aload_n 0, 1) := by decide +kernel
theorem dX6_take_50 : decode cX6_take 50 = .ok (.getfield 12, 3) := by decide +kernel
theorem dX6_take_53 : decode cX6_take 53 = .ok (.getfield 136, 3) := by decide +kernel
theorem dX6_take_56 : decode cX6_take 56 = .ok (.iload_n 1, 1) := by decide +kernel
theorem dX6_take_57 : decode cX6_take 57 = .ok (.iaload, 1) := by decide +kernel
theorem dX6_take_58 : decode cX6_take 58 = .ok (.istore_n 3, 1) := by decide +kernel
theorem dX6_take_59 : decode cX6_take 59 = .ok (.aload_n 0, 1) := by decide +kernel
theorem dX6_take_60 : decode cX6_take 60 = .ok (.getfield 12, 3) := by decide +kernel
theorem dX6_take_63 : decode cX6_take 63 = .ok (.getfield 136, 3) := by decide +kernel
theorem dX6_take_66 : decode cX6_take 66 = .ok (.iload_n 1, 1) := by decide +kernel
theorem dX6_take_67 : decode cX6_take 67 = .ok (.iload_n 2, 1) := by decide +kernel
theorem dX6_take_68 : decode cX6_take 68 = .ok (.iastore, 1) := by decide +kernel
theorem dX6_take_69 : decode cX6_take 69 = .ok (.iload_n 3, 1) := by decide +kernel
theorem dX6_take_70 : decode cX6_take 70 = .ok (.ireturn, 1) := by decide +kernel
theorem dX6_exchange_0 : decode cX6_exchange 0 = .ok (.aload_n 0, 1) := by decide +kernel
theorem dX6_exchange_1 : decode cX6_exchange 1 = .ok (.getfield 12, 3) := by decide +kernel
theorem dX6_exchange_4 : decode cX6_exchange 4 = .ok (.iload_n 1, 1) := by decide +kernel
theorem dX6_exchange_5 : decode cX6_exchange 5 = .ok (.invokevirtual 133, 3) := by decide +kernel
theorem dX6_exchange_8 : decode cX6_exchange 8 = .ok (.ifCond .eq 19, 3) := by decide +kernel
theorem dX6_exchange_11 : decode cX6_exchange 11 = .ok (.aload_n 0, 1) := by decide +kernel
theorem dX6_exchange_12 : decode cX6_exchange 12 = .ok (.getfield 12, 3) := by decide +kernel
theorem dX6_exchange_15 : decode cX6_exchange 15 = .ok (.iload_n 2, 1) := by decide +kernel
theorem dX6_exchange_16 : decode cX6_exchange 16 = .ok (.invokevirtual 133, 3) := by decide +kernel
theorem dX6_exchange_19 : decode cX6_exchange 19 = .ok (.ifCond .eq 8, 3) := by decide +kernel
theorem dX6_exchange_22 : decode cX6_exchange 22 = .ok (.iload_n 1, 1) := by decide +kernel
theorem dX6_exchange_23 : decode cX6_exchange 23 = .ok (.iload_n 2, 1) := by decide +kernel
theorem dX6_exchange_24 : decode cX6_exchange 24 = .ok (.if_icmp .ne 10, 3) := by decide +kernel
theorem dX6_exchange_27 : decode cX6_exchange 27 = .ok (.aload_n 0, 1) := by decide +kernel
theorem dX6_exchange_28 : decode cX6_exchange 28 = .ok (.ldc 64, 2) := by decide +kernel
theorem dX6_exchange_30 : decode cX6_exchange 30 = .ok (.invokevirtual 65, 3) := by decide +kernel
theorem dX6_exchange_33 : decode cX6_exchange 33 = .ok (.ireturn, 1) := by decide +kernel
theorem dX6_exchange_34 : decode cX6_exchange 34 = .ok (.aload_n 0, 1) := by decide +kernel
theorem dX6_exchange_35 : decode cX6_exchange 35 = .ok (.getfield 12, 3) := by decide +kernel
theorem dX6_exchange_38 : decode cX6_exchange 38 = .ok (.getfield 139, 3) := by decide +kernel
theorem dX6_exchange_41 : decode cX6_exchange 41 = .ok (.iload_n 1, 1) := by decide +kernel
theorem dX6_exchange_42 : decode cX6_exchange 42 = .ok (.iaload, 1) := by decide +kernel
theorem dX6_exchange_43 : decode cX6_exchange 43 = .ok (.bipush 40, 2) := by decide +kernel
theorem dX6_exchange_45 : decode cX6_exchange 45 = .ok (.if_icmp .ge 17, 3) := by decide +kernel
theorem dX6_exchange_48 : decode cX6_exchange 48 = .ok (.aload_n 0, 1) := by decide +kernel
theorem dX6_exchange_49 : decode cX6_exchange 49 = .ok (.getfield 12, 3) := by decide +kernel
theorem dX6_exchange_52 : decode cX6_exchange 52 = .ok (.getfield 139, 3) := by decide +kernel
theorem dX6_exchange_55 : decode cX6_exchange 55 = .ok (.iload_n 2, 1) := by decide +kernel
theorem dX6_exchange_56 : decode cX6_exchange 56 = .ok (.iaload, 1) := by decide +kernel
theorem dX6_exchange_57 : decode cX6_exchange 57 = .ok (.bipush 40, 2) := by decide +kernel
theorem dX6_exchange_59 : decode cX6_exchange 59 = .ok (.if_icmp .lt 10, 3) := by decide +kernel
theorem dX6_exchange_62 : decode cX6_exchange 62 = .ok (.aload_n 0, 1) := by decide +kernel
theorem dX6_exchange_63 : decode cX6_exchange 63 = .ok (.ldc 151, 2) := by decide +kernel
theorem dX6_exchange_65 : decode cX6_exchange 65 = .ok (.invokevirtual 65, 3) := by decide +kernel
theorem dX6_exchange_68 : decode cX6_exchange 68 = .ok (.ireturn, 1) := by decide +kernel
theorem dX6_exchange_69 : decode cX6_exchange 69 = .ok (.aload_n 0, 1) := by decide +kernel
theorem dX6_exchange_70 : decode cX6_exchange 70 = .ok (.getfield 12, 3) := by decide +kernel
theorem dX6_exchange_73 : decode cX6_exchange 73 = .ok (.getfield 136, 3) := by decide +kernel
theorem dX6_exchange_76 : decode cX6_exchange 76 = .ok (.iload_n 1, 1) := by decide +kernel
theorem dX6_exchange_77 : decode cX6_exchange 77 = .ok (.iaload, 1) := by decide +kernel
theorem dX6_exchange_78 : decode cX6_exchange 78 = .ok (.istore_n 3, 1) := by decide +kernel
theorem dX6_exchange_79 : decode cX6_exchange 79 = .ok (.aload_n 0, 1) := by decide +kernel
theorem dX6_exchange_80 : decode cX6_exchange 80 = .ok (.getfield 12, 3) := by decide +kernel
theorem dX6_exchange_83 : decode cX6_exchange 83 = .ok (.getfield 136, 3) := by decide +kernel
theorem dX6_exchange_86 : decode cX6_exchange 86 = .ok (.iload_n 1, 1) := by decide +kernel
theorem dX6_exchange_87 : decode cX6_exchange 87 = .ok (.aload_n 0, 1) := by decide +kernel
theorem dX6_exchange_88 : decode cX6_exchange 88 = .ok (.getfield 12, 3) := by decide +kernel
theorem dX6_exchange_91 : decode cX6_exchange 91 = .ok (.getfield 136, 3) := by decide +kernel
theorem dX6_exchange_94 : decode cX6_exchange 94 = .ok (.iload_n 2, 1) := by decide +kernel
theorem dX6_exchange_95 : decode cX6_exchange 95 = .ok (.iaload, 1) := by decide +kernel
theorem dX6_exchange_96 : decode cX6_exchange 96 = .ok (.iastore, 1) := by decide +kernel
theorem dX6_exchange_97 : decode cX6_exchange 97 = .ok (.aload_n 0, 1) := by decide +kernel
theorem dX6_exchange_98 : decode cX6_exchange 98 = .ok (.getfield 12, 3) := by decide +kernel
theorem dX6_exchange_101 : decode cX6_exchange 101 = .ok (.getfield 136, 3) := by decide +kernel
theorem dX6_exchange_104 : decode cX6_exchange 104 = .ok (.iload_n 2, 1) := by decide +kernel
theorem dX6_exchange_105 : decode cX6_exchange 105 = .ok (.iload_n 3, 1) := by decide +kernel
theorem dX6_exchange_106 : decode cX6_exchange 106 = .ok (.iastore, 1) := by decide +kernel
theorem dX6_exchange_107 : decode cX6_exchange 107 = .ok (.iconst 1, 1) := by decide +kernel
theorem dX6_exchange_108 : decode cX6_exchange 108 = .ok (.ireturn, 1) := by decide +kernel
theorem dX6_born_0 : decode cX6_born 0 = .ok (.iload_n 1, 1) := by decide +kernel
theorem dX6_born_1 : decode cX6_born 1 = .ok (.iconst 1, 1) := by decide +kernel
theorem dX6_born_2 : decode cX6_born 2 = .ok (.bipush 8, 2) := by decide +kernel
theorem dX6_born_4 : decode cX6_born 4 = .ok (.invokestatic 60, 3) := by decide +kernel
theorem dX6_born_7 : decode cX6_born 7 = .ok (.ifCond .ne 10, 3) := by decide +kernel
theorem dX6_born_10 : decode cX6_born 10 = .ok (.aload_n 0, 1) := by decide +kernel
theorem dX6_born_11 : decode cX6_born 11 = .ok (.ldc 64, 2) := by decide +kernel
theorem dX6_born_13 : decode cX6_born 13 = .ok (.invokevirtual 65, 3) := by decide +kernel
theorem dX6_born_16 : decode cX6_born 16 = .ok (.ireturn, 1) := by decide +kernel
theorem dX6_born_17 : decode cX6_born 17 = .ok (.iconst 0, 1) := by decide +kernel
theorem dX6_born_18 : decode cX6_born 18 = .ok (.istore_n 2, 1) := by decide +kernel
theorem dX6_born_19 : decode cX6_born 19 = .ok (.iload_n 2, 1) := by decide +kernel
theorem dX6_born_20 : decode cX6_born 20 = .ok (.iload_n 1, 1) := by decide +kernel
theorem dX6_born_21 : decode cX6_born 21 = .ok (.if_icmp .ge 43, 3) := by decide +kernel
theorem dX6_born_24 : decode cX6_born 24 = .ok (.aload_n 0, 1) := by decide +kernel
theorem dX6_born_25 : decode cX6_born 25 = .ok (.getfield 12, 3) := by decide +kernel
theorem dX6_born_28 : decode cX6_born 28 = .ok (.getfield 126, 3) := by decide +kernel
theorem dX6_born_31 : decode cX6_born 31 = .ok (.bipush 8, 2) := by decide +kernel
theorem dX6_born_33 : decode cX6_born 33 = .ok (.if_icmp .ge 31, 3) := by decide +kernel
theorem dX6_born_36 : decode cX6_born 36 = .ok (.aload_n 0, 1) := by decide +kernel
theorem dX6_born_37 : decode cX6_born 37 = .ok (.getfield 12, 3) := by decide +kernel
theorem dX6_born_40 : decode cX6_born 40 = .ok (.aload_n 0, 1) := by decide +kernel
theorem dX6_born_41 : decode cX6_born 41 = .ok (.getfield 12, 3) := by decide +kernel
theorem dX6_born_44 : decode cX6_born 44 = .ok (.invokevirtual 152, 3) := by decide +kernel
theorem dX6_born_47 : decode cX6_born 47 = .ok (.bipush 9, 2) := by decide +kernel
theorem dX6_born_49 : decode cX6_born 49 = .ok (.irem, 1) := by decide +kernel
theorem dX6_born_50 : decode cX6_born 50 = .ok (.iconst 1, 1) := by decide +kernel
theorem dX6_born_51 : decode cX6_born 51 = .ok (.iadd, 1) := by decide +kernel
theorem dX6_born_52 : decode cX6_born 52 = .ok (.iconst 0, 1) := by decide +kernel
theorem dX6_born_53 : decode cX6_born 53 = .ok (.iconst (-1), 1) := by decide +kernel
theorem dX6_born_54 : decode cX6_born 54 = .ok (.invokevirtual 129, 3) := by decide +kernel
theorem dX6_born_57 : decode cX6_born 57 = .ok (.pop, 1) := by decide +kernel
theorem dX6_born_58 : decode cX6_born 58 = .ok (.iinc 2 1, 3) := by decide +kernel
theorem dX6_born_61 : decode cX6_born 61 = .ok (.goto (-42), 3) := by decide +kernel
theorem dX6_born_64 : decode cX6_born 64 = .ok (.aload_n 0, 1) := by decide +kernel
theorem dX6_born_65 : decode cX6_born 65 = .ok (.getfield 12, 3) := by decide +kernel
theorem dX6_born_68 : decode cX6_born 68 = .ok (.getfield 126, 3) := by decide +kernel
theorem dX6_born_71 : decode cX6_born 71 = .ok (.ireturn, 1) := by decide +kernel
theorem dX6_years_0 : decode cX6_years 0 = .ok (.iload_n 1, 1) := by decide +kernel
theorem dX6_years_1 : decode cX6_years 1 = .ok (.iconst 1, 1) := by decide +kernel
theorem dX6_years_2 : decode cX6_years 2 = .ok (.bipush 60, 2) := by decide +kernel
theorem dX6_years_4 : decode cX6_years 4 = .ok (.invokestatic 60, 3) := by decide +kernel
theorem dX6_years_7 : decode cX6_years 7 = .ok (.ifCond .ne 10, 3) := by decide +kernel
theorem dX6_years_10 : decode cX6_years 10 = .ok (.aload_n 0, 1) := by decide +kernel
theorem dX6_years_11 : decode cX6_years 11 = .ok (.ldc 64, 2) := by decide +kernel
theorem dX6_years_13 : decode cX6_years 13 = .ok (.invokevirtual 65, 3) := by decide +kernel
theorem dX6_years_16 : decode cX6_years 16 = .ok (.ireturn, 1) := by decide +kernel
theorem dX6_years_17 : decode cX6_years 17 = .ok (.aload_n 0, 1) := by decide +kernel
theorem dX6_years_18 : decode cX6_years 18 = .ok (.iload_n 1, 1) := by decide +kernel
theorem dX6_years_19 : decode cX6_years 19 = .ok (.invokevirtual 156, 3) := by decide +kernel
theorem dX6_years_22 : decode cX6_years 22 = .ok (.ifCond .eq 10, 3) := by decide +kernel
theorem dX6_years_25 : decode cX6_years 25 = .ok (.aload_n 0, 1) := by decide +kernel
theorem dX6_years_26 : decode cX6_years 26 = .ok (.ldc 151, 2) := by decide +kernel
theorem dX6_years_28 : decode cX6_years 28 = .ok (.invokevirtual 65, 3) := by decide +kernel
theorem dX6_years_31 : decode cX6_years 31 = .ok (.ireturn, 1) := by decide +kernel
theorem dX6_years_32 : decode cX6_years 32 = .ok (.aload_n 0, 1) := by decide +kernel
theorem dX6_years_33 : decode cX6_years 33 = .ok (.getfield 12, 3) := by decide +kernel
theorem dX6_years_36 : decode cX6_years 36 = .ok (.invokevirtual 159, 3) := by decide +kernel
theorem dX6_years_39 : decode cX6_years 39 = .ok (.istore_n 2, 1) := by decide +kernel
theorem dX6_years_40 : decode cX6_years 40 = .ok (.aload_n 0, 1) := by decide +kernel
theorem dX6_years_41 : decode cX6_years 41 = .ok (.getfield 25, 3) := by decide +kernel
theorem dX6_years_44 : decode cX6_years 44 = .ok (.aload_n 0, 1) := by decide +kernel
theorem dX6_years_45 : decode cX6_years 45 = .ok (.getfield 12, 3) := by decide +kernel
theorem dX6_years_48 : decode cX6_years 48 = .ok (.iload_n 1, 1) := by decide +kernel
theorem dX6_years_49 : decode cX6_years 49 = .ok (.invokevirtual 162, 3) := by decide +kernel
theorem dX6_years_52 : decode cX6_years 52 = .ok (.aload_n 0, 1) := by decide +kernel
theorem dX6_years_53 : decode cX6_years 53 = .ok (.getfield 12, 3) := by decide +kernel
theorem dX6_years_56 : decode cX6_years 56 = .ok (.invokevirtual 159, 3) := by decide +kernel
theorem dX6_years_59 : decode cX6_years 59 = .ok (.iload_n 2, 1) := by decide +kernel
theorem dX6_years_60 : decode cX6_years 60 = .ok (.isub, 1) := by decide +kernel
theorem dX6_years_61 : decode cX6_years 61 = .ok (.ireturn, 1) := by decide +kernel
theorem dX6_ahead_0 : decode cX6_ahead 0 = .ok (.iload_n 1, 1) := by decide +kernel
theorem dX6_ahead_1 : decode cX6_ahead 1 = .ok (.iconst 0, 1) := by decide +kernel
theorem dX6_ahead_2 : decode cX6_ahead 2 = .ok (.bipush 100, 2) := by decide +kernel
theorem dX6_ahead_4 : decode cX6_ahead 4 = .ok (.invokestatic 60, 3) := by decide +kernel
theorem dX6_ahead_7 : decode cX6_ahead 7 = .ok (.ifCond .eq 12, 3) := by decide +kernel
theorem dX6_ahead_10 : decode cX6_ahead 10 = .ok (.iload_n 2, 1) := by decide +kernel
theorem dX6_ahead_11 : decode cX6_ahead 11 = .ok (.iconst 0, 1) := by decide +kernel
theorem dX6_ahead_12 : decode cX6_ahead 12 = .ok (.iconst 4, 1) := by decide +kernel
theorem dX6_ahead_13 : decode cX6_ahead 13 = .ok (.invokestatic 60, 3) := by decide +kernel
theorem dX6_ahead_16 : decode cX6_ahead 16 = .ok (.ifCond .ne 10, 3) := by decide +kernel
theorem dX6_ahead_19 : decode cX6_ahead 19 = .ok (.aload_n 0, 1) := by decide +kernel
theorem dX6_ahead_20 : decode cX6_ahead 20 = .ok (.ldc 64, 2) := by decide +kernel
theorem dX6_ahead_22 : decode cX6_ahead 22 = .ok (.invokevirtual 65, 3) := by decide +kernel
theorem dX6_ahead_25 : decode cX6_ahead 25 = .ok (.ireturn, 1) := by decide +kernel
theorem dX6_ahead_26 : decode cX6_ahead 26 = .ok (.aload_n 0, 1) := by decide +kernel
theorem dX6_ahead_27 : decode cX6_ahead 27 = .ok (.iload_n 1, 1) := by decide +kernel
theorem dX6_ahead_28 : decode cX6_ahead 28 = .ok (.invokevirtual 156, 3) := by decide +kernel
theorem dX6_ahead_31 : decode cX6_ahead 31 = .ok (.ifCond .eq 10, 3) := by decide +kernel
theorem dX6_ahead_34 : decode cX6_ahead 34 = .ok (.aload_n 0, 1) := by decide +kernel
theorem dX6_ahead_35 : decode cX6_ahead 35 = .ok (.ldc 151, 2) := by decide +kernel
theorem dX6_ahead_37 : decode cX6_ahead 37 = .ok (.invokevirtual 65, 3) := by decide +kernel
theorem dX6_ahead_40 : decode cX6_ahead 40 = .ok (.ireturn, 1) := by decide +kernel
theorem dX6_ahead_41 : decode cX6_ahead 41 = .ok (.aload_n 0, 1) := by decide +kernel
theorem dX6_ahead_42 : decode cX6_ahead 42 = .ok (.iload_n 1, 1) := by decide +kernel
theorem dX6_ahead_43 : decode cX6_ahead 43 = .ok (.invokevirtual 166, 3) := by decide +kernel
theorem dX6_ahead_46 : decode cX6_ahead 46 = .ok (.iload_n 2, 1) := by decide +kernel
theorem dX6_ahead_47 : decode cX6_ahead 47 = .ok (.tableswitch 69 0 3 #[29, 45, 53, 61], 29) := by decide +kernel
theorem dX6_ahead_76 : decode cX6_ahead 76 = .ok (.aload_n 0, 1) := by decide +kernel
theorem dX6_ahead_77 : decode cX6_ahead 77 = .ok (.getfield 19, 3) := by decide +kernel
theorem dX6_ahead_80 : decode cX6_ahead 80 = .ok (.getfield 77, 3) := by decide +kernel
theorem dX6_ahead_83 : decode cX6_ahead 83 = .ok (.aload_n 0, 1) := by decide +kernel
theorem dX6_ahead_84 : decode cX6_ahead 84 = .ok (.getfield 19, 3) := by decide +kernel
theorem dX6_ahead_87 : decode cX6_ahead 87 = .ok (.invokevirtual 159, 3) := by decide +kernel
theorem dX6_ahead_90 : decode cX6_ahead 90 = .ok (.isub, 1) := by decide +kernel
theorem dX6_ahead_91 : decode cX6_ahead 91 = .ok (.ireturn, 1) := by decide +kernel
theorem dX6_ahead_92 : decode cX6_ahead 92 = .ok (.aload_n 0, 1) := by decide +kernel
theorem dX6_ahead_93 : decode cX6_ahead 93 = .ok (.getfield 19, 3) := by decide +kernel
theorem dX6_ahead_96 : decode cX6_ahead 96 = .ok (.invokevirtual 170, 3) := by decide +kernel
theorem dX6_ahead_99 : decode cX6_ahead 99 = .ok (.ireturn, 1) := by decide +kernel
theorem dX6_ahead_100 : decode cX6_ahead 100 = .ok (.aload_n 0, 1) := by decide +kernel
theorem dX6_ahead_101 : decode cX6_ahead 101 = .ok (.getfield 19, 3) := by decide +kernel
theorem dX6_ahead_104 : decode cX6_ahead 104 = .ok (.invokevirtual 173, 3) := by decide +kernel
theorem dX6_ahead_107 : decode cX6_ahead 107 = .ok (.ireturn, 1) := by decide +kernel
theorem dX6_ahead_108 : decode cX6_ahead 108 = .ok (.aload_n 0, 1) := by decide +kernel
theorem dX6_ahead_109 : decode cX6_ahead 109 = .ok (.getfield 19, 3) := by decide +kernel
theorem dX6_ahead_112 : decode cX6_ahead 112 = .ok (.invokevirtual 176, 3) := by decide +kernel
theorem dX6_ahead_115 : decode cX6_ahead 115 = .ok (.ireturn, 1) := by decide +kernel
theorem dX6_ahead_116 : decode cX6_ahead 116 = .ok (.aload_n 0, 1) := by decide +kernel
theorem dX6_ahead_117 : decode cX6_ahead 117 = .ok (.getfield 19, 3) := by decide +kernel
theorem dX6_ahead_120 : decode cX6_ahead 120 = .ok (.invokevirtual 179, 3) := by decide +kernel
theorem dX6_ahead_123 : decode cX6_ahead 123 = .ok (.ireturn, 1) := by decide +kernel
theorem dX6_shut_0 : decode cX6_shut 0 = .ok (.iload_n 1, 1) := by decide +kernel
theorem dX6_shut_1 : decode cX6_shut 1 = .ok (.invokestatic 56, 3) := by decide +kernel
theorem dX6_shut_4 : decode cX6_shut 4 = .ok (.ifCond .ne 10, 3) := by decide +kernel
theorem dX6_shut_7 : decode cX6_shut 7 = .ok (.aload_n 0, 1) := by decide +kernel
theorem dX6_shut_8 : decode cX6_shut 8 = .ok (.ldc 64, 2) := by decide +kernel
theorem dX6_shut_10 : decode cX6_shut 10 = .ok (.invokevirtual 65, 3) := by decide +kernel
theorem dX6_shut_13 : decode cX6_shut 13 = .ok (.ireturn, 1) := by decide +kernel
theorem dX6_shut_14 : decode cX6_shut 14 = .ok (.aload_n 0, 1) := by decide +kernel
theorem dX6_shut_15 : decode cX6_shut 15 = .ok (.bipush 100, 2) := by decide +kernel
theorem dX6_shut_17 : decode cX6_shut 17 = .ok (.invokevirtual 156, 3) := by decide +kernel
theorem dX6_shut_20 : decode cX6_shut 20 = .ok (.ifCond .eq 10, 3) := by decide +kernel
theorem dX6_shut_23 : decode cX6_shut 23 = .ok (.aload_n 0, 1) := by decide +kernel
theorem dX6_shut_24 : decode cX6_shut 24 = .ok (.ldc 151, 2) := by decide +kernel
theorem dX6_shut_26 : decode cX6_shut 26 = .ok (.invokevirtual 65, 3) := by decide +kernel
theorem dX6_shut_29 : decode cX6_shut 29 = .ok (.ireturn, 1) := by decide +kernel
theorem dX6_shut_30 : decode cX6_shut 30 = .ok (.aload_n 0, 1) := by decide +kernel
theorem dX6_shut_31 : decode cX6_shut 31 = .ok (.iconst 0, 1) := by decide +kernel
theorem dX6_shut_32 : decode cX6_shut 32 = .ok (.invokevirtual 166, 3) := by decide +kernel
theorem dX6_shut_35 : decode cX6_shut 35 = .ok (.iconst 0, 1) := by decide +kernel
theorem dX6_shut_36 : decode cX6_shut 36 = .ok (.istore_n 2, 1) := by decide +kernel
theorem dX6_shut_37 : decode cX6_shut 37 = .ok (.iload_n 2, 1) := by decide +kernel
theorem dX6_shut_38 : decode cX6_shut 38 = .ok (.bipush 100, 2) := by decide +kernel
theorem dX6_shut_40 : decode cX6_shut 40 = .ok (.if_icmp .gt 34, 3) := by decide +kernel
theorem dX6_shut_43 : decode cX6_shut 43 = .ok (.aload_n 0, 1) := by decide +kernel
theorem dX6_shut_44 : decode cX6_shut 44 = .ok (.getfield 19, 3) := by decide +kernel
theorem dX6_shut_47 : decode cX6_shut 47 = .ok (.iload_n 1, 1) := by decide +kernel
theorem dX6_shut_48 : decode cX6_shut 48 = .ok (.invokevirtual 108, 3) := by decide +kernel
theorem dX6_shut_51 : decode cX6_shut 51 = .ok (.ifCond .ne 5, 3) := by decide +kernel
theorem dX6_shut_54 : decode cX6_shut 54 = .ok (.iload_n 2, 1) := by decide +kernel
theorem dX6_shut_55 : decode cX6_shut 55 = .ok (.ireturn, 1) := by decide +kernel
theorem dX6_shut_56 : decode cX6_shut 56 = .ok (.aload_n 0, 1) := by decide +kernel
theorem dX6_shut_57 : decode cX6_shut 57 = .ok (.getfield 25, 3) := by decide +kernel
theorem dX6_shut_60 : decode cX6_shut 60 = .ok (.aload_n 0, 1) := by decide +kernel
theorem dX6_shut_61 : decode cX6_shut 61 = .ok (.getfield 19, 3) := by decide +kernel
theorem dX6_shut_64 : decode cX6_shut 64 = .ok (.iconst 1, 1) := by decide +kernel
theorem dX6_shut_65 : decode cX6_shut 65 = .ok (.invokevirtual 162, 3) := by decide +kernel
theorem dX6_shut_68 : decode cX6_shut 68 = .ok (.iinc 2 1, 3) := by decide +kernel
theorem dX6_shut_71 : decode cX6_shut 71 = .ok (.goto (-34), 3) := by decide +kernel
theorem dX6_shut_74 : decode cX6_shut 74 = .ok (.aload_n 0, 1) := by decide +kernel
theorem dX6_shut_75 : decode cX6_shut 75 = .ok (.ldc 182, 2) := by decide +kernel
theorem dX6_shut_77 : decode cX6_shut 77 = .ok (.invokevirtual 65, 3) := by decide +kernel
theorem dX6_shut_80 : decode cX6_shut 80 = .ok (.ireturn, 1) := by decide +kernel
theorem dX6_ends_0 : decode cX6_ends 0 = .ok (.aload_n 0, 1) := by decide +kernel
theorem dX6_ends_1 : decode cX6_ends 1 = .ok (.getfield 12, 3) := by decide +kernel
theorem dX6_ends_4 : decode cX6_ends 4 = .ok (.iload_n 1, 1) := by decide +kernel
theorem dX6_ends_5 : decode cX6_ends 5 = .ok (.invokevirtual 86, 3) := by decide +kernel
theorem dX6_ends_8 : decode cX6_ends 8 = .ok (.ifCond .ne 10, 3) := by decide +kernel
theorem dX6_ends_11 : decode cX6_ends 11 = .ok (.aload_n 0, 1) := by decide +kernel
theorem dX6_ends_12 : decode cX6_ends 12 = .ok (.ldc 64, 2) := by decide +kernel
theorem dX6_ends_14 : decode cX6_ends 14 = .ok (.invokevirtual 65, 3) := by decide +kernel
theorem dX6_ends_17 : decode cX6_ends 17 = .ok (.ireturn, 1) := by decide +kernel
theorem dX6_ends_18 : decode cX6_ends 18 = .ok (.aload_n 0, 1) := by decide +kernel
theorem dX6_ends_19 : decode cX6_ends 19 = .ok (.bipush 100, 2) := by decide +kernel
theorem dX6_ends_21 : decode cX6_ends 21 = .ok (.invokevirtual 156, 3) := by decide +kernel
theorem dX6_ends_24 : decode cX6_ends 24 = .ok (.ifCond .eq 10, 3) := by decide +kernel
theorem dX6_ends_27 : decode cX6_ends 27 = .ok (.aload_n 0, 1) := by decide +kernel
theorem dX6_ends_28 : decode cX6_ends 28 = .ok (.ldc 151, 2) := by decide +kernel
theorem dX6_ends_30 : decode cX6_ends 30 = .ok (.invokevirtual 65, 3) := by decide +kernel
theorem dX6_ends_33 : decode cX6_ends 33 = .ok (.ireturn, 1) := by decide +kernel
theorem dX6_ends_34 : decode cX6_ends 34 = .ok (.aload_n 0, 1) := by decide +kernel
theorem dX6_ends_35 : decode cX6_ends 35 = .ok (.iconst 0, 1) := by decide +kernel
theorem dX6_ends_36 : decode cX6_ends 36 = .ok (.invokevirtual 166, 3) := by decide +kernel
theorem dX6_ends_39 : decode cX6_ends 39 = .ok (.iconst 0, 1) := by decide +kernel
theorem dX6_ends_40 : decode cX6_ends 40 = .ok (.istore_n 2, 1) := by decide +kernel
theorem dX6_ends_41 : decode cX6_ends 41 = .ok (.iload_n 2, 1) := by decide +kernel
theorem dX6_ends_42 : decode cX6_ends 42 = .ok (.bipush 100, 2) := by decide +kernel
theorem dX6_ends_44 : decode cX6_ends 44 = .ok (.if_icmp .gt 34, 3) := by decide +kernel
theorem dX6_ends_47 : decode cX6_ends 47 = .ok (.aload_n 0, 1) := by decide +kernel
theorem dX6_ends_48 : decode cX6_ends 48 = .ok (.getfield 19, 3) := by decide +kernel
theorem dX6_ends_51 : decode cX6_ends 51 = .ok (.iload_n 1, 1) := by decide +kernel
theorem dX6_ends_52 : decode cX6_ends 52 = .ok (.invokevirtual 183, 3) := by decide +kernel
theorem dX6_ends_55 : decode cX6_ends 55 = .ok (.ifCond .eq 5, 3) := by decide +kernel
theorem dX6_ends_58 : decode cX6_ends 58 = .ok (.iload_n 2, 1) := by decide +kernel
theorem dX6_ends_59 : decode cX6_ends 59 = .ok (.ireturn, 1) := by decide +kernel
theorem dX6_ends_60 : decode cX6_ends 60 = .ok (.aload_n 0, 1) := by decide +kernel
theorem dX6_ends_61 : decode cX6_ends 61 = .ok (.getfield 25, 3) := by decide +kernel
theorem dX6_ends_64 : decode cX6_ends 64 = .ok (.aload_n 0, 1) := by decide +kernel
theorem dX6_ends_65 : decode cX6_ends 65 = .ok (.getfield 19, 3) := by decide +kernel
theorem dX6_ends_68 : decode cX6_ends 68 = .ok (.iconst 1, 1) := by decide +kernel
theorem dX6_ends_69 : decode cX6_ends 69 = .ok (.invokevirtual 162, 3) := by decide +kernel
theorem dX6_ends_72 : decode cX6_ends 72 = .ok (.iinc 2 1, 3) := by decide +kernel
theorem dX6_ends_75 : decode cX6_ends 75 = .ok (.goto (-34), 3) := by decide +kernel
theorem dX6_ends_78 : decode cX6_ends 78 = .ok (.aload_n 0, 1) := by decide +kernel
theorem dX6_ends_79 : decode cX6_ends 79 = .ok (.ldc 182, 2) := by decide +kernel
theorem dX6_ends_81 : decode cX6_ends 81 = .ok (.invokevirtual 65, 3) := by decide +kernel
theorem dX6_ends_84 : decode cX6_ends 84 = .ok (.ireturn, 1) := by decide +kernel
theorem dX6_choose_0 : decode cX6_choose 0 = .ok (.aload_n 0, 1) := by decide +kernel
theorem dX6_choose_1 : decode cX6_choose 1 = .ok (.getfield 12, 3) := by decide +kernel
theorem dX6_choose_4 : decode cX6_choose 4 = .ok (.iload_n 1, 1) := by decide +kernel
theorem dX6_choose_5 : decode cX6_choose 5 = .ok (.invokevirtual 133, 3) := by decide +kernel
theorem dX6_choose_8 : decode cX6_choose 8 = .ok (.ifCond .ne 10, 3) := by decide +kernel
theorem dX6_choose_11 : decode cX6_choose 11 = .ok (.aload_n 0, 1) := by decide +kernel
theorem dX6_choose_12 : decode cX6_choose 12 = .ok (.ldc 64, 2) := by decide +kernel
theorem dX6_choose_14 : decode cX6_choose 14 = .ok (.invokevirtual 65, 3) := by decide +kernel
theorem dX6_choose_17 : decode cX6_choose 17 = .ok (.ireturn, 1) := by decide +kernel
theorem dX6_choose_18 : decode cX6_choose 18 = .ok (.aload_n 0, 1) := by decide +kernel
theorem dX6_choose_19 : decode cX6_choose 19 = .ok (.getfield 12, 3) := by decide +kernel
theorem dX6_choose_22 : decode cX6_choose 22 = .ok (.getfield 136, 3) := by decide +kernel
theorem dX6_choose_25 : decode cX6_choose 25 = .ok (.iload_n 1, 1) := by decide +kernel
theorem dX6_choose_26 : decode cX6_choose 26 = .ok (.iaload, 1) := by decide +kernel
theorem dX6_choose_27 : decode cX6_choose 27 = .ok (.ifCond .ge 26, 3) := by decide +kernel
theorem dX6_choose_30 : decode cX6_choose 30 = .ok (.aload_n 0, 1) := by decide +kernel
theorem dX6_choose_31 : decode cX6_choose 31 = .ok (.getfield 12, 3) := by decide +kernel
theorem dX6_choose_34 : decode cX6_choose 34 = .ok (.getfield 139, 3) := by decide +kernel
theorem dX6_choose_37 : decode cX6_choose 37 = .ok (.iload_n 1, 1) := by decide +kernel
theorem dX6_choose_38 : decode cX6_choose 38 = .ok (.iaload, 1) := by decide +kernel
theorem dX6_choose_39 : decode cX6_choose 39 = .ok (.bipush 40, 2) := by decide +kernel
theorem dX6_choose_41 : decode cX6_choose 41 = .ok (.if_icmp .ge 12, 3) := by decide +kernel
theorem dX6_choose_44 : decode cX6_choose 44 = .ok (.aload_n 0, 1) := by decide +kernel
theorem dX6_choose_45 : decode cX6_choose 45 = .ok (.bipush 40, 2) := by decide +kernel
theorem dX6_choose_47 : decode cX6_choose 47 = .ok (.invokevirtual 156, 3) := by decide +kernel
theorem dX6_choose_50 : decode cX6_choose 50 = .ok (.ifCond .eq 10, 3) := by decide +kernel
theorem dX6_choose_53 : decode cX6_choose 53 = .ok (.aload_n 0, 1) := by decide +kernel
theorem dX6_choose_54 : decode cX6_choose 54 = .ok (.ldc 151, 2) := by decide +kernel
theorem dX6_choose_56 : decode cX6_choose 56 = .ok (.invokevirtual 65, 3) := by decide +kernel
theorem dX6_choose_59 : decode cX6_choose 59 = .ok (.ireturn, 1) := by decide +kernel
theorem dX6_choose_60 : decode cX6_choose 60 = .ok (.aload_n 0, 1) := by decide +kernel
theorem dX6_choose_61 : decode cX6_choose 61 = .ok (.getfield 12, 3) := by decide +kernel
theorem dX6_choose_64 : decode cX6_choose 64 = .ok (.invokevirtual 186, 3) := by decide +kernel
theorem dX6_choose_67 : decode cX6_choose 67 = .ok (.istore_n 2, 1) := by decide +kernel
theorem dX6_choose_68 : decode cX6_choose 68 = .ok (.iconst (-1), 1) := by decide +kernel
theorem dX6_choose_69 : decode cX6_choose 69 = .ok (.istore_n 3, 1) := by decide +kernel
theorem dX6_choose_70 : decode cX6_choose 70 = .ok (.iconst 0, 1) := by decide +kernel
theorem dX6_choose_71 : decode cX6_choose 71 = .ok (.istore 4, 2) := by decide +kernel
theorem dX6_choose_73 : decode cX6_choose 73 = .ok (.iload 4, 2) := by decide +kernel
theorem dX6_choose_75 : decode cX6_choose 75 = .ok (.bipush 8, 2) := by decide +kernel
theorem dX6_choose_77 : decode cX6_choose 77 = .ok (.if_icmp .ge 79, 3) := by decide +kernel
theorem dX6_choose_80 : decode cX6_choose 80 = .ok (.iload_n 3, 1) := by decide +kernel
theorem dX6_choose_81 : decode cX6_choose 81 = .ok (.ifCond .lt 25, 3) := by decide +kernel
theorem dX6_choose_84 : decode cX6_choose 84 = .ok (.aload_n 0, 1) := by decide +kernel
theorem dX6_choose_85 : decode cX6_choose 85 = .ok (.getfield 12, 3) := by decide +kernel
theorem dX6_choose_88 : decode cX6_choose 88 = .ok (.getfield 69, 3) := by decide +kernel
theorem dX6_choose_91 : decode cX6_choose 91 = .ok (.iload 4, 2) := by decide +kernel
theorem dX6_choose_93 : decode cX6_choose 93 = .ok (.iaload, 1) := by decide +kernel
theorem dX6_choose_94 : decode cX6_choose 94 = .ok (.aload_n 0, 1) := by decide +kernel
theorem dX6_choose_95 : decode cX6_choose 95 = .ok (.getfield 12, 3) := by decide +kernel
theorem dX6_choose_98 : decode cX6_choose 98 = .ok (.getfield 69, 3) := by decide +kernel
theorem dX6_choose_101 : decode cX6_choose 101 = .ok (.iload_n 3, 1) := by decide +kernel
theorem dX6_choose_102 : decode cX6_choose 102 = .ok (.iaload, 1) := by decide +kernel
theorem dX6_choose_103 : decode cX6_choose 103 = .ok (.if_icmp .le 7, 3) := by decide +kernel
theorem dX6_choose_106 : decode cX6_choose 106 = .ok (.iconst 1, 1) := by decide +kernel
theorem dX6_choose_107 : decode cX6_choose 107 = .ok (.goto 4, 3) := by decide +kernel
theorem dX6_choose_110 : decode cX6_choose 110 = .ok (.iconst 0, 1) := by decide +kernel
theorem dX6_choose_111 : decode cX6_choose 111 = .ok (.istore 5, 2) := by decide +kernel
theorem dX6_choose_113 : decode cX6_choose 113 = .ok (.iload_n 2, 1) := by decide +kernel
theorem dX6_choose_114 : decode cX6_choose 114 = .ok (.iload 4, 2) := by decide +kernel
theorem dX6_choose_116 : decode cX6_choose 116 = .ok (.iushr, 1) := by decide +kernel
theorem dX6_choose_117 : decode cX6_choose 117 = .ok (.iconst 1, 1) := by decide +kernel
theorem dX6_choose_118 : decode cX6_choose 118 = .ok (.iand, 1) := by decide +kernel
theorem dX6_choose_119 : decode cX6_choose 119 = .ok (.iconst 1, 1) := by decide +kernel
theorem dX6_choose_120 : decode cX6_choose 120 = .ok (.if_icmp .ne 30, 3) := by decide +kernel
theorem dX6_choose_123 : decode cX6_choose 123 = .ok (.iload 5, 2) := by decide +kernel
theorem dX6_choose_125 : decode cX6_choose 125 = .ok (.ifCond .eq 25, 3) := by decide +kernel
theorem dX6_choose_128 : decode cX6_choose 128 = .ok (.aload_n 0, 1) := by decide +kernel
theorem dX6_choose_129 : decode cX6_choose 129 = .ok (.iload_n 1, 1) := by decide +kernel
theorem dX6_choose_130 : decode cX6_choose 130 = .ok (.iload 4, 2) := by decide +kernel
theorem dX6_choose_132 : decode cX6_choose 132 = .ok (.aload_n 0, 1) := by decide +kernel
theorem dX6_choose_133 : decode cX6_choose 133 = .ok (.getfield 12, 3) := by decide +kernel
theorem dX6_choose_136 : decode cX6_choose 136 = .ok (.getfield 142, 3) := by decide +kernel
theorem dX6_choose_139 : decode cX6_choose 139 = .ok (.iload_n 1, 1) := by decide +kernel
theorem dX6_choose_140 : decode cX6_choose 140 = .ok (.iaload, 1) := by decide +kernel
theorem dX6_choose_141 : decode cX6_choose 141 = .ok (.invokevirtual 189, 3) := by decide +kernel
theorem dX6_choose_144 : decode cX6_choose 144 = .ok (.ifCond .eq 6, 3) := by decide +kernel
theorem dX6_choose_147 : decode cX6_choose 147 = .ok (.iload 4, 2) := by decide +kernel
theorem dX6_choose_149 : decode cX6_choose 149 = .ok (.istore_n 3, 1) := by decide +kernel
theorem dX6_choose_150 : decode cX6_choose 150 = .ok (.iinc 4 1, 3) := by decide +kernel
theorem dX6_choose_153 : decode cX6_choose 153 = .ok (.goto (-80), 3) := by decide +kernel
theorem dX6_choose_156 : decode cX6_choose 156 = .ok (.iload_n 3, 1) := by decide +kernel
theorem dX6_choose_157 : decode cX6_choose 157 = .ok (.ifCond .ge 12, 3) := by decide +kernel
theorem dX6_choose_160 : decode cX6_choose 160 = .ok (.aload_n 0, 1) := by decide +kernel
theorem dX6_choose_161 : decode cX6_choose 161 = .ok (.ldc 182, 2) := by decide +kernel
theorem dX6_choose_163 : decode cX6_choose 163 = .ok (.invokevirtual 65, 3) := by decide +kernel
theorem dX6_choose_166 : decode cX6_choose 166 = .ok (.goto 4, 3) := by decide +kernel
theorem dX6_choose_169 : decode cX6_choose 169 = .ok (.iload_n 3, 1) := by decide +kernel
theorem dX6_choose_170 : decode cX6_choose 170 = .ok (.ireturn, 1) := by decide +kernel
