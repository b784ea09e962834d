theorem dX7_strike_0 : decode cX7_strike 0 = .ok (.aload_n 0, 1) := by decide +kernel
theorem dX7_strike_1 : decode cX7_strike 1 = .ok (.iload_n 1, 1) := by decide +kernel
theorem dX7_strike_2 : decode cX7_strike 2 = .ok (.invokevirtual 91, 3) := by decide +kernel
theorem dX7_strike_5 : decode cX7_strike 5 = .ok (.ifCond .eq 19, 3) := by decide +kernel
theorem dX7_strike_8 : decode cX7_strike 8 = .ok (.aload_n 0, 1) := by decide +kernel
theorem dX7_strike_9 : decode cX7_strike 9 = .ok (.bipush 20, 2) := by decide +kernel
theorem dX7_strike_11 : decode cX7_strike 11 = .ok (.iconst 4, 1) := by decide +kernel
theorem dX7_strike_12 : decode cX7_strike 12 = .ok (.iload_n 1, 1) := by decide +kernel
theorem dX7_strike_13 : decode cX7_strike 13 = .ok (.imul, 1) := by decide +kernel
theorem dX7_strike_14 : decode cX7_strike 14 = .ok (.iadd, 1) := by decide +kernel
theorem dX7_strike_15 : decode cX7_strike 15 = .ok (.iconst 2, 1) := by decide +kernel
theorem dX7_strike_16 : decode cX7_strike 16 = .ok (.iadd, 1) := by decide +kernel
theorem dX7_strike_17 : decode cX7_strike 17 = .ok (.iconst 0, 1) := by decide +kernel
theorem dX7_strike_18 : decode cX7_strike 18 = .ok (.invokevirtual 72, 3) := by decide +kernel
theorem dX7_strike_21 : decode cX7_strike 21 = .ok (.goto 9, 3) := by decide +kernel
theorem dX7_strike_24 : decode cX7_strike 24 = .ok (.aload_n 0, 1) := by decide +kernel
theorem dX7_strike_25 : decode cX7_strike 25 = .ok (.ldc 43, 2) := by decide +kernel
theorem dX7_strike_27 : decode cX7_strike 27 = .ok (.invokevirtual 45, 3) := by decide +kernel
theorem dX7_strike_30 : decode cX7_strike 30 = .ok (.ireturn, 1) := by decide +kernel
theorem dX7_isOpen_0 : decode cX7_isOpen 0 = .ok (.iconst 0, 1) := by decide +kernel
theorem dX7_isOpen_1 : decode cX7_isOpen 1 = .ok (.istore_n 2, 1) := by decide +kernel
theorem dX7_isOpen_2 : decode cX7_isOpen 2 = .ok (.iload_n 2, 1) := by decide +kernel
theorem dX7_isOpen_3 : decode cX7_isOpen 3 = .ok (.aload_n 0, 1) := by decide +kernel
theorem dX7_isOpen_4 : decode cX7_isOpen 4 = .ok (.getfield 9, 3) := by decide +kernel
theorem dX7_isOpen_7 : decode cX7_isOpen 7 = .ok (.iconst 2, 1) := by decide +kernel
theorem dX7_isOpen_8 : decode cX7_isOpen 8 = .ok (.iaload, 1) := by decide +kernel
theorem dX7_isOpen_9 : decode cX7_isOpen 9 = .ok (.if_icmp .ge 29, 3) := by decide +kernel
theorem dX7_isOpen_12 : decode cX7_isOpen 12 = .ok (.aload_n 0, 1) := by decide +kernel
theorem dX7_isOpen_13 : decode cX7_isOpen 13 = .ok (.iload_n 2, 1) := by decide +kernel
theorem dX7_isOpen_14 : decode cX7_isOpen 14 = .ok (.iconst 1, 1) := by decide +kernel
theorem dX7_isOpen_15 : decode cX7_isOpen 15 = .ok (.invokevirtual 59, 3) := by decide +kernel
theorem dX7_isOpen_18 : decode cX7_isOpen 18 = .ok (.iload_n 1, 1) := by decide +kernel
theorem dX7_isOpen_19 : decode cX7_isOpen 19 = .ok (.if_icmp .ne 13, 3) := by decide +kernel
theorem dX7_isOpen_22 : decode cX7_isOpen 22 = .ok (.aload_n 0, 1) := by decide +kernel
theorem dX7_isOpen_23 : decode cX7_isOpen 23 = .ok (.iload_n 2, 1) := by decide +kernel
theorem dX7_isOpen_24 : decode cX7_isOpen 24 = .ok (.invokevirtual 85, 3) := by decide +kernel
theorem dX7_isOpen_27 : decode cX7_isOpen 27 = .ok (.ifCond .ne 5, 3) := by decide +kernel
theorem dX7_isOpen_30 : decode cX7_isOpen 30 = .ok (.iconst 1, 1) := by decide +kernel
theorem dX7_isOpen_31 : decode cX7_isOpen 31 = .ok (.ireturn, 1) := by decide +kernel
theorem dX7_isOpen_32 : decode cX7_isOpen 32 = .ok (.iinc 2 1, 3) := by decide +kernel
theorem dX7_isOpen_35 : decode cX7_isOpen 35 = .ok (.goto (-33), 3) := by decide +kernel
theorem dX7_isOpen_38 : decode cX7_isOpen 38 = .ok (.iconst 0, 1) := by decide +kernel
theorem dX7_isOpen_39 : decode cX7_isOpen 39 = .ok (.ireturn, 1) := by decide +kernel
theorem dX7_atHand_0 : decode cX7_atHand 0 = .ok (.iconst 0, 1) := by decide +kernel
theorem dX7_atHand_1 : decode cX7_atHand 1 = .ok (.istore_n 2, 1) := by decide +kernel
theorem dX7_atHand_2 : decode cX7_atHand 2 = .ok (.iload_n 2, 1) := by decide +kernel
theorem dX7_atHand_3 : decode cX7_atHand 3 = .ok (.aload_n 0, 1) := by decide +kernel
theorem dX7_atHand_4 : decode cX7_atHand 4 = .ok (.getfield 9, 3) := by decide +kernel
theorem dX7_atHand_7 : decode cX7_atHand 7 = .ok (.iconst 2, 1) := by decide +kernel
theorem dX7_atHand_8 : decode cX7_atHand 8 = .ok (.iaload, 1) := by decide +kernel
theorem dX7_atHand_9 : decode cX7_atHand 9 = .ok (.if_icmp .ge 37, 3) := by decide +kernel
theorem dX7_atHand_12 : decode cX7_atHand 12 = .ok (.aload_n 0, 1) := by decide +kernel
theorem dX7_atHand_13 : decode cX7_atHand 13 = .ok (.iload_n 2, 1) := by decide +kernel
theorem dX7_atHand_14 : decode cX7_atHand 14 = .ok (.iconst 1, 1) := by decide +kernel
theorem dX7_atHand_15 : decode cX7_atHand 15 = .ok (.invokevirtual 59, 3) := by decide +kernel
theorem dX7_atHand_18 : decode cX7_atHand 18 = .ok (.iload_n 1, 1) := by decide +kernel
theorem dX7_atHand_19 : decode cX7_atHand 19 = .ok (.if_icmp .ne 21, 3) := by decide +kernel
theorem dX7_atHand_22 : decode cX7_atHand 22 = .ok (.aload_n 0, 1) := by decide +kernel
theorem dX7_atHand_23 : decode cX7_atHand 23 = .ok (.iload_n 2, 1) := by decide +kernel
theorem dX7_atHand_24 : decode cX7_atHand 24 = .ok (.invokevirtual 85, 3) := by decide +kernel
theorem dX7_atHand_27 : decode cX7_atHand 27 = .ok (.ifCond .ne 13, 3) := by decide +kernel
theorem dX7_atHand_30 : decode cX7_atHand 30 = .ok (.aload_n 0, 1) := by decide +kernel
theorem dX7_atHand_31 : decode cX7_atHand 31 = .ok (.iload_n 2, 1) := by decide +kernel
theorem dX7_atHand_32 : decode cX7_atHand 32 = .ok (.invokevirtual 88, 3) := by decide +kernel
theorem dX7_atHand_35 : decode cX7_atHand 35 = .ok (.ifCond .ge 5, 3) := by decide +kernel
theorem dX7_atHand_38 : decode cX7_atHand 38 = .ok (.iload_n 2, 1) := by decide +kernel
theorem dX7_atHand_39 : decode cX7_atHand 39 = .ok (.ireturn, 1) := by decide +kernel
theorem dX7_atHand_40 : decode cX7_atHand 40 = .ok (.iinc 2 1, 3) := by decide +kernel
theorem dX7_atHand_43 : decode cX7_atHand 43 = .ok (.goto (-41), 3) := by decide +kernel
theorem dX7_atHand_46 : decode cX7_atHand 46 = .ok (.iconst (-1), 1) := by decide +kernel
theorem dX7_atHand_47 : decode cX7_atHand 47 = .ok (.ireturn, 1) := by decide +kernel
theorem dX7_sumOf_0 : decode cX7_sumOf 0 = .ok (.iconst 0, 1) := by decide +kernel
theorem dX7_sumOf_1 : decode cX7_sumOf 1 = .ok (.istore_n 3, 1) := by decide +kernel
theorem dX7_sumOf_2 : decode cX7_sumOf 2 = .ok (.iconst 0, 1) := by decide +kernel
theorem dX7_sumOf_3 : decode cX7_sumOf 3 = .ok (.istore 4, 2) := by decide +kernel
theorem dX7_sumOf_5 : decode cX7_sumOf 5 = .ok (.iload 4, 2) := by decide +kernel
theorem dX7_sumOf_7 : decode cX7_sumOf 7 = .ok (.aload_n 0, 1) := by decide +kernel
theorem dX7_sumOf_8 : decode cX7_sumOf 8 = .ok (.getfield 9, 3) := by decide +kernel
theorem dX7_sumOf_11 : decode cX7_sumOf 11 = .ok (.iconst 2, 1) := by decide +kernel
theorem dX7_sumOf_12 : decode cX7_sumOf 12 = .ok (.iaload, 1) := by decide +kernel
theorem dX7_sumOf_13 : decode cX7_sumOf 13 = .ok (.if_icmp .ge 42, 3) := by decide +kernel
theorem dX7_sumOf_16 : decode cX7_sumOf 16 = .ok (.iload_n 3, 1) := by decide +kernel
theorem dX7_sumOf_17 : decode cX7_sumOf 17 = .ok (.aload_n 0, 1) := by decide +kernel
theorem dX7_sumOf_18 : decode cX7_sumOf 18 = .ok (.iload 4, 2) := by decide +kernel
theorem dX7_sumOf_20 : decode cX7_sumOf 20 = .ok (.iconst 1, 1) := by decide +kernel
theorem dX7_sumOf_21 : decode cX7_sumOf 21 = .ok (.invokevirtual 59, 3) := by decide +kernel
theorem dX7_sumOf_24 : decode cX7_sumOf 24 = .ok (.iload_n 1, 1) := by decide +kernel
theorem dX7_sumOf_25 : decode cX7_sumOf 25 = .ok (.if_icmp .eq 7, 3) := by decide +kernel
theorem dX7_sumOf_28 : decode cX7_sumOf 28 = .ok (.iconst 0, 1) := by decide +kernel
theorem dX7_sumOf_29 : decode cX7_sumOf 29 = .ok (.goto 18, 3) := by decide +kernel
theorem dX7_sumOf_32 : decode cX7_sumOf 32 = .ok (.iload_n 2, 1) := by decide +kernel
theorem dX7_sumOf_33 : decode cX7_sumOf 33 = .ok (.ifCond .eq 13, 3) := by decide +kernel
theorem dX7_sumOf_36 : decode cX7_sumOf 36 = .ok (.aload_n 0, 1) := by decide +kernel
theorem dX7_sumOf_37 : decode cX7_sumOf 37 = .ok (.iload 4, 2) := by decide +kernel
theorem dX7_sumOf_39 : decode cX7_sumOf 39 = .ok (.iconst 2, 1) := by decide +kernel
theorem dX7_sumOf_40 : decode cX7_sumOf 40 = .ok (.invokevirtual 59, 3) := by decide +kernel
theorem dX7_sumOf_43 : decode cX7_sumOf 43 = .ok (.goto 4, 3) := by decide +kernel
theorem dX7_sumOf_46 : decode cX7_sumOf 46 = .ok (.iconst 1, 1) := by decide +kernel
theorem dX7_sumOf_47 : decode cX7_sumOf 47 = .ok (.iadd, 1) := by decide +kernel
theorem dX7_sumOf_48 : decode cX7_sumOf 48 = .ok (.istore_n 3, 1) := by decide +kernel
theorem dX7_sumOf_49 : decode cX7_sumOf 49 = .ok (.iinc 4 1, 3) := by decide +kernel
theorem dX7_sumOf_52 : decode cX7_sumOf 52 = .ok (.goto (-47), 3) := by decide +kernel
theorem dX7_sumOf_55 : decode cX7_sumOf 55 = .ok (.iload_n 3, 1) := by decide +kernel
theorem dX7_sumOf_56 : decode cX7_sumOf 56 = .ok (.ireturn, 1) := by decide +kernel
theorem dX7_nameOf_0 : decode cX7_nameOf 0 = .ok (.iload_n 1, 1) := by decide +kernel
theorem dX7_nameOf_1 : decode cX7_nameOf 1 = .ok (.invokestatic 66, 3) := by decide +kernel
theorem dX7_nameOf_4 : decode cX7_nameOf 4 = .ok (.ifCond .eq 15, 3) := by decide +kernel
theorem dX7_nameOf_7 : decode cX7_nameOf 7 = .ok (.iload_n 2, 1) := by decide +kernel
theorem dX7_nameOf_8 : decode cX7_nameOf 8 = .ok (.i2l, 1) := by decide +kernel
theorem dX7_nameOf_9 : decode cX7_nameOf 9 = .ok (.lconst 0, 1) := by decide +kernel
theorem dX7_nameOf_10 : decode cX7_nameOf 10 = .ok (.ldc2_w 55, 3) := by decide +kernel
theorem dX7_nameOf_13 : decode cX7_nameOf 13 = .ok (.invokestatic 51, 3) := by decide +kernel
theorem dX7_nameOf_16 : decode cX7_nameOf 16 = .ok (.ifCond .ne 10, 3) := by decide +kernel
theorem dX7_nameOf_19 : decode cX7_nameOf 19 = .ok (.aload_n 0, 1) := by decide +kernel
theorem dX7_nameOf_20 : decode cX7_nameOf 20 = .ok (.ldc 43, 2) := by decide +kernel
theorem dX7_nameOf_22 : decode cX7_nameOf 22 = .ok (.invokevirtual 45, 3) := by decide +kernel
theorem dX7_nameOf_25 : decode cX7_nameOf 25 = .ok (.ireturn, 1) := by decide +kernel
theorem dX7_nameOf_26 : decode cX7_nameOf 26 = .ok (.iload_n 2, 1) := by decide +kernel
theorem dX7_nameOf_27 : decode cX7_nameOf 27 = .ok (.tableswitch 88 0 5 #[37, 48, 62, 68, 75, 82], 37) := by decide +kernel
theorem dX7_nameOf_64 : decode cX7_nameOf 64 = .ok (.aload_n 0, 1) := by decide +kernel
theorem dX7_nameOf_65 : decode cX7_nameOf 65 = .ok (.getfield 9, 3) := by decide +kernel
theorem dX7_nameOf_68 : decode cX7_nameOf 68 = .ok (.iconst 4, 1) := by decide +kernel
theorem dX7_nameOf_69 : decode cX7_nameOf 69 = .ok (.iconst 2, 1) := by decide +kernel
theorem dX7_nameOf_70 : decode cX7_nameOf 70 = .ok (.iload_n 1, 1) := by decide +kernel
theorem dX7_nameOf_71 : decode cX7_nameOf 71 = .ok (.imul, 1) := by decide +kernel
theorem dX7_nameOf_72 : decode cX7_nameOf 72 = .ok (.iadd, 1) := by decide +kernel
theorem dX7_nameOf_73 : decode cX7_nameOf 73 = .ok (.iaload, 1) := by decide +kernel
theorem dX7_nameOf_74 : decode cX7_nameOf 74 = .ok (.ireturn, 1) := by decide +kernel
theorem dX7_nameOf_75 : decode cX7_nameOf 75 = .ok (.aload_n 0, 1) := by decide +kernel
theorem dX7_nameOf_76 : decode cX7_nameOf 76 = .ok (.iload_n 1, 1) := by decide +kernel
theorem dX7_nameOf_77 : decode cX7_nameOf 77 = .ok (.invokevirtual 103, 3) := by decide +kernel
theorem dX7_nameOf_80 : decode cX7_nameOf 80 = .ok (.ifCond .eq 7, 3) := by decide +kernel
theorem dX7_nameOf_83 : decode cX7_nameOf 83 = .ok (.iconst 1, 1) := by decide +kernel
theorem dX7_nameOf_84 : decode cX7_nameOf 84 = .ok (.goto 4, 3) := by decide +kernel
theorem dX7_nameOf_87 : decode cX7_nameOf 87 = .ok (.iconst 0, 1) := by decide +kernel
theorem dX7_nameOf_88 : decode cX7_nameOf 88 = .ok (.ireturn, 1) := by decide +kernel
theorem dX7_nameOf_89 : decode cX7_nameOf 89 = .ok (.aload_n 0, 1) := by decide +kernel
theorem dX7_nameOf_90 : decode cX7_nameOf 90 = .ok (.iload_n 1, 1) := by decide +kernel
theorem dX7_nameOf_91 : decode cX7_nameOf 91 = .ok (.invokevirtual 106, 3) := by decide +kernel
theorem dX7_nameOf_94 : decode cX7_nameOf 94 = .ok (.ireturn, 1) := by decide +kernel
theorem dX7_nameOf_95 : decode cX7_nameOf 95 = .ok (.aload_n 0, 1) := by decide +kernel
theorem dX7_nameOf_96 : decode cX7_nameOf 96 = .ok (.iload_n 1, 1) := by decide +kernel
theorem dX7_nameOf_97 : decode cX7_nameOf 97 = .ok (.iconst 0, 1) := by decide +kernel
theorem dX7_nameOf_98 : decode cX7_nameOf 98 = .ok (.invokevirtual 109, 3) := by decide +kernel
theorem dX7_nameOf_101 : decode cX7_nameOf 101 = .ok (.ireturn, 1) := by decide +kernel
theorem dX7_nameOf_102 : decode cX7_nameOf 102 = .ok (.aload_n 0, 1) := by decide +kernel
theorem dX7_nameOf_103 : decode cX7_nameOf 103 = .ok (.iload_n 1, 1) := by decide +kernel
theorem dX7_nameOf_104 : decode cX7_nameOf 104 = .ok (.iconst 1, 1) := by decide +kernel
theorem dX7_nameOf_105 : decode cX7_nameOf 105 = .ok (.invokevirtual 109, 3) := by decide +kernel
theorem dX7_nameOf_108 : decode cX7_nameOf 108 = .ok (.ireturn, 1) := by decide +kernel
theorem dX7_nameOf_109 : decode cX7_nameOf 109 = .ok (.aload_n 0, 1) := by decide +kernel
theorem dX7_nameOf_110 : decode cX7_nameOf 110 = .ok (.iload_n 1, 1) := by decide +kernel
theorem dX7_nameOf_111 : decode cX7_nameOf 111 = .ok (.invokevirtual 113, 3) := by decide +kernel
theorem dX7_nameOf_114 : decode cX7_nameOf 114 = .ok (.ireturn, 1) := by decide +kernel
theorem dX7_nameOf_115 : decode cX7_nameOf 115 = .ok (.aload_n 0, 1) := by decide +kernel
theorem dX7_nameOf_116 : decode cX7_nameOf 116 = .ok (.getfield 9, 3) := by decide +kernel
theorem dX7_nameOf_119 : decode cX7_nameOf 119 = .ok (.iconst 4, 1) := by decide +kernel
theorem dX7_nameOf_120 : decode cX7_nameOf 120 = .ok (.iconst 2, 1) := by decide +kernel
theorem dX7_nameOf_121 : decode cX7_nameOf 121 = .ok (.iload_n 1, 1) := by decide +kernel
theorem dX7_nameOf_122 : decode cX7_nameOf 122 = .ok (.imul, 1) := by decide +kernel
theorem dX7_nameOf_123 : decode cX7_nameOf 123 = .ok (.iadd, 1) := by decide +kernel
theorem dX7_nameOf_124 : decode cX7_nameOf 124 = .ok (.iconst 1, 1) := by decide +kernel
theorem dX7_nameOf_125 : decode cX7_nameOf 125 = .ok (.iadd, 1) := by decide +kernel
theorem dX7_nameOf_126 : decode cX7_nameOf 126 = .ok (.iaload, 1) := by decide +kernel
theorem dX7_nameOf_127 : decode cX7_nameOf 127 = .ok (.ireturn, 1) := by decide +kernel
theorem dX7_rings_0 : decode cX7_rings 0 = .ok (.iconst 0, 1) := by decide +kernel
theorem dX7_rings_1 : decode cX7_rings 1 = .ok (.istore_n 1, 1) := by decide +kernel
theorem dX7_rings_2 : decode cX7_rings 2 = .ok (.iconst 0, 1) := by decide +kernel
theorem dX7_rings_3 : decode cX7_rings 3 = .ok (.istore_n 2, 1) := by decide +kernel
theorem dX7_rings_4 : decode cX7_rings 4 = .ok (.iload_n 2, 1) := by decide +kernel
theorem dX7_rings_5 : decode cX7_rings 5 = .ok (.aload_n 0, 1) := by decide +kernel
theorem dX7_rings_6 : decode cX7_rings 6 = .ok (.getfield 9, 3) := by decide +kernel
theorem dX7_rings_9 : decode cX7_rings 9 = .ok (.iconst 2, 1) := by decide +kernel
theorem dX7_rings_10 : decode cX7_rings 10 = .ok (.iaload, 1) := by decide +kernel
theorem dX7_rings_11 : decode cX7_rings 11 = .ok (.if_icmp .ge 28, 3) := by decide +kernel
theorem dX7_rings_14 : decode cX7_rings 14 = .ok (.iload_n 1, 1) := by decide +kernel
theorem dX7_rings_15 : decode cX7_rings 15 = .ok (.aload_n 0, 1) := by decide +kernel
theorem dX7_rings_16 : decode cX7_rings 16 = .ok (.iload_n 2, 1) := by decide +kernel
theorem dX7_rings_17 : decode cX7_rings 17 = .ok (.iload_n 2, 1) := by decide +kernel
theorem dX7_rings_18 : decode cX7_rings 18 = .ok (.invokevirtual 99, 3) := by decide +kernel
theorem dX7_rings_21 : decode cX7_rings 21 = .ok (.ifCond .eq 9, 3) := by decide +kernel
theorem dX7_rings_24 : decode cX7_rings 24 = .ok (.iconst 1, 1) := by decide +kernel
theorem dX7_rings_25 : decode cX7_rings 25 = .ok (.iload_n 2, 1) := by decide +kernel
theorem dX7_rings_26 : decode cX7_rings 26 = .ok (.ishl, 1) := by decide +kernel
theorem dX7_rings_27 : decode cX7_rings 27 = .ok (.goto 4, 3) := by decide +kernel
theorem dX7_rings_30 : decode cX7_rings 30 = .ok (.iconst 0, 1) := by decide +kernel
theorem dX7_rings_31 : decode cX7_rings 31 = .ok (.ior, 1) := by decide +kernel
theorem dX7_rings_32 : decode cX7_rings 32 = .ok (.istore_n 1, 1) := by decide +kernel
theorem dX7_rings_33 : decode cX7_rings 33 = .ok (.iinc 2 1, 3) := by decide +kernel
theorem dX7_rings_36 : decode cX7_rings 36 = .ok (.goto (-32), 3) := by decide +kernel
theorem dX7_rings_39 : decode cX7_rings 39 = .ok (.iload_n 1, 1) := by decide +kernel
theorem dX7_rings_40 : decode cX7_rings 40 = .ok (.ireturn, 1) := by decide +kernel
theorem dX7_waits_0 : decode cX7_waits 0 = .ok (.aload_n 0, 1) := by decide +kernel
theorem dX7_waits_1 : decode cX7_waits 1 = .ok (.iload_n 1, 1) := by decide +kernel
theorem dX7_waits_2 : decode cX7_waits 2 = .ok (.invokevirtual 91, 3) := by decide +kernel
theorem dX7_waits_5 : decode cX7_waits 5 = .ok (.ifCond .ne 10, 3) := by decide +kernel
theorem dX7_waits_8 : decode cX7_waits 8 = .ok (.aload_n 0, 1) := by decide +kernel
theorem dX7_waits_9 : decode cX7_waits 9 = .ok (.ldc 43, 2) := by decide +kernel
theorem dX7_waits_11 : decode cX7_waits 11 = .ok (.invokevirtual 45, 3) := by decide +kernel
theorem dX7_waits_14 : decode cX7_waits 14 = .ok (.ireturn, 1) := by decide +kernel
theorem dX7_waits_15 : decode cX7_waits 15 = .ok (.iconst 0, 1) := by decide +kernel
theorem dX7_waits_16 : decode cX7_waits 16 = .ok (.istore_n 2, 1) := by decide +kernel
theorem dX7_waits_17 : decode cX7_waits 17 = .ok (.iconst 0, 1) := by decide +kernel
theorem dX7_waits_18 : decode cX7_waits 18 = .ok (.istore_n 3, 1) := by decide +kernel
theorem dX7_waits_19 : decode cX7_waits 19 = .ok (.iload_n 3, 1) := by decide +kernel
theorem dX7_waits_20 : decode cX7_waits 20 = .ok (.aload_n 0, 1) := by decide +kernel
theorem dX7_waits_21 : decode cX7_waits 21 = .ok (.getfield 9, 3) := by decide +kernel
theorem dX7_waits_24 : decode cX7_waits 24 = .ok (.iconst 2, 1) := by decide +kernel
theorem dX7_waits_25 : decode cX7_waits 25 = .ok (.iaload, 1) := by decide +kernel
theorem dX7_waits_26 : decode cX7_waits 26 = .ok (.if_icmp .ge 28, 3) := by decide +kernel
theorem dX7_waits_29 : decode cX7_waits 29 = .ok (.iload_n 2, 1) := by decide +kernel
theorem dX7_waits_30 : decode cX7_waits 30 = .ok (.aload_n 0, 1) := by decide +kernel
theorem dX7_waits_31 : decode cX7_waits 31 = .ok (.iload_n 3, 1) := by decide +kernel
theorem dX7_waits_32 : decode cX7_waits 32 = .ok (.iload_n 1, 1) := by decide +kernel
theorem dX7_waits_33 : decode cX7_waits 33 = .ok (.invokevirtual 99, 3) := by decide +kernel
theorem dX7_waits_36 : decode cX7_waits 36 = .ok (.ifCond .eq 9, 3) := by decide +kernel
theorem dX7_waits_39 : decode cX7_waits 39 = .ok (.iconst 1, 1) := by decide +kernel
theorem dX7_waits_40 : decode cX7_waits 40 = .ok (.iload_n 3, 1) := by decide +kernel
theorem dX7_waits_41 : decode cX7_waits 41 = .ok (.ishl, 1) := by decide +kernel
theorem dX7_waits_42 : decode cX7_waits 42 = .ok (.goto 4, 3) := by decide +kernel
theorem dX7_waits_45 : decode cX7_waits 45 = .ok (.iconst 0, 1) := by decide +kernel
theorem dX7_waits_46 : decode cX7_waits 46 = .ok (.ior, 1) := by decide +kernel
theorem dX7_waits_47 : decode cX7_waits 47 = .ok (.istore_n 2, 1) := by decide +kernel
theorem dX7_waits_48 : decode cX7_waits 48 = .ok (.iinc 3 1, 3) := by decide +kernel
theorem dX7_waits_51 : decode cX7_waits 51 = .ok (.goto (-32), 3) := by decide +kernel
theorem dX7_waits_54 : decode cX7_waits 54 = .ok (.iload_n 2, 1) := by decide +kernel
theorem dX7_waits_55 : decode cX7_waits 55 = .ok (.ireturn, 1) := by decide +kernel
theorem dX7_isBorn_0 : decode cX7_isBorn 0 = .ok (.bipush 100, 2) := by decide +kernel
theorem dX7_isBorn_2 : decode cX7_isBorn 2 = .ok (.iconst 4, 1) := by decide +kernel
theorem dX7_isBorn_3 : decode cX7_isBorn 3 = .ok (.aload_n 0, 1) := by decide +kernel
theorem dX7_isBorn_4 : decode cX7_isBorn 4 = .ok (.getfield 9, 3) := by decide +kernel
theorem dX7_isBorn_7 : decode cX7_isBorn 7 = .ok (.iconst 3, 1) := by decide +kernel
theorem dX7_isBorn_8 : decode cX7_isBorn 8 = .ok (.iaload, 1) := by decide +kernel
theorem dX7_isBorn_9 : decode cX7_isBorn 9 = .ok (.imul, 1) := by decide +kernel
theorem dX7_isBorn_10 : decode cX7_isBorn 10 = .ok (.iadd, 1) := by decide +kernel
theorem dX7_isBorn_11 : decode cX7_isBorn 11 = .ok (.istore 4, 2) := by decide +kernel
theorem dX7_isBorn_13 : decode cX7_isBorn 13 = .ok (.aload_n 0, 1) := by decide +kernel
theorem dX7_isBorn_14 : decode cX7_isBorn 14 = .ok (.getfield 9, 3) := by decide +kernel
theorem dX7_isBorn_17 : decode cX7_isBorn 17 = .ok (.iload 4, 2) := by decide +kernel
theorem dX7_isBorn_19 : decode cX7_isBorn 19 = .ok (.iload_n 3, 1) := by decide +kernel
theorem dX7_isBorn_20 : decode cX7_isBorn 20 = .ok (.iastore, 1) := by decide +kernel
theorem dX7_isBorn_21 : decode cX7_isBorn 21 = .ok (.aload_n 0, 1) := by decide +kernel
theorem dX7_isBorn_22 : decode cX7_isBorn 22 = .ok (.getfield 9, 3) := by decide +kernel
theorem dX7_isBorn_25 : decode cX7_isBorn 25 = .ok (.iload 4, 2) := by decide +kernel
theorem dX7_isBorn_27 : decode cX7_isBorn 27 = .ok (.iconst 1, 1) := by decide +kernel
theorem dX7_isBorn_28 : decode cX7_isBorn 28 = .ok (.iadd, 1) := by decide +kernel
theorem dX7_isBorn_29 : decode cX7_isBorn 29 = .ok (.iload_n 2, 1) := by decide +kernel
theorem dX7_isBorn_30 : decode cX7_isBorn 30 = .ok (.iastore, 1) := by decide +kernel
theorem dX7_isBorn_31 : decode cX7_isBorn 31 = .ok (.aload_n 0, 1) := by decide +kernel
theorem dX7_isBorn_32 : decode cX7_isBorn 32 = .ok (.getfield 9, 3) := by decide +kernel
theorem dX7_isBorn_35 : decode cX7_isBorn 35 = .ok (.iload 4, 2) := by decide +kernel
theorem dX7_isBorn_37 : decode cX7_isBorn 37 = .ok (.iconst 2, 1) := by decide +kernel
theorem dX7_isBorn_38 : decode cX7_isBorn 38 = .ok (.iadd, 1) := by decide +kernel
theorem dX7_isBorn_39 : decode cX7_isBorn 39 = .ok (.iload_n 1, 1) := by decide +kernel
theorem dX7_isBorn_40 : decode cX7_isBorn 40 = .ok (.iastore, 1) := by decide +kernel
theorem dX7_isBorn_41 : decode cX7_isBorn 41 = .ok (.aload_n 0, 1) := by decide +kernel
theorem dX7_isBorn_42 : decode cX7_isBorn 42 = .ok (.getfield 9, 3) := by decide +kernel
theorem dX7_isBorn_45 : decode cX7_isBorn 45 = .ok (.iload 4, 2) := by decide +kernel
theorem dX7_isBorn_47 : decode cX7_isBorn 47 = .ok (.iconst 3, 1) := by decide +kernel
theorem dX7_isBorn_48 : decode cX7_isBorn 48 = .ok (.iadd, 1) := by decide +kernel
theorem dX7_isBorn_49 : decode cX7_isBorn 49 = .ok (.iconst (-1), 1) := by decide +kernel
theorem dX7_isBorn_50 : decode cX7_isBorn 50 = .ok (.iastore, 1) := by decide +kernel
theorem dX7_isBorn_51 : decode cX7_isBorn 51 = .ok (.aload_n 0, 1) := by decide +kernel
theorem dX7_isBorn_52 : decode cX7_isBorn 52 = .ok (.getfield 9, 3) := by decide +kernel
theorem dX7_isBorn_55 : decode cX7_isBorn 55 = .ok (.iconst 3, 1) := by decide +kernel
theorem dX7_isBorn_56 : decode cX7_isBorn 56 = .ok (.dup2, 1) := by decide +kernel
theorem dX7_isBorn_57 : decode cX7_isBorn 57 = .ok (.iaload, 1) := by decide +kernel
theorem dX7_isBorn_58 : decode cX7_isBorn 58 = .ok (.iconst 1, 1) := by decide +kernel
theorem dX7_isBorn_59 : decode cX7_isBorn 59 = .ok (.iadd, 1) := by decide +kernel
theorem dX7_isBorn_60 : decode cX7_isBorn 60 = .ok (.iastore, 1) := by decide +kernel
theorem dX7_isBorn_61 : decode cX7_isBorn 61 = .ok (.return_, 1) := by decide +kernel
theorem dX7_person_0 : decode cX7_person 0 = .ok (.iload_n 1, 1) := by decide +kernel
theorem dX7_person_1 : decode cX7_person 1 = .ok (.invokestatic 116, 3) := by decide +kernel
theorem dX7_person_4 : decode cX7_person 4 = .ok (.ifCond .ne 10, 3) := by decide +kernel
theorem dX7_person_7 : decode cX7_person 7 = .ok (.aload_n 0, 1) := by decide +kernel
theorem dX7_person_8 : decode cX7_person 8 = .ok (.ldc 43, 2) := by decide +kernel
theorem dX7_person_10 : decode cX7_person 10 = .ok (.invokevirtual 45, 3) := by decide +kernel
theorem dX7_person_13 : decode cX7_person 13 = .ok (.ireturn, 1) := by decide +kernel
theorem dX7_person_14 : decode cX7_person 14 = .ok (.aload_n 0, 1) := by decide +kernel
theorem dX7_person_15 : decode cX7_person 15 = .ok (.getfield 9, 3) := by decide +kernel
theorem dX7_person_18 : decode cX7_person 18 = .ok (.iconst 3, 1) := by decide +kernel
theorem dX7_person_19 : decode cX7_person 19 = .ok (.iaload, 1) := by decide +kernel
theorem dX7_person_20 : decode cX7_person 20 = .ok (.bipush 8, 2) := by decide +kernel
theorem dX7_person_22 : decode cX7_person 22 = .ok (.if_icmp .ne 10, 3) := by decide +kernel
theorem dX7_person_25 : decode cX7_person 25 = .ok (.aload_n 0, 1) := by decide +kernel
theorem dX7_person_26 : decode cX7_person 26 = .ok (.ldc 80, 2) := by decide +kernel
theorem dX7_person_28 : decode cX7_person 28 = .ok (.invokevirtual 45, 3) := by decide +kernel
theorem dX7_person_31 : decode cX7_person 31 = .ok (.ireturn, 1) := by decide +kernel
theorem dX7_person_32 : decode cX7_person 32 = .ok (.aload_n 0, 1) := by decide +kernel
theorem dX7_person_33 : decode cX7_person 33 = .ok (.iload_n 1, 1) := by decide +kernel
theorem dX7_person_34 : decode cX7_person 34 = .ok (.iconst 0, 1) := by decide +kernel
theorem dX7_person_35 : decode cX7_person 35 = .ok (.iconst (-1), 1) := by decide +kernel
theorem dX7_person_36 : decode cX7_person 36 = .ok (.invokevirtual 119, 3) := by decide +kernel
theorem dX7_person_39 : decode cX7_person 39 = .ok (.aload_n 0, 1) := by decide +kernel
theorem dX7_person_40 : decode cX7_person 40 = .ok (.getfield 9, 3) := by decide +kernel
theorem dX7_person_43 : decode cX7_person 43 = .ok (.iconst 3, 1) := by decide +kernel
theorem dX7_person_44 : decode cX7_person 44 = .ok (.iaload, 1) := by decide +kernel
theorem dX7_person_45 : decode cX7_person 45 = .ok (.iconst 1, 1) := by decide +kernel
theorem dX7_person_46 : decode cX7_person 46 = .ok (.isub, 1) := by decide +kernel
theorem dX7_person_47 : decode cX7_person 47 = .ok (.ireturn, 1) := by decide +kernel
theorem dX7_of_0 : decode cX7_of 0 = .ok (.aload_n 0, 1) := by decide +kernel
theorem dX7_of_1 : decode cX7_of 1 = .ok (.iload_n 1, 1) := by decide +kernel
theorem dX7_of_2 : decode cX7_of 2 = .ok (.invokevirtual 123, 3) := by decide +kernel
theorem dX7_of_5 : decode cX7_of 5 = .ok (.ifCond .eq 24, 3) := by decide +kernel
theorem dX7_of_8 : decode cX7_of 8 = .ok (.iload_n 2, 1) := by decide +kernel
theorem dX7_of_9 : decode cX7_of 9 = .ok (.i2l, 1) := by decide +kernel
theorem dX7_of_10 : decode cX7_of 10 = .ok (.lconst 0, 1) := by decide +kernel
theorem dX7_of_11 : decode cX7_of 11 = .ok (.ldc2_w 126, 3) := by decide +kernel
theorem dX7_of_14 : decode cX7_of 14 = .ok (.invokestatic 51, 3) := by decide +kernel
theorem dX7_of_17 : decode cX7_of 17 = .ok (.ifCond .eq 12, 3) := by decide +kernel
theorem dX7_of_20 : decode cX7_of 20 = .ok (.aload_n 0, 1) := by decide +kernel
theorem dX7_of_21 : decode cX7_of 21 = .ok (.iload_n 1, 1) := by decide +kernel
theorem dX7_of_22 : decode cX7_of 22 = .ok (.iload_n 2, 1) := by decide +kernel
theorem dX7_of_23 : decode cX7_of 23 = .ok (.invokevirtual 63, 3) := by decide +kernel
theorem dX7_of_26 : decode cX7_of 26 = .ok (.goto 9, 3) := by decide +kernel
theorem dX7_of_29 : decode cX7_of 29 = .ok (.aload_n 0, 1) := by decide +kernel
theorem dX7_of_30 : decode cX7_of 30 = .ok (.ldc 43, 2) := by decide +kernel
theorem dX7_of_32 : decode cX7_of 32 = .ok (.invokevirtual 45, 3) := by decide +kernel
theorem dX7_of_35 : decode cX7_of 35 = .ok (.ireturn, 1) := by decide +kernel
theorem dX7_change_0 : decode cX7_change 0 = .ok (.iload_n 2, 1) := by decide +kernel
theorem dX7_change_1 : decode cX7_change 1 = .ok (.iconst 1, 1) := by decide +kernel
theorem dX7_change_2 : decode cX7_change 2 = .ok (.if_icmp .ne 15, 3) := by decide +kernel
theorem dX7_change_5 : decode cX7_change 5 = .ok (.iload_n 3, 1) := by decide +kernel
theorem dX7_change_6 : decode cX7_change 6 = .ok (.i2l, 1) := by decide +kernel
theorem dX7_change_7 : decode cX7_change 7 = .ok (.lconst 0, 1) := by decide +kernel
theorem dX7_change_8 : decode cX7_change 8 = .ok (.ldc2_w 128, 3) := by decide +kernel
theorem dX7_change_11 : decode cX7_change 11 = .ok (.invokestatic 51, 3) := by decide +kernel
theorem dX7_change_14 : decode cX7_change 14 = .ok (.goto 20, 3) := by decide +kernel
theorem dX7_change_17 : decode cX7_change 17 = .ok (.iload_n 2, 1) := by decide +kernel
theorem dX7_change_18 : decode cX7_change 18 = .ok (.iconst 2, 1) := by decide +kernel
theorem dX7_change_19 : decode cX7_change 19 = .ok (.if_icmp .ne 14, 3) := by decide +kernel
theorem dX7_change_22 : decode cX7_change 22 = .ok (.iload_n 3, 1) := by decide +kernel
theorem dX7_change_23 : decode cX7_change 23 = .ok (.invokestatic 116, 3) := by decide +kernel
theorem dX7_change_26 : decode cX7_change 26 = .ok (.ifCond .eq 7, 3) := by decide +kernel
theorem dX7_change_29 : decode cX7_change 29 = .ok (.iconst 1, 1) := by decide +kernel
theorem dX7_change_30 : decode cX7_change 30 = .ok (.goto 4, 3) := by decide +kernel
theorem dX7_change_33 : decode cX7_change 33 = .ok (.iconst 0, 1) := by decide +kernel
theorem dX7_change_34 : decode cX7_change 34 = .ok (.istore 4, 2) := by decide +kernel
theorem dX7_change_36 : decode cX7_change 36 = .ok (.aload_n 0, 1) := by decide +kernel
theorem dX7_change_37 : decode cX7_change 37 = .ok (.iload_n 1, 1) := by decide +kernel
theorem dX7_change_38 : decode cX7_change 38 = .ok (.invokevirtual 123, 3) := by decide +kernel
theorem dX7_change_41 : decode cX7_change 41 = .ok (.ifCond .eq 24, 3) := by decide +kernel
theorem dX7_change_44 : decode cX7_change 44 = .ok (.iload 4, 2) := by decide +kernel
theorem dX7_change_46 : decode cX7_change 46 = .ok (.ifCond .eq 19, 3) := by decide +kernel
theorem dX7_change_49 : decode cX7_change 49 = .ok (.aload_n 0, 1) := by decide +kernel
theorem dX7_change_50 : decode cX7_change 50 = .ok (.bipush 100, 2) := by decide +kernel
theorem dX7_change_52 : decode cX7_change 52 = .ok (.iconst 4, 1) := by decide +kernel
theorem dX7_change_53 : decode cX7_change 53 = .ok (.iload_n 1, 1) := by decide +kernel
theorem dX7_change_54 : decode cX7_change 54 = .ok (.imul, 1) := by decide +kernel
theorem dX7_change_55 : decode cX7_change 55 = .ok (.iadd, 1) := by decide +kernel
theorem dX7_change_56 : decode cX7_change 56 = .ok (.iload_n 2, 1) := by decide +kernel
theorem dX7_change_57 : decode cX7_change 57 = .ok (.iadd, 1) := by decide +kernel
theorem dX7_change_58 : decode cX7_change 58 = .ok (.iload_n 3, 1) := by decide +kernel
theorem dX7_change_59 : decode cX7_change 59 = .ok (.invokevirtual 72, 3) := by decide +kernel
theorem dX7_change_62 : decode cX7_change 62 = .ok (.goto 9, 3) := by decide +kernel
theorem dX7_change_65 : decode cX7_change 65 = .ok (.aload_n 0, 1) := by decide +kernel
theorem dX7_change_66 : decode cX7_change 66 = .ok (.ldc 43, 2) := by decide +kernel
theorem dX7_change_68 : decode cX7_change 68 = .ok (.invokevirtual 45, 3) := by decide +kernel
theorem dX7_change_71 : decode cX7_change 71 = .ok (.ireturn, 1) := by decide +kernel
theorem dX7_helps_0 : decode cX7_helps 0 = .ok (.aload_n 0, 1) := by decide +kernel
theorem dX7_helps_1 : decode cX7_helps 1 = .ok (.iload_n 1, 1) := by decide +kernel
theorem dX7_helps_2 : decode cX7_helps 2 = .ok (.invokevirtual 123, 3) := by decide +kernel
theorem dX7_helps_5 : decode cX7_helps 5 = .ok (.ifCond .eq 25, 3) := by decide +kernel
theorem dX7_helps_8 : decode cX7_helps 8 = .ok (.iload_n 2, 1) := by decide +kernel
theorem dX7_helps_9 : decode cX7_helps 9 = .ok (.iconst (-1), 1) := by decide +kernel
theorem dX7_helps_10 : decode cX7_helps 10 = .ok (.if_icmp .eq 16, 3) := by decide +kernel
theorem dX7_helps_13 : decode cX7_helps 13 = .ok (.aload_n 0, 1) := by decide +kernel
theorem dX7_helps_14 : decode cX7_helps 14 = .ok (.iload_n 2, 1) := by decide +kernel
theorem dX7_helps_15 : decode cX7_helps 15 = .ok (.invokevirtual 123, 3) := by decide +kernel
theorem dX7_helps_18 : decode cX7_helps 18 = .ok (.ifCond .eq 12, 3) := by decide +kernel
theorem dX7_helps_21 : decode cX7_helps 21 = .ok (.iload_n 2, 1) := by decide +kernel
theorem dX7_helps_22 : decode cX7_helps 22 = .ok (.iload_n 1, 1) := by decide +kernel
theorem dX7_helps_23 : decode cX7_helps 23 = .ok (.if_icmp .eq 7, 3) := by decide +kernel
theorem dX7_helps_26 : decode cX7_helps 26 = .ok (.iconst 1, 1) := by decide +kernel
theorem dX7_helps_27 : decode cX7_helps 27 = .ok (.goto 4, 3) := by decide +kernel
theorem dX7_helps_30 : decode cX7_helps 30 = .ok (.iconst 0, 1) := by decide +kernel
theorem dX7_helps_31 : decode cX7_helps 31 = .ok (.istore_n 3, 1) := by decide +kernel
theorem dX7_helps_32 : decode cX7_helps 32 = .ok (.iload_n 3, 1) := by decide +kernel
theorem dX7_helps_33 : decode cX7_helps 33 = .ok (.ifCond .eq 19, 3) := by decide +kernel
theorem dX7_helps_36 : decode cX7_helps 36 = .ok (.aload_n 0, 1) := by decide +kernel
theorem dX7_helps_37 : decode cX7_helps 37 = .ok (.bipush 100, 2) := by decide +kernel
theorem dX7_helps_39 : decode cX7_helps 39 = .ok (.iconst 4, 1) := by decide +kernel
theorem dX7_helps_40 : decode cX7_helps 40 = .ok (.iload_n 1, 1) := by decide +kernel
theorem dX7_helps_41 : decode cX7_helps 41 = .ok (.imul, 1) := by decide +kernel
theorem dX7_helps_42 : decode cX7_helps 42 = .ok (.iadd, 1) := by decide +kernel
theorem dX7_helps_43 : decode cX7_helps 43 = .ok (.iconst 3, 1) := by decide +kernel
theorem dX7_helps_44 : decode cX7_helps 44 = .ok (.iadd, 1) := by decide +kernel
theorem dX7_helps_45 : decode cX7_helps 45 = .ok (.iload_n 2, 1) := by decide +kernel
theorem dX7_helps_46 : decode cX7_helps 46 = .ok (.invokevirtual 72, 3) := by decide +kernel
theorem dX7_helps_49 : decode cX7_helps 49 = .ok (.goto 9, 3) := by decide +kernel
theorem dX7_helps_52 : decode cX7_helps 52 = .ok (.aload_n 0, 1) := by decide +kernel
theorem dX7_helps_53 : decode cX7_helps 53 = .ok (.ldc 43, 2) := by decide +kernel
theorem dX7_helps_55 : decode cX7_helps 55 = .ok (.invokevirtual 45, 3) := by decide +kernel
theorem dX7_helps_58 : decode cX7_helps 58 = .ok (.ireturn, 1) := by decide +kernel
theorem dX7_wrongTake_0 : decode cX7_wrongTake 0 = .ok (.aload_n 0, 1) := by decide +kernel
theorem dX7_wrongTake_1 : decode cX7_wrongTake 1 = .ok (.iload_n 1, 1) := by decide +kernel
theorem dX7_wrongTake_2 : decode cX7_wrongTake 2 = .ok (.invokevirtual 123, 3) := by decide +kernel
theorem dX7_wrongTake_5 : decode cX7_wrongTake 5 = .ok (.ifCond .eq 15, 3) := by decide +kernel
theorem dX7_wrongTake_8 : decode cX7_wrongTake 8 = .ok (.iload_n 2, 1) := by decide +kernel
theorem dX7_wrongTake_9 : decode cX7_wrongTake 9 = .ok (.iconst (-1), 1) := by decide +kernel
theorem dX7_wrongTake_10 : decode cX7_wrongTake 10 = .ok (.if_icmp .eq 13, 3) := by decide +kernel
theorem dX7_wrongTake_13 : decode cX7_wrongTake 13 = .ok (.iload_n 2, 1) := by decide +kernel
theorem dX7_wrongTake_14 : decode cX7_wrongTake 14 = .ok (.invokestatic 66, 3) := by decide +kernel
theorem dX7_wrongTake_17 : decode cX7_wrongTake 17 = .ok (.ifCond .ne 6, 3) := by decide +kernel
theorem dX7_wrongTake_20 : decode cX7_wrongTake 20 = .ok (.ldc 43, 2) := by decide +kernel
theorem dX7_wrongTake_22 : decode cX7_wrongTake 22 = .ok (.ireturn, 1) := by decide +kernel
theorem dX7_wrongTake_23 : decode cX7_wrongTake 23 = .ok (.iload_n 2, 1) := by decide +kernel
theorem dX7_wrongTake_24 : decode cX7_wrongTake 24 = .ok (.ifCond .ge 5, 3) := by decide +kernel
theorem dX7_wrongTake_27 : decode cX7_wrongTake 27 = .ok (.iconst 0, 1) := by decide +kernel
theorem dX7_wrongTake_28 : decode cX7_wrongTake 28 = .ok (.ireturn, 1) := by decide +kernel
theorem dX7_wrongTake_29 : decode cX7_wrongTake 29 = .ok (.aload_n 0, 1) := by decide +kernel
theorem dX7_wrongTake_30 : decode cX7_wrongTake 30 = .ok (.iload_n 2, 1) := by decide +kernel
theorem dX7_wrongTake_31 : decode cX7_wrongTake 31 = .ok (.invokevirtual 106, 3) := by decide +kernel
theorem dX7_wrongTake_34 : decode cX7_wrongTake 34 = .ok (.istore_n 3, 1) := by decide +kernel
theorem dX7_wrongTake_35 : decode cX7_wrongTake 35 = .ok (.iload_n 3, 1) := by decide +kernel
theorem dX7_wrongTake_36 : decode cX7_wrongTake 36 = .ok (.ifCond .lt 8, 3) := by decide +kernel
theorem dX7_wrongTake_39 : decode cX7_wrongTake 39 = .ok (.iload_n 3, 1) := by decide +kernel
theorem dX7_wrongTake_40 : decode cX7_wrongTake 40 = .ok (.iload_n 1, 1) := by decide +kernel
theorem dX7_wrongTake_41 : decode cX7_wrongTake 41 = .ok (.if_icmp .ne 14, 3) := by decide +kernel
theorem dX7_wrongTake_44 : decode cX7_wrongTake 44 = .ok (.aload_n 0, 1) := by decide +kernel
theorem dX7_wrongTake_45 : decode cX7_wrongTake 45 = .ok (.iload_n 1, 1) := by decide +kernel
theorem dX7_wrongTake_46 : decode cX7_wrongTake 46 = .ok (.iconst 1, 1) := by decide +kernel
theorem dX7_wrongTake_47 : decode cX7_wrongTake 47 = .ok (.invokevirtual 63, 3) := by decide +kernel
theorem dX7_wrongTake_50 : decode cX7_wrongTake 50 = .ok (.bipush 40, 2) := by decide +kernel
theorem dX7_wrongTake_52 : decode cX7_wrongTake 52 = .ok (.if_icmp .ne 8, 3) := by decide +kernel
theorem dX7_wrongTake_55 : decode cX7_wrongTake 55 = .ok (.ldc 130, 2) := by decide +kernel
theorem dX7_wrongTake_57 : decode cX7_wrongTake 57 = .ok (.goto 4, 3) := by decide +kernel
theorem dX7_wrongTake_60 : decode cX7_wrongTake 60 = .ok (.iconst 0, 1) := by decide +kernel
theorem dX7_wrongTake_61 : decode cX7_wrongTake 61 = .ok (.ireturn, 1) := by decide +kernel
theorem dX7_take_0 : decode cX7_take 0 = .ok (.aload_n 0, 1) := by decide +kernel
theorem dX7_take_1 : decode cX7_take 1 = .ok (.iload_n 1, 1) := by decide +kernel
theorem dX7_take_2 : decode cX7_take 2 = .ok (.iload_n 2, 1) := by decide +kernel
theorem dX7_take_3 : decode cX7_take 3 = .ok (.invokevirtual 131, 3) := by decide +kernel
theorem dX7_take_6 : decode cX7_take 6 = .ok (.istore_n 3, 1) := by decide +kernel
theorem dX7_take_7 : decode cX7_take 7 = .ok (.iload_n 3, 1) := by decide +kernel
theorem dX7_take_8 : decode cX7_take 8 = .ok (.ifCond .ge 11, 3) := by decide +kernel
theorem dX7_take_11 : decode cX7_take 11 = .ok (.aload_n 0, 1) := by decide +kernel
theorem dX7_take_12 : decode cX7_take 12 = .ok (.iload_n 3, 1) := by decide +kernel
theorem dX7_take_13 : decode cX7_take 13 = .ok (.invokevirtual 45, 3) := by decide +kernel
theorem dX7_take_16 : decode cX7_take 16 = .ok (.goto 14, 3) := by decide +kernel
theorem dX7_take_19 : decode cX7_take 19 = .ok (.aload_n 0, 1) := by decide +kernel
theorem dX7_take_20 : decode cX7_take 20 = .ok (.bipush 100, 2) := by decide +kernel
theorem dX7_take_22 : decode cX7_take 22 = .ok (.iconst 4, 1) := by decide +kernel
theorem dX7_take_23 : decode cX7_take 23 = .ok (.iload_n 1, 1) := by decide +kernel
theorem dX7_take_24 : decode cX7_take 24 = .ok (.imul, 1) := by decide +kernel
theorem dX7_take_25 : decode cX7_take 25 = .ok (.iadd, 1) := by decide +kernel
theorem dX7_take_26 : decode cX7_take 26 = .ok (.iload_n 2, 1) := by decide +kernel
theorem dX7_take_27 : decode cX7_take 27 = .ok (.invokevirtual 72, 3) := by decide +kernel
theorem dX7_take_30 : decode cX7_take 30 = .ok (.ireturn, 1) := by decide +kernel
theorem dX7_exchange_0 : decode cX7_exchange 0 = .ok (.aload_n 0, 1) := by decide +kernel
theorem dX7_exchange_1 : decode cX7_exchange 1 = .ok (.iload_n 1, 1) := by decide +kernel
theorem dX7_exchange_2 : decode cX7_exchange 2 = .ok (.invokevirtual 123, 3) := by decide +kernel
theorem dX7_exchange_5 : decode cX7_exchange 5 = .ok (.ifCond .eq 16, 3) := by decide +kernel
theorem dX7_exchange_8 : decode cX7_exchange 8 = .ok (.aload_n 0, 1) := by decide +kernel
theorem dX7_exchange_9 : decode cX7_exchange 9 = .ok (.iload_n 2, 1) := by decide +kernel
theorem dX7_exchange_10 : decode cX7_exchange 10 = .ok (.invokevirtual 123, 3) := by decide +kernel
theorem dX7_exchange_13 : decode cX7_exchange 13 = .ok (.ifCond .eq 8, 3) := by decide +kernel
theorem dX7_exchange_16 : decode cX7_exchange 16 = .ok (.iload_n 1, 1) := by decide +kernel
theorem dX7_exchange_17 : decode cX7_exchange 17 = .ok (.iload_n 2, 1) := by decide +kernel
theorem dX7_exchange_18 : decode cX7_exchange 18 = .ok (.if_icmp .ne 10, 3) := by decide +kernel
theorem dX7_exchange_21 : decode cX7_exchange 21 = .ok (.aload_n 0, 1) := by decide +kernel
theorem dX7_exchange_22 : decode cX7_exchange 22 = .ok (.ldc 43, 2) := by decide +kernel
theorem dX7_exchange_24 : decode cX7_exchange 24 = .ok (.invokevirtual 45, 3) := by decide +kernel
theorem dX7_exchange_27 : decode cX7_exchange 27 = .ok (.ireturn, 1) := by decide +kernel
theorem dX7_exchange_28 : decode cX7_exchange 28 = .ok (.aload_n 0, 1) := by decide +kernel
theorem dX7_exchange_29 : decode cX7_exchange 29 = .ok (.iload_n 1, 1) := by decide +kernel
theorem dX7_exchange_30 : decode cX7_exchange 30 = .ok (.iconst 1, 1) := by decide +kernel
theorem dX7_exchange_31 : decode cX7_exchange 31 = .ok (.invokevirtual 63, 3) := by decide +kernel
theorem dX7_exchange_34 : decode cX7_exchange 34 = .ok (.bipush 40, 2) := by decide +kernel
theorem dX7_exchange_36 : decode cX7_exchange 36 = .ok (.if_icmp .eq 14, 3) := by decide +kernel
theorem dX7_exchange_39 : decode cX7_exchange 39 = .ok (.aload_n 0, 1) := by decide +kernel
theorem dX7_exchange_40 : decode cX7_exchange 40 = .ok (.iload_n 2, 1) := by decide +kernel
theorem dX7_exchange_41 : decode cX7_exchange 41 = .ok (.iconst 1, 1) := by decide +kernel
theorem dX7_exchange_42 : decode cX7_exchange 42 = .ok (.invokevirtual 63, 3) := by decide +kernel
theorem dX7_exchange_45 : decode cX7_exchange 45 = .ok (.bipush 40, 2) := by decide +kernel
theorem dX7_exchange_47 : decode cX7_exchange 47 = .ok (.if_icmp .ne 10, 3) := by decide +kernel
theorem dX7_exchange_50 : decode cX7_exchange 50 = .ok (.aload_n 0, 1) := by decide +kernel
theorem dX7_exchange_51 : decode cX7_exchange 51 = .ok (.ldc 130, 2) := by decide +kernel
theorem dX7_exchange_53 : decode cX7_exchange 53 = .ok (.invokevirtual 45, 3) := by decide +kernel
theorem dX7_exchange_56 : decode cX7_exchange 56 = .ok (.ireturn, 1) := by decide +kernel
theorem dX7_exchange_57 : decode cX7_exchange 57 = .ok (.aload_n 0, 1) := by decide +kernel
theorem dX7_exchange_58 : decode cX7_exchange 58 = .ok (.getfield 9, 3) := by decide +kernel
theorem dX7_exchange_61 : decode cX7_exchange 61 = .ok (.bipush 100, 2) := by decide +kernel
theorem dX7_exchange_63 : decode cX7_exchange 63 = .ok (.iconst 4, 1) := by decide +kernel
theorem dX7_exchange_64 : decode cX7_exchange 64 = .ok (.iload_n 2, 1) := by decide +kernel
theorem dX7_exchange_65 : decode cX7_exchange 65 = .ok (.imul, 1) := by decide +kernel
theorem dX7_exchange_66 : decode cX7_exchange 66 = .ok (.iadd, 1) := by decide +kernel
theorem dX7_exchange_67 : decode cX7_exchange 67 = .ok (.aload_n 0, 1) := by decide +kernel
theorem dX7_exchange_68 : decode cX7_exchange 68 = .ok (.bipush 100, 2) := by decide +kernel
theorem dX7_exchange_70 : decode cX7_exchange 70 = .ok (.iconst 4, 1) := by decide +kernel
theorem dX7_exchange_71 : decode cX7_exchange 71 = .ok (.iload_n 1, 1) := by decide +kernel
theorem dX7_exchange_72 : decode cX7_exchange 72 = .ok (.imul, 1) := by decide +kernel
theorem dX7_exchange_73 : decode cX7_exchange 73 = .ok (.iadd, 1) := by decide +kernel
theorem dX7_exchange_74 : decode cX7_exchange 74 = .ok (.aload_n 0, 1) := by decide +kernel
theorem dX7_exchange_75 : decode cX7_exchange 75 = .ok (.iload_n 2, 1) := by decide +kernel
theorem dX7_exchange_76 : decode cX7_exchange 76 = .ok (.iconst 0, 1) := by decide +kernel
theorem dX7_exchange_77 : decode cX7_exchange 77 = .ok (.invokevirtual 63, 3) := by decide +kernel
theorem dX7_exchange_80 : decode cX7_exchange 80 = .ok (.invokevirtual 72, 3) := by decide +kernel
theorem dX7_exchange_83 : decode cX7_exchange 83 = .ok (.iastore, 1) := by decide +kernel
theorem dX7_exchange_84 : decode cX7_exchange 84 = .ok (.iconst 1, 1) := by decide +kernel
theorem dX7_exchange_85 : decode cX7_exchange 85 = .ok (.ireturn, 1) := by decide +kernel
theorem dX7_draw_0 : decode cX7_draw 0 = .ok (.aload_n 0, 1) := by decide +kernel
theorem dX7_draw_1 : decode cX7_draw 1 = .ok (.getfield 9, 3) := by decide +kernel
theorem dX7_draw_4 : decode cX7_draw 4 = .ok (.iconst 1, 1) := by decide +kernel
theorem dX7_draw_5 : decode cX7_draw 5 = .ok (.aload_n 0, 1) := by decide +kernel
theorem dX7_draw_6 : decode cX7_draw 6 = .ok (.getfield 9, 3) := by decide +kernel
theorem dX7_draw_9 : decode cX7_draw 9 = .ok (.iconst 1, 1) := by decide +kernel
theorem dX7_draw_10 : decode cX7_draw 10 = .ok (.iaload, 1) := by decide +kernel
theorem dX7_draw_11 : decode cX7_draw 11 = .ok (.ldc 134, 2) := by decide +kernel
theorem dX7_draw_13 : decode cX7_draw 13 = .ok (.imul, 1) := by decide +kernel
theorem dX7_draw_14 : decode cX7_draw 14 = .ok (.sipush 12345, 3) := by decide +kernel
theorem dX7_draw_17 : decode cX7_draw 17 = .ok (.iadd, 1) := by decide +kernel
theorem dX7_draw_18 : decode cX7_draw 18 = .ok (.iastore, 1) := by decide +kernel
theorem dX7_draw_19 : decode cX7_draw 19 = .ok (.aload_n 0, 1) := by decide +kernel
theorem dX7_draw_20 : decode cX7_draw 20 = .ok (.getfield 9, 3) := by decide +kernel
theorem dX7_draw_23 : decode cX7_draw 23 = .ok (.iconst 1, 1) := by decide +kernel
theorem dX7_draw_24 : decode cX7_draw 24 = .ok (.iaload, 1) := by decide +kernel
theorem dX7_draw_25 : decode cX7_draw 25 = .ok (.bipush 8, 2) := by decide +kernel
theorem dX7_draw_27 : decode cX7_draw 27 = .ok (.iushr, 1) := by decide +kernel
theorem dX7_draw_28 : decode cX7_draw 28 = .ok (.ireturn, 1) := by decide +kernel
theorem dX7_born_0 : decode cX7_born 0 = .ok (.iload_n 1, 1) := by decide +kernel
theorem dX7_born_1 : decode cX7_born 1 = .ok (.i2l, 1) := by decide +kernel
theorem dX7_born_2 : decode cX7_born 2 = .ok (.lconst 1, 1) := by decide +kernel
theorem dX7_born_3 : decode cX7_born 3 = .ok (.ldc2_w 135, 3) := by decide +kernel
theorem dX7_born_6 : decode cX7_born 6 = .ok (.invokestatic 51, 3) := by decide +kernel
theorem dX7_born_9 : decode cX7_born 9 = .ok (.ifCond .ne 10, 3) := by decide +kernel
theorem dX7_born_12 : decode cX7_born 12 = .ok (.aload_n 0, 1) := by decide +kernel
theorem dX7_born_13 : decode cX7_born 13 = .ok (.ldc 43, 2) := by decide +kernel
theorem dX7_born_15 : decode cX7_born 15 = .ok (.invokevirtual 45, 3) := by decide +kernel
theorem dX7_born_18 : decode cX7_born 18 = .ok (.ireturn, 1) := by decide +kernel
theorem dX7_born_19 : decode cX7_born 19 = .ok (.iconst 0, 1) := by decide +kernel
theorem dX7_born_20 : decode cX7_born 20 = .ok (.istore_n 2, 1) := by decide +kernel
theorem dX7_born_21 : decode cX7_born 21 = .ok (.iload_n 2, 1) := by decide +kernel
theorem dX7_born_22 : decode cX7_born 22 = .ok (.iload_n 1, 1) := by decide +kernel
theorem dX7_born_23 : decode cX7_born 23 = .ok (.if_icmp .ge 35, 3) := by decide +kernel
theorem dX7_born_26 : decode cX7_born 26 = .ok (.aload_n 0, 1) := by decide +kernel
theorem dX7_born_27 : decode cX7_born 27 = .ok (.getfield 9, 3) := by decide +kernel
theorem dX7_born_30 : decode cX7_born 30 = .ok (.iconst 3, 1) := by decide +kernel
theorem dX7_born_31 : decode cX7_born 31 = .ok (.iaload, 1) := by decide +kernel
theorem dX7_born_32 : decode cX7_born 32 = .ok (.bipush 8, 2) := by decide +kernel
theorem dX7_born_34 : decode cX7_born 34 = .ok (.if_icmp .ge 24, 3) := by decide +kernel
theorem dX7_born_37 : decode cX7_born 37 = .ok (.aload_n 0, 1) := by decide +kernel
theorem dX7_born_38 : decode cX7_born 38 = .ok (.aload_n 0, 1) := by decide +kernel
theorem dX7_born_39 : decode cX7_born 39 = .ok (.invokevirtual 137, 3) := by decide +kernel
theorem dX7_born_42 : decode cX7_born 42 = .ok (.bipush 9, 2) := by decide +kernel
theorem dX7_born_44 : decode cX7_born 44 = .ok (.irem, 1) := by decide +kernel
theorem dX7_born_45 : decode cX7_born 45 = .ok (.iconst 1, 1) := by decide +kernel
theorem dX7_born_46 : decode cX7_born 46 = .ok (.iadd, 1) := by decide +kernel
theorem dX7_born_47 : decode cX7_born 47 = .ok (.iconst 0, 1) := by decide +kernel
theorem dX7_born_48 : decode cX7_born 48 = .ok (.iconst (-1), 1) := by decide +kernel
theorem dX7_born_49 : decode cX7_born 49 = .ok (.invokevirtual 119, 3) := by decide +kernel
theorem dX7_born_52 : decode cX7_born 52 = .ok (.iinc 2 1, 3) := by decide +kernel
theorem dX7_born_55 : decode cX7_born 55 = .ok (.goto (-34), 3) := by decide +kernel
theorem dX7_born_58 : decode cX7_born 58 = .ok (.aload_n 0, 1) := by decide +kernel
theorem dX7_born_59 : decode cX7_born 59 = .ok (.getfield 9, 3) := by decide +kernel
theorem dX7_born_62 : decode cX7_born 62 = .ok (.iconst 3, 1) := by decide +kernel
theorem dX7_born_63 : decode cX7_born 63 = .ok (.iaload, 1) := by decide +kernel
theorem dX7_born_64 : decode cX7_born 64 = .ok (.ireturn, 1) := by decide +kernel
theorem dX7_isBorneThere_0 : decode cX7_isBorneThere 0 = .ok (.aload_n 0, 1) := by decide +kernel
theorem dX7_isBorneThere_1 : decode cX7_isBorneThere 1 = .ok (.iload_n 1, 1) := by decide +kernel
theorem dX7_isBorneThere_2 : decode cX7_isBorneThere 2 = .ok (.iconst 3, 1) := by decide +kernel
theorem dX7_isBorneThere_3 : decode cX7_isBorneThere 3 = .ok (.invokevirtual 59, 3) := by decide +kernel
theorem dX7_isBorneThere_6 : decode cX7_isBorneThere 6 = .ok (.istore_n 2, 1) := by decide +kernel
theorem dX7_isBorneThere_7 : decode cX7_isBorneThere 7 = .ok (.iload_n 2, 1) := by decide +kernel
theorem dX7_isBorneThere_8 : decode cX7_isBorneThere 8 = .ok (.ifCond .lt 16, 3) := by decide +kernel
theorem dX7_isBorneThere_11 : decode cX7_isBorneThere 11 = .ok (.aload_n 0, 1) := by decide +kernel
theorem dX7_isBorneThere_12 : decode cX7_isBorneThere 12 = .ok (.aload_n 0, 1) := by decide +kernel
theorem dX7_isBorneThere_13 : decode cX7_isBorneThere 13 = .ok (.iload_n 2, 1) := by decide +kernel
theorem dX7_isBorneThere_14 : decode cX7_isBorneThere 14 = .ok (.iconst 1, 1) := by decide +kernel
theorem dX7_isBorneThere_15 : decode cX7_isBorneThere 15 = .ok (.invokevirtual 59, 3) := by decide +kernel
theorem dX7_isBorneThere_18 : decode cX7_isBorneThere 18 = .ok (.invokevirtual 106, 3) := by decide +kernel
theorem dX7_isBorneThere_21 : decode cX7_isBorneThere 21 = .ok (.ifCond .lt 7, 3) := by decide +kernel
theorem dX7_isBorneThere_24 : decode cX7_isBorneThere 24 = .ok (.iconst 1, 1) := by decide +kernel
theorem dX7_isBorneThere_25 : decode cX7_isBorneThere 25 = .ok (.goto 4, 3) := by decide +kernel
theorem dX7_isBorneThere_28 : decode cX7_isBorneThere 28 = .ok (.iconst 0, 1) := by decide +kernel
theorem dX7_isBorneThere_29 : decode cX7_isBorneThere 29 = .ok (.ireturn, 1) := by decide +kernel
theorem dX7_work_0 : decode cX7_work 0 = .ok (.aload_n 0, 1) := by decide +kernel
theorem dX7_work_1 : decode cX7_work 1 = .ok (.getfield 9, 3) := by decide +kernel
theorem dX7_work_4 : decode cX7_work 4 = .ok (.iconst 0, 1) := by decide +kernel
theorem dX7_work_5 : decode cX7_work 5 = .ok (.iaload, 1) := by decide +kernel
theorem dX7_work_6 : decode cX7_work 6 = .ok (.iconst 2, 1) := by decide +kernel
theorem dX7_work_7 : decode cX7_work 7 = .ok (.irem, 1) := by decide +kernel
theorem dX7_work_8 : decode cX7_work 8 = .ok (.iconst 1, 1) := by decide +kernel
theorem dX7_work_9 : decode cX7_work 9 = .ok (.if_icmp .ne 9, 3) := by decide +kernel
theorem dX7_work_12 : decode cX7_work 12 = .ok (.iload_n 2, 1) := by decide +kernel
theorem dX7_work_13 : decode cX7_work 13 = .ok (.iconst 2, 1) := by decide +kernel
theorem dX7_work_14 : decode cX7_work 14 = .ok (.idiv, 1) := by decide +kernel
theorem dX7_work_15 : decode cX7_work 15 = .ok (.goto 4, 3) := by decide +kernel
theorem dX7_work_18 : decode cX7_work 18 = .ok (.iload_n 2, 1) := by decide +kernel
theorem dX7_work_19 : decode cX7_work 19 = .ok (.istore_n 3, 1) := by decide +kernel
theorem dX7_work_20 : decode cX7_work 20 = .ok (.aload_n 0, 1) := by decide +kernel
theorem dX7_work_21 : decode cX7_work 21 = .ok (.iload_n 1, 1) := by decide +kernel
theorem dX7_work_22 : decode cX7_work 22 = .ok (.iconst 0, 1) := by decide +kernel
theorem dX7_work_23 : decode cX7_work 23 = .ok (.invokevirtual 59, 3) := by decide +kernel
theorem dX7_work_26 : decode cX7_work 26 = .ok (.tableswitch 77 1 6 #[38, 77, 63, 53, 57, 40], 38) := by decide +kernel
theorem dX7_work_64 : decode cX7_work 64 = .ok (.iload_n 3, 1) := by decide +kernel
theorem dX7_work_65 : decode cX7_work 65 = .ok (.ireturn, 1) := by decide +kernel
theorem dX7_work_66 : decode cX7_work 66 = .ok (.iload_n 3, 1) := by decide +kernel
theorem dX7_work_67 : decode cX7_work 67 = .ok (.iconst 1, 1) := by decide +kernel
theorem dX7_work_68 : decode cX7_work 68 = .ok (.if_icmp .ge 7, 3) := by decide +kernel
theorem dX7_work_71 : decode cX7_work 71 = .ok (.iconst 0, 1) := by decide +kernel
theorem dX7_work_72 : decode cX7_work 72 = .ok (.goto 6, 3) := by decide +kernel
theorem dX7_work_75 : decode cX7_work 75 = .ok (.iload_n 3, 1) := by decide +kernel
theorem dX7_work_76 : decode cX7_work 76 = .ok (.iconst 1, 1) := by decide +kernel
theorem dX7_work_77 : decode cX7_work 77 = .ok (.isub, 1) := by decide +kernel
theorem dX7_work_78 : decode cX7_work 78 = .ok (.ireturn, 1) := by decide +kernel
theorem dX7_work_79 : decode cX7_work 79 = .ok (.iconst 2, 1) := by decide +kernel
theorem dX7_work_80 : decode cX7_work 80 = .ok (.iload_n 2, 1) := by decide +kernel
theorem dX7_work_81 : decode cX7_work 81 = .ok (.imul, 1) := by decide +kernel
theorem dX7_work_82 : decode cX7_work 82 = .ok (.ireturn, 1) := by decide +kernel
theorem dX7_work_83 : decode cX7_work 83 = .ok (.iconst 2, 1) := by decide +kernel
theorem dX7_work_84 : decode cX7_work 84 = .ok (.iload_n 2, 1) := by decide +kernel
theorem dX7_work_85 : decode cX7_work 85 = .ok (.imul, 1) := by decide +kernel
theorem dX7_work_86 : decode cX7_work 86 = .ok (.iconst 1, 1) := by decide +kernel
theorem dX7_work_87 : decode cX7_work 87 = .ok (.iadd, 1) := by decide +kernel
theorem dX7_work_88 : decode cX7_work 88 = .ok (.ireturn, 1) := by decide +kernel
theorem dX7_work_89 : decode cX7_work 89 = .ok (.aload_n 0, 1) := by decide +kernel
theorem dX7_work_90 : decode cX7_work 90 = .ok (.iload_n 1, 1) := by decide +kernel
theorem dX7_work_91 : decode cX7_work 91 = .ok (.invokevirtual 141, 3) := by decide +kernel
theorem dX7_work_94 : decode cX7_work 94 = .ok (.ifCond .eq 7, 3) := by decide +kernel
theorem dX7_work_97 : decode cX7_work 97 = .ok (.iload_n 2, 1) := by decide +kernel
theorem dX7_work_98 : decode cX7_work 98 = .ok (.goto 4, 3) := by decide +kernel
theorem dX7_work_101 : decode cX7_work 101 = .ok (.iconst 0, 1) := by decide +kernel
theorem dX7_work_102 : decode cX7_work 102 = .ok (.ireturn, 1) := by decide +kernel
theorem dX7_work_103 : decode cX7_work 103 = .ok (.iload_n 2, 1) := by decide +kernel
theorem dX7_work_104 : decode cX7_work 104 = .ok (.ireturn, 1) := by decide +kernel
theorem dX7_does_0 : decode cX7_does 0 = .ok (.aload_n 0, 1) := by decide +kernel
theorem dX7_does_1 : decode cX7_does 1 = .ok (.iload_n 1, 1) := by decide +kernel
theorem dX7_does_2 : decode cX7_does 2 = .ok (.invokevirtual 113, 3) := by decide +kernel
theorem dX7_does_5 : decode cX7_does 5 = .ok (.istore_n 3, 1) := by decide +kernel
theorem dX7_does_6 : decode cX7_does 6 = .ok (.iload_n 3, 1) := by decide +kernel
theorem dX7_does_7 : decode cX7_does 7 = .ok (.ifCond .lt 32, 3) := by decide +kernel
theorem dX7_does_10 : decode cX7_does 10 = .ok (.aload_n 0, 1) := by decide +kernel
theorem dX7_does_11 : decode cX7_does 11 = .ok (.getfield 9, 3) := by decide +kernel
theorem dX7_does_14 : decode cX7_does 14 = .ok (.bipush 20, 2) := by decide +kernel
theorem dX7_does_16 : decode cX7_does 16 = .ok (.iconst 4, 1) := by decide +kernel
theorem dX7_does_17 : decode cX7_does 17 = .ok (.iload_n 3, 1) := by decide +kernel
theorem dX7_does_18 : decode cX7_does 18 = .ok (.imul, 1) := by decide +kernel
theorem dX7_does_19 : decode cX7_does 19 = .ok (.iadd, 1) := by decide +kernel
theorem dX7_does_20 : decode cX7_does 20 = .ok (.iconst 2, 1) := by decide +kernel
theorem dX7_does_21 : decode cX7_does 21 = .ok (.iadd, 1) := by decide +kernel
theorem dX7_does_22 : decode cX7_does 22 = .ok (.aload_n 0, 1) := by decide +kernel
theorem dX7_does_23 : decode cX7_does 23 = .ok (.iload_n 3, 1) := by decide +kernel
theorem dX7_does_24 : decode cX7_does 24 = .ok (.iconst 2, 1) := by decide +kernel
theorem dX7_does_25 : decode cX7_does 25 = .ok (.invokevirtual 59, 3) := by decide +kernel
theorem dX7_does_28 : decode cX7_does 28 = .ok (.aload_n 0, 1) := by decide +kernel
theorem dX7_does_29 : decode cX7_does 29 = .ok (.iload_n 3, 1) := by decide +kernel
theorem dX7_does_30 : decode cX7_does 30 = .ok (.iload_n 2, 1) := by decide +kernel
theorem dX7_does_31 : decode cX7_does 31 = .ok (.invokevirtual 144, 3) := by decide +kernel
theorem dX7_does_34 : decode cX7_does 34 = .ok (.isub, 1) := by decide +kernel
theorem dX7_does_35 : decode cX7_does 35 = .ok (.invokestatic 147, 3) := by decide +kernel
theorem dX7_does_38 : decode cX7_does 38 = .ok (.iastore, 1) := by decide +kernel
theorem dX7_does_39 : decode cX7_does 39 = .ok (.return_, 1) := by decide +kernel
theorem dX7_isFree_0 : decode cX7_isFree 0 = .ok (.aload_n 0, 1) := by decide +kernel
theorem dX7_isFree_1 : decode cX7_isFree 1 = .ok (.iload_n 1, 1) := by decide +kernel
theorem dX7_isFree_2 : decode cX7_isFree 2 = .ok (.iconst 0, 1) := by decide +kernel
theorem dX7_isFree_3 : decode cX7_isFree 3 = .ok (.invokevirtual 63, 3) := by decide +kernel
theorem dX7_isFree_6 : decode cX7_isFree 6 = .ok (.istore_n 2, 1) := by decide +kernel
theorem dX7_isFree_7 : decode cX7_isFree 7 = .ok (.iload_n 2, 1) := by decide +kernel
theorem dX7_isFree_8 : decode cX7_isFree 8 = .ok (.ifCond .lt 11, 3) := by decide +kernel
theorem dX7_isFree_11 : decode cX7_isFree 11 = .ok (.aload_n 0, 1) := by decide +kernel
theorem dX7_isFree_12 : decode cX7_isFree 12 = .ok (.iload_n 2, 1) := by decide +kernel
theorem dX7_isFree_13 : decode cX7_isFree 13 = .ok (.invokevirtual 113, 3) := by decide +kernel
theorem dX7_isFree_16 : decode cX7_isFree 16 = .ok (.ifCond .ge 7, 3) := by decide +kernel
theorem dX7_isFree_19 : decode cX7_isFree 19 = .ok (.iconst 1, 1) := by decide +kernel
theorem dX7_isFree_20 : decode cX7_isFree 20 = .ok (.goto 4, 3) := by decide +kernel
theorem dX7_isFree_23 : decode cX7_isFree 23 = .ok (.iconst 0, 1) := by decide +kernel
theorem dX7_isFree_24 : decode cX7_isFree 24 = .ok (.ireturn, 1) := by decide +kernel
theorem dX7_helpsNow_0 : decode cX7_helpsNow 0 = .ok (.aload_n 0, 1) := by decide +kernel
theorem dX7_helpsNow_1 : decode cX7_helpsNow 1 = .ok (.iload_n 1, 1) := by decide +kernel
theorem dX7_helpsNow_2 : decode cX7_helpsNow 2 = .ok (.iconst 3, 1) := by decide +kernel
theorem dX7_helpsNow_3 : decode cX7_helpsNow 3 = .ok (.invokevirtual 63, 3) := by decide +kernel
theorem dX7_helpsNow_6 : decode cX7_helpsNow 6 = .ok (.istore_n 2, 1) := by decide +kernel
theorem dX7_helpsNow_7 : decode cX7_helpsNow 7 = .ok (.iload_n 2, 1) := by decide +kernel
theorem dX7_helpsNow_8 : decode cX7_helpsNow 8 = .ok (.ifCond .lt 20, 3) := by decide +kernel
theorem dX7_helpsNow_11 : decode cX7_helpsNow 11 = .ok (.aload_n 0, 1) := by decide +kernel
theorem dX7_helpsNow_12 : decode cX7_helpsNow 12 = .ok (.iload_n 2, 1) := by decide +kernel
theorem dX7_helpsNow_13 : decode cX7_helpsNow 13 = .ok (.iconst 0, 1) := by decide +kernel
theorem dX7_helpsNow_14 : decode cX7_helpsNow 14 = .ok (.invokevirtual 63, 3) := by decide +kernel
theorem dX7_helpsNow_17 : decode cX7_helpsNow 17 = .ok (.ifCond .lt 11, 3) := by decide +kernel
theorem dX7_helpsNow_20 : decode cX7_helpsNow 20 = .ok (.aload_n 0, 1) := by decide +kernel
theorem dX7_helpsNow_21 : decode cX7_helpsNow 21 = .ok (.iload_n 1, 1) := by decide +kernel
theorem dX7_helpsNow_22 : decode cX7_helpsNow 22 = .ok (.invokevirtual 150, 3) := by decide +kernel
theorem dX7_helpsNow_25 : decode cX7_helpsNow 25 = .ok (.ifCond .ne 4, 3) := by decide +kernel
theorem dX7_helpsNow_28 : decode cX7_helpsNow 28 = .ok (.return_, 1) := by decide +kernel
theorem dX7_helpsNow_29 : decode cX7_helpsNow 29 = .ok (.aload_n 0, 1) := by decide +kernel
theorem dX7_helpsNow_30 : decode cX7_helpsNow 30 = .ok (.aload_n 0, 1) := by decide +kernel
theorem dX7_helpsNow_31 : decode cX7_helpsNow 31 = .ok (.iload_n 2, 1) := by decide +kernel
theorem dX7_helpsNow_32 : decode cX7_helpsNow 32 = .ok (.iconst 0, 1) := by decide +kernel
theorem dX7_helpsNow_33 : decode cX7_helpsNow 33 = .ok (.invokevirtual 63, 3) := by decide +kernel
theorem dX7_helpsNow_36 : decode cX7_helpsNow 36 = .ok (.aload_n 0, 1) := by decide +kernel
theorem dX7_helpsNow_37 : decode cX7_helpsNow 37 = .ok (.iload_n 1, 1) := by decide +kernel
theorem dX7_helpsNow_38 : decode cX7_helpsNow 38 = .ok (.iconst 2, 1) := by decide +kernel
theorem dX7_helpsNow_39 : decode cX7_helpsNow 39 = .ok (.invokevirtual 63, 3) := by decide +kernel
theorem dX7_helpsNow_42 : decode cX7_helpsNow 42 = .ok (.iconst 2, 1) := by decide +kernel
theorem dX7_helpsNow_43 : decode cX7_helpsNow 43 = .ok (.idiv, 1) := by decide +kernel
theorem dX7_helpsNow_44 : decode cX7_helpsNow 44 = .ok (.invokevirtual 153, 3) := by decide +kernel
theorem dX7_helpsNow_47 : decode cX7_helpsNow 47 = .ok (.return_, 1) := by decide +kernel
theorem dX7_leaves_0 : decode cX7_leaves 0 = .ok (.aload_n 0, 1) := by decide +kernel
theorem dX7_leaves_1 : decode cX7_leaves 1 = .ok (.bipush 100, 2) := by decide +kernel
theorem dX7_leaves_3 : decode cX7_leaves 3 = .ok (.iconst 4, 1) := by decide +kernel
theorem dX7_leaves_4 : decode cX7_leaves 4 = .ok (.iload_n 1, 1) := by decide +kernel
theorem dX7_leaves_5 : decode cX7_leaves 5 = .ok (.imul, 1) := by decide +kernel
theorem dX7_leaves_6 : decode cX7_leaves 6 = .ok (.iadd, 1) := by decide +kernel
theorem dX7_leaves_7 : decode cX7_leaves 7 = .ok (.iconst (-1), 1) := by decide +kernel
theorem dX7_leaves_8 : decode cX7_leaves 8 = .ok (.invokevirtual 72, 3) := by decide +kernel
theorem dX7_leaves_11 : decode cX7_leaves 11 = .ok (.istore_n 2, 1) := by decide +kernel
theorem dX7_leaves_12 : decode cX7_leaves 12 = .ok (.aload_n 0, 1) := by decide +kernel
theorem dX7_leaves_13 : decode cX7_leaves 13 = .ok (.getfield 9, 3) := by decide +kernel
theorem dX7_leaves_16 : decode cX7_leaves 16 = .ok (.iconst 4, 1) := by decide +kernel
theorem dX7_leaves_17 : decode cX7_leaves 17 = .ok (.iconst 2, 1) := by decide +kernel
theorem dX7_leaves_18 : decode cX7_leaves 18 = .ok (.iload_n 2, 1) := by decide +kernel
theorem dX7_leaves_19 : decode cX7_leaves 19 = .ok (.imul, 1) := by decide +kernel
theorem dX7_leaves_20 : decode cX7_leaves 20 = .ok (.iadd, 1) := by decide +kernel
theorem dX7_leaves_21 : decode cX7_leaves 21 = .ok (.iconst 1, 1) := by decide +kernel
theorem dX7_leaves_22 : decode cX7_leaves 22 = .ok (.iadd, 1) := by decide +kernel
theorem dX7_leaves_23 : decode cX7_leaves 23 = .ok (.dup2, 1) := by decide +kernel
theorem dX7_leaves_24 : decode cX7_leaves 24 = .ok (.iaload, 1) := by decide +kernel
theorem dX7_leaves_25 : decode cX7_leaves 25 = .ok (.iconst 1, 1) := by decide +kernel
theorem dX7_leaves_26 : decode cX7_leaves 26 = .ok (.iadd, 1) := by decide +kernel
theorem dX7_leaves_27 : decode cX7_leaves 27 = .ok (.iastore, 1) := by decide +kernel
theorem dX7_leaves_28 : decode cX7_leaves 28 = .ok (.aload_n 0, 1) := by decide +kernel
theorem dX7_leaves_29 : decode cX7_leaves 29 = .ok (.iload_n 2, 1) := by decide +kernel
theorem dX7_leaves_30 : decode cX7_leaves 30 = .ok (.invokevirtual 103, 3) := by decide +kernel
theorem dX7_leaves_33 : decode cX7_leaves 33 = .ok (.ifCond .eq 22, 3) := by decide +kernel
theorem dX7_leaves_36 : decode cX7_leaves 36 = .ok (.aload_n 0, 1) := by decide +kernel
theorem dX7_leaves_37 : decode cX7_leaves 37 = .ok (.getfield 9, 3) := by decide +kernel
theorem dX7_leaves_40 : decode cX7_leaves 40 = .ok (.iconst 2, 1) := by decide +kernel
theorem dX7_leaves_41 : decode cX7_leaves 41 = .ok (.iaload, 1) := by decide +kernel
theorem dX7_leaves_42 : decode cX7_leaves 42 = .ok (.bipush 20, 2) := by decide +kernel
theorem dX7_leaves_44 : decode cX7_leaves 44 = .ok (.if_icmp .ge 11, 3) := by decide +kernel
theorem dX7_leaves_47 : decode cX7_leaves 47 = .ok (.aload_n 0, 1) := by decide +kernel
theorem dX7_leaves_48 : decode cX7_leaves 48 = .ok (.iconst 0, 1) := by decide +kernel
theorem dX7_leaves_49 : decode cX7_leaves 49 = .ok (.iload_n 2, 1) := by decide +kernel
theorem dX7_leaves_50 : decode cX7_leaves 50 = .ok (.iconst 5, 1) := by decide +kernel
theorem dX7_leaves_51 : decode cX7_leaves 51 = .ok (.iconst (-1), 1) := by decide +kernel
theorem dX7_leaves_52 : decode cX7_leaves 52 = .ok (.invokevirtual 81, 3) := by decide +kernel
theorem dX7_leaves_55 : decode cX7_leaves 55 = .ok (.return_, 1) := by decide +kernel
theorem dX7_year_0 : decode cX7_year 0 = .ok (.iconst 0, 1) := by decide +kernel
theorem dX7_year_1 : decode cX7_year 1 = .ok (.istore_n 1, 1) := by decide +kernel
theorem dX7_year_2 : decode cX7_year 2 = .ok (.iload_n 1, 1) := by decide +kernel
theorem dX7_year_3 : decode cX7_year 3 = .ok (.aload_n 0, 1) := by decide +kernel
theorem dX7_year_4 : decode cX7_year 4 = .ok (.getfield 9, 3) := by decide +kernel
theorem dX7_year_7 : decode cX7_year 7 = .ok (.iconst 3, 1) := by decide +kernel
theorem dX7_year_8 : decode cX7_year 8 = .ok (.iaload, 1) := by decide +kernel
theorem dX7_year_9 : decode cX7_year 9 = .ok (.if_icmp .ge 45, 3) := by decide +kernel
theorem dX7_year_12 : decode cX7_year 12 = .ok (.aload_n 0, 1) := by decide +kernel
theorem dX7_year_13 : decode cX7_year 13 = .ok (.iload_n 1, 1) := by decide +kernel
theorem dX7_year_14 : decode cX7_year 14 = .ok (.iconst 1, 1) := by decide +kernel
theorem dX7_year_15 : decode cX7_year 15 = .ok (.invokevirtual 63, 3) := by decide +kernel
theorem dX7_year_18 : decode cX7_year 18 = .ok (.bipush 7, 2) := by decide +kernel
theorem dX7_year_20 : decode cX7_year 20 = .ok (.if_icmp .lt 28, 3) := by decide +kernel
theorem dX7_year_23 : decode cX7_year 23 = .ok (.aload_n 0, 1) := by decide +kernel
theorem dX7_year_24 : decode cX7_year 24 = .ok (.iload_n 1, 1) := by decide +kernel
theorem dX7_year_25 : decode cX7_year 25 = .ok (.iconst 0, 1) := by decide +kernel
theorem dX7_year_26 : decode cX7_year 26 = .ok (.invokevirtual 63, 3) := by decide +kernel
theorem dX7_year_29 : decode cX7_year 29 = .ok (.ifCond .lt 19, 3) := by decide +kernel
theorem dX7_year_32 : decode cX7_year 32 = .ok (.aload_n 0, 1) := by decide +kernel
theorem dX7_year_33 : decode cX7_year 33 = .ok (.aload_n 0, 1) := by decide +kernel
theorem dX7_year_34 : decode cX7_year 34 = .ok (.iload_n 1, 1) := by decide +kernel
theorem dX7_year_35 : decode cX7_year 35 = .ok (.iconst 0, 1) := by decide +kernel
theorem dX7_year_36 : decode cX7_year 36 = .ok (.invokevirtual 63, 3) := by decide +kernel
theorem dX7_year_39 : decode cX7_year 39 = .ok (.aload_n 0, 1) := by decide +kernel
theorem dX7_year_40 : decode cX7_year 40 = .ok (.iload_n 1, 1) := by decide +kernel
theorem dX7_year_41 : decode cX7_year 41 = .ok (.iconst 2, 1) := by decide +kernel
theorem dX7_year_42 : decode cX7_year 42 = .ok (.invokevirtual 63, 3) := by decide +kernel
theorem dX7_year_45 : decode cX7_year 45 = .ok (.invokevirtual 153, 3) := by decide +kernel
theorem dX7_year_48 : decode cX7_year 48 = .ok (.iinc 1 1, 3) := by decide +kernel
theorem dX7_year_51 : decode cX7_year 51 = .ok (.goto (-49), 3) := by decide +kernel
theorem dX7_year_54 : decode cX7_year 54 = .ok (.iconst 0, 1) := by decide +kernel
theorem dX7_year_55 : decode cX7_year 55 = .ok (.istore_n 1, 1) := by decide +kernel
theorem dX7_year_56 : decode cX7_year 56 = .ok (.iload_n 1, 1) := by decide +kernel
theorem dX7_year_57 : decode cX7_year 57 = .ok (.aload_n 0, 1) := by decide +kernel
theorem dX7_year_58 : decode cX7_year 58 = .ok (.getfield 9, 3) := by decide +kernel
theorem dX7_year_61 : decode cX7_year 61 = .ok (.iconst 3, 1) := by decide +kernel
theorem dX7_year_62 : decode cX7_year 62 = .ok (.iaload, 1) := by decide +kernel
theorem dX7_year_63 : decode cX7_year 63 = .ok (.if_icmp .ge 25, 3) := by decide +kernel
theorem dX7_year_66 : decode cX7_year 66 = .ok (.aload_n 0, 1) := by decide +kernel
theorem dX7_year_67 : decode cX7_year 67 = .ok (.iload_n 1, 1) := by decide +kernel
theorem dX7_year_68 : decode cX7_year 68 = .ok (.iconst 1, 1) := by decide +kernel
theorem dX7_year_69 : decode cX7_year 69 = .ok (.invokevirtual 63, 3) := by decide +kernel
theorem dX7_year_72 : decode cX7_year 72 = .ok (.bipush 7, 2) := by decide +kernel
theorem dX7_year_74 : decode cX7_year 74 = .ok (.if_icmp .lt 8, 3) := by decide +kernel
theorem dX7_year_77 : decode cX7_year 77 = .ok (.aload_n 0, 1) := by decide +kernel
theorem dX7_year_78 : decode cX7_year 78 = .ok (.iload_n 1, 1) := by decide +kernel
theorem dX7_year_79 : decode cX7_year 79 = .ok (.invokevirtual 157, 3) := by decide +kernel
theorem dX7_year_82 : decode cX7_year 82 = .ok (.iinc 1 1, 3) := by decide +kernel
theorem dX7_year_85 : decode cX7_year 85 = .ok (.goto (-29), 3) := by decide +kernel
theorem dX7_year_88 : decode cX7_year 88 = .ok (.iconst 0, 1) := by decide +kernel
theorem dX7_year_89 : decode cX7_year 89 = .ok (.istore_n 1, 1) := by decide +kernel
theorem dX7_year_90 : decode cX7_year 90 = .ok (.iload_n 1, 1) := by decide +kernel
theorem dX7_year_91 : decode cX7_year 91 = .ok (.aload_n 0, 1) := by decide +kernel
theorem dX7_year_92 : decode cX7_year 92 = .ok (.getfield 9, 3) := by decide +kernel
theorem dX7_year_95 : decode cX7_year 95 = .ok (.iconst 2, 1) := by decide +kernel
theorem dX7_year_96 : decode cX7_year 96 = .ok (.iaload, 1) := by decide +kernel
theorem dX7_year_97 : decode cX7_year 97 = .ok (.if_icmp .ge 37, 3) := by decide +kernel
theorem dX7_year_100 : decode cX7_year 100 = .ok (.aload_n 0, 1) := by decide +kernel
theorem dX7_year_101 : decode cX7_year 101 = .ok (.getfield 9, 3) := by decide +kernel
theorem dX7_year_104 : decode cX7_year 104 = .ok (.bipush 20, 2) := by decide +kernel
theorem dX7_year_106 : decode cX7_year 106 = .ok (.iconst 4, 1) := by decide +kernel
theorem dX7_year_107 : decode cX7_year 107 = .ok (.iload_n 1, 1) := by decide +kernel
theorem dX7_year_108 : decode cX7_year 108 = .ok (.imul, 1) := by decide +kernel
theorem dX7_year_109 : decode cX7_year 109 = .ok (.iadd, 1) := by decide +kernel
theorem dX7_year_110 : decode cX7_year 110 = .ok (.iconst 2, 1) := by decide +kernel
theorem dX7_year_111 : decode cX7_year 111 = .ok (.iadd, 1) := by decide +kernel
theorem dX7_year_112 : decode cX7_year 112 = .ok (.aload_n 0, 1) := by decide +kernel
theorem dX7_year_113 : decode cX7_year 113 = .ok (.iload_n 1, 1) := by decide +kernel
theorem dX7_year_114 : decode cX7_year 114 = .ok (.iconst 2, 1) := by decide +kernel
theorem dX7_year_115 : decode cX7_year 115 = .ok (.invokevirtual 59, 3) := by decide +kernel
theorem dX7_year_118 : decode cX7_year 118 = .ok (.aload_n 0, 1) := by decide +kernel
theorem dX7_year_119 : decode cX7_year 119 = .ok (.iload_n 1, 1) := by decide +kernel
theorem dX7_year_120 : decode cX7_year 120 = .ok (.invokevirtual 96, 3) := by decide +kernel
theorem dX7_year_123 : decode cX7_year 123 = .ok (.iadd, 1) := by decide +kernel
theorem dX7_year_124 : decode cX7_year 124 = .ok (.invokestatic 147, 3) := by decide +kernel
theorem dX7_year_127 : decode cX7_year 127 = .ok (.iastore, 1) := by decide +kernel
theorem dX7_year_128 : decode cX7_year 128 = .ok (.iinc 1 1, 3) := by decide +kernel
theorem dX7_year_131 : decode cX7_year 131 = .ok (.goto (-41), 3) := by decide +kernel
theorem dX7_year_134 : decode cX7_year 134 = .ok (.iconst 0, 1) := by decide +kernel
theorem dX7_year_135 : decode cX7_year 135 = .ok (.istore_n 1, 1) := by decide +kernel
theorem dX7_year_136 : decode cX7_year 136 = .ok (.iload_n 1, 1) := by decide +kernel
theorem dX7_year_137 : decode cX7_year 137 = .ok (.aload_n 0, 1) := by decide +kernel
theorem dX7_year_138 : decode cX7_year 138 = .ok (.getfield 9, 3) := by decide +kernel
theorem dX7_year_141 : decode cX7_year 141 = .ok (.iconst 3, 1) := by decide +kernel
theorem dX7_year_142 : decode cX7_year 142 = .ok (.iaload, 1) := by decide +kernel
theorem dX7_year_143 : decode cX7_year 143 = .ok (.if_icmp .ge 41, 3) := by decide +kernel
theorem dX7_year_146 : decode cX7_year 146 = .ok (.aload_n 0, 1) := by decide +kernel
theorem dX7_year_147 : decode cX7_year 147 = .ok (.getfield 9, 3) := by decide +kernel
theorem dX7_year_150 : decode cX7_year 150 = .ok (.bipush 100, 2) := by decide +kernel
theorem dX7_year_152 : decode cX7_year 152 = .ok (.iconst 4, 1) := by decide +kernel
theorem dX7_year_153 : decode cX7_year 153 = .ok (.iload_n 1, 1) := by decide +kernel
theorem dX7_year_154 : decode cX7_year 154 = .ok (.imul, 1) := by decide +kernel
theorem dX7_year_155 : decode cX7_year 155 = .ok (.iadd, 1) := by decide +kernel
theorem dX7_year_156 : decode cX7_year 156 = .ok (.iconst 1, 1) := by decide +kernel
theorem dX7_year_157 : decode cX7_year 157 = .ok (.iadd, 1) := by decide +kernel
theorem dX7_year_158 : decode cX7_year 158 = .ok (.dup2, 1) := by decide +kernel
theorem dX7_year_159 : decode cX7_year 159 = .ok (.iaload, 1) := by decide +kernel
theorem dX7_year_160 : decode cX7_year 160 = .ok (.aload_n 0, 1) := by decide +kernel
theorem dX7_year_161 : decode cX7_year 161 = .ok (.iload_n 1, 1) := by decide +kernel
theorem dX7_year_162 : decode cX7_year 162 = .ok (.iconst 1, 1) := by decide +kernel
theorem dX7_year_163 : decode cX7_year 163 = .ok (.invokevirtual 63, 3) := by decide +kernel
theorem dX7_year_166 : decode cX7_year 166 = .ok (.bipush 40, 2) := by decide +kernel
theorem dX7_year_168 : decode cX7_year 168 = .ok (.if_icmp .ge 7, 3) := by decide +kernel
theorem dX7_year_171 : decode cX7_year 171 = .ok (.iconst 1, 1) := by decide +kernel
theorem dX7_year_172 : decode cX7_year 172 = .ok (.goto 4, 3) := by decide +kernel
theorem dX7_year_175 : decode cX7_year 175 = .ok (.iconst 0, 1) := by decide +kernel
theorem dX7_year_176 : decode cX7_year 176 = .ok (.iadd, 1) := by decide +kernel
theorem dX7_year_177 : decode cX7_year 177 = .ok (.iastore, 1) := by decide +kernel
theorem dX7_year_178 : decode cX7_year 178 = .ok (.iinc 1 1, 3) := by decide +kernel
theorem dX7_year_181 : decode cX7_year 181 = .ok (.goto (-45), 3) := by decide +kernel
theorem dX7_year_184 : decode cX7_year 184 = .ok (.iconst 0, 1) := by decide +kernel
theorem dX7_year_185 : decode cX7_year 185 = .ok (.istore_n 1, 1) := by decide +kernel
theorem dX7_year_186 : decode cX7_year 186 = .ok (.iload_n 1, 1) := by decide +kernel
theorem dX7_year_187 : decode cX7_year 187 = .ok (.aload_n 0, 1) := by decide +kernel
theorem dX7_year_188 : decode cX7_year 188 = .ok (.getfield 9, 3) := by decide +kernel
theorem dX7_year_191 : decode cX7_year 191 = .ok (.iconst 3, 1) := by decide +kernel
theorem dX7_year_192 : decode cX7_year 192 = .ok (.iaload, 1) := by decide +kernel
theorem dX7_year_193 : decode cX7_year 193 = .ok (.if_icmp .ge 34, 3) := by decide +kernel
theorem dX7_year_196 : decode cX7_year 196 = .ok (.aload_n 0, 1) := by decide +kernel
theorem dX7_year_197 : decode cX7_year 197 = .ok (.iload_n 1, 1) := by decide +kernel
theorem dX7_year_198 : decode cX7_year 198 = .ok (.iconst 1, 1) := by decide +kernel
theorem dX7_year_199 : decode cX7_year 199 = .ok (.invokevirtual 63, 3) := by decide +kernel
theorem dX7_year_202 : decode cX7_year 202 = .ok (.bipush 40, 2) := by decide +kernel
theorem dX7_year_204 : decode cX7_year 204 = .ok (.if_icmp .ne 17, 3) := by decide +kernel
theorem dX7_year_207 : decode cX7_year 207 = .ok (.aload_n 0, 1) := by decide +kernel
theorem dX7_year_208 : decode cX7_year 208 = .ok (.iload_n 1, 1) := by decide +kernel
theorem dX7_year_209 : decode cX7_year 209 = .ok (.iconst 0, 1) := by decide +kernel
theorem dX7_year_210 : decode cX7_year 210 = .ok (.invokevirtual 63, 3) := by decide +kernel
theorem dX7_year_213 : decode cX7_year 213 = .ok (.ifCond .lt 8, 3) := by decide +kernel
theorem dX7_year_216 : decode cX7_year 216 = .ok (.aload_n 0, 1) := by decide +kernel
theorem dX7_year_217 : decode cX7_year 217 = .ok (.iload_n 1, 1) := by decide +kernel
theorem dX7_year_218 : decode cX7_year 218 = .ok (.invokevirtual 161, 3) := by decide +kernel
theorem dX7_year_221 : decode cX7_year 221 = .ok (.iinc 1 1, 3) := by decide +kernel
theorem dX7_year_224 : decode cX7_year 224 = .ok (.goto (-38), 3) := by decide +kernel
theorem dX7_year_227 : decode cX7_year 227 = .ok (.aload_n 0, 1) := by decide +kernel
theorem dX7_year_228 : decode cX7_year 228 = .ok (.getfield 9, 3) := by decide +kernel
theorem dX7_year_231 : decode cX7_year 231 = .ok (.iconst 0, 1) := by decide +kernel
theorem dX7_year_232 : decode cX7_year 232 = .ok (.dup2, 1) := by decide +kernel
theorem dX7_year_233 : decode cX7_year 233 = .ok (.iaload, 1) := by decide +kernel
theorem dX7_year_234 : decode cX7_year 234 = .ok (.iconst 1, 1) := by decide +kernel
theorem dX7_year_235 : decode cX7_year 235 = .ok (.iadd, 1) := by decide +kernel
theorem dX7_year_236 : decode cX7_year 236 = .ok (.iastore, 1) := by decide +kernel
theorem dX7_year_237 : decode cX7_year 237 = .ok (.return_, 1) := by decide +kernel
theorem dX7_unended_0 : decode cX7_unended 0 = .ok (.iconst 0, 1) := by decide +kernel
theorem dX7_unended_1 : decode cX7_unended 1 = .ok (.istore_n 1, 1) := by decide +kernel
theorem dX7_unended_2 : decode cX7_unended 2 = .ok (.iconst 0, 1) := by decide +kernel
theorem dX7_unended_3 : decode cX7_unended 3 = .ok (.istore_n 2, 1) := by decide +kernel
theorem dX7_unended_4 : decode cX7_unended 4 = .ok (.iload_n 2, 1) := by decide +kernel
theorem dX7_unended_5 : decode cX7_unended 5 = .ok (.aload_n 0, 1) := by decide +kernel
theorem dX7_unended_6 : decode cX7_unended 6 = .ok (.getfield 9, 3) := by decide +kernel
theorem dX7_unended_9 : decode cX7_unended 9 = .ok (.iconst 2, 1) := by decide +kernel
theorem dX7_unended_10 : decode cX7_unended 10 = .ok (.iaload, 1) := by decide +kernel
theorem dX7_unended_11 : decode cX7_unended 11 = .ok (.if_icmp .ge 25, 3) := by decide +kernel
theorem dX7_unended_14 : decode cX7_unended 14 = .ok (.iload_n 1, 1) := by decide +kernel
theorem dX7_unended_15 : decode cX7_unended 15 = .ok (.aload_n 0, 1) := by decide +kernel
theorem dX7_unended_16 : decode cX7_unended 16 = .ok (.iload_n 2, 1) := by decide +kernel
theorem dX7_unended_17 : decode cX7_unended 17 = .ok (.invokevirtual 85, 3) := by decide +kernel
theorem dX7_unended_20 : decode cX7_unended 20 = .ok (.ifCond .eq 7, 3) := by decide +kernel
theorem dX7_unended_23 : decode cX7_unended 23 = .ok (.iconst 0, 1) := by decide +kernel
theorem dX7_unended_24 : decode cX7_unended 24 = .ok (.goto 4, 3) := by decide +kernel
theorem dX7_unended_27 : decode cX7_unended 27 = .ok (.iconst 1, 1) := by decide +kernel
theorem dX7_unended_28 : decode cX7_unended 28 = .ok (.iadd, 1) := by decide +kernel
theorem dX7_unended_29 : decode cX7_unended 29 = .ok (.istore_n 1, 1) := by decide +kernel
theorem dX7_unended_30 : decode cX7_unended 30 = .ok (.iinc 2 1, 3) := by decide +kernel
theorem dX7_unended_33 : decode cX7_unended 33 = .ok (.goto (-29), 3) := by decide +kernel
theorem dX7_unended_36 : decode cX7_unended 36 = .ok (.iload_n 1, 1) := by decide +kernel
theorem dX7_unended_37 : decode cX7_unended 37 = .ok (.ireturn, 1) := by decide +kernel
theorem dX7_ended_0 : decode cX7_ended 0 = .ok (.aload_n 0, 1) := by decide +kernel
theorem dX7_ended_1 : decode cX7_ended 1 = .ok (.getfield 9, 3) := by decide +kernel
theorem dX7_ended_4 : decode cX7_ended 4 = .ok (.iconst 2, 1) := by decide +kernel
theorem dX7_ended_5 : decode cX7_ended 5 = .ok (.iaload, 1) := by decide +kernel
theorem dX7_ended_6 : decode cX7_ended 6 = .ok (.aload_n 0, 1) := by decide +kernel
theorem dX7_ended_7 : decode cX7_ended 7 = .ok (.invokevirtual 164, 3) := by decide +kernel
theorem dX7_ended_10 : decode cX7_ended 10 = .ok (.isub, 1) := by decide +kernel
theorem dX7_ended_11 : decode cX7_ended 11 = .ok (.ireturn, 1) := by decide +kernel
theorem dX7_yearsGo_0 : decode cX7_yearsGo 0 = .ok (.iconst 0, 1) := by decide +kernel
theorem dX7_yearsGo_1 : decode cX7_yearsGo 1 = .ok (.istore_n 2, 1) := by decide +kernel
theorem dX7_yearsGo_2 : decode cX7_yearsGo 2 = .ok (.iload_n 2, 1) := by decide +kernel
theorem dX7_yearsGo_3 : decode cX7_yearsGo 3 = .ok (.iload_n 1, 1) := by decide +kernel
theorem dX7_yearsGo_4 : decode cX7_yearsGo 4 = .ok (.if_icmp .ge 13, 3) := by decide +kernel
theorem dX7_yearsGo_7 : decode cX7_yearsGo 7 = .ok (.aload_n 0, 1) := by decide +kernel
theorem dX7_yearsGo_8 : decode cX7_yearsGo 8 = .ok (.invokevirtual 167, 3) := by decide +kernel
theorem dX7_yearsGo_11 : decode cX7_yearsGo 11 = .ok (.iinc 2 1, 3) := by decide +kernel
theorem dX7_yearsGo_14 : decode cX7_yearsGo 14 = .ok (.goto (-12), 3) := by decide +kernel
theorem dX7_yearsGo_17 : decode cX7_yearsGo 17 = .ok (.return_, 1) := by decide +kernel
theorem dX7_isFarOn_0 : decode cX7_isFarOn 0 = .ok (.aload_n 0, 1) := by decide +kernel
theorem dX7_isFarOn_1 : decode cX7_isFarOn 1 = .ok (.getfield 9, 3) := by decide +kernel
theorem dX7_isFarOn_4 : decode cX7_isFarOn 4 = .ok (.iconst 0, 1) := by decide +kernel
theorem dX7_isFarOn_5 : decode cX7_isFarOn 5 = .ok (.iaload, 1) := by decide +kernel
theorem dX7_isFarOn_6 : decode cX7_isFarOn 6 = .ok (.iload_n 1, 1) := by decide +kernel
theorem dX7_isFarOn_7 : decode cX7_isFarOn 7 = .ok (.iadd, 1) := by decide +kernel
theorem dX7_isFarOn_8 : decode cX7_isFarOn 8 = .ok (.sipush 999, 3) := by decide +kernel
theorem dX7_isFarOn_11 : decode cX7_isFarOn 11 = .ok (.if_icmp .le 7, 3) := by decide +kernel
theorem dX7_isFarOn_14 : decode cX7_isFarOn 14 = .ok (.iconst 1, 1) := by decide +kernel
theorem dX7_isFarOn_15 : decode cX7_isFarOn 15 = .ok (.goto 4, 3) := by decide +kernel
theorem dX7_isFarOn_18 : decode cX7_isFarOn 18 = .ok (.iconst 0, 1) := by decide +kernel
theorem dX7_isFarOn_19 : decode cX7_isFarOn 19 = .ok (.ireturn, 1) := by decide +kernel
theorem dX7_years_0 : decode cX7_years 0 = .ok (.iload_n 1, 1) := by decide +kernel
theorem dX7_years_1 : decode cX7_years 1 = .ok (.i2l, 1) := by decide +kernel
theorem dX7_years_2 : decode cX7_years 2 = .ok (.lconst 1, 1) := by decide +kernel
theorem dX7_years_3 : decode cX7_years 3 = .ok (.ldc2_w 170, 3) := by decide +kernel
theorem dX7_years_6 : decode cX7_years 6 = .ok (.invokestatic 51, 3) := by decide +kernel
theorem dX7_years_9 : decode cX7_years 9 = .ok (.ifCond .ne 10, 3) := by decide +kernel
theorem dX7_years_12 : decode cX7_years 12 = .ok (.aload_n 0, 1) := by decide +kernel
theorem dX7_years_13 : decode cX7_years 13 = .ok (.ldc 43, 2) := by decide +kernel
theorem dX7_years_15 : decode cX7_years 15 = .ok (.invokevirtual 45, 3) := by decide +kernel
theorem dX7_years_18 : decode cX7_years 18 = .ok (.ireturn, 1) := by decide +kernel
theorem dX7_years_19 : decode cX7_years 19 = .ok (.aload_n 0, 1) := by decide +kernel
theorem dX7_years_20 : decode cX7_years 20 = .ok (.iload_n 1, 1) := by decide +kernel
theorem dX7_years_21 : decode cX7_years 21 = .ok (.invokevirtual 172, 3) := by decide +kernel
theorem dX7_years_24 : decode cX7_years 24 = .ok (.ifCond .eq 10, 3) := by decide +kernel
theorem dX7_years_27 : decode cX7_years 27 = .ok (.aload_n 0, 1) := by decide +kernel
theorem dX7_years_28 : decode cX7_years 28 = .ok (.ldc 130, 2) := by decide +kernel
theorem dX7_years_30 : decode cX7_years 30 = .ok (.invokevirtual 45, 3) := by decide +kernel
theorem dX7_years_33 : decode cX7_years 33 = .ok (.ireturn, 1) := by decide +kernel
theorem dX7_years_34 : decode cX7_years 34 = .ok (.aload_n 0, 1) := by decide +kernel
theorem dX7_years_35 : decode cX7_years 35 = .ok (.invokevirtual 175, 3) := by decide +kernel
theorem dX7_years_38 : decode cX7_years 38 = .ok (.istore_n 2, 1) := by decide +kernel
theorem dX7_years_39 : decode cX7_years 39 = .ok (.aload_n 0, 1) := by decide +kernel
theorem dX7_years_40 : decode cX7_years 40 = .ok (.iload_n 1, 1) := by decide +kernel
theorem dX7_years_41 : decode cX7_years 41 = .ok (.invokevirtual 178, 3) := by decide +kernel
theorem dX7_years_44 : decode cX7_years 44 = .ok (.aload_n 0, 1) := by decide +kernel
theorem dX7_years_45 : decode cX7_years 45 = .ok (.invokevirtual 175, 3) := by decide +kernel
theorem dX7_years_48 : decode cX7_years 48 = .ok (.iload_n 2, 1) := by decide +kernel
theorem dX7_years_49 : decode cX7_years 49 = .ok (.isub, 1) := by decide +kernel
theorem dX7_years_50 : decode cX7_years 50 = .ok (.ireturn, 1) := by decide +kernel
theorem dX7_hours_0 : decode cX7_hours 0 = .ok (.iconst 0, 1) := by decide +kernel
theorem dX7_hours_1 : decode cX7_hours 1 = .ok (.istore_n 1, 1) := by decide +kernel
theorem dX7_hours_2 : decode cX7_hours 2 = .ok (.iconst 0, 1) := by decide +kernel
theorem dX7_hours_3 : decode cX7_hours 3 = .ok (.istore_n 2, 1) := by decide +kernel
theorem dX7_hours_4 : decode cX7_hours 4 = .ok (.iload_n 2, 1) := by decide +kernel
theorem dX7_hours_5 : decode cX7_hours 5 = .ok (.aload_n 0, 1) := by decide +kernel
theorem dX7_hours_6 : decode cX7_hours 6 = .ok (.getfield 9, 3) := by decide +kernel
theorem dX7_hours_9 : decode cX7_hours 9 = .ok (.iconst 2, 1) := by decide +kernel
theorem dX7_hours_10 : decode cX7_hours 10 = .ok (.iaload, 1) := by decide +kernel
theorem dX7_hours_11 : decode cX7_hours 11 = .ok (.if_icmp .ge 18, 3) := by decide +kernel
theorem dX7_hours_14 : decode cX7_hours 14 = .ok (.iload_n 1, 1) := by decide +kernel
theorem dX7_hours_15 : decode cX7_hours 15 = .ok (.aload_n 0, 1) := by decide +kernel
theorem dX7_hours_16 : decode cX7_hours 16 = .ok (.iload_n 2, 1) := by decide +kernel
theorem dX7_hours_17 : decode cX7_hours 17 = .ok (.iconst 2, 1) := by decide +kernel
theorem dX7_hours_18 : decode cX7_hours 18 = .ok (.invokevirtual 59, 3) := by decide +kernel
theorem dX7_hours_21 : decode cX7_hours 21 = .ok (.iadd, 1) := by decide +kernel
theorem dX7_hours_22 : decode cX7_hours 22 = .ok (.istore_n 1, 1) := by decide +kernel
theorem dX7_hours_23 : decode cX7_hours 23 = .ok (.iinc 2 1, 3) := by decide +kernel
theorem dX7_hours_26 : decode cX7_hours 26 = .ok (.goto (-22), 3) := by decide +kernel
theorem dX7_hours_29 : decode cX7_hours 29 = .ok (.iload_n 1, 1) := by decide +kernel
theorem dX7_hours_30 : decode cX7_hours 30 = .ok (.ireturn, 1) := by decide +kernel
theorem dX7_endedWorth_0 : decode cX7_endedWorth 0 = .ok (.iconst 0, 1) := by decide +kernel
theorem dX7_endedWorth_1 : decode cX7_endedWorth 1 = .ok (.istore_n 1, 1) := by decide +kernel
theorem dX7_endedWorth_2 : decode cX7_endedWorth 2 = .ok (.iconst 0, 1) := by decide +kernel
theorem dX7_endedWorth_3 : decode cX7_endedWorth 3 = .ok (.istore_n 2, 1) := by decide +kernel
theorem dX7_endedWorth_4 : decode cX7_endedWorth 4 = .ok (.iload_n 2, 1) := by decide +kernel
theorem dX7_endedWorth_5 : decode cX7_endedWorth 5 = .ok (.bipush 8, 2) := by decide +kernel
theorem dX7_endedWorth_7 : decode cX7_endedWorth 7 = .ok (.if_icmp .ge 43, 3) := by decide +kernel
theorem dX7_endedWorth_10 : decode cX7_endedWorth 10 = .ok (.iload_n 1, 1) := by decide +kernel
theorem dX7_endedWorth_11 : decode cX7_endedWorth 11 = .ok (.aload_n 0, 1) := by decide +kernel
theorem dX7_endedWorth_12 : decode cX7_endedWorth 12 = .ok (.iload_n 2, 1) := by decide +kernel
theorem dX7_endedWorth_13 : decode cX7_endedWorth 13 = .ok (.iconst 0, 1) := by decide +kernel
theorem dX7_endedWorth_14 : decode cX7_endedWorth 14 = .ok (.invokevirtual 109, 3) := by decide +kernel
theorem dX7_endedWorth_17 : decode cX7_endedWorth 17 = .ok (.ifCond .le 24, 3) := by decide +kernel
theorem dX7_endedWorth_20 : decode cX7_endedWorth 20 = .ok (.aload_n 0, 1) := by decide +kernel
theorem dX7_endedWorth_21 : decode cX7_endedWorth 21 = .ok (.iload_n 2, 1) := by decide +kernel
theorem dX7_endedWorth_22 : decode cX7_endedWorth 22 = .ok (.invokevirtual 103, 3) := by decide +kernel
theorem dX7_endedWorth_25 : decode cX7_endedWorth 25 = .ok (.ifCond .ne 16, 3) := by decide +kernel
theorem dX7_endedWorth_28 : decode cX7_endedWorth 28 = .ok (.aload_n 0, 1) := by decide +kernel
theorem dX7_endedWorth_29 : decode cX7_endedWorth 29 = .ok (.getfield 9, 3) := by decide +kernel
theorem dX7_endedWorth_32 : decode cX7_endedWorth 32 = .ok (.iconst 4, 1) := by decide +kernel
theorem dX7_endedWorth_33 : decode cX7_endedWorth 33 = .ok (.iconst 2, 1) := by decide +kernel
theorem dX7_endedWorth_34 : decode cX7_endedWorth 34 = .ok (.iload_n 2, 1) := by decide +kernel
theorem dX7_endedWorth_35 : decode cX7_endedWorth 35 = .ok (.imul, 1) := by decide +kernel
theorem dX7_endedWorth_36 : decode cX7_endedWorth 36 = .ok (.iadd, 1) := by decide +kernel
theorem dX7_endedWorth_37 : decode cX7_endedWorth 37 = .ok (.iaload, 1) := by decide +kernel
theorem dX7_endedWorth_38 : decode cX7_endedWorth 38 = .ok (.goto 4, 3) := by decide +kernel
theorem dX7_endedWorth_41 : decode cX7_endedWorth 41 = .ok (.iconst 0, 1) := by decide +kernel
theorem dX7_endedWorth_42 : decode cX7_endedWorth 42 = .ok (.iadd, 1) := by decide +kernel
theorem dX7_endedWorth_43 : decode cX7_endedWorth 43 = .ok (.istore_n 1, 1) := by decide +kernel
theorem dX7_endedWorth_44 : decode cX7_endedWorth 44 = .ok (.iinc 2 1, 3) := by decide +kernel
theorem dX7_endedWorth_47 : decode cX7_endedWorth 47 = .ok (.goto (-43), 3) := by decide +kernel
theorem dX7_endedWorth_50 : decode cX7_endedWorth 50 = .ok (.iload_n 1, 1) := by decide +kernel
theorem dX7_endedWorth_51 : decode cX7_endedWorth 51 = .ok (.ireturn, 1) := by decide +kernel
theorem dX7_openNames_0 : decode cX7_openNames 0 = .ok (.iconst 0, 1) := by decide +kernel
theorem dX7_openNames_1 : decode cX7_openNames 1 = .ok (.istore_n 1, 1) := by decide +kernel
theorem dX7_openNames_2 : decode cX7_openNames 2 = .ok (.iconst 0, 1) := by decide +kernel
theorem dX7_openNames_3 : decode cX7_openNames 3 = .ok (.istore_n 2, 1) := by decide +kernel
theorem dX7_openNames_4 : decode cX7_openNames 4 = .ok (.iload_n 2, 1) := by decide +kernel
theorem dX7_openNames_5 : decode cX7_openNames 5 = .ok (.bipush 8, 2) := by decide +kernel
theorem dX7_openNames_7 : decode cX7_openNames 7 = .ok (.if_icmp .ge 27, 3) := by decide +kernel
theorem dX7_openNames_10 : decode cX7_openNames 10 = .ok (.iload_n 1, 1) := by decide +kernel
theorem dX7_openNames_11 : decode cX7_openNames 11 = .ok (.aload_n 0, 1) := by decide +kernel
theorem dX7_openNames_12 : decode cX7_openNames 12 = .ok (.iload_n 2, 1) := by decide +kernel
theorem dX7_openNames_13 : decode cX7_openNames 13 = .ok (.invokevirtual 103, 3) := by decide +kernel
theorem dX7_openNames_16 : decode cX7_openNames 16 = .ok (.ifCond .eq 9, 3) := by decide +kernel
theorem dX7_openNames_19 : decode cX7_openNames 19 = .ok (.iconst 1, 1) := by decide +kernel
theorem dX7_openNames_20 : decode cX7_openNames 20 = .ok (.iload_n 2, 1) := by decide +kernel
theorem dX7_openNames_21 : decode cX7_openNames 21 = .ok (.ishl, 1) := by decide +kernel
theorem dX7_openNames_22 : decode cX7_openNames 22 = .ok (.goto 4, 3) := by decide +kernel
theorem dX7_openNames_25 : decode cX7_openNames 25 = .ok (.iconst 0, 1) := by decide +kernel
theorem dX7_openNames_26 : decode cX7_openNames 26 = .ok (.ior, 1) := by decide +kernel
theorem dX7_openNames_27 : decode cX7_openNames 27 = .ok (.istore_n 1, 1) := by decide +kernel
theorem dX7_openNames_28 : decode cX7_openNames 28 = .ok (.iinc 2 1, 3) := by decide +kernel
theorem dX7_openNames_31 : decode cX7_openNames 31 = .ok (.goto (-27), 3) := by decide +kernel
theorem dX7_openNames_34 : decode cX7_openNames 34 = .ok (.iload_n 1, 1) := by decide +kernel
theorem dX7_openNames_35 : decode cX7_openNames 35 = .ok (.ireturn, 1) := by decide +kernel
theorem dX7_allLives_0 : decode cX7_allLives 0 = .ok (.iconst 0, 1) := by decide +kernel
theorem dX7_allLives_1 : decode cX7_allLives 1 = .ok (.istore_n 1, 1) := by decide +kernel
theorem dX7_allLives_2 : decode cX7_allLives 2 = .ok (.iconst 0, 1) := by decide +kernel
theorem dX7_allLives_3 : decode cX7_allLives 3 = .ok (.istore_n 2, 1) := by decide +kernel
theorem dX7_allLives_4 : decode cX7_allLives 4 = .ok (.iload_n 2, 1) := by decide +kernel
theorem dX7_allLives_5 : decode cX7_allLives 5 = .ok (.bipush 8, 2) := by decide +kernel
theorem dX7_allLives_7 : decode cX7_allLives 7 = .ok (.if_icmp .ge 24, 3) := by decide +kernel
theorem dX7_allLives_10 : decode cX7_allLives 10 = .ok (.iload_n 1, 1) := by decide +kernel
theorem dX7_allLives_11 : decode cX7_allLives 11 = .ok (.aload_n 0, 1) := by decide +kernel
theorem dX7_allLives_12 : decode cX7_allLives 12 = .ok (.getfield 9, 3) := by decide +kernel
theorem dX7_allLives_15 : decode cX7_allLives 15 = .ok (.iconst 4, 1) := by decide +kernel
theorem dX7_allLives_16 : decode cX7_allLives 16 = .ok (.iconst 2, 1) := by decide +kernel
theorem dX7_allLives_17 : decode cX7_allLives 17 = .ok (.iload_n 2, 1) := by decide +kernel
theorem dX7_allLives_18 : decode cX7_allLives 18 = .ok (.imul, 1) := by decide +kernel
theorem dX7_allLives_19 : decode cX7_allLives 19 = .ok (.iadd, 1) := by decide +kernel
theorem dX7_allLives_20 : decode cX7_allLives 20 = .ok (.iconst 1, 1) := by decide +kernel
theorem dX7_allLives_21 : decode cX7_allLives 21 = .ok (.iadd, 1) := by decide +kernel
theorem dX7_allLives_22 : decode cX7_allLives 22 = .ok (.iaload, 1) := by decide +kernel
theorem dX7_allLives_23 : decode cX7_allLives 23 = .ok (.iadd, 1) := by decide +kernel
theorem dX7_allLives_24 : decode cX7_allLives 24 = .ok (.istore_n 1, 1) := by decide +kernel
theorem dX7_allLives_25 : decode cX7_allLives 25 = .ok (.iinc 2 1, 3) := by decide +kernel
theorem dX7_allLives_28 : decode cX7_allLives 28 = .ok (.goto (-24), 3) := by decide +kernel
theorem dX7_allLives_31 : decode cX7_allLives 31 = .ok (.iload_n 1, 1) := by decide +kernel
theorem dX7_allLives_32 : decode cX7_allLives 32 = .ok (.ireturn, 1) := by decide +kernel
theorem dX7_ahead_0 : decode cX7_ahead 0 = .ok (.iload_n 1, 1) := by decide +kernel
theorem dX7_ahead_1 : decode cX7_ahead 1 = .ok (.i2l, 1) := by decide +kernel
theorem dX7_ahead_2 : decode cX7_ahead 2 = .ok (.lconst 0, 1) := by decide +kernel
theorem dX7_ahead_3 : decode cX7_ahead 3 = .ok (.ldc2_w 181, 3) := by decide +kernel
theorem dX7_ahead_6 : decode cX7_ahead 6 = .ok (.invokestatic 51, 3) := by decide +kernel
theorem dX7_ahead_9 : decode cX7_ahead 9 = .ok (.ifCond .eq 15, 3) := by decide +kernel
theorem dX7_ahead_12 : decode cX7_ahead 12 = .ok (.iload_n 2, 1) := by decide +kernel
theorem dX7_ahead_13 : decode cX7_ahead 13 = .ok (.i2l, 1) := by decide +kernel
theorem dX7_ahead_14 : decode cX7_ahead 14 = .ok (.lconst 0, 1) := by decide +kernel
theorem dX7_ahead_15 : decode cX7_ahead 15 = .ok (.ldc2_w 183, 3) := by decide +kernel
theorem dX7_ahead_18 : decode cX7_ahead 18 = .ok (.invokestatic 51, 3) := by decide +kernel
theorem dX7_ahead_21 : decode cX7_ahead 21 = .ok (.ifCond .ne 10, 3) := by decide +kernel
theorem dX7_ahead_24 : decode cX7_ahead 24 = .ok (.aload_n 0, 1) := by decide +kernel
theorem dX7_ahead_25 : decode cX7_ahead 25 = .ok (.ldc 43, 2) := by decide +kernel
theorem dX7_ahead_27 : decode cX7_ahead 27 = .ok (.invokevirtual 45, 3) := by decide +kernel
theorem dX7_ahead_30 : decode cX7_ahead 30 = .ok (.ireturn, 1) := by decide +kernel
theorem dX7_ahead_31 : decode cX7_ahead 31 = .ok (.aload_n 0, 1) := by decide +kernel
theorem dX7_ahead_32 : decode cX7_ahead 32 = .ok (.iload_n 1, 1) := by decide +kernel
theorem dX7_ahead_33 : decode cX7_ahead 33 = .ok (.invokevirtual 172, 3) := by decide +kernel
theorem dX7_ahead_36 : decode cX7_ahead 36 = .ok (.ifCond .eq 10, 3) := by decide +kernel
theorem dX7_ahead_39 : decode cX7_ahead 39 = .ok (.aload_n 0, 1) := by decide +kernel
theorem dX7_ahead_40 : decode cX7_ahead 40 = .ok (.ldc 130, 2) := by decide +kernel
theorem dX7_ahead_42 : decode cX7_ahead 42 = .ok (.invokevirtual 45, 3) := by decide +kernel
theorem dX7_ahead_45 : decode cX7_ahead 45 = .ok (.ireturn, 1) := by decide +kernel
theorem dX7_ahead_46 : decode cX7_ahead 46 = .ok (.aload_n 0, 1) := by decide +kernel
theorem dX7_ahead_47 : decode cX7_ahead 47 = .ok (.getfield 9, 3) := by decide +kernel
theorem dX7_ahead_50 : decode cX7_ahead 50 = .ok (.aload_n 0, 1) := by decide +kernel
theorem dX7_ahead_51 : decode cX7_ahead 51 = .ok (.getfield 16, 3) := by decide +kernel
theorem dX7_ahead_54 : decode cX7_ahead 54 = .ok (.invokestatic 185, 3) := by decide +kernel
theorem dX7_ahead_57 : decode cX7_ahead 57 = .ok (.aload_n 0, 1) := by decide +kernel
theorem dX7_ahead_58 : decode cX7_ahead 58 = .ok (.iload_n 1, 1) := by decide +kernel
theorem dX7_ahead_59 : decode cX7_ahead 59 = .ok (.invokevirtual 178, 3) := by decide +kernel
theorem dX7_ahead_62 : decode cX7_ahead 62 = .ok (.iload_n 2, 1) := by decide +kernel
theorem dX7_ahead_63 : decode cX7_ahead 63 = .ok (.ifCond .ne 10, 3) := by decide +kernel
theorem dX7_ahead_66 : decode cX7_ahead 66 = .ok (.aload_n 0, 1) := by decide +kernel
theorem dX7_ahead_67 : decode cX7_ahead 67 = .ok (.invokevirtual 164, 3) := by decide +kernel
theorem dX7_ahead_70 : decode cX7_ahead 70 = .ok (.goto 43, 3) := by decide +kernel
theorem dX7_ahead_73 : decode cX7_ahead 73 = .ok (.iload_n 2, 1) := by decide +kernel
theorem dX7_ahead_74 : decode cX7_ahead 74 = .ok (.iconst 1, 1) := by decide +kernel
theorem dX7_ahead_75 : decode cX7_ahead 75 = .ok (.if_icmp .ne 10, 3) := by decide +kernel
theorem dX7_ahead_78 : decode cX7_ahead 78 = .ok (.aload_n 0, 1) := by decide +kernel
theorem dX7_ahead_79 : decode cX7_ahead 79 = .ok (.invokevirtual 189, 3) := by decide +kernel
theorem dX7_ahead_82 : decode cX7_ahead 82 = .ok (.goto 31, 3) := by decide +kernel
theorem dX7_ahead_85 : decode cX7_ahead 85 = .ok (.iload_n 2, 1) := by decide +kernel
theorem dX7_ahead_86 : decode cX7_ahead 86 = .ok (.iconst 2, 1) := by decide +kernel
theorem dX7_ahead_87 : decode cX7_ahead 87 = .ok (.if_icmp .ne 10, 3) := by decide +kernel
theorem dX7_ahead_90 : decode cX7_ahead 90 = .ok (.aload_n 0, 1) := by decide +kernel
theorem dX7_ahead_91 : decode cX7_ahead 91 = .ok (.invokevirtual 192, 3) := by decide +kernel
theorem dX7_ahead_94 : decode cX7_ahead 94 = .ok (.goto 19, 3) := by decide +kernel
theorem dX7_ahead_97 : decode cX7_ahead 97 = .ok (.iload_n 2, 1) := by decide +kernel
theorem dX7_ahead_98 : decode cX7_ahead 98 = .ok (.iconst 3, 1) := by decide +kernel
theorem dX7_ahead_99 : decode cX7_ahead 99 = .ok (.if_icmp .ne 10, 3) := by decide +kernel
theorem dX7_ahead_102 : decode cX7_ahead 102 = .ok (.aload_n 0, 1) := by decide +kernel
theorem dX7_ahead_103 : decode cX7_ahead 103 = .ok (.invokevirtual 195, 3) := by decide +kernel
theorem dX7_ahead_106 : decode cX7_ahead 106 = .ok (.goto 7, 3) := by decide +kernel
theorem dX7_ahead_109 : decode cX7_ahead 109 = .ok (.aload_n 0, 1) := by decide +kernel
theorem dX7_ahead_110 : decode cX7_ahead 110 = .ok (.invokevirtual 198, 3) := by decide +kernel
theorem dX7_ahead_113 : decode cX7_ahead 113 = .ok (.istore_n 3, 1) := by decide +kernel
theorem dX7_ahead_114 : decode cX7_ahead 114 = .ok (.aload_n 0, 1) := by decide +kernel
theorem dX7_ahead_115 : decode cX7_ahead 115 = .ok (.getfield 16, 3) := by decide +kernel
theorem dX7_ahead_118 : decode cX7_ahead 118 = .ok (.aload_n 0, 1) := by decide +kernel
theorem dX7_ahead_119 : decode cX7_ahead 119 = .ok (.getfield 9, 3) := by decide +kernel
theorem dX7_ahead_122 : decode cX7_ahead 122 = .ok (.invokestatic 185, 3) := by decide +kernel
theorem dX7_ahead_125 : decode cX7_ahead 125 = .ok (.iload_n 3, 1) := by decide +kernel
theorem dX7_ahead_126 : decode cX7_ahead 126 = .ok (.ireturn, 1) := by decide +kernel
theorem dX7_overIn_0 : decode cX7_overIn 0 = .ok (.aload_n 0, 1) := by decide +kernel
theorem dX7_overIn_1 : decode cX7_overIn 1 = .ok (.getfield 9, 3) := by decide +kernel
theorem dX7_overIn_4 : decode cX7_overIn 4 = .ok (.aload_n 0, 1) := by decide +kernel
theorem dX7_overIn_5 : decode cX7_overIn 5 = .ok (.getfield 16, 3) := by decide +kernel
theorem dX7_overIn_8 : decode cX7_overIn 8 = .ok (.invokestatic 185, 3) := by decide +kernel
theorem dX7_overIn_11 : decode cX7_overIn 11 = .ok (.iconst 0, 1) := by decide +kernel
theorem dX7_overIn_12 : decode cX7_overIn 12 = .ok (.istore 4, 2) := by decide +kernel
theorem dX7_overIn_14 : decode cX7_overIn 14 = .ok (.iload 4, 2) := by decide +kernel
theorem dX7_overIn_16 : decode cX7_overIn 16 = .ok (.iload_n 3, 1) := by decide +kernel
theorem dX7_overIn_17 : decode cX7_overIn 17 = .ok (.if_icmp .gt 42, 3) := by decide +kernel
theorem dX7_overIn_20 : decode cX7_overIn 20 = .ok (.iload_n 1, 1) := by decide +kernel
theorem dX7_overIn_21 : decode cX7_overIn 21 = .ok (.ifCond .lt 14, 3) := by decide +kernel
theorem dX7_overIn_24 : decode cX7_overIn 24 = .ok (.aload_n 0, 1) := by decide +kernel
theorem dX7_overIn_25 : decode cX7_overIn 25 = .ok (.iload_n 1, 1) := by decide +kernel
theorem dX7_overIn_26 : decode cX7_overIn 26 = .ok (.invokevirtual 103, 3) := by decide +kernel
theorem dX7_overIn_29 : decode cX7_overIn 29 = .ok (.ifCond .eq 30, 3) := by decide +kernel
theorem dX7_overIn_32 : decode cX7_overIn 32 = .ok (.goto 11, 3) := by decide +kernel
theorem dX7_overIn_35 : decode cX7_overIn 35 = .ok (.aload_n 0, 1) := by decide +kernel
theorem dX7_overIn_36 : decode cX7_overIn 36 = .ok (.iload_n 2, 1) := by decide +kernel
theorem dX7_overIn_37 : decode cX7_overIn 37 = .ok (.invokevirtual 85, 3) := by decide +kernel
theorem dX7_overIn_40 : decode cX7_overIn 40 = .ok (.ifCond .ne 19, 3) := by decide +kernel
theorem dX7_overIn_43 : decode cX7_overIn 43 = .ok (.iload 4, 2) := by decide +kernel
theorem dX7_overIn_45 : decode cX7_overIn 45 = .ok (.iload_n 3, 1) := by decide +kernel
theorem dX7_overIn_46 : decode cX7_overIn 46 = .ok (.if_icmp .ge 7, 3) := by decide +kernel
theorem dX7_overIn_49 : decode cX7_overIn 49 = .ok (.aload_n 0, 1) := by decide +kernel
theorem dX7_overIn_50 : decode cX7_overIn 50 = .ok (.invokevirtual 167, 3) := by decide +kernel
theorem dX7_overIn_53 : decode cX7_overIn 53 = .ok (.iinc 4 1, 3) := by decide +kernel
theorem dX7_overIn_56 : decode cX7_overIn 56 = .ok (.goto (-42), 3) := by decide +kernel
theorem dX7_overIn_59 : decode cX7_overIn 59 = .ok (.aload_n 0, 1) := by decide +kernel
theorem dX7_overIn_60 : decode cX7_overIn 60 = .ok (.getfield 16, 3) := by decide +kernel
theorem dX7_overIn_63 : decode cX7_overIn 63 = .ok (.aload_n 0, 1) := by decide +kernel
theorem dX7_overIn_64 : decode cX7_overIn 64 = .ok (.getfield 9, 3) := by decide +kernel
theorem dX7_overIn_67 : decode cX7_overIn 67 = .ok (.invokestatic 185, 3) := by decide +kernel
theorem dX7_overIn_70 : decode cX7_overIn 70 = .ok (.iload 4, 2) := by decide +kernel
theorem dX7_overIn_72 : decode cX7_overIn 72 = .ok (.ireturn, 1) := by decide +kernel
theorem dX7_shut_0 : decode cX7_shut 0 = .ok (.iload_n 1, 1) := by decide +kernel
theorem dX7_shut_1 : decode cX7_shut 1 = .ok (.invokestatic 66, 3) := by decide +kernel
theorem dX7_shut_4 : decode cX7_shut 4 = .ok (.ifCond .ne 10, 3) := by decide +kernel
theorem dX7_shut_7 : decode cX7_shut 7 = .ok (.aload_n 0, 1) := by decide +kernel
theorem dX7_shut_8 : decode cX7_shut 8 = .ok (.ldc 43, 2) := by decide +kernel
theorem dX7_shut_10 : decode cX7_shut 10 = .ok (.invokevirtual 45, 3) := by decide +kernel
theorem dX7_shut_13 : decode cX7_shut 13 = .ok (.ireturn, 1) := by decide +kernel
theorem dX7_shut_14 : decode cX7_shut 14 = .ok (.aload_n 0, 1) := by decide +kernel
theorem dX7_shut_15 : decode cX7_shut 15 = .ok (.bipush 100, 2) := by decide +kernel
theorem dX7_shut_17 : decode cX7_shut 17 = .ok (.invokevirtual 172, 3) := by decide +kernel
theorem dX7_shut_20 : decode cX7_shut 20 = .ok (.ifCond .eq 10, 3) := by decide +kernel
theorem dX7_shut_23 : decode cX7_shut 23 = .ok (.aload_n 0, 1) := by decide +kernel
theorem dX7_shut_24 : decode cX7_shut 24 = .ok (.ldc 130, 2) := by decide +kernel
theorem dX7_shut_26 : decode cX7_shut 26 = .ok (.invokevirtual 45, 3) := by decide +kernel
theorem dX7_shut_29 : decode cX7_shut 29 = .ok (.ireturn, 1) := by decide +kernel
theorem dX7_shut_30 : decode cX7_shut 30 = .ok (.aload_n 0, 1) := by decide +kernel
theorem dX7_shut_31 : decode cX7_shut 31 = .ok (.iload_n 1, 1) := by decide +kernel
theorem dX7_shut_32 : decode cX7_shut 32 = .ok (.iconst 0, 1) := by decide +kernel
theorem dX7_shut_33 : decode cX7_shut 33 = .ok (.bipush 100, 2) := by decide +kernel
theorem dX7_shut_35 : decode cX7_shut 35 = .ok (.invokevirtual 201, 3) := by decide +kernel
theorem dX7_shut_38 : decode cX7_shut 38 = .ok (.istore_n 2, 1) := by decide +kernel
theorem dX7_shut_39 : decode cX7_shut 39 = .ok (.iload_n 2, 1) := by decide +kernel
theorem dX7_shut_40 : decode cX7_shut 40 = .ok (.bipush 100, 2) := by decide +kernel
theorem dX7_shut_42 : decode cX7_shut 42 = .ok (.if_icmp .le 12, 3) := by decide +kernel
theorem dX7_shut_45 : decode cX7_shut 45 = .ok (.aload_n 0, 1) := by decide +kernel
theorem dX7_shut_46 : decode cX7_shut 46 = .ok (.ldc 44, 2) := by decide +kernel
theorem dX7_shut_48 : decode cX7_shut 48 = .ok (.invokevirtual 45, 3) := by decide +kernel
theorem dX7_shut_51 : decode cX7_shut 51 = .ok (.goto 4, 3) := by decide +kernel
theorem dX7_shut_54 : decode cX7_shut 54 = .ok (.iload_n 2, 1) := by decide +kernel
theorem dX7_shut_55 : decode cX7_shut 55 = .ok (.ireturn, 1) := by decide +kernel
theorem dX7_ends_0 : decode cX7_ends 0 = .ok (.aload_n 0, 1) := by decide +kernel
theorem dX7_ends_1 : decode cX7_ends 1 = .ok (.iload_n 1, 1) := by decide +kernel
theorem dX7_ends_2 : decode cX7_ends 2 = .ok (.invokevirtual 91, 3) := by decide +kernel
theorem dX7_ends_5 : decode cX7_ends 5 = .ok (.ifCond .ne 10, 3) := by decide +kernel
theorem dX7_ends_8 : decode cX7_ends 8 = .ok (.aload_n 0, 1) := by decide +kernel
theorem dX7_ends_9 : decode cX7_ends 9 = .ok (.ldc 43, 2) := by decide +kernel
theorem dX7_ends_11 : decode cX7_ends 11 = .ok (.invokevirtual 45, 3) := by decide +kernel
theorem dX7_ends_14 : decode cX7_ends 14 = .ok (.ireturn, 1) := by decide +kernel
theorem dX7_ends_15 : decode cX7_ends 15 = .ok (.aload_n 0, 1) := by decide +kernel
theorem dX7_ends_16 : decode cX7_ends 16 = .ok (.bipush 100, 2) := by decide +kernel
theorem dX7_ends_18 : decode cX7_ends 18 = .ok (.invokevirtual 172, 3) := by decide +kernel
theorem dX7_ends_21 : decode cX7_ends 21 = .ok (.ifCond .eq 10, 3) := by decide +kernel
theorem dX7_ends_24 : decode cX7_ends 24 = .ok (.aload_n 0, 1) := by decide +kernel
theorem dX7_ends_25 : decode cX7_ends 25 = .ok (.ldc 130, 2) := by decide +kernel
theorem dX7_ends_27 : decode cX7_ends 27 = .ok (.invokevirtual 45, 3) := by decide +kernel
theorem dX7_ends_30 : decode cX7_ends 30 = .ok (.ireturn, 1) := by decide +kernel
theorem dX7_ends_31 : decode cX7_ends 31 = .ok (.aload_n 0, 1) := by decide +kernel
theorem dX7_ends_32 : decode cX7_ends 32 = .ok (.iconst (-1), 1) := by decide +kernel
theorem dX7_ends_33 : decode cX7_ends 33 = .ok (.iload_n 1, 1) := by decide +kernel
theorem dX7_ends_34 : decode cX7_ends 34 = .ok (.bipush 100, 2) := by decide +kernel
theorem dX7_ends_36 : decode cX7_ends 36 = .ok (.invokevirtual 201, 3) := by decide +kernel
theorem dX7_ends_39 : decode cX7_ends 39 = .ok (.istore_n 2, 1) := by decide +kernel
theorem dX7_ends_40 : decode cX7_ends 40 = .ok (.iload_n 2, 1) := by decide +kernel
theorem dX7_ends_41 : decode cX7_ends 41 = .ok (.bipush 100, 2) := by decide +kernel
theorem dX7_ends_43 : decode cX7_ends 43 = .ok (.if_icmp .le 12, 3) := by decide +kernel
theorem dX7_ends_46 : decode cX7_ends 46 = .ok (.aload_n 0, 1) := by decide +kernel
theorem dX7_ends_47 : decode cX7_ends 47 = .ok (.ldc 44, 2) := by decide +kernel
theorem dX7_ends_49 : decode cX7_ends 49 = .ok (.invokevirtual 45, 3) := by decide +kernel
theorem dX7_ends_52 : decode cX7_ends 52 = .ok (.goto 4, 3) := by decide +kernel
theorem dX7_ends_55 : decode cX7_ends 55 = .ok (.iload_n 2, 1) := by decide +kernel
theorem dX7_ends_56 : decode cX7_ends 56 = .ok (.ireturn, 1) := by decide +kernel
theorem dX7_isShutInTime_0 : decode cX7_isShutInTime 0 = .ok (.bipush 40, 2) := by decide +kernel
theorem dX7_isShutInTime_2 : decode cX7_isShutInTime 2 = .ok (.aload_n 0, 1) := by decide +kernel
theorem dX7_isShutInTime_3 : decode cX7_isShutInTime 3 = .ok (.iload_n 1, 1) := by decide +kernel
theorem dX7_isShutInTime_4 : decode cX7_isShutInTime 4 = .ok (.iconst 1, 1) := by decide +kernel
theorem dX7_isShutInTime_5 : decode cX7_isShutInTime 5 = .ok (.invokevirtual 63, 3) := by decide +kernel
theorem dX7_isShutInTime_8 : decode cX7_isShutInTime 8 = .ok (.isub, 1) := by decide +kernel
theorem dX7_isShutInTime_9 : decode cX7_isShutInTime 9 = .ok (.istore_n 3, 1) := by decide +kernel
theorem dX7_isShutInTime_10 : decode cX7_isShutInTime 10 = .ok (.aload_n 0, 1) := by decide +kernel
theorem dX7_isShutInTime_11 : decode cX7_isShutInTime 11 = .ok (.iload_n 2, 1) := by decide +kernel
theorem dX7_isShutInTime_12 : decode cX7_isShutInTime 12 = .ok (.iconst 0, 1) := by decide +kernel
theorem dX7_isShutInTime_13 : decode cX7_isShutInTime 13 = .ok (.iload_n 3, 1) := by decide +kernel
theorem dX7_isShutInTime_14 : decode cX7_isShutInTime 14 = .ok (.invokevirtual 201, 3) := by decide +kernel
theorem dX7_isShutInTime_17 : decode cX7_isShutInTime 17 = .ok (.iload_n 3, 1) := by decide +kernel
theorem dX7_isShutInTime_18 : decode cX7_isShutInTime 18 = .ok (.if_icmp .gt 7, 3) := by decide +kernel
theorem dX7_isShutInTime_21 : decode cX7_isShutInTime 21 = .ok (.iconst 1, 1) := by decide +kernel
theorem dX7_isShutInTime_22 : decode cX7_isShutInTime 22 = .ok (.goto 4, 3) := by decide +kernel
theorem dX7_isShutInTime_25 : decode cX7_isShutInTime 25 = .ok (.iconst 0, 1) := by decide +kernel
theorem dX7_isShutInTime_26 : decode cX7_isShutInTime 26 = .ok (.ireturn, 1) := by decide +kernel
theorem dX7_choose_0 : decode cX7_choose 0 = .ok (.aload_n 0, 1) := by decide +kernel
theorem dX7_choose_1 : decode cX7_choose 1 = .ok (.iload_n 1, 1) := by decide +kernel
theorem dX7_choose_2 : decode cX7_choose 2 = .ok (.invokevirtual 123, 3) := by decide +kernel
theorem dX7_choose_5 : decode cX7_choose 5 = .ok (.ifCond .ne 10, 3) := by decide +kernel
theorem dX7_choose_8 : decode cX7_choose 8 = .ok (.aload_n 0, 1) := by decide +kernel
theorem dX7_choose_9 : decode cX7_choose 9 = .ok (.ldc 43, 2) := by decide +kernel
theorem dX7_choose_11 : decode cX7_choose 11 = .ok (.invokevirtual 45, 3) := by decide +kernel
theorem dX7_choose_14 : decode cX7_choose 14 = .ok (.ireturn, 1) := by decide +kernel
theorem dX7_choose_15 : decode cX7_choose 15 = .ok (.aload_n 0, 1) := by decide +kernel
theorem dX7_choose_16 : decode cX7_choose 16 = .ok (.iload_n 1, 1) := by decide +kernel
theorem dX7_choose_17 : decode cX7_choose 17 = .ok (.iconst 0, 1) := by decide +kernel
theorem dX7_choose_18 : decode cX7_choose 18 = .ok (.invokevirtual 63, 3) := by decide +kernel
theorem dX7_choose_21 : decode cX7_choose 21 = .ok (.ifCond .ge 23, 3) := by decide +kernel
theorem dX7_choose_24 : decode cX7_choose 24 = .ok (.aload_n 0, 1) := by decide +kernel
theorem dX7_choose_25 : decode cX7_choose 25 = .ok (.iload_n 1, 1) := by decide +kernel
theorem dX7_choose_26 : decode cX7_choose 26 = .ok (.iconst 1, 1) := by decide +kernel
theorem dX7_choose_27 : decode cX7_choose 27 = .ok (.invokevirtual 63, 3) := by decide +kernel
theorem dX7_choose_30 : decode cX7_choose 30 = .ok (.bipush 40, 2) := by decide +kernel
theorem dX7_choose_32 : decode cX7_choose 32 = .ok (.if_icmp .eq 12, 3) := by decide +kernel
theorem dX7_choose_35 : decode cX7_choose 35 = .ok (.aload_n 0, 1) := by decide +kernel
theorem dX7_choose_36 : decode cX7_choose 36 = .ok (.bipush 40, 2) := by decide +kernel
theorem dX7_choose_38 : decode cX7_choose 38 = .ok (.invokevirtual 172, 3) := by decide +kernel
theorem dX7_choose_41 : decode cX7_choose 41 = .ok (.ifCond .eq 10, 3) := by decide +kernel
theorem dX7_choose_44 : decode cX7_choose 44 = .ok (.aload_n 0, 1) := by decide +kernel
theorem dX7_choose_45 : decode cX7_choose 45 = .ok (.ldc 130, 2) := by decide +kernel
theorem dX7_choose_47 : decode cX7_choose 47 = .ok (.invokevirtual 45, 3) := by decide +kernel
theorem dX7_choose_50 : decode cX7_choose 50 = .ok (.ireturn, 1) := by decide +kernel
theorem dX7_choose_51 : decode cX7_choose 51 = .ok (.iconst (-1), 1) := by decide +kernel
theorem dX7_choose_52 : decode cX7_choose 52 = .ok (.istore_n 2, 1) := by decide +kernel
theorem dX7_choose_53 : decode cX7_choose 53 = .ok (.iconst 0, 1) := by decide +kernel
theorem dX7_choose_54 : decode cX7_choose 54 = .ok (.istore_n 3, 1) := by decide +kernel
theorem dX7_choose_55 : decode cX7_choose 55 = .ok (.iload_n 3, 1) := by decide +kernel
theorem dX7_choose_56 : decode cX7_choose 56 = .ok (.bipush 8, 2) := by decide +kernel
theorem dX7_choose_58 : decode cX7_choose 58 = .ok (.if_icmp .ge 94, 3) := by decide +kernel
theorem dX7_choose_61 : decode cX7_choose 61 = .ok (.aload_n 0, 1) := by decide +kernel
theorem dX7_choose_62 : decode cX7_choose 62 = .ok (.iload_n 3, 1) := by decide +kernel
theorem dX7_choose_63 : decode cX7_choose 63 = .ok (.invokevirtual 103, 3) := by decide +kernel
theorem dX7_choose_66 : decode cX7_choose 66 = .ok (.ifCond .eq 80, 3) := by decide +kernel
theorem dX7_choose_69 : decode cX7_choose 69 = .ok (.aload_n 0, 1) := by decide +kernel
theorem dX7_choose_70 : decode cX7_choose 70 = .ok (.iload_n 3, 1) := by decide +kernel
theorem dX7_choose_71 : decode cX7_choose 71 = .ok (.invokevirtual 106, 3) := by decide +kernel
theorem dX7_choose_74 : decode cX7_choose 74 = .ok (.ifCond .ge 72, 3) := by decide +kernel
theorem dX7_choose_77 : decode cX7_choose 77 = .ok (.iload_n 2, 1) := by decide +kernel
theorem dX7_choose_78 : decode cX7_choose 78 = .ok (.ifCond .lt 29, 3) := by decide +kernel
theorem dX7_choose_81 : decode cX7_choose 81 = .ok (.aload_n 0, 1) := by decide +kernel
theorem dX7_choose_82 : decode cX7_choose 82 = .ok (.getfield 9, 3) := by decide +kernel
theorem dX7_choose_85 : decode cX7_choose 85 = .ok (.iconst 4, 1) := by decide +kernel
theorem dX7_choose_86 : decode cX7_choose 86 = .ok (.iconst 2, 1) := by decide +kernel
theorem dX7_choose_87 : decode cX7_choose 87 = .ok (.iload_n 3, 1) := by decide +kernel
theorem dX7_choose_88 : decode cX7_choose 88 = .ok (.imul, 1) := by decide +kernel
theorem dX7_choose_89 : decode cX7_choose 89 = .ok (.iadd, 1) := by decide +kernel
theorem dX7_choose_90 : decode cX7_choose 90 = .ok (.iaload, 1) := by decide +kernel
theorem dX7_choose_91 : decode cX7_choose 91 = .ok (.aload_n 0, 1) := by decide +kernel
theorem dX7_choose_92 : decode cX7_choose 92 = .ok (.getfield 9, 3) := by decide +kernel
theorem dX7_choose_95 : decode cX7_choose 95 = .ok (.iconst 4, 1) := by decide +kernel
theorem dX7_choose_96 : decode cX7_choose 96 = .ok (.iconst 2, 1) := by decide +kernel
theorem dX7_choose_97 : decode cX7_choose 97 = .ok (.iload_n 2, 1) := by decide +kernel
theorem dX7_choose_98 : decode cX7_choose 98 = .ok (.imul, 1) := by decide +kernel
theorem dX7_choose_99 : decode cX7_choose 99 = .ok (.iadd, 1) := by decide +kernel
theorem dX7_choose_100 : decode cX7_choose 100 = .ok (.iaload, 1) := by decide +kernel
theorem dX7_choose_101 : decode cX7_choose 101 = .ok (.if_icmp .gt 6, 3) := by decide +kernel
theorem dX7_choose_104 : decode cX7_choose 104 = .ok (.goto 42, 3) := by decide +kernel
theorem dX7_choose_107 : decode cX7_choose 107 = .ok (.aload_n 0, 1) := by decide +kernel
theorem dX7_choose_108 : decode cX7_choose 108 = .ok (.getfield 9, 3) := by decide +kernel
theorem dX7_choose_111 : decode cX7_choose 111 = .ok (.bipush 100, 2) := by decide +kernel
theorem dX7_choose_113 : decode cX7_choose 113 = .ok (.iconst 4, 1) := by decide +kernel
theorem dX7_choose_114 : decode cX7_choose 114 = .ok (.iload_n 1, 1) := by decide +kernel
theorem dX7_choose_115 : decode cX7_choose 115 = .ok (.imul, 1) := by decide +kernel
theorem dX7_choose_116 : decode cX7_choose 116 = .ok (.iadd, 1) := by decide +kernel
theorem dX7_choose_117 : decode cX7_choose 117 = .ok (.iload_n 3, 1) := by decide +kernel
theorem dX7_choose_118 : decode cX7_choose 118 = .ok (.iastore, 1) := by decide +kernel
theorem dX7_choose_119 : decode cX7_choose 119 = .ok (.aload_n 0, 1) := by decide +kernel
theorem dX7_choose_120 : decode cX7_choose 120 = .ok (.iload_n 1, 1) := by decide +kernel
theorem dX7_choose_121 : decode cX7_choose 121 = .ok (.iload_n 3, 1) := by decide +kernel
theorem dX7_choose_122 : decode cX7_choose 122 = .ok (.invokevirtual 205, 3) := by decide +kernel
theorem dX7_choose_125 : decode cX7_choose 125 = .ok (.ifCond .eq 7, 3) := by decide +kernel
theorem dX7_choose_128 : decode cX7_choose 128 = .ok (.iload_n 3, 1) := by decide +kernel
theorem dX7_choose_129 : decode cX7_choose 129 = .ok (.goto 4, 3) := by decide +kernel
theorem dX7_choose_132 : decode cX7_choose 132 = .ok (.iload_n 2, 1) := by decide +kernel
theorem dX7_choose_133 : decode cX7_choose 133 = .ok (.istore_n 2, 1) := by decide +kernel
theorem dX7_choose_134 : decode cX7_choose 134 = .ok (.aload_n 0, 1) := by decide +kernel
theorem dX7_choose_135 : decode cX7_choose 135 = .ok (.getfield 9, 3) := by decide +kernel
theorem dX7_choose_138 : decode cX7_choose 138 = .ok (.bipush 100, 2) := by decide +kernel
theorem dX7_choose_140 : decode cX7_choose 140 = .ok (.iconst 4, 1) := by decide +kernel
theorem dX7_choose_141 : decode cX7_choose 141 = .ok (.iload_n 1, 1) := by decide +kernel
theorem dX7_choose_142 : decode cX7_choose 142 = .ok (.imul, 1) := by decide +kernel
theorem dX7_choose_143 : decode cX7_choose 143 = .ok (.iadd, 1) := by decide +kernel
theorem dX7_choose_144 : decode cX7_choose 144 = .ok (.iconst (-1), 1) := by decide +kernel
theorem dX7_choose_145 : decode cX7_choose 145 = .ok (.iastore, 1) := by decide +kernel
theorem dX7_choose_146 : decode cX7_choose 146 = .ok (.iinc 3 1, 3) := by decide +kernel
theorem dX7_choose_149 : decode cX7_choose 149 = .ok (.goto (-94), 3) := by decide +kernel
theorem dX7_choose_152 : decode cX7_choose 152 = .ok (.aload_n 0, 1) := by decide +kernel
theorem dX7_choose_153 : decode cX7_choose 153 = .ok (.iload_n 2, 1) := by decide +kernel
theorem dX7_choose_154 : decode cX7_choose 154 = .ok (.invokevirtual 208, 3) := by decide +kernel
theorem dX7_choose_157 : decode cX7_choose 157 = .ok (.ireturn, 1) := by decide +kernel
theorem dX7_handsFor_0 : decode cX7_handsFor 0 = .ok (.aload_n 0, 1) := by decide +kernel
theorem dX7_handsFor_1 : decode cX7_handsFor 1 = .ok (.iload_n 1, 1) := by decide +kernel
theorem dX7_handsFor_2 : decode cX7_handsFor 2 = .ok (.invokevirtual 123, 3) := by decide +kernel
theorem dX7_handsFor_5 : decode cX7_handsFor 5 = .ok (.ifCond .ne 10, 3) := by decide +kernel
theorem dX7_handsFor_8 : decode cX7_handsFor 8 = .ok (.aload_n 0, 1) := by decide +kernel
theorem dX7_handsFor_9 : decode cX7_handsFor 9 = .ok (.ldc 43, 2) := by decide +kernel
theorem dX7_handsFor_11 : decode cX7_handsFor 11 = .ok (.invokevirtual 45, 3) := by decide +kernel
theorem dX7_handsFor_14 : decode cX7_handsFor 14 = .ok (.ireturn, 1) := by decide +kernel
theorem dX7_handsFor_15 : decode cX7_handsFor 15 = .ok (.aload_n 0, 1) := by decide +kernel
theorem dX7_handsFor_16 : decode cX7_handsFor 16 = .ok (.iload_n 1, 1) := by decide +kernel
theorem dX7_handsFor_17 : decode cX7_handsFor 17 = .ok (.iconst 0, 1) := by decide +kernel
theorem dX7_handsFor_18 : decode cX7_handsFor 18 = .ok (.invokevirtual 63, 3) := by decide +kernel
theorem dX7_handsFor_21 : decode cX7_handsFor 21 = .ok (.ifCond .lt 12, 3) := by decide +kernel
theorem dX7_handsFor_24 : decode cX7_handsFor 24 = .ok (.aload_n 0, 1) := by decide +kernel
theorem dX7_handsFor_25 : decode cX7_handsFor 25 = .ok (.bipush 40, 2) := by decide +kernel
theorem dX7_handsFor_27 : decode cX7_handsFor 27 = .ok (.invokevirtual 172, 3) := by decide +kernel
theorem dX7_handsFor_30 : decode cX7_handsFor 30 = .ok (.ifCond .eq 10, 3) := by decide +kernel
theorem dX7_handsFor_33 : decode cX7_handsFor 33 = .ok (.aload_n 0, 1) := by decide +kernel
theorem dX7_handsFor_34 : decode cX7_handsFor 34 = .ok (.ldc 130, 2) := by decide +kernel
theorem dX7_handsFor_36 : decode cX7_handsFor 36 = .ok (.invokevirtual 45, 3) := by decide +kernel
theorem dX7_handsFor_39 : decode cX7_handsFor 39 = .ok (.ireturn, 1) := by decide +kernel
theorem dX7_handsFor_40 : decode cX7_handsFor 40 = .ok (.aload_n 0, 1) := by decide +kernel
theorem dX7_handsFor_41 : decode cX7_handsFor 41 = .ok (.iload_n 1, 1) := by decide +kernel
theorem dX7_handsFor_42 : decode cX7_handsFor 42 = .ok (.iconst 2, 1) := by decide +kernel
theorem dX7_handsFor_43 : decode cX7_handsFor 43 = .ok (.invokevirtual 63, 3) := by decide +kernel
theorem dX7_handsFor_46 : decode cX7_handsFor 46 = .ok (.istore_n 2, 1) := by decide +kernel
theorem dX7_handsFor_47 : decode cX7_handsFor 47 = .ok (.iconst (-1), 1) := by decide +kernel
theorem dX7_handsFor_48 : decode cX7_handsFor 48 = .ok (.istore_n 3, 1) := by decide +kernel
theorem dX7_handsFor_49 : decode cX7_handsFor 49 = .ok (.iconst 1, 1) := by decide +kernel
theorem dX7_handsFor_50 : decode cX7_handsFor 50 = .ok (.istore 4, 2) := by decide +kernel
theorem dX7_handsFor_52 : decode cX7_handsFor 52 = .ok (.iload 4, 2) := by decide +kernel
theorem dX7_handsFor_54 : decode cX7_handsFor 54 = .ok (.bipush 9, 2) := by decide +kernel
theorem dX7_handsFor_56 : decode cX7_handsFor 56 = .ok (.if_icmp .gt 49, 3) := by decide +kernel
theorem dX7_handsFor_59 : decode cX7_handsFor 59 = .ok (.iload_n 3, 1) := by decide +kernel
theorem dX7_handsFor_60 : decode cX7_handsFor 60 = .ok (.ifCond .ge 45, 3) := by decide +kernel
theorem dX7_handsFor_63 : decode cX7_handsFor 63 = .ok (.aload_n 0, 1) := by decide +kernel
theorem dX7_handsFor_64 : decode cX7_handsFor 64 = .ok (.getfield 9, 3) := by decide +kernel
theorem dX7_handsFor_67 : decode cX7_handsFor 67 = .ok (.bipush 100, 2) := by decide +kernel
theorem dX7_handsFor_69 : decode cX7_handsFor 69 = .ok (.iconst 4, 1) := by decide +kernel
theorem dX7_handsFor_70 : decode cX7_handsFor 70 = .ok (.iload_n 1, 1) := by decide +kernel
theorem dX7_handsFor_71 : decode cX7_handsFor 71 = .ok (.imul, 1) := by decide +kernel
theorem dX7_handsFor_72 : decode cX7_handsFor 72 = .ok (.iadd, 1) := by decide +kernel
theorem dX7_handsFor_73 : decode cX7_handsFor 73 = .ok (.iconst 2, 1) := by decide +kernel
theorem dX7_handsFor_74 : decode cX7_handsFor 74 = .ok (.iadd, 1) := by decide +kernel
theorem dX7_handsFor_75 : decode cX7_handsFor 75 = .ok (.iload 4, 2) := by decide +kernel
theorem dX7_handsFor_77 : decode cX7_handsFor 77 = .ok (.iastore, 1) := by decide +kernel
theorem dX7_handsFor_78 : decode cX7_handsFor 78 = .ok (.aload_n 0, 1) := by decide +kernel
theorem dX7_handsFor_79 : decode cX7_handsFor 79 = .ok (.iload_n 1, 1) := by decide +kernel
theorem dX7_handsFor_80 : decode cX7_handsFor 80 = .ok (.aload_n 0, 1) := by decide +kernel
theorem dX7_handsFor_81 : decode cX7_handsFor 81 = .ok (.iload_n 1, 1) := by decide +kernel
theorem dX7_handsFor_82 : decode cX7_handsFor 82 = .ok (.iconst 0, 1) := by decide +kernel
theorem dX7_handsFor_83 : decode cX7_handsFor 83 = .ok (.invokevirtual 63, 3) := by decide +kernel
theorem dX7_handsFor_86 : decode cX7_handsFor 86 = .ok (.invokevirtual 205, 3) := by decide +kernel
theorem dX7_handsFor_89 : decode cX7_handsFor 89 = .ok (.ifCond .eq 8, 3) := by decide +kernel
theorem dX7_handsFor_92 : decode cX7_handsFor 92 = .ok (.iload 4, 2) := by decide +kernel
theorem dX7_handsFor_94 : decode cX7_handsFor 94 = .ok (.goto 4, 3) := by decide +kernel
theorem dX7_handsFor_97 : decode cX7_handsFor 97 = .ok (.iconst (-1), 1) := by decide +kernel
theorem dX7_handsFor_98 : decode cX7_handsFor 98 = .ok (.istore_n 3, 1) := by decide +kernel
theorem dX7_handsFor_99 : decode cX7_handsFor 99 = .ok (.iinc 4 1, 3) := by decide +kernel
theorem dX7_handsFor_102 : decode cX7_handsFor 102 = .ok (.goto (-50), 3) := by decide +kernel
theorem dX7_handsFor_105 : decode cX7_handsFor 105 = .ok (.aload_n 0, 1) := by decide +kernel
theorem dX7_handsFor_106 : decode cX7_handsFor 106 = .ok (.getfield 9, 3) := by decide +kernel
theorem dX7_handsFor_109 : decode cX7_handsFor 109 = .ok (.bipush 100, 2) := by decide +kernel
theorem dX7_handsFor_111 : decode cX7_handsFor 111 = .ok (.iconst 4, 1) := by decide +kernel
theorem dX7_handsFor_112 : decode cX7_handsFor 112 = .ok (.iload_n 1, 1) := by decide +kernel
theorem dX7_handsFor_113 : decode cX7_handsFor 113 = .ok (.imul, 1) := by decide +kernel
theorem dX7_handsFor_114 : decode cX7_handsFor 114 = .ok (.iadd, 1) := by decide +kernel
theorem dX7_handsFor_115 : decode cX7_handsFor 115 = .ok (.iconst 2, 1) := by decide +kernel
theorem dX7_handsFor_116 : decode cX7_handsFor 116 = .ok (.iadd, 1) := by decide +kernel
theorem dX7_handsFor_117 : decode cX7_handsFor 117 = .ok (.iload_n 2, 1) := by decide +kernel
theorem dX7_handsFor_118 : decode cX7_handsFor 118 = .ok (.iastore, 1) := by decide +kernel
theorem dX7_handsFor_119 : decode cX7_handsFor 119 = .ok (.aload_n 0, 1) := by decide +kernel
theorem dX7_handsFor_120 : decode cX7_handsFor 120 = .ok (.iload_n 3, 1) := by decide +kernel
theorem dX7_handsFor_121 : decode cX7_handsFor 121 = .ok (.invokevirtual 208, 3) := by decide +kernel
theorem dX7_handsFor_124 : decode cX7_handsFor 124 = .ok (.ireturn, 1) := by decide +kernel
theorem dX7_mayGet_0 : decode cX7_mayGet 0 = .ok (.aload_n 0, 1) := by decide +kernel
theorem dX7_mayGet_1 : decode cX7_mayGet 1 = .ok (.iload_n 1, 1) := by decide +kernel
theorem dX7_mayGet_2 : decode cX7_mayGet 2 = .ok (.iconst 0, 1) := by decide +kernel
theorem dX7_mayGet_3 : decode cX7_mayGet 3 = .ok (.invokevirtual 63, 3) := by decide +kernel
theorem dX7_mayGet_6 : decode cX7_mayGet 6 = .ok (.ifCond .ge 18, 3) := by decide +kernel
theorem dX7_mayGet_9 : decode cX7_mayGet 9 = .ok (.aload_n 0, 1) := by decide +kernel
theorem dX7_mayGet_10 : decode cX7_mayGet 10 = .ok (.iload_n 1, 1) := by decide +kernel
theorem dX7_mayGet_11 : decode cX7_mayGet 11 = .ok (.iconst 1, 1) := by decide +kernel
theorem dX7_mayGet_12 : decode cX7_mayGet 12 = .ok (.invokevirtual 63, 3) := by decide +kernel
theorem dX7_mayGet_15 : decode cX7_mayGet 15 = .ok (.bipush 40, 2) := by decide +kernel
theorem dX7_mayGet_17 : decode cX7_mayGet 17 = .ok (.if_icmp .ge 7, 3) := by decide +kernel
theorem dX7_mayGet_20 : decode cX7_mayGet 20 = .ok (.iconst 1, 1) := by decide +kernel
theorem dX7_mayGet_21 : decode cX7_mayGet 21 = .ok (.goto 4, 3) := by decide +kernel
theorem dX7_mayGet_24 : decode cX7_mayGet 24 = .ok (.iconst 0, 1) := by decide +kernel
theorem dX7_mayGet_25 : decode cX7_mayGet 25 = .ok (.ireturn, 1) := by decide +kernel
theorem dX7_waiting_0 : decode cX7_waiting 0 = .ok (.iconst 0, 1) := by decide +kernel
theorem dX7_waiting_1 : decode cX7_waiting 1 = .ok (.istore_n 1, 1) := by decide +kernel
theorem dX7_waiting_2 : decode cX7_waiting 2 = .ok (.iconst 0, 1) := by decide +kernel
theorem dX7_waiting_3 : decode cX7_waiting 3 = .ok (.istore_n 2, 1) := by decide +kernel
theorem dX7_waiting_4 : decode cX7_waiting 4 = .ok (.iload_n 2, 1) := by decide +kernel
theorem dX7_waiting_5 : decode cX7_waiting 5 = .ok (.aload_n 0, 1) := by decide +kernel
theorem dX7_waiting_6 : decode cX7_waiting 6 = .ok (.getfield 9, 3) := by decide +kernel
theorem dX7_waiting_9 : decode cX7_waiting 9 = .ok (.iconst 3, 1) := by decide +kernel
theorem dX7_waiting_10 : decode cX7_waiting 10 = .ok (.iaload, 1) := by decide +kernel
theorem dX7_waiting_11 : decode cX7_waiting 11 = .ok (.if_icmp .ge 25, 3) := by decide +kernel
theorem dX7_waiting_14 : decode cX7_waiting 14 = .ok (.iload_n 1, 1) := by decide +kernel
theorem dX7_waiting_15 : decode cX7_waiting 15 = .ok (.aload_n 0, 1) := by decide +kernel
theorem dX7_waiting_16 : decode cX7_waiting 16 = .ok (.iload_n 2, 1) := by decide +kernel
theorem dX7_waiting_17 : decode cX7_waiting 17 = .ok (.invokevirtual 211, 3) := by decide +kernel
theorem dX7_waiting_20 : decode cX7_waiting 20 = .ok (.ifCond .eq 7, 3) := by decide +kernel
theorem dX7_waiting_23 : decode cX7_waiting 23 = .ok (.iconst 1, 1) := by decide +kernel
theorem dX7_waiting_24 : decode cX7_waiting 24 = .ok (.goto 4, 3) := by decide +kernel
theorem dX7_waiting_27 : decode cX7_waiting 27 = .ok (.iconst 0, 1) := by decide +kernel
theorem dX7_waiting_28 : decode cX7_waiting 28 = .ok (.iadd, 1) := by decide +kernel
theorem dX7_waiting_29 : decode cX7_waiting 29 = .ok (.istore_n 1, 1) := by decide +kernel
theorem dX7_waiting_30 : decode cX7_waiting 30 = .ok (.iinc 2 1, 3) := by decide +kernel
theorem dX7_waiting_33 : decode cX7_waiting 33 = .ok (.goto (-29), 3) := by decide +kernel
theorem dX7_waiting_36 : decode cX7_waiting 36 = .ok (.iload_n 1, 1) := by decide +kernel
theorem dX7_waiting_37 : decode cX7_waiting 37 = .ok (.ireturn, 1) := by decide +kernel
theorem dX7_bestWay_0 : decode cX7_bestWay 0 = .ok (.iconst 0, 1) := by decide +kernel
theorem dX7_bestWay_1 : decode cX7_bestWay 1 = .ok (.istore_n 2, 1) := by decide +kernel
theorem dX7_bestWay_2 : decode cX7_bestWay 2 = .ok (.iconst 0, 1) := by decide +kernel
theorem dX7_bestWay_3 : decode cX7_bestWay 3 = .ok (.istore_n 3, 1) := by decide +kernel
theorem dX7_bestWay_4 : decode cX7_bestWay 4 = .ok (.iload_n 3, 1) := by decide +kernel
theorem dX7_bestWay_5 : decode cX7_bestWay 5 = .ok (.bipush 8, 2) := by decide +kernel
theorem dX7_bestWay_7 : decode cX7_bestWay 7 = .ok (.if_icmp .ge 35, 3) := by decide +kernel
theorem dX7_bestWay_10 : decode cX7_bestWay 10 = .ok (.iload_n 2, 1) := by decide +kernel
theorem dX7_bestWay_11 : decode cX7_bestWay 11 = .ok (.aload_n 0, 1) := by decide +kernel
theorem dX7_bestWay_12 : decode cX7_bestWay 12 = .ok (.iload_n 3, 1) := by decide +kernel
theorem dX7_bestWay_13 : decode cX7_bestWay 13 = .ok (.invokevirtual 103, 3) := by decide +kernel
theorem dX7_bestWay_16 : decode cX7_bestWay 16 = .ok (.ifCond .eq 17, 3) := by decide +kernel
theorem dX7_bestWay_19 : decode cX7_bestWay 19 = .ok (.aload_n 0, 1) := by decide +kernel
theorem dX7_bestWay_20 : decode cX7_bestWay 20 = .ok (.iload_n 3, 1) := by decide +kernel
theorem dX7_bestWay_21 : decode cX7_bestWay 21 = .ok (.invokevirtual 106, 3) := by decide +kernel
theorem dX7_bestWay_24 : decode cX7_bestWay 24 = .ok (.ifCond .ge 9, 3) := by decide +kernel
theorem dX7_bestWay_27 : decode cX7_bestWay 27 = .ok (.iconst 1, 1) := by decide +kernel
theorem dX7_bestWay_28 : decode cX7_bestWay 28 = .ok (.iload_n 3, 1) := by decide +kernel
theorem dX7_bestWay_29 : decode cX7_bestWay 29 = .ok (.ishl, 1) := by decide +kernel
theorem dX7_bestWay_30 : decode cX7_bestWay 30 = .ok (.goto 4, 3) := by decide +kernel
theorem dX7_bestWay_33 : decode cX7_bestWay 33 = .ok (.iconst 0, 1) := by decide +kernel
theorem dX7_bestWay_34 : decode cX7_bestWay 34 = .ok (.ior, 1) := by decide +kernel
theorem dX7_bestWay_35 : decode cX7_bestWay 35 = .ok (.istore_n 2, 1) := by decide +kernel
theorem dX7_bestWay_36 : decode cX7_bestWay 36 = .ok (.iinc 3 1, 3) := by decide +kernel
theorem dX7_bestWay_39 : decode cX7_bestWay 39 = .ok (.goto (-35), 3) := by decide +kernel
theorem dX7_bestWay_42 : decode cX7_bestWay 42 = .ok (.iconst 0, 1) := by decide +kernel
theorem dX7_bestWay_43 : decode cX7_bestWay 43 = .ok (.istore_n 3, 1) := by decide +kernel
theorem dX7_bestWay_44 : decode cX7_bestWay 44 = .ok (.iconst 0, 1) := by decide +kernel
theorem dX7_bestWay_45 : decode cX7_bestWay 45 = .ok (.istore 4, 2) := by decide +kernel
theorem dX7_bestWay_47 : decode cX7_bestWay 47 = .ok (.iload 4, 2) := by decide +kernel
theorem dX7_bestWay_49 : decode cX7_bestWay 49 = .ok (.aload_n 0, 1) := by decide +kernel
theorem dX7_bestWay_50 : decode cX7_bestWay 50 = .ok (.getfield 9, 3) := by decide +kernel
theorem dX7_bestWay_53 : decode cX7_bestWay 53 = .ok (.iconst 3, 1) := by decide +kernel
theorem dX7_bestWay_54 : decode cX7_bestWay 54 = .ok (.iaload, 1) := by decide +kernel
theorem dX7_bestWay_55 : decode cX7_bestWay 55 = .ok (.if_icmp .ge 29, 3) := by decide +kernel
theorem dX7_bestWay_58 : decode cX7_bestWay 58 = .ok (.iload_n 3, 1) := by decide +kernel
theorem dX7_bestWay_59 : decode cX7_bestWay 59 = .ok (.aload_n 0, 1) := by decide +kernel
theorem dX7_bestWay_60 : decode cX7_bestWay 60 = .ok (.iload 4, 2) := by decide +kernel
theorem dX7_bestWay_62 : decode cX7_bestWay 62 = .ok (.invokevirtual 211, 3) := by decide +kernel
theorem dX7_bestWay_65 : decode cX7_bestWay 65 = .ok (.ifCond .eq 10, 3) := by decide +kernel
theorem dX7_bestWay_68 : decode cX7_bestWay 68 = .ok (.iconst 1, 1) := by decide +kernel
theorem dX7_bestWay_69 : decode cX7_bestWay 69 = .ok (.iload 4, 2) := by decide +kernel
theorem dX7_bestWay_71 : decode cX7_bestWay 71 = .ok (.ishl, 1) := by decide +kernel
theorem dX7_bestWay_72 : decode cX7_bestWay 72 = .ok (.goto 4, 3) := by decide +kernel
theorem dX7_bestWay_75 : decode cX7_bestWay 75 = .ok (.iconst 0, 1) := by decide +kernel
theorem dX7_bestWay_76 : decode cX7_bestWay 76 = .ok (.ior, 1) := by decide +kernel
theorem dX7_bestWay_77 : decode cX7_bestWay 77 = .ok (.istore_n 3, 1) := by decide +kernel
theorem dX7_bestWay_78 : decode cX7_bestWay 78 = .ok (.iinc 4 1, 3) := by decide +kernel
theorem dX7_bestWay_81 : decode cX7_bestWay 81 = .ok (.goto (-34), 3) := by decide +kernel
theorem dX7_bestWay_84 : decode cX7_bestWay 84 = .ok (.iconst 0, 1) := by decide +kernel
theorem dX7_bestWay_85 : decode cX7_bestWay 85 = .ok (.istore 4, 2) := by decide +kernel
theorem dX7_bestWay_87 : decode cX7_bestWay 87 = .ok (.iload 4, 2) := by decide +kernel
theorem dX7_bestWay_89 : decode cX7_bestWay 89 = .ok (.bipush 8, 2) := by decide +kernel
theorem dX7_bestWay_91 : decode cX7_bestWay 91 = .ok (.if_icmp .ge 17, 3) := by decide +kernel
theorem dX7_bestWay_94 : decode cX7_bestWay 94 = .ok (.aload_n 0, 1) := by decide +kernel
theorem dX7_bestWay_95 : decode cX7_bestWay 95 = .ok (.getfield 25, 3) := by decide +kernel
theorem dX7_bestWay_98 : decode cX7_bestWay 98 = .ok (.iload 4, 2) := by decide +kernel
theorem dX7_bestWay_100 : decode cX7_bestWay 100 = .ok (.iconst (-1), 1) := by decide +kernel
theorem dX7_bestWay_101 : decode cX7_bestWay 101 = .ok (.iastore, 1) := by decide +kernel
theorem dX7_bestWay_102 : decode cX7_bestWay 102 = .ok (.iinc 4 1, 3) := by decide +kernel
theorem dX7_bestWay_105 : decode cX7_bestWay 105 = .ok (.goto (-18), 3) := by decide +kernel
theorem dX7_bestWay_108 : decode cX7_bestWay 108 = .ok (.aload_n 0, 1) := by decide +kernel
theorem dX7_bestWay_109 : decode cX7_bestWay 109 = .ok (.getfield 9, 3) := by decide +kernel
theorem dX7_bestWay_112 : decode cX7_bestWay 112 = .ok (.aload_n 0, 1) := by decide +kernel
theorem dX7_bestWay_113 : decode cX7_bestWay 113 = .ok (.getfield 19, 3) := by decide +kernel
theorem dX7_bestWay_116 : decode cX7_bestWay 116 = .ok (.invokestatic 185, 3) := by decide +kernel
theorem dX7_bestWay_119 : decode cX7_bestWay 119 = .ok (.iconst (-1), 1) := by decide +kernel
theorem dX7_bestWay_120 : decode cX7_bestWay 120 = .ok (.istore 4, 2) := by decide +kernel
theorem dX7_bestWay_122 : decode cX7_bestWay 122 = .ok (.iconst 1, 1) := by decide +kernel
theorem dX7_bestWay_123 : decode cX7_bestWay 123 = .ok (.istore 5, 2) := by decide +kernel
theorem dX7_bestWay_125 : decode cX7_bestWay 125 = .ok (.iload 5, 2) := by decide +kernel
theorem dX7_bestWay_127 : decode cX7_bestWay 127 = .ok (.ifCond .eq 301, 3) := by decide +kernel
theorem dX7_bestWay_130 : decode cX7_bestWay 130 = .ok (.iconst 0, 1) := by decide +kernel
theorem dX7_bestWay_131 : decode cX7_bestWay 131 = .ok (.istore 6, 2) := by decide +kernel
theorem dX7_bestWay_133 : decode cX7_bestWay 133 = .ok (.iconst 1, 1) := by decide +kernel
theorem dX7_bestWay_134 : decode cX7_bestWay 134 = .ok (.istore 7, 2) := by decide +kernel
theorem dX7_bestWay_136 : decode cX7_bestWay 136 = .ok (.iconst 0, 1) := by decide +kernel
theorem dX7_bestWay_137 : decode cX7_bestWay 137 = .ok (.istore 8, 2) := by decide +kernel
theorem dX7_bestWay_139 : decode cX7_bestWay 139 = .ok (.iload 8, 2) := by decide +kernel
theorem dX7_bestWay_141 : decode cX7_bestWay 141 = .ok (.bipush 8, 2) := by decide +kernel
theorem dX7_bestWay_143 : decode cX7_bestWay 143 = .ok (.if_icmp .ge 78, 3) := by decide +kernel
theorem dX7_bestWay_146 : decode cX7_bestWay 146 = .ok (.aload_n 0, 1) := by decide +kernel
theorem dX7_bestWay_147 : decode cX7_bestWay 147 = .ok (.getfield 25, 3) := by decide +kernel
theorem dX7_bestWay_150 : decode cX7_bestWay 150 = .ok (.iload 8, 2) := by decide +kernel
theorem dX7_bestWay_152 : decode cX7_bestWay 152 = .ok (.iaload, 1) := by decide +kernel
theorem dX7_bestWay_153 : decode cX7_bestWay 153 = .ok (.ifCond .ge 6, 3) := by decide +kernel
theorem dX7_bestWay_156 : decode cX7_bestWay 156 = .ok (.goto 59, 3) := by decide +kernel
theorem dX7_bestWay_159 : decode cX7_bestWay 159 = .ok (.iload 7, 2) := by decide +kernel
theorem dX7_bestWay_161 : decode cX7_bestWay 161 = .ok (.ifCond .eq 37, 3) := by decide +kernel
theorem dX7_bestWay_164 : decode cX7_bestWay 164 = .ok (.iload_n 2, 1) := by decide +kernel
theorem dX7_bestWay_165 : decode cX7_bestWay 165 = .ok (.aload_n 0, 1) := by decide +kernel
theorem dX7_bestWay_166 : decode cX7_bestWay 166 = .ok (.getfield 25, 3) := by decide +kernel
theorem dX7_bestWay_169 : decode cX7_bestWay 169 = .ok (.iload 8, 2) := by decide +kernel
theorem dX7_bestWay_171 : decode cX7_bestWay 171 = .ok (.iaload, 1) := by decide +kernel
theorem dX7_bestWay_172 : decode cX7_bestWay 172 = .ok (.ishr, 1) := by decide +kernel
theorem dX7_bestWay_173 : decode cX7_bestWay 173 = .ok (.iconst 1, 1) := by decide +kernel
theorem dX7_bestWay_174 : decode cX7_bestWay 174 = .ok (.iand, 1) := by decide +kernel
theorem dX7_bestWay_175 : decode cX7_bestWay 175 = .ok (.iconst 1, 1) := by decide +kernel
theorem dX7_bestWay_176 : decode cX7_bestWay 176 = .ok (.if_icmp .ne 22, 3) := by decide +kernel
theorem dX7_bestWay_179 : decode cX7_bestWay 179 = .ok (.iload 6, 2) := by decide +kernel
theorem dX7_bestWay_181 : decode cX7_bestWay 181 = .ok (.aload_n 0, 1) := by decide +kernel
theorem dX7_bestWay_182 : decode cX7_bestWay 182 = .ok (.getfield 25, 3) := by decide +kernel
theorem dX7_bestWay_185 : decode cX7_bestWay 185 = .ok (.iload 8, 2) := by decide +kernel
theorem dX7_bestWay_187 : decode cX7_bestWay 187 = .ok (.iaload, 1) := by decide +kernel
theorem dX7_bestWay_188 : decode cX7_bestWay 188 = .ok (.ishr, 1) := by decide +kernel
theorem dX7_bestWay_189 : decode cX7_bestWay 189 = .ok (.iconst 1, 1) := by decide +kernel
theorem dX7_bestWay_190 : decode cX7_bestWay 190 = .ok (.iand, 1) := by decide +kernel
theorem dX7_bestWay_191 : decode cX7_bestWay 191 = .ok (.ifCond .ne 7, 3) := by decide +kernel
theorem dX7_bestWay_194 : decode cX7_bestWay 194 = .ok (.iconst 1, 1) := by decide +kernel
theorem dX7_bestWay_195 : decode cX7_bestWay 195 = .ok (.goto 4, 3) := by decide +kernel
theorem dX7_bestWay_198 : decode cX7_bestWay 198 = .ok (.iconst 0, 1) := by decide +kernel
theorem dX7_bestWay_199 : decode cX7_bestWay 199 = .ok (.istore 7, 2) := by decide +kernel
theorem dX7_bestWay_201 : decode cX7_bestWay 201 = .ok (.iload 6, 2) := by decide +kernel
theorem dX7_bestWay_203 : decode cX7_bestWay 203 = .ok (.iconst 1, 1) := by decide +kernel
theorem dX7_bestWay_204 : decode cX7_bestWay 204 = .ok (.aload_n 0, 1) := by decide +kernel
theorem dX7_bestWay_205 : decode cX7_bestWay 205 = .ok (.getfield 25, 3) := by decide +kernel
theorem dX7_bestWay_208 : decode cX7_bestWay 208 = .ok (.iload 8, 2) := by decide +kernel
theorem dX7_bestWay_210 : decode cX7_bestWay 210 = .ok (.iaload, 1) := by decide +kernel
theorem dX7_bestWay_211 : decode cX7_bestWay 211 = .ok (.ishl, 1) := by decide +kernel
theorem dX7_bestWay_212 : decode cX7_bestWay 212 = .ok (.ior, 1) := by decide +kernel
theorem dX7_bestWay_213 : decode cX7_bestWay 213 = .ok (.istore 6, 2) := by decide +kernel
theorem dX7_bestWay_215 : decode cX7_bestWay 215 = .ok (.iinc 8 1, 3) := by decide +kernel
theorem dX7_bestWay_218 : decode cX7_bestWay 218 = .ok (.goto (-79), 3) := by decide +kernel
theorem dX7_bestWay_221 : decode cX7_bestWay 221 = .ok (.iload 7, 2) := by decide +kernel
theorem dX7_bestWay_223 : decode cX7_bestWay 223 = .ok (.ifCond .eq 123, 3) := by decide +kernel
theorem dX7_bestWay_226 : decode cX7_bestWay 226 = .ok (.iconst 0, 1) := by decide +kernel
theorem dX7_bestWay_227 : decode cX7_bestWay 227 = .ok (.istore 8, 2) := by decide +kernel
theorem dX7_bestWay_229 : decode cX7_bestWay 229 = .ok (.iload 8, 2) := by decide +kernel
theorem dX7_bestWay_231 : decode cX7_bestWay 231 = .ok (.bipush 8, 2) := by decide +kernel
theorem dX7_bestWay_233 : decode cX7_bestWay 233 = .ok (.if_icmp .ge 38, 3) := by decide +kernel
theorem dX7_bestWay_236 : decode cX7_bestWay 236 = .ok (.aload_n 0, 1) := by decide +kernel
theorem dX7_bestWay_237 : decode cX7_bestWay 237 = .ok (.getfield 25, 3) := by decide +kernel
theorem dX7_bestWay_240 : decode cX7_bestWay 240 = .ok (.iload 8, 2) := by decide +kernel
theorem dX7_bestWay_242 : decode cX7_bestWay 242 = .ok (.iaload, 1) := by decide +kernel
theorem dX7_bestWay_243 : decode cX7_bestWay 243 = .ok (.ifCond .lt 22, 3) := by decide +kernel
theorem dX7_bestWay_246 : decode cX7_bestWay 246 = .ok (.aload_n 0, 1) := by decide +kernel
theorem dX7_bestWay_247 : decode cX7_bestWay 247 = .ok (.getfield 9, 3) := by decide +kernel
theorem dX7_bestWay_250 : decode cX7_bestWay 250 = .ok (.bipush 100, 2) := by decide +kernel
theorem dX7_bestWay_252 : decode cX7_bestWay 252 = .ok (.iconst 4, 1) := by decide +kernel
theorem dX7_bestWay_253 : decode cX7_bestWay 253 = .ok (.iload 8, 2) := by decide +kernel
theorem dX7_bestWay_255 : decode cX7_bestWay 255 = .ok (.imul, 1) := by decide +kernel
theorem dX7_bestWay_256 : decode cX7_bestWay 256 = .ok (.iadd, 1) := by decide +kernel
theorem dX7_bestWay_257 : decode cX7_bestWay 257 = .ok (.aload_n 0, 1) := by decide +kernel
theorem dX7_bestWay_258 : decode cX7_bestWay 258 = .ok (.getfield 25, 3) := by decide +kernel
theorem dX7_bestWay_261 : decode cX7_bestWay 261 = .ok (.iload 8, 2) := by decide +kernel
theorem dX7_bestWay_263 : decode cX7_bestWay 263 = .ok (.iaload, 1) := by decide +kernel
theorem dX7_bestWay_264 : decode cX7_bestWay 264 = .ok (.iastore, 1) := by decide +kernel
theorem dX7_bestWay_265 : decode cX7_bestWay 265 = .ok (.iinc 8 1, 3) := by decide +kernel
theorem dX7_bestWay_268 : decode cX7_bestWay 268 = .ok (.goto (-39), 3) := by decide +kernel
theorem dX7_bestWay_271 : decode cX7_bestWay 271 = .ok (.aload_n 0, 1) := by decide +kernel
theorem dX7_bestWay_272 : decode cX7_bestWay 272 = .ok (.iload_n 1, 1) := by decide +kernel
theorem dX7_bestWay_273 : decode cX7_bestWay 273 = .ok (.invokevirtual 178, 3) := by decide +kernel
theorem dX7_bestWay_276 : decode cX7_bestWay 276 = .ok (.aload_n 0, 1) := by decide +kernel
theorem dX7_bestWay_277 : decode cX7_bestWay 277 = .ok (.invokevirtual 195, 3) := by decide +kernel
theorem dX7_bestWay_280 : decode cX7_bestWay 280 = .ok (.istore 8, 2) := by decide +kernel
theorem dX7_bestWay_282 : decode cX7_bestWay 282 = .ok (.aload_n 0, 1) := by decide +kernel
theorem dX7_bestWay_283 : decode cX7_bestWay 283 = .ok (.getfield 19, 3) := by decide +kernel
theorem dX7_bestWay_286 : decode cX7_bestWay 286 = .ok (.aload_n 0, 1) := by decide +kernel
theorem dX7_bestWay_287 : decode cX7_bestWay 287 = .ok (.getfield 9, 3) := by decide +kernel
theorem dX7_bestWay_290 : decode cX7_bestWay 290 = .ok (.invokestatic 185, 3) := by decide +kernel
theorem dX7_bestWay_293 : decode cX7_bestWay 293 = .ok (.iconst 0, 1) := by decide +kernel
theorem dX7_bestWay_294 : decode cX7_bestWay 294 = .ok (.istore 9, 2) := by decide +kernel
theorem dX7_bestWay_296 : decode cX7_bestWay 296 = .ok (.iload 9, 2) := by decide +kernel
theorem dX7_bestWay_298 : decode cX7_bestWay 298 = .ok (.bipush 8, 2) := by decide +kernel
theorem dX7_bestWay_300 : decode cX7_bestWay 300 = .ok (.if_icmp .ge 30, 3) := by decide +kernel
theorem dX7_bestWay_303 : decode cX7_bestWay 303 = .ok (.iload 8, 2) := by decide +kernel
theorem dX7_bestWay_305 : decode cX7_bestWay 305 = .ok (.iload 4, 2) := by decide +kernel
theorem dX7_bestWay_307 : decode cX7_bestWay 307 = .ok (.if_icmp .le 23, 3) := by decide +kernel
theorem dX7_bestWay_310 : decode cX7_bestWay 310 = .ok (.aload_n 0, 1) := by decide +kernel
theorem dX7_bestWay_311 : decode cX7_bestWay 311 = .ok (.getfield 28, 3) := by decide +kernel
theorem dX7_bestWay_314 : decode cX7_bestWay 314 = .ok (.iload 9, 2) := by decide +kernel
theorem dX7_bestWay_316 : decode cX7_bestWay 316 = .ok (.aload_n 0, 1) := by decide +kernel
theorem dX7_bestWay_317 : decode cX7_bestWay 317 = .ok (.getfield 25, 3) := by decide +kernel
theorem dX7_bestWay_320 : decode cX7_bestWay 320 = .ok (.iload 9, 2) := by decide +kernel
theorem dX7_bestWay_322 : decode cX7_bestWay 322 = .ok (.iaload, 1) := by decide +kernel
theorem dX7_bestWay_323 : decode cX7_bestWay 323 = .ok (.iastore, 1) := by decide +kernel
theorem dX7_bestWay_324 : decode cX7_bestWay 324 = .ok (.iinc 9 1, 3) := by decide +kernel
theorem dX7_bestWay_327 : decode cX7_bestWay 327 = .ok (.goto (-31), 3) := by decide +kernel
theorem dX7_bestWay_330 : decode cX7_bestWay 330 = .ok (.iload 8, 2) := by decide +kernel
theorem dX7_bestWay_332 : decode cX7_bestWay 332 = .ok (.iload 4, 2) := by decide +kernel
theorem dX7_bestWay_334 : decode cX7_bestWay 334 = .ok (.if_icmp .le 8, 3) := by decide +kernel
theorem dX7_bestWay_337 : decode cX7_bestWay 337 = .ok (.iload 8, 2) := by decide +kernel
theorem dX7_bestWay_339 : decode cX7_bestWay 339 = .ok (.goto 5, 3) := by decide +kernel
theorem dX7_bestWay_342 : decode cX7_bestWay 342 = .ok (.iload 4, 2) := by decide +kernel
theorem dX7_bestWay_344 : decode cX7_bestWay 344 = .ok (.istore 4, 2) := by decide +kernel
theorem dX7_bestWay_346 : decode cX7_bestWay 346 = .ok (.iconst 0, 1) := by decide +kernel
theorem dX7_bestWay_347 : decode cX7_bestWay 347 = .ok (.istore 5, 2) := by decide +kernel
theorem dX7_bestWay_349 : decode cX7_bestWay 349 = .ok (.bipush 7, 2) := by decide +kernel
theorem dX7_bestWay_351 : decode cX7_bestWay 351 = .ok (.istore 8, 2) := by decide +kernel
theorem dX7_bestWay_353 : decode cX7_bestWay 353 = .ok (.iload 8, 2) := by decide +kernel
theorem dX7_bestWay_355 : decode cX7_bestWay 355 = .ok (.ifCond .lt 70, 3) := by decide +kernel
theorem dX7_bestWay_358 : decode cX7_bestWay 358 = .ok (.iload 5, 2) := by decide +kernel
theorem dX7_bestWay_360 : decode cX7_bestWay 360 = .ok (.ifCond .ne 65, 3) := by decide +kernel
theorem dX7_bestWay_363 : decode cX7_bestWay 363 = .ok (.iload_n 3, 1) := by decide +kernel
theorem dX7_bestWay_364 : decode cX7_bestWay 364 = .ok (.iload 8, 2) := by decide +kernel
theorem dX7_bestWay_366 : decode cX7_bestWay 366 = .ok (.ishr, 1) := by decide +kernel
theorem dX7_bestWay_367 : decode cX7_bestWay 367 = .ok (.iconst 1, 1) := by decide +kernel
theorem dX7_bestWay_368 : decode cX7_bestWay 368 = .ok (.iand, 1) := by decide +kernel
theorem dX7_bestWay_369 : decode cX7_bestWay 369 = .ok (.ifCond .ne 6, 3) := by decide +kernel
theorem dX7_bestWay_372 : decode cX7_bestWay 372 = .ok (.goto 47, 3) := by decide +kernel
theorem dX7_bestWay_375 : decode cX7_bestWay 375 = .ok (.aload_n 0, 1) := by decide +kernel
theorem dX7_bestWay_376 : decode cX7_bestWay 376 = .ok (.getfield 25, 3) := by decide +kernel
theorem dX7_bestWay_379 : decode cX7_bestWay 379 = .ok (.iload 8, 2) := by decide +kernel
theorem dX7_bestWay_381 : decode cX7_bestWay 381 = .ok (.iaload, 1) := by decide +kernel
theorem dX7_bestWay_382 : decode cX7_bestWay 382 = .ok (.bipush 7, 2) := by decide +kernel
theorem dX7_bestWay_384 : decode cX7_bestWay 384 = .ok (.if_icmp .ge 7, 3) := by decide +kernel
theorem dX7_bestWay_387 : decode cX7_bestWay 387 = .ok (.iconst 1, 1) := by decide +kernel
theorem dX7_bestWay_388 : decode cX7_bestWay 388 = .ok (.goto 4, 3) := by decide +kernel
theorem dX7_bestWay_391 : decode cX7_bestWay 391 = .ok (.iconst 0, 1) := by decide +kernel
theorem dX7_bestWay_392 : decode cX7_bestWay 392 = .ok (.istore 5, 2) := by decide +kernel
theorem dX7_bestWay_394 : decode cX7_bestWay 394 = .ok (.aload_n 0, 1) := by decide +kernel
theorem dX7_bestWay_395 : decode cX7_bestWay 395 = .ok (.getfield 25, 3) := by decide +kernel
theorem dX7_bestWay_398 : decode cX7_bestWay 398 = .ok (.iload 8, 2) := by decide +kernel
theorem dX7_bestWay_400 : decode cX7_bestWay 400 = .ok (.iload 5, 2) := by decide +kernel
theorem dX7_bestWay_402 : decode cX7_bestWay 402 = .ok (.ifCond .eq 15, 3) := by decide +kernel
theorem dX7_bestWay_405 : decode cX7_bestWay 405 = .ok (.aload_n 0, 1) := by decide +kernel
theorem dX7_bestWay_406 : decode cX7_bestWay 406 = .ok (.getfield 25, 3) := by decide +kernel
theorem dX7_bestWay_409 : decode cX7_bestWay 409 = .ok (.iload 8, 2) := by decide +kernel
theorem dX7_bestWay_411 : decode cX7_bestWay 411 = .ok (.iaload, 1) := by decide +kernel
theorem dX7_bestWay_412 : decode cX7_bestWay 412 = .ok (.iconst 1, 1) := by decide +kernel
theorem dX7_bestWay_413 : decode cX7_bestWay 413 = .ok (.iadd, 1) := by decide +kernel
theorem dX7_bestWay_414 : decode cX7_bestWay 414 = .ok (.goto 4, 3) := by decide +kernel
theorem dX7_bestWay_417 : decode cX7_bestWay 417 = .ok (.iconst (-1), 1) := by decide +kernel
theorem dX7_bestWay_418 : decode cX7_bestWay 418 = .ok (.iastore, 1) := by decide +kernel
theorem dX7_bestWay_419 : decode cX7_bestWay 419 = .ok (.iinc 8 (-1), 3) := by decide +kernel
theorem dX7_bestWay_422 : decode cX7_bestWay 422 = .ok (.goto (-69), 3) := by decide +kernel
theorem dX7_bestWay_425 : decode cX7_bestWay 425 = .ok (.goto (-300), 3) := by decide +kernel
theorem dX7_bestWay_428 : decode cX7_bestWay 428 = .ok (.iload 4, 2) := by decide +kernel
theorem dX7_bestWay_430 : decode cX7_bestWay 430 = .ok (.ireturn, 1) := by decide +kernel
