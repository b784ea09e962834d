theorem dX0_init_0 : decode cX0_init 0 = .ok (.aload_n 0, 1) := by decide +kernel
theorem dX0_init_1 : decode cX0_init 1 = .ok (.invokespecial 3, 3) := by decide +kernel
theorem dX0_init_4 : decode cX0_init 4 = .ok (.aload_n 0, 1) := by decide +kernel
theorem dX0_init_5 : decode cX0_init 5 = .ok (.iconst 1, 1) := by decide +kernel
theorem dX0_init_6 : decode cX0_init 6 = .ok (.putfield 9, 3) := by decide +kernel
theorem dX0_init_9 : decode cX0_init 9 = .ok (.aload_n 0, 1) := by decide +kernel
theorem dX0_init_10 : decode cX0_init 10 = .ok (.bipush 8, 2) := by decide +kernel
theorem dX0_init_12 : decode cX0_init 12 = .ok (.newarray .int, 2) := by decide +kernel
theorem dX0_init_14 : decode cX0_init 14 = .ok (.putfield 15, 3) := by decide +kernel
theorem dX0_init_17 : decode cX0_init 17 = .ok (.aload_n 0, 1) := by decide +kernel
theorem dX0_init_18 : decode cX0_init 18 = .ok (.bipush 8, 2) := by decide +kernel
theorem dX0_init_20 : decode cX0_init 20 = .ok (.newarray .int, 2) := by decide +kernel
theorem dX0_init_22 : decode cX0_init 22 = .ok (.putfield 19, 3) := by decide +kernel
theorem dX0_init_25 : decode cX0_init 25 = .ok (.aload_n 0, 1) := by decide +kernel
theorem dX0_init_26 : decode cX0_init 26 = .ok (.bipush 20, 2) := by decide +kernel
theorem dX0_init_28 : decode cX0_init 28 = .ok (.newarray .int, 2) := by decide +kernel
theorem dX0_init_30 : decode cX0_init 30 = .ok (.putfield 22, 3) := by decide +kernel
theorem dX0_init_33 : decode cX0_init 33 = .ok (.aload_n 0, 1) := by decide +kernel
theorem dX0_init_34 : decode cX0_init 34 = .ok (.bipush 20, 2) := by decide +kernel
theorem dX0_init_36 : decode cX0_init 36 = .ok (.newarray .int, 2) := by decide +kernel
theorem dX0_init_38 : decode cX0_init 38 = .ok (.putfield 25, 3) := by decide +kernel
theorem dX0_init_41 : decode cX0_init 41 = .ok (.aload_n 0, 1) := by decide +kernel
theorem dX0_init_42 : decode cX0_init 42 = .ok (.bipush 20, 2) := by decide +kernel
theorem dX0_init_44 : decode cX0_init 44 = .ok (.newarray .int, 2) := by decide +kernel
theorem dX0_init_46 : decode cX0_init 46 = .ok (.putfield 28, 3) := by decide +kernel
theorem dX0_init_49 : decode cX0_init 49 = .ok (.aload_n 0, 1) := by decide +kernel
theorem dX0_init_50 : decode cX0_init 50 = .ok (.bipush 20, 2) := by decide +kernel
theorem dX0_init_52 : decode cX0_init 52 = .ok (.newarray .int, 2) := by decide +kernel
theorem dX0_init_54 : decode cX0_init 54 = .ok (.putfield 31, 3) := by decide +kernel
theorem dX0_init_57 : decode cX0_init 57 = .ok (.aload_n 0, 1) := by decide +kernel
theorem dX0_init_58 : decode cX0_init 58 = .ok (.bipush 8, 2) := by decide +kernel
theorem dX0_init_60 : decode cX0_init 60 = .ok (.newarray .int, 2) := by decide +kernel
theorem dX0_init_62 : decode cX0_init 62 = .ok (.putfield 34, 3) := by decide +kernel
theorem dX0_init_65 : decode cX0_init 65 = .ok (.aload_n 0, 1) := by decide +kernel
theorem dX0_init_66 : decode cX0_init 66 = .ok (.bipush 8, 2) := by decide +kernel
theorem dX0_init_68 : decode cX0_init 68 = .ok (.newarray .int, 2) := by decide +kernel
theorem dX0_init_70 : decode cX0_init 70 = .ok (.putfield 37, 3) := by decide +kernel
theorem dX0_init_73 : decode cX0_init 73 = .ok (.aload_n 0, 1) := by decide +kernel
theorem dX0_init_74 : decode cX0_init 74 = .ok (.bipush 8, 2) := by decide +kernel
theorem dX0_init_76 : decode cX0_init 76 = .ok (.newarray .int, 2) := by decide +kernel
theorem dX0_init_78 : decode cX0_init 78 = .ok (.putfield 40, 3) := by decide +kernel
theorem dX0_init_81 : decode cX0_init 81 = .ok (.aload_n 0, 1) := by decide +kernel
theorem dX0_init_82 : decode cX0_init 82 = .ok (.bipush 8, 2) := by decide +kernel
theorem dX0_init_84 : decode cX0_init 84 = .ok (.newarray .int, 2) := by decide +kernel
theorem dX0_init_86 : decode cX0_init 86 = .ok (.putfield 43, 3) := by decide +kernel
theorem dX0_init_89 : decode cX0_init 89 = .ok (.aload_n 0, 1) := by decide +kernel
theorem dX0_init_90 : decode cX0_init 90 = .ok (.bipush 10, 2) := by decide +kernel
theorem dX0_init_92 : decode cX0_init 92 = .ok (.newarray .int, 2) := by decide +kernel
theorem dX0_init_94 : decode cX0_init 94 = .ok (.putfield 46, 3) := by decide +kernel
theorem dX0_init_97 : decode cX0_init 97 = .ok (.aload_n 0, 1) := by decide +kernel
theorem dX0_init_98 : decode cX0_init 98 = .ok (.getfield 15, 3) := by decide +kernel
theorem dX0_init_101 : decode cX0_init 101 = .ok (.bipush 10, 2) := by decide +kernel
theorem dX0_init_103 : decode cX0_init 103 = .ok (.invokestatic 49, 3) := by decide +kernel
theorem dX0_init_106 : decode cX0_init 106 = .ok (.aload_n 0, 1) := by decide +kernel
theorem dX0_init_107 : decode cX0_init 107 = .ok (.getfield 46, 3) := by decide +kernel
theorem dX0_init_110 : decode cX0_init 110 = .ok (.iconst (-1), 1) := by decide +kernel
theorem dX0_init_111 : decode cX0_init 111 = .ok (.invokestatic 49, 3) := by decide +kernel
theorem dX0_init_114 : decode cX0_init 114 = .ok (.return_, 1) := by decide +kernel
theorem dX0_setTo_0 : decode cX0_setTo 0 = .ok (.aload_n 0, 1) := by decide +kernel
theorem dX0_setTo_1 : decode cX0_setTo 1 = .ok (.aload_n 1, 1) := by decide +kernel
theorem dX0_setTo_2 : decode cX0_setTo 2 = .ok (.getfield 55, 3) := by decide +kernel
theorem dX0_setTo_5 : decode cX0_setTo 5 = .ok (.putfield 55, 3) := by decide +kernel
theorem dX0_setTo_8 : decode cX0_setTo 8 = .ok (.aload_n 0, 1) := by decide +kernel
theorem dX0_setTo_9 : decode cX0_setTo 9 = .ok (.aload_n 1, 1) := by decide +kernel
theorem dX0_setTo_10 : decode cX0_setTo 10 = .ok (.getfield 9, 3) := by decide +kernel
theorem dX0_setTo_13 : decode cX0_setTo 13 = .ok (.putfield 9, 3) := by decide +kernel
theorem dX0_setTo_16 : decode cX0_setTo 16 = .ok (.aload_n 0, 1) := by decide +kernel
theorem dX0_setTo_17 : decode cX0_setTo 17 = .ok (.aload_n 1, 1) := by decide +kernel
theorem dX0_setTo_18 : decode cX0_setTo 18 = .ok (.getfield 58, 3) := by decide +kernel
theorem dX0_setTo_21 : decode cX0_setTo 21 = .ok (.putfield 58, 3) := by decide +kernel
theorem dX0_setTo_24 : decode cX0_setTo 24 = .ok (.aload_n 0, 1) := by decide +kernel
theorem dX0_setTo_25 : decode cX0_setTo 25 = .ok (.aload_n 1, 1) := by decide +kernel
theorem dX0_setTo_26 : decode cX0_setTo 26 = .ok (.getfield 61, 3) := by decide +kernel
theorem dX0_setTo_29 : decode cX0_setTo 29 = .ok (.putfield 61, 3) := by decide +kernel
theorem dX0_setTo_32 : decode cX0_setTo 32 = .ok (.aload_n 1, 1) := by decide +kernel
theorem dX0_setTo_33 : decode cX0_setTo 33 = .ok (.getfield 15, 3) := by decide +kernel
theorem dX0_setTo_36 : decode cX0_setTo 36 = .ok (.iconst 0, 1) := by decide +kernel
theorem dX0_setTo_37 : decode cX0_setTo 37 = .ok (.aload_n 0, 1) := by decide +kernel
theorem dX0_setTo_38 : decode cX0_setTo 38 = .ok (.getfield 15, 3) := by decide +kernel
theorem dX0_setTo_41 : decode cX0_setTo 41 = .ok (.iconst 0, 1) := by decide +kernel
theorem dX0_setTo_42 : decode cX0_setTo 42 = .ok (.bipush 8, 2) := by decide +kernel
theorem dX0_setTo_44 : decode cX0_setTo 44 = .ok (.invokestatic 64, 3) := by decide +kernel
theorem dX0_setTo_47 : decode cX0_setTo 47 = .ok (.aload_n 1, 1) := by decide +kernel
theorem dX0_setTo_48 : decode cX0_setTo 48 = .ok (.getfield 19, 3) := by decide +kernel
theorem dX0_setTo_51 : decode cX0_setTo 51 = .ok (.iconst 0, 1) := by decide +kernel
theorem dX0_setTo_52 : decode cX0_setTo 52 = .ok (.aload_n 0, 1) := by decide +kernel
theorem dX0_setTo_53 : decode cX0_setTo 53 = .ok (.getfield 19, 3) := by decide +kernel
theorem dX0_setTo_56 : decode cX0_setTo 56 = .ok (.iconst 0, 1) := by decide +kernel
theorem dX0_setTo_57 : decode cX0_setTo 57 = .ok (.bipush 8, 2) := by decide +kernel
theorem dX0_setTo_59 : decode cX0_setTo 59 = .ok (.invokestatic 64, 3) := by decide +kernel
theorem dX0_setTo_62 : decode cX0_setTo 62 = .ok (.aload_n 1, 1) := by decide +kernel
theorem dX0_setTo_63 : decode cX0_setTo 63 = .ok (.getfield 22, 3) := by decide +kernel
theorem dX0_setTo_66 : decode cX0_setTo 66 = .ok (.iconst 0, 1) := by decide +kernel
theorem dX0_setTo_67 : decode cX0_setTo 67 = .ok (.aload_n 0, 1) := by decide +kernel
theorem dX0_setTo_68 : decode cX0_setTo 68 = .ok (.getfield 22, 3) := by decide +kernel
theorem dX0_setTo_71 : decode cX0_setTo 71 = .ok (.iconst 0, 1) := by decide +kernel
theorem dX0_setTo_72 : decode cX0_setTo 72 = .ok (.bipush 20, 2) := by decide +kernel
theorem dX0_setTo_74 : decode cX0_setTo 74 = .ok (.invokestatic 64, 3) := by decide +kernel
theorem dX0_setTo_77 : decode cX0_setTo 77 = .ok (.aload_n 1, 1) := by decide +kernel
theorem dX0_setTo_78 : decode cX0_setTo 78 = .ok (.getfield 25, 3) := by decide +kernel
theorem dX0_setTo_81 : decode cX0_setTo 81 = .ok (.iconst 0, 1) := by decide +kernel
theorem dX0_setTo_82 : decode cX0_setTo 82 = .ok (.aload_n 0, 1) := by decide +kernel
theorem dX0_setTo_83 : decode cX0_setTo 83 = .ok (.getfield 25, 3) := by decide +kernel
theorem dX0_setTo_86 : decode cX0_setTo 86 = .ok (.iconst 0, 1) := by decide +kernel
theorem dX0_setTo_87 : decode cX0_setTo 87 = .ok (.bipush 20, 2) := by decide +kernel
theorem dX0_setTo_89 : decode cX0_setTo 89 = .ok (.invokestatic 64, 3) := by decide +kernel
theorem dX0_setTo_92 : decode cX0_setTo 92 = .ok (.aload_n 1, 1) := by decide +kernel
theorem dX0_setTo_93 : decode cX0_setTo 93 = .ok (.getfield 28, 3) := by decide +kernel
theorem dX0_setTo_96 : decode cX0_setTo 96 = .ok (.iconst 0, 1) := by decide +kernel
theorem dX0_setTo_97 : decode cX0_setTo 97 = .ok (.aload_n 0, 1) := by decide +kernel
theorem dX0_setTo_98 : decode cX0_setTo 98 = .ok (.getfield 28, 3) := by decide +kernel
theorem dX0_setTo_101 : decode cX0_setTo 101 = .ok (.iconst 0, 1) := by decide +kernel
theorem dX0_setTo_102 : decode cX0_setTo 102 = .ok (.bipush 20, 2) := by decide +kernel
theorem dX0_setTo_104 : decode cX0_setTo 104 = .ok (.invokestatic 64, 3) := by decide +kernel
theorem dX0_setTo_107 : decode cX0_setTo 107 = .ok (.aload_n 1, 1) := by decide +kernel
theorem dX0_setTo_108 : decode cX0_setTo 108 = .ok (.getfield 31, 3) := by decide +kernel
theorem dX0_setTo_111 : decode cX0_setTo 111 = .ok (.iconst 0, 1) := by decide +kernel
theorem dX0_setTo_112 : decode cX0_setTo 112 = .ok (.aload_n 0, 1) := by decide +kernel
theorem dX0_setTo_113 : decode cX0_setTo 113 = .ok (.getfield 31, 3) := by decide +kernel
theorem dX0_setTo_116 : decode cX0_setTo 116 = .ok (.iconst 0, 1) := by decide +kernel
theorem dX0_setTo_117 : decode cX0_setTo 117 = .ok (.bipush 20, 2) := by decide +kernel
theorem dX0_setTo_119 : decode cX0_setTo 119 = .ok (.invokestatic 64, 3) := by decide +kernel
theorem dX0_setTo_122 : decode cX0_setTo 122 = .ok (.aload_n 1, 1) := by decide +kernel
theorem dX0_setTo_123 : decode cX0_setTo 123 = .ok (.getfield 34, 3) := by decide +kernel
theorem dX0_setTo_126 : decode cX0_setTo 126 = .ok (.iconst 0, 1) := by decide +kernel
theorem dX0_setTo_127 : decode cX0_setTo 127 = .ok (.aload_n 0, 1) := by decide +kernel
theorem dX0_setTo_128 : decode cX0_setTo 128 = .ok (.getfield 34, 3) := by decide +kernel
theorem dX0_setTo_131 : decode cX0_setTo 131 = .ok (.iconst 0, 1) := by decide +kernel
theorem dX0_setTo_132 : decode cX0_setTo 132 = .ok (.bipush 8, 2) := by decide +kernel
theorem dX0_setTo_134 : decode cX0_setTo 134 = .ok (.invokestatic 64, 3) := by decide +kernel
theorem dX0_setTo_137 : decode cX0_setTo 137 = .ok (.aload_n 1, 1) := by decide +kernel
theorem dX0_setTo_138 : decode cX0_setTo 138 = .ok (.getfield 37, 3) := by decide +kernel
theorem dX0_setTo_141 : decode cX0_setTo 141 = .ok (.iconst 0, 1) := by decide +kernel
theorem dX0_setTo_142 : decode cX0_setTo 142 = .ok (.aload_n 0, 1) := by decide +kernel
theorem dX0_setTo_143 : decode cX0_setTo 143 = .ok (.getfield 37, 3) := by decide +kernel
theorem dX0_setTo_146 : decode cX0_setTo 146 = .ok (.iconst 0, 1) := by decide +kernel
theorem dX0_setTo_147 : decode cX0_setTo 147 = .ok (.bipush 8, 2) := by decide +kernel
theorem dX0_setTo_149 : decode cX0_setTo 149 = .ok (.invokestatic 64, 3) := by decide +kernel
theorem dX0_setTo_152 : decode cX0_setTo 152 = .ok (.aload_n 1, 1) := by decide +kernel
theorem dX0_setTo_153 : decode cX0_setTo 153 = .ok (.getfield 40, 3) := by decide +kernel
theorem dX0_setTo_156 : decode cX0_setTo 156 = .ok (.iconst 0, 1) := by decide +kernel
theorem dX0_setTo_157 : decode cX0_setTo 157 = .ok (.aload_n 0, 1) := by decide +kernel
theorem dX0_setTo_158 : decode cX0_setTo 158 = .ok (.getfield 40, 3) := by decide +kernel
theorem dX0_setTo_161 : decode cX0_setTo 161 = .ok (.iconst 0, 1) := by decide +kernel
theorem dX0_setTo_162 : decode cX0_setTo 162 = .ok (.bipush 8, 2) := by decide +kernel
theorem dX0_setTo_164 : decode cX0_setTo 164 = .ok (.invokestatic 64, 3) := by decide +kernel
theorem dX0_setTo_167 : decode cX0_setTo 167 = .ok (.aload_n 1, 1) := by decide +kernel
theorem dX0_setTo_168 : decode cX0_setTo 168 = .ok (.getfield 43, 3) := by decide +kernel
theorem dX0_setTo_171 : decode cX0_setTo 171 = .ok (.iconst 0, 1) := by decide +kernel
theorem dX0_setTo_172 : decode cX0_setTo 172 = .ok (.aload_n 0, 1) := by decide +kernel
theorem dX0_setTo_173 : decode cX0_setTo 173 = .ok (.getfield 43, 3) := by decide +kernel
theorem dX0_setTo_176 : decode cX0_setTo 176 = .ok (.iconst 0, 1) := by decide +kernel
theorem dX0_setTo_177 : decode cX0_setTo 177 = .ok (.bipush 8, 2) := by decide +kernel
theorem dX0_setTo_179 : decode cX0_setTo 179 = .ok (.invokestatic 64, 3) := by decide +kernel
theorem dX0_setTo_182 : decode cX0_setTo 182 = .ok (.aload_n 1, 1) := by decide +kernel
theorem dX0_setTo_183 : decode cX0_setTo 183 = .ok (.getfield 46, 3) := by decide +kernel
theorem dX0_setTo_186 : decode cX0_setTo 186 = .ok (.iconst 0, 1) := by decide +kernel
theorem dX0_setTo_187 : decode cX0_setTo 187 = .ok (.aload_n 0, 1) := by decide +kernel
theorem dX0_setTo_188 : decode cX0_setTo 188 = .ok (.getfield 46, 3) := by decide +kernel
theorem dX0_setTo_191 : decode cX0_setTo 191 = .ok (.iconst 0, 1) := by decide +kernel
theorem dX0_setTo_192 : decode cX0_setTo 192 = .ok (.bipush 10, 2) := by decide +kernel
theorem dX0_setTo_194 : decode cX0_setTo 194 = .ok (.invokestatic 64, 3) := by decide +kernel
theorem dX0_setTo_197 : decode cX0_setTo 197 = .ok (.return_, 1) := by decide +kernel
theorem dX0_draw_0 : decode cX0_draw 0 = .ok (.aload_n 0, 1) := by decide +kernel
theorem dX0_draw_1 : decode cX0_draw 1 = .ok (.aload_n 0, 1) := by decide +kernel
theorem dX0_draw_2 : decode cX0_draw 2 = .ok (.getfield 9, 3) := by decide +kernel
theorem dX0_draw_5 : decode cX0_draw 5 = .ok (.ldc 70, 2) := by decide +kernel
theorem dX0_draw_7 : decode cX0_draw 7 = .ok (.imul, 1) := by decide +kernel
theorem dX0_draw_8 : decode cX0_draw 8 = .ok (.sipush 12345, 3) := by decide +kernel
theorem dX0_draw_11 : decode cX0_draw 11 = .ok (.iadd, 1) := by decide +kernel
theorem dX0_draw_12 : decode cX0_draw 12 = .ok (.putfield 9, 3) := by decide +kernel
theorem dX0_draw_15 : decode cX0_draw 15 = .ok (.aload_n 0, 1) := by decide +kernel
theorem dX0_draw_16 : decode cX0_draw 16 = .ok (.getfield 9, 3) := by decide +kernel
theorem dX0_draw_19 : decode cX0_draw 19 = .ok (.bipush 8, 2) := by decide +kernel
theorem dX0_draw_21 : decode cX0_draw 21 = .ok (.iushr, 1) := by decide +kernel
theorem dX0_draw_22 : decode cX0_draw 22 = .ok (.ireturn, 1) := by decide +kernel
theorem dX0_hasTask_0 : decode cX0_hasTask 0 = .ok (.iload_n 1, 1) := by decide +kernel
theorem dX0_hasTask_1 : decode cX0_hasTask 1 = .ok (.ifCond .lt 15, 3) := by decide +kernel
theorem dX0_hasTask_4 : decode cX0_hasTask 4 = .ok (.iload_n 1, 1) := by decide +kernel
theorem dX0_hasTask_5 : decode cX0_hasTask 5 = .ok (.aload_n 0, 1) := by decide +kernel
theorem dX0_hasTask_6 : decode cX0_hasTask 6 = .ok (.getfield 58, 3) := by decide +kernel
theorem dX0_hasTask_9 : decode cX0_hasTask 9 = .ok (.if_icmp .ge 7, 3) := by decide +kernel
theorem dX0_hasTask_12 : decode cX0_hasTask 12 = .ok (.iconst 1, 1) := by decide +kernel
theorem dX0_hasTask_13 : decode cX0_hasTask 13 = .ok (.goto 4, 3) := by decide +kernel
theorem dX0_hasTask_16 : decode cX0_hasTask 16 = .ok (.iconst 0, 1) := by decide +kernel
theorem dX0_hasTask_17 : decode cX0_hasTask 17 = .ok (.ireturn, 1) := by decide +kernel
theorem dX0_hasPerson_0 : decode cX0_hasPerson 0 = .ok (.iload_n 1, 1) := by decide +kernel
theorem dX0_hasPerson_1 : decode cX0_hasPerson 1 = .ok (.ifCond .lt 15, 3) := by decide +kernel
theorem dX0_hasPerson_4 : decode cX0_hasPerson 4 = .ok (.iload_n 1, 1) := by decide +kernel
theorem dX0_hasPerson_5 : decode cX0_hasPerson 5 = .ok (.aload_n 0, 1) := by decide +kernel
theorem dX0_hasPerson_6 : decode cX0_hasPerson 6 = .ok (.getfield 61, 3) := by decide +kernel
theorem dX0_hasPerson_9 : decode cX0_hasPerson 9 = .ok (.if_icmp .ge 7, 3) := by decide +kernel
theorem dX0_hasPerson_12 : decode cX0_hasPerson 12 = .ok (.iconst 1, 1) := by decide +kernel
theorem dX0_hasPerson_13 : decode cX0_hasPerson 13 = .ok (.goto 4, 3) := by decide +kernel
theorem dX0_hasPerson_16 : decode cX0_hasPerson 16 = .ok (.iconst 0, 1) := by decide +kernel
theorem dX0_hasPerson_17 : decode cX0_hasPerson 17 = .ok (.ireturn, 1) := by decide +kernel
theorem dX0_addTask_0 : decode cX0_addTask 0 = .ok (.aload_n 0, 1) := by decide +kernel
theorem dX0_addTask_1 : decode cX0_addTask 1 = .ok (.getfield 58, 3) := by decide +kernel
theorem dX0_addTask_4 : decode cX0_addTask 4 = .ok (.bipush 20, 2) := by decide +kernel
theorem dX0_addTask_6 : decode cX0_addTask 6 = .ok (.if_icmp .lt 5, 3) := by decide +kernel
theorem dX0_addTask_9 : decode cX0_addTask 9 = .ok (.iconst (-1), 1) := by decide +kernel
theorem dX0_addTask_10 : decode cX0_addTask 10 = .ok (.ireturn, 1) := by decide +kernel
theorem dX0_addTask_11 : decode cX0_addTask 11 = .ok (.aload_n 0, 1) := by decide +kernel
theorem dX0_addTask_12 : decode cX0_addTask 12 = .ok (.getfield 22, 3) := by decide +kernel
theorem dX0_addTask_15 : decode cX0_addTask 15 = .ok (.aload_n 0, 1) := by decide +kernel
theorem dX0_addTask_16 : decode cX0_addTask 16 = .ok (.getfield 58, 3) := by decide +kernel
theorem dX0_addTask_19 : decode cX0_addTask 19 = .ok (.iload_n 1, 1) := by decide +kernel
theorem dX0_addTask_20 : decode cX0_addTask 20 = .ok (.iastore, 1) := by decide +kernel
theorem dX0_addTask_21 : decode cX0_addTask 21 = .ok (.aload_n 0, 1) := by decide +kernel
theorem dX0_addTask_22 : decode cX0_addTask 22 = .ok (.getfield 25, 3) := by decide +kernel
theorem dX0_addTask_25 : decode cX0_addTask 25 = .ok (.aload_n 0, 1) := by decide +kernel
theorem dX0_addTask_26 : decode cX0_addTask 26 = .ok (.getfield 58, 3) := by decide +kernel
theorem dX0_addTask_29 : decode cX0_addTask 29 = .ok (.iload_n 2, 1) := by decide +kernel
theorem dX0_addTask_30 : decode cX0_addTask 30 = .ok (.iastore, 1) := by decide +kernel
theorem dX0_addTask_31 : decode cX0_addTask 31 = .ok (.aload_n 0, 1) := by decide +kernel
theorem dX0_addTask_32 : decode cX0_addTask 32 = .ok (.getfield 28, 3) := by decide +kernel
theorem dX0_addTask_35 : decode cX0_addTask 35 = .ok (.aload_n 0, 1) := by decide +kernel
theorem dX0_addTask_36 : decode cX0_addTask 36 = .ok (.getfield 58, 3) := by decide +kernel
theorem dX0_addTask_39 : decode cX0_addTask 39 = .ok (.iload_n 3, 1) := by decide +kernel
theorem dX0_addTask_40 : decode cX0_addTask 40 = .ok (.iastore, 1) := by decide +kernel
theorem dX0_addTask_41 : decode cX0_addTask 41 = .ok (.aload_n 0, 1) := by decide +kernel
theorem dX0_addTask_42 : decode cX0_addTask 42 = .ok (.getfield 31, 3) := by decide +kernel
theorem dX0_addTask_45 : decode cX0_addTask 45 = .ok (.aload_n 0, 1) := by decide +kernel
theorem dX0_addTask_46 : decode cX0_addTask 46 = .ok (.getfield 58, 3) := by decide +kernel
theorem dX0_addTask_49 : decode cX0_addTask 49 = .ok (.iload 4, 2) := by decide +kernel
theorem dX0_addTask_51 : decode cX0_addTask 51 = .ok (.iastore, 1) := by decide +kernel
theorem dX0_addTask_52 : decode cX0_addTask 52 = .ok (.aload_n 0, 1) := by decide +kernel
theorem dX0_addTask_53 : decode cX0_addTask 53 = .ok (.dup, 1) := by decide +kernel
theorem dX0_addTask_54 : decode cX0_addTask 54 = .ok (.getfield 58, 3) := by decide +kernel
theorem dX0_addTask_57 : decode cX0_addTask 57 = .ok (.dup_x1, 1) := by decide +kernel
theorem dX0_addTask_58 : decode cX0_addTask 58 = .ok (.iconst 1, 1) := by decide +kernel
theorem dX0_addTask_59 : decode cX0_addTask 59 = .ok (.iadd, 1) := by decide +kernel
theorem dX0_addTask_60 : decode cX0_addTask 60 = .ok (.putfield 58, 3) := by decide +kernel
theorem dX0_addTask_63 : decode cX0_addTask 63 = .ok (.ireturn, 1) := by decide +kernel
theorem dX0_addPerson_0 : decode cX0_addPerson 0 = .ok (.aload_n 0, 1) := by decide +kernel
theorem dX0_addPerson_1 : decode cX0_addPerson 1 = .ok (.getfield 61, 3) := by decide +kernel
theorem dX0_addPerson_4 : decode cX0_addPerson 4 = .ok (.bipush 8, 2) := by decide +kernel
theorem dX0_addPerson_6 : decode cX0_addPerson 6 = .ok (.if_icmp .lt 5, 3) := by decide +kernel
theorem dX0_addPerson_9 : decode cX0_addPerson 9 = .ok (.iconst (-1), 1) := by decide +kernel
theorem dX0_addPerson_10 : decode cX0_addPerson 10 = .ok (.ireturn, 1) := by decide +kernel
theorem dX0_addPerson_11 : decode cX0_addPerson 11 = .ok (.aload_n 0, 1) := by decide +kernel
theorem dX0_addPerson_12 : decode cX0_addPerson 12 = .ok (.getfield 40, 3) := by decide +kernel
theorem dX0_addPerson_15 : decode cX0_addPerson 15 = .ok (.aload_n 0, 1) := by decide +kernel
theorem dX0_addPerson_16 : decode cX0_addPerson 16 = .ok (.getfield 61, 3) := by decide +kernel
theorem dX0_addPerson_19 : decode cX0_addPerson 19 = .ok (.iload_n 1, 1) := by decide +kernel
theorem dX0_addPerson_20 : decode cX0_addPerson 20 = .ok (.iastore, 1) := by decide +kernel
theorem dX0_addPerson_21 : decode cX0_addPerson 21 = .ok (.aload_n 0, 1) := by decide +kernel
theorem dX0_addPerson_22 : decode cX0_addPerson 22 = .ok (.getfield 37, 3) := by decide +kernel
theorem dX0_addPerson_25 : decode cX0_addPerson 25 = .ok (.aload_n 0, 1) := by decide +kernel
theorem dX0_addPerson_26 : decode cX0_addPerson 26 = .ok (.getfield 61, 3) := by decide +kernel
theorem dX0_addPerson_29 : decode cX0_addPerson 29 = .ok (.iload_n 2, 1) := by decide +kernel
theorem dX0_addPerson_30 : decode cX0_addPerson 30 = .ok (.iastore, 1) := by decide +kernel
theorem dX0_addPerson_31 : decode cX0_addPerson 31 = .ok (.aload_n 0, 1) := by decide +kernel
theorem dX0_addPerson_32 : decode cX0_addPerson 32 = .ok (.getfield 34, 3) := by decide +kernel
theorem dX0_addPerson_35 : decode cX0_addPerson 35 = .ok (.aload_n 0, 1) := by decide +kernel
theorem dX0_addPerson_36 : decode cX0_addPerson 36 = .ok (.getfield 61, 3) := by decide +kernel
theorem dX0_addPerson_39 : decode cX0_addPerson 39 = .ok (.iload_n 3, 1) := by decide +kernel
theorem dX0_addPerson_40 : decode cX0_addPerson 40 = .ok (.iastore, 1) := by decide +kernel
theorem dX0_addPerson_41 : decode cX0_addPerson 41 = .ok (.aload_n 0, 1) := by decide +kernel
theorem dX0_addPerson_42 : decode cX0_addPerson 42 = .ok (.getfield 43, 3) := by decide +kernel
theorem dX0_addPerson_45 : decode cX0_addPerson 45 = .ok (.aload_n 0, 1) := by decide +kernel
theorem dX0_addPerson_46 : decode cX0_addPerson 46 = .ok (.getfield 61, 3) := by decide +kernel
theorem dX0_addPerson_49 : decode cX0_addPerson 49 = .ok (.iconst (-1), 1) := by decide +kernel
theorem dX0_addPerson_50 : decode cX0_addPerson 50 = .ok (.iastore, 1) := by decide +kernel
theorem dX0_addPerson_51 : decode cX0_addPerson 51 = .ok (.aload_n 0, 1) := by decide +kernel
theorem dX0_addPerson_52 : decode cX0_addPerson 52 = .ok (.dup, 1) := by decide +kernel
theorem dX0_addPerson_53 : decode cX0_addPerson 53 = .ok (.getfield 61, 3) := by decide +kernel
theorem dX0_addPerson_56 : decode cX0_addPerson 56 = .ok (.dup_x1, 1) := by decide +kernel
theorem dX0_addPerson_57 : decode cX0_addPerson 57 = .ok (.iconst 1, 1) := by decide +kernel
theorem dX0_addPerson_58 : decode cX0_addPerson 58 = .ok (.iadd, 1) := by decide +kernel
theorem dX0_addPerson_59 : decode cX0_addPerson 59 = .ok (.putfield 61, 3) := by decide +kernel
theorem dX0_addPerson_62 : decode cX0_addPerson 62 = .ok (.ireturn, 1) := by decide +kernel
theorem dX0_isEnded_0 : decode cX0_isEnded 0 = .ok (.aload_n 0, 1) := by decide +kernel
theorem dX0_isEnded_1 : decode cX0_isEnded 1 = .ok (.getfield 28, 3) := by decide +kernel
theorem dX0_isEnded_4 : decode cX0_isEnded 4 = .ok (.iload_n 1, 1) := by decide +kernel
theorem dX0_isEnded_5 : decode cX0_isEnded 5 = .ok (.iaload, 1) := by decide +kernel
theorem dX0_isEnded_6 : decode cX0_isEnded 6 = .ok (.ifCond .ne 7, 3) := by decide +kernel
theorem dX0_isEnded_9 : decode cX0_isEnded 9 = .ok (.iconst 1, 1) := by decide +kernel
theorem dX0_isEnded_10 : decode cX0_isEnded 10 = .ok (.goto 4, 3) := by decide +kernel
theorem dX0_isEnded_13 : decode cX0_isEnded 13 = .ok (.iconst 0, 1) := by decide +kernel
theorem dX0_isEnded_14 : decode cX0_isEnded 14 = .ok (.ireturn, 1) := by decide +kernel
theorem dX0_endedTasks_0 : decode cX0_endedTasks 0 = .ok (.iconst 0, 1) := by decide +kernel
theorem dX0_endedTasks_1 : decode cX0_endedTasks 1 = .ok (.istore_n 1, 1) := by decide +kernel
theorem dX0_endedTasks_2 : decode cX0_endedTasks 2 = .ok (.iconst 0, 1) := by decide +kernel
theorem dX0_endedTasks_3 : decode cX0_endedTasks 3 = .ok (.istore_n 2, 1) := by decide +kernel
theorem dX0_endedTasks_4 : decode cX0_endedTasks 4 = .ok (.iload_n 2, 1) := by decide +kernel
theorem dX0_endedTasks_5 : decode cX0_endedTasks 5 = .ok (.aload_n 0, 1) := by decide +kernel
theorem dX0_endedTasks_6 : decode cX0_endedTasks 6 = .ok (.getfield 58, 3) := by decide +kernel
theorem dX0_endedTasks_9 : decode cX0_endedTasks 9 = .ok (.if_icmp .ge 21, 3) := by decide +kernel
theorem dX0_endedTasks_12 : decode cX0_endedTasks 12 = .ok (.aload_n 0, 1) := by decide +kernel
theorem dX0_endedTasks_13 : decode cX0_endedTasks 13 = .ok (.getfield 28, 3) := by decide +kernel
theorem dX0_endedTasks_16 : decode cX0_endedTasks 16 = .ok (.iload_n 2, 1) := by decide +kernel
theorem dX0_endedTasks_17 : decode cX0_endedTasks 17 = .ok (.iaload, 1) := by decide +kernel
theorem dX0_endedTasks_18 : decode cX0_endedTasks 18 = .ok (.ifCond .ne 6, 3) := by decide +kernel
theorem dX0_endedTasks_21 : decode cX0_endedTasks 21 = .ok (.iinc 1 1, 3) := by decide +kernel
theorem dX0_endedTasks_24 : decode cX0_endedTasks 24 = .ok (.iinc 2 1, 3) := by decide +kernel
theorem dX0_endedTasks_27 : decode cX0_endedTasks 27 = .ok (.goto (-23), 3) := by decide +kernel
theorem dX0_endedTasks_30 : decode cX0_endedTasks 30 = .ok (.iload_n 1, 1) := by decide +kernel
theorem dX0_endedTasks_31 : decode cX0_endedTasks 31 = .ok (.ireturn, 1) := by decide +kernel
theorem dX0_hoursOfAll_0 : decode cX0_hoursOfAll 0 = .ok (.iconst 0, 1) := by decide +kernel
theorem dX0_hoursOfAll_1 : decode cX0_hoursOfAll 1 = .ok (.istore_n 1, 1) := by decide +kernel
theorem dX0_hoursOfAll_2 : decode cX0_hoursOfAll 2 = .ok (.iconst 0, 1) := by decide +kernel
theorem dX0_hoursOfAll_3 : decode cX0_hoursOfAll 3 = .ok (.istore_n 2, 1) := by decide +kernel
theorem dX0_hoursOfAll_4 : decode cX0_hoursOfAll 4 = .ok (.iload_n 2, 1) := by decide +kernel
theorem dX0_hoursOfAll_5 : decode cX0_hoursOfAll 5 = .ok (.aload_n 0, 1) := by decide +kernel
theorem dX0_hoursOfAll_6 : decode cX0_hoursOfAll 6 = .ok (.getfield 58, 3) := by decide +kernel
theorem dX0_hoursOfAll_9 : decode cX0_hoursOfAll 9 = .ok (.if_icmp .ge 18, 3) := by decide +kernel
theorem dX0_hoursOfAll_12 : decode cX0_hoursOfAll 12 = .ok (.iload_n 1, 1) := by decide +kernel
theorem dX0_hoursOfAll_13 : decode cX0_hoursOfAll 13 = .ok (.aload_n 0, 1) := by decide +kernel
theorem dX0_hoursOfAll_14 : decode cX0_hoursOfAll 14 = .ok (.getfield 28, 3) := by decide +kernel
theorem dX0_hoursOfAll_17 : decode cX0_hoursOfAll 17 = .ok (.iload_n 2, 1) := by decide +kernel
theorem dX0_hoursOfAll_18 : decode cX0_hoursOfAll 18 = .ok (.iaload, 1) := by decide +kernel
theorem dX0_hoursOfAll_19 : decode cX0_hoursOfAll 19 = .ok (.iadd, 1) := by decide +kernel
theorem dX0_hoursOfAll_20 : decode cX0_hoursOfAll 20 = .ok (.istore_n 1, 1) := by decide +kernel
theorem dX0_hoursOfAll_21 : decode cX0_hoursOfAll 21 = .ok (.iinc 2 1, 3) := by decide +kernel
theorem dX0_hoursOfAll_24 : decode cX0_hoursOfAll 24 = .ok (.goto (-20), 3) := by decide +kernel
theorem dX0_hoursOfAll_27 : decode cX0_hoursOfAll 27 = .ok (.iload_n 1, 1) := by decide +kernel
theorem dX0_hoursOfAll_28 : decode cX0_hoursOfAll 28 = .ok (.ireturn, 1) := by decide +kernel
theorem dX0_growthOf_0 : decode cX0_growthOf 0 = .ok (.aload_n 0, 1) := by decide +kernel
theorem dX0_growthOf_1 : decode cX0_growthOf 1 = .ok (.iload_n 1, 1) := by decide +kernel
theorem dX0_growthOf_2 : decode cX0_growthOf 2 = .ok (.invokevirtual 71, 3) := by decide +kernel
theorem dX0_growthOf_5 : decode cX0_growthOf 5 = .ok (.ifCond .eq 7, 3) := by decide +kernel
theorem dX0_growthOf_8 : decode cX0_growthOf 8 = .ok (.iconst 0, 1) := by decide +kernel
theorem dX0_growthOf_9 : decode cX0_growthOf 9 = .ok (.goto 22, 3) := by decide +kernel
theorem dX0_growthOf_12 : decode cX0_growthOf 12 = .ok (.aload_n 0, 1) := by decide +kernel
theorem dX0_growthOf_13 : decode cX0_growthOf 13 = .ok (.getfield 22, 3) := by decide +kernel
theorem dX0_growthOf_16 : decode cX0_growthOf 16 = .ok (.iload_n 1, 1) := by decide +kernel
theorem dX0_growthOf_17 : decode cX0_growthOf 17 = .ok (.iaload, 1) := by decide +kernel
theorem dX0_growthOf_18 : decode cX0_growthOf 18 = .ok (.aload_n 0, 1) := by decide +kernel
theorem dX0_growthOf_19 : decode cX0_growthOf 19 = .ok (.getfield 28, 3) := by decide +kernel
theorem dX0_growthOf_22 : decode cX0_growthOf 22 = .ok (.iload_n 1, 1) := by decide +kernel
theorem dX0_growthOf_23 : decode cX0_growthOf 23 = .ok (.iaload, 1) := by decide +kernel
theorem dX0_growthOf_24 : decode cX0_growthOf 24 = .ok (.aload_n 0, 1) := by decide +kernel
theorem dX0_growthOf_25 : decode cX0_growthOf 25 = .ok (.getfield 55, 3) := by decide +kernel
theorem dX0_growthOf_28 : decode cX0_growthOf 28 = .ok (.invokestatic 75, 3) := by decide +kernel
theorem dX0_growthOf_31 : decode cX0_growthOf 31 = .ok (.ireturn, 1) := by decide +kernel
theorem dX0_workOf_0 : decode cX0_workOf 0 = .ok (.aload_n 0, 1) := by decide +kernel
theorem dX0_workOf_1 : decode cX0_workOf 1 = .ok (.getfield 31, 3) := by decide +kernel
theorem dX0_workOf_4 : decode cX0_workOf 4 = .ok (.iload_n 1, 1) := by decide +kernel
theorem dX0_workOf_5 : decode cX0_workOf 5 = .ok (.iaload, 1) := by decide +kernel
theorem dX0_workOf_6 : decode cX0_workOf 6 = .ok (.istore_n 3, 1) := by decide +kernel
theorem dX0_workOf_7 : decode cX0_workOf 7 = .ok (.aload_n 0, 1) := by decide +kernel
theorem dX0_workOf_8 : decode cX0_workOf 8 = .ok (.getfield 22, 3) := by decide +kernel
theorem dX0_workOf_11 : decode cX0_workOf 11 = .ok (.iload_n 1, 1) := by decide +kernel
theorem dX0_workOf_12 : decode cX0_workOf 12 = .ok (.iaload, 1) := by decide +kernel
theorem dX0_workOf_13 : decode cX0_workOf 13 = .ok (.iconst 3, 1) := by decide +kernel
theorem dX0_workOf_14 : decode cX0_workOf 14 = .ok (.if_icmp .ne 22, 3) := by decide +kernel
theorem dX0_workOf_17 : decode cX0_workOf 17 = .ok (.iload_n 3, 1) := by decide +kernel
theorem dX0_workOf_18 : decode cX0_workOf 18 = .ok (.ifCond .lt 18, 3) := by decide +kernel
theorem dX0_workOf_21 : decode cX0_workOf 21 = .ok (.aload_n 0, 1) := by decide +kernel
theorem dX0_workOf_22 : decode cX0_workOf 22 = .ok (.aload_n 0, 1) := by decide +kernel
theorem dX0_workOf_23 : decode cX0_workOf 23 = .ok (.getfield 25, 3) := by decide +kernel
theorem dX0_workOf_26 : decode cX0_workOf 26 = .ok (.iload_n 3, 1) := by decide +kernel
theorem dX0_workOf_27 : decode cX0_workOf 27 = .ok (.iaload, 1) := by decide +kernel
theorem dX0_workOf_28 : decode cX0_workOf 28 = .ok (.invokevirtual 81, 3) := by decide +kernel
theorem dX0_workOf_31 : decode cX0_workOf 31 = .ok (.ifCond .ge 5, 3) := by decide +kernel
theorem dX0_workOf_34 : decode cX0_workOf 34 = .ok (.iconst 0, 1) := by decide +kernel
theorem dX0_workOf_35 : decode cX0_workOf 35 = .ok (.ireturn, 1) := by decide +kernel
theorem dX0_workOf_36 : decode cX0_workOf 36 = .ok (.aload_n 0, 1) := by decide +kernel
theorem dX0_workOf_37 : decode cX0_workOf 37 = .ok (.getfield 22, 3) := by decide +kernel
theorem dX0_workOf_40 : decode cX0_workOf 40 = .ok (.iload_n 1, 1) := by decide +kernel
theorem dX0_workOf_41 : decode cX0_workOf 41 = .ok (.iaload, 1) := by decide +kernel
theorem dX0_workOf_42 : decode cX0_workOf 42 = .ok (.iload_n 2, 1) := by decide +kernel
theorem dX0_workOf_43 : decode cX0_workOf 43 = .ok (.aload_n 0, 1) := by decide +kernel
theorem dX0_workOf_44 : decode cX0_workOf 44 = .ok (.getfield 55, 3) := by decide +kernel
theorem dX0_workOf_47 : decode cX0_workOf 47 = .ok (.invokestatic 85, 3) := by decide +kernel
theorem dX0_workOf_50 : decode cX0_workOf 50 = .ok (.ireturn, 1) := by decide +kernel
theorem dX0_isWaiting_0 : decode cX0_isWaiting 0 = .ok (.iload_n 1, 1) := by decide +kernel
theorem dX0_isWaiting_1 : decode cX0_isWaiting 1 = .ok (.istore_n 3, 1) := by decide +kernel
theorem dX0_isWaiting_2 : decode cX0_isWaiting 2 = .ok (.iconst 0, 1) := by decide +kernel
theorem dX0_isWaiting_3 : decode cX0_isWaiting 3 = .ok (.istore 4, 2) := by decide +kernel
theorem dX0_isWaiting_5 : decode cX0_isWaiting 5 = .ok (.iload 4, 2) := by decide +kernel
theorem dX0_isWaiting_7 : decode cX0_isWaiting 7 = .ok (.aload_n 0, 1) := by decide +kernel
theorem dX0_isWaiting_8 : decode cX0_isWaiting 8 = .ok (.getfield 58, 3) := by decide +kernel
theorem dX0_isWaiting_11 : decode cX0_isWaiting 11 = .ok (.if_icmp .ge 53, 3) := by decide +kernel
theorem dX0_isWaiting_14 : decode cX0_isWaiting 14 = .ok (.aload_n 0, 1) := by decide +kernel
theorem dX0_isWaiting_15 : decode cX0_isWaiting 15 = .ok (.iload_n 3, 1) := by decide +kernel
theorem dX0_isWaiting_16 : decode cX0_isWaiting 16 = .ok (.invokevirtual 88, 3) := by decide +kernel
theorem dX0_isWaiting_19 : decode cX0_isWaiting 19 = .ok (.ifCond .eq 45, 3) := by decide +kernel
theorem dX0_isWaiting_22 : decode cX0_isWaiting 22 = .ok (.aload_n 0, 1) := by decide +kernel
theorem dX0_isWaiting_23 : decode cX0_isWaiting 23 = .ok (.getfield 28, 3) := by decide +kernel
theorem dX0_isWaiting_26 : decode cX0_isWaiting 26 = .ok (.iload_n 3, 1) := by decide +kernel
theorem dX0_isWaiting_27 : decode cX0_isWaiting 27 = .ok (.iaload, 1) := by decide +kernel
theorem dX0_isWaiting_28 : decode cX0_isWaiting 28 = .ok (.ifCond .le 36, 3) := by decide +kernel
theorem dX0_isWaiting_31 : decode cX0_isWaiting 31 = .ok (.aload_n 0, 1) := by decide +kernel
theorem dX0_isWaiting_32 : decode cX0_isWaiting 32 = .ok (.getfield 31, 3) := by decide +kernel
theorem dX0_isWaiting_35 : decode cX0_isWaiting 35 = .ok (.iload_n 3, 1) := by decide +kernel
theorem dX0_isWaiting_36 : decode cX0_isWaiting 36 = .ok (.iaload, 1) := by decide +kernel
theorem dX0_isWaiting_37 : decode cX0_isWaiting 37 = .ok (.istore_n 3, 1) := by decide +kernel
theorem dX0_isWaiting_38 : decode cX0_isWaiting 38 = .ok (.iload_n 3, 1) := by decide +kernel
theorem dX0_isWaiting_39 : decode cX0_isWaiting 39 = .ok (.iload_n 2, 1) := by decide +kernel
theorem dX0_isWaiting_40 : decode cX0_isWaiting 40 = .ok (.if_icmp .ne 18, 3) := by decide +kernel
theorem dX0_isWaiting_43 : decode cX0_isWaiting 43 = .ok (.aload_n 0, 1) := by decide +kernel
theorem dX0_isWaiting_44 : decode cX0_isWaiting 44 = .ok (.getfield 28, 3) := by decide +kernel
theorem dX0_isWaiting_47 : decode cX0_isWaiting 47 = .ok (.iload_n 2, 1) := by decide +kernel
theorem dX0_isWaiting_48 : decode cX0_isWaiting 48 = .ok (.iaload, 1) := by decide +kernel
theorem dX0_isWaiting_49 : decode cX0_isWaiting 49 = .ok (.ifCond .le 7, 3) := by decide +kernel
theorem dX0_isWaiting_52 : decode cX0_isWaiting 52 = .ok (.iconst 1, 1) := by decide +kernel
theorem dX0_isWaiting_53 : decode cX0_isWaiting 53 = .ok (.goto 4, 3) := by decide +kernel
theorem dX0_isWaiting_56 : decode cX0_isWaiting 56 = .ok (.iconst 0, 1) := by decide +kernel
theorem dX0_isWaiting_57 : decode cX0_isWaiting 57 = .ok (.ireturn, 1) := by decide +kernel
theorem dX0_isWaiting_58 : decode cX0_isWaiting 58 = .ok (.iinc 4 1, 3) := by decide +kernel
theorem dX0_isWaiting_61 : decode cX0_isWaiting 61 = .ok (.goto (-56), 3) := by decide +kernel
theorem dX0_isWaiting_64 : decode cX0_isWaiting 64 = .ok (.iconst 0, 1) := by decide +kernel
theorem dX0_isWaiting_65 : decode cX0_isWaiting 65 = .ok (.ireturn, 1) := by decide +kernel
theorem dX0_openNames_0 : decode cX0_openNames 0 = .ok (.iconst 0, 1) := by decide +kernel
theorem dX0_openNames_1 : decode cX0_openNames 1 = .ok (.istore_n 1, 1) := by decide +kernel
theorem dX0_openNames_2 : decode cX0_openNames 2 = .ok (.iconst 0, 1) := by decide +kernel
theorem dX0_openNames_3 : decode cX0_openNames 3 = .ok (.istore_n 2, 1) := by decide +kernel
theorem dX0_openNames_4 : decode cX0_openNames 4 = .ok (.iload_n 2, 1) := by decide +kernel
theorem dX0_openNames_5 : decode cX0_openNames 5 = .ok (.aload_n 0, 1) := by decide +kernel
theorem dX0_openNames_6 : decode cX0_openNames 6 = .ok (.getfield 58, 3) := by decide +kernel
theorem dX0_openNames_9 : decode cX0_openNames 9 = .ok (.if_icmp .ge 29, 3) := by decide +kernel
theorem dX0_openNames_12 : decode cX0_openNames 12 = .ok (.aload_n 0, 1) := by decide +kernel
theorem dX0_openNames_13 : decode cX0_openNames 13 = .ok (.getfield 28, 3) := by decide +kernel
theorem dX0_openNames_16 : decode cX0_openNames 16 = .ok (.iload_n 2, 1) := by decide +kernel
theorem dX0_openNames_17 : decode cX0_openNames 17 = .ok (.iaload, 1) := by decide +kernel
theorem dX0_openNames_18 : decode cX0_openNames 18 = .ok (.ifCond .le 14, 3) := by decide +kernel
theorem dX0_openNames_21 : decode cX0_openNames 21 = .ok (.iload_n 1, 1) := by decide +kernel
theorem dX0_openNames_22 : decode cX0_openNames 22 = .ok (.iconst 1, 1) := by decide +kernel
theorem dX0_openNames_23 : decode cX0_openNames 23 = .ok (.aload_n 0, 1) := by decide +kernel
theorem dX0_openNames_24 : decode cX0_openNames 24 = .ok (.getfield 25, 3) := by decide +kernel
theorem dX0_openNames_27 : decode cX0_openNames 27 = .ok (.iload_n 2, 1) := by decide +kernel
theorem dX0_openNames_28 : decode cX0_openNames 28 = .ok (.iaload, 1) := by decide +kernel
theorem dX0_openNames_29 : decode cX0_openNames 29 = .ok (.ishl, 1) := by decide +kernel
theorem dX0_openNames_30 : decode cX0_openNames 30 = .ok (.ior, 1) := by decide +kernel
theorem dX0_openNames_31 : decode cX0_openNames 31 = .ok (.istore_n 1, 1) := by decide +kernel
theorem dX0_openNames_32 : decode cX0_openNames 32 = .ok (.iinc 2 1, 3) := by decide +kernel
theorem dX0_openNames_35 : decode cX0_openNames 35 = .ok (.goto (-31), 3) := by decide +kernel
theorem dX0_openNames_38 : decode cX0_openNames 38 = .ok (.iload_n 1, 1) := by decide +kernel
theorem dX0_openNames_39 : decode cX0_openNames 39 = .ok (.ireturn, 1) := by decide +kernel
theorem dX0_isOpen_0 : decode cX0_isOpen 0 = .ok (.aload_n 0, 1) := by decide +kernel
theorem dX0_isOpen_1 : decode cX0_isOpen 1 = .ok (.invokevirtual 91, 3) := by decide +kernel
theorem dX0_isOpen_4 : decode cX0_isOpen 4 = .ok (.iload_n 1, 1) := by decide +kernel
theorem dX0_isOpen_5 : decode cX0_isOpen 5 = .ok (.iushr, 1) := by decide +kernel
theorem dX0_isOpen_6 : decode cX0_isOpen 6 = .ok (.iconst 1, 1) := by decide +kernel
theorem dX0_isOpen_7 : decode cX0_isOpen 7 = .ok (.iand, 1) := by decide +kernel
theorem dX0_isOpen_8 : decode cX0_isOpen 8 = .ok (.iconst 1, 1) := by decide +kernel
theorem dX0_isOpen_9 : decode cX0_isOpen 9 = .ok (.if_icmp .ne 7, 3) := by decide +kernel
theorem dX0_isOpen_12 : decode cX0_isOpen 12 = .ok (.iconst 1, 1) := by decide +kernel
theorem dX0_isOpen_13 : decode cX0_isOpen 13 = .ok (.goto 4, 3) := by decide +kernel
theorem dX0_isOpen_16 : decode cX0_isOpen 16 = .ok (.iconst 0, 1) := by decide +kernel
theorem dX0_isOpen_17 : decode cX0_isOpen 17 = .ok (.ireturn, 1) := by decide +kernel
theorem dX0_freeNames_0 : decode cX0_freeNames 0 = .ok (.aload_n 0, 1) := by decide +kernel
theorem dX0_freeNames_1 : decode cX0_freeNames 1 = .ok (.invokevirtual 91, 3) := by decide +kernel
theorem dX0_freeNames_4 : decode cX0_freeNames 4 = .ok (.istore_n 1, 1) := by decide +kernel
theorem dX0_freeNames_5 : decode cX0_freeNames 5 = .ok (.iconst 0, 1) := by decide +kernel
theorem dX0_freeNames_6 : decode cX0_freeNames 6 = .ok (.istore_n 2, 1) := by decide +kernel
theorem dX0_freeNames_7 : decode cX0_freeNames 7 = .ok (.iload_n 2, 1) := by decide +kernel
theorem dX0_freeNames_8 : decode cX0_freeNames 8 = .ok (.aload_n 0, 1) := by decide +kernel
theorem dX0_freeNames_9 : decode cX0_freeNames 9 = .ok (.getfield 61, 3) := by decide +kernel
theorem dX0_freeNames_12 : decode cX0_freeNames 12 = .ok (.if_icmp .ge 31, 3) := by decide +kernel
theorem dX0_freeNames_15 : decode cX0_freeNames 15 = .ok (.aload_n 0, 1) := by decide +kernel
theorem dX0_freeNames_16 : decode cX0_freeNames 16 = .ok (.getfield 34, 3) := by decide +kernel
theorem dX0_freeNames_19 : decode cX0_freeNames 19 = .ok (.iload_n 2, 1) := by decide +kernel
theorem dX0_freeNames_20 : decode cX0_freeNames 20 = .ok (.iaload, 1) := by decide +kernel
theorem dX0_freeNames_21 : decode cX0_freeNames 21 = .ok (.ifCond .lt 16, 3) := by decide +kernel
theorem dX0_freeNames_24 : decode cX0_freeNames 24 = .ok (.iload_n 1, 1) := by decide +kernel
theorem dX0_freeNames_25 : decode cX0_freeNames 25 = .ok (.iconst 1, 1) := by decide +kernel
theorem dX0_freeNames_26 : decode cX0_freeNames 26 = .ok (.aload_n 0, 1) := by decide +kernel
theorem dX0_freeNames_27 : decode cX0_freeNames 27 = .ok (.getfield 34, 3) := by decide +kernel
theorem dX0_freeNames_30 : decode cX0_freeNames 30 = .ok (.iload_n 2, 1) := by decide +kernel
theorem dX0_freeNames_31 : decode cX0_freeNames 31 = .ok (.iaload, 1) := by decide +kernel
theorem dX0_freeNames_32 : decode cX0_freeNames 32 = .ok (.ishl, 1) := by decide +kernel
theorem dX0_freeNames_33 : decode cX0_freeNames 33 = .ok (.iconst (-1), 1) := by decide +kernel
theorem dX0_freeNames_34 : decode cX0_freeNames 34 = .ok (.ixor, 1) := by decide +kernel
theorem dX0_freeNames_35 : decode cX0_freeNames 35 = .ok (.iand, 1) := by decide +kernel
theorem dX0_freeNames_36 : decode cX0_freeNames 36 = .ok (.istore_n 1, 1) := by decide +kernel
theorem dX0_freeNames_37 : decode cX0_freeNames 37 = .ok (.iinc 2 1, 3) := by decide +kernel
theorem dX0_freeNames_40 : decode cX0_freeNames 40 = .ok (.goto (-33), 3) := by decide +kernel
theorem dX0_freeNames_43 : decode cX0_freeNames 43 = .ok (.iload_n 1, 1) := by decide +kernel
theorem dX0_freeNames_44 : decode cX0_freeNames 44 = .ok (.ireturn, 1) := by decide +kernel
theorem dX0_bearerOf_0 : decode cX0_bearerOf 0 = .ok (.iconst 0, 1) := by decide +kernel
theorem dX0_bearerOf_1 : decode cX0_bearerOf 1 = .ok (.istore_n 2, 1) := by decide +kernel
theorem dX0_bearerOf_2 : decode cX0_bearerOf 2 = .ok (.iload_n 2, 1) := by decide +kernel
theorem dX0_bearerOf_3 : decode cX0_bearerOf 3 = .ok (.aload_n 0, 1) := by decide +kernel
theorem dX0_bearerOf_4 : decode cX0_bearerOf 4 = .ok (.getfield 61, 3) := by decide +kernel
theorem dX0_bearerOf_7 : decode cX0_bearerOf 7 = .ok (.if_icmp .ge 21, 3) := by decide +kernel
theorem dX0_bearerOf_10 : decode cX0_bearerOf 10 = .ok (.aload_n 0, 1) := by decide +kernel
theorem dX0_bearerOf_11 : decode cX0_bearerOf 11 = .ok (.getfield 34, 3) := by decide +kernel
theorem dX0_bearerOf_14 : decode cX0_bearerOf 14 = .ok (.iload_n 2, 1) := by decide +kernel
theorem dX0_bearerOf_15 : decode cX0_bearerOf 15 = .ok (.iaload, 1) := by decide +kernel
theorem dX0_bearerOf_16 : decode cX0_bearerOf 16 = .ok (.iload_n 1, 1) := by decide +kernel
theorem dX0_bearerOf_17 : decode cX0_bearerOf 17 = .ok (.if_icmp .ne 5, 3) := by decide +kernel
theorem dX0_bearerOf_20 : decode cX0_bearerOf 20 = .ok (.iload_n 2, 1) := by decide +kernel
theorem dX0_bearerOf_21 : decode cX0_bearerOf 21 = .ok (.ireturn, 1) := by decide +kernel
theorem dX0_bearerOf_22 : decode cX0_bearerOf 22 = .ok (.iinc 2 1, 3) := by decide +kernel
theorem dX0_bearerOf_25 : decode cX0_bearerOf 25 = .ok (.goto (-23), 3) := by decide +kernel
theorem dX0_bearerOf_28 : decode cX0_bearerOf 28 = .ok (.iconst (-1), 1) := by decide +kernel
theorem dX0_bearerOf_29 : decode cX0_bearerOf 29 = .ok (.ireturn, 1) := by decide +kernel
theorem dX0_mayTake_0 : decode cX0_mayTake 0 = .ok (.iload_n 2, 1) := by decide +kernel
theorem dX0_mayTake_1 : decode cX0_mayTake 1 = .ok (.iconst (-1), 1) := by decide +kernel
theorem dX0_mayTake_2 : decode cX0_mayTake 2 = .ok (.if_icmp .ne 5, 3) := by decide +kernel
theorem dX0_mayTake_5 : decode cX0_mayTake 5 = .ok (.iconst 1, 1) := by decide +kernel
theorem dX0_mayTake_6 : decode cX0_mayTake 6 = .ok (.ireturn, 1) := by decide +kernel
theorem dX0_mayTake_7 : decode cX0_mayTake 7 = .ok (.aload_n 0, 1) := by decide +kernel
theorem dX0_mayTake_8 : decode cX0_mayTake 8 = .ok (.iload_n 2, 1) := by decide +kernel
theorem dX0_mayTake_9 : decode cX0_mayTake 9 = .ok (.invokevirtual 81, 3) := by decide +kernel
theorem dX0_mayTake_12 : decode cX0_mayTake 12 = .ok (.istore_n 3, 1) := by decide +kernel
theorem dX0_mayTake_13 : decode cX0_mayTake 13 = .ok (.aload_n 0, 1) := by decide +kernel
theorem dX0_mayTake_14 : decode cX0_mayTake 14 = .ok (.getfield 37, 3) := by decide +kernel
theorem dX0_mayTake_17 : decode cX0_mayTake 17 = .ok (.iload_n 1, 1) := by decide +kernel
theorem dX0_mayTake_18 : decode cX0_mayTake 18 = .ok (.iaload, 1) := by decide +kernel
theorem dX0_mayTake_19 : decode cX0_mayTake 19 = .ok (.bipush 40, 2) := by decide +kernel
theorem dX0_mayTake_21 : decode cX0_mayTake 21 = .ok (.if_icmp .ge 16, 3) := by decide +kernel
theorem dX0_mayTake_24 : decode cX0_mayTake 24 = .ok (.iload_n 3, 1) := by decide +kernel
theorem dX0_mayTake_25 : decode cX0_mayTake 25 = .ok (.ifCond .lt 8, 3) := by decide +kernel
theorem dX0_mayTake_28 : decode cX0_mayTake 28 = .ok (.iload_n 3, 1) := by decide +kernel
theorem dX0_mayTake_29 : decode cX0_mayTake 29 = .ok (.iload_n 1, 1) := by decide +kernel
theorem dX0_mayTake_30 : decode cX0_mayTake 30 = .ok (.if_icmp .ne 7, 3) := by decide +kernel
theorem dX0_mayTake_33 : decode cX0_mayTake 33 = .ok (.iconst 1, 1) := by decide +kernel
theorem dX0_mayTake_34 : decode cX0_mayTake 34 = .ok (.goto 4, 3) := by decide +kernel
theorem dX0_mayTake_37 : decode cX0_mayTake 37 = .ok (.iconst 0, 1) := by decide +kernel
theorem dX0_mayTake_38 : decode cX0_mayTake 38 = .ok (.ireturn, 1) := by decide +kernel
theorem dX0_tasksOf_0 : decode cX0_tasksOf 0 = .ok (.iconst 0, 1) := by decide +kernel
theorem dX0_tasksOf_1 : decode cX0_tasksOf 1 = .ok (.istore_n 2, 1) := by decide +kernel
theorem dX0_tasksOf_2 : decode cX0_tasksOf 2 = .ok (.iconst 0, 1) := by decide +kernel
theorem dX0_tasksOf_3 : decode cX0_tasksOf 3 = .ok (.istore_n 3, 1) := by decide +kernel
theorem dX0_tasksOf_4 : decode cX0_tasksOf 4 = .ok (.iload_n 3, 1) := by decide +kernel
theorem dX0_tasksOf_5 : decode cX0_tasksOf 5 = .ok (.aload_n 0, 1) := by decide +kernel
theorem dX0_tasksOf_6 : decode cX0_tasksOf 6 = .ok (.getfield 58, 3) := by decide +kernel
theorem dX0_tasksOf_9 : decode cX0_tasksOf 9 = .ok (.if_icmp .ge 22, 3) := by decide +kernel
theorem dX0_tasksOf_12 : decode cX0_tasksOf 12 = .ok (.aload_n 0, 1) := by decide +kernel
theorem dX0_tasksOf_13 : decode cX0_tasksOf 13 = .ok (.getfield 25, 3) := by decide +kernel
theorem dX0_tasksOf_16 : decode cX0_tasksOf 16 = .ok (.iload_n 3, 1) := by decide +kernel
theorem dX0_tasksOf_17 : decode cX0_tasksOf 17 = .ok (.iaload, 1) := by decide +kernel
theorem dX0_tasksOf_18 : decode cX0_tasksOf 18 = .ok (.iload_n 1, 1) := by decide +kernel
theorem dX0_tasksOf_19 : decode cX0_tasksOf 19 = .ok (.if_icmp .ne 6, 3) := by decide +kernel
theorem dX0_tasksOf_22 : decode cX0_tasksOf 22 = .ok (.iinc 2 1, 3) := by decide +kernel
theorem dX0_tasksOf_25 : decode cX0_tasksOf 25 = .ok (.iinc 3 1, 3) := by decide +kernel
theorem dX0_tasksOf_28 : decode cX0_tasksOf 28 = .ok (.goto (-24), 3) := by decide +kernel
theorem dX0_tasksOf_31 : decode cX0_tasksOf 31 = .ok (.iload_n 2, 1) := by decide +kernel
theorem dX0_tasksOf_32 : decode cX0_tasksOf 32 = .ok (.ireturn, 1) := by decide +kernel
theorem dX0_hoursOf_0 : decode cX0_hoursOf 0 = .ok (.iconst 0, 1) := by decide +kernel
theorem dX0_hoursOf_1 : decode cX0_hoursOf 1 = .ok (.istore_n 2, 1) := by decide +kernel
theorem dX0_hoursOf_2 : decode cX0_hoursOf 2 = .ok (.iconst 0, 1) := by decide +kernel
theorem dX0_hoursOf_3 : decode cX0_hoursOf 3 = .ok (.istore_n 3, 1) := by decide +kernel
theorem dX0_hoursOf_4 : decode cX0_hoursOf 4 = .ok (.iload_n 3, 1) := by decide +kernel
theorem dX0_hoursOf_5 : decode cX0_hoursOf 5 = .ok (.aload_n 0, 1) := by decide +kernel
theorem dX0_hoursOf_6 : decode cX0_hoursOf 6 = .ok (.getfield 58, 3) := by decide +kernel
theorem dX0_hoursOf_9 : decode cX0_hoursOf 9 = .ok (.if_icmp .ge 28, 3) := by decide +kernel
theorem dX0_hoursOf_12 : decode cX0_hoursOf 12 = .ok (.aload_n 0, 1) := by decide +kernel
theorem dX0_hoursOf_13 : decode cX0_hoursOf 13 = .ok (.getfield 25, 3) := by decide +kernel
theorem dX0_hoursOf_16 : decode cX0_hoursOf 16 = .ok (.iload_n 3, 1) := by decide +kernel
theorem dX0_hoursOf_17 : decode cX0_hoursOf 17 = .ok (.iaload, 1) := by decide +kernel
theorem dX0_hoursOf_18 : decode cX0_hoursOf 18 = .ok (.iload_n 1, 1) := by decide +kernel
theorem dX0_hoursOf_19 : decode cX0_hoursOf 19 = .ok (.if_icmp .ne 12, 3) := by decide +kernel
theorem dX0_hoursOf_22 : decode cX0_hoursOf 22 = .ok (.iload_n 2, 1) := by decide +kernel
theorem dX0_hoursOf_23 : decode cX0_hoursOf 23 = .ok (.aload_n 0, 1) := by decide +kernel
theorem dX0_hoursOf_24 : decode cX0_hoursOf 24 = .ok (.getfield 28, 3) := by decide +kernel
theorem dX0_hoursOf_27 : decode cX0_hoursOf 27 = .ok (.iload_n 3, 1) := by decide +kernel
theorem dX0_hoursOf_28 : decode cX0_hoursOf 28 = .ok (.iaload, 1) := by decide +kernel
theorem dX0_hoursOf_29 : decode cX0_hoursOf 29 = .ok (.iadd, 1) := by decide +kernel
theorem dX0_hoursOf_30 : decode cX0_hoursOf 30 = .ok (.istore_n 2, 1) := by decide +kernel
theorem dX0_hoursOf_31 : decode cX0_hoursOf 31 = .ok (.iinc 3 1, 3) := by decide +kernel
theorem dX0_hoursOf_34 : decode cX0_hoursOf 34 = .ok (.goto (-30), 3) := by decide +kernel
theorem dX0_hoursOf_37 : decode cX0_hoursOf 37 = .ok (.iload_n 2, 1) := by decide +kernel
theorem dX0_hoursOf_38 : decode cX0_hoursOf 38 = .ok (.ireturn, 1) := by decide +kernel
theorem dX0_mostWork_0 : decode cX0_mostWork 0 = .ok (.aload_n 0, 1) := by decide +kernel
theorem dX0_mostWork_1 : decode cX0_mostWork 1 = .ok (.getfield 37, 3) := by decide +kernel
theorem dX0_mostWork_4 : decode cX0_mostWork 4 = .ok (.iload_n 1, 1) := by decide +kernel
theorem dX0_mostWork_5 : decode cX0_mostWork 5 = .ok (.iaload, 1) := by decide +kernel
theorem dX0_mostWork_6 : decode cX0_mostWork 6 = .ok (.iload_n 3, 1) := by decide +kernel
theorem dX0_mostWork_7 : decode cX0_mostWork 7 = .ok (.iadd, 1) := by decide +kernel
theorem dX0_mostWork_8 : decode cX0_mostWork 8 = .ok (.bipush 40, 2) := by decide +kernel
theorem dX0_mostWork_10 : decode cX0_mostWork 10 = .ok (.invokestatic 95, 3) := by decide +kernel
theorem dX0_mostWork_13 : decode cX0_mostWork 13 = .ok (.istore 4, 2) := by decide +kernel
theorem dX0_mostWork_15 : decode cX0_mostWork 15 = .ok (.iconst 0, 1) := by decide +kernel
theorem dX0_mostWork_16 : decode cX0_mostWork 16 = .ok (.iload 4, 2) := by decide +kernel
theorem dX0_mostWork_18 : decode cX0_mostWork 18 = .ok (.aload_n 0, 1) := by decide +kernel
theorem dX0_mostWork_19 : decode cX0_mostWork 19 = .ok (.getfield 37, 3) := by decide +kernel
theorem dX0_mostWork_22 : decode cX0_mostWork 22 = .ok (.iload_n 1, 1) := by decide +kernel
theorem dX0_mostWork_23 : decode cX0_mostWork 23 = .ok (.iaload, 1) := by decide +kernel
theorem dX0_mostWork_24 : decode cX0_mostWork 24 = .ok (.bipush 7, 2) := by decide +kernel
theorem dX0_mostWork_26 : decode cX0_mostWork 26 = .ok (.invokestatic 101, 3) := by decide +kernel
theorem dX0_mostWork_29 : decode cX0_mostWork 29 = .ok (.isub, 1) := by decide +kernel
theorem dX0_mostWork_30 : decode cX0_mostWork 30 = .ok (.invokestatic 101, 3) := by decide +kernel
theorem dX0_mostWork_33 : decode cX0_mostWork 33 = .ok (.aload_n 0, 1) := by decide +kernel
theorem dX0_mostWork_34 : decode cX0_mostWork 34 = .ok (.iload_n 2, 1) := by decide +kernel
theorem dX0_mostWork_35 : decode cX0_mostWork 35 = .ok (.aload_n 0, 1) := by decide +kernel
theorem dX0_mostWork_36 : decode cX0_mostWork 36 = .ok (.getfield 40, 3) := by decide +kernel
theorem dX0_mostWork_39 : decode cX0_mostWork 39 = .ok (.iload_n 1, 1) := by decide +kernel
theorem dX0_mostWork_40 : decode cX0_mostWork 40 = .ok (.iaload, 1) := by decide +kernel
theorem dX0_mostWork_41 : decode cX0_mostWork 41 = .ok (.invokevirtual 104, 3) := by decide +kernel
theorem dX0_mostWork_44 : decode cX0_mostWork 44 = .ok (.imul, 1) := by decide +kernel
theorem dX0_mostWork_45 : decode cX0_mostWork 45 = .ok (.istore 5, 2) := by decide +kernel
theorem dX0_mostWork_47 : decode cX0_mostWork 47 = .ok (.iconst 0, 1) := by decide +kernel
theorem dX0_mostWork_48 : decode cX0_mostWork 48 = .ok (.istore 6, 2) := by decide +kernel
theorem dX0_mostWork_50 : decode cX0_mostWork 50 = .ok (.iload 6, 2) := by decide +kernel
theorem dX0_mostWork_52 : decode cX0_mostWork 52 = .ok (.aload_n 0, 1) := by decide +kernel
theorem dX0_mostWork_53 : decode cX0_mostWork 53 = .ok (.getfield 61, 3) := by decide +kernel
theorem dX0_mostWork_56 : decode cX0_mostWork 56 = .ok (.if_icmp .ge 49, 3) := by decide +kernel
theorem dX0_mostWork_59 : decode cX0_mostWork 59 = .ok (.aload_n 0, 1) := by decide +kernel
theorem dX0_mostWork_60 : decode cX0_mostWork 60 = .ok (.getfield 43, 3) := by decide +kernel
theorem dX0_mostWork_63 : decode cX0_mostWork 63 = .ok (.iload 6, 2) := by decide +kernel
theorem dX0_mostWork_65 : decode cX0_mostWork 65 = .ok (.iaload, 1) := by decide +kernel
theorem dX0_mostWork_66 : decode cX0_mostWork 66 = .ok (.iload_n 1, 1) := by decide +kernel
theorem dX0_mostWork_67 : decode cX0_mostWork 67 = .ok (.if_icmp .ne 32, 3) := by decide +kernel
theorem dX0_mostWork_70 : decode cX0_mostWork 70 = .ok (.iload 5, 2) := by decide +kernel
theorem dX0_mostWork_72 : decode cX0_mostWork 72 = .ok (.iload 4, 2) := by decide +kernel
theorem dX0_mostWork_74 : decode cX0_mostWork 74 = .ok (.aload_n 0, 1) := by decide +kernel
theorem dX0_mostWork_75 : decode cX0_mostWork 75 = .ok (.getfield 37, 3) := by decide +kernel
theorem dX0_mostWork_78 : decode cX0_mostWork 78 = .ok (.iload_n 1, 1) := by decide +kernel
theorem dX0_mostWork_79 : decode cX0_mostWork 79 = .ok (.iaload, 1) := by decide +kernel
theorem dX0_mostWork_80 : decode cX0_mostWork 80 = .ok (.isub, 1) := by decide +kernel
theorem dX0_mostWork_81 : decode cX0_mostWork 81 = .ok (.aload_n 0, 1) := by decide +kernel
theorem dX0_mostWork_82 : decode cX0_mostWork 82 = .ok (.iload_n 2, 1) := by decide +kernel
theorem dX0_mostWork_83 : decode cX0_mostWork 83 = .ok (.aload_n 0, 1) := by decide +kernel
theorem dX0_mostWork_84 : decode cX0_mostWork 84 = .ok (.getfield 40, 3) := by decide +kernel
theorem dX0_mostWork_87 : decode cX0_mostWork 87 = .ok (.iload 6, 2) := by decide +kernel
theorem dX0_mostWork_89 : decode cX0_mostWork 89 = .ok (.iaload, 1) := by decide +kernel
theorem dX0_mostWork_90 : decode cX0_mostWork 90 = .ok (.iconst 2, 1) := by decide +kernel
theorem dX0_mostWork_91 : decode cX0_mostWork 91 = .ok (.idiv, 1) := by decide +kernel
theorem dX0_mostWork_92 : decode cX0_mostWork 92 = .ok (.invokevirtual 104, 3) := by decide +kernel
theorem dX0_mostWork_95 : decode cX0_mostWork 95 = .ok (.imul, 1) := by decide +kernel
theorem dX0_mostWork_96 : decode cX0_mostWork 96 = .ok (.iadd, 1) := by decide +kernel
theorem dX0_mostWork_97 : decode cX0_mostWork 97 = .ok (.istore 5, 2) := by decide +kernel
theorem dX0_mostWork_99 : decode cX0_mostWork 99 = .ok (.iinc 6 1, 3) := by decide +kernel
theorem dX0_mostWork_102 : decode cX0_mostWork 102 = .ok (.goto (-52), 3) := by decide +kernel
theorem dX0_mostWork_105 : decode cX0_mostWork 105 = .ok (.iload 5, 2) := by decide +kernel
theorem dX0_mostWork_107 : decode cX0_mostWork 107 = .ok (.ireturn, 1) := by decide +kernel
theorem dX0_mostWorkOf_0 : decode cX0_mostWorkOf 0 = .ok (.iconst 0, 1) := by decide +kernel
theorem dX0_mostWorkOf_1 : decode cX0_mostWorkOf 1 = .ok (.istore_n 3, 1) := by decide +kernel
theorem dX0_mostWorkOf_2 : decode cX0_mostWorkOf 2 = .ok (.iload_n 3, 1) := by decide +kernel
theorem dX0_mostWorkOf_3 : decode cX0_mostWorkOf 3 = .ok (.aload_n 0, 1) := by decide +kernel
theorem dX0_mostWorkOf_4 : decode cX0_mostWorkOf 4 = .ok (.getfield 58, 3) := by decide +kernel
theorem dX0_mostWorkOf_7 : decode cX0_mostWorkOf 7 = .ok (.if_icmp .ge 51, 3) := by decide +kernel
theorem dX0_mostWorkOf_10 : decode cX0_mostWorkOf 10 = .ok (.aload_n 0, 1) := by decide +kernel
theorem dX0_mostWorkOf_11 : decode cX0_mostWorkOf 11 = .ok (.getfield 25, 3) := by decide +kernel
theorem dX0_mostWorkOf_14 : decode cX0_mostWorkOf 14 = .ok (.iload_n 3, 1) := by decide +kernel
theorem dX0_mostWorkOf_15 : decode cX0_mostWorkOf 15 = .ok (.iaload, 1) := by decide +kernel
theorem dX0_mostWorkOf_16 : decode cX0_mostWorkOf 16 = .ok (.iload_n 1, 1) := by decide +kernel
theorem dX0_mostWorkOf_17 : decode cX0_mostWorkOf 17 = .ok (.if_icmp .ne 35, 3) := by decide +kernel
theorem dX0_mostWorkOf_20 : decode cX0_mostWorkOf 20 = .ok (.aload_n 0, 1) := by decide +kernel
theorem dX0_mostWorkOf_21 : decode cX0_mostWorkOf 21 = .ok (.getfield 28, 3) := by decide +kernel
theorem dX0_mostWorkOf_24 : decode cX0_mostWorkOf 24 = .ok (.iload_n 3, 1) := by decide +kernel
theorem dX0_mostWorkOf_25 : decode cX0_mostWorkOf 25 = .ok (.iaload, 1) := by decide +kernel
theorem dX0_mostWorkOf_26 : decode cX0_mostWorkOf 26 = .ok (.ifCond .le 26, 3) := by decide +kernel
theorem dX0_mostWorkOf_29 : decode cX0_mostWorkOf 29 = .ok (.aload_n 0, 1) := by decide +kernel
theorem dX0_mostWorkOf_30 : decode cX0_mostWorkOf 30 = .ok (.getfield 22, 3) := by decide +kernel
theorem dX0_mostWorkOf_33 : decode cX0_mostWorkOf 33 = .ok (.iload_n 3, 1) := by decide +kernel
theorem dX0_mostWorkOf_34 : decode cX0_mostWorkOf 34 = .ok (.iaload, 1) := by decide +kernel
theorem dX0_mostWorkOf_35 : decode cX0_mostWorkOf 35 = .ok (.iconst 4, 1) := by decide +kernel
theorem dX0_mostWorkOf_36 : decode cX0_mostWorkOf 36 = .ok (.invokestatic 107, 3) := by decide +kernel
theorem dX0_mostWorkOf_39 : decode cX0_mostWorkOf 39 = .ok (.ifCond .eq 13, 3) := by decide +kernel
theorem dX0_mostWorkOf_42 : decode cX0_mostWorkOf 42 = .ok (.iconst 5, 1) := by decide +kernel
theorem dX0_mostWorkOf_43 : decode cX0_mostWorkOf 43 = .ok (.iload_n 2, 1) := by decide +kernel
theorem dX0_mostWorkOf_44 : decode cX0_mostWorkOf 44 = .ok (.aload_n 0, 1) := by decide +kernel
theorem dX0_mostWorkOf_45 : decode cX0_mostWorkOf 45 = .ok (.getfield 55, 3) := by decide +kernel
theorem dX0_mostWorkOf_48 : decode cX0_mostWorkOf 48 = .ok (.invokestatic 85, 3) := by decide +kernel
theorem dX0_mostWorkOf_51 : decode cX0_mostWorkOf 51 = .ok (.ireturn, 1) := by decide +kernel
theorem dX0_mostWorkOf_52 : decode cX0_mostWorkOf 52 = .ok (.iinc 3 1, 3) := by decide +kernel
theorem dX0_mostWorkOf_55 : decode cX0_mostWorkOf 55 = .ok (.goto (-53), 3) := by decide +kernel
theorem dX0_mostWorkOf_58 : decode cX0_mostWorkOf 58 = .ok (.iload_n 2, 1) := by decide +kernel
theorem dX0_mostWorkOf_59 : decode cX0_mostWorkOf 59 = .ok (.ireturn, 1) := by decide +kernel
theorem dX0_isAtHand_0 : decode cX0_isAtHand 0 = .ok (.aload_n 0, 1) := by decide +kernel
theorem dX0_isAtHand_1 : decode cX0_isAtHand 1 = .ok (.getfield 28, 3) := by decide +kernel
theorem dX0_isAtHand_4 : decode cX0_isAtHand 4 = .ok (.iload_n 1, 1) := by decide +kernel
theorem dX0_isAtHand_5 : decode cX0_isAtHand 5 = .ok (.iaload, 1) := by decide +kernel
theorem dX0_isAtHand_6 : decode cX0_isAtHand 6 = .ok (.ifCond .le 30, 3) := by decide +kernel
theorem dX0_isAtHand_9 : decode cX0_isAtHand 9 = .ok (.aload_n 0, 1) := by decide +kernel
theorem dX0_isAtHand_10 : decode cX0_isAtHand 10 = .ok (.getfield 31, 3) := by decide +kernel
theorem dX0_isAtHand_13 : decode cX0_isAtHand 13 = .ok (.iload_n 1, 1) := by decide +kernel
theorem dX0_isAtHand_14 : decode cX0_isAtHand 14 = .ok (.iaload, 1) := by decide +kernel
theorem dX0_isAtHand_15 : decode cX0_isAtHand 15 = .ok (.ifCond .lt 17, 3) := by decide +kernel
theorem dX0_isAtHand_18 : decode cX0_isAtHand 18 = .ok (.aload_n 0, 1) := by decide +kernel
theorem dX0_isAtHand_19 : decode cX0_isAtHand 19 = .ok (.getfield 28, 3) := by decide +kernel
theorem dX0_isAtHand_22 : decode cX0_isAtHand 22 = .ok (.aload_n 0, 1) := by decide +kernel
theorem dX0_isAtHand_23 : decode cX0_isAtHand 23 = .ok (.getfield 31, 3) := by decide +kernel
theorem dX0_isAtHand_26 : decode cX0_isAtHand 26 = .ok (.iload_n 1, 1) := by decide +kernel
theorem dX0_isAtHand_27 : decode cX0_isAtHand 27 = .ok (.iaload, 1) := by decide +kernel
theorem dX0_isAtHand_28 : decode cX0_isAtHand 28 = .ok (.iaload, 1) := by decide +kernel
theorem dX0_isAtHand_29 : decode cX0_isAtHand 29 = .ok (.ifCond .ne 7, 3) := by decide +kernel
theorem dX0_isAtHand_32 : decode cX0_isAtHand 32 = .ok (.iconst 1, 1) := by decide +kernel
theorem dX0_isAtHand_33 : decode cX0_isAtHand 33 = .ok (.goto 4, 3) := by decide +kernel
theorem dX0_isAtHand_36 : decode cX0_isAtHand 36 = .ok (.iconst 0, 1) := by decide +kernel
theorem dX0_isAtHand_37 : decode cX0_isAtHand 37 = .ok (.ireturn, 1) := by decide +kernel
theorem dX0_handOf_0 : decode cX0_handOf 0 = .ok (.iconst 0, 1) := by decide +kernel
theorem dX0_handOf_1 : decode cX0_handOf 1 = .ok (.istore_n 2, 1) := by decide +kernel
theorem dX0_handOf_2 : decode cX0_handOf 2 = .ok (.iload_n 2, 1) := by decide +kernel
theorem dX0_handOf_3 : decode cX0_handOf 3 = .ok (.aload_n 0, 1) := by decide +kernel
theorem dX0_handOf_4 : decode cX0_handOf 4 = .ok (.getfield 58, 3) := by decide +kernel
theorem dX0_handOf_7 : decode cX0_handOf 7 = .ok (.if_icmp .ge 29, 3) := by decide +kernel
theorem dX0_handOf_10 : decode cX0_handOf 10 = .ok (.aload_n 0, 1) := by decide +kernel
theorem dX0_handOf_11 : decode cX0_handOf 11 = .ok (.getfield 25, 3) := by decide +kernel
theorem dX0_handOf_14 : decode cX0_handOf 14 = .ok (.iload_n 2, 1) := by decide +kernel
theorem dX0_handOf_15 : decode cX0_handOf 15 = .ok (.iaload, 1) := by decide +kernel
theorem dX0_handOf_16 : decode cX0_handOf 16 = .ok (.iload_n 1, 1) := by decide +kernel
theorem dX0_handOf_17 : decode cX0_handOf 17 = .ok (.if_icmp .ne 13, 3) := by decide +kernel
theorem dX0_handOf_20 : decode cX0_handOf 20 = .ok (.aload_n 0, 1) := by decide +kernel
theorem dX0_handOf_21 : decode cX0_handOf 21 = .ok (.iload_n 2, 1) := by decide +kernel
theorem dX0_handOf_22 : decode cX0_handOf 22 = .ok (.invokevirtual 111, 3) := by decide +kernel
theorem dX0_handOf_25 : decode cX0_handOf 25 = .ok (.ifCond .eq 5, 3) := by decide +kernel
theorem dX0_handOf_28 : decode cX0_handOf 28 = .ok (.iload_n 2, 1) := by decide +kernel
theorem dX0_handOf_29 : decode cX0_handOf 29 = .ok (.ireturn, 1) := by decide +kernel
theorem dX0_handOf_30 : decode cX0_handOf 30 = .ok (.iinc 2 1, 3) := by decide +kernel
theorem dX0_handOf_33 : decode cX0_handOf 33 = .ok (.goto (-31), 3) := by decide +kernel
theorem dX0_handOf_36 : decode cX0_handOf 36 = .ok (.iconst (-1), 1) := by decide +kernel
theorem dX0_handOf_37 : decode cX0_handOf 37 = .ok (.ireturn, 1) := by decide +kernel
theorem dX0_findHands_0 : decode cX0_findHands 0 = .ok (.aload_n 1, 1) := by decide +kernel
theorem dX0_findHands_1 : decode cX0_findHands 1 = .ok (.iconst (-1), 1) := by decide +kernel
theorem dX0_findHands_2 : decode cX0_findHands 2 = .ok (.invokestatic 49, 3) := by decide +kernel
theorem dX0_findHands_5 : decode cX0_findHands 5 = .ok (.aload_n 0, 1) := by decide +kernel
theorem dX0_findHands_6 : decode cX0_findHands 6 = .ok (.getfield 58, 3) := by decide +kernel
theorem dX0_findHands_9 : decode cX0_findHands 9 = .ok (.iconst 1, 1) := by decide +kernel
theorem dX0_findHands_10 : decode cX0_findHands 10 = .ok (.isub, 1) := by decide +kernel
theorem dX0_findHands_11 : decode cX0_findHands 11 = .ok (.istore_n 2, 1) := by decide +kernel
theorem dX0_findHands_12 : decode cX0_findHands 12 = .ok (.iload_n 2, 1) := by decide +kernel
theorem dX0_findHands_13 : decode cX0_findHands 13 = .ok (.ifCond .lt 26, 3) := by decide +kernel
theorem dX0_findHands_16 : decode cX0_findHands 16 = .ok (.aload_n 0, 1) := by decide +kernel
theorem dX0_findHands_17 : decode cX0_findHands 17 = .ok (.iload_n 2, 1) := by decide +kernel
theorem dX0_findHands_18 : decode cX0_findHands 18 = .ok (.invokevirtual 111, 3) := by decide +kernel
theorem dX0_findHands_21 : decode cX0_findHands 21 = .ok (.ifCond .eq 12, 3) := by decide +kernel
theorem dX0_findHands_24 : decode cX0_findHands 24 = .ok (.aload_n 1, 1) := by decide +kernel
theorem dX0_findHands_25 : decode cX0_findHands 25 = .ok (.aload_n 0, 1) := by decide +kernel
theorem dX0_findHands_26 : decode cX0_findHands 26 = .ok (.getfield 25, 3) := by decide +kernel
theorem dX0_findHands_29 : decode cX0_findHands 29 = .ok (.iload_n 2, 1) := by decide +kernel
theorem dX0_findHands_30 : decode cX0_findHands 30 = .ok (.iaload, 1) := by decide +kernel
theorem dX0_findHands_31 : decode cX0_findHands 31 = .ok (.iload_n 2, 1) := by decide +kernel
theorem dX0_findHands_32 : decode cX0_findHands 32 = .ok (.iastore, 1) := by decide +kernel
theorem dX0_findHands_33 : decode cX0_findHands 33 = .ok (.iinc 2 (-1), 3) := by decide +kernel
theorem dX0_findHands_36 : decode cX0_findHands 36 = .ok (.goto (-24), 3) := by decide +kernel
theorem dX0_findHands_39 : decode cX0_findHands 39 = .ok (.return_, 1) := by decide +kernel
theorem dX0_endedWorth_0 : decode cX0_endedWorth 0 = .ok (.iconst 0, 1) := by decide +kernel
theorem dX0_endedWorth_1 : decode cX0_endedWorth 1 = .ok (.istore_n 1, 1) := by decide +kernel
theorem dX0_endedWorth_2 : decode cX0_endedWorth 2 = .ok (.iconst 0, 1) := by decide +kernel
theorem dX0_endedWorth_3 : decode cX0_endedWorth 3 = .ok (.istore_n 2, 1) := by decide +kernel
theorem dX0_endedWorth_4 : decode cX0_endedWorth 4 = .ok (.iload_n 2, 1) := by decide +kernel
theorem dX0_endedWorth_5 : decode cX0_endedWorth 5 = .ok (.aload_n 0, 1) := by decide +kernel
theorem dX0_endedWorth_6 : decode cX0_endedWorth 6 = .ok (.getfield 58, 3) := by decide +kernel
theorem dX0_endedWorth_9 : decode cX0_endedWorth 9 = .ok (.if_icmp .ge 20, 3) := by decide +kernel
theorem dX0_endedWorth_12 : decode cX0_endedWorth 12 = .ok (.iload_n 1, 1) := by decide +kernel
theorem dX0_endedWorth_13 : decode cX0_endedWorth 13 = .ok (.iconst 1, 1) := by decide +kernel
theorem dX0_endedWorth_14 : decode cX0_endedWorth 14 = .ok (.aload_n 0, 1) := by decide +kernel
theorem dX0_endedWorth_15 : decode cX0_endedWorth 15 = .ok (.getfield 25, 3) := by decide +kernel
theorem dX0_endedWorth_18 : decode cX0_endedWorth 18 = .ok (.iload_n 2, 1) := by decide +kernel
theorem dX0_endedWorth_19 : decode cX0_endedWorth 19 = .ok (.iaload, 1) := by decide +kernel
theorem dX0_endedWorth_20 : decode cX0_endedWorth 20 = .ok (.ishl, 1) := by decide +kernel
theorem dX0_endedWorth_21 : decode cX0_endedWorth 21 = .ok (.ior, 1) := by decide +kernel
theorem dX0_endedWorth_22 : decode cX0_endedWorth 22 = .ok (.istore_n 1, 1) := by decide +kernel
theorem dX0_endedWorth_23 : decode cX0_endedWorth 23 = .ok (.iinc 2 1, 3) := by decide +kernel
theorem dX0_endedWorth_26 : decode cX0_endedWorth 26 = .ok (.goto (-22), 3) := by decide +kernel
theorem dX0_endedWorth_29 : decode cX0_endedWorth 29 = .ok (.aload_n 0, 1) := by decide +kernel
theorem dX0_endedWorth_30 : decode cX0_endedWorth 30 = .ok (.iload_n 1, 1) := by decide +kernel
theorem dX0_endedWorth_31 : decode cX0_endedWorth 31 = .ok (.aload_n 0, 1) := by decide +kernel
theorem dX0_endedWorth_32 : decode cX0_endedWorth 32 = .ok (.invokevirtual 91, 3) := by decide +kernel
theorem dX0_endedWorth_35 : decode cX0_endedWorth 35 = .ok (.iconst (-1), 1) := by decide +kernel
theorem dX0_endedWorth_36 : decode cX0_endedWorth 36 = .ok (.ixor, 1) := by decide +kernel
theorem dX0_endedWorth_37 : decode cX0_endedWorth 37 = .ok (.iand, 1) := by decide +kernel
theorem dX0_endedWorth_38 : decode cX0_endedWorth 38 = .ok (.invokevirtual 114, 3) := by decide +kernel
theorem dX0_endedWorth_41 : decode cX0_endedWorth 41 = .ok (.ireturn, 1) := by decide +kernel
theorem dX0_worthOf_0 : decode cX0_worthOf 0 = .ok (.iconst 0, 1) := by decide +kernel
theorem dX0_worthOf_1 : decode cX0_worthOf 1 = .ok (.istore_n 2, 1) := by decide +kernel
theorem dX0_worthOf_2 : decode cX0_worthOf 2 = .ok (.iconst 0, 1) := by decide +kernel
theorem dX0_worthOf_3 : decode cX0_worthOf 3 = .ok (.istore_n 3, 1) := by decide +kernel
theorem dX0_worthOf_4 : decode cX0_worthOf 4 = .ok (.iload_n 3, 1) := by decide +kernel
theorem dX0_worthOf_5 : decode cX0_worthOf 5 = .ok (.bipush 8, 2) := by decide +kernel
theorem dX0_worthOf_7 : decode cX0_worthOf 7 = .ok (.if_icmp .ge 27, 3) := by decide +kernel
theorem dX0_worthOf_10 : decode cX0_worthOf 10 = .ok (.iload_n 1, 1) := by decide +kernel
theorem dX0_worthOf_11 : decode cX0_worthOf 11 = .ok (.iload_n 3, 1) := by decide +kernel
theorem dX0_worthOf_12 : decode cX0_worthOf 12 = .ok (.iushr, 1) := by decide +kernel
theorem dX0_worthOf_13 : decode cX0_worthOf 13 = .ok (.iconst 1, 1) := by decide +kernel
theorem dX0_worthOf_14 : decode cX0_worthOf 14 = .ok (.iand, 1) := by decide +kernel
theorem dX0_worthOf_15 : decode cX0_worthOf 15 = .ok (.iconst 1, 1) := by decide +kernel
theorem dX0_worthOf_16 : decode cX0_worthOf 16 = .ok (.if_icmp .ne 12, 3) := by decide +kernel
theorem dX0_worthOf_19 : decode cX0_worthOf 19 = .ok (.iload_n 2, 1) := by decide +kernel
theorem dX0_worthOf_20 : decode cX0_worthOf 20 = .ok (.aload_n 0, 1) := by decide +kernel
theorem dX0_worthOf_21 : decode cX0_worthOf 21 = .ok (.getfield 15, 3) := by decide +kernel
theorem dX0_worthOf_24 : decode cX0_worthOf 24 = .ok (.iload_n 3, 1) := by decide +kernel
theorem dX0_worthOf_25 : decode cX0_worthOf 25 = .ok (.iaload, 1) := by decide +kernel
theorem dX0_worthOf_26 : decode cX0_worthOf 26 = .ok (.iadd, 1) := by decide +kernel
theorem dX0_worthOf_27 : decode cX0_worthOf 27 = .ok (.istore_n 2, 1) := by decide +kernel
theorem dX0_worthOf_28 : decode cX0_worthOf 28 = .ok (.iinc 3 1, 3) := by decide +kernel
theorem dX0_worthOf_31 : decode cX0_worthOf 31 = .ok (.goto (-27), 3) := by decide +kernel
theorem dX0_worthOf_34 : decode cX0_worthOf 34 = .ok (.iload_n 2, 1) := by decide +kernel
theorem dX0_worthOf_35 : decode cX0_worthOf 35 = .ok (.ireturn, 1) := by decide +kernel
theorem dX0_goneOfAll_0 : decode cX0_goneOfAll 0 = .ok (.iconst 0, 1) := by decide +kernel
theorem dX0_goneOfAll_1 : decode cX0_goneOfAll 1 = .ok (.istore_n 1, 1) := by decide +kernel
theorem dX0_goneOfAll_2 : decode cX0_goneOfAll 2 = .ok (.iconst 0, 1) := by decide +kernel
theorem dX0_goneOfAll_3 : decode cX0_goneOfAll 3 = .ok (.istore_n 2, 1) := by decide +kernel
theorem dX0_goneOfAll_4 : decode cX0_goneOfAll 4 = .ok (.iload_n 2, 1) := by decide +kernel
theorem dX0_goneOfAll_5 : decode cX0_goneOfAll 5 = .ok (.bipush 8, 2) := by decide +kernel
theorem dX0_goneOfAll_7 : decode cX0_goneOfAll 7 = .ok (.if_icmp .ge 18, 3) := by decide +kernel
theorem dX0_goneOfAll_10 : decode cX0_goneOfAll 10 = .ok (.iload_n 1, 1) := by decide +kernel
theorem dX0_goneOfAll_11 : decode cX0_goneOfAll 11 = .ok (.aload_n 0, 1) := by decide +kernel
theorem dX0_goneOfAll_12 : decode cX0_goneOfAll 12 = .ok (.getfield 19, 3) := by decide +kernel
theorem dX0_goneOfAll_15 : decode cX0_goneOfAll 15 = .ok (.iload_n 2, 1) := by decide +kernel
theorem dX0_goneOfAll_16 : decode cX0_goneOfAll 16 = .ok (.iaload, 1) := by decide +kernel
theorem dX0_goneOfAll_17 : decode cX0_goneOfAll 17 = .ok (.iadd, 1) := by decide +kernel
theorem dX0_goneOfAll_18 : decode cX0_goneOfAll 18 = .ok (.istore_n 1, 1) := by decide +kernel
theorem dX0_goneOfAll_19 : decode cX0_goneOfAll 19 = .ok (.iinc 2 1, 3) := by decide +kernel
theorem dX0_goneOfAll_22 : decode cX0_goneOfAll 22 = .ok (.goto (-18), 3) := by decide +kernel
theorem dX0_goneOfAll_25 : decode cX0_goneOfAll 25 = .ok (.iload_n 1, 1) := by decide +kernel
theorem dX0_goneOfAll_26 : decode cX0_goneOfAll 26 = .ok (.ireturn, 1) := by decide +kernel
theorem dX1_init_0 : decode cX1_init 0 = .ok (.aload_n 0, 1) := by decide +kernel
theorem dX1_init_1 : decode cX1_init 1 = .ok (.invokespecial 3, 3) := by decide +kernel
theorem dX1_init_4 : decode cX1_init 4 = .ok (.aload_n 0, 1) := by decide +kernel
theorem dX1_init_5 : decode cX1_init 5 = .ok (.iconst 4, 1) := by decide +kernel
theorem dX1_init_6 : decode cX1_init 6 = .ok (.newarray .int, 2) := by decide +kernel
theorem dX1_init_8 : decode cX1_init 8 = .ok (.putfield 11, 3) := by decide +kernel
theorem dX1_init_11 : decode cX1_init 11 = .ok (.aload_n 0, 1) := by decide +kernel
theorem dX1_init_12 : decode cX1_init 12 = .ok (.iconst 4, 1) := by decide +kernel
theorem dX1_init_13 : decode cX1_init 13 = .ok (.newarray .int, 2) := by decide +kernel
theorem dX1_init_15 : decode cX1_init 15 = .ok (.putfield 15, 3) := by decide +kernel
theorem dX1_init_18 : decode cX1_init 18 = .ok (.aload_n 0, 1) := by decide +kernel
theorem dX1_init_19 : decode cX1_init 19 = .ok (.iconst 4, 1) := by decide +kernel
theorem dX1_init_20 : decode cX1_init 20 = .ok (.newarray .int, 2) := by decide +kernel
theorem dX1_init_22 : decode cX1_init 22 = .ok (.putfield 18, 3) := by decide +kernel
theorem dX1_init_25 : decode cX1_init 25 = .ok (.aload_n 0, 1) := by decide +kernel
theorem dX1_init_26 : decode cX1_init 26 = .ok (.bipush 32, 2) := by decide +kernel
theorem dX1_init_28 : decode cX1_init 28 = .ok (.newarray .int, 2) := by decide +kernel
theorem dX1_init_30 : decode cX1_init 30 = .ok (.putfield 21, 3) := by decide +kernel
theorem dX1_init_33 : decode cX1_init 33 = .ok (.aload_n 0, 1) := by decide +kernel
theorem dX1_init_34 : decode cX1_init 34 = .ok (.iconst 5, 1) := by decide +kernel
theorem dX1_init_35 : decode cX1_init 35 = .ok (.newarray .int, 2) := by decide +kernel
theorem dX1_init_37 : decode cX1_init 37 = .ok (.putfield 24, 3) := by decide +kernel
theorem dX1_init_40 : decode cX1_init 40 = .ok (.aload_n 0, 1) := by decide +kernel
theorem dX1_init_41 : decode cX1_init 41 = .ok (.aload_n 1, 1) := by decide +kernel
theorem dX1_init_42 : decode cX1_init 42 = .ok (.putfield 27, 3) := by decide +kernel
theorem dX1_init_45 : decode cX1_init 45 = .ok (.aload_n 0, 1) := by decide +kernel
theorem dX1_init_46 : decode cX1_init 46 = .ok (.aload_n 2, 1) := by decide +kernel
theorem dX1_init_47 : decode cX1_init 47 = .ok (.putfield 31, 3) := by decide +kernel
theorem dX1_init_50 : decode cX1_init 50 = .ok (.return_, 1) := by decide +kernel
theorem dX1_gather_0 : decode cX1_gather 0 = .ok (.aload_n 0, 1) := by decide +kernel
theorem dX1_gather_1 : decode cX1_gather 1 = .ok (.iconst 0, 1) := by decide +kernel
theorem dX1_gather_2 : decode cX1_gather 2 = .ok (.putfield 35, 3) := by decide +kernel
theorem dX1_gather_5 : decode cX1_gather 5 = .ok (.iconst 0, 1) := by decide +kernel
theorem dX1_gather_6 : decode cX1_gather 6 = .ok (.istore_n 2, 1) := by decide +kernel
theorem dX1_gather_7 : decode cX1_gather 7 = .ok (.iload_n 2, 1) := by decide +kernel
theorem dX1_gather_8 : decode cX1_gather 8 = .ok (.aload_n 1, 1) := by decide +kernel
theorem dX1_gather_9 : decode cX1_gather 9 = .ok (.getfield 39, 3) := by decide +kernel
theorem dX1_gather_12 : decode cX1_gather 12 = .ok (.if_icmp .ge 59, 3) := by decide +kernel
theorem dX1_gather_15 : decode cX1_gather 15 = .ok (.aload_n 1, 1) := by decide +kernel
theorem dX1_gather_16 : decode cX1_gather 16 = .ok (.getfield 44, 3) := by decide +kernel
theorem dX1_gather_19 : decode cX1_gather 19 = .ok (.iload_n 2, 1) := by decide +kernel
theorem dX1_gather_20 : decode cX1_gather 20 = .ok (.iaload, 1) := by decide +kernel
theorem dX1_gather_21 : decode cX1_gather 21 = .ok (.ifCond .ge 44, 3) := by decide +kernel
theorem dX1_gather_24 : decode cX1_gather 24 = .ok (.aload_n 1, 1) := by decide +kernel
theorem dX1_gather_25 : decode cX1_gather 25 = .ok (.getfield 47, 3) := by decide +kernel
theorem dX1_gather_28 : decode cX1_gather 28 = .ok (.iload_n 2, 1) := by decide +kernel
theorem dX1_gather_29 : decode cX1_gather 29 = .ok (.iaload, 1) := by decide +kernel
theorem dX1_gather_30 : decode cX1_gather 30 = .ok (.bipush 40, 2) := by decide +kernel
theorem dX1_gather_32 : decode cX1_gather 32 = .ok (.if_icmp .lt 6, 3) := by decide +kernel
theorem dX1_gather_35 : decode cX1_gather 35 = .ok (.goto 30, 3) := by decide +kernel
theorem dX1_gather_38 : decode cX1_gather 38 = .ok (.aload_n 0, 1) := by decide +kernel
theorem dX1_gather_39 : decode cX1_gather 39 = .ok (.getfield 35, 3) := by decide +kernel
theorem dX1_gather_42 : decode cX1_gather 42 = .ok (.iconst 4, 1) := by decide +kernel
theorem dX1_gather_43 : decode cX1_gather 43 = .ok (.if_icmp .lt 5, 3) := by decide +kernel
theorem dX1_gather_46 : decode cX1_gather 46 = .ok (.iconst 0, 1) := by decide +kernel
theorem dX1_gather_47 : decode cX1_gather 47 = .ok (.ireturn, 1) := by decide +kernel
theorem dX1_gather_48 : decode cX1_gather 48 = .ok (.aload_n 0, 1) := by decide +kernel
theorem dX1_gather_49 : decode cX1_gather 49 = .ok (.getfield 11, 3) := by decide +kernel
theorem dX1_gather_52 : decode cX1_gather 52 = .ok (.aload_n 0, 1) := by decide +kernel
theorem dX1_gather_53 : decode cX1_gather 53 = .ok (.dup, 1) := by decide +kernel
theorem dX1_gather_54 : decode cX1_gather 54 = .ok (.getfield 35, 3) := by decide +kernel
theorem dX1_gather_57 : decode cX1_gather 57 = .ok (.dup_x1, 1) := by decide +kernel
theorem dX1_gather_58 : decode cX1_gather 58 = .ok (.iconst 1, 1) := by decide +kernel
theorem dX1_gather_59 : decode cX1_gather 59 = .ok (.iadd, 1) := by decide +kernel
theorem dX1_gather_60 : decode cX1_gather 60 = .ok (.putfield 35, 3) := by decide +kernel
theorem dX1_gather_63 : decode cX1_gather 63 = .ok (.iload_n 2, 1) := by decide +kernel
theorem dX1_gather_64 : decode cX1_gather 64 = .ok (.iastore, 1) := by decide +kernel
theorem dX1_gather_65 : decode cX1_gather 65 = .ok (.iinc 2 1, 3) := by decide +kernel
theorem dX1_gather_68 : decode cX1_gather 68 = .ok (.goto (-61), 3) := by decide +kernel
theorem dX1_gather_71 : decode cX1_gather 71 = .ok (.iconst 1, 1) := by decide +kernel
theorem dX1_gather_72 : decode cX1_gather 72 = .ok (.ireturn, 1) := by decide +kernel
theorem dX1_begin_0 : decode cX1_begin 0 = .ok (.aload_n 0, 1) := by decide +kernel
theorem dX1_begin_1 : decode cX1_begin 1 = .ok (.iconst (-1), 1) := by decide +kernel
theorem dX1_begin_2 : decode cX1_begin 2 = .ok (.putfield 50, 3) := by decide +kernel
theorem dX1_begin_5 : decode cX1_begin 5 = .ok (.aload_n 0, 1) := by decide +kernel
theorem dX1_begin_6 : decode cX1_begin 6 = .ok (.aload_n 1, 1) := by decide +kernel
theorem dX1_begin_7 : decode cX1_begin 7 = .ok (.iload_n 2, 1) := by decide +kernel
theorem dX1_begin_8 : decode cX1_begin 8 = .ok (.invokevirtual 53, 3) := by decide +kernel
theorem dX1_begin_11 : decode cX1_begin 11 = .ok (.aload_n 0, 1) := by decide +kernel
theorem dX1_begin_12 : decode cX1_begin 12 = .ok (.aload_n 1, 1) := by decide +kernel
theorem dX1_begin_13 : decode cX1_begin 13 = .ok (.invokevirtual 57, 3) := by decide +kernel
theorem dX1_begin_16 : decode cX1_begin 16 = .ok (.putfield 61, 3) := by decide +kernel
theorem dX1_begin_19 : decode cX1_begin 19 = .ok (.iconst 0, 1) := by decide +kernel
theorem dX1_begin_20 : decode cX1_begin 20 = .ok (.istore_n 3, 1) := by decide +kernel
theorem dX1_begin_21 : decode cX1_begin 21 = .ok (.iload_n 3, 1) := by decide +kernel
theorem dX1_begin_22 : decode cX1_begin 22 = .ok (.aload_n 1, 1) := by decide +kernel
theorem dX1_begin_23 : decode cX1_begin 23 = .ok (.getfield 39, 3) := by decide +kernel
theorem dX1_begin_26 : decode cX1_begin 26 = .ok (.if_icmp .ge 52, 3) := by decide +kernel
theorem dX1_begin_29 : decode cX1_begin 29 = .ok (.aload_n 1, 1) := by decide +kernel
theorem dX1_begin_30 : decode cX1_begin 30 = .ok (.getfield 44, 3) := by decide +kernel
theorem dX1_begin_33 : decode cX1_begin 33 = .ok (.iload_n 3, 1) := by decide +kernel
theorem dX1_begin_34 : decode cX1_begin 34 = .ok (.iaload, 1) := by decide +kernel
theorem dX1_begin_35 : decode cX1_begin 35 = .ok (.ifCond .lt 37, 3) := by decide +kernel
theorem dX1_begin_38 : decode cX1_begin 38 = .ok (.aload_n 1, 1) := by decide +kernel
theorem dX1_begin_39 : decode cX1_begin 39 = .ok (.aload_n 1, 1) := by decide +kernel
theorem dX1_begin_40 : decode cX1_begin 40 = .ok (.getfield 44, 3) := by decide +kernel
theorem dX1_begin_43 : decode cX1_begin 43 = .ok (.iload_n 3, 1) := by decide +kernel
theorem dX1_begin_44 : decode cX1_begin 44 = .ok (.iaload, 1) := by decide +kernel
theorem dX1_begin_45 : decode cX1_begin 45 = .ok (.invokevirtual 64, 3) := by decide +kernel
theorem dX1_begin_48 : decode cX1_begin 48 = .ok (.ifCond .eq 24, 3) := by decide +kernel
theorem dX1_begin_51 : decode cX1_begin 51 = .ok (.aload_n 0, 1) := by decide +kernel
theorem dX1_begin_52 : decode cX1_begin 52 = .ok (.dup, 1) := by decide +kernel
theorem dX1_begin_53 : decode cX1_begin 53 = .ok (.getfield 61, 3) := by decide +kernel
theorem dX1_begin_56 : decode cX1_begin 56 = .ok (.aload_n 1, 1) := by decide +kernel
theorem dX1_begin_57 : decode cX1_begin 57 = .ok (.iload_n 3, 1) := by decide +kernel
theorem dX1_begin_58 : decode cX1_begin 58 = .ok (.aload_n 1, 1) := by decide +kernel
theorem dX1_begin_59 : decode cX1_begin 59 = .ok (.getfield 44, 3) := by decide +kernel
theorem dX1_begin_62 : decode cX1_begin 62 = .ok (.iload_n 3, 1) := by decide +kernel
theorem dX1_begin_63 : decode cX1_begin 63 = .ok (.iaload, 1) := by decide +kernel
theorem dX1_begin_64 : decode cX1_begin 64 = .ok (.iload_n 2, 1) := by decide +kernel
theorem dX1_begin_65 : decode cX1_begin 65 = .ok (.invokestatic 68, 3) := by decide +kernel
theorem dX1_begin_68 : decode cX1_begin 68 = .ok (.iadd, 1) := by decide +kernel
theorem dX1_begin_69 : decode cX1_begin 69 = .ok (.putfield 61, 3) := by decide +kernel
theorem dX1_begin_72 : decode cX1_begin 72 = .ok (.iinc 3 1, 3) := by decide +kernel
theorem dX1_begin_75 : decode cX1_begin 75 = .ok (.goto (-54), 3) := by decide +kernel
theorem dX1_begin_78 : decode cX1_begin 78 = .ok (.return_, 1) := by decide +kernel
theorem dX1_findGains_0 : decode cX1_findGains 0 = .ok (.aload_n 1, 1) := by decide +kernel
theorem dX1_findGains_1 : decode cX1_findGains 1 = .ok (.invokevirtual 72, 3) := by decide +kernel
theorem dX1_findGains_4 : decode cX1_findGains 4 = .ok (.istore_n 3, 1) := by decide +kernel
theorem dX1_findGains_5 : decode cX1_findGains 5 = .ok (.aload_n 0, 1) := by decide +kernel
theorem dX1_findGains_6 : decode cX1_findGains 6 = .ok (.getfield 24, 3) := by decide +kernel
theorem dX1_findGains_9 : decode cX1_findGains 9 = .ok (.aload_n 0, 1) := by decide +kernel
theorem dX1_findGains_10 : decode cX1_findGains 10 = .ok (.getfield 35, 3) := by decide +kernel
theorem dX1_findGains_13 : decode cX1_findGains 13 = .ok (.iconst 0, 1) := by decide +kernel
theorem dX1_findGains_14 : decode cX1_findGains 14 = .ok (.iastore, 1) := by decide +kernel
theorem dX1_findGains_15 : decode cX1_findGains 15 = .ok (.aload_n 0, 1) := by decide +kernel
theorem dX1_findGains_16 : decode cX1_findGains 16 = .ok (.getfield 35, 3) := by decide +kernel
theorem dX1_findGains_19 : decode cX1_findGains 19 = .ok (.iconst 1, 1) := by decide +kernel
theorem dX1_findGains_20 : decode cX1_findGains 20 = .ok (.isub, 1) := by decide +kernel
theorem dX1_findGains_21 : decode cX1_findGains 21 = .ok (.istore 4, 2) := by decide +kernel
theorem dX1_findGains_23 : decode cX1_findGains 23 = .ok (.iload 4, 2) := by decide +kernel
theorem dX1_findGains_25 : decode cX1_findGains 25 = .ok (.ifCond .lt 101, 3) := by decide +kernel
theorem dX1_findGains_28 : decode cX1_findGains 28 = .ok (.iconst 0, 1) := by decide +kernel
theorem dX1_findGains_29 : decode cX1_findGains 29 = .ok (.istore 5, 2) := by decide +kernel
theorem dX1_findGains_31 : decode cX1_findGains 31 = .ok (.iconst 0, 1) := by decide +kernel
theorem dX1_findGains_32 : decode cX1_findGains 32 = .ok (.istore 6, 2) := by decide +kernel
theorem dX1_findGains_34 : decode cX1_findGains 34 = .ok (.iload 6, 2) := by decide +kernel
theorem dX1_findGains_36 : decode cX1_findGains 36 = .ok (.bipush 8, 2) := by decide +kernel
theorem dX1_findGains_38 : decode cX1_findGains 38 = .ok (.if_icmp .ge 63, 3) := by decide +kernel
theorem dX1_findGains_41 : decode cX1_findGains 41 = .ok (.iload_n 3, 1) := by decide +kernel
theorem dX1_findGains_42 : decode cX1_findGains 42 = .ok (.iload 6, 2) := by decide +kernel
theorem dX1_findGains_44 : decode cX1_findGains 44 = .ok (.iushr, 1) := by decide +kernel
theorem dX1_findGains_45 : decode cX1_findGains 45 = .ok (.iconst 1, 1) := by decide +kernel
theorem dX1_findGains_46 : decode cX1_findGains 46 = .ok (.iand, 1) := by decide +kernel
theorem dX1_findGains_47 : decode cX1_findGains 47 = .ok (.iconst 1, 1) := by decide +kernel
theorem dX1_findGains_48 : decode cX1_findGains 48 = .ok (.if_icmp .ne 20, 3) := by decide +kernel
theorem dX1_findGains_51 : decode cX1_findGains 51 = .ok (.aload_n 1, 1) := by decide +kernel
theorem dX1_findGains_52 : decode cX1_findGains 52 = .ok (.aload_n 0, 1) := by decide +kernel
theorem dX1_findGains_53 : decode cX1_findGains 53 = .ok (.getfield 11, 3) := by decide +kernel
theorem dX1_findGains_56 : decode cX1_findGains 56 = .ok (.iload 4, 2) := by decide +kernel
theorem dX1_findGains_58 : decode cX1_findGains 58 = .ok (.iaload, 1) := by decide +kernel
theorem dX1_findGains_59 : decode cX1_findGains 59 = .ok (.iload 6, 2) := by decide +kernel
theorem dX1_findGains_61 : decode cX1_findGains 61 = .ok (.iload_n 2, 1) := by decide +kernel
theorem dX1_findGains_62 : decode cX1_findGains 62 = .ok (.invokestatic 68, 3) := by decide +kernel
theorem dX1_findGains_65 : decode cX1_findGains 65 = .ok (.goto 4, 3) := by decide +kernel
theorem dX1_findGains_68 : decode cX1_findGains 68 = .ok (.iconst 0, 1) := by decide +kernel
theorem dX1_findGains_69 : decode cX1_findGains 69 = .ok (.istore 7, 2) := by decide +kernel
theorem dX1_findGains_71 : decode cX1_findGains 71 = .ok (.aload_n 0, 1) := by decide +kernel
theorem dX1_findGains_72 : decode cX1_findGains 72 = .ok (.getfield 21, 3) := by decide +kernel
theorem dX1_findGains_75 : decode cX1_findGains 75 = .ok (.iload 4, 2) := by decide +kernel
theorem dX1_findGains_77 : decode cX1_findGains 77 = .ok (.bipush 8, 2) := by decide +kernel
theorem dX1_findGains_79 : decode cX1_findGains 79 = .ok (.imul, 1) := by decide +kernel
theorem dX1_findGains_80 : decode cX1_findGains 80 = .ok (.iload 6, 2) := by decide +kernel
theorem dX1_findGains_82 : decode cX1_findGains 82 = .ok (.iadd, 1) := by decide +kernel
theorem dX1_findGains_83 : decode cX1_findGains 83 = .ok (.iload 7, 2) := by decide +kernel
theorem dX1_findGains_85 : decode cX1_findGains 85 = .ok (.iastore, 1) := by decide +kernel
theorem dX1_findGains_86 : decode cX1_findGains 86 = .ok (.iload 5, 2) := by decide +kernel
theorem dX1_findGains_88 : decode cX1_findGains 88 = .ok (.iload 7, 2) := by decide +kernel
theorem dX1_findGains_90 : decode cX1_findGains 90 = .ok (.invokestatic 75, 3) := by decide +kernel
theorem dX1_findGains_93 : decode cX1_findGains 93 = .ok (.istore 5, 2) := by decide +kernel
theorem dX1_findGains_95 : decode cX1_findGains 95 = .ok (.iinc 6 1, 3) := by decide +kernel
theorem dX1_findGains_98 : decode cX1_findGains 98 = .ok (.goto (-64), 3) := by decide +kernel
theorem dX1_findGains_101 : decode cX1_findGains 101 = .ok (.aload_n 0, 1) := by decide +kernel
theorem dX1_findGains_102 : decode cX1_findGains 102 = .ok (.getfield 24, 3) := by decide +kernel
theorem dX1_findGains_105 : decode cX1_findGains 105 = .ok (.iload 4, 2) := by decide +kernel
theorem dX1_findGains_107 : decode cX1_findGains 107 = .ok (.aload_n 0, 1) := by decide +kernel
theorem dX1_findGains_108 : decode cX1_findGains 108 = .ok (.getfield 24, 3) := by decide +kernel
theorem dX1_findGains_111 : decode cX1_findGains 111 = .ok (.iload 4, 2) := by decide +kernel
theorem dX1_findGains_113 : decode cX1_findGains 113 = .ok (.iconst 1, 1) := by decide +kernel
theorem dX1_findGains_114 : decode cX1_findGains 114 = .ok (.iadd, 1) := by decide +kernel
theorem dX1_findGains_115 : decode cX1_findGains 115 = .ok (.iaload, 1) := by decide +kernel
theorem dX1_findGains_116 : decode cX1_findGains 116 = .ok (.iload 5, 2) := by decide +kernel
theorem dX1_findGains_118 : decode cX1_findGains 118 = .ok (.iadd, 1) := by decide +kernel
theorem dX1_findGains_119 : decode cX1_findGains 119 = .ok (.iastore, 1) := by decide +kernel
theorem dX1_findGains_120 : decode cX1_findGains 120 = .ok (.iinc 4 (-1), 3) := by decide +kernel
theorem dX1_findGains_123 : decode cX1_findGains 123 = .ok (.goto (-100), 3) := by decide +kernel
theorem dX1_findGains_126 : decode cX1_findGains 126 = .ok (.return_, 1) := by decide +kernel
theorem dX1_gainOf_0 : decode cX1_gainOf 0 = .ok (.aload_n 0, 1) := by decide +kernel
theorem dX1_gainOf_1 : decode cX1_gainOf 1 = .ok (.iload_n 2, 1) := by decide +kernel
theorem dX1_gainOf_2 : decode cX1_gainOf 2 = .ok (.invokevirtual 81, 3) := by decide +kernel
theorem dX1_gainOf_5 : decode cX1_gainOf 5 = .ok (.aload_n 0, 1) := by decide +kernel
theorem dX1_gainOf_6 : decode cX1_gainOf 6 = .ok (.iload_n 1, 1) := by decide +kernel
theorem dX1_gainOf_7 : decode cX1_gainOf 7 = .ok (.iload_n 2, 1) := by decide +kernel
theorem dX1_gainOf_8 : decode cX1_gainOf 8 = .ok (.iload_n 3, 1) := by decide +kernel
theorem dX1_gainOf_9 : decode cX1_gainOf 9 = .ok (.invokevirtual 85, 3) := by decide +kernel
theorem dX1_gainOf_12 : decode cX1_gainOf 12 = .ok (.if_icmp .le 7, 3) := by decide +kernel
theorem dX1_gainOf_15 : decode cX1_gainOf 15 = .ok (.iconst 0, 1) := by decide +kernel
theorem dX1_gainOf_16 : decode cX1_gainOf 16 = .ok (.goto 9, 3) := by decide +kernel
theorem dX1_gainOf_19 : decode cX1_gainOf 19 = .ok (.aload_n 0, 1) := by decide +kernel
theorem dX1_gainOf_20 : decode cX1_gainOf 20 = .ok (.getfield 89, 3) := by decide +kernel
theorem dX1_gainOf_23 : decode cX1_gainOf 23 = .ok (.iload_n 2, 1) := by decide +kernel
theorem dX1_gainOf_24 : decode cX1_gainOf 24 = .ok (.iaload, 1) := by decide +kernel
theorem dX1_gainOf_25 : decode cX1_gainOf 25 = .ok (.ireturn, 1) := by decide +kernel
theorem dX1_weighFrom_0 : decode cX1_weighFrom 0 = .ok (.iload 5, 2) := by decide +kernel
theorem dX1_weighFrom_2 : decode cX1_weighFrom 2 = .ok (.aload_n 0, 1) := by decide +kernel
theorem dX1_weighFrom_3 : decode cX1_weighFrom 3 = .ok (.getfield 24, 3) := by decide +kernel
theorem dX1_weighFrom_6 : decode cX1_weighFrom 6 = .ok (.iload_n 3, 1) := by decide +kernel
theorem dX1_weighFrom_7 : decode cX1_weighFrom 7 = .ok (.iaload, 1) := by decide +kernel
theorem dX1_weighFrom_8 : decode cX1_weighFrom 8 = .ok (.iadd, 1) := by decide +kernel
theorem dX1_weighFrom_9 : decode cX1_weighFrom 9 = .ok (.aload_n 0, 1) := by decide +kernel
theorem dX1_weighFrom_10 : decode cX1_weighFrom 10 = .ok (.getfield 50, 3) := by decide +kernel
theorem dX1_weighFrom_13 : decode cX1_weighFrom 13 = .ok (.if_icmp .gt 4, 3) := by decide +kernel
theorem dX1_weighFrom_16 : decode cX1_weighFrom 16 = .ok (.return_, 1) := by decide +kernel
theorem dX1_weighFrom_17 : decode cX1_weighFrom 17 = .ok (.iload_n 3, 1) := by decide +kernel
theorem dX1_weighFrom_18 : decode cX1_weighFrom 18 = .ok (.aload_n 0, 1) := by decide +kernel
theorem dX1_weighFrom_19 : decode cX1_weighFrom 19 = .ok (.getfield 35, 3) := by decide +kernel
theorem dX1_weighFrom_22 : decode cX1_weighFrom 22 = .ok (.if_icmp .lt 10, 3) := by decide +kernel
theorem dX1_weighFrom_25 : decode cX1_weighFrom 25 = .ok (.aload_n 0, 1) := by decide +kernel
theorem dX1_weighFrom_26 : decode cX1_weighFrom 26 = .ok (.aload_n 1, 1) := by decide +kernel
theorem dX1_weighFrom_27 : decode cX1_weighFrom 27 = .ok (.iload_n 2, 1) := by decide +kernel
theorem dX1_weighFrom_28 : decode cX1_weighFrom 28 = .ok (.invokevirtual 92, 3) := by decide +kernel
theorem dX1_weighFrom_31 : decode cX1_weighFrom 31 = .ok (.return_, 1) := by decide +kernel
theorem dX1_weighFrom_32 : decode cX1_weighFrom 32 = .ok (.aload_n 0, 1) := by decide +kernel
theorem dX1_weighFrom_33 : decode cX1_weighFrom 33 = .ok (.getfield 15, 3) := by decide +kernel
theorem dX1_weighFrom_36 : decode cX1_weighFrom 36 = .ok (.iload_n 3, 1) := by decide +kernel
theorem dX1_weighFrom_37 : decode cX1_weighFrom 37 = .ok (.iconst (-1), 1) := by decide +kernel
theorem dX1_weighFrom_38 : decode cX1_weighFrom 38 = .ok (.iastore, 1) := by decide +kernel
theorem dX1_weighFrom_39 : decode cX1_weighFrom 39 = .ok (.aload_n 0, 1) := by decide +kernel
theorem dX1_weighFrom_40 : decode cX1_weighFrom 40 = .ok (.aload_n 1, 1) := by decide +kernel
theorem dX1_weighFrom_41 : decode cX1_weighFrom 41 = .ok (.iload_n 2, 1) := by decide +kernel
theorem dX1_weighFrom_42 : decode cX1_weighFrom 42 = .ok (.iload_n 3, 1) := by decide +kernel
theorem dX1_weighFrom_43 : decode cX1_weighFrom 43 = .ok (.iconst 1, 1) := by decide +kernel
theorem dX1_weighFrom_44 : decode cX1_weighFrom 44 = .ok (.iadd, 1) := by decide +kernel
theorem dX1_weighFrom_45 : decode cX1_weighFrom 45 = .ok (.iload 4, 2) := by decide +kernel
theorem dX1_weighFrom_47 : decode cX1_weighFrom 47 = .ok (.iload 5, 2) := by decide +kernel
theorem dX1_weighFrom_49 : decode cX1_weighFrom 49 = .ok (.invokevirtual 95, 3) := by decide +kernel
theorem dX1_weighFrom_52 : decode cX1_weighFrom 52 = .ok (.iconst 0, 1) := by decide +kernel
theorem dX1_weighFrom_53 : decode cX1_weighFrom 53 = .ok (.istore 6, 2) := by decide +kernel
theorem dX1_weighFrom_55 : decode cX1_weighFrom 55 = .ok (.iload 6, 2) := by decide +kernel
theorem dX1_weighFrom_57 : decode cX1_weighFrom 57 = .ok (.bipush 8, 2) := by decide +kernel
theorem dX1_weighFrom_59 : decode cX1_weighFrom 59 = .ok (.if_icmp .ge 61, 3) := by decide +kernel
theorem dX1_weighFrom_62 : decode cX1_weighFrom 62 = .ok (.iload 4, 2) := by decide +kernel
theorem dX1_weighFrom_64 : decode cX1_weighFrom 64 = .ok (.iload 6, 2) := by decide +kernel
theorem dX1_weighFrom_66 : decode cX1_weighFrom 66 = .ok (.iushr, 1) := by decide +kernel
theorem dX1_weighFrom_67 : decode cX1_weighFrom 67 = .ok (.iconst 1, 1) := by decide +kernel
theorem dX1_weighFrom_68 : decode cX1_weighFrom 68 = .ok (.iand, 1) := by decide +kernel
theorem dX1_weighFrom_69 : decode cX1_weighFrom 69 = .ok (.iconst 1, 1) := by decide +kernel
theorem dX1_weighFrom_70 : decode cX1_weighFrom 70 = .ok (.if_icmp .ne 44, 3) := by decide +kernel
theorem dX1_weighFrom_73 : decode cX1_weighFrom 73 = .ok (.aload_n 0, 1) := by decide +kernel
theorem dX1_weighFrom_74 : decode cX1_weighFrom 74 = .ok (.getfield 15, 3) := by decide +kernel
theorem dX1_weighFrom_77 : decode cX1_weighFrom 77 = .ok (.iload_n 3, 1) := by decide +kernel
theorem dX1_weighFrom_78 : decode cX1_weighFrom 78 = .ok (.iload 6, 2) := by decide +kernel
theorem dX1_weighFrom_80 : decode cX1_weighFrom 80 = .ok (.iastore, 1) := by decide +kernel
theorem dX1_weighFrom_81 : decode cX1_weighFrom 81 = .ok (.aload_n 0, 1) := by decide +kernel
theorem dX1_weighFrom_82 : decode cX1_weighFrom 82 = .ok (.aload_n 1, 1) := by decide +kernel
theorem dX1_weighFrom_83 : decode cX1_weighFrom 83 = .ok (.iload_n 2, 1) := by decide +kernel
theorem dX1_weighFrom_84 : decode cX1_weighFrom 84 = .ok (.iload_n 3, 1) := by decide +kernel
theorem dX1_weighFrom_85 : decode cX1_weighFrom 85 = .ok (.iconst 1, 1) := by decide +kernel
theorem dX1_weighFrom_86 : decode cX1_weighFrom 86 = .ok (.iadd, 1) := by decide +kernel
theorem dX1_weighFrom_87 : decode cX1_weighFrom 87 = .ok (.iload 4, 2) := by decide +kernel
theorem dX1_weighFrom_89 : decode cX1_weighFrom 89 = .ok (.iconst 1, 1) := by decide +kernel
theorem dX1_weighFrom_90 : decode cX1_weighFrom 90 = .ok (.iload 6, 2) := by decide +kernel
theorem dX1_weighFrom_92 : decode cX1_weighFrom 92 = .ok (.ishl, 1) := by decide +kernel
theorem dX1_weighFrom_93 : decode cX1_weighFrom 93 = .ok (.iconst (-1), 1) := by decide +kernel
theorem dX1_weighFrom_94 : decode cX1_weighFrom 94 = .ok (.ixor, 1) := by decide +kernel
theorem dX1_weighFrom_95 : decode cX1_weighFrom 95 = .ok (.iand, 1) := by decide +kernel
theorem dX1_weighFrom_96 : decode cX1_weighFrom 96 = .ok (.iload 5, 2) := by decide +kernel
theorem dX1_weighFrom_98 : decode cX1_weighFrom 98 = .ok (.aload_n 0, 1) := by decide +kernel
theorem dX1_weighFrom_99 : decode cX1_weighFrom 99 = .ok (.getfield 21, 3) := by decide +kernel
theorem dX1_weighFrom_102 : decode cX1_weighFrom 102 = .ok (.iload_n 3, 1) := by decide +kernel
theorem dX1_weighFrom_103 : decode cX1_weighFrom 103 = .ok (.bipush 8, 2) := by decide +kernel
theorem dX1_weighFrom_105 : decode cX1_weighFrom 105 = .ok (.imul, 1) := by decide +kernel
theorem dX1_weighFrom_106 : decode cX1_weighFrom 106 = .ok (.iload 6, 2) := by decide +kernel
theorem dX1_weighFrom_108 : decode cX1_weighFrom 108 = .ok (.iadd, 1) := by decide +kernel
theorem dX1_weighFrom_109 : decode cX1_weighFrom 109 = .ok (.iaload, 1) := by decide +kernel
theorem dX1_weighFrom_110 : decode cX1_weighFrom 110 = .ok (.iadd, 1) := by decide +kernel
theorem dX1_weighFrom_111 : decode cX1_weighFrom 111 = .ok (.invokevirtual 95, 3) := by decide +kernel
theorem dX1_weighFrom_114 : decode cX1_weighFrom 114 = .ok (.iinc 6 1, 3) := by decide +kernel
theorem dX1_weighFrom_117 : decode cX1_weighFrom 117 = .ok (.goto (-62), 3) := by decide +kernel
theorem dX1_weighFrom_120 : decode cX1_weighFrom 120 = .ok (.return_, 1) := by decide +kernel
theorem dX1_weigh_0 : decode cX1_weigh 0 = .ok (.aload_n 0, 1) := by decide +kernel
theorem dX1_weigh_1 : decode cX1_weigh 1 = .ok (.getfield 27, 3) := by decide +kernel
theorem dX1_weigh_4 : decode cX1_weigh 4 = .ok (.aload_n 1, 1) := by decide +kernel
theorem dX1_weigh_5 : decode cX1_weigh 5 = .ok (.invokevirtual 99, 3) := by decide +kernel
theorem dX1_weigh_8 : decode cX1_weigh 8 = .ok (.iconst 0, 1) := by decide +kernel
theorem dX1_weigh_9 : decode cX1_weigh 9 = .ok (.istore_n 3, 1) := by decide +kernel
theorem dX1_weigh_10 : decode cX1_weigh 10 = .ok (.iload_n 3, 1) := by decide +kernel
theorem dX1_weigh_11 : decode cX1_weigh 11 = .ok (.aload_n 0, 1) := by decide +kernel
theorem dX1_weigh_12 : decode cX1_weigh 12 = .ok (.getfield 35, 3) := by decide +kernel
theorem dX1_weigh_15 : decode cX1_weigh 15 = .ok (.if_icmp .ge 29, 3) := by decide +kernel
theorem dX1_weigh_18 : decode cX1_weigh 18 = .ok (.aload_n 0, 1) := by decide +kernel
theorem dX1_weigh_19 : decode cX1_weigh 19 = .ok (.getfield 27, 3) := by decide +kernel
theorem dX1_weigh_22 : decode cX1_weigh 22 = .ok (.getfield 44, 3) := by decide +kernel
theorem dX1_weigh_25 : decode cX1_weigh 25 = .ok (.aload_n 0, 1) := by decide +kernel
theorem dX1_weigh_26 : decode cX1_weigh 26 = .ok (.getfield 11, 3) := by decide +kernel
theorem dX1_weigh_29 : decode cX1_weigh 29 = .ok (.iload_n 3, 1) := by decide +kernel
theorem dX1_weigh_30 : decode cX1_weigh 30 = .ok (.iaload, 1) := by decide +kernel
theorem dX1_weigh_31 : decode cX1_weigh 31 = .ok (.aload_n 0, 1) := by decide +kernel
theorem dX1_weigh_32 : decode cX1_weigh 32 = .ok (.getfield 15, 3) := by decide +kernel
theorem dX1_weigh_35 : decode cX1_weigh 35 = .ok (.iload_n 3, 1) := by decide +kernel
theorem dX1_weigh_36 : decode cX1_weigh 36 = .ok (.iaload, 1) := by decide +kernel
theorem dX1_weigh_37 : decode cX1_weigh 37 = .ok (.iastore, 1) := by decide +kernel
theorem dX1_weigh_38 : decode cX1_weigh 38 = .ok (.iinc 3 1, 3) := by decide +kernel
theorem dX1_weigh_41 : decode cX1_weigh 41 = .ok (.goto (-31), 3) := by decide +kernel
theorem dX1_weigh_44 : decode cX1_weigh 44 = .ok (.aload_n 0, 1) := by decide +kernel
theorem dX1_weigh_45 : decode cX1_weigh 45 = .ok (.getfield 31, 3) := by decide +kernel
theorem dX1_weigh_48 : decode cX1_weigh 48 = .ok (.aload_n 0, 1) := by decide +kernel
theorem dX1_weigh_49 : decode cX1_weigh 49 = .ok (.getfield 27, 3) := by decide +kernel
theorem dX1_weigh_52 : decode cX1_weigh 52 = .ok (.iload_n 2, 1) := by decide +kernel
theorem dX1_weigh_53 : decode cX1_weigh 53 = .ok (.invokevirtual 103, 3) := by decide +kernel
theorem dX1_weigh_56 : decode cX1_weigh 56 = .ok (.aload_n 0, 1) := by decide +kernel
theorem dX1_weigh_57 : decode cX1_weigh 57 = .ok (.getfield 27, 3) := by decide +kernel
theorem dX1_weigh_60 : decode cX1_weigh 60 = .ok (.invokevirtual 57, 3) := by decide +kernel
theorem dX1_weigh_63 : decode cX1_weigh 63 = .ok (.istore_n 3, 1) := by decide +kernel
theorem dX1_weigh_64 : decode cX1_weigh 64 = .ok (.iload_n 3, 1) := by decide +kernel
theorem dX1_weigh_65 : decode cX1_weigh 65 = .ok (.aload_n 0, 1) := by decide +kernel
theorem dX1_weigh_66 : decode cX1_weigh 66 = .ok (.getfield 50, 3) := by decide +kernel
theorem dX1_weigh_69 : decode cX1_weigh 69 = .ok (.if_icmp .le 25, 3) := by decide +kernel
theorem dX1_weigh_72 : decode cX1_weigh 72 = .ok (.aload_n 0, 1) := by decide +kernel
theorem dX1_weigh_73 : decode cX1_weigh 73 = .ok (.iload_n 3, 1) := by decide +kernel
theorem dX1_weigh_74 : decode cX1_weigh 74 = .ok (.putfield 50, 3) := by decide +kernel
theorem dX1_weigh_77 : decode cX1_weigh 77 = .ok (.aload_n 0, 1) := by decide +kernel
theorem dX1_weigh_78 : decode cX1_weigh 78 = .ok (.getfield 15, 3) := by decide +kernel
theorem dX1_weigh_81 : decode cX1_weigh 81 = .ok (.iconst 0, 1) := by decide +kernel
theorem dX1_weigh_82 : decode cX1_weigh 82 = .ok (.aload_n 0, 1) := by decide +kernel
theorem dX1_weigh_83 : decode cX1_weigh 83 = .ok (.getfield 18, 3) := by decide +kernel
theorem dX1_weigh_86 : decode cX1_weigh 86 = .ok (.iconst 0, 1) := by decide +kernel
theorem dX1_weigh_87 : decode cX1_weigh 87 = .ok (.aload_n 0, 1) := by decide +kernel
theorem dX1_weigh_88 : decode cX1_weigh 88 = .ok (.getfield 35, 3) := by decide +kernel
theorem dX1_weigh_91 : decode cX1_weigh 91 = .ok (.invokestatic 108, 3) := by decide +kernel
theorem dX1_weigh_94 : decode cX1_weigh 94 = .ok (.return_, 1) := by decide +kernel
theorem dX1_carryOut_0 : decode cX1_carryOut 0 = .ok (.iconst 0, 1) := by decide +kernel
theorem dX1_carryOut_1 : decode cX1_carryOut 1 = .ok (.istore_n 2, 1) := by decide +kernel
theorem dX1_carryOut_2 : decode cX1_carryOut 2 = .ok (.iconst 0, 1) := by decide +kernel
theorem dX1_carryOut_3 : decode cX1_carryOut 3 = .ok (.istore_n 3, 1) := by decide +kernel
theorem dX1_carryOut_4 : decode cX1_carryOut 4 = .ok (.iload_n 3, 1) := by decide +kernel
theorem dX1_carryOut_5 : decode cX1_carryOut 5 = .ok (.aload_n 0, 1) := by decide +kernel
theorem dX1_carryOut_6 : decode cX1_carryOut 6 = .ok (.getfield 35, 3) := by decide +kernel
theorem dX1_carryOut_9 : decode cX1_carryOut 9 = .ok (.if_icmp .ge 38, 3) := by decide +kernel
theorem dX1_carryOut_12 : decode cX1_carryOut 12 = .ok (.aload_n 1, 1) := by decide +kernel
theorem dX1_carryOut_13 : decode cX1_carryOut 13 = .ok (.getfield 44, 3) := by decide +kernel
theorem dX1_carryOut_16 : decode cX1_carryOut 16 = .ok (.aload_n 0, 1) := by decide +kernel
theorem dX1_carryOut_17 : decode cX1_carryOut 17 = .ok (.getfield 11, 3) := by decide +kernel
theorem dX1_carryOut_20 : decode cX1_carryOut 20 = .ok (.iload_n 3, 1) := by decide +kernel
theorem dX1_carryOut_21 : decode cX1_carryOut 21 = .ok (.iaload, 1) := by decide +kernel
theorem dX1_carryOut_22 : decode cX1_carryOut 22 = .ok (.aload_n 0, 1) := by decide +kernel
theorem dX1_carryOut_23 : decode cX1_carryOut 23 = .ok (.getfield 18, 3) := by decide +kernel
theorem dX1_carryOut_26 : decode cX1_carryOut 26 = .ok (.iload_n 3, 1) := by decide +kernel
theorem dX1_carryOut_27 : decode cX1_carryOut 27 = .ok (.iaload, 1) := by decide +kernel
theorem dX1_carryOut_28 : decode cX1_carryOut 28 = .ok (.iastore, 1) := by decide +kernel
theorem dX1_carryOut_29 : decode cX1_carryOut 29 = .ok (.aload_n 0, 1) := by decide +kernel
theorem dX1_carryOut_30 : decode cX1_carryOut 30 = .ok (.getfield 18, 3) := by decide +kernel
theorem dX1_carryOut_33 : decode cX1_carryOut 33 = .ok (.iload_n 3, 1) := by decide +kernel
theorem dX1_carryOut_34 : decode cX1_carryOut 34 = .ok (.iaload, 1) := by decide +kernel
theorem dX1_carryOut_35 : decode cX1_carryOut 35 = .ok (.ifCond .lt 6, 3) := by decide +kernel
theorem dX1_carryOut_38 : decode cX1_carryOut 38 = .ok (.iinc 2 1, 3) := by decide +kernel
theorem dX1_carryOut_41 : decode cX1_carryOut 41 = .ok (.iinc 3 1, 3) := by decide +kernel
theorem dX1_carryOut_44 : decode cX1_carryOut 44 = .ok (.goto (-40), 3) := by decide +kernel
theorem dX1_carryOut_47 : decode cX1_carryOut 47 = .ok (.iload_n 2, 1) := by decide +kernel
theorem dX1_carryOut_48 : decode cX1_carryOut 48 = .ok (.ireturn, 1) := by decide +kernel
theorem dX2_isKind_0 : decode cX2_isKind 0 = .ok (.iload_n 0, 1) := by decide +kernel
theorem dX2_isKind_1 : decode cX2_isKind 1 = .ok (.ifCond .lt 15, 3) := by decide +kernel
theorem dX2_isKind_4 : decode cX2_isKind 4 = .ok (.iload_n 0, 1) := by decide +kernel
theorem dX2_isKind_5 : decode cX2_isKind 5 = .ok (.getstatic 7, 3) := by decide +kernel
theorem dX2_isKind_8 : decode cX2_isKind 8 = .ok (.arraylength, 1) := by decide +kernel
theorem dX2_isKind_9 : decode cX2_isKind 9 = .ok (.if_icmp .ge 7, 3) := by decide +kernel
theorem dX2_isKind_12 : decode cX2_isKind 12 = .ok (.iconst 1, 1) := by decide +kernel
theorem dX2_isKind_13 : decode cX2_isKind 13 = .ok (.goto 4, 3) := by decide +kernel
theorem dX2_isKind_16 : decode cX2_isKind 16 = .ok (.iconst 0, 1) := by decide +kernel
theorem dX2_isKind_17 : decode cX2_isKind 17 = .ok (.ireturn, 1) := by decide +kernel
theorem dX2_isUnder_0 : decode cX2_isUnder 0 = .ok (.iload_n 0, 1) := by decide +kernel
theorem dX2_isUnder_1 : decode cX2_isUnder 1 = .ok (.istore_n 2, 1) := by decide +kernel
theorem dX2_isUnder_2 : decode cX2_isUnder 2 = .ok (.iconst 0, 1) := by decide +kernel
theorem dX2_isUnder_3 : decode cX2_isUnder 3 = .ok (.istore_n 3, 1) := by decide +kernel
theorem dX2_isUnder_4 : decode cX2_isUnder 4 = .ok (.iload_n 3, 1) := by decide +kernel
theorem dX2_isUnder_5 : decode cX2_isUnder 5 = .ok (.getstatic 7, 3) := by decide +kernel
theorem dX2_isUnder_8 : decode cX2_isUnder 8 = .ok (.arraylength, 1) := by decide +kernel
theorem dX2_isUnder_9 : decode cX2_isUnder 9 = .ok (.if_icmp .ge 34, 3) := by decide +kernel
theorem dX2_isUnder_12 : decode cX2_isUnder 12 = .ok (.iload_n 2, 1) := by decide +kernel
theorem dX2_isUnder_13 : decode cX2_isUnder 13 = .ok (.ifCond .lt 30, 3) := by decide +kernel
theorem dX2_isUnder_16 : decode cX2_isUnder 16 = .ok (.iload_n 2, 1) := by decide +kernel
theorem dX2_isUnder_17 : decode cX2_isUnder 17 = .ok (.getstatic 7, 3) := by decide +kernel
theorem dX2_isUnder_20 : decode cX2_isUnder 20 = .ok (.arraylength, 1) := by decide +kernel
theorem dX2_isUnder_21 : decode cX2_isUnder 21 = .ok (.if_icmp .ge 22, 3) := by decide +kernel
theorem dX2_isUnder_24 : decode cX2_isUnder 24 = .ok (.iload_n 2, 1) := by decide +kernel
theorem dX2_isUnder_25 : decode cX2_isUnder 25 = .ok (.iload_n 1, 1) := by decide +kernel
theorem dX2_isUnder_26 : decode cX2_isUnder 26 = .ok (.if_icmp .ne 5, 3) := by decide +kernel
theorem dX2_isUnder_29 : decode cX2_isUnder 29 = .ok (.iconst 1, 1) := by decide +kernel
theorem dX2_isUnder_30 : decode cX2_isUnder 30 = .ok (.ireturn, 1) := by decide +kernel
theorem dX2_isUnder_31 : decode cX2_isUnder 31 = .ok (.getstatic 7, 3) := by decide +kernel
theorem dX2_isUnder_34 : decode cX2_isUnder 34 = .ok (.iload_n 2, 1) := by decide +kernel
theorem dX2_isUnder_35 : decode cX2_isUnder 35 = .ok (.iaload, 1) := by decide +kernel
theorem dX2_isUnder_36 : decode cX2_isUnder 36 = .ok (.istore_n 2, 1) := by decide +kernel
theorem dX2_isUnder_37 : decode cX2_isUnder 37 = .ok (.iinc 3 1, 3) := by decide +kernel
theorem dX2_isUnder_40 : decode cX2_isUnder 40 = .ok (.goto (-36), 3) := by decide +kernel
theorem dX2_isUnder_43 : decode cX2_isUnder 43 = .ok (.iconst 0, 1) := by decide +kernel
theorem dX2_isUnder_44 : decode cX2_isUnder 44 = .ok (.ireturn, 1) := by decide +kernel
theorem dX2_workOf_0 : decode cX2_workOf 0 = .ok (.iload_n 2, 1) := by decide +kernel
theorem dX2_workOf_1 : decode cX2_workOf 1 = .ok (.iconst 2, 1) := by decide +kernel
theorem dX2_workOf_2 : decode cX2_workOf 2 = .ok (.irem, 1) := by decide +kernel
theorem dX2_workOf_3 : decode cX2_workOf 3 = .ok (.ifCond .ne 7, 3) := by decide +kernel
theorem dX2_workOf_6 : decode cX2_workOf 6 = .ok (.iload_n 1, 1) := by decide +kernel
theorem dX2_workOf_7 : decode cX2_workOf 7 = .ok (.goto 6, 3) := by decide +kernel
theorem dX2_workOf_10 : decode cX2_workOf 10 = .ok (.iload_n 1, 1) := by decide +kernel
theorem dX2_workOf_11 : decode cX2_workOf 11 = .ok (.iconst 2, 1) := by decide +kernel
theorem dX2_workOf_12 : decode cX2_workOf 12 = .ok (.idiv, 1) := by decide +kernel
theorem dX2_workOf_13 : decode cX2_workOf 13 = .ok (.istore_n 3, 1) := by decide +kernel
theorem dX2_workOf_14 : decode cX2_workOf 14 = .ok (.iload_n 0, 1) := by decide +kernel
theorem dX2_workOf_15 : decode cX2_workOf 15 = .ok (.tableswitch 61 1 6 #[37, 61, 61, 51, 55, 39], 37) := by decide +kernel
theorem dX2_workOf_52 : decode cX2_workOf 52 = .ok (.iload_n 3, 1) := by decide +kernel
theorem dX2_workOf_53 : decode cX2_workOf 53 = .ok (.ireturn, 1) := by decide +kernel
theorem dX2_workOf_54 : decode cX2_workOf 54 = .ok (.iload_n 3, 1) := by decide +kernel
theorem dX2_workOf_55 : decode cX2_workOf 55 = .ok (.ifCond .le 9, 3) := by decide +kernel
theorem dX2_workOf_58 : decode cX2_workOf 58 = .ok (.iload_n 3, 1) := by decide +kernel
theorem dX2_workOf_59 : decode cX2_workOf 59 = .ok (.iconst 1, 1) := by decide +kernel
theorem dX2_workOf_60 : decode cX2_workOf 60 = .ok (.isub, 1) := by decide +kernel
theorem dX2_workOf_61 : decode cX2_workOf 61 = .ok (.goto 4, 3) := by decide +kernel
theorem dX2_workOf_64 : decode cX2_workOf 64 = .ok (.iconst 0, 1) := by decide +kernel
theorem dX2_workOf_65 : decode cX2_workOf 65 = .ok (.ireturn, 1) := by decide +kernel
theorem dX2_workOf_66 : decode cX2_workOf 66 = .ok (.iconst 2, 1) := by decide +kernel
theorem dX2_workOf_67 : decode cX2_workOf 67 = .ok (.iload_n 1, 1) := by decide +kernel
theorem dX2_workOf_68 : decode cX2_workOf 68 = .ok (.imul, 1) := by decide +kernel
theorem dX2_workOf_69 : decode cX2_workOf 69 = .ok (.ireturn, 1) := by decide +kernel
theorem dX2_workOf_70 : decode cX2_workOf 70 = .ok (.iconst 2, 1) := by decide +kernel
theorem dX2_workOf_71 : decode cX2_workOf 71 = .ok (.iload_n 1, 1) := by decide +kernel
theorem dX2_workOf_72 : decode cX2_workOf 72 = .ok (.imul, 1) := by decide +kernel
theorem dX2_workOf_73 : decode cX2_workOf 73 = .ok (.iconst 1, 1) := by decide +kernel
theorem dX2_workOf_74 : decode cX2_workOf 74 = .ok (.iadd, 1) := by decide +kernel
theorem dX2_workOf_75 : decode cX2_workOf 75 = .ok (.ireturn, 1) := by decide +kernel
theorem dX2_workOf_76 : decode cX2_workOf 76 = .ok (.iload_n 1, 1) := by decide +kernel
theorem dX2_workOf_77 : decode cX2_workOf 77 = .ok (.ireturn, 1) := by decide +kernel
theorem dX2_growthOf_0 : decode cX2_growthOf 0 = .ok (.iload_n 0, 1) := by decide +kernel
theorem dX2_growthOf_1 : decode cX2_growthOf 1 = .ok (.tableswitch 59 2 6 #[35, 40, 59, 59, 47], 35) := by decide +kernel
theorem dX2_growthOf_36 : decode cX2_growthOf 36 = .ok (.iload_n 1, 1) := by decide +kernel
theorem dX2_growthOf_37 : decode cX2_growthOf 37 = .ok (.bipush 10, 2) := by decide +kernel
theorem dX2_growthOf_39 : decode cX2_growthOf 39 = .ok (.idiv, 1) := by decide +kernel
theorem dX2_growthOf_40 : decode cX2_growthOf 40 = .ok (.ireturn, 1) := by decide +kernel
theorem dX2_growthOf_41 : decode cX2_growthOf 41 = .ok (.iload_n 1, 1) := by decide +kernel
theorem dX2_growthOf_42 : decode cX2_growthOf 42 = .ok (.bipush 10, 2) := by decide +kernel
theorem dX2_growthOf_44 : decode cX2_growthOf 44 = .ok (.idiv, 1) := by decide +kernel
theorem dX2_growthOf_45 : decode cX2_growthOf 45 = .ok (.iconst 1, 1) := by decide +kernel
theorem dX2_growthOf_46 : decode cX2_growthOf 46 = .ok (.iadd, 1) := by decide +kernel
theorem dX2_growthOf_47 : decode cX2_growthOf 47 = .ok (.ireturn, 1) := by decide +kernel
theorem dX2_growthOf_48 : decode cX2_growthOf 48 = .ok (.iload_n 2, 1) := by decide +kernel
theorem dX2_growthOf_49 : decode cX2_growthOf 49 = .ok (.iconst 2, 1) := by decide +kernel
theorem dX2_growthOf_50 : decode cX2_growthOf 50 = .ok (.irem, 1) := by decide +kernel
theorem dX2_growthOf_51 : decode cX2_growthOf 51 = .ok (.ifCond .ne 7, 3) := by decide +kernel
theorem dX2_growthOf_54 : decode cX2_growthOf 54 = .ok (.iconst 1, 1) := by decide +kernel
theorem dX2_growthOf_55 : decode cX2_growthOf 55 = .ok (.goto 4, 3) := by decide +kernel
theorem dX2_growthOf_58 : decode cX2_growthOf 58 = .ok (.iconst 0, 1) := by decide +kernel
theorem dX2_growthOf_59 : decode cX2_growthOf 59 = .ok (.ireturn, 1) := by decide +kernel
theorem dX2_growthOf_60 : decode cX2_growthOf 60 = .ok (.iconst 0, 1) := by decide +kernel
theorem dX2_growthOf_61 : decode cX2_growthOf 61 = .ok (.ireturn, 1) := by decide +kernel
theorem dX3_init_0 : decode cX3_init 0 = .ok (.aload_n 0, 1) := by decide +kernel
theorem dX3_init_1 : decode cX3_init 1 = .ok (.invokespecial 1, 3) := by decide +kernel
theorem dX3_init_4 : decode cX3_init 4 = .ok (.aload_n 0, 1) := by decide +kernel
theorem dX3_init_5 : decode cX3_init 5 = .ok (.bipush 40, 2) := by decide +kernel
theorem dX3_init_7 : decode cX3_init 7 = .ok (.newarray .int, 2) := by decide +kernel
theorem dX3_init_9 : decode cX3_init 9 = .ok (.putfield 9, 3) := by decide +kernel
theorem dX3_init_12 : decode cX3_init 12 = .ok (.return_, 1) := by decide +kernel
theorem dX3_isMissing_0 : decode cX3_isMissing 0 = .ok (.aload_n 0, 1) := by decide +kernel
theorem dX3_isMissing_1 : decode cX3_isMissing 1 = .ok (.getfield 13, 3) := by decide +kernel
theorem dX3_isMissing_4 : decode cX3_isMissing 4 = .ok (.ifCond .ne 7, 3) := by decide +kernel
theorem dX3_isMissing_7 : decode cX3_isMissing 7 = .ok (.iconst 1, 1) := by decide +kernel
theorem dX3_isMissing_8 : decode cX3_isMissing 8 = .ok (.goto 4, 3) := by decide +kernel
theorem dX3_isMissing_11 : decode cX3_isMissing 11 = .ok (.iconst 0, 1) := by decide +kernel
theorem dX3_isMissing_12 : decode cX3_isMissing 12 = .ok (.ireturn, 1) := by decide +kernel
theorem dX3_become_0 : decode cX3_become 0 = .ok (.aload_n 0, 1) := by decide +kernel
theorem dX3_become_1 : decode cX3_become 1 = .ok (.iload_n 1, 1) := by decide +kernel
theorem dX3_become_2 : decode cX3_become 2 = .ok (.putfield 13, 3) := by decide +kernel
theorem dX3_become_5 : decode cX3_become 5 = .ok (.aload_n 0, 1) := by decide +kernel
theorem dX3_become_6 : decode cX3_become 6 = .ok (.iload_n 1, 1) := by decide +kernel
theorem dX3_become_7 : decode cX3_become 7 = .ok (.ifCond .ne 7, 3) := by decide +kernel
theorem dX3_become_10 : decode cX3_become 10 = .ok (.iconst 0, 1) := by decide +kernel
theorem dX3_become_11 : decode cX3_become 11 = .ok (.goto 4, 3) := by decide +kernel
theorem dX3_become_14 : decode cX3_become 14 = .ok (.iload_n 2, 1) := by decide +kernel
theorem dX3_become_15 : decode cX3_become 15 = .ok (.putfield 17, 3) := by decide +kernel
theorem dX3_become_18 : decode cX3_become 18 = .ok (.aload_n 0, 1) := by decide +kernel
theorem dX3_become_19 : decode cX3_become 19 = .ok (.getfield 9, 3) := by decide +kernel
theorem dX3_become_22 : decode cX3_become 22 = .ok (.iconst 0, 1) := by decide +kernel
theorem dX3_become_23 : decode cX3_become 23 = .ok (.invokestatic 20, 3) := by decide +kernel
theorem dX3_become_26 : decode cX3_become 26 = .ok (.aload_n 0, 1) := by decide +kernel
theorem dX3_become_27 : decode cX3_become 27 = .ok (.getfield 17, 3) := by decide +kernel
theorem dX3_become_30 : decode cX3_become 30 = .ok (.ireturn, 1) := by decide +kernel
theorem dX3_hasRange_0 : decode cX3_hasRange 0 = .ok (.iload_n 1, 1) := by decide +kernel
theorem dX3_hasRange_1 : decode cX3_hasRange 1 = .ok (.ifCond .lt 29, 3) := by decide +kernel
theorem dX3_hasRange_4 : decode cX3_hasRange 4 = .ok (.iload_n 2, 1) := by decide +kernel
theorem dX3_hasRange_5 : decode cX3_hasRange 5 = .ok (.ifCond .lt 25, 3) := by decide +kernel
theorem dX3_hasRange_8 : decode cX3_hasRange 8 = .ok (.iload_n 2, 1) := by decide +kernel
theorem dX3_hasRange_9 : decode cX3_hasRange 9 = .ok (.aload_n 0, 1) := by decide +kernel
theorem dX3_hasRange_10 : decode cX3_hasRange 10 = .ok (.getfield 17, 3) := by decide +kernel
theorem dX3_hasRange_13 : decode cX3_hasRange 13 = .ok (.if_icmp .gt 17, 3) := by decide +kernel
theorem dX3_hasRange_16 : decode cX3_hasRange 16 = .ok (.iload_n 1, 1) := by decide +kernel
theorem dX3_hasRange_17 : decode cX3_hasRange 17 = .ok (.aload_n 0, 1) := by decide +kernel
theorem dX3_hasRange_18 : decode cX3_hasRange 18 = .ok (.getfield 17, 3) := by decide +kernel
theorem dX3_hasRange_21 : decode cX3_hasRange 21 = .ok (.iload_n 2, 1) := by decide +kernel
theorem dX3_hasRange_22 : decode cX3_hasRange 22 = .ok (.isub, 1) := by decide +kernel
theorem dX3_hasRange_23 : decode cX3_hasRange 23 = .ok (.if_icmp .gt 7, 3) := by decide +kernel
theorem dX3_hasRange_26 : decode cX3_hasRange 26 = .ok (.iconst 1, 1) := by decide +kernel
theorem dX3_hasRange_27 : decode cX3_hasRange 27 = .ok (.goto 4, 3) := by decide +kernel
theorem dX3_hasRange_30 : decode cX3_hasRange 30 = .ok (.iconst 0, 1) := by decide +kernel
theorem dX3_hasRange_31 : decode cX3_hasRange 31 = .ok (.ireturn, 1) := by decide +kernel
theorem dX3_put_0 : decode cX3_put 0 = .ok (.aload_n 0, 1) := by decide +kernel
theorem dX3_put_1 : decode cX3_put 1 = .ok (.getfield 13, 3) := by decide +kernel
theorem dX3_put_4 : decode cX3_put 4 = .ok (.bipush 8, 2) := by decide +kernel
theorem dX3_put_6 : decode cX3_put 6 = .ok (.if_icmp .ne 14, 3) := by decide +kernel
theorem dX3_put_9 : decode cX3_put 9 = .ok (.aload_n 0, 1) := by decide +kernel
theorem dX3_put_10 : decode cX3_put 10 = .ok (.getfield 9, 3) := by decide +kernel
theorem dX3_put_13 : decode cX3_put 13 = .ok (.iload_n 1, 1) := by decide +kernel
theorem dX3_put_14 : decode cX3_put 14 = .ok (.iload_n 2, 1) := by decide +kernel
theorem dX3_put_15 : decode cX3_put 15 = .ok (.i2b, 1) := by decide +kernel
theorem dX3_put_16 : decode cX3_put 16 = .ok (.iastore, 1) := by decide +kernel
theorem dX3_put_17 : decode cX3_put 17 = .ok (.goto 30, 3) := by decide +kernel
theorem dX3_put_20 : decode cX3_put 20 = .ok (.aload_n 0, 1) := by decide +kernel
theorem dX3_put_21 : decode cX3_put 21 = .ok (.getfield 13, 3) := by decide +kernel
theorem dX3_put_24 : decode cX3_put 24 = .ok (.bipush 16, 2) := by decide +kernel
theorem dX3_put_26 : decode cX3_put 26 = .ok (.if_icmp .ne 14, 3) := by decide +kernel
theorem dX3_put_29 : decode cX3_put 29 = .ok (.aload_n 0, 1) := by decide +kernel
theorem dX3_put_30 : decode cX3_put 30 = .ok (.getfield 9, 3) := by decide +kernel
theorem dX3_put_33 : decode cX3_put 33 = .ok (.iload_n 1, 1) := by decide +kernel
theorem dX3_put_34 : decode cX3_put 34 = .ok (.iload_n 2, 1) := by decide +kernel
theorem dX3_put_35 : decode cX3_put 35 = .ok (.i2s, 1) := by decide +kernel
theorem dX3_put_36 : decode cX3_put 36 = .ok (.iastore, 1) := by decide +kernel
theorem dX3_put_37 : decode cX3_put 37 = .ok (.goto 10, 3) := by decide +kernel
theorem dX3_put_40 : decode cX3_put 40 = .ok (.aload_n 0, 1) := by decide +kernel
theorem dX3_put_41 : decode cX3_put 41 = .ok (.getfield 9, 3) := by decide +kernel
theorem dX3_put_44 : decode cX3_put 44 = .ok (.iload_n 1, 1) := by decide +kernel
theorem dX3_put_45 : decode cX3_put 45 = .ok (.iload_n 2, 1) := by decide +kernel
theorem dX3_put_46 : decode cX3_put 46 = .ok (.iastore, 1) := by decide +kernel
theorem dX3_put_47 : decode cX3_put 47 = .ok (.return_, 1) := by decide +kernel
theorem dX4_init_0 : decode cX4_init 0 = .ok (.aload_n 0, 1) := by decide +kernel
theorem dX4_init_1 : decode cX4_init 1 = .ok (.invokespecial 3, 3) := by decide +kernel
theorem dX4_init_4 : decode cX4_init 4 = .ok (.aload_n 0, 1) := by decide +kernel
theorem dX4_init_5 : decode cX4_init 5 = .ok (.bipush 120, 2) := by decide +kernel
theorem dX4_init_7 : decode cX4_init 7 = .ok (.newarray .int, 2) := by decide +kernel
theorem dX4_init_9 : decode cX4_init 9 = .ok (.putfield 11, 3) := by decide +kernel
theorem dX4_init_12 : decode cX4_init 12 = .ok (.return_, 1) := by decide +kernel
theorem dX4_hasRoomFor_0 : decode cX4_hasRoomFor 0 = .ok (.aload_n 0, 1) := by decide +kernel
theorem dX4_hasRoomFor_1 : decode cX4_hasRoomFor 1 = .ok (.getfield 15, 3) := by decide +kernel
theorem dX4_hasRoomFor_4 : decode cX4_hasRoomFor 4 = .ok (.iload_n 1, 1) := by decide +kernel
theorem dX4_hasRoomFor_5 : decode cX4_hasRoomFor 5 = .ok (.iadd, 1) := by decide +kernel
theorem dX4_hasRoomFor_6 : decode cX4_hasRoomFor 6 = .ok (.bipush 120, 2) := by decide +kernel
theorem dX4_hasRoomFor_8 : decode cX4_hasRoomFor 8 = .ok (.if_icmp .gt 7, 3) := by decide +kernel
theorem dX4_hasRoomFor_11 : decode cX4_hasRoomFor 11 = .ok (.iconst 1, 1) := by decide +kernel
theorem dX4_hasRoomFor_12 : decode cX4_hasRoomFor 12 = .ok (.goto 4, 3) := by decide +kernel
theorem dX4_hasRoomFor_15 : decode cX4_hasRoomFor 15 = .ok (.iconst 0, 1) := by decide +kernel
theorem dX4_hasRoomFor_16 : decode cX4_hasRoomFor 16 = .ok (.ireturn, 1) := by decide +kernel
theorem dX4_append_0 : decode cX4_append 0 = .ok (.iload_n 2, 1) := by decide +kernel
theorem dX4_append_1 : decode cX4_append 1 = .ok (.iconst 1, 1) := by decide +kernel
theorem dX4_append_2 : decode cX4_append 2 = .ok (.isub, 1) := by decide +kernel
theorem dX4_append_3 : decode cX4_append 3 = .ok (.istore_n 3, 1) := by decide +kernel
theorem dX4_append_4 : decode cX4_append 4 = .ok (.iload_n 3, 1) := by decide +kernel
theorem dX4_append_5 : decode cX4_append 5 = .ok (.ifCond .lt 44, 3) := by decide +kernel
theorem dX4_append_8 : decode cX4_append 8 = .ok (.aload_n 0, 1) := by decide +kernel
theorem dX4_append_9 : decode cX4_append 9 = .ok (.getfield 15, 3) := by decide +kernel
theorem dX4_append_12 : decode cX4_append 12 = .ok (.bipush 120, 2) := by decide +kernel
theorem dX4_append_14 : decode cX4_append 14 = .ok (.if_icmp .ge 35, 3) := by decide +kernel
theorem dX4_append_17 : decode cX4_append 17 = .ok (.aload_n 0, 1) := by decide +kernel
theorem dX4_append_18 : decode cX4_append 18 = .ok (.getfield 11, 3) := by decide +kernel
theorem dX4_append_21 : decode cX4_append 21 = .ok (.aload_n 0, 1) := by decide +kernel
theorem dX4_append_22 : decode cX4_append 22 = .ok (.dup, 1) := by decide +kernel
theorem dX4_append_23 : decode cX4_append 23 = .ok (.getfield 15, 3) := by decide +kernel
theorem dX4_append_26 : decode cX4_append 26 = .ok (.dup_x1, 1) := by decide +kernel
theorem dX4_append_27 : decode cX4_append 27 = .ok (.iconst 1, 1) := by decide +kernel
theorem dX4_append_28 : decode cX4_append 28 = .ok (.iadd, 1) := by decide +kernel
theorem dX4_append_29 : decode cX4_append 29 = .ok (.putfield 15, 3) := by decide +kernel
theorem dX4_append_32 : decode cX4_append 32 = .ok (.iload_n 1, 1) := by decide +kernel
theorem dX4_append_33 : decode cX4_append 33 = .ok (.bipush 8, 2) := by decide +kernel
theorem dX4_append_35 : decode cX4_append 35 = .ok (.iload_n 3, 1) := by decide +kernel
theorem dX4_append_36 : decode cX4_append 36 = .ok (.imul, 1) := by decide +kernel
theorem dX4_append_37 : decode cX4_append 37 = .ok (.iushr, 1) := by decide +kernel
theorem dX4_append_38 : decode cX4_append 38 = .ok (.sipush 255, 3) := by decide +kernel
theorem dX4_append_41 : decode cX4_append 41 = .ok (.iand, 1) := by decide +kernel
theorem dX4_append_42 : decode cX4_append 42 = .ok (.iastore, 1) := by decide +kernel
theorem dX4_append_43 : decode cX4_append 43 = .ok (.iinc 3 (-1), 3) := by decide +kernel
theorem dX4_append_46 : decode cX4_append 46 = .ok (.goto (-42), 3) := by decide +kernel
theorem dX4_append_49 : decode cX4_append 49 = .ok (.aload_n 0, 1) := by decide +kernel
theorem dX4_append_50 : decode cX4_append 50 = .ok (.getfield 15, 3) := by decide +kernel
theorem dX4_append_53 : decode cX4_append 53 = .ok (.ireturn, 1) := by decide +kernel
theorem dX4_clear_0 : decode cX4_clear 0 = .ok (.aload_n 0, 1) := by decide +kernel
theorem dX4_clear_1 : decode cX4_clear 1 = .ok (.getfield 15, 3) := by decide +kernel
theorem dX4_clear_4 : decode cX4_clear 4 = .ok (.istore_n 1, 1) := by decide +kernel
theorem dX4_clear_5 : decode cX4_clear 5 = .ok (.aload_n 0, 1) := by decide +kernel
theorem dX4_clear_6 : decode cX4_clear 6 = .ok (.iconst 0, 1) := by decide +kernel
theorem dX4_clear_7 : decode cX4_clear 7 = .ok (.putfield 15, 3) := by decide +kernel
theorem dX4_clear_10 : decode cX4_clear 10 = .ok (.iload_n 1, 1) := by decide +kernel
theorem dX4_clear_11 : decode cX4_clear 11 = .ok (.ireturn, 1) := by decide +kernel
theorem dX4_readInto_0 : decode cX4_readInto 0 = .ok (.aload_n 0, 1) := by decide +kernel
theorem dX4_readInto_1 : decode cX4_readInto 1 = .ok (.iconst 0, 1) := by decide +kernel
theorem dX4_readInto_2 : decode cX4_readInto 2 = .ok (.putfield 19, 3) := by decide +kernel
theorem dX4_readInto_5 : decode cX4_readInto 5 = .ok (.iconst 1, 1) := by decide +kernel
theorem dX4_readInto_6 : decode cX4_readInto 6 = .ok (.istore_n 2, 1) := by decide +kernel
theorem dX4_readInto_7 : decode cX4_readInto 7 = .ok (.iload_n 2, 1) := by decide +kernel
theorem dX4_readInto_8 : decode cX4_readInto 8 = .ok (.bipush 120, 2) := by decide +kernel
theorem dX4_readInto_10 : decode cX4_readInto 10 = .ok (.if_icmp .gt 44, 3) := by decide +kernel
theorem dX4_readInto_13 : decode cX4_readInto 13 = .ok (.aload_n 0, 1) := by decide +kernel
theorem dX4_readInto_14 : decode cX4_readInto 14 = .ok (.invokevirtual 22, 3) := by decide +kernel
theorem dX4_readInto_17 : decode cX4_readInto 17 = .ok (.aload_n 0, 1) := by decide +kernel
theorem dX4_readInto_18 : decode cX4_readInto 18 = .ok (.aload_n 1, 1) := by decide +kernel
theorem dX4_readInto_19 : decode cX4_readInto 19 = .ok (.invokevirtual 25, 3) := by decide +kernel
theorem dX4_readInto_22 : decode cX4_readInto 22 = .ok (.ifCond .ne 6, 3) := by decide +kernel
theorem dX4_readInto_25 : decode cX4_readInto 25 = .ok (.goto 29, 3) := by decide +kernel
theorem dX4_readInto_28 : decode cX4_readInto 28 = .ok (.aload_n 0, 1) := by decide +kernel
theorem dX4_readInto_29 : decode cX4_readInto 29 = .ok (.getfield 29, 3) := by decide +kernel
theorem dX4_readInto_32 : decode cX4_readInto 32 = .ok (.ifCond .ne 5, 3) := by decide +kernel
theorem dX4_readInto_35 : decode cX4_readInto 35 = .ok (.iload_n 2, 1) := by decide +kernel
theorem dX4_readInto_36 : decode cX4_readInto 36 = .ok (.ireturn, 1) := by decide +kernel
theorem dX4_readInto_37 : decode cX4_readInto 37 = .ok (.aload_n 0, 1) := by decide +kernel
theorem dX4_readInto_38 : decode cX4_readInto 38 = .ok (.getfield 29, 3) := by decide +kernel
theorem dX4_readInto_41 : decode cX4_readInto 41 = .ok (.iconst 3, 1) := by decide +kernel
theorem dX4_readInto_42 : decode cX4_readInto 42 = .ok (.if_icmp .eq 6, 3) := by decide +kernel
theorem dX4_readInto_45 : decode cX4_readInto 45 = .ok (.goto 9, 3) := by decide +kernel
theorem dX4_readInto_48 : decode cX4_readInto 48 = .ok (.iinc 2 1, 3) := by decide +kernel
theorem dX4_readInto_51 : decode cX4_readInto 51 = .ok (.goto (-44), 3) := by decide +kernel
theorem dX4_readInto_54 : decode cX4_readInto 54 = .ok (.iconst (-1), 1) := by decide +kernel
theorem dX4_readInto_55 : decode cX4_readInto 55 = .ok (.aload_n 0, 1) := by decide +kernel
theorem dX4_readInto_56 : decode cX4_readInto 56 = .ok (.getfield 32, 3) := by decide +kernel
theorem dX4_readInto_59 : decode cX4_readInto 59 = .ok (.isub, 1) := by decide +kernel
theorem dX4_readInto_60 : decode cX4_readInto 60 = .ok (.ireturn, 1) := by decide +kernel
theorem dX4_advance_0 : decode cX4_advance 0 = .ok (.aload_n 0, 1) := by decide +kernel
theorem dX4_advance_1 : decode cX4_advance 1 = .ok (.aload_n 0, 1) := by decide +kernel
theorem dX4_advance_2 : decode cX4_advance 2 = .ok (.getfield 19, 3) := by decide +kernel
theorem dX4_advance_5 : decode cX4_advance 5 = .ok (.putfield 32, 3) := by decide +kernel
theorem dX4_advance_8 : decode cX4_advance 8 = .ok (.aload_n 0, 1) := by decide +kernel
theorem dX4_advance_9 : decode cX4_advance 9 = .ok (.getfield 32, 3) := by decide +kernel
theorem dX4_advance_12 : decode cX4_advance 12 = .ok (.aload_n 0, 1) := by decide +kernel
theorem dX4_advance_13 : decode cX4_advance 13 = .ok (.getfield 15, 3) := by decide +kernel
theorem dX4_advance_16 : decode cX4_advance 16 = .ok (.if_icmp .ge 30, 3) := by decide +kernel
theorem dX4_advance_19 : decode cX4_advance 19 = .ok (.aload_n 0, 1) := by decide +kernel
theorem dX4_advance_20 : decode cX4_advance 20 = .ok (.getfield 11, 3) := by decide +kernel
theorem dX4_advance_23 : decode cX4_advance 23 = .ok (.aload_n 0, 1) := by decide +kernel
theorem dX4_advance_24 : decode cX4_advance 24 = .ok (.getfield 32, 3) := by decide +kernel
theorem dX4_advance_27 : decode cX4_advance 27 = .ok (.iaload, 1) := by decide +kernel
theorem dX4_advance_28 : decode cX4_advance 28 = .ok (.bipush 32, 2) := by decide +kernel
theorem dX4_advance_30 : decode cX4_advance 30 = .ok (.if_icmp .ne 16, 3) := by decide +kernel
theorem dX4_advance_33 : decode cX4_advance 33 = .ok (.aload_n 0, 1) := by decide +kernel
theorem dX4_advance_34 : decode cX4_advance 34 = .ok (.dup, 1) := by decide +kernel
theorem dX4_advance_35 : decode cX4_advance 35 = .ok (.getfield 32, 3) := by decide +kernel
theorem dX4_advance_38 : decode cX4_advance 38 = .ok (.iconst 1, 1) := by decide +kernel
theorem dX4_advance_39 : decode cX4_advance 39 = .ok (.iadd, 1) := by decide +kernel
theorem dX4_advance_40 : decode cX4_advance 40 = .ok (.putfield 32, 3) := by decide +kernel
theorem dX4_advance_43 : decode cX4_advance 43 = .ok (.goto (-35), 3) := by decide +kernel
theorem dX4_advance_46 : decode cX4_advance 46 = .ok (.aload_n 0, 1) := by decide +kernel
theorem dX4_advance_47 : decode cX4_advance 47 = .ok (.aload_n 0, 1) := by decide +kernel
theorem dX4_advance_48 : decode cX4_advance 48 = .ok (.getfield 32, 3) := by decide +kernel
theorem dX4_advance_51 : decode cX4_advance 51 = .ok (.putfield 19, 3) := by decide +kernel
theorem dX4_advance_54 : decode cX4_advance 54 = .ok (.aload_n 0, 1) := by decide +kernel
theorem dX4_advance_55 : decode cX4_advance 55 = .ok (.getfield 32, 3) := by decide +kernel
theorem dX4_advance_58 : decode cX4_advance 58 = .ok (.aload_n 0, 1) := by decide +kernel
theorem dX4_advance_59 : decode cX4_advance 59 = .ok (.getfield 15, 3) := by decide +kernel
theorem dX4_advance_62 : decode cX4_advance 62 = .ok (.if_icmp .lt 11, 3) := by decide +kernel
theorem dX4_advance_65 : decode cX4_advance 65 = .ok (.aload_n 0, 1) := by decide +kernel
theorem dX4_advance_66 : decode cX4_advance 66 = .ok (.iconst 0, 1) := by decide +kernel
theorem dX4_advance_67 : decode cX4_advance 67 = .ok (.putfield 29, 3) := by decide +kernel
theorem dX4_advance_70 : decode cX4_advance 70 = .ok (.goto 110, 3) := by decide +kernel
theorem dX4_advance_73 : decode cX4_advance 73 = .ok (.aload_n 0, 1) := by decide +kernel
theorem dX4_advance_74 : decode cX4_advance 74 = .ok (.aload_n 0, 1) := by decide +kernel
theorem dX4_advance_75 : decode cX4_advance 75 = .ok (.getfield 32, 3) := by decide +kernel
theorem dX4_advance_78 : decode cX4_advance 78 = .ok (.invokevirtual 35, 3) := by decide +kernel
theorem dX4_advance_81 : decode cX4_advance 81 = .ok (.ifCond .eq 43, 3) := by decide +kernel
theorem dX4_advance_84 : decode cX4_advance 84 = .ok (.aload_n 0, 1) := by decide +kernel
theorem dX4_advance_85 : decode cX4_advance 85 = .ok (.iconst 1, 1) := by decide +kernel
theorem dX4_advance_86 : decode cX4_advance 86 = .ok (.putfield 29, 3) := by decide +kernel
theorem dX4_advance_89 : decode cX4_advance 89 = .ok (.aload_n 0, 1) := by decide +kernel
theorem dX4_advance_90 : decode cX4_advance 90 = .ok (.getfield 19, 3) := by decide +kernel
theorem dX4_advance_93 : decode cX4_advance 93 = .ok (.aload_n 0, 1) := by decide +kernel
theorem dX4_advance_94 : decode cX4_advance 94 = .ok (.getfield 15, 3) := by decide +kernel
theorem dX4_advance_97 : decode cX4_advance 97 = .ok (.if_icmp .ge 83, 3) := by decide +kernel
theorem dX4_advance_100 : decode cX4_advance 100 = .ok (.aload_n 0, 1) := by decide +kernel
theorem dX4_advance_101 : decode cX4_advance 101 = .ok (.aload_n 0, 1) := by decide +kernel
theorem dX4_advance_102 : decode cX4_advance 102 = .ok (.getfield 19, 3) := by decide +kernel
theorem dX4_advance_105 : decode cX4_advance 105 = .ok (.invokevirtual 35, 3) := by decide +kernel
theorem dX4_advance_108 : decode cX4_advance 108 = .ok (.ifCond .eq 72, 3) := by decide +kernel
theorem dX4_advance_111 : decode cX4_advance 111 = .ok (.aload_n 0, 1) := by decide +kernel
theorem dX4_advance_112 : decode cX4_advance 112 = .ok (.dup, 1) := by decide +kernel
theorem dX4_advance_113 : decode cX4_advance 113 = .ok (.getfield 19, 3) := by decide +kernel
theorem dX4_advance_116 : decode cX4_advance 116 = .ok (.iconst 1, 1) := by decide +kernel
theorem dX4_advance_117 : decode cX4_advance 117 = .ok (.iadd, 1) := by decide +kernel
theorem dX4_advance_118 : decode cX4_advance 118 = .ok (.putfield 19, 3) := by decide +kernel
theorem dX4_advance_121 : decode cX4_advance 121 = .ok (.goto (-32), 3) := by decide +kernel
theorem dX4_advance_124 : decode cX4_advance 124 = .ok (.aload_n 0, 1) := by decide +kernel
theorem dX4_advance_125 : decode cX4_advance 125 = .ok (.aload_n 0, 1) := by decide +kernel
theorem dX4_advance_126 : decode cX4_advance 126 = .ok (.getfield 32, 3) := by decide +kernel
theorem dX4_advance_129 : decode cX4_advance 129 = .ok (.invokevirtual 39, 3) := by decide +kernel
theorem dX4_advance_132 : decode cX4_advance 132 = .ok (.ifCond .eq 15, 3) := by decide +kernel
theorem dX4_advance_135 : decode cX4_advance 135 = .ok (.aload_n 0, 1) := by decide +kernel
theorem dX4_advance_136 : decode cX4_advance 136 = .ok (.iconst 2, 1) := by decide +kernel
theorem dX4_advance_137 : decode cX4_advance 137 = .ok (.putfield 29, 3) := by decide +kernel
theorem dX4_advance_140 : decode cX4_advance 140 = .ok (.aload_n 0, 1) := by decide +kernel
theorem dX4_advance_141 : decode cX4_advance 141 = .ok (.invokevirtual 42, 3) := by decide +kernel
theorem dX4_advance_144 : decode cX4_advance 144 = .ok (.goto 36, 3) := by decide +kernel
theorem dX4_advance_147 : decode cX4_advance 147 = .ok (.aload_n 0, 1) := by decide +kernel
theorem dX4_advance_148 : decode cX4_advance 148 = .ok (.aload_n 0, 1) := by decide +kernel
theorem dX4_advance_149 : decode cX4_advance 149 = .ok (.getfield 11, 3) := by decide +kernel
theorem dX4_advance_152 : decode cX4_advance 152 = .ok (.aload_n 0, 1) := by decide +kernel
theorem dX4_advance_153 : decode cX4_advance 153 = .ok (.getfield 32, 3) := by decide +kernel
theorem dX4_advance_156 : decode cX4_advance 156 = .ok (.iaload, 1) := by decide +kernel
theorem dX4_advance_157 : decode cX4_advance 157 = .ok (.bipush 59, 2) := by decide +kernel
theorem dX4_advance_159 : decode cX4_advance 159 = .ok (.if_icmp .ne 7, 3) := by decide +kernel
theorem dX4_advance_162 : decode cX4_advance 162 = .ok (.iconst 3, 1) := by decide +kernel
theorem dX4_advance_163 : decode cX4_advance 163 = .ok (.goto 4, 3) := by decide +kernel
theorem dX4_advance_166 : decode cX4_advance 166 = .ok (.iconst 4, 1) := by decide +kernel
theorem dX4_advance_167 : decode cX4_advance 167 = .ok (.putfield 29, 3) := by decide +kernel
theorem dX4_advance_170 : decode cX4_advance 170 = .ok (.aload_n 0, 1) := by decide +kernel
theorem dX4_advance_171 : decode cX4_advance 171 = .ok (.aload_n 0, 1) := by decide +kernel
theorem dX4_advance_172 : decode cX4_advance 172 = .ok (.getfield 32, 3) := by decide +kernel
theorem dX4_advance_175 : decode cX4_advance 175 = .ok (.iconst 1, 1) := by decide +kernel
theorem dX4_advance_176 : decode cX4_advance 176 = .ok (.iadd, 1) := by decide +kernel
theorem dX4_advance_177 : decode cX4_advance 177 = .ok (.putfield 19, 3) := by decide +kernel
theorem dX4_advance_180 : decode cX4_advance 180 = .ok (.return_, 1) := by decide +kernel
