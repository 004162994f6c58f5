theorem dMod_init_0 : decode cMod_init 0 = .ok (.aload_n 0, 1) := by decide +kernel
theorem dMod_init_1 : decode cMod_init 1 = .ok (.invokespecial 1, 3) := by decide +kernel
theorem dMod_init_4 : decode cMod_init 4 = .ok (.aload_n 0, 1) := by decide +kernel
theorem dMod_init_5 : decode cMod_init 5 = .ok (.bipush 21, 2) := by decide +kernel
theorem dMod_init_7 : decode cMod_init 7 = .ok (.newarray .long, 2) := by decide +kernel
theorem dMod_init_9 : decode cMod_init 9 = .ok (.putfield 7, 3) := by decide +kernel
theorem dMod_init_12 : decode cMod_init 12 = .ok (.aload_n 0, 1) := by decide +kernel
theorem dMod_init_13 : decode cMod_init 13 = .ok (.bipush 21, 2) := by decide +kernel
theorem dMod_init_15 : decode cMod_init 15 = .ok (.newarray .long, 2) := by decide +kernel
theorem dMod_init_17 : decode cMod_init 17 = .ok (.putfield 13, 3) := by decide +kernel
theorem dMod_init_20 : decode cMod_init 20 = .ok (.aload_n 0, 1) := by decide +kernel
theorem dMod_init_21 : decode cMod_init 21 = .ok (.bipush 21, 2) := by decide +kernel
theorem dMod_init_23 : decode cMod_init 23 = .ok (.newarray .long, 2) := by decide +kernel
theorem dMod_init_25 : decode cMod_init 25 = .ok (.putfield 16, 3) := by decide +kernel
theorem dMod_init_28 : decode cMod_init 28 = .ok (.aload_n 0, 1) := by decide +kernel
theorem dMod_init_29 : decode cMod_init 29 = .ok (.bipush 21, 2) := by decide +kernel
theorem dMod_init_31 : decode cMod_init 31 = .ok (.newarray .long, 2) := by decide +kernel
theorem dMod_init_33 : decode cMod_init 33 = .ok (.putfield 19, 3) := by decide +kernel
theorem dMod_init_36 : decode cMod_init 36 = .ok (.aload_n 0, 1) := by decide +kernel
theorem dMod_init_37 : decode cMod_init 37 = .ok (.sipush 441, 3) := by decide +kernel
theorem dMod_init_40 : decode cMod_init 40 = .ok (.newarray .boolean, 2) := by decide +kernel
theorem dMod_init_42 : decode cMod_init 42 = .ok (.putfield 22, 3) := by decide +kernel
theorem dMod_init_45 : decode cMod_init 45 = .ok (.aload_n 0, 1) := by decide +kernel
theorem dMod_init_46 : decode cMod_init 46 = .ok (.bipush 21, 2) := by decide +kernel
theorem dMod_init_48 : decode cMod_init 48 = .ok (.newarray .boolean, 2) := by decide +kernel
theorem dMod_init_50 : decode cMod_init 50 = .ok (.putfield 26, 3) := by decide +kernel
theorem dMod_init_53 : decode cMod_init 53 = .ok (.aload_n 0, 1) := by decide +kernel
theorem dMod_init_54 : decode cMod_init 54 = .ok (.bipush 101, 2) := by decide +kernel
theorem dMod_init_56 : decode cMod_init 56 = .ok (.newarray .int, 2) := by decide +kernel
theorem dMod_init_58 : decode cMod_init 58 = .ok (.putfield 29, 3) := by decide +kernel
theorem dMod_init_61 : decode cMod_init 61 = .ok (.aload_n 0, 1) := by decide +kernel
theorem dMod_init_62 : decode cMod_init 62 = .ok (.bipush 101, 2) := by decide +kernel
theorem dMod_init_64 : decode cMod_init 64 = .ok (.newarray .int, 2) := by decide +kernel
theorem dMod_init_66 : decode cMod_init 66 = .ok (.putfield 33, 3) := by decide +kernel
theorem dMod_init_69 : decode cMod_init 69 = .ok (.aload_n 0, 1) := by decide +kernel
theorem dMod_init_70 : decode cMod_init 70 = .ok (.bipush 101, 2) := by decide +kernel
theorem dMod_init_72 : decode cMod_init 72 = .ok (.newarray .int, 2) := by decide +kernel
theorem dMod_init_74 : decode cMod_init 74 = .ok (.putfield 36, 3) := by decide +kernel
theorem dMod_init_77 : decode cMod_init 77 = .ok (.aload_n 0, 1) := by decide +kernel
theorem dMod_init_78 : decode cMod_init 78 = .ok (.bipush 101, 2) := by decide +kernel
theorem dMod_init_80 : decode cMod_init 80 = .ok (.newarray .boolean, 2) := by decide +kernel
theorem dMod_init_82 : decode cMod_init 82 = .ok (.putfield 39, 3) := by decide +kernel
theorem dMod_init_85 : decode cMod_init 85 = .ok (.aload_n 0, 1) := by decide +kernel
theorem dMod_init_86 : decode cMod_init 86 = .ok (.bipush 101, 2) := by decide +kernel
theorem dMod_init_88 : decode cMod_init 88 = .ok (.newarray .long, 2) := by decide +kernel
theorem dMod_init_90 : decode cMod_init 90 = .ok (.putfield 42, 3) := by decide +kernel
theorem dMod_init_93 : decode cMod_init 93 = .ok (.aload_n 0, 1) := by decide +kernel
theorem dMod_init_94 : decode cMod_init 94 = .ok (.bipush 101, 2) := by decide +kernel
theorem dMod_init_96 : decode cMod_init 96 = .ok (.newarray .long, 2) := by decide +kernel
theorem dMod_init_98 : decode cMod_init 98 = .ok (.putfield 45, 3) := by decide +kernel
theorem dMod_init_101 : decode cMod_init 101 = .ok (.aload_n 0, 1) := by decide +kernel
theorem dMod_init_102 : decode cMod_init 102 = .ok (.bipush 21, 2) := by decide +kernel
theorem dMod_init_104 : decode cMod_init 104 = .ok (.newarray .int, 2) := by decide +kernel
theorem dMod_init_106 : decode cMod_init 106 = .ok (.putfield 48, 3) := by decide +kernel
theorem dMod_init_109 : decode cMod_init 109 = .ok (.aload_n 0, 1) := by decide +kernel
theorem dMod_init_110 : decode cMod_init 110 = .ok (.bipush 21, 2) := by decide +kernel
theorem dMod_init_112 : decode cMod_init 112 = .ok (.newarray .long, 2) := by decide +kernel
theorem dMod_init_114 : decode cMod_init 114 = .ok (.putfield 51, 3) := by decide +kernel
theorem dMod_init_117 : decode cMod_init 117 = .ok (.aload_n 0, 1) := by decide +kernel
theorem dMod_init_118 : decode cMod_init 118 = .ok (.bipush 21, 2) := by decide +kernel
theorem dMod_init_120 : decode cMod_init 120 = .ok (.newarray .int, 2) := by decide +kernel
theorem dMod_init_122 : decode cMod_init 122 = .ok (.putfield 54, 3) := by decide +kernel
theorem dMod_init_125 : decode cMod_init 125 = .ok (.aload_n 0, 1) := by decide +kernel
theorem dMod_init_126 : decode cMod_init 126 = .ok (.sipush 420, 3) := by decide +kernel
theorem dMod_init_129 : decode cMod_init 129 = .ok (.newarray .long, 2) := by decide +kernel
theorem dMod_init_131 : decode cMod_init 131 = .ok (.putfield 57, 3) := by decide +kernel
theorem dMod_init_134 : decode cMod_init 134 = .ok (.aload_n 0, 1) := by decide +kernel
theorem dMod_init_135 : decode cMod_init 135 = .ok (.sipush 420, 3) := by decide +kernel
theorem dMod_init_138 : decode cMod_init 138 = .ok (.newarray .int, 2) := by decide +kernel
theorem dMod_init_140 : decode cMod_init 140 = .ok (.putfield 60, 3) := by decide +kernel
theorem dMod_init_143 : decode cMod_init 143 = .ok (.aload_n 0, 1) := by decide +kernel
theorem dMod_init_144 : decode cMod_init 144 = .ok (.bipush 21, 2) := by decide +kernel
theorem dMod_init_146 : decode cMod_init 146 = .ok (.newarray .int, 2) := by decide +kernel
theorem dMod_init_148 : decode cMod_init 148 = .ok (.putfield 63, 3) := by decide +kernel
theorem dMod_init_151 : decode cMod_init 151 = .ok (.aload_n 0, 1) := by decide +kernel
theorem dMod_init_152 : decode cMod_init 152 = .ok (.bipush 21, 2) := by decide +kernel
theorem dMod_init_154 : decode cMod_init 154 = .ok (.newarray .long, 2) := by decide +kernel
theorem dMod_init_156 : decode cMod_init 156 = .ok (.putfield 66, 3) := by decide +kernel
theorem dMod_init_159 : decode cMod_init 159 = .ok (.aload_n 0, 1) := by decide +kernel
theorem dMod_init_160 : decode cMod_init 160 = .ok (.bipush 21, 2) := by decide +kernel
theorem dMod_init_162 : decode cMod_init 162 = .ok (.newarray .boolean, 2) := by decide +kernel
theorem dMod_init_164 : decode cMod_init 164 = .ok (.putfield 69, 3) := by decide +kernel
theorem dMod_init_167 : decode cMod_init 167 = .ok (.aload_n 0, 1) := by decide +kernel
theorem dMod_init_168 : decode cMod_init 168 = .ok (.bipush 21, 2) := by decide +kernel
theorem dMod_init_170 : decode cMod_init 170 = .ok (.newarray .long, 2) := by decide +kernel
theorem dMod_init_172 : decode cMod_init 172 = .ok (.putfield 72, 3) := by decide +kernel
theorem dMod_init_175 : decode cMod_init 175 = .ok (.aload_n 0, 1) := by decide +kernel
theorem dMod_init_176 : decode cMod_init 176 = .ok (.bipush 21, 2) := by decide +kernel
theorem dMod_init_178 : decode cMod_init 178 = .ok (.newarray .int, 2) := by decide +kernel
theorem dMod_init_180 : decode cMod_init 180 = .ok (.putfield 75, 3) := by decide +kernel
theorem dMod_init_183 : decode cMod_init 183 = .ok (.aload_n 0, 1) := by decide +kernel
theorem dMod_init_184 : decode cMod_init 184 = .ok (.sipush 3000, 3) := by decide +kernel
theorem dMod_init_187 : decode cMod_init 187 = .ok (.newarray .int, 2) := by decide +kernel
theorem dMod_init_189 : decode cMod_init 189 = .ok (.putfield 78, 3) := by decide +kernel
theorem dMod_init_192 : decode cMod_init 192 = .ok (.aload_n 0, 1) := by decide +kernel
theorem dMod_init_193 : decode cMod_init 193 = .ok (.sipush 3000, 3) := by decide +kernel
theorem dMod_init_196 : decode cMod_init 196 = .ok (.newarray .int, 2) := by decide +kernel
theorem dMod_init_198 : decode cMod_init 198 = .ok (.putfield 81, 3) := by decide +kernel
theorem dMod_init_201 : decode cMod_init 201 = .ok (.aload_n 0, 1) := by decide +kernel
theorem dMod_init_202 : decode cMod_init 202 = .ok (.sipush 3000, 3) := by decide +kernel
theorem dMod_init_205 : decode cMod_init 205 = .ok (.newarray .int, 2) := by decide +kernel
theorem dMod_init_207 : decode cMod_init 207 = .ok (.putfield 84, 3) := by decide +kernel
theorem dMod_init_210 : decode cMod_init 210 = .ok (.aload_n 0, 1) := by decide +kernel
theorem dMod_init_211 : decode cMod_init 211 = .ok (.sipush 3000, 3) := by decide +kernel
theorem dMod_init_214 : decode cMod_init 214 = .ok (.newarray .int, 2) := by decide +kernel
theorem dMod_init_216 : decode cMod_init 216 = .ok (.putfield 87, 3) := by decide +kernel
theorem dMod_init_219 : decode cMod_init 219 = .ok (.aload_n 0, 1) := by decide +kernel
theorem dMod_init_220 : decode cMod_init 220 = .ok (.bipush 24, 2) := by decide +kernel
theorem dMod_init_222 : decode cMod_init 222 = .ok (.newarray .int, 2) := by decide +kernel
theorem dMod_init_224 : decode cMod_init 224 = .ok (.putfield 90, 3) := by decide +kernel
theorem dMod_init_227 : decode cMod_init 227 = .ok (.aload_n 0, 1) := by decide +kernel
theorem dMod_init_228 : decode cMod_init 228 = .ok (.bipush 24, 2) := by decide +kernel
theorem dMod_init_230 : decode cMod_init 230 = .ok (.newarray .int, 2) := by decide +kernel
theorem dMod_init_232 : decode cMod_init 232 = .ok (.putfield 93, 3) := by decide +kernel
theorem dMod_init_235 : decode cMod_init 235 = .ok (.return_, 1) := by decide +kernel
theorem dMod_thrown_0 : decode cMod_thrown 0 = .ok (.aload_n 0, 1) := by decide +kernel
theorem dMod_thrown_1 : decode cMod_thrown 1 = .ok (.getfield 96, 3) := by decide +kernel
theorem dMod_thrown_4 : decode cMod_thrown 4 = .ok (.ireturn, 1) := by decide +kernel
theorem dMod_no_0 : decode cMod_no 0 = .ok (.aload_n 0, 1) := by decide +kernel
theorem dMod_no_1 : decode cMod_no 1 = .ok (.iconst 0, 1) := by decide +kernel
theorem dMod_no_2 : decode cMod_no 2 = .ok (.putfield 96, 3) := by decide +kernel
theorem dMod_no_5 : decode cMod_no 5 = .ok (.iload_n 1, 1) := by decide +kernel
theorem dMod_no_6 : decode cMod_no 6 = .ok (.iconst 1, 1) := by decide +kernel
theorem dMod_no_7 : decode cMod_no 7 = .ok (.if_icmp .lt 11, 3) := by decide +kernel
theorem dMod_no_10 : decode cMod_no 10 = .ok (.iload_n 1, 1) := by decide +kernel
theorem dMod_no_11 : decode cMod_no 11 = .ok (.aload_n 0, 1) := by decide +kernel
theorem dMod_no_12 : decode cMod_no 12 = .ok (.getfield 100, 3) := by decide +kernel
theorem dMod_no_15 : decode cMod_no 15 = .ok (.if_icmp .le 7, 3) := by decide +kernel
theorem dMod_no_18 : decode cMod_no 18 = .ok (.iconst 1, 1) := by decide +kernel
theorem dMod_no_19 : decode cMod_no 19 = .ok (.goto 4, 3) := by decide +kernel
theorem dMod_no_22 : decode cMod_no 22 = .ok (.iconst 0, 1) := by decide +kernel
theorem dMod_no_23 : decode cMod_no 23 = .ok (.ireturn, 1) := by decide +kernel
theorem dMod_noAlarm_0 : decode cMod_noAlarm 0 = .ok (.iload_n 1, 1) := by decide +kernel
theorem dMod_noAlarm_1 : decode cMod_noAlarm 1 = .ok (.iconst 1, 1) := by decide +kernel
theorem dMod_noAlarm_2 : decode cMod_noAlarm 2 = .ok (.if_icmp .lt 11, 3) := by decide +kernel
theorem dMod_noAlarm_5 : decode cMod_noAlarm 5 = .ok (.iload_n 1, 1) := by decide +kernel
theorem dMod_noAlarm_6 : decode cMod_noAlarm 6 = .ok (.aload_n 0, 1) := by decide +kernel
theorem dMod_noAlarm_7 : decode cMod_noAlarm 7 = .ok (.getfield 103, 3) := by decide +kernel
theorem dMod_noAlarm_10 : decode cMod_noAlarm 10 = .ok (.if_icmp .le 7, 3) := by decide +kernel
theorem dMod_noAlarm_13 : decode cMod_noAlarm 13 = .ok (.iconst 1, 1) := by decide +kernel
theorem dMod_noAlarm_14 : decode cMod_noAlarm 14 = .ok (.goto 4, 3) := by decide +kernel
theorem dMod_noAlarm_17 : decode cMod_noAlarm 17 = .ok (.iconst 0, 1) := by decide +kernel
theorem dMod_noAlarm_18 : decode cMod_noAlarm 18 = .ok (.ireturn, 1) := by decide +kernel
theorem dMod_noTable_0 : decode cMod_noTable 0 = .ok (.aload_n 0, 1) := by decide +kernel
theorem dMod_noTable_1 : decode cMod_noTable 1 = .ok (.iconst 0, 1) := by decide +kernel
theorem dMod_noTable_2 : decode cMod_noTable 2 = .ok (.putfield 96, 3) := by decide +kernel
theorem dMod_noTable_5 : decode cMod_noTable 5 = .ok (.iload_n 1, 1) := by decide +kernel
theorem dMod_noTable_6 : decode cMod_noTable 6 = .ok (.iconst 1, 1) := by decide +kernel
theorem dMod_noTable_7 : decode cMod_noTable 7 = .ok (.if_icmp .lt 11, 3) := by decide +kernel
theorem dMod_noTable_10 : decode cMod_noTable 10 = .ok (.iload_n 1, 1) := by decide +kernel
theorem dMod_noTable_11 : decode cMod_noTable 11 = .ok (.aload_n 0, 1) := by decide +kernel
theorem dMod_noTable_12 : decode cMod_noTable 12 = .ok (.getfield 106, 3) := by decide +kernel
theorem dMod_noTable_15 : decode cMod_noTable 15 = .ok (.if_icmp .le 7, 3) := by decide +kernel
theorem dMod_noTable_18 : decode cMod_noTable 18 = .ok (.iconst 1, 1) := by decide +kernel
theorem dMod_noTable_19 : decode cMod_noTable 19 = .ok (.goto 4, 3) := by decide +kernel
theorem dMod_noTable_22 : decode cMod_noTable 22 = .ok (.iconst 0, 1) := by decide +kernel
theorem dMod_noTable_23 : decode cMod_noTable 23 = .ok (.ireturn, 1) := by decide +kernel
theorem dMod_counter_0 : decode cMod_counter 0 = .ok (.aload_n 0, 1) := by decide +kernel
theorem dMod_counter_1 : decode cMod_counter 1 = .ok (.iconst 0, 1) := by decide +kernel
theorem dMod_counter_2 : decode cMod_counter 2 = .ok (.putfield 96, 3) := by decide +kernel
theorem dMod_counter_5 : decode cMod_counter 5 = .ok (.lload_n 1, 1) := by decide +kernel
theorem dMod_counter_6 : decode cMod_counter 6 = .ok (.lconst 0, 1) := by decide +kernel
theorem dMod_counter_7 : decode cMod_counter 7 = .ok (.lcmp, 1) := by decide +kernel
theorem dMod_counter_8 : decode cMod_counter 8 = .ok (.ifCond .lt 25, 3) := by decide +kernel
theorem dMod_counter_11 : decode cMod_counter 11 = .ok (.lload_n 1, 1) := by decide +kernel
theorem dMod_counter_12 : decode cMod_counter 12 = .ok (.ldc2_w 109, 3) := by decide +kernel
theorem dMod_counter_15 : decode cMod_counter 15 = .ok (.lcmp, 1) := by decide +kernel
theorem dMod_counter_16 : decode cMod_counter 16 = .ok (.ifCond .gt 17, 3) := by decide +kernel
theorem dMod_counter_19 : decode cMod_counter 19 = .ok (.lload_n 3, 1) := by decide +kernel
theorem dMod_counter_20 : decode cMod_counter 20 = .ok (.lconst 1, 1) := by decide +kernel
theorem dMod_counter_21 : decode cMod_counter 21 = .ok (.lcmp, 1) := by decide +kernel
theorem dMod_counter_22 : decode cMod_counter 22 = .ok (.ifCond .lt 11, 3) := by decide +kernel
theorem dMod_counter_25 : decode cMod_counter 25 = .ok (.lload_n 3, 1) := by decide +kernel
theorem dMod_counter_26 : decode cMod_counter 26 = .ok (.ldc2_w 111, 3) := by decide +kernel
theorem dMod_counter_29 : decode cMod_counter 29 = .ok (.lcmp, 1) := by decide +kernel
theorem dMod_counter_30 : decode cMod_counter 30 = .ok (.ifCond .le 6, 3) := by decide +kernel
theorem dMod_counter_33 : decode cMod_counter 33 = .ok (.bipush (-2), 2) := by decide +kernel
theorem dMod_counter_35 : decode cMod_counter 35 = .ok (.ireturn, 1) := by decide +kernel
theorem dMod_counter_36 : decode cMod_counter 36 = .ok (.aload_n 0, 1) := by decide +kernel
theorem dMod_counter_37 : decode cMod_counter 37 = .ok (.getfield 100, 3) := by decide +kernel
theorem dMod_counter_40 : decode cMod_counter 40 = .ok (.bipush 20, 2) := by decide +kernel
theorem dMod_counter_42 : decode cMod_counter 42 = .ok (.if_icmp .ne 6, 3) := by decide +kernel
theorem dMod_counter_45 : decode cMod_counter 45 = .ok (.bipush (-4), 2) := by decide +kernel
theorem dMod_counter_47 : decode cMod_counter 47 = .ok (.ireturn, 1) := by decide +kernel
theorem dMod_counter_48 : decode cMod_counter 48 = .ok (.aload_n 0, 1) := by decide +kernel
theorem dMod_counter_49 : decode cMod_counter 49 = .ok (.lload_n 1, 1) := by decide +kernel
theorem dMod_counter_50 : decode cMod_counter 50 = .ok (.lconst 0, 1) := by decide +kernel
theorem dMod_counter_51 : decode cMod_counter 51 = .ok (.lcmp, 1) := by decide +kernel
theorem dMod_counter_52 : decode cMod_counter 52 = .ok (.ifCond .ne 7, 3) := by decide +kernel
theorem dMod_counter_55 : decode cMod_counter 55 = .ok (.iconst 1, 1) := by decide +kernel
theorem dMod_counter_56 : decode cMod_counter 56 = .ok (.goto 4, 3) := by decide +kernel
theorem dMod_counter_59 : decode cMod_counter 59 = .ok (.iconst 0, 1) := by decide +kernel
theorem dMod_counter_60 : decode cMod_counter 60 = .ok (.putfield 96, 3) := by decide +kernel
theorem dMod_counter_63 : decode cMod_counter 63 = .ok (.aload_n 0, 1) := by decide +kernel
theorem dMod_counter_64 : decode cMod_counter 64 = .ok (.getfield 96, 3) := by decide +kernel
theorem dMod_counter_67 : decode cMod_counter 67 = .ok (.ifCond .le 5, 3) := by decide +kernel
theorem dMod_counter_70 : decode cMod_counter 70 = .ok (.iconst 0, 1) := by decide +kernel
theorem dMod_counter_71 : decode cMod_counter 71 = .ok (.ireturn, 1) := by decide +kernel
theorem dMod_counter_72 : decode cMod_counter 72 = .ok (.aload_n 0, 1) := by decide +kernel
theorem dMod_counter_73 : decode cMod_counter 73 = .ok (.dup, 1) := by decide +kernel
theorem dMod_counter_74 : decode cMod_counter 74 = .ok (.getfield 100, 3) := by decide +kernel
theorem dMod_counter_77 : decode cMod_counter 77 = .ok (.iconst 1, 1) := by decide +kernel
theorem dMod_counter_78 : decode cMod_counter 78 = .ok (.iadd, 1) := by decide +kernel
theorem dMod_counter_79 : decode cMod_counter 79 = .ok (.putfield 100, 3) := by decide +kernel
theorem dMod_counter_82 : decode cMod_counter 82 = .ok (.aload_n 0, 1) := by decide +kernel
theorem dMod_counter_83 : decode cMod_counter 83 = .ok (.getfield 7, 3) := by decide +kernel
theorem dMod_counter_86 : decode cMod_counter 86 = .ok (.aload_n 0, 1) := by decide +kernel
theorem dMod_counter_87 : decode cMod_counter 87 = .ok (.getfield 100, 3) := by decide +kernel
theorem dMod_counter_90 : decode cMod_counter 90 = .ok (.lload_n 1, 1) := by decide +kernel
theorem dMod_counter_91 : decode cMod_counter 91 = .ok (.lastore, 1) := by decide +kernel
theorem dMod_counter_92 : decode cMod_counter 92 = .ok (.aload_n 0, 1) := by decide +kernel
theorem dMod_counter_93 : decode cMod_counter 93 = .ok (.getfield 13, 3) := by decide +kernel
theorem dMod_counter_96 : decode cMod_counter 96 = .ok (.aload_n 0, 1) := by decide +kernel
theorem dMod_counter_97 : decode cMod_counter 97 = .ok (.getfield 100, 3) := by decide +kernel
theorem dMod_counter_100 : decode cMod_counter 100 = .ok (.lload_n 3, 1) := by decide +kernel
theorem dMod_counter_101 : decode cMod_counter 101 = .ok (.lastore, 1) := by decide +kernel
theorem dMod_counter_102 : decode cMod_counter 102 = .ok (.aload_n 0, 1) := by decide +kernel
theorem dMod_counter_103 : decode cMod_counter 103 = .ok (.getfield 100, 3) := by decide +kernel
theorem dMod_counter_106 : decode cMod_counter 106 = .ok (.ireturn, 1) := by decide +kernel
theorem dMod_leadsTo_0 : decode cMod_leadsTo 0 = .ok (.iconst 0, 1) := by decide +kernel
theorem dMod_leadsTo_1 : decode cMod_leadsTo 1 = .ok (.istore_n 3, 1) := by decide +kernel
theorem dMod_leadsTo_2 : decode cMod_leadsTo 2 = .ok (.iload_n 3, 1) := by decide +kernel
theorem dMod_leadsTo_3 : decode cMod_leadsTo 3 = .ok (.bipush 21, 2) := by decide +kernel
theorem dMod_leadsTo_5 : decode cMod_leadsTo 5 = .ok (.if_icmp .ge 25, 3) := by decide +kernel
theorem dMod_leadsTo_8 : decode cMod_leadsTo 8 = .ok (.aload_n 0, 1) := by decide +kernel
theorem dMod_leadsTo_9 : decode cMod_leadsTo 9 = .ok (.getfield 26, 3) := by decide +kernel
theorem dMod_leadsTo_12 : decode cMod_leadsTo 12 = .ok (.iload_n 3, 1) := by decide +kernel
theorem dMod_leadsTo_13 : decode cMod_leadsTo 13 = .ok (.iload_n 3, 1) := by decide +kernel
theorem dMod_leadsTo_14 : decode cMod_leadsTo 14 = .ok (.iload_n 1, 1) := by decide +kernel
theorem dMod_leadsTo_15 : decode cMod_leadsTo 15 = .ok (.if_icmp .ne 7, 3) := by decide +kernel
theorem dMod_leadsTo_18 : decode cMod_leadsTo 18 = .ok (.iconst 1, 1) := by decide +kernel
theorem dMod_leadsTo_19 : decode cMod_leadsTo 19 = .ok (.goto 4, 3) := by decide +kernel
theorem dMod_leadsTo_22 : decode cMod_leadsTo 22 = .ok (.iconst 0, 1) := by decide +kernel
theorem dMod_leadsTo_23 : decode cMod_leadsTo 23 = .ok (.bastore, 1) := by decide +kernel
theorem dMod_leadsTo_24 : decode cMod_leadsTo 24 = .ok (.iinc 3 1, 3) := by decide +kernel
theorem dMod_leadsTo_27 : decode cMod_leadsTo 27 = .ok (.goto (-25), 3) := by decide +kernel
theorem dMod_leadsTo_30 : decode cMod_leadsTo 30 = .ok (.iconst 0, 1) := by decide +kernel
theorem dMod_leadsTo_31 : decode cMod_leadsTo 31 = .ok (.istore_n 3, 1) := by decide +kernel
theorem dMod_leadsTo_32 : decode cMod_leadsTo 32 = .ok (.iload_n 3, 1) := by decide +kernel
theorem dMod_leadsTo_33 : decode cMod_leadsTo 33 = .ok (.bipush 20, 2) := by decide +kernel
theorem dMod_leadsTo_35 : decode cMod_leadsTo 35 = .ok (.if_icmp .ge 75, 3) := by decide +kernel
theorem dMod_leadsTo_38 : decode cMod_leadsTo 38 = .ok (.iconst 1, 1) := by decide +kernel
theorem dMod_leadsTo_39 : decode cMod_leadsTo 39 = .ok (.istore 4, 2) := by decide +kernel
theorem dMod_leadsTo_41 : decode cMod_leadsTo 41 = .ok (.iload 4, 2) := by decide +kernel
theorem dMod_leadsTo_43 : decode cMod_leadsTo 43 = .ok (.bipush 21, 2) := by decide +kernel
theorem dMod_leadsTo_45 : decode cMod_leadsTo 45 = .ok (.if_icmp .ge 59, 3) := by decide +kernel
theorem dMod_leadsTo_48 : decode cMod_leadsTo 48 = .ok (.iconst 1, 1) := by decide +kernel
theorem dMod_leadsTo_49 : decode cMod_leadsTo 49 = .ok (.istore 5, 2) := by decide +kernel
theorem dMod_leadsTo_51 : decode cMod_leadsTo 51 = .ok (.iload 5, 2) := by decide +kernel
theorem dMod_leadsTo_53 : decode cMod_leadsTo 53 = .ok (.bipush 21, 2) := by decide +kernel
theorem dMod_leadsTo_55 : decode cMod_leadsTo 55 = .ok (.if_icmp .ge 43, 3) := by decide +kernel
theorem dMod_leadsTo_58 : decode cMod_leadsTo 58 = .ok (.aload_n 0, 1) := by decide +kernel
theorem dMod_leadsTo_59 : decode cMod_leadsTo 59 = .ok (.getfield 26, 3) := by decide +kernel
theorem dMod_leadsTo_62 : decode cMod_leadsTo 62 = .ok (.iload 4, 2) := by decide +kernel
theorem dMod_leadsTo_64 : decode cMod_leadsTo 64 = .ok (.baload, 1) := by decide +kernel
theorem dMod_leadsTo_65 : decode cMod_leadsTo 65 = .ok (.ifCond .eq 27, 3) := by decide +kernel
theorem dMod_leadsTo_68 : decode cMod_leadsTo 68 = .ok (.aload_n 0, 1) := by decide +kernel
theorem dMod_leadsTo_69 : decode cMod_leadsTo 69 = .ok (.getfield 22, 3) := by decide +kernel
theorem dMod_leadsTo_72 : decode cMod_leadsTo 72 = .ok (.bipush 21, 2) := by decide +kernel
theorem dMod_leadsTo_74 : decode cMod_leadsTo 74 = .ok (.iload 4, 2) := by decide +kernel
theorem dMod_leadsTo_76 : decode cMod_leadsTo 76 = .ok (.imul, 1) := by decide +kernel
theorem dMod_leadsTo_77 : decode cMod_leadsTo 77 = .ok (.iload 5, 2) := by decide +kernel
theorem dMod_leadsTo_79 : decode cMod_leadsTo 79 = .ok (.iadd, 1) := by decide +kernel
theorem dMod_leadsTo_80 : decode cMod_leadsTo 80 = .ok (.baload, 1) := by decide +kernel
theorem dMod_leadsTo_81 : decode cMod_leadsTo 81 = .ok (.ifCond .eq 11, 3) := by decide +kernel
theorem dMod_leadsTo_84 : decode cMod_leadsTo 84 = .ok (.aload_n 0, 1) := by decide +kernel
theorem dMod_leadsTo_85 : decode cMod_leadsTo 85 = .ok (.getfield 26, 3) := by decide +kernel
theorem dMod_leadsTo_88 : decode cMod_leadsTo 88 = .ok (.iload 5, 2) := by decide +kernel
theorem dMod_leadsTo_90 : decode cMod_leadsTo 90 = .ok (.iconst 1, 1) := by decide +kernel
theorem dMod_leadsTo_91 : decode cMod_leadsTo 91 = .ok (.bastore, 1) := by decide +kernel
theorem dMod_leadsTo_92 : decode cMod_leadsTo 92 = .ok (.iinc 5 1, 3) := by decide +kernel
theorem dMod_leadsTo_95 : decode cMod_leadsTo 95 = .ok (.goto (-44), 3) := by decide +kernel
theorem dMod_leadsTo_98 : decode cMod_leadsTo 98 = .ok (.iinc 4 1, 3) := by decide +kernel
theorem dMod_leadsTo_101 : decode cMod_leadsTo 101 = .ok (.goto (-60), 3) := by decide +kernel
theorem dMod_leadsTo_104 : decode cMod_leadsTo 104 = .ok (.iinc 3 1, 3) := by decide +kernel
theorem dMod_leadsTo_107 : decode cMod_leadsTo 107 = .ok (.goto (-75), 3) := by decide +kernel
theorem dMod_leadsTo_110 : decode cMod_leadsTo 110 = .ok (.aload_n 0, 1) := by decide +kernel
theorem dMod_leadsTo_111 : decode cMod_leadsTo 111 = .ok (.getfield 26, 3) := by decide +kernel
theorem dMod_leadsTo_114 : decode cMod_leadsTo 114 = .ok (.iload_n 2, 1) := by decide +kernel
theorem dMod_leadsTo_115 : decode cMod_leadsTo 115 = .ok (.baload, 1) := by decide +kernel
theorem dMod_leadsTo_116 : decode cMod_leadsTo 116 = .ok (.ireturn, 1) := by decide +kernel
theorem dMod_alarm_0 : decode cMod_alarm 0 = .ok (.aload_n 0, 1) := by decide +kernel
theorem dMod_alarm_1 : decode cMod_alarm 1 = .ok (.iload_n 1, 1) := by decide +kernel
theorem dMod_alarm_2 : decode cMod_alarm 2 = .ok (.invokevirtual 113, 3) := by decide +kernel
theorem dMod_alarm_5 : decode cMod_alarm 5 = .ok (.ifCond .ne 42, 3) := by decide +kernel
theorem dMod_alarm_8 : decode cMod_alarm 8 = .ok (.iload_n 2, 1) := by decide +kernel
theorem dMod_alarm_9 : decode cMod_alarm 9 = .ok (.ifCond .ne 7, 3) := by decide +kernel
theorem dMod_alarm_12 : decode cMod_alarm 12 = .ok (.iload_n 3, 1) := by decide +kernel
theorem dMod_alarm_13 : decode cMod_alarm 13 = .ok (.ifCond .ne 34, 3) := by decide +kernel
theorem dMod_alarm_16 : decode cMod_alarm 16 = .ok (.iload_n 2, 1) := by decide +kernel
theorem dMod_alarm_17 : decode cMod_alarm 17 = .ok (.iconst 1, 1) := by decide +kernel
theorem dMod_alarm_18 : decode cMod_alarm 18 = .ok (.if_icmp .ne 16, 3) := by decide +kernel
theorem dMod_alarm_21 : decode cMod_alarm 21 = .ok (.iload_n 3, 1) := by decide +kernel
theorem dMod_alarm_22 : decode cMod_alarm 22 = .ok (.iconst 1, 1) := by decide +kernel
theorem dMod_alarm_23 : decode cMod_alarm 23 = .ok (.if_icmp .lt 24, 3) := by decide +kernel
theorem dMod_alarm_26 : decode cMod_alarm 26 = .ok (.iload_n 3, 1) := by decide +kernel
theorem dMod_alarm_27 : decode cMod_alarm 27 = .ok (.aload_n 0, 1) := by decide +kernel
theorem dMod_alarm_28 : decode cMod_alarm 28 = .ok (.getfield 100, 3) := by decide +kernel
theorem dMod_alarm_31 : decode cMod_alarm 31 = .ok (.if_icmp .gt 16, 3) := by decide +kernel
theorem dMod_alarm_34 : decode cMod_alarm 34 = .ok (.iload_n 2, 1) := by decide +kernel
theorem dMod_alarm_35 : decode cMod_alarm 35 = .ok (.iconst 2, 1) := by decide +kernel
theorem dMod_alarm_36 : decode cMod_alarm 36 = .ok (.if_icmp .ne 13, 3) := by decide +kernel
theorem dMod_alarm_39 : decode cMod_alarm 39 = .ok (.aload_n 0, 1) := by decide +kernel
theorem dMod_alarm_40 : decode cMod_alarm 40 = .ok (.iload_n 3, 1) := by decide +kernel
theorem dMod_alarm_41 : decode cMod_alarm 41 = .ok (.invokevirtual 117, 3) := by decide +kernel
theorem dMod_alarm_44 : decode cMod_alarm 44 = .ok (.ifCond .eq 5, 3) := by decide +kernel
theorem dMod_alarm_47 : decode cMod_alarm 47 = .ok (.iconst (-1), 1) := by decide +kernel
theorem dMod_alarm_48 : decode cMod_alarm 48 = .ok (.ireturn, 1) := by decide +kernel
theorem dMod_alarm_49 : decode cMod_alarm 49 = .ok (.iload_n 2, 1) := by decide +kernel
theorem dMod_alarm_50 : decode cMod_alarm 50 = .ok (.ifCond .lt 8, 3) := by decide +kernel
theorem dMod_alarm_53 : decode cMod_alarm 53 = .ok (.iload_n 2, 1) := by decide +kernel
theorem dMod_alarm_54 : decode cMod_alarm 54 = .ok (.iconst 2, 1) := by decide +kernel
theorem dMod_alarm_55 : decode cMod_alarm 55 = .ok (.if_icmp .le 6, 3) := by decide +kernel
theorem dMod_alarm_58 : decode cMod_alarm 58 = .ok (.bipush (-2), 2) := by decide +kernel
theorem dMod_alarm_60 : decode cMod_alarm 60 = .ok (.ireturn, 1) := by decide +kernel
theorem dMod_alarm_61 : decode cMod_alarm 61 = .ok (.iload_n 2, 1) := by decide +kernel
theorem dMod_alarm_62 : decode cMod_alarm 62 = .ok (.iconst 1, 1) := by decide +kernel
theorem dMod_alarm_63 : decode cMod_alarm 63 = .ok (.if_icmp .ne 15, 3) := by decide +kernel
theorem dMod_alarm_66 : decode cMod_alarm 66 = .ok (.aload_n 0, 1) := by decide +kernel
theorem dMod_alarm_67 : decode cMod_alarm 67 = .ok (.iload_n 3, 1) := by decide +kernel
theorem dMod_alarm_68 : decode cMod_alarm 68 = .ok (.iload_n 1, 1) := by decide +kernel
theorem dMod_alarm_69 : decode cMod_alarm 69 = .ok (.invokevirtual 120, 3) := by decide +kernel
theorem dMod_alarm_72 : decode cMod_alarm 72 = .ok (.ifCond .eq 6, 3) := by decide +kernel
theorem dMod_alarm_75 : decode cMod_alarm 75 = .ok (.bipush (-3), 2) := by decide +kernel
theorem dMod_alarm_77 : decode cMod_alarm 77 = .ok (.ireturn, 1) := by decide +kernel
theorem dMod_alarm_78 : decode cMod_alarm 78 = .ok (.aload_n 0, 1) := by decide +kernel
theorem dMod_alarm_79 : decode cMod_alarm 79 = .ok (.getfield 103, 3) := by decide +kernel
theorem dMod_alarm_82 : decode cMod_alarm 82 = .ok (.bipush 100, 2) := by decide +kernel
theorem dMod_alarm_84 : decode cMod_alarm 84 = .ok (.if_icmp .ne 6, 3) := by decide +kernel
theorem dMod_alarm_87 : decode cMod_alarm 87 = .ok (.bipush (-4), 2) := by decide +kernel
theorem dMod_alarm_89 : decode cMod_alarm 89 = .ok (.ireturn, 1) := by decide +kernel
theorem dMod_alarm_90 : decode cMod_alarm 90 = .ok (.iload_n 2, 1) := by decide +kernel
theorem dMod_alarm_91 : decode cMod_alarm 91 = .ok (.iconst 1, 1) := by decide +kernel
theorem dMod_alarm_92 : decode cMod_alarm 92 = .ok (.if_icmp .ne 15, 3) := by decide +kernel
theorem dMod_alarm_95 : decode cMod_alarm 95 = .ok (.aload_n 0, 1) := by decide +kernel
theorem dMod_alarm_96 : decode cMod_alarm 96 = .ok (.getfield 22, 3) := by decide +kernel
theorem dMod_alarm_99 : decode cMod_alarm 99 = .ok (.bipush 21, 2) := by decide +kernel
theorem dMod_alarm_101 : decode cMod_alarm 101 = .ok (.iload_n 1, 1) := by decide +kernel
theorem dMod_alarm_102 : decode cMod_alarm 102 = .ok (.imul, 1) := by decide +kernel
theorem dMod_alarm_103 : decode cMod_alarm 103 = .ok (.iload_n 3, 1) := by decide +kernel
theorem dMod_alarm_104 : decode cMod_alarm 104 = .ok (.iadd, 1) := by decide +kernel
theorem dMod_alarm_105 : decode cMod_alarm 105 = .ok (.iconst 1, 1) := by decide +kernel
theorem dMod_alarm_106 : decode cMod_alarm 106 = .ok (.bastore, 1) := by decide +kernel
theorem dMod_alarm_107 : decode cMod_alarm 107 = .ok (.aload_n 0, 1) := by decide +kernel
theorem dMod_alarm_108 : decode cMod_alarm 108 = .ok (.dup, 1) := by decide +kernel
theorem dMod_alarm_109 : decode cMod_alarm 109 = .ok (.getfield 103, 3) := by decide +kernel
theorem dMod_alarm_112 : decode cMod_alarm 112 = .ok (.iconst 1, 1) := by decide +kernel
theorem dMod_alarm_113 : decode cMod_alarm 113 = .ok (.iadd, 1) := by decide +kernel
theorem dMod_alarm_114 : decode cMod_alarm 114 = .ok (.putfield 103, 3) := by decide +kernel
theorem dMod_alarm_117 : decode cMod_alarm 117 = .ok (.aload_n 0, 1) := by decide +kernel
theorem dMod_alarm_118 : decode cMod_alarm 118 = .ok (.getfield 29, 3) := by decide +kernel
theorem dMod_alarm_121 : decode cMod_alarm 121 = .ok (.aload_n 0, 1) := by decide +kernel
theorem dMod_alarm_122 : decode cMod_alarm 122 = .ok (.getfield 103, 3) := by decide +kernel
theorem dMod_alarm_125 : decode cMod_alarm 125 = .ok (.iload_n 1, 1) := by decide +kernel
theorem dMod_alarm_126 : decode cMod_alarm 126 = .ok (.iastore, 1) := by decide +kernel
theorem dMod_alarm_127 : decode cMod_alarm 127 = .ok (.aload_n 0, 1) := by decide +kernel
theorem dMod_alarm_128 : decode cMod_alarm 128 = .ok (.getfield 33, 3) := by decide +kernel
theorem dMod_alarm_131 : decode cMod_alarm 131 = .ok (.aload_n 0, 1) := by decide +kernel
theorem dMod_alarm_132 : decode cMod_alarm 132 = .ok (.getfield 103, 3) := by decide +kernel
theorem dMod_alarm_135 : decode cMod_alarm 135 = .ok (.iload_n 2, 1) := by decide +kernel
theorem dMod_alarm_136 : decode cMod_alarm 136 = .ok (.iastore, 1) := by decide +kernel
theorem dMod_alarm_137 : decode cMod_alarm 137 = .ok (.aload_n 0, 1) := by decide +kernel
theorem dMod_alarm_138 : decode cMod_alarm 138 = .ok (.getfield 36, 3) := by decide +kernel
theorem dMod_alarm_141 : decode cMod_alarm 141 = .ok (.aload_n 0, 1) := by decide +kernel
theorem dMod_alarm_142 : decode cMod_alarm 142 = .ok (.getfield 103, 3) := by decide +kernel
theorem dMod_alarm_145 : decode cMod_alarm 145 = .ok (.iload_n 3, 1) := by decide +kernel
theorem dMod_alarm_146 : decode cMod_alarm 146 = .ok (.iastore, 1) := by decide +kernel
theorem dMod_alarm_147 : decode cMod_alarm 147 = .ok (.aload_n 0, 1) := by decide +kernel
theorem dMod_alarm_148 : decode cMod_alarm 148 = .ok (.getfield 103, 3) := by decide +kernel
theorem dMod_alarm_151 : decode cMod_alarm 151 = .ok (.ireturn, 1) := by decide +kernel
theorem dMod_set_0 : decode cMod_set 0 = .ok (.aload_n 0, 1) := by decide +kernel
theorem dMod_set_1 : decode cMod_set 1 = .ok (.iconst 0, 1) := by decide +kernel
theorem dMod_set_2 : decode cMod_set 2 = .ok (.putfield 96, 3) := by decide +kernel
theorem dMod_set_5 : decode cMod_set 5 = .ok (.aload_n 0, 1) := by decide +kernel
theorem dMod_set_6 : decode cMod_set 6 = .ok (.iload_n 1, 1) := by decide +kernel
theorem dMod_set_7 : decode cMod_set 7 = .ok (.invokevirtual 117, 3) := by decide +kernel
theorem dMod_set_10 : decode cMod_set 10 = .ok (.ifCond .eq 5, 3) := by decide +kernel
theorem dMod_set_13 : decode cMod_set 13 = .ok (.iconst (-1), 1) := by decide +kernel
theorem dMod_set_14 : decode cMod_set 14 = .ok (.ireturn, 1) := by decide +kernel
theorem dMod_set_15 : decode cMod_set 15 = .ok (.aload_n 0, 1) := by decide +kernel
theorem dMod_set_16 : decode cMod_set 16 = .ok (.getfield 29, 3) := by decide +kernel
theorem dMod_set_19 : decode cMod_set 19 = .ok (.iload_n 1, 1) := by decide +kernel
theorem dMod_set_20 : decode cMod_set 20 = .ok (.iaload, 1) := by decide +kernel
theorem dMod_set_21 : decode cMod_set 21 = .ok (.istore 7, 2) := by decide +kernel
theorem dMod_set_23 : decode cMod_set 23 = .ok (.aload_n 0, 1) := by decide +kernel
theorem dMod_set_24 : decode cMod_set 24 = .ok (.getfield 39, 3) := by decide +kernel
theorem dMod_set_27 : decode cMod_set 27 = .ok (.iload_n 1, 1) := by decide +kernel
theorem dMod_set_28 : decode cMod_set 28 = .ok (.baload, 1) := by decide +kernel
theorem dMod_set_29 : decode cMod_set 29 = .ok (.ifCond .eq 5, 3) := by decide +kernel
theorem dMod_set_32 : decode cMod_set 32 = .ok (.iconst 2, 1) := by decide +kernel
theorem dMod_set_33 : decode cMod_set 33 = .ok (.ireturn, 1) := by decide +kernel
theorem dMod_set_34 : decode cMod_set 34 = .ok (.lload_n 2, 1) := by decide +kernel
theorem dMod_set_35 : decode cMod_set 35 = .ok (.iload 6, 2) := by decide +kernel
theorem dMod_set_37 : decode cMod_set 37 = .ok (.ifCond .eq 7, 3) := by decide +kernel
theorem dMod_set_40 : decode cMod_set 40 = .ok (.lconst 0, 1) := by decide +kernel
theorem dMod_set_41 : decode cMod_set 41 = .ok (.goto 4, 3) := by decide +kernel
theorem dMod_set_44 : decode cMod_set 44 = .ok (.lconst 1, 1) := by decide +kernel
theorem dMod_set_45 : decode cMod_set 45 = .ok (.lcmp, 1) := by decide +kernel
theorem dMod_set_46 : decode cMod_set 46 = .ok (.ifCond .lt 17, 3) := by decide +kernel
theorem dMod_set_49 : decode cMod_set 49 = .ok (.lload_n 2, 1) := by decide +kernel
theorem dMod_set_50 : decode cMod_set 50 = .ok (.aload_n 0, 1) := by decide +kernel
theorem dMod_set_51 : decode cMod_set 51 = .ok (.getfield 7, 3) := by decide +kernel
theorem dMod_set_54 : decode cMod_set 54 = .ok (.iload 7, 2) := by decide +kernel
theorem dMod_set_56 : decode cMod_set 56 = .ok (.laload, 1) := by decide +kernel
theorem dMod_set_57 : decode cMod_set 57 = .ok (.lconst 1, 1) := by decide +kernel
theorem dMod_set_58 : decode cMod_set 58 = .ok (.lsub, 1) := by decide +kernel
theorem dMod_set_59 : decode cMod_set 59 = .ok (.lcmp, 1) := by decide +kernel
theorem dMod_set_60 : decode cMod_set 60 = .ok (.ifCond .le 5, 3) := by decide +kernel
theorem dMod_set_63 : decode cMod_set 63 = .ok (.iconst 3, 1) := by decide +kernel
theorem dMod_set_64 : decode cMod_set 64 = .ok (.ireturn, 1) := by decide +kernel
theorem dMod_set_65 : decode cMod_set 65 = .ok (.lload 4, 2) := by decide +kernel
theorem dMod_set_67 : decode cMod_set 67 = .ok (.lconst 0, 1) := by decide +kernel
theorem dMod_set_68 : decode cMod_set 68 = .ok (.lcmp, 1) := by decide +kernel
theorem dMod_set_69 : decode cMod_set 69 = .ok (.ifCond .eq 27, 3) := by decide +kernel
theorem dMod_set_72 : decode cMod_set 72 = .ok (.lload 4, 2) := by decide +kernel
theorem dMod_set_74 : decode cMod_set 74 = .ok (.ldc2_w 124, 3) := by decide +kernel
theorem dMod_set_77 : decode cMod_set 77 = .ok (.lcmp, 1) := by decide +kernel
theorem dMod_set_78 : decode cMod_set 78 = .ok (.ifCond .lt 16, 3) := by decide +kernel
theorem dMod_set_81 : decode cMod_set 81 = .ok (.lload 4, 2) := by decide +kernel
theorem dMod_set_83 : decode cMod_set 83 = .ok (.aload_n 0, 1) := by decide +kernel
theorem dMod_set_84 : decode cMod_set 84 = .ok (.getfield 7, 3) := by decide +kernel
theorem dMod_set_87 : decode cMod_set 87 = .ok (.iload 7, 2) := by decide +kernel
theorem dMod_set_89 : decode cMod_set 89 = .ok (.laload, 1) := by decide +kernel
theorem dMod_set_90 : decode cMod_set 90 = .ok (.lcmp, 1) := by decide +kernel
theorem dMod_set_91 : decode cMod_set 91 = .ok (.ifCond .le 5, 3) := by decide +kernel
theorem dMod_set_94 : decode cMod_set 94 = .ok (.iconst 4, 1) := by decide +kernel
theorem dMod_set_95 : decode cMod_set 95 = .ok (.ireturn, 1) := by decide +kernel
theorem dMod_set_96 : decode cMod_set 96 = .ok (.lload_n 2, 1) := by decide +kernel
theorem dMod_set_97 : decode cMod_set 97 = .ok (.lstore 8, 2) := by decide +kernel
theorem dMod_set_99 : decode cMod_set 99 = .ok (.iload 6, 2) := by decide +kernel
theorem dMod_set_101 : decode cMod_set 101 = .ok (.ifCond .eq 48, 3) := by decide +kernel
theorem dMod_set_104 : decode cMod_set 104 = .ok (.aload_n 0, 1) := by decide +kernel
theorem dMod_set_105 : decode cMod_set 105 = .ok (.getfield 19, 3) := by decide +kernel
theorem dMod_set_108 : decode cMod_set 108 = .ok (.iload 7, 2) := by decide +kernel
theorem dMod_set_110 : decode cMod_set 110 = .ok (.laload, 1) := by decide +kernel
theorem dMod_set_111 : decode cMod_set 111 = .ok (.aload_n 0, 1) := by decide +kernel
theorem dMod_set_112 : decode cMod_set 112 = .ok (.getfield 7, 3) := by decide +kernel
theorem dMod_set_115 : decode cMod_set 115 = .ok (.iload 7, 2) := by decide +kernel
theorem dMod_set_117 : decode cMod_set 117 = .ok (.laload, 1) := by decide +kernel
theorem dMod_set_118 : decode cMod_set 118 = .ok (.lrem, 1) := by decide +kernel
theorem dMod_set_119 : decode cMod_set 119 = .ok (.lstore 10, 2) := by decide +kernel
theorem dMod_set_121 : decode cMod_set 121 = .ok (.lload_n 2, 1) := by decide +kernel
theorem dMod_set_122 : decode cMod_set 122 = .ok (.lload 10, 2) := by decide +kernel
theorem dMod_set_124 : decode cMod_set 124 = .ok (.lcmp, 1) := by decide +kernel
theorem dMod_set_125 : decode cMod_set 125 = .ok (.ifCond .le 10, 3) := by decide +kernel
theorem dMod_set_128 : decode cMod_set 128 = .ok (.lload_n 2, 1) := by decide +kernel
theorem dMod_set_129 : decode cMod_set 129 = .ok (.lload 10, 2) := by decide +kernel
theorem dMod_set_131 : decode cMod_set 131 = .ok (.lsub, 1) := by decide +kernel
theorem dMod_set_132 : decode cMod_set 132 = .ok (.goto 15, 3) := by decide +kernel
theorem dMod_set_135 : decode cMod_set 135 = .ok (.lload_n 2, 1) := by decide +kernel
theorem dMod_set_136 : decode cMod_set 136 = .ok (.lload 10, 2) := by decide +kernel
theorem dMod_set_138 : decode cMod_set 138 = .ok (.lsub, 1) := by decide +kernel
theorem dMod_set_139 : decode cMod_set 139 = .ok (.aload_n 0, 1) := by decide +kernel
theorem dMod_set_140 : decode cMod_set 140 = .ok (.getfield 7, 3) := by decide +kernel
theorem dMod_set_143 : decode cMod_set 143 = .ok (.iload 7, 2) := by decide +kernel
theorem dMod_set_145 : decode cMod_set 145 = .ok (.laload, 1) := by decide +kernel
theorem dMod_set_146 : decode cMod_set 146 = .ok (.ladd, 1) := by decide +kernel
theorem dMod_set_147 : decode cMod_set 147 = .ok (.lstore 8, 2) := by decide +kernel
theorem dMod_set_149 : decode cMod_set 149 = .ok (.aload_n 0, 1) := by decide +kernel
theorem dMod_set_150 : decode cMod_set 150 = .ok (.getfield 39, 3) := by decide +kernel
theorem dMod_set_153 : decode cMod_set 153 = .ok (.iload_n 1, 1) := by decide +kernel
theorem dMod_set_154 : decode cMod_set 154 = .ok (.iconst 1, 1) := by decide +kernel
theorem dMod_set_155 : decode cMod_set 155 = .ok (.bastore, 1) := by decide +kernel
theorem dMod_set_156 : decode cMod_set 156 = .ok (.aload_n 0, 1) := by decide +kernel
theorem dMod_set_157 : decode cMod_set 157 = .ok (.getfield 45, 3) := by decide +kernel
theorem dMod_set_160 : decode cMod_set 160 = .ok (.iload_n 1, 1) := by decide +kernel
theorem dMod_set_161 : decode cMod_set 161 = .ok (.lload 4, 2) := by decide +kernel
theorem dMod_set_163 : decode cMod_set 163 = .ok (.lastore, 1) := by decide +kernel
theorem dMod_set_164 : decode cMod_set 164 = .ok (.aload_n 0, 1) := by decide +kernel
theorem dMod_set_165 : decode cMod_set 165 = .ok (.getfield 42, 3) := by decide +kernel
theorem dMod_set_168 : decode cMod_set 168 = .ok (.iload_n 1, 1) := by decide +kernel
theorem dMod_set_169 : decode cMod_set 169 = .ok (.aload_n 0, 1) := by decide +kernel
theorem dMod_set_170 : decode cMod_set 170 = .ok (.getfield 19, 3) := by decide +kernel
theorem dMod_set_173 : decode cMod_set 173 = .ok (.iload 7, 2) := by decide +kernel
theorem dMod_set_175 : decode cMod_set 175 = .ok (.laload, 1) := by decide +kernel
theorem dMod_set_176 : decode cMod_set 176 = .ok (.lload 8, 2) := by decide +kernel
theorem dMod_set_178 : decode cMod_set 178 = .ok (.ladd, 1) := by decide +kernel
theorem dMod_set_179 : decode cMod_set 179 = .ok (.lastore, 1) := by decide +kernel
theorem dMod_set_180 : decode cMod_set 180 = .ok (.iconst 1, 1) := by decide +kernel
theorem dMod_set_181 : decode cMod_set 181 = .ok (.ireturn, 1) := by decide +kernel
theorem dMod_cancel_0 : decode cMod_cancel 0 = .ok (.aload_n 0, 1) := by decide +kernel
theorem dMod_cancel_1 : decode cMod_cancel 1 = .ok (.iconst 0, 1) := by decide +kernel
theorem dMod_cancel_2 : decode cMod_cancel 2 = .ok (.putfield 96, 3) := by decide +kernel
theorem dMod_cancel_5 : decode cMod_cancel 5 = .ok (.aload_n 0, 1) := by decide +kernel
theorem dMod_cancel_6 : decode cMod_cancel 6 = .ok (.iload_n 1, 1) := by decide +kernel
theorem dMod_cancel_7 : decode cMod_cancel 7 = .ok (.invokevirtual 117, 3) := by decide +kernel
theorem dMod_cancel_10 : decode cMod_cancel 10 = .ok (.ifCond .eq 5, 3) := by decide +kernel
theorem dMod_cancel_13 : decode cMod_cancel 13 = .ok (.iconst (-1), 1) := by decide +kernel
theorem dMod_cancel_14 : decode cMod_cancel 14 = .ok (.ireturn, 1) := by decide +kernel
theorem dMod_cancel_15 : decode cMod_cancel 15 = .ok (.aload_n 0, 1) := by decide +kernel
theorem dMod_cancel_16 : decode cMod_cancel 16 = .ok (.getfield 39, 3) := by decide +kernel
theorem dMod_cancel_19 : decode cMod_cancel 19 = .ok (.iload_n 1, 1) := by decide +kernel
theorem dMod_cancel_20 : decode cMod_cancel 20 = .ok (.baload, 1) := by decide +kernel
theorem dMod_cancel_21 : decode cMod_cancel 21 = .ok (.istore_n 2, 1) := by decide +kernel
theorem dMod_cancel_22 : decode cMod_cancel 22 = .ok (.aload_n 0, 1) := by decide +kernel
theorem dMod_cancel_23 : decode cMod_cancel 23 = .ok (.getfield 39, 3) := by decide +kernel
theorem dMod_cancel_26 : decode cMod_cancel 26 = .ok (.iload_n 1, 1) := by decide +kernel
theorem dMod_cancel_27 : decode cMod_cancel 27 = .ok (.iconst 0, 1) := by decide +kernel
theorem dMod_cancel_28 : decode cMod_cancel 28 = .ok (.bastore, 1) := by decide +kernel
theorem dMod_cancel_29 : decode cMod_cancel 29 = .ok (.iload_n 2, 1) := by decide +kernel
theorem dMod_cancel_30 : decode cMod_cancel 30 = .ok (.ifCond .eq 7, 3) := by decide +kernel
theorem dMod_cancel_33 : decode cMod_cancel 33 = .ok (.iconst 1, 1) := by decide +kernel
theorem dMod_cancel_34 : decode cMod_cancel 34 = .ok (.goto 4, 3) := by decide +kernel
theorem dMod_cancel_37 : decode cMod_cancel 37 = .ok (.iconst 5, 1) := by decide +kernel
theorem dMod_cancel_38 : decode cMod_cancel 38 = .ok (.ireturn, 1) := by decide +kernel
theorem dMod_table_0 : decode cMod_table 0 = .ok (.aload_n 0, 1) := by decide +kernel
theorem dMod_table_1 : decode cMod_table 1 = .ok (.iload_n 1, 1) := by decide +kernel
theorem dMod_table_2 : decode cMod_table 2 = .ok (.invokevirtual 113, 3) := by decide +kernel
theorem dMod_table_5 : decode cMod_table 5 = .ok (.ifCond .eq 5, 3) := by decide +kernel
theorem dMod_table_8 : decode cMod_table 8 = .ok (.iconst (-1), 1) := by decide +kernel
theorem dMod_table_9 : decode cMod_table 9 = .ok (.ireturn, 1) := by decide +kernel
theorem dMod_table_10 : decode cMod_table 10 = .ok (.lload_n 2, 1) := by decide +kernel
theorem dMod_table_11 : decode cMod_table 11 = .ok (.lconst 1, 1) := by decide +kernel
theorem dMod_table_12 : decode cMod_table 12 = .ok (.lcmp, 1) := by decide +kernel
theorem dMod_table_13 : decode cMod_table 13 = .ok (.ifCond .lt 11, 3) := by decide +kernel
theorem dMod_table_16 : decode cMod_table 16 = .ok (.lload_n 2, 1) := by decide +kernel
theorem dMod_table_17 : decode cMod_table 17 = .ok (.ldc2_w 126, 3) := by decide +kernel
theorem dMod_table_20 : decode cMod_table 20 = .ok (.lcmp, 1) := by decide +kernel
theorem dMod_table_21 : decode cMod_table 21 = .ok (.ifCond .le 6, 3) := by decide +kernel
theorem dMod_table_24 : decode cMod_table 24 = .ok (.bipush (-2), 2) := by decide +kernel
theorem dMod_table_26 : decode cMod_table 26 = .ok (.ireturn, 1) := by decide +kernel
theorem dMod_table_27 : decode cMod_table 27 = .ok (.aload_n 0, 1) := by decide +kernel
theorem dMod_table_28 : decode cMod_table 28 = .ok (.getfield 106, 3) := by decide +kernel
theorem dMod_table_31 : decode cMod_table 31 = .ok (.bipush 20, 2) := by decide +kernel
theorem dMod_table_33 : decode cMod_table 33 = .ok (.if_icmp .ne 6, 3) := by decide +kernel
theorem dMod_table_36 : decode cMod_table 36 = .ok (.bipush (-4), 2) := by decide +kernel
theorem dMod_table_38 : decode cMod_table 38 = .ok (.ireturn, 1) := by decide +kernel
theorem dMod_table_39 : decode cMod_table 39 = .ok (.aload_n 0, 1) := by decide +kernel
theorem dMod_table_40 : decode cMod_table 40 = .ok (.dup, 1) := by decide +kernel
theorem dMod_table_41 : decode cMod_table 41 = .ok (.getfield 106, 3) := by decide +kernel
theorem dMod_table_44 : decode cMod_table 44 = .ok (.iconst 1, 1) := by decide +kernel
theorem dMod_table_45 : decode cMod_table 45 = .ok (.iadd, 1) := by decide +kernel
theorem dMod_table_46 : decode cMod_table 46 = .ok (.putfield 106, 3) := by decide +kernel
theorem dMod_table_49 : decode cMod_table 49 = .ok (.aload_n 0, 1) := by decide +kernel
theorem dMod_table_50 : decode cMod_table 50 = .ok (.getfield 48, 3) := by decide +kernel
theorem dMod_table_53 : decode cMod_table 53 = .ok (.aload_n 0, 1) := by decide +kernel
theorem dMod_table_54 : decode cMod_table 54 = .ok (.getfield 106, 3) := by decide +kernel
theorem dMod_table_57 : decode cMod_table 57 = .ok (.iload_n 1, 1) := by decide +kernel
theorem dMod_table_58 : decode cMod_table 58 = .ok (.iastore, 1) := by decide +kernel
theorem dMod_table_59 : decode cMod_table 59 = .ok (.aload_n 0, 1) := by decide +kernel
theorem dMod_table_60 : decode cMod_table 60 = .ok (.getfield 51, 3) := by decide +kernel
theorem dMod_table_63 : decode cMod_table 63 = .ok (.aload_n 0, 1) := by decide +kernel
theorem dMod_table_64 : decode cMod_table 64 = .ok (.getfield 106, 3) := by decide +kernel
theorem dMod_table_67 : decode cMod_table 67 = .ok (.lload_n 2, 1) := by decide +kernel
theorem dMod_table_68 : decode cMod_table 68 = .ok (.lastore, 1) := by decide +kernel
theorem dMod_table_69 : decode cMod_table 69 = .ok (.aload_n 0, 1) := by decide +kernel
theorem dMod_table_70 : decode cMod_table 70 = .ok (.getfield 106, 3) := by decide +kernel
theorem dMod_table_73 : decode cMod_table 73 = .ok (.ireturn, 1) := by decide +kernel
theorem dMod_point_0 : decode cMod_point 0 = .ok (.aload_n 0, 1) := by decide +kernel
theorem dMod_point_1 : decode cMod_point 1 = .ok (.iload_n 1, 1) := by decide +kernel
theorem dMod_point_2 : decode cMod_point 2 = .ok (.invokevirtual 128, 3) := by decide +kernel
theorem dMod_point_5 : decode cMod_point 5 = .ok (.ifCond .ne 34, 3) := by decide +kernel
theorem dMod_point_8 : decode cMod_point 8 = .ok (.iload 4, 2) := by decide +kernel
theorem dMod_point_10 : decode cMod_point 10 = .ok (.aload_n 0, 1) := by decide +kernel
theorem dMod_point_11 : decode cMod_point 11 = .ok (.getfield 100, 3) := by decide +kernel
theorem dMod_point_14 : decode cMod_point 14 = .ok (.if_icmp .gt 25, 3) := by decide +kernel
theorem dMod_point_17 : decode cMod_point 17 = .ok (.iload 4, 2) := by decide +kernel
theorem dMod_point_19 : decode cMod_point 19 = .ok (.ifCond .ge 22, 3) := by decide +kernel
theorem dMod_point_22 : decode cMod_point 22 = .ok (.iload 4, 2) := by decide +kernel
theorem dMod_point_24 : decode cMod_point 24 = .ok (.bipush (-100), 2) := by decide +kernel
theorem dMod_point_26 : decode cMod_point 26 = .ok (.if_icmp .lt 13, 3) := by decide +kernel
theorem dMod_point_29 : decode cMod_point 29 = .ok (.aload_n 0, 1) := by decide +kernel
theorem dMod_point_30 : decode cMod_point 30 = .ok (.iload 4, 2) := by decide +kernel
theorem dMod_point_32 : decode cMod_point 32 = .ok (.ineg, 1) := by decide +kernel
theorem dMod_point_33 : decode cMod_point 33 = .ok (.invokevirtual 117, 3) := by decide +kernel
theorem dMod_point_36 : decode cMod_point 36 = .ok (.ifCond .eq 5, 3) := by decide +kernel
theorem dMod_point_39 : decode cMod_point 39 = .ok (.iconst (-1), 1) := by decide +kernel
theorem dMod_point_40 : decode cMod_point 40 = .ok (.ireturn, 1) := by decide +kernel
theorem dMod_point_41 : decode cMod_point 41 = .ok (.lload_n 2, 1) := by decide +kernel
theorem dMod_point_42 : decode cMod_point 42 = .ok (.lconst 0, 1) := by decide +kernel
theorem dMod_point_43 : decode cMod_point 43 = .ok (.lcmp, 1) := by decide +kernel
theorem dMod_point_44 : decode cMod_point 44 = .ok (.ifCond .lt 14, 3) := by decide +kernel
theorem dMod_point_47 : decode cMod_point 47 = .ok (.lload_n 2, 1) := by decide +kernel
theorem dMod_point_48 : decode cMod_point 48 = .ok (.aload_n 0, 1) := by decide +kernel
theorem dMod_point_49 : decode cMod_point 49 = .ok (.getfield 51, 3) := by decide +kernel
theorem dMod_point_52 : decode cMod_point 52 = .ok (.iload_n 1, 1) := by decide +kernel
theorem dMod_point_53 : decode cMod_point 53 = .ok (.laload, 1) := by decide +kernel
theorem dMod_point_54 : decode cMod_point 54 = .ok (.lcmp, 1) := by decide +kernel
theorem dMod_point_55 : decode cMod_point 55 = .ok (.ifCond .le 6, 3) := by decide +kernel
theorem dMod_point_58 : decode cMod_point 58 = .ok (.bipush (-2), 2) := by decide +kernel
theorem dMod_point_60 : decode cMod_point 60 = .ok (.ireturn, 1) := by decide +kernel
theorem dMod_point_61 : decode cMod_point 61 = .ok (.iconst 0, 1) := by decide +kernel
theorem dMod_point_62 : decode cMod_point 62 = .ok (.istore 5, 2) := by decide +kernel
theorem dMod_point_64 : decode cMod_point 64 = .ok (.iconst 0, 1) := by decide +kernel
theorem dMod_point_65 : decode cMod_point 65 = .ok (.istore 6, 2) := by decide +kernel
theorem dMod_point_67 : decode cMod_point 67 = .ok (.iconst 0, 1) := by decide +kernel
theorem dMod_point_68 : decode cMod_point 68 = .ok (.istore 7, 2) := by decide +kernel
theorem dMod_point_70 : decode cMod_point 70 = .ok (.iload 7, 2) := by decide +kernel
theorem dMod_point_72 : decode cMod_point 72 = .ok (.aload_n 0, 1) := by decide +kernel
theorem dMod_point_73 : decode cMod_point 73 = .ok (.getfield 54, 3) := by decide +kernel
theorem dMod_point_76 : decode cMod_point 76 = .ok (.iload_n 1, 1) := by decide +kernel
theorem dMod_point_77 : decode cMod_point 77 = .ok (.iaload, 1) := by decide +kernel
theorem dMod_point_78 : decode cMod_point 78 = .ok (.if_icmp .ge 66, 3) := by decide +kernel
theorem dMod_point_81 : decode cMod_point 81 = .ok (.iload 6, 2) := by decide +kernel
theorem dMod_point_83 : decode cMod_point 83 = .ok (.ifCond .ne 20, 3) := by decide +kernel
theorem dMod_point_86 : decode cMod_point 86 = .ok (.aload_n 0, 1) := by decide +kernel
theorem dMod_point_87 : decode cMod_point 87 = .ok (.getfield 57, 3) := by decide +kernel
theorem dMod_point_90 : decode cMod_point 90 = .ok (.bipush 20, 2) := by decide +kernel
theorem dMod_point_92 : decode cMod_point 92 = .ok (.iload_n 1, 1) := by decide +kernel
theorem dMod_point_93 : decode cMod_point 93 = .ok (.imul, 1) := by decide +kernel
theorem dMod_point_94 : decode cMod_point 94 = .ok (.iload 7, 2) := by decide +kernel
theorem dMod_point_96 : decode cMod_point 96 = .ok (.iadd, 1) := by decide +kernel
theorem dMod_point_97 : decode cMod_point 97 = .ok (.laload, 1) := by decide +kernel
theorem dMod_point_98 : decode cMod_point 98 = .ok (.lload_n 2, 1) := by decide +kernel
theorem dMod_point_99 : decode cMod_point 99 = .ok (.lcmp, 1) := by decide +kernel
theorem dMod_point_100 : decode cMod_point 100 = .ok (.ifCond .ne 7, 3) := by decide +kernel
theorem dMod_point_103 : decode cMod_point 103 = .ok (.iconst 1, 1) := by decide +kernel
theorem dMod_point_104 : decode cMod_point 104 = .ok (.goto 4, 3) := by decide +kernel
theorem dMod_point_107 : decode cMod_point 107 = .ok (.iconst 0, 1) := by decide +kernel
theorem dMod_point_108 : decode cMod_point 108 = .ok (.istore 6, 2) := by decide +kernel
theorem dMod_point_110 : decode cMod_point 110 = .ok (.aload_n 0, 1) := by decide +kernel
theorem dMod_point_111 : decode cMod_point 111 = .ok (.getfield 57, 3) := by decide +kernel
theorem dMod_point_114 : decode cMod_point 114 = .ok (.bipush 20, 2) := by decide +kernel
theorem dMod_point_116 : decode cMod_point 116 = .ok (.iload_n 1, 1) := by decide +kernel
theorem dMod_point_117 : decode cMod_point 117 = .ok (.imul, 1) := by decide +kernel
theorem dMod_point_118 : decode cMod_point 118 = .ok (.iload 7, 2) := by decide +kernel
theorem dMod_point_120 : decode cMod_point 120 = .ok (.iadd, 1) := by decide +kernel
theorem dMod_point_121 : decode cMod_point 121 = .ok (.laload, 1) := by decide +kernel
theorem dMod_point_122 : decode cMod_point 122 = .ok (.lload_n 2, 1) := by decide +kernel
theorem dMod_point_123 : decode cMod_point 123 = .ok (.lcmp, 1) := by decide +kernel
theorem dMod_point_124 : decode cMod_point 124 = .ok (.ifCond .ge 10, 3) := by decide +kernel
theorem dMod_point_127 : decode cMod_point 127 = .ok (.iload 5, 2) := by decide +kernel
theorem dMod_point_129 : decode cMod_point 129 = .ok (.iconst 1, 1) := by decide +kernel
theorem dMod_point_130 : decode cMod_point 130 = .ok (.iadd, 1) := by decide +kernel
theorem dMod_point_131 : decode cMod_point 131 = .ok (.goto 5, 3) := by decide +kernel
theorem dMod_point_134 : decode cMod_point 134 = .ok (.iload 5, 2) := by decide +kernel
theorem dMod_point_136 : decode cMod_point 136 = .ok (.istore 5, 2) := by decide +kernel
theorem dMod_point_138 : decode cMod_point 138 = .ok (.iinc 7 1, 3) := by decide +kernel
theorem dMod_point_141 : decode cMod_point 141 = .ok (.goto (-71), 3) := by decide +kernel
theorem dMod_point_144 : decode cMod_point 144 = .ok (.iload 6, 2) := by decide +kernel
theorem dMod_point_146 : decode cMod_point 146 = .ok (.ifCond .ne 32, 3) := by decide +kernel
theorem dMod_point_149 : decode cMod_point 149 = .ok (.aload_n 0, 1) := by decide +kernel
theorem dMod_point_150 : decode cMod_point 150 = .ok (.getfield 69, 3) := by decide +kernel
theorem dMod_point_153 : decode cMod_point 153 = .ok (.iload_n 1, 1) := by decide +kernel
theorem dMod_point_154 : decode cMod_point 154 = .ok (.baload, 1) := by decide +kernel
theorem dMod_point_155 : decode cMod_point 155 = .ok (.ifCond .ne 23, 3) := by decide +kernel
theorem dMod_point_158 : decode cMod_point 158 = .ok (.iload 4, 2) := by decide +kernel
theorem dMod_point_160 : decode cMod_point 160 = .ok (.ifCond .le 21, 3) := by decide +kernel
theorem dMod_point_163 : decode cMod_point 163 = .ok (.aload_n 0, 1) := by decide +kernel
theorem dMod_point_164 : decode cMod_point 164 = .ok (.iload 4, 2) := by decide +kernel
theorem dMod_point_166 : decode cMod_point 166 = .ok (.aload_n 0, 1) := by decide +kernel
theorem dMod_point_167 : decode cMod_point 167 = .ok (.getfield 48, 3) := by decide +kernel
theorem dMod_point_170 : decode cMod_point 170 = .ok (.iload_n 1, 1) := by decide +kernel
theorem dMod_point_171 : decode cMod_point 171 = .ok (.iaload, 1) := by decide +kernel
theorem dMod_point_172 : decode cMod_point 172 = .ok (.invokevirtual 120, 3) := by decide +kernel
theorem dMod_point_175 : decode cMod_point 175 = .ok (.ifCond .eq 6, 3) := by decide +kernel
theorem dMod_point_178 : decode cMod_point 178 = .ok (.bipush (-3), 2) := by decide +kernel
theorem dMod_point_180 : decode cMod_point 180 = .ok (.ireturn, 1) := by decide +kernel
theorem dMod_point_181 : decode cMod_point 181 = .ok (.aload_n 0, 1) := by decide +kernel
theorem dMod_point_182 : decode cMod_point 182 = .ok (.getfield 54, 3) := by decide +kernel
theorem dMod_point_185 : decode cMod_point 185 = .ok (.iload_n 1, 1) := by decide +kernel
theorem dMod_point_186 : decode cMod_point 186 = .ok (.iaload, 1) := by decide +kernel
theorem dMod_point_187 : decode cMod_point 187 = .ok (.bipush 20, 2) := by decide +kernel
theorem dMod_point_189 : decode cMod_point 189 = .ok (.if_icmp .ne 6, 3) := by decide +kernel
theorem dMod_point_192 : decode cMod_point 192 = .ok (.bipush (-4), 2) := by decide +kernel
theorem dMod_point_194 : decode cMod_point 194 = .ok (.ireturn, 1) := by decide +kernel
theorem dMod_point_195 : decode cMod_point 195 = .ok (.iload 4, 2) := by decide +kernel
theorem dMod_point_197 : decode cMod_point 197 = .ok (.ifCond .le 21, 3) := by decide +kernel
theorem dMod_point_200 : decode cMod_point 200 = .ok (.aload_n 0, 1) := by decide +kernel
theorem dMod_point_201 : decode cMod_point 201 = .ok (.getfield 22, 3) := by decide +kernel
theorem dMod_point_204 : decode cMod_point 204 = .ok (.bipush 21, 2) := by decide +kernel
theorem dMod_point_206 : decode cMod_point 206 = .ok (.aload_n 0, 1) := by decide +kernel
theorem dMod_point_207 : decode cMod_point 207 = .ok (.getfield 48, 3) := by decide +kernel
theorem dMod_point_210 : decode cMod_point 210 = .ok (.iload_n 1, 1) := by decide +kernel
theorem dMod_point_211 : decode cMod_point 211 = .ok (.iaload, 1) := by decide +kernel
theorem dMod_point_212 : decode cMod_point 212 = .ok (.imul, 1) := by decide +kernel
theorem dMod_point_213 : decode cMod_point 213 = .ok (.iload 4, 2) := by decide +kernel
theorem dMod_point_215 : decode cMod_point 215 = .ok (.iadd, 1) := by decide +kernel
theorem dMod_point_216 : decode cMod_point 216 = .ok (.iconst 1, 1) := by decide +kernel
theorem dMod_point_217 : decode cMod_point 217 = .ok (.bastore, 1) := by decide +kernel
theorem dMod_point_218 : decode cMod_point 218 = .ok (.aload_n 0, 1) := by decide +kernel
theorem dMod_point_219 : decode cMod_point 219 = .ok (.getfield 54, 3) := by decide +kernel
theorem dMod_point_222 : decode cMod_point 222 = .ok (.iload_n 1, 1) := by decide +kernel
theorem dMod_point_223 : decode cMod_point 223 = .ok (.iaload, 1) := by decide +kernel
theorem dMod_point_224 : decode cMod_point 224 = .ok (.istore 7, 2) := by decide +kernel
theorem dMod_point_226 : decode cMod_point 226 = .ok (.iload 7, 2) := by decide +kernel
theorem dMod_point_228 : decode cMod_point 228 = .ok (.iload 5, 2) := by decide +kernel
theorem dMod_point_230 : decode cMod_point 230 = .ok (.if_icmp .le 61, 3) := by decide +kernel
theorem dMod_point_233 : decode cMod_point 233 = .ok (.aload_n 0, 1) := by decide +kernel
theorem dMod_point_234 : decode cMod_point 234 = .ok (.getfield 57, 3) := by decide +kernel
theorem dMod_point_237 : decode cMod_point 237 = .ok (.bipush 20, 2) := by decide +kernel
theorem dMod_point_239 : decode cMod_point 239 = .ok (.iload_n 1, 1) := by decide +kernel
theorem dMod_point_240 : decode cMod_point 240 = .ok (.imul, 1) := by decide +kernel
theorem dMod_point_241 : decode cMod_point 241 = .ok (.iload 7, 2) := by decide +kernel
theorem dMod_point_243 : decode cMod_point 243 = .ok (.iadd, 1) := by decide +kernel
theorem dMod_point_244 : decode cMod_point 244 = .ok (.aload_n 0, 1) := by decide +kernel
theorem dMod_point_245 : decode cMod_point 245 = .ok (.getfield 57, 3) := by decide +kernel
theorem dMod_point_248 : decode cMod_point 248 = .ok (.bipush 20, 2) := by decide +kernel
theorem dMod_point_250 : decode cMod_point 250 = .ok (.iload_n 1, 1) := by decide +kernel
theorem dMod_point_251 : decode cMod_point 251 = .ok (.imul, 1) := by decide +kernel
theorem dMod_point_252 : decode cMod_point 252 = .ok (.iload 7, 2) := by decide +kernel
theorem dMod_point_254 : decode cMod_point 254 = .ok (.iadd, 1) := by decide +kernel
theorem dMod_point_255 : decode cMod_point 255 = .ok (.iconst 1, 1) := by decide +kernel
theorem dMod_point_256 : decode cMod_point 256 = .ok (.isub, 1) := by decide +kernel
theorem dMod_point_257 : decode cMod_point 257 = .ok (.laload, 1) := by decide +kernel
theorem dMod_point_258 : decode cMod_point 258 = .ok (.lastore, 1) := by decide +kernel
theorem dMod_point_259 : decode cMod_point 259 = .ok (.aload_n 0, 1) := by decide +kernel
theorem dMod_point_260 : decode cMod_point 260 = .ok (.getfield 60, 3) := by decide +kernel
theorem dMod_point_263 : decode cMod_point 263 = .ok (.bipush 20, 2) := by decide +kernel
theorem dMod_point_265 : decode cMod_point 265 = .ok (.iload_n 1, 1) := by decide +kernel
theorem dMod_point_266 : decode cMod_point 266 = .ok (.imul, 1) := by decide +kernel
theorem dMod_point_267 : decode cMod_point 267 = .ok (.iload 7, 2) := by decide +kernel
theorem dMod_point_269 : decode cMod_point 269 = .ok (.iadd, 1) := by decide +kernel
theorem dMod_point_270 : decode cMod_point 270 = .ok (.aload_n 0, 1) := by decide +kernel
theorem dMod_point_271 : decode cMod_point 271 = .ok (.getfield 60, 3) := by decide +kernel
theorem dMod_point_274 : decode cMod_point 274 = .ok (.bipush 20, 2) := by decide +kernel
theorem dMod_point_276 : decode cMod_point 276 = .ok (.iload_n 1, 1) := by decide +kernel
theorem dMod_point_277 : decode cMod_point 277 = .ok (.imul, 1) := by decide +kernel
theorem dMod_point_278 : decode cMod_point 278 = .ok (.iload 7, 2) := by decide +kernel
theorem dMod_point_280 : decode cMod_point 280 = .ok (.iadd, 1) := by decide +kernel
theorem dMod_point_281 : decode cMod_point 281 = .ok (.iconst 1, 1) := by decide +kernel
theorem dMod_point_282 : decode cMod_point 282 = .ok (.isub, 1) := by decide +kernel
theorem dMod_point_283 : decode cMod_point 283 = .ok (.iaload, 1) := by decide +kernel
theorem dMod_point_284 : decode cMod_point 284 = .ok (.iastore, 1) := by decide +kernel
theorem dMod_point_285 : decode cMod_point 285 = .ok (.iinc 7 (-1), 3) := by decide +kernel
theorem dMod_point_288 : decode cMod_point 288 = .ok (.goto (-62), 3) := by decide +kernel
theorem dMod_point_291 : decode cMod_point 291 = .ok (.aload_n 0, 1) := by decide +kernel
theorem dMod_point_292 : decode cMod_point 292 = .ok (.getfield 57, 3) := by decide +kernel
theorem dMod_point_295 : decode cMod_point 295 = .ok (.bipush 20, 2) := by decide +kernel
theorem dMod_point_297 : decode cMod_point 297 = .ok (.iload_n 1, 1) := by decide +kernel
theorem dMod_point_298 : decode cMod_point 298 = .ok (.imul, 1) := by decide +kernel
theorem dMod_point_299 : decode cMod_point 299 = .ok (.iload 5, 2) := by decide +kernel
theorem dMod_point_301 : decode cMod_point 301 = .ok (.iadd, 1) := by decide +kernel
theorem dMod_point_302 : decode cMod_point 302 = .ok (.lload_n 2, 1) := by decide +kernel
theorem dMod_point_303 : decode cMod_point 303 = .ok (.lastore, 1) := by decide +kernel
theorem dMod_point_304 : decode cMod_point 304 = .ok (.aload_n 0, 1) := by decide +kernel
theorem dMod_point_305 : decode cMod_point 305 = .ok (.getfield 60, 3) := by decide +kernel
theorem dMod_point_308 : decode cMod_point 308 = .ok (.bipush 20, 2) := by decide +kernel
theorem dMod_point_310 : decode cMod_point 310 = .ok (.iload_n 1, 1) := by decide +kernel
theorem dMod_point_311 : decode cMod_point 311 = .ok (.imul, 1) := by decide +kernel
theorem dMod_point_312 : decode cMod_point 312 = .ok (.iload 5, 2) := by decide +kernel
theorem dMod_point_314 : decode cMod_point 314 = .ok (.iadd, 1) := by decide +kernel
theorem dMod_point_315 : decode cMod_point 315 = .ok (.iload 4, 2) := by decide +kernel
theorem dMod_point_317 : decode cMod_point 317 = .ok (.iastore, 1) := by decide +kernel
theorem dMod_point_318 : decode cMod_point 318 = .ok (.aload_n 0, 1) := by decide +kernel
theorem dMod_point_319 : decode cMod_point 319 = .ok (.getfield 54, 3) := by decide +kernel
theorem dMod_point_322 : decode cMod_point 322 = .ok (.iload_n 1, 1) := by decide +kernel
theorem dMod_point_323 : decode cMod_point 323 = .ok (.dup2, 1) := by decide +kernel
theorem dMod_point_324 : decode cMod_point 324 = .ok (.iaload, 1) := by decide +kernel
theorem dMod_point_325 : decode cMod_point 325 = .ok (.iconst 1, 1) := by decide +kernel
theorem dMod_point_326 : decode cMod_point 326 = .ok (.iadd, 1) := by decide +kernel
theorem dMod_point_327 : decode cMod_point 327 = .ok (.iastore, 1) := by decide +kernel
theorem dMod_point_328 : decode cMod_point 328 = .ok (.aload_n 0, 1) := by decide +kernel
theorem dMod_point_329 : decode cMod_point 329 = .ok (.getfield 54, 3) := by decide +kernel
theorem dMod_point_332 : decode cMod_point 332 = .ok (.iload_n 1, 1) := by decide +kernel
theorem dMod_point_333 : decode cMod_point 333 = .ok (.iaload, 1) := by decide +kernel
theorem dMod_point_334 : decode cMod_point 334 = .ok (.ireturn, 1) := by decide +kernel
theorem dMod_start_0 : decode cMod_start 0 = .ok (.aload_n 0, 1) := by decide +kernel
theorem dMod_start_1 : decode cMod_start 1 = .ok (.iload_n 1, 1) := by decide +kernel
theorem dMod_start_2 : decode cMod_start 2 = .ok (.invokevirtual 128, 3) := by decide +kernel
theorem dMod_start_5 : decode cMod_start 5 = .ok (.ifCond .eq 5, 3) := by decide +kernel
theorem dMod_start_8 : decode cMod_start 8 = .ok (.iconst (-1), 1) := by decide +kernel
theorem dMod_start_9 : decode cMod_start 9 = .ok (.ireturn, 1) := by decide +kernel
theorem dMod_start_10 : decode cMod_start 10 = .ok (.aload_n 0, 1) := by decide +kernel
theorem dMod_start_11 : decode cMod_start 11 = .ok (.getfield 69, 3) := by decide +kernel
theorem dMod_start_14 : decode cMod_start 14 = .ok (.iload_n 1, 1) := by decide +kernel
theorem dMod_start_15 : decode cMod_start 15 = .ok (.baload, 1) := by decide +kernel
theorem dMod_start_16 : decode cMod_start 16 = .ok (.ifCond .eq 5, 3) := by decide +kernel
theorem dMod_start_19 : decode cMod_start 19 = .ok (.iconst 2, 1) := by decide +kernel
theorem dMod_start_20 : decode cMod_start 20 = .ok (.ireturn, 1) := by decide +kernel
theorem dMod_start_21 : decode cMod_start 21 = .ok (.lload_n 2, 1) := by decide +kernel
theorem dMod_start_22 : decode cMod_start 22 = .ok (.lconst 1, 1) := by decide +kernel
theorem dMod_start_23 : decode cMod_start 23 = .ok (.lcmp, 1) := by decide +kernel
theorem dMod_start_24 : decode cMod_start 24 = .ok (.ifCond .lt 11, 3) := by decide +kernel
theorem dMod_start_27 : decode cMod_start 27 = .ok (.lload_n 2, 1) := by decide +kernel
theorem dMod_start_28 : decode cMod_start 28 = .ok (.ldc2_w 126, 3) := by decide +kernel
theorem dMod_start_31 : decode cMod_start 31 = .ok (.lcmp, 1) := by decide +kernel
theorem dMod_start_32 : decode cMod_start 32 = .ok (.ifCond .le 5, 3) := by decide +kernel
theorem dMod_start_35 : decode cMod_start 35 = .ok (.iconst 3, 1) := by decide +kernel
theorem dMod_start_36 : decode cMod_start 36 = .ok (.ireturn, 1) := by decide +kernel
theorem dMod_start_37 : decode cMod_start 37 = .ok (.aload_n 0, 1) := by decide +kernel
theorem dMod_start_38 : decode cMod_start 38 = .ok (.getfield 69, 3) := by decide +kernel
theorem dMod_start_41 : decode cMod_start 41 = .ok (.iload_n 1, 1) := by decide +kernel
theorem dMod_start_42 : decode cMod_start 42 = .ok (.iconst 1, 1) := by decide +kernel
theorem dMod_start_43 : decode cMod_start 43 = .ok (.bastore, 1) := by decide +kernel
theorem dMod_start_44 : decode cMod_start 44 = .ok (.aload_n 0, 1) := by decide +kernel
theorem dMod_start_45 : decode cMod_start 45 = .ok (.getfield 66, 3) := by decide +kernel
theorem dMod_start_48 : decode cMod_start 48 = .ok (.iload_n 1, 1) := by decide +kernel
theorem dMod_start_49 : decode cMod_start 49 = .ok (.lconst 0, 1) := by decide +kernel
theorem dMod_start_50 : decode cMod_start 50 = .ok (.lastore, 1) := by decide +kernel
theorem dMod_start_51 : decode cMod_start 51 = .ok (.aload_n 0, 1) := by decide +kernel
theorem dMod_start_52 : decode cMod_start 52 = .ok (.getfield 75, 3) := by decide +kernel
theorem dMod_start_55 : decode cMod_start 55 = .ok (.iload_n 1, 1) := by decide +kernel
theorem dMod_start_56 : decode cMod_start 56 = .ok (.iconst (-1), 1) := by decide +kernel
theorem dMod_start_57 : decode cMod_start 57 = .ok (.iastore, 1) := by decide +kernel
theorem dMod_start_58 : decode cMod_start 58 = .ok (.aload_n 0, 1) := by decide +kernel
theorem dMod_start_59 : decode cMod_start 59 = .ok (.getfield 72, 3) := by decide +kernel
theorem dMod_start_62 : decode cMod_start 62 = .ok (.iload_n 1, 1) := by decide +kernel
theorem dMod_start_63 : decode cMod_start 63 = .ok (.aload_n 0, 1) := by decide +kernel
theorem dMod_start_64 : decode cMod_start 64 = .ok (.getfield 19, 3) := by decide +kernel
theorem dMod_start_67 : decode cMod_start 67 = .ok (.aload_n 0, 1) := by decide +kernel
theorem dMod_start_68 : decode cMod_start 68 = .ok (.getfield 48, 3) := by decide +kernel
theorem dMod_start_71 : decode cMod_start 71 = .ok (.iload_n 1, 1) := by decide +kernel
theorem dMod_start_72 : decode cMod_start 72 = .ok (.iaload, 1) := by decide +kernel
theorem dMod_start_73 : decode cMod_start 73 = .ok (.laload, 1) := by decide +kernel
theorem dMod_start_74 : decode cMod_start 74 = .ok (.lload_n 2, 1) := by decide +kernel
theorem dMod_start_75 : decode cMod_start 75 = .ok (.ladd, 1) := by decide +kernel
theorem dMod_start_76 : decode cMod_start 76 = .ok (.lastore, 1) := by decide +kernel
theorem dMod_start_77 : decode cMod_start 77 = .ok (.iconst 1, 1) := by decide +kernel
theorem dMod_start_78 : decode cMod_start 78 = .ok (.ireturn, 1) := by decide +kernel
theorem dMod_next_0 : decode cMod_next 0 = .ok (.aload_n 0, 1) := by decide +kernel
theorem dMod_next_1 : decode cMod_next 1 = .ok (.iload_n 1, 1) := by decide +kernel
theorem dMod_next_2 : decode cMod_next 2 = .ok (.invokevirtual 128, 3) := by decide +kernel
theorem dMod_next_5 : decode cMod_next 5 = .ok (.ifCond .ne 15, 3) := by decide +kernel
theorem dMod_next_8 : decode cMod_next 8 = .ok (.iload_n 2, 1) := by decide +kernel
theorem dMod_next_9 : decode cMod_next 9 = .ok (.ifCond .lt 11, 3) := by decide +kernel
theorem dMod_next_12 : decode cMod_next 12 = .ok (.iload_n 2, 1) := by decide +kernel
theorem dMod_next_13 : decode cMod_next 13 = .ok (.aload_n 0, 1) := by decide +kernel
theorem dMod_next_14 : decode cMod_next 14 = .ok (.getfield 106, 3) := by decide +kernel
theorem dMod_next_17 : decode cMod_next 17 = .ok (.if_icmp .le 5, 3) := by decide +kernel
theorem dMod_next_20 : decode cMod_next 20 = .ok (.iconst (-1), 1) := by decide +kernel
theorem dMod_next_21 : decode cMod_next 21 = .ok (.ireturn, 1) := by decide +kernel
theorem dMod_next_22 : decode cMod_next 22 = .ok (.iload_n 2, 1) := by decide +kernel
theorem dMod_next_23 : decode cMod_next 23 = .ok (.ifCond .le 21, 3) := by decide +kernel
theorem dMod_next_26 : decode cMod_next 26 = .ok (.aload_n 0, 1) := by decide +kernel
theorem dMod_next_27 : decode cMod_next 27 = .ok (.getfield 48, 3) := by decide +kernel
theorem dMod_next_30 : decode cMod_next 30 = .ok (.iload_n 2, 1) := by decide +kernel
theorem dMod_next_31 : decode cMod_next 31 = .ok (.iaload, 1) := by decide +kernel
theorem dMod_next_32 : decode cMod_next 32 = .ok (.aload_n 0, 1) := by decide +kernel
theorem dMod_next_33 : decode cMod_next 33 = .ok (.getfield 48, 3) := by decide +kernel
theorem dMod_next_36 : decode cMod_next 36 = .ok (.iload_n 1, 1) := by decide +kernel
theorem dMod_next_37 : decode cMod_next 37 = .ok (.iaload, 1) := by decide +kernel
theorem dMod_next_38 : decode cMod_next 38 = .ok (.if_icmp .eq 6, 3) := by decide +kernel
theorem dMod_next_41 : decode cMod_next 41 = .ok (.bipush (-3), 2) := by decide +kernel
theorem dMod_next_43 : decode cMod_next 43 = .ok (.ireturn, 1) := by decide +kernel
theorem dMod_next_44 : decode cMod_next 44 = .ok (.aload_n 0, 1) := by decide +kernel
theorem dMod_next_45 : decode cMod_next 45 = .ok (.getfield 63, 3) := by decide +kernel
theorem dMod_next_48 : decode cMod_next 48 = .ok (.iload_n 1, 1) := by decide +kernel
theorem dMod_next_49 : decode cMod_next 49 = .ok (.iload_n 2, 1) := by decide +kernel
theorem dMod_next_50 : decode cMod_next 50 = .ok (.iastore, 1) := by decide +kernel
theorem dMod_next_51 : decode cMod_next 51 = .ok (.iconst 1, 1) := by decide +kernel
theorem dMod_next_52 : decode cMod_next 52 = .ok (.ireturn, 1) := by decide +kernel
theorem dMod_sync_0 : decode cMod_sync 0 = .ok (.aload_n 0, 1) := by decide +kernel
theorem dMod_sync_1 : decode cMod_sync 1 = .ok (.iload_n 1, 1) := by decide +kernel
theorem dMod_sync_2 : decode cMod_sync 2 = .ok (.invokevirtual 128, 3) := by decide +kernel
theorem dMod_sync_5 : decode cMod_sync 5 = .ok (.ifCond .eq 5, 3) := by decide +kernel
theorem dMod_sync_8 : decode cMod_sync 8 = .ok (.iconst (-1), 1) := by decide +kernel
theorem dMod_sync_9 : decode cMod_sync 9 = .ok (.ireturn, 1) := by decide +kernel
theorem dMod_sync_10 : decode cMod_sync 10 = .ok (.lload_n 2, 1) := by decide +kernel
theorem dMod_sync_11 : decode cMod_sync 11 = .ok (.ldc2_w 131, 3) := by decide +kernel
theorem dMod_sync_14 : decode cMod_sync 14 = .ok (.lcmp, 1) := by decide +kernel
theorem dMod_sync_15 : decode cMod_sync 15 = .ok (.ifCond .lt 11, 3) := by decide +kernel
theorem dMod_sync_18 : decode cMod_sync 18 = .ok (.lload_n 2, 1) := by decide +kernel
theorem dMod_sync_19 : decode cMod_sync 19 = .ok (.ldc2_w 133, 3) := by decide +kernel
theorem dMod_sync_22 : decode cMod_sync 22 = .ok (.lcmp, 1) := by decide +kernel
theorem dMod_sync_23 : decode cMod_sync 23 = .ok (.ifCond .le 7, 3) := by decide +kernel
theorem dMod_sync_26 : decode cMod_sync 26 = .ok (.iconst 1, 1) := by decide +kernel
theorem dMod_sync_27 : decode cMod_sync 27 = .ok (.goto 4, 3) := by decide +kernel
theorem dMod_sync_30 : decode cMod_sync 30 = .ok (.iconst 0, 1) := by decide +kernel
theorem dMod_sync_31 : decode cMod_sync 31 = .ok (.istore 4, 2) := by decide +kernel
theorem dMod_sync_33 : decode cMod_sync 33 = .ok (.iload 4, 2) := by decide +kernel
theorem dMod_sync_35 : decode cMod_sync 35 = .ok (.ifCond .ne 33, 3) := by decide +kernel
theorem dMod_sync_38 : decode cMod_sync 38 = .ok (.aload_n 0, 1) := by decide +kernel
theorem dMod_sync_39 : decode cMod_sync 39 = .ok (.getfield 66, 3) := by decide +kernel
theorem dMod_sync_42 : decode cMod_sync 42 = .ok (.iload_n 1, 1) := by decide +kernel
theorem dMod_sync_43 : decode cMod_sync 43 = .ok (.laload, 1) := by decide +kernel
theorem dMod_sync_44 : decode cMod_sync 44 = .ok (.lload_n 2, 1) := by decide +kernel
theorem dMod_sync_45 : decode cMod_sync 45 = .ok (.ladd, 1) := by decide +kernel
theorem dMod_sync_46 : decode cMod_sync 46 = .ok (.ldc2_w 135, 3) := by decide +kernel
theorem dMod_sync_49 : decode cMod_sync 49 = .ok (.lcmp, 1) := by decide +kernel
theorem dMod_sync_50 : decode cMod_sync 50 = .ok (.ifCond .lt 18, 3) := by decide +kernel
theorem dMod_sync_53 : decode cMod_sync 53 = .ok (.aload_n 0, 1) := by decide +kernel
theorem dMod_sync_54 : decode cMod_sync 54 = .ok (.getfield 66, 3) := by decide +kernel
theorem dMod_sync_57 : decode cMod_sync 57 = .ok (.iload_n 1, 1) := by decide +kernel
theorem dMod_sync_58 : decode cMod_sync 58 = .ok (.laload, 1) := by decide +kernel
theorem dMod_sync_59 : decode cMod_sync 59 = .ok (.lload_n 2, 1) := by decide +kernel
theorem dMod_sync_60 : decode cMod_sync 60 = .ok (.ladd, 1) := by decide +kernel
theorem dMod_sync_61 : decode cMod_sync 61 = .ok (.ldc2_w 111, 3) := by decide +kernel
theorem dMod_sync_64 : decode cMod_sync 64 = .ok (.lcmp, 1) := by decide +kernel
theorem dMod_sync_65 : decode cMod_sync 65 = .ok (.ifCond .le 6, 3) := by decide +kernel
theorem dMod_sync_68 : decode cMod_sync 68 = .ok (.bipush (-2), 2) := by decide +kernel
theorem dMod_sync_70 : decode cMod_sync 70 = .ok (.ireturn, 1) := by decide +kernel
theorem dMod_sync_71 : decode cMod_sync 71 = .ok (.aload_n 0, 1) := by decide +kernel
theorem dMod_sync_72 : decode cMod_sync 72 = .ok (.getfield 69, 3) := by decide +kernel
theorem dMod_sync_75 : decode cMod_sync 75 = .ok (.iload_n 1, 1) := by decide +kernel
theorem dMod_sync_76 : decode cMod_sync 76 = .ok (.baload, 1) := by decide +kernel
theorem dMod_sync_77 : decode cMod_sync 77 = .ok (.ifCond .ne 6, 3) := by decide +kernel
theorem dMod_sync_80 : decode cMod_sync 80 = .ok (.bipush (-3), 2) := by decide +kernel
theorem dMod_sync_82 : decode cMod_sync 82 = .ok (.ireturn, 1) := by decide +kernel
theorem dMod_sync_83 : decode cMod_sync 83 = .ok (.aload_n 0, 1) := by decide +kernel
theorem dMod_sync_84 : decode cMod_sync 84 = .ok (.getfield 66, 3) := by decide +kernel
theorem dMod_sync_87 : decode cMod_sync 87 = .ok (.iload_n 1, 1) := by decide +kernel
theorem dMod_sync_88 : decode cMod_sync 88 = .ok (.aload_n 0, 1) := by decide +kernel
theorem dMod_sync_89 : decode cMod_sync 89 = .ok (.getfield 66, 3) := by decide +kernel
theorem dMod_sync_92 : decode cMod_sync 92 = .ok (.iload_n 1, 1) := by decide +kernel
theorem dMod_sync_93 : decode cMod_sync 93 = .ok (.laload, 1) := by decide +kernel
theorem dMod_sync_94 : decode cMod_sync 94 = .ok (.lload_n 2, 1) := by decide +kernel
theorem dMod_sync_95 : decode cMod_sync 95 = .ok (.ladd, 1) := by decide +kernel
theorem dMod_sync_96 : decode cMod_sync 96 = .ok (.lastore, 1) := by decide +kernel
theorem dMod_sync_97 : decode cMod_sync 97 = .ok (.aload_n 0, 1) := by decide +kernel
theorem dMod_sync_98 : decode cMod_sync 98 = .ok (.getfield 66, 3) := by decide +kernel
theorem dMod_sync_101 : decode cMod_sync 101 = .ok (.iload_n 1, 1) := by decide +kernel
theorem dMod_sync_102 : decode cMod_sync 102 = .ok (.laload, 1) := by decide +kernel
theorem dMod_sync_103 : decode cMod_sync 103 = .ok (.l2i, 1) := by decide +kernel
theorem dMod_sync_104 : decode cMod_sync 104 = .ok (.ireturn, 1) := by decide +kernel
theorem dMod_note_0 : decode cMod_note 0 = .ok (.aload_n 0, 1) := by decide +kernel
theorem dMod_note_1 : decode cMod_note 1 = .ok (.getfield 137, 3) := by decide +kernel
theorem dMod_note_4 : decode cMod_note 4 = .ok (.sipush 3000, 3) := by decide +kernel
theorem dMod_note_7 : decode cMod_note 7 = .ok (.if_icmp .ge 59, 3) := by decide +kernel
theorem dMod_note_10 : decode cMod_note 10 = .ok (.aload_n 0, 1) := by decide +kernel
theorem dMod_note_11 : decode cMod_note 11 = .ok (.getfield 78, 3) := by decide +kernel
theorem dMod_note_14 : decode cMod_note 14 = .ok (.aload_n 0, 1) := by decide +kernel
theorem dMod_note_15 : decode cMod_note 15 = .ok (.getfield 137, 3) := by decide +kernel
theorem dMod_note_18 : decode cMod_note 18 = .ok (.iload_n 1, 1) := by decide +kernel
theorem dMod_note_19 : decode cMod_note 19 = .ok (.iastore, 1) := by decide +kernel
theorem dMod_note_20 : decode cMod_note 20 = .ok (.aload_n 0, 1) := by decide +kernel
theorem dMod_note_21 : decode cMod_note 21 = .ok (.getfield 81, 3) := by decide +kernel
theorem dMod_note_24 : decode cMod_note 24 = .ok (.aload_n 0, 1) := by decide +kernel
theorem dMod_note_25 : decode cMod_note 25 = .ok (.getfield 137, 3) := by decide +kernel
theorem dMod_note_28 : decode cMod_note 28 = .ok (.iload_n 2, 1) := by decide +kernel
theorem dMod_note_29 : decode cMod_note 29 = .ok (.iastore, 1) := by decide +kernel
theorem dMod_note_30 : decode cMod_note 30 = .ok (.aload_n 0, 1) := by decide +kernel
theorem dMod_note_31 : decode cMod_note 31 = .ok (.getfield 84, 3) := by decide +kernel
theorem dMod_note_34 : decode cMod_note 34 = .ok (.aload_n 0, 1) := by decide +kernel
theorem dMod_note_35 : decode cMod_note 35 = .ok (.getfield 137, 3) := by decide +kernel
theorem dMod_note_38 : decode cMod_note 38 = .ok (.lload_n 3, 1) := by decide +kernel
theorem dMod_note_39 : decode cMod_note 39 = .ok (.l2i, 1) := by decide +kernel
theorem dMod_note_40 : decode cMod_note 40 = .ok (.iastore, 1) := by decide +kernel
theorem dMod_note_41 : decode cMod_note 41 = .ok (.aload_n 0, 1) := by decide +kernel
theorem dMod_note_42 : decode cMod_note 42 = .ok (.getfield 87, 3) := by decide +kernel
theorem dMod_note_45 : decode cMod_note 45 = .ok (.aload_n 0, 1) := by decide +kernel
theorem dMod_note_46 : decode cMod_note 46 = .ok (.getfield 137, 3) := by decide +kernel
theorem dMod_note_49 : decode cMod_note 49 = .ok (.aload_n 0, 1) := by decide +kernel
theorem dMod_note_50 : decode cMod_note 50 = .ok (.getfield 19, 3) := by decide +kernel
theorem dMod_note_53 : decode cMod_note 53 = .ok (.iload 5, 2) := by decide +kernel
theorem dMod_note_55 : decode cMod_note 55 = .ok (.laload, 1) := by decide +kernel
theorem dMod_note_56 : decode cMod_note 56 = .ok (.aload_n 0, 1) := by decide +kernel
theorem dMod_note_57 : decode cMod_note 57 = .ok (.getfield 7, 3) := by decide +kernel
theorem dMod_note_60 : decode cMod_note 60 = .ok (.iload 5, 2) := by decide +kernel
theorem dMod_note_62 : decode cMod_note 62 = .ok (.laload, 1) := by decide +kernel
theorem dMod_note_63 : decode cMod_note 63 = .ok (.lrem, 1) := by decide +kernel
theorem dMod_note_64 : decode cMod_note 64 = .ok (.l2i, 1) := by decide +kernel
theorem dMod_note_65 : decode cMod_note 65 = .ok (.iastore, 1) := by decide +kernel
theorem dMod_note_66 : decode cMod_note 66 = .ok (.aload_n 0, 1) := by decide +kernel
theorem dMod_note_67 : decode cMod_note 67 = .ok (.dup, 1) := by decide +kernel
theorem dMod_note_68 : decode cMod_note 68 = .ok (.getfield 137, 3) := by decide +kernel
theorem dMod_note_71 : decode cMod_note 71 = .ok (.iconst 1, 1) := by decide +kernel
theorem dMod_note_72 : decode cMod_note 72 = .ok (.iadd, 1) := by decide +kernel
theorem dMod_note_73 : decode cMod_note 73 = .ok (.putfield 137, 3) := by decide +kernel
theorem dMod_note_76 : decode cMod_note 76 = .ok (.return_, 1) := by decide +kernel
theorem dMod_makeStep_0 : decode cMod_makeStep 0 = .ok (.aload_n 0, 1) := by decide +kernel
theorem dMod_makeStep_1 : decode cMod_makeStep 1 = .ok (.getfield 19, 3) := by decide +kernel
theorem dMod_makeStep_4 : decode cMod_makeStep 4 = .ok (.iload_n 1, 1) := by decide +kernel
theorem dMod_makeStep_5 : decode cMod_makeStep 5 = .ok (.dup2, 1) := by decide +kernel
theorem dMod_makeStep_6 : decode cMod_makeStep 6 = .ok (.laload, 1) := by decide +kernel
theorem dMod_makeStep_7 : decode cMod_makeStep 7 = .ok (.lconst 1, 1) := by decide +kernel
theorem dMod_makeStep_8 : decode cMod_makeStep 8 = .ok (.ladd, 1) := by decide +kernel
theorem dMod_makeStep_9 : decode cMod_makeStep 9 = .ok (.lastore, 1) := by decide +kernel
theorem dMod_makeStep_10 : decode cMod_makeStep 10 = .ok (.aload_n 0, 1) := by decide +kernel
theorem dMod_makeStep_11 : decode cMod_makeStep 11 = .ok (.getfield 90, 3) := by decide +kernel
theorem dMod_makeStep_14 : decode cMod_makeStep 14 = .ok (.aload_n 0, 1) := by decide +kernel
theorem dMod_makeStep_15 : decode cMod_makeStep 15 = .ok (.getfield 140, 3) := by decide +kernel
theorem dMod_makeStep_18 : decode cMod_makeStep 18 = .ok (.iload_n 1, 1) := by decide +kernel
theorem dMod_makeStep_19 : decode cMod_makeStep 19 = .ok (.iastore, 1) := by decide +kernel
theorem dMod_makeStep_20 : decode cMod_makeStep 20 = .ok (.aload_n 0, 1) := by decide +kernel
theorem dMod_makeStep_21 : decode cMod_makeStep 21 = .ok (.getfield 93, 3) := by decide +kernel
theorem dMod_makeStep_24 : decode cMod_makeStep 24 = .ok (.aload_n 0, 1) := by decide +kernel
theorem dMod_makeStep_25 : decode cMod_makeStep 25 = .ok (.getfield 140, 3) := by decide +kernel
theorem dMod_makeStep_28 : decode cMod_makeStep 28 = .ok (.iconst 0, 1) := by decide +kernel
theorem dMod_makeStep_29 : decode cMod_makeStep 29 = .ok (.iastore, 1) := by decide +kernel
theorem dMod_makeStep_30 : decode cMod_makeStep 30 = .ok (.aload_n 0, 1) := by decide +kernel
theorem dMod_makeStep_31 : decode cMod_makeStep 31 = .ok (.dup, 1) := by decide +kernel
theorem dMod_makeStep_32 : decode cMod_makeStep 32 = .ok (.getfield 140, 3) := by decide +kernel
theorem dMod_makeStep_35 : decode cMod_makeStep 35 = .ok (.iconst 1, 1) := by decide +kernel
theorem dMod_makeStep_36 : decode cMod_makeStep 36 = .ok (.iadd, 1) := by decide +kernel
theorem dMod_makeStep_37 : decode cMod_makeStep 37 = .ok (.putfield 140, 3) := by decide +kernel
theorem dMod_makeStep_40 : decode cMod_makeStep 40 = .ok (.return_, 1) := by decide +kernel
theorem dMod_byAct_0 : decode cMod_byAct 0 = .ok (.aload_n 0, 1) := by decide +kernel
theorem dMod_byAct_1 : decode cMod_byAct 1 = .ok (.getfield 143, 3) := by decide +kernel
theorem dMod_byAct_4 : decode cMod_byAct 4 = .ok (.sipush 20000, 3) := by decide +kernel
theorem dMod_byAct_7 : decode cMod_byAct 7 = .ok (.if_icmp .ne 4, 3) := by decide +kernel
theorem dMod_byAct_10 : decode cMod_byAct 10 = .ok (.return_, 1) := by decide +kernel
theorem dMod_byAct_11 : decode cMod_byAct 11 = .ok (.aload_n 0, 1) := by decide +kernel
theorem dMod_byAct_12 : decode cMod_byAct 12 = .ok (.dup, 1) := by decide +kernel
theorem dMod_byAct_13 : decode cMod_byAct 13 = .ok (.getfield 143, 3) := by decide +kernel
theorem dMod_byAct_16 : decode cMod_byAct 16 = .ok (.iconst 1, 1) := by decide +kernel
theorem dMod_byAct_17 : decode cMod_byAct 17 = .ok (.iadd, 1) := by decide +kernel
theorem dMod_byAct_18 : decode cMod_byAct 18 = .ok (.putfield 143, 3) := by decide +kernel
theorem dMod_byAct_21 : decode cMod_byAct 21 = .ok (.aload_n 0, 1) := by decide +kernel
theorem dMod_byAct_22 : decode cMod_byAct 22 = .ok (.iload_n 1, 1) := by decide +kernel
theorem dMod_byAct_23 : decode cMod_byAct 23 = .ok (.invokevirtual 146, 3) := by decide +kernel
theorem dMod_byAct_26 : decode cMod_byAct 26 = .ok (.return_, 1) := by decide +kernel
theorem dMod_goOn_0 : decode cMod_goOn 0 = .ok (.aload_n 0, 1) := by decide +kernel
theorem dMod_goOn_1 : decode cMod_goOn 1 = .ok (.getfield 75, 3) := by decide +kernel
theorem dMod_goOn_4 : decode cMod_goOn 4 = .ok (.iload_n 1, 1) := by decide +kernel
theorem dMod_goOn_5 : decode cMod_goOn 5 = .ok (.iaload, 1) := by decide +kernel
theorem dMod_goOn_6 : decode cMod_goOn 6 = .ok (.aload_n 0, 1) := by decide +kernel
theorem dMod_goOn_7 : decode cMod_goOn 7 = .ok (.getfield 54, 3) := by decide +kernel
theorem dMod_goOn_10 : decode cMod_goOn 10 = .ok (.iload_n 1, 1) := by decide +kernel
theorem dMod_goOn_11 : decode cMod_goOn 11 = .ok (.iaload, 1) := by decide +kernel
theorem dMod_goOn_12 : decode cMod_goOn 12 = .ok (.if_icmp .ge 22, 3) := by decide +kernel
theorem dMod_goOn_15 : decode cMod_goOn 15 = .ok (.aload_n 0, 1) := by decide +kernel
theorem dMod_goOn_16 : decode cMod_goOn 16 = .ok (.getfield 57, 3) := by decide +kernel
theorem dMod_goOn_19 : decode cMod_goOn 19 = .ok (.bipush 20, 2) := by decide +kernel
theorem dMod_goOn_21 : decode cMod_goOn 21 = .ok (.iload_n 1, 1) := by decide +kernel
theorem dMod_goOn_22 : decode cMod_goOn 22 = .ok (.imul, 1) := by decide +kernel
theorem dMod_goOn_23 : decode cMod_goOn 23 = .ok (.aload_n 0, 1) := by decide +kernel
theorem dMod_goOn_24 : decode cMod_goOn 24 = .ok (.getfield 75, 3) := by decide +kernel
theorem dMod_goOn_27 : decode cMod_goOn 27 = .ok (.iload_n 1, 1) := by decide +kernel
theorem dMod_goOn_28 : decode cMod_goOn 28 = .ok (.iaload, 1) := by decide +kernel
theorem dMod_goOn_29 : decode cMod_goOn 29 = .ok (.iadd, 1) := by decide +kernel
theorem dMod_goOn_30 : decode cMod_goOn 30 = .ok (.laload, 1) := by decide +kernel
theorem dMod_goOn_31 : decode cMod_goOn 31 = .ok (.goto 9, 3) := by decide +kernel
theorem dMod_goOn_34 : decode cMod_goOn 34 = .ok (.aload_n 0, 1) := by decide +kernel
theorem dMod_goOn_35 : decode cMod_goOn 35 = .ok (.getfield 51, 3) := by decide +kernel
theorem dMod_goOn_38 : decode cMod_goOn 38 = .ok (.iload_n 1, 1) := by decide +kernel
theorem dMod_goOn_39 : decode cMod_goOn 39 = .ok (.laload, 1) := by decide +kernel
theorem dMod_goOn_40 : decode cMod_goOn 40 = .ok (.lstore 4, 2) := by decide +kernel
theorem dMod_goOn_42 : decode cMod_goOn 42 = .ok (.lload 4, 2) := by decide +kernel
theorem dMod_goOn_44 : decode cMod_goOn 44 = .ok (.lload_n 2, 1) := by decide +kernel
theorem dMod_goOn_45 : decode cMod_goOn 45 = .ok (.lsub, 1) := by decide +kernel
theorem dMod_goOn_46 : decode cMod_goOn 46 = .ok (.lstore 6, 2) := by decide +kernel
theorem dMod_goOn_48 : decode cMod_goOn 48 = .ok (.lload 6, 2) := by decide +kernel
theorem dMod_goOn_50 : decode cMod_goOn 50 = .ok (.lconst 0, 1) := by decide +kernel
theorem dMod_goOn_51 : decode cMod_goOn 51 = .ok (.lcmp, 1) := by decide +kernel
theorem dMod_goOn_52 : decode cMod_goOn 52 = .ok (.ifCond .ne 5, 3) := by decide +kernel
theorem dMod_goOn_55 : decode cMod_goOn 55 = .ok (.iconst 1, 1) := by decide +kernel
theorem dMod_goOn_56 : decode cMod_goOn 56 = .ok (.ireturn, 1) := by decide +kernel
theorem dMod_goOn_57 : decode cMod_goOn 57 = .ok (.aload_n 0, 1) := by decide +kernel
theorem dMod_goOn_58 : decode cMod_goOn 58 = .ok (.getfield 66, 3) := by decide +kernel
theorem dMod_goOn_61 : decode cMod_goOn 61 = .ok (.iload_n 1, 1) := by decide +kernel
theorem dMod_goOn_62 : decode cMod_goOn 62 = .ok (.laload, 1) := by decide +kernel
theorem dMod_goOn_63 : decode cMod_goOn 63 = .ok (.ldc2_w 124, 3) := by decide +kernel
theorem dMod_goOn_66 : decode cMod_goOn 66 = .ok (.lcmp, 1) := by decide +kernel
theorem dMod_goOn_67 : decode cMod_goOn 67 = .ok (.ifCond .le 9, 3) := by decide +kernel
theorem dMod_goOn_70 : decode cMod_goOn 70 = .ok (.ldc2_w 124, 3) := by decide +kernel
theorem dMod_goOn_73 : decode cMod_goOn 73 = .ok (.goto 28, 3) := by decide +kernel
theorem dMod_goOn_76 : decode cMod_goOn 76 = .ok (.aload_n 0, 1) := by decide +kernel
theorem dMod_goOn_77 : decode cMod_goOn 77 = .ok (.getfield 66, 3) := by decide +kernel
theorem dMod_goOn_80 : decode cMod_goOn 80 = .ok (.iload_n 1, 1) := by decide +kernel
theorem dMod_goOn_81 : decode cMod_goOn 81 = .ok (.laload, 1) := by decide +kernel
theorem dMod_goOn_82 : decode cMod_goOn 82 = .ok (.ldc2_w 150, 3) := by decide +kernel
theorem dMod_goOn_85 : decode cMod_goOn 85 = .ok (.lcmp, 1) := by decide +kernel
theorem dMod_goOn_86 : decode cMod_goOn 86 = .ok (.ifCond .ge 9, 3) := by decide +kernel
theorem dMod_goOn_89 : decode cMod_goOn 89 = .ok (.ldc2_w 150, 3) := by decide +kernel
theorem dMod_goOn_92 : decode cMod_goOn 92 = .ok (.goto 9, 3) := by decide +kernel
theorem dMod_goOn_95 : decode cMod_goOn 95 = .ok (.aload_n 0, 1) := by decide +kernel
theorem dMod_goOn_96 : decode cMod_goOn 96 = .ok (.getfield 66, 3) := by decide +kernel
theorem dMod_goOn_99 : decode cMod_goOn 99 = .ok (.iload_n 1, 1) := by decide +kernel
theorem dMod_goOn_100 : decode cMod_goOn 100 = .ok (.laload, 1) := by decide +kernel
theorem dMod_goOn_101 : decode cMod_goOn 101 = .ok (.lstore 8, 2) := by decide +kernel
theorem dMod_goOn_103 : decode cMod_goOn 103 = .ok (.lload 6, 2) := by decide +kernel
theorem dMod_goOn_105 : decode cMod_goOn 105 = .ok (.lload 8, 2) := by decide +kernel
theorem dMod_goOn_107 : decode cMod_goOn 107 = .ok (.ladd, 1) := by decide +kernel
theorem dMod_goOn_108 : decode cMod_goOn 108 = .ok (.lconst 1, 1) := by decide +kernel
theorem dMod_goOn_109 : decode cMod_goOn 109 = .ok (.lcmp, 1) := by decide +kernel
theorem dMod_goOn_110 : decode cMod_goOn 110 = .ok (.ifCond .ge 10, 3) := by decide +kernel
theorem dMod_goOn_113 : decode cMod_goOn 113 = .ok (.lconst 1, 1) := by decide +kernel
theorem dMod_goOn_114 : decode cMod_goOn 114 = .ok (.lload 6, 2) := by decide +kernel
theorem dMod_goOn_116 : decode cMod_goOn 116 = .ok (.lsub, 1) := by decide +kernel
theorem dMod_goOn_117 : decode cMod_goOn 117 = .ok (.goto 5, 3) := by decide +kernel
theorem dMod_goOn_120 : decode cMod_goOn 120 = .ok (.lload 8, 2) := by decide +kernel
theorem dMod_goOn_122 : decode cMod_goOn 122 = .ok (.lstore 8, 2) := by decide +kernel
theorem dMod_goOn_124 : decode cMod_goOn 124 = .ok (.aload_n 0, 1) := by decide +kernel
theorem dMod_goOn_125 : decode cMod_goOn 125 = .ok (.getfield 66, 3) := by decide +kernel
theorem dMod_goOn_128 : decode cMod_goOn 128 = .ok (.iload_n 1, 1) := by decide +kernel
theorem dMod_goOn_129 : decode cMod_goOn 129 = .ok (.aload_n 0, 1) := by decide +kernel
theorem dMod_goOn_130 : decode cMod_goOn 130 = .ok (.getfield 66, 3) := by decide +kernel
theorem dMod_goOn_133 : decode cMod_goOn 133 = .ok (.iload_n 1, 1) := by decide +kernel
theorem dMod_goOn_134 : decode cMod_goOn 134 = .ok (.laload, 1) := by decide +kernel
theorem dMod_goOn_135 : decode cMod_goOn 135 = .ok (.lload 8, 2) := by decide +kernel
theorem dMod_goOn_137 : decode cMod_goOn 137 = .ok (.lsub, 1) := by decide +kernel
theorem dMod_goOn_138 : decode cMod_goOn 138 = .ok (.lastore, 1) := by decide +kernel
theorem dMod_goOn_139 : decode cMod_goOn 139 = .ok (.aload_n 0, 1) := by decide +kernel
theorem dMod_goOn_140 : decode cMod_goOn 140 = .ok (.getfield 72, 3) := by decide +kernel
theorem dMod_goOn_143 : decode cMod_goOn 143 = .ok (.iload_n 1, 1) := by decide +kernel
theorem dMod_goOn_144 : decode cMod_goOn 144 = .ok (.aload_n 0, 1) := by decide +kernel
theorem dMod_goOn_145 : decode cMod_goOn 145 = .ok (.getfield 19, 3) := by decide +kernel
theorem dMod_goOn_148 : decode cMod_goOn 148 = .ok (.aload_n 0, 1) := by decide +kernel
theorem dMod_goOn_149 : decode cMod_goOn 149 = .ok (.getfield 48, 3) := by decide +kernel
theorem dMod_goOn_152 : decode cMod_goOn 152 = .ok (.iload_n 1, 1) := by decide +kernel
theorem dMod_goOn_153 : decode cMod_goOn 153 = .ok (.iaload, 1) := by decide +kernel
theorem dMod_goOn_154 : decode cMod_goOn 154 = .ok (.laload, 1) := by decide +kernel
theorem dMod_goOn_155 : decode cMod_goOn 155 = .ok (.lload 6, 2) := by decide +kernel
theorem dMod_goOn_157 : decode cMod_goOn 157 = .ok (.ladd, 1) := by decide +kernel
theorem dMod_goOn_158 : decode cMod_goOn 158 = .ok (.lload 8, 2) := by decide +kernel
theorem dMod_goOn_160 : decode cMod_goOn 160 = .ok (.ladd, 1) := by decide +kernel
theorem dMod_goOn_161 : decode cMod_goOn 161 = .ok (.lastore, 1) := by decide +kernel
theorem dMod_goOn_162 : decode cMod_goOn 162 = .ok (.iconst 0, 1) := by decide +kernel
theorem dMod_goOn_163 : decode cMod_goOn 163 = .ok (.ireturn, 1) := by decide +kernel
theorem dMod_tableGoes_0 : decode cMod_tableGoes 0 = .ok (.aload_n 0, 1) := by decide +kernel
theorem dMod_tableGoes_1 : decode cMod_tableGoes 1 = .ok (.getfield 75, 3) := by decide +kernel
theorem dMod_tableGoes_4 : decode cMod_tableGoes 4 = .ok (.iload_n 1, 1) := by decide +kernel
theorem dMod_tableGoes_5 : decode cMod_tableGoes 5 = .ok (.iaload, 1) := by decide +kernel
theorem dMod_tableGoes_6 : decode cMod_tableGoes 6 = .ok (.istore_n 2, 1) := by decide +kernel
theorem dMod_tableGoes_7 : decode cMod_tableGoes 7 = .ok (.iload_n 2, 1) := by decide +kernel
theorem dMod_tableGoes_8 : decode cMod_tableGoes 8 = .ok (.iconst (-1), 1) := by decide +kernel
theorem dMod_tableGoes_9 : decode cMod_tableGoes 9 = .ok (.if_icmp .ne 25, 3) := by decide +kernel
theorem dMod_tableGoes_12 : decode cMod_tableGoes 12 = .ok (.aload_n 0, 1) := by decide +kernel
theorem dMod_tableGoes_13 : decode cMod_tableGoes 13 = .ok (.getfield 75, 3) := by decide +kernel
theorem dMod_tableGoes_16 : decode cMod_tableGoes 16 = .ok (.iload_n 1, 1) := by decide +kernel
theorem dMod_tableGoes_17 : decode cMod_tableGoes 17 = .ok (.iconst 0, 1) := by decide +kernel
theorem dMod_tableGoes_18 : decode cMod_tableGoes 18 = .ok (.iastore, 1) := by decide +kernel
theorem dMod_tableGoes_19 : decode cMod_tableGoes 19 = .ok (.aload_n 0, 1) := by decide +kernel
theorem dMod_tableGoes_20 : decode cMod_tableGoes 20 = .ok (.iload_n 1, 1) := by decide +kernel
theorem dMod_tableGoes_21 : decode cMod_tableGoes 21 = .ok (.lconst 0, 1) := by decide +kernel
theorem dMod_tableGoes_22 : decode cMod_tableGoes 22 = .ok (.invokevirtual 152, 3) := by decide +kernel
theorem dMod_tableGoes_25 : decode cMod_tableGoes 25 = .ok (.ifCond .eq 7, 3) := by decide +kernel
theorem dMod_tableGoes_28 : decode cMod_tableGoes 28 = .ok (.iload_n 1, 1) := by decide +kernel
theorem dMod_tableGoes_29 : decode cMod_tableGoes 29 = .ok (.goto 4, 3) := by decide +kernel
theorem dMod_tableGoes_32 : decode cMod_tableGoes 32 = .ok (.iconst 0, 1) := by decide +kernel
theorem dMod_tableGoes_33 : decode cMod_tableGoes 33 = .ok (.ireturn, 1) := by decide +kernel
theorem dMod_tableGoes_34 : decode cMod_tableGoes 34 = .ok (.iload_n 2, 1) := by decide +kernel
theorem dMod_tableGoes_35 : decode cMod_tableGoes 35 = .ok (.aload_n 0, 1) := by decide +kernel
theorem dMod_tableGoes_36 : decode cMod_tableGoes 36 = .ok (.getfield 54, 3) := by decide +kernel
theorem dMod_tableGoes_39 : decode cMod_tableGoes 39 = .ok (.iload_n 1, 1) := by decide +kernel
theorem dMod_tableGoes_40 : decode cMod_tableGoes 40 = .ok (.iaload, 1) := by decide +kernel
theorem dMod_tableGoes_41 : decode cMod_tableGoes 41 = .ok (.if_icmp .ge 52, 3) := by decide +kernel
theorem dMod_tableGoes_44 : decode cMod_tableGoes 44 = .ok (.aload_n 0, 1) := by decide +kernel
theorem dMod_tableGoes_45 : decode cMod_tableGoes 45 = .ok (.getfield 57, 3) := by decide +kernel
theorem dMod_tableGoes_48 : decode cMod_tableGoes 48 = .ok (.bipush 20, 2) := by decide +kernel
theorem dMod_tableGoes_50 : decode cMod_tableGoes 50 = .ok (.iload_n 1, 1) := by decide +kernel
theorem dMod_tableGoes_51 : decode cMod_tableGoes 51 = .ok (.imul, 1) := by decide +kernel
theorem dMod_tableGoes_52 : decode cMod_tableGoes 52 = .ok (.iload_n 2, 1) := by decide +kernel
theorem dMod_tableGoes_53 : decode cMod_tableGoes 53 = .ok (.iadd, 1) := by decide +kernel
theorem dMod_tableGoes_54 : decode cMod_tableGoes 54 = .ok (.laload, 1) := by decide +kernel
theorem dMod_tableGoes_55 : decode cMod_tableGoes 55 = .ok (.lstore_n 3, 1) := by decide +kernel
theorem dMod_tableGoes_56 : decode cMod_tableGoes 56 = .ok (.aload_n 0, 1) := by decide +kernel
theorem dMod_tableGoes_57 : decode cMod_tableGoes 57 = .ok (.iconst 1, 1) := by decide +kernel
theorem dMod_tableGoes_58 : decode cMod_tableGoes 58 = .ok (.iload_n 1, 1) := by decide +kernel
theorem dMod_tableGoes_59 : decode cMod_tableGoes 59 = .ok (.lload_n 3, 1) := by decide +kernel
theorem dMod_tableGoes_60 : decode cMod_tableGoes 60 = .ok (.aload_n 0, 1) := by decide +kernel
theorem dMod_tableGoes_61 : decode cMod_tableGoes 61 = .ok (.getfield 48, 3) := by decide +kernel
theorem dMod_tableGoes_64 : decode cMod_tableGoes 64 = .ok (.iload_n 1, 1) := by decide +kernel
theorem dMod_tableGoes_65 : decode cMod_tableGoes 65 = .ok (.iaload, 1) := by decide +kernel
theorem dMod_tableGoes_66 : decode cMod_tableGoes 66 = .ok (.invokevirtual 156, 3) := by decide +kernel
theorem dMod_tableGoes_69 : decode cMod_tableGoes 69 = .ok (.aload_n 0, 1) := by decide +kernel
theorem dMod_tableGoes_70 : decode cMod_tableGoes 70 = .ok (.getfield 75, 3) := by decide +kernel
theorem dMod_tableGoes_73 : decode cMod_tableGoes 73 = .ok (.iload_n 1, 1) := by decide +kernel
theorem dMod_tableGoes_74 : decode cMod_tableGoes 74 = .ok (.iload_n 2, 1) := by decide +kernel
theorem dMod_tableGoes_75 : decode cMod_tableGoes 75 = .ok (.iconst 1, 1) := by decide +kernel
theorem dMod_tableGoes_76 : decode cMod_tableGoes 76 = .ok (.iadd, 1) := by decide +kernel
theorem dMod_tableGoes_77 : decode cMod_tableGoes 77 = .ok (.iastore, 1) := by decide +kernel
theorem dMod_tableGoes_78 : decode cMod_tableGoes 78 = .ok (.aload_n 0, 1) := by decide +kernel
theorem dMod_tableGoes_79 : decode cMod_tableGoes 79 = .ok (.iload_n 1, 1) := by decide +kernel
theorem dMod_tableGoes_80 : decode cMod_tableGoes 80 = .ok (.lload_n 3, 1) := by decide +kernel
theorem dMod_tableGoes_81 : decode cMod_tableGoes 81 = .ok (.invokevirtual 152, 3) := by decide +kernel
theorem dMod_tableGoes_84 : decode cMod_tableGoes 84 = .ok (.ifCond .eq 7, 3) := by decide +kernel
theorem dMod_tableGoes_87 : decode cMod_tableGoes 87 = .ok (.iload_n 1, 1) := by decide +kernel
theorem dMod_tableGoes_88 : decode cMod_tableGoes 88 = .ok (.goto 4, 3) := by decide +kernel
theorem dMod_tableGoes_91 : decode cMod_tableGoes 91 = .ok (.iconst 0, 1) := by decide +kernel
theorem dMod_tableGoes_92 : decode cMod_tableGoes 92 = .ok (.ireturn, 1) := by decide +kernel
theorem dMod_tableGoes_93 : decode cMod_tableGoes 93 = .ok (.aload_n 0, 1) := by decide +kernel
theorem dMod_tableGoes_94 : decode cMod_tableGoes 94 = .ok (.iconst 2, 1) := by decide +kernel
theorem dMod_tableGoes_95 : decode cMod_tableGoes 95 = .ok (.iload_n 1, 1) := by decide +kernel
theorem dMod_tableGoes_96 : decode cMod_tableGoes 96 = .ok (.lconst 0, 1) := by decide +kernel
theorem dMod_tableGoes_97 : decode cMod_tableGoes 97 = .ok (.aload_n 0, 1) := by decide +kernel
theorem dMod_tableGoes_98 : decode cMod_tableGoes 98 = .ok (.getfield 48, 3) := by decide +kernel
theorem dMod_tableGoes_101 : decode cMod_tableGoes 101 = .ok (.iload_n 1, 1) := by decide +kernel
theorem dMod_tableGoes_102 : decode cMod_tableGoes 102 = .ok (.iaload, 1) := by decide +kernel
theorem dMod_tableGoes_103 : decode cMod_tableGoes 103 = .ok (.invokevirtual 156, 3) := by decide +kernel
theorem dMod_tableGoes_106 : decode cMod_tableGoes 106 = .ok (.aload_n 0, 1) := by decide +kernel
theorem dMod_tableGoes_107 : decode cMod_tableGoes 107 = .ok (.getfield 69, 3) := by decide +kernel
theorem dMod_tableGoes_110 : decode cMod_tableGoes 110 = .ok (.iload_n 1, 1) := by decide +kernel
theorem dMod_tableGoes_111 : decode cMod_tableGoes 111 = .ok (.iconst 0, 1) := by decide +kernel
theorem dMod_tableGoes_112 : decode cMod_tableGoes 112 = .ok (.bastore, 1) := by decide +kernel
theorem dMod_tableGoes_113 : decode cMod_tableGoes 113 = .ok (.aload_n 0, 1) := by decide +kernel
theorem dMod_tableGoes_114 : decode cMod_tableGoes 114 = .ok (.getfield 63, 3) := by decide +kernel
theorem dMod_tableGoes_117 : decode cMod_tableGoes 117 = .ok (.iload_n 1, 1) := by decide +kernel
theorem dMod_tableGoes_118 : decode cMod_tableGoes 118 = .ok (.iaload, 1) := by decide +kernel
theorem dMod_tableGoes_119 : decode cMod_tableGoes 119 = .ok (.istore_n 3, 1) := by decide +kernel
theorem dMod_tableGoes_120 : decode cMod_tableGoes 120 = .ok (.iload_n 3, 1) := by decide +kernel
theorem dMod_tableGoes_121 : decode cMod_tableGoes 121 = .ok (.ifCond .eq 12, 3) := by decide +kernel
theorem dMod_tableGoes_124 : decode cMod_tableGoes 124 = .ok (.aload_n 0, 1) := by decide +kernel
theorem dMod_tableGoes_125 : decode cMod_tableGoes 125 = .ok (.getfield 69, 3) := by decide +kernel
theorem dMod_tableGoes_128 : decode cMod_tableGoes 128 = .ok (.iload_n 3, 1) := by decide +kernel
theorem dMod_tableGoes_129 : decode cMod_tableGoes 129 = .ok (.baload, 1) := by decide +kernel
theorem dMod_tableGoes_130 : decode cMod_tableGoes 130 = .ok (.ifCond .eq 5, 3) := by decide +kernel
theorem dMod_tableGoes_133 : decode cMod_tableGoes 133 = .ok (.iconst 0, 1) := by decide +kernel
theorem dMod_tableGoes_134 : decode cMod_tableGoes 134 = .ok (.ireturn, 1) := by decide +kernel
theorem dMod_tableGoes_135 : decode cMod_tableGoes 135 = .ok (.aload_n 0, 1) := by decide +kernel
theorem dMod_tableGoes_136 : decode cMod_tableGoes 136 = .ok (.getfield 66, 3) := by decide +kernel
theorem dMod_tableGoes_139 : decode cMod_tableGoes 139 = .ok (.iload_n 3, 1) := by decide +kernel
theorem dMod_tableGoes_140 : decode cMod_tableGoes 140 = .ok (.iload_n 3, 1) := by decide +kernel
theorem dMod_tableGoes_141 : decode cMod_tableGoes 141 = .ok (.iload_n 1, 1) := by decide +kernel
theorem dMod_tableGoes_142 : decode cMod_tableGoes 142 = .ok (.if_icmp .ne 12, 3) := by decide +kernel
theorem dMod_tableGoes_145 : decode cMod_tableGoes 145 = .ok (.aload_n 0, 1) := by decide +kernel
theorem dMod_tableGoes_146 : decode cMod_tableGoes 146 = .ok (.getfield 66, 3) := by decide +kernel
theorem dMod_tableGoes_149 : decode cMod_tableGoes 149 = .ok (.iload_n 3, 1) := by decide +kernel
theorem dMod_tableGoes_150 : decode cMod_tableGoes 150 = .ok (.laload, 1) := by decide +kernel
theorem dMod_tableGoes_151 : decode cMod_tableGoes 151 = .ok (.goto 4, 3) := by decide +kernel
theorem dMod_tableGoes_154 : decode cMod_tableGoes 154 = .ok (.lconst 0, 1) := by decide +kernel
theorem dMod_tableGoes_155 : decode cMod_tableGoes 155 = .ok (.lastore, 1) := by decide +kernel
theorem dMod_tableGoes_156 : decode cMod_tableGoes 156 = .ok (.aload_n 0, 1) := by decide +kernel
theorem dMod_tableGoes_157 : decode cMod_tableGoes 157 = .ok (.getfield 69, 3) := by decide +kernel
theorem dMod_tableGoes_160 : decode cMod_tableGoes 160 = .ok (.iload_n 3, 1) := by decide +kernel
theorem dMod_tableGoes_161 : decode cMod_tableGoes 161 = .ok (.iconst 1, 1) := by decide +kernel
theorem dMod_tableGoes_162 : decode cMod_tableGoes 162 = .ok (.bastore, 1) := by decide +kernel
theorem dMod_tableGoes_163 : decode cMod_tableGoes 163 = .ok (.aload_n 0, 1) := by decide +kernel
theorem dMod_tableGoes_164 : decode cMod_tableGoes 164 = .ok (.getfield 75, 3) := by decide +kernel
theorem dMod_tableGoes_167 : decode cMod_tableGoes 167 = .ok (.iload_n 3, 1) := by decide +kernel
theorem dMod_tableGoes_168 : decode cMod_tableGoes 168 = .ok (.iconst (-1), 1) := by decide +kernel
theorem dMod_tableGoes_169 : decode cMod_tableGoes 169 = .ok (.iastore, 1) := by decide +kernel
theorem dMod_tableGoes_170 : decode cMod_tableGoes 170 = .ok (.aload_n 0, 1) := by decide +kernel
theorem dMod_tableGoes_171 : decode cMod_tableGoes 171 = .ok (.getfield 72, 3) := by decide +kernel
theorem dMod_tableGoes_174 : decode cMod_tableGoes 174 = .ok (.iload_n 3, 1) := by decide +kernel
theorem dMod_tableGoes_175 : decode cMod_tableGoes 175 = .ok (.aload_n 0, 1) := by decide +kernel
theorem dMod_tableGoes_176 : decode cMod_tableGoes 176 = .ok (.getfield 19, 3) := by decide +kernel
theorem dMod_tableGoes_179 : decode cMod_tableGoes 179 = .ok (.aload_n 0, 1) := by decide +kernel
theorem dMod_tableGoes_180 : decode cMod_tableGoes 180 = .ok (.getfield 48, 3) := by decide +kernel
theorem dMod_tableGoes_183 : decode cMod_tableGoes 183 = .ok (.iload_n 3, 1) := by decide +kernel
theorem dMod_tableGoes_184 : decode cMod_tableGoes 184 = .ok (.iaload, 1) := by decide +kernel
theorem dMod_tableGoes_185 : decode cMod_tableGoes 185 = .ok (.laload, 1) := by decide +kernel
theorem dMod_tableGoes_186 : decode cMod_tableGoes 186 = .ok (.lastore, 1) := by decide +kernel
theorem dMod_tableGoes_187 : decode cMod_tableGoes 187 = .ok (.iload_n 3, 1) := by decide +kernel
theorem dMod_tableGoes_188 : decode cMod_tableGoes 188 = .ok (.ireturn, 1) := by decide +kernel
theorem dMod_goTable_0 : decode cMod_goTable 0 = .ok (.aload_n 0, 1) := by decide +kernel
theorem dMod_goTable_1 : decode cMod_goTable 1 = .ok (.getfield 75, 3) := by decide +kernel
theorem dMod_goTable_4 : decode cMod_goTable 4 = .ok (.iload_n 2, 1) := by decide +kernel
theorem dMod_goTable_5 : decode cMod_goTable 5 = .ok (.iaload, 1) := by decide +kernel
theorem dMod_goTable_6 : decode cMod_goTable 6 = .ok (.istore_n 3, 1) := by decide +kernel
theorem dMod_goTable_7 : decode cMod_goTable 7 = .ok (.aload_n 0, 1) := by decide +kernel
theorem dMod_goTable_8 : decode cMod_goTable 8 = .ok (.getfield 93, 3) := by decide +kernel
theorem dMod_goTable_11 : decode cMod_goTable 11 = .ok (.iload_n 1, 1) := by decide +kernel
theorem dMod_goTable_12 : decode cMod_goTable 12 = .ok (.aload_n 0, 1) := by decide +kernel
theorem dMod_goTable_13 : decode cMod_goTable 13 = .ok (.iload_n 2, 1) := by decide +kernel
theorem dMod_goTable_14 : decode cMod_goTable 14 = .ok (.invokevirtual 160, 3) := by decide +kernel
theorem dMod_goTable_17 : decode cMod_goTable 17 = .ok (.iastore, 1) := by decide +kernel
theorem dMod_goTable_18 : decode cMod_goTable 18 = .ok (.iload_n 3, 1) := by decide +kernel
theorem dMod_goTable_19 : decode cMod_goTable 19 = .ok (.ifCond .lt 13, 3) := by decide +kernel
theorem dMod_goTable_22 : decode cMod_goTable 22 = .ok (.iload_n 3, 1) := by decide +kernel
theorem dMod_goTable_23 : decode cMod_goTable 23 = .ok (.aload_n 0, 1) := by decide +kernel
theorem dMod_goTable_24 : decode cMod_goTable 24 = .ok (.getfield 54, 3) := by decide +kernel
theorem dMod_goTable_27 : decode cMod_goTable 27 = .ok (.iload_n 2, 1) := by decide +kernel
theorem dMod_goTable_28 : decode cMod_goTable 28 = .ok (.iaload, 1) := by decide +kernel
theorem dMod_goTable_29 : decode cMod_goTable 29 = .ok (.if_icmp .lt 4, 3) := by decide +kernel
theorem dMod_goTable_32 : decode cMod_goTable 32 = .ok (.return_, 1) := by decide +kernel
theorem dMod_goTable_33 : decode cMod_goTable 33 = .ok (.aload_n 0, 1) := by decide +kernel
theorem dMod_goTable_34 : decode cMod_goTable 34 = .ok (.getfield 60, 3) := by decide +kernel
theorem dMod_goTable_37 : decode cMod_goTable 37 = .ok (.bipush 20, 2) := by decide +kernel
theorem dMod_goTable_39 : decode cMod_goTable 39 = .ok (.iload_n 2, 1) := by decide +kernel
theorem dMod_goTable_40 : decode cMod_goTable 40 = .ok (.imul, 1) := by decide +kernel
theorem dMod_goTable_41 : decode cMod_goTable 41 = .ok (.iload_n 3, 1) := by decide +kernel
theorem dMod_goTable_42 : decode cMod_goTable 42 = .ok (.iadd, 1) := by decide +kernel
theorem dMod_goTable_43 : decode cMod_goTable 43 = .ok (.iaload, 1) := by decide +kernel
theorem dMod_goTable_44 : decode cMod_goTable 44 = .ok (.istore 4, 2) := by decide +kernel
theorem dMod_goTable_46 : decode cMod_goTable 46 = .ok (.iload 4, 2) := by decide +kernel
theorem dMod_goTable_48 : decode cMod_goTable 48 = .ok (.ifCond .le 9, 3) := by decide +kernel
theorem dMod_goTable_51 : decode cMod_goTable 51 = .ok (.aload_n 0, 1) := by decide +kernel
theorem dMod_goTable_52 : decode cMod_goTable 52 = .ok (.iload 4, 2) := by decide +kernel
theorem dMod_goTable_54 : decode cMod_goTable 54 = .ok (.invokevirtual 164, 3) := by decide +kernel
theorem dMod_goTable_57 : decode cMod_goTable 57 = .ok (.iload 4, 2) := by decide +kernel
theorem dMod_goTable_59 : decode cMod_goTable 59 = .ok (.ifCond .ge 12, 3) := by decide +kernel
theorem dMod_goTable_62 : decode cMod_goTable 62 = .ok (.aload_n 0, 1) := by decide +kernel
theorem dMod_goTable_63 : decode cMod_goTable 63 = .ok (.getfield 39, 3) := by decide +kernel
theorem dMod_goTable_66 : decode cMod_goTable 66 = .ok (.iload 4, 2) := by decide +kernel
theorem dMod_goTable_68 : decode cMod_goTable 68 = .ok (.ineg, 1) := by decide +kernel
theorem dMod_goTable_69 : decode cMod_goTable 69 = .ok (.iconst 0, 1) := by decide +kernel
theorem dMod_goTable_70 : decode cMod_goTable 70 = .ok (.bastore, 1) := by decide +kernel
theorem dMod_goTable_71 : decode cMod_goTable 71 = .ok (.return_, 1) := by decide +kernel
theorem dMod_goAlarm_0 : decode cMod_goAlarm 0 = .ok (.aload_n 0, 1) := by decide +kernel
theorem dMod_goAlarm_1 : decode cMod_goAlarm 1 = .ok (.getfield 29, 3) := by decide +kernel
theorem dMod_goAlarm_4 : decode cMod_goAlarm 4 = .ok (.iload_n 1, 1) := by decide +kernel
theorem dMod_goAlarm_5 : decode cMod_goAlarm 5 = .ok (.iaload, 1) := by decide +kernel
theorem dMod_goAlarm_6 : decode cMod_goAlarm 6 = .ok (.istore_n 2, 1) := by decide +kernel
theorem dMod_goAlarm_7 : decode cMod_goAlarm 7 = .ok (.aload_n 0, 1) := by decide +kernel
theorem dMod_goAlarm_8 : decode cMod_goAlarm 8 = .ok (.iconst 0, 1) := by decide +kernel
theorem dMod_goAlarm_9 : decode cMod_goAlarm 9 = .ok (.iload_n 1, 1) := by decide +kernel
theorem dMod_goAlarm_10 : decode cMod_goAlarm 10 = .ok (.lconst 0, 1) := by decide +kernel
theorem dMod_goAlarm_11 : decode cMod_goAlarm 11 = .ok (.iload_n 2, 1) := by decide +kernel
theorem dMod_goAlarm_12 : decode cMod_goAlarm 12 = .ok (.invokevirtual 156, 3) := by decide +kernel
theorem dMod_goAlarm_15 : decode cMod_goAlarm 15 = .ok (.aload_n 0, 1) := by decide +kernel
theorem dMod_goAlarm_16 : decode cMod_goAlarm 16 = .ok (.getfield 39, 3) := by decide +kernel
theorem dMod_goAlarm_19 : decode cMod_goAlarm 19 = .ok (.iload_n 1, 1) := by decide +kernel
theorem dMod_goAlarm_20 : decode cMod_goAlarm 20 = .ok (.aload_n 0, 1) := by decide +kernel
theorem dMod_goAlarm_21 : decode cMod_goAlarm 21 = .ok (.getfield 45, 3) := by decide +kernel
theorem dMod_goAlarm_24 : decode cMod_goAlarm 24 = .ok (.iload_n 1, 1) := by decide +kernel
theorem dMod_goAlarm_25 : decode cMod_goAlarm 25 = .ok (.laload, 1) := by decide +kernel
theorem dMod_goAlarm_26 : decode cMod_goAlarm 26 = .ok (.lconst 0, 1) := by decide +kernel
theorem dMod_goAlarm_27 : decode cMod_goAlarm 27 = .ok (.lcmp, 1) := by decide +kernel
theorem dMod_goAlarm_28 : decode cMod_goAlarm 28 = .ok (.ifCond .le 7, 3) := by decide +kernel
theorem dMod_goAlarm_31 : decode cMod_goAlarm 31 = .ok (.iconst 1, 1) := by decide +kernel
theorem dMod_goAlarm_32 : decode cMod_goAlarm 32 = .ok (.goto 4, 3) := by decide +kernel
theorem dMod_goAlarm_35 : decode cMod_goAlarm 35 = .ok (.iconst 0, 1) := by decide +kernel
theorem dMod_goAlarm_36 : decode cMod_goAlarm 36 = .ok (.bastore, 1) := by decide +kernel
theorem dMod_goAlarm_37 : decode cMod_goAlarm 37 = .ok (.aload_n 0, 1) := by decide +kernel
theorem dMod_goAlarm_38 : decode cMod_goAlarm 38 = .ok (.getfield 42, 3) := by decide +kernel
theorem dMod_goAlarm_41 : decode cMod_goAlarm 41 = .ok (.iload_n 1, 1) := by decide +kernel
theorem dMod_goAlarm_42 : decode cMod_goAlarm 42 = .ok (.aload_n 0, 1) := by decide +kernel
theorem dMod_goAlarm_43 : decode cMod_goAlarm 43 = .ok (.getfield 19, 3) := by decide +kernel
theorem dMod_goAlarm_46 : decode cMod_goAlarm 46 = .ok (.iload_n 2, 1) := by decide +kernel
theorem dMod_goAlarm_47 : decode cMod_goAlarm 47 = .ok (.laload, 1) := by decide +kernel
theorem dMod_goAlarm_48 : decode cMod_goAlarm 48 = .ok (.aload_n 0, 1) := by decide +kernel
theorem dMod_goAlarm_49 : decode cMod_goAlarm 49 = .ok (.getfield 45, 3) := by decide +kernel
theorem dMod_goAlarm_52 : decode cMod_goAlarm 52 = .ok (.iload_n 1, 1) := by decide +kernel
theorem dMod_goAlarm_53 : decode cMod_goAlarm 53 = .ok (.laload, 1) := by decide +kernel
theorem dMod_goAlarm_54 : decode cMod_goAlarm 54 = .ok (.ladd, 1) := by decide +kernel
theorem dMod_goAlarm_55 : decode cMod_goAlarm 55 = .ok (.lastore, 1) := by decide +kernel
theorem dMod_goAlarm_56 : decode cMod_goAlarm 56 = .ok (.aload_n 0, 1) := by decide +kernel
theorem dMod_goAlarm_57 : decode cMod_goAlarm 57 = .ok (.getfield 33, 3) := by decide +kernel
theorem dMod_goAlarm_60 : decode cMod_goAlarm 60 = .ok (.iload_n 1, 1) := by decide +kernel
theorem dMod_goAlarm_61 : decode cMod_goAlarm 61 = .ok (.iaload, 1) := by decide +kernel
theorem dMod_goAlarm_62 : decode cMod_goAlarm 62 = .ok (.iconst 1, 1) := by decide +kernel
theorem dMod_goAlarm_63 : decode cMod_goAlarm 63 = .ok (.if_icmp .ne 13, 3) := by decide +kernel
theorem dMod_goAlarm_66 : decode cMod_goAlarm 66 = .ok (.aload_n 0, 1) := by decide +kernel
theorem dMod_goAlarm_67 : decode cMod_goAlarm 67 = .ok (.aload_n 0, 1) := by decide +kernel
theorem dMod_goAlarm_68 : decode cMod_goAlarm 68 = .ok (.getfield 36, 3) := by decide +kernel
theorem dMod_goAlarm_71 : decode cMod_goAlarm 71 = .ok (.iload_n 1, 1) := by decide +kernel
theorem dMod_goAlarm_72 : decode cMod_goAlarm 72 = .ok (.iaload, 1) := by decide +kernel
theorem dMod_goAlarm_73 : decode cMod_goAlarm 73 = .ok (.invokevirtual 164, 3) := by decide +kernel
theorem dMod_goAlarm_76 : decode cMod_goAlarm 76 = .ok (.aload_n 0, 1) := by decide +kernel
theorem dMod_goAlarm_77 : decode cMod_goAlarm 77 = .ok (.getfield 33, 3) := by decide +kernel
theorem dMod_goAlarm_80 : decode cMod_goAlarm 80 = .ok (.iload_n 1, 1) := by decide +kernel
theorem dMod_goAlarm_81 : decode cMod_goAlarm 81 = .ok (.iaload, 1) := by decide +kernel
theorem dMod_goAlarm_82 : decode cMod_goAlarm 82 = .ok (.iconst 2, 1) := by decide +kernel
theorem dMod_goAlarm_83 : decode cMod_goAlarm 83 = .ok (.if_icmp .ne 15, 3) := by decide +kernel
theorem dMod_goAlarm_86 : decode cMod_goAlarm 86 = .ok (.aload_n 0, 1) := by decide +kernel
theorem dMod_goAlarm_87 : decode cMod_goAlarm 87 = .ok (.getfield 39, 3) := by decide +kernel
theorem dMod_goAlarm_90 : decode cMod_goAlarm 90 = .ok (.aload_n 0, 1) := by decide +kernel
theorem dMod_goAlarm_91 : decode cMod_goAlarm 91 = .ok (.getfield 36, 3) := by decide +kernel
theorem dMod_goAlarm_94 : decode cMod_goAlarm 94 = .ok (.iload_n 1, 1) := by decide +kernel
theorem dMod_goAlarm_95 : decode cMod_goAlarm 95 = .ok (.iaload, 1) := by decide +kernel
theorem dMod_goAlarm_96 : decode cMod_goAlarm 96 = .ok (.iconst 0, 1) := by decide +kernel
theorem dMod_goAlarm_97 : decode cMod_goAlarm 97 = .ok (.bastore, 1) := by decide +kernel
theorem dMod_goAlarm_98 : decode cMod_goAlarm 98 = .ok (.return_, 1) := by decide +kernel
theorem dMod_go_0 : decode cMod_go 0 = .ok (.aload_n 0, 1) := by decide +kernel
theorem dMod_go_1 : decode cMod_go 1 = .ok (.getfield 140, 3) := by decide +kernel
theorem dMod_go_4 : decode cMod_go 4 = .ok (.iconst 1, 1) := by decide +kernel
theorem dMod_go_5 : decode cMod_go 5 = .ok (.isub, 1) := by decide +kernel
theorem dMod_go_6 : decode cMod_go 6 = .ok (.istore_n 1, 1) := by decide +kernel
theorem dMod_go_7 : decode cMod_go 7 = .ok (.aload_n 0, 1) := by decide +kernel
theorem dMod_go_8 : decode cMod_go 8 = .ok (.getfield 90, 3) := by decide +kernel
theorem dMod_go_11 : decode cMod_go 11 = .ok (.iload_n 1, 1) := by decide +kernel
theorem dMod_go_12 : decode cMod_go 12 = .ok (.iaload, 1) := by decide +kernel
theorem dMod_go_13 : decode cMod_go 13 = .ok (.istore_n 2, 1) := by decide +kernel
theorem dMod_go_14 : decode cMod_go 14 = .ok (.aload_n 0, 1) := by decide +kernel
theorem dMod_go_15 : decode cMod_go 15 = .ok (.getfield 93, 3) := by decide +kernel
theorem dMod_go_18 : decode cMod_go 18 = .ok (.iload_n 1, 1) := by decide +kernel
theorem dMod_go_19 : decode cMod_go 19 = .ok (.iaload, 1) := by decide +kernel
theorem dMod_go_20 : decode cMod_go 20 = .ok (.ifCond .le 15, 3) := by decide +kernel
theorem dMod_go_23 : decode cMod_go 23 = .ok (.aload_n 0, 1) := by decide +kernel
theorem dMod_go_24 : decode cMod_go 24 = .ok (.iload_n 1, 1) := by decide +kernel
theorem dMod_go_25 : decode cMod_go 25 = .ok (.aload_n 0, 1) := by decide +kernel
theorem dMod_go_26 : decode cMod_go 26 = .ok (.getfield 93, 3) := by decide +kernel
theorem dMod_go_29 : decode cMod_go 29 = .ok (.iload_n 1, 1) := by decide +kernel
theorem dMod_go_30 : decode cMod_go 30 = .ok (.iaload, 1) := by decide +kernel
theorem dMod_go_31 : decode cMod_go 31 = .ok (.invokevirtual 167, 3) := by decide +kernel
theorem dMod_go_34 : decode cMod_go 34 = .ok (.return_, 1) := by decide +kernel
theorem dMod_go_35 : decode cMod_go 35 = .ok (.iconst 1, 1) := by decide +kernel
theorem dMod_go_36 : decode cMod_go 36 = .ok (.istore_n 3, 1) := by decide +kernel
theorem dMod_go_37 : decode cMod_go 37 = .ok (.iload_n 3, 1) := by decide +kernel
theorem dMod_go_38 : decode cMod_go 38 = .ok (.aload_n 0, 1) := by decide +kernel
theorem dMod_go_39 : decode cMod_go 39 = .ok (.getfield 103, 3) := by decide +kernel
theorem dMod_go_42 : decode cMod_go 42 = .ok (.if_icmp .gt 50, 3) := by decide +kernel
theorem dMod_go_45 : decode cMod_go 45 = .ok (.aload_n 0, 1) := by decide +kernel
theorem dMod_go_46 : decode cMod_go 46 = .ok (.getfield 39, 3) := by decide +kernel
theorem dMod_go_49 : decode cMod_go 49 = .ok (.iload_n 3, 1) := by decide +kernel
theorem dMod_go_50 : decode cMod_go 50 = .ok (.baload, 1) := by decide +kernel
theorem dMod_go_51 : decode cMod_go 51 = .ok (.ifCond .eq 35, 3) := by decide +kernel
theorem dMod_go_54 : decode cMod_go 54 = .ok (.aload_n 0, 1) := by decide +kernel
theorem dMod_go_55 : decode cMod_go 55 = .ok (.getfield 29, 3) := by decide +kernel
theorem dMod_go_58 : decode cMod_go 58 = .ok (.iload_n 3, 1) := by decide +kernel
theorem dMod_go_59 : decode cMod_go 59 = .ok (.iaload, 1) := by decide +kernel
theorem dMod_go_60 : decode cMod_go 60 = .ok (.iload_n 2, 1) := by decide +kernel
theorem dMod_go_61 : decode cMod_go 61 = .ok (.if_icmp .ne 25, 3) := by decide +kernel
theorem dMod_go_64 : decode cMod_go 64 = .ok (.aload_n 0, 1) := by decide +kernel
theorem dMod_go_65 : decode cMod_go 65 = .ok (.getfield 42, 3) := by decide +kernel
theorem dMod_go_68 : decode cMod_go 68 = .ok (.iload_n 3, 1) := by decide +kernel
theorem dMod_go_69 : decode cMod_go 69 = .ok (.laload, 1) := by decide +kernel
theorem dMod_go_70 : decode cMod_go 70 = .ok (.aload_n 0, 1) := by decide +kernel
theorem dMod_go_71 : decode cMod_go 71 = .ok (.getfield 19, 3) := by decide +kernel
theorem dMod_go_74 : decode cMod_go 74 = .ok (.iload_n 2, 1) := by decide +kernel
theorem dMod_go_75 : decode cMod_go 75 = .ok (.laload, 1) := by decide +kernel
theorem dMod_go_76 : decode cMod_go 76 = .ok (.lcmp, 1) := by decide +kernel
theorem dMod_go_77 : decode cMod_go 77 = .ok (.ifCond .ne 9, 3) := by decide +kernel
theorem dMod_go_80 : decode cMod_go 80 = .ok (.aload_n 0, 1) := by decide +kernel
theorem dMod_go_81 : decode cMod_go 81 = .ok (.iload_n 3, 1) := by decide +kernel
theorem dMod_go_82 : decode cMod_go 82 = .ok (.invokevirtual 171, 3) := by decide +kernel
theorem dMod_go_85 : decode cMod_go 85 = .ok (.return_, 1) := by decide +kernel
theorem dMod_go_86 : decode cMod_go 86 = .ok (.iinc 3 1, 3) := by decide +kernel
theorem dMod_go_89 : decode cMod_go 89 = .ok (.goto (-52), 3) := by decide +kernel
theorem dMod_go_92 : decode cMod_go 92 = .ok (.iconst 1, 1) := by decide +kernel
theorem dMod_go_93 : decode cMod_go 93 = .ok (.istore_n 3, 1) := by decide +kernel
theorem dMod_go_94 : decode cMod_go 94 = .ok (.iload_n 3, 1) := by decide +kernel
theorem dMod_go_95 : decode cMod_go 95 = .ok (.aload_n 0, 1) := by decide +kernel
theorem dMod_go_96 : decode cMod_go 96 = .ok (.getfield 106, 3) := by decide +kernel
theorem dMod_go_99 : decode cMod_go 99 = .ok (.if_icmp .gt 60, 3) := by decide +kernel
theorem dMod_go_102 : decode cMod_go 102 = .ok (.aload_n 0, 1) := by decide +kernel
theorem dMod_go_103 : decode cMod_go 103 = .ok (.getfield 69, 3) := by decide +kernel
theorem dMod_go_106 : decode cMod_go 106 = .ok (.iload_n 3, 1) := by decide +kernel
theorem dMod_go_107 : decode cMod_go 107 = .ok (.baload, 1) := by decide +kernel
theorem dMod_go_108 : decode cMod_go 108 = .ok (.ifCond .eq 45, 3) := by decide +kernel
theorem dMod_go_111 : decode cMod_go 111 = .ok (.aload_n 0, 1) := by decide +kernel
theorem dMod_go_112 : decode cMod_go 112 = .ok (.getfield 48, 3) := by decide +kernel
theorem dMod_go_115 : decode cMod_go 115 = .ok (.iload_n 3, 1) := by decide +kernel
theorem dMod_go_116 : decode cMod_go 116 = .ok (.iaload, 1) := by decide +kernel
theorem dMod_go_117 : decode cMod_go 117 = .ok (.iload_n 2, 1) := by decide +kernel
theorem dMod_go_118 : decode cMod_go 118 = .ok (.if_icmp .ne 35, 3) := by decide +kernel
theorem dMod_go_121 : decode cMod_go 121 = .ok (.aload_n 0, 1) := by decide +kernel
theorem dMod_go_122 : decode cMod_go 122 = .ok (.getfield 72, 3) := by decide +kernel
theorem dMod_go_125 : decode cMod_go 125 = .ok (.iload_n 3, 1) := by decide +kernel
theorem dMod_go_126 : decode cMod_go 126 = .ok (.laload, 1) := by decide +kernel
theorem dMod_go_127 : decode cMod_go 127 = .ok (.aload_n 0, 1) := by decide +kernel
theorem dMod_go_128 : decode cMod_go 128 = .ok (.getfield 19, 3) := by decide +kernel
theorem dMod_go_131 : decode cMod_go 131 = .ok (.iload_n 2, 1) := by decide +kernel
theorem dMod_go_132 : decode cMod_go 132 = .ok (.laload, 1) := by decide +kernel
theorem dMod_go_133 : decode cMod_go 133 = .ok (.lcmp, 1) := by decide +kernel
theorem dMod_go_134 : decode cMod_go 134 = .ok (.ifCond .ne 19, 3) := by decide +kernel
theorem dMod_go_137 : decode cMod_go 137 = .ok (.aload_n 0, 1) := by decide +kernel
theorem dMod_go_138 : decode cMod_go 138 = .ok (.getfield 72, 3) := by decide +kernel
theorem dMod_go_141 : decode cMod_go 141 = .ok (.iload_n 3, 1) := by decide +kernel
theorem dMod_go_142 : decode cMod_go 142 = .ok (.ldc2_w 174, 3) := by decide +kernel
theorem dMod_go_145 : decode cMod_go 145 = .ok (.lastore, 1) := by decide +kernel
theorem dMod_go_146 : decode cMod_go 146 = .ok (.aload_n 0, 1) := by decide +kernel
theorem dMod_go_147 : decode cMod_go 147 = .ok (.iload_n 1, 1) := by decide +kernel
theorem dMod_go_148 : decode cMod_go 148 = .ok (.iload_n 3, 1) := by decide +kernel
theorem dMod_go_149 : decode cMod_go 149 = .ok (.invokevirtual 167, 3) := by decide +kernel
theorem dMod_go_152 : decode cMod_go 152 = .ok (.return_, 1) := by decide +kernel
theorem dMod_go_153 : decode cMod_go 153 = .ok (.iinc 3 1, 3) := by decide +kernel
theorem dMod_go_156 : decode cMod_go 156 = .ok (.goto (-62), 3) := by decide +kernel
theorem dMod_go_159 : decode cMod_go 159 = .ok (.aload_n 0, 1) := by decide +kernel
theorem dMod_go_160 : decode cMod_go 160 = .ok (.dup, 1) := by decide +kernel
theorem dMod_go_161 : decode cMod_go 161 = .ok (.getfield 140, 3) := by decide +kernel
theorem dMod_go_164 : decode cMod_go 164 = .ok (.iconst 1, 1) := by decide +kernel
theorem dMod_go_165 : decode cMod_go 165 = .ok (.isub, 1) := by decide +kernel
theorem dMod_go_166 : decode cMod_go 166 = .ok (.putfield 140, 3) := by decide +kernel
theorem dMod_go_169 : decode cMod_go 169 = .ok (.return_, 1) := by decide +kernel
theorem dMod_tick_0 : decode cMod_tick 0 = .ok (.aload_n 0, 1) := by decide +kernel
theorem dMod_tick_1 : decode cMod_tick 1 = .ok (.iload_n 1, 1) := by decide +kernel
theorem dMod_tick_2 : decode cMod_tick 2 = .ok (.invokevirtual 113, 3) := by decide +kernel
theorem dMod_tick_5 : decode cMod_tick 5 = .ok (.ifCond .eq 5, 3) := by decide +kernel
theorem dMod_tick_8 : decode cMod_tick 8 = .ok (.iconst (-1), 1) := by decide +kernel
theorem dMod_tick_9 : decode cMod_tick 9 = .ok (.ireturn, 1) := by decide +kernel
theorem dMod_tick_10 : decode cMod_tick 10 = .ok (.lload_n 2, 1) := by decide +kernel
theorem dMod_tick_11 : decode cMod_tick 11 = .ok (.lconst 0, 1) := by decide +kernel
theorem dMod_tick_12 : decode cMod_tick 12 = .ok (.lcmp, 1) := by decide +kernel
theorem dMod_tick_13 : decode cMod_tick 13 = .ok (.ifCond .lt 33, 3) := by decide +kernel
theorem dMod_tick_16 : decode cMod_tick 16 = .ok (.lload_n 2, 1) := by decide +kernel
theorem dMod_tick_17 : decode cMod_tick 17 = .ok (.ldc2_w 176, 3) := by decide +kernel
theorem dMod_tick_20 : decode cMod_tick 20 = .ok (.lcmp, 1) := by decide +kernel
theorem dMod_tick_21 : decode cMod_tick 21 = .ok (.ifCond .gt 25, 3) := by decide +kernel
theorem dMod_tick_24 : decode cMod_tick 24 = .ok (.aload_n 0, 1) := by decide +kernel
theorem dMod_tick_25 : decode cMod_tick 25 = .ok (.getfield 16, 3) := by decide +kernel
theorem dMod_tick_28 : decode cMod_tick 28 = .ok (.iload_n 1, 1) := by decide +kernel
theorem dMod_tick_29 : decode cMod_tick 29 = .ok (.laload, 1) := by decide +kernel
theorem dMod_tick_30 : decode cMod_tick 30 = .ok (.lload_n 2, 1) := by decide +kernel
theorem dMod_tick_31 : decode cMod_tick 31 = .ok (.ladd, 1) := by decide +kernel
theorem dMod_tick_32 : decode cMod_tick 32 = .ok (.aload_n 0, 1) := by decide +kernel
theorem dMod_tick_33 : decode cMod_tick 33 = .ok (.getfield 13, 3) := by decide +kernel
theorem dMod_tick_36 : decode cMod_tick 36 = .ok (.iload_n 1, 1) := by decide +kernel
theorem dMod_tick_37 : decode cMod_tick 37 = .ok (.laload, 1) := by decide +kernel
theorem dMod_tick_38 : decode cMod_tick 38 = .ok (.ldiv, 1) := by decide +kernel
theorem dMod_tick_39 : decode cMod_tick 39 = .ok (.ldc2_w 178, 3) := by decide +kernel
theorem dMod_tick_42 : decode cMod_tick 42 = .ok (.lcmp, 1) := by decide +kernel
theorem dMod_tick_43 : decode cMod_tick 43 = .ok (.ifCond .le 6, 3) := by decide +kernel
theorem dMod_tick_46 : decode cMod_tick 46 = .ok (.bipush (-2), 2) := by decide +kernel
theorem dMod_tick_48 : decode cMod_tick 48 = .ok (.ireturn, 1) := by decide +kernel
theorem dMod_tick_49 : decode cMod_tick 49 = .ok (.aload_n 0, 1) := by decide +kernel
theorem dMod_tick_50 : decode cMod_tick 50 = .ok (.getfield 137, 3) := by decide +kernel
theorem dMod_tick_53 : decode cMod_tick 53 = .ok (.istore 4, 2) := by decide +kernel
theorem dMod_tick_55 : decode cMod_tick 55 = .ok (.aload_n 0, 1) := by decide +kernel
theorem dMod_tick_56 : decode cMod_tick 56 = .ok (.iconst 0, 1) := by decide +kernel
theorem dMod_tick_57 : decode cMod_tick 57 = .ok (.putfield 143, 3) := by decide +kernel
theorem dMod_tick_60 : decode cMod_tick 60 = .ok (.aload_n 0, 1) := by decide +kernel
theorem dMod_tick_61 : decode cMod_tick 61 = .ok (.getfield 16, 3) := by decide +kernel
theorem dMod_tick_64 : decode cMod_tick 64 = .ok (.iload_n 1, 1) := by decide +kernel
theorem dMod_tick_65 : decode cMod_tick 65 = .ok (.laload, 1) := by decide +kernel
theorem dMod_tick_66 : decode cMod_tick 66 = .ok (.lload_n 2, 1) := by decide +kernel
theorem dMod_tick_67 : decode cMod_tick 67 = .ok (.ladd, 1) := by decide +kernel
theorem dMod_tick_68 : decode cMod_tick 68 = .ok (.lstore 5, 2) := by decide +kernel
theorem dMod_tick_70 : decode cMod_tick 70 = .ok (.aload_n 0, 1) := by decide +kernel
theorem dMod_tick_71 : decode cMod_tick 71 = .ok (.getfield 16, 3) := by decide +kernel
theorem dMod_tick_74 : decode cMod_tick 74 = .ok (.iload_n 1, 1) := by decide +kernel
theorem dMod_tick_75 : decode cMod_tick 75 = .ok (.lload 5, 2) := by decide +kernel
theorem dMod_tick_77 : decode cMod_tick 77 = .ok (.aload_n 0, 1) := by decide +kernel
theorem dMod_tick_78 : decode cMod_tick 78 = .ok (.getfield 13, 3) := by decide +kernel
theorem dMod_tick_81 : decode cMod_tick 81 = .ok (.iload_n 1, 1) := by decide +kernel
theorem dMod_tick_82 : decode cMod_tick 82 = .ok (.laload, 1) := by decide +kernel
theorem dMod_tick_83 : decode cMod_tick 83 = .ok (.lrem, 1) := by decide +kernel
theorem dMod_tick_84 : decode cMod_tick 84 = .ok (.lastore, 1) := by decide +kernel
theorem dMod_tick_85 : decode cMod_tick 85 = .ok (.lconst 0, 1) := by decide +kernel
theorem dMod_tick_86 : decode cMod_tick 86 = .ok (.lstore 7, 2) := by decide +kernel
theorem dMod_tick_88 : decode cMod_tick 88 = .ok (.lload 7, 2) := by decide +kernel
theorem dMod_tick_90 : decode cMod_tick 90 = .ok (.lload 5, 2) := by decide +kernel
theorem dMod_tick_92 : decode cMod_tick 92 = .ok (.aload_n 0, 1) := by decide +kernel
theorem dMod_tick_93 : decode cMod_tick 93 = .ok (.getfield 13, 3) := by decide +kernel
theorem dMod_tick_96 : decode cMod_tick 96 = .ok (.iload_n 1, 1) := by decide +kernel
theorem dMod_tick_97 : decode cMod_tick 97 = .ok (.laload, 1) := by decide +kernel
theorem dMod_tick_98 : decode cMod_tick 98 = .ok (.ldiv, 1) := by decide +kernel
theorem dMod_tick_99 : decode cMod_tick 99 = .ok (.lcmp, 1) := by decide +kernel
theorem dMod_tick_100 : decode cMod_tick 100 = .ok (.ifCond .ge 36, 3) := by decide +kernel
theorem dMod_tick_103 : decode cMod_tick 103 = .ok (.aload_n 0, 1) := by decide +kernel
theorem dMod_tick_104 : decode cMod_tick 104 = .ok (.iconst 0, 1) := by decide +kernel
theorem dMod_tick_105 : decode cMod_tick 105 = .ok (.putfield 140, 3) := by decide +kernel
theorem dMod_tick_108 : decode cMod_tick 108 = .ok (.aload_n 0, 1) := by decide +kernel
theorem dMod_tick_109 : decode cMod_tick 109 = .ok (.iload_n 1, 1) := by decide +kernel
theorem dMod_tick_110 : decode cMod_tick 110 = .ok (.invokevirtual 146, 3) := by decide +kernel
theorem dMod_tick_113 : decode cMod_tick 113 = .ok (.aload_n 0, 1) := by decide +kernel
theorem dMod_tick_114 : decode cMod_tick 114 = .ok (.getfield 140, 3) := by decide +kernel
theorem dMod_tick_117 : decode cMod_tick 117 = .ok (.ifCond .le 10, 3) := by decide +kernel
theorem dMod_tick_120 : decode cMod_tick 120 = .ok (.aload_n 0, 1) := by decide +kernel
theorem dMod_tick_121 : decode cMod_tick 121 = .ok (.invokevirtual 180, 3) := by decide +kernel
theorem dMod_tick_124 : decode cMod_tick 124 = .ok (.goto (-11), 3) := by decide +kernel
theorem dMod_tick_127 : decode cMod_tick 127 = .ok (.lload 7, 2) := by decide +kernel
theorem dMod_tick_129 : decode cMod_tick 129 = .ok (.lconst 1, 1) := by decide +kernel
theorem dMod_tick_130 : decode cMod_tick 130 = .ok (.ladd, 1) := by decide +kernel
theorem dMod_tick_131 : decode cMod_tick 131 = .ok (.lstore 7, 2) := by decide +kernel
theorem dMod_tick_133 : decode cMod_tick 133 = .ok (.goto (-45), 3) := by decide +kernel
theorem dMod_tick_136 : decode cMod_tick 136 = .ok (.aload_n 0, 1) := by decide +kernel
theorem dMod_tick_137 : decode cMod_tick 137 = .ok (.getfield 137, 3) := by decide +kernel
theorem dMod_tick_140 : decode cMod_tick 140 = .ok (.iload 4, 2) := by decide +kernel
theorem dMod_tick_142 : decode cMod_tick 142 = .ok (.isub, 1) := by decide +kernel
theorem dMod_tick_143 : decode cMod_tick 143 = .ok (.ireturn, 1) := by decide +kernel
theorem dMod_expired_0 : decode cMod_expired 0 = .ok (.aload_n 0, 1) := by decide +kernel
theorem dMod_expired_1 : decode cMod_expired 1 = .ok (.iconst 0, 1) := by decide +kernel
theorem dMod_expired_2 : decode cMod_expired 2 = .ok (.putfield 96, 3) := by decide +kernel
theorem dMod_expired_5 : decode cMod_expired 5 = .ok (.iload_n 1, 1) := by decide +kernel
theorem dMod_expired_6 : decode cMod_expired 6 = .ok (.iconst (-1), 1) := by decide +kernel
theorem dMod_expired_7 : decode cMod_expired 7 = .ok (.if_icmp .ne 12, 3) := by decide +kernel
theorem dMod_expired_10 : decode cMod_expired 10 = .ok (.iload_n 2, 1) := by decide +kernel
theorem dMod_expired_11 : decode cMod_expired 11 = .ok (.ifCond .ne 8, 3) := by decide +kernel
theorem dMod_expired_14 : decode cMod_expired 14 = .ok (.aload_n 0, 1) := by decide +kernel
theorem dMod_expired_15 : decode cMod_expired 15 = .ok (.getfield 137, 3) := by decide +kernel
theorem dMod_expired_18 : decode cMod_expired 18 = .ok (.ireturn, 1) := by decide +kernel
theorem dMod_expired_19 : decode cMod_expired 19 = .ok (.iload_n 1, 1) := by decide +kernel
theorem dMod_expired_20 : decode cMod_expired 20 = .ok (.ifCond .lt 18, 3) := by decide +kernel
theorem dMod_expired_23 : decode cMod_expired 23 = .ok (.iload_n 1, 1) := by decide +kernel
theorem dMod_expired_24 : decode cMod_expired 24 = .ok (.aload_n 0, 1) := by decide +kernel
theorem dMod_expired_25 : decode cMod_expired 25 = .ok (.getfield 137, 3) := by decide +kernel
theorem dMod_expired_28 : decode cMod_expired 28 = .ok (.if_icmp .ge 10, 3) := by decide +kernel
theorem dMod_expired_31 : decode cMod_expired 31 = .ok (.iload_n 1, 1) := by decide +kernel
theorem dMod_expired_32 : decode cMod_expired 32 = .ok (.sipush 2999, 3) := by decide +kernel
theorem dMod_expired_35 : decode cMod_expired 35 = .ok (.if_icmp .le 5, 3) := by decide +kernel
theorem dMod_expired_38 : decode cMod_expired 38 = .ok (.iconst (-1), 1) := by decide +kernel
theorem dMod_expired_39 : decode cMod_expired 39 = .ok (.ireturn, 1) := by decide +kernel
theorem dMod_expired_40 : decode cMod_expired 40 = .ok (.iload_n 2, 1) := by decide +kernel
theorem dMod_expired_41 : decode cMod_expired 41 = .ok (.ifCond .lt 8, 3) := by decide +kernel
theorem dMod_expired_44 : decode cMod_expired 44 = .ok (.iload_n 2, 1) := by decide +kernel
theorem dMod_expired_45 : decode cMod_expired 45 = .ok (.iconst 3, 1) := by decide +kernel
theorem dMod_expired_46 : decode cMod_expired 46 = .ok (.if_icmp .le 6, 3) := by decide +kernel
theorem dMod_expired_49 : decode cMod_expired 49 = .ok (.bipush (-2), 2) := by decide +kernel
theorem dMod_expired_51 : decode cMod_expired 51 = .ok (.ireturn, 1) := by decide +kernel
theorem dMod_expired_52 : decode cMod_expired 52 = .ok (.iload_n 2, 1) := by decide +kernel
theorem dMod_expired_53 : decode cMod_expired 53 = .ok (.ifCond .ne 12, 3) := by decide +kernel
theorem dMod_expired_56 : decode cMod_expired 56 = .ok (.aload_n 0, 1) := by decide +kernel
theorem dMod_expired_57 : decode cMod_expired 57 = .ok (.getfield 78, 3) := by decide +kernel
theorem dMod_expired_60 : decode cMod_expired 60 = .ok (.iload_n 1, 1) := by decide +kernel
theorem dMod_expired_61 : decode cMod_expired 61 = .ok (.iaload, 1) := by decide +kernel
theorem dMod_expired_62 : decode cMod_expired 62 = .ok (.goto 37, 3) := by decide +kernel
theorem dMod_expired_65 : decode cMod_expired 65 = .ok (.iload_n 2, 1) := by decide +kernel
theorem dMod_expired_66 : decode cMod_expired 66 = .ok (.iconst 1, 1) := by decide +kernel
theorem dMod_expired_67 : decode cMod_expired 67 = .ok (.if_icmp .ne 12, 3) := by decide +kernel
theorem dMod_expired_70 : decode cMod_expired 70 = .ok (.aload_n 0, 1) := by decide +kernel
theorem dMod_expired_71 : decode cMod_expired 71 = .ok (.getfield 81, 3) := by decide +kernel
theorem dMod_expired_74 : decode cMod_expired 74 = .ok (.iload_n 1, 1) := by decide +kernel
theorem dMod_expired_75 : decode cMod_expired 75 = .ok (.iaload, 1) := by decide +kernel
theorem dMod_expired_76 : decode cMod_expired 76 = .ok (.goto 23, 3) := by decide +kernel
theorem dMod_expired_79 : decode cMod_expired 79 = .ok (.iload_n 2, 1) := by decide +kernel
theorem dMod_expired_80 : decode cMod_expired 80 = .ok (.iconst 2, 1) := by decide +kernel
theorem dMod_expired_81 : decode cMod_expired 81 = .ok (.if_icmp .ne 12, 3) := by decide +kernel
theorem dMod_expired_84 : decode cMod_expired 84 = .ok (.aload_n 0, 1) := by decide +kernel
theorem dMod_expired_85 : decode cMod_expired 85 = .ok (.getfield 84, 3) := by decide +kernel
theorem dMod_expired_88 : decode cMod_expired 88 = .ok (.iload_n 1, 1) := by decide +kernel
theorem dMod_expired_89 : decode cMod_expired 89 = .ok (.iaload, 1) := by decide +kernel
theorem dMod_expired_90 : decode cMod_expired 90 = .ok (.goto 9, 3) := by decide +kernel
theorem dMod_expired_93 : decode cMod_expired 93 = .ok (.aload_n 0, 1) := by decide +kernel
theorem dMod_expired_94 : decode cMod_expired 94 = .ok (.getfield 87, 3) := by decide +kernel
theorem dMod_expired_97 : decode cMod_expired 97 = .ok (.iload_n 1, 1) := by decide +kernel
theorem dMod_expired_98 : decode cMod_expired 98 = .ok (.iaload, 1) := by decide +kernel
theorem dMod_expired_99 : decode cMod_expired 99 = .ok (.ireturn, 1) := by decide +kernel
theorem dMod_deviation_0 : decode cMod_deviation 0 = .ok (.aload_n 0, 1) := by decide +kernel
theorem dMod_deviation_1 : decode cMod_deviation 1 = .ok (.iload_n 1, 1) := by decide +kernel
theorem dMod_deviation_2 : decode cMod_deviation 2 = .ok (.invokevirtual 128, 3) := by decide +kernel
theorem dMod_deviation_5 : decode cMod_deviation 5 = .ok (.ifCond .eq 7, 3) := by decide +kernel
theorem dMod_deviation_8 : decode cMod_deviation 8 = .ok (.lconst 0, 1) := by decide +kernel
theorem dMod_deviation_9 : decode cMod_deviation 9 = .ok (.goto 9, 3) := by decide +kernel
theorem dMod_deviation_12 : decode cMod_deviation 12 = .ok (.aload_n 0, 1) := by decide +kernel
theorem dMod_deviation_13 : decode cMod_deviation 13 = .ok (.getfield 66, 3) := by decide +kernel
theorem dMod_deviation_16 : decode cMod_deviation 16 = .ok (.iload_n 1, 1) := by decide +kernel
theorem dMod_deviation_17 : decode cMod_deviation 17 = .ok (.laload, 1) := by decide +kernel
theorem dMod_deviation_18 : decode cMod_deviation 18 = .ok (.lreturn, 1) := by decide +kernel
