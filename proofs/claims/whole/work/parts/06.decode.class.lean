theorem dAct_init_0 : decode cAct_init 0 = .ok (.aload_n 0, 1) := by decide +kernel
theorem dAct_init_1 : decode cAct_init 1 = .ok (.invokespecial 1, 3) := by decide +kernel
theorem dAct_init_4 : decode cAct_init 4 = .ok (.aload_n 0, 1) := by decide +kernel
theorem dAct_init_5 : decode cAct_init 5 = .ok (.aload_n 1, 1) := by decide +kernel
theorem dAct_init_6 : decode cAct_init 6 = .ok (.putfield 7, 3) := by decide +kernel
theorem dAct_init_9 : decode cAct_init 9 = .ok (.aload_n 0, 1) := by decide +kernel
theorem dAct_init_10 : decode cAct_init 10 = .ok (.aload_n 2, 1) := by decide +kernel
theorem dAct_init_11 : decode cAct_init 11 = .ok (.putfield 13, 3) := by decide +kernel
theorem dAct_init_14 : decode cAct_init 14 = .ok (.return_, 1) := by decide +kernel
theorem dAlarm_init_0 : decode cAlarm_init 0 = .ok (.aload_n 0, 1) := by decide +kernel
theorem dAlarm_init_1 : decode cAlarm_init 1 = .ok (.invokespecial 1, 3) := by decide +kernel
theorem dAlarm_init_4 : decode cAlarm_init 4 = .ok (.aload_n 0, 1) := by decide +kernel
theorem dAlarm_init_5 : decode cAlarm_init 5 = .ok (.iload_n 1, 1) := by decide +kernel
theorem dAlarm_init_6 : decode cAlarm_init 6 = .ok (.putfield 7, 3) := by decide +kernel
theorem dAlarm_init_9 : decode cAlarm_init 9 = .ok (.aload_n 0, 1) := by decide +kernel
theorem dAlarm_init_10 : decode cAlarm_init 10 = .ok (.aload_n 2, 1) := by decide +kernel
theorem dAlarm_init_11 : decode cAlarm_init 11 = .ok (.putfield 13, 3) := by decide +kernel
theorem dAlarm_init_14 : decode cAlarm_init 14 = .ok (.aload_n 0, 1) := by decide +kernel
theorem dAlarm_init_15 : decode cAlarm_init 15 = .ok (.aload_n 3, 1) := by decide +kernel
theorem dAlarm_init_16 : decode cAlarm_init 16 = .ok (.putfield 17, 3) := by decide +kernel
theorem dAlarm_init_19 : decode cAlarm_init 19 = .ok (.return_, 1) := by decide +kernel
theorem dAlarm_becomeDue_0 : decode cAlarm_becomeDue 0 = .ok (.aload_n 0, 1) := by decide +kernel
theorem dAlarm_becomeDue_1 : decode cAlarm_becomeDue 1 = .ok (.aload_n 0, 1) := by decide +kernel
theorem dAlarm_becomeDue_2 : decode cAlarm_becomeDue 2 = .ok (.getfield 13, 3) := by decide +kernel
theorem dAlarm_becomeDue_5 : decode cAlarm_becomeDue 5 = .ok (.getfield 21, 3) := by decide +kernel
theorem dAlarm_becomeDue_8 : decode cAlarm_becomeDue 8 = .ok (.lload_n 1, 1) := by decide +kernel
theorem dAlarm_becomeDue_9 : decode cAlarm_becomeDue 9 = .ok (.ladd, 1) := by decide +kernel
theorem dAlarm_becomeDue_10 : decode cAlarm_becomeDue 10 = .ok (.putfield 27, 3) := by decide +kernel
theorem dAlarm_becomeDue_13 : decode cAlarm_becomeDue 13 = .ok (.aload_n 0, 1) := by decide +kernel
theorem dAlarm_becomeDue_14 : decode cAlarm_becomeDue 14 = .ok (.getfield 13, 3) := by decide +kernel
theorem dAlarm_becomeDue_17 : decode cAlarm_becomeDue 17 = .ok (.aload_n 0, 1) := by decide +kernel
theorem dAlarm_becomeDue_18 : decode cAlarm_becomeDue 18 = .ok (.getfield 27, 3) := by decide +kernel
theorem dAlarm_becomeDue_21 : decode cAlarm_becomeDue 21 = .ok (.invokevirtual 30, 3) := by decide +kernel
theorem dAlarm_becomeDue_24 : decode cAlarm_becomeDue 24 = .ok (.return_, 1) := by decide +kernel
theorem dCounter_init_0 : decode cCounter_init 0 = .ok (.aload_n 0, 1) := by decide +kernel
theorem dCounter_init_1 : decode cCounter_init 1 = .ok (.invokespecial 3, 3) := by decide +kernel
theorem dCounter_init_4 : decode cCounter_init 4 = .ok (.aload_n 0, 1) := by decide +kernel
theorem dCounter_init_5 : decode cCounter_init 5 = .ok (.ldc2_w 9, 3) := by decide +kernel
theorem dCounter_init_8 : decode cCounter_init 8 = .ok (.putfield 11, 3) := by decide +kernel
theorem dCounter_init_11 : decode cCounter_init 11 = .ok (.aload_n 0, 1) := by decide +kernel
theorem dCounter_init_12 : decode cCounter_init 12 = .ok (.iconst 1, 1) := by decide +kernel
theorem dCounter_init_13 : decode cCounter_init 13 = .ok (.iload_n 1, 1) := by decide +kernel
theorem dCounter_init_14 : decode cCounter_init 14 = .ok (.iconst 1, 1) := by decide +kernel
theorem dCounter_init_15 : decode cCounter_init 15 = .ok (.isub, 1) := by decide +kernel
theorem dCounter_init_16 : decode cCounter_init 16 = .ok (.ishl, 1) := by decide +kernel
theorem dCounter_init_17 : decode cCounter_init 17 = .ok (.putfield 17, 3) := by decide +kernel
theorem dCounter_init_20 : decode cCounter_init 20 = .ok (.aload_n 0, 1) := by decide +kernel
theorem dCounter_init_21 : decode cCounter_init 21 = .ok (.lload_n 2, 1) := by decide +kernel
theorem dCounter_init_22 : decode cCounter_init 22 = .ok (.putfield 21, 3) := by decide +kernel
theorem dCounter_init_25 : decode cCounter_init 25 = .ok (.aload_n 0, 1) := by decide +kernel
theorem dCounter_init_26 : decode cCounter_init 26 = .ok (.lload 4, 2) := by decide +kernel
theorem dCounter_init_28 : decode cCounter_init 28 = .ok (.putfield 24, 3) := by decide +kernel
theorem dCounter_init_31 : decode cCounter_init 31 = .ok (.return_, 1) := by decide +kernel
theorem dCounter_wakeAt_0 : decode cCounter_wakeAt 0 = .ok (.aload_n 0, 1) := by decide +kernel
theorem dCounter_wakeAt_1 : decode cCounter_wakeAt 1 = .ok (.aload_n 0, 1) := by decide +kernel
theorem dCounter_wakeAt_2 : decode cCounter_wakeAt 2 = .ok (.getfield 11, 3) := by decide +kernel
theorem dCounter_wakeAt_5 : decode cCounter_wakeAt 5 = .ok (.lload_n 1, 1) := by decide +kernel
theorem dCounter_wakeAt_6 : decode cCounter_wakeAt 6 = .ok (.invokestatic 27, 3) := by decide +kernel
theorem dCounter_wakeAt_9 : decode cCounter_wakeAt 9 = .ok (.putfield 11, 3) := by decide +kernel
theorem dCounter_wakeAt_12 : decode cCounter_wakeAt 12 = .ok (.return_, 1) := by decide +kernel
theorem dCounter_advance_0 : decode cCounter_advance 0 = .ok (.aload_n 0, 1) := by decide +kernel
theorem dCounter_advance_1 : decode cCounter_advance 1 = .ok (.dup, 1) := by decide +kernel
theorem dCounter_advance_2 : decode cCounter_advance 2 = .ok (.getfield 33, 3) := by decide +kernel
theorem dCounter_advance_5 : decode cCounter_advance 5 = .ok (.lconst 1, 1) := by decide +kernel
theorem dCounter_advance_6 : decode cCounter_advance 6 = .ok (.ladd, 1) := by decide +kernel
theorem dCounter_advance_7 : decode cCounter_advance 7 = .ok (.putfield 33, 3) := by decide +kernel
theorem dCounter_advance_10 : decode cCounter_advance 10 = .ok (.aload_n 0, 1) := by decide +kernel
theorem dCounter_advance_11 : decode cCounter_advance 11 = .ok (.dup, 1) := by decide +kernel
theorem dCounter_advance_12 : decode cCounter_advance 12 = .ok (.getfield 36, 3) := by decide +kernel
theorem dCounter_advance_15 : decode cCounter_advance 15 = .ok (.lconst 1, 1) := by decide +kernel
theorem dCounter_advance_16 : decode cCounter_advance 16 = .ok (.ladd, 1) := by decide +kernel
theorem dCounter_advance_17 : decode cCounter_advance 17 = .ok (.putfield 36, 3) := by decide +kernel
theorem dCounter_advance_20 : decode cCounter_advance 20 = .ok (.aload_n 0, 1) := by decide +kernel
theorem dCounter_advance_21 : decode cCounter_advance 21 = .ok (.getfield 36, 3) := by decide +kernel
theorem dCounter_advance_24 : decode cCounter_advance 24 = .ok (.aload_n 0, 1) := by decide +kernel
theorem dCounter_advance_25 : decode cCounter_advance 25 = .ok (.getfield 21, 3) := by decide +kernel
theorem dCounter_advance_28 : decode cCounter_advance 28 = .ok (.lcmp, 1) := by decide +kernel
theorem dCounter_advance_29 : decode cCounter_advance 29 = .ok (.ifCond .lt 8, 3) := by decide +kernel
theorem dCounter_advance_32 : decode cCounter_advance 32 = .ok (.aload_n 0, 1) := by decide +kernel
theorem dCounter_advance_33 : decode cCounter_advance 33 = .ok (.lconst 0, 1) := by decide +kernel
theorem dCounter_advance_34 : decode cCounter_advance 34 = .ok (.putfield 36, 3) := by decide +kernel
theorem dCounter_advance_37 : decode cCounter_advance 37 = .ok (.return_, 1) := by decide +kernel
theorem dCounter_stepsUntil_0 : decode cCounter_stepsUntil 0 = .ok (.lload_n 1, 1) := by decide +kernel
theorem dCounter_stepsUntil_1 : decode cCounter_stepsUntil 1 = .ok (.aload_n 0, 1) := by decide +kernel
theorem dCounter_stepsUntil_2 : decode cCounter_stepsUntil 2 = .ok (.getfield 36, 3) := by decide +kernel
theorem dCounter_stepsUntil_5 : decode cCounter_stepsUntil 5 = .ok (.lsub, 1) := by decide +kernel
theorem dCounter_stepsUntil_6 : decode cCounter_stepsUntil 6 = .ok (.lstore_n 3, 1) := by decide +kernel
theorem dCounter_stepsUntil_7 : decode cCounter_stepsUntil 7 = .ok (.lload_n 3, 1) := by decide +kernel
theorem dCounter_stepsUntil_8 : decode cCounter_stepsUntil 8 = .ok (.lconst 0, 1) := by decide +kernel
theorem dCounter_stepsUntil_9 : decode cCounter_stepsUntil 9 = .ok (.lcmp, 1) := by decide +kernel
theorem dCounter_stepsUntil_10 : decode cCounter_stepsUntil 10 = .ok (.ifCond .le 7, 3) := by decide +kernel
theorem dCounter_stepsUntil_13 : decode cCounter_stepsUntil 13 = .ok (.lload_n 3, 1) := by decide +kernel
theorem dCounter_stepsUntil_14 : decode cCounter_stepsUntil 14 = .ok (.goto 9, 3) := by decide +kernel
theorem dCounter_stepsUntil_17 : decode cCounter_stepsUntil 17 = .ok (.lload_n 3, 1) := by decide +kernel
theorem dCounter_stepsUntil_18 : decode cCounter_stepsUntil 18 = .ok (.aload_n 0, 1) := by decide +kernel
theorem dCounter_stepsUntil_19 : decode cCounter_stepsUntil 19 = .ok (.getfield 21, 3) := by decide +kernel
theorem dCounter_stepsUntil_22 : decode cCounter_stepsUntil 22 = .ok (.ladd, 1) := by decide +kernel
theorem dCounter_stepsUntil_23 : decode cCounter_stepsUntil 23 = .ok (.lreturn, 1) := by decide +kernel
theorem dCounter_appendAlarm_0 : decode cCounter_appendAlarm 0 = .ok (.aload_n 0, 1) := by decide +kernel
theorem dCounter_appendAlarm_1 : decode cCounter_appendAlarm 1 = .ok (.getfield 39, 3) := by decide +kernel
theorem dCounter_appendAlarm_4 : decode cCounter_appendAlarm 4 = .ok (.ifnonnull 11, 3) := by decide +kernel
theorem dCounter_appendAlarm_7 : decode cCounter_appendAlarm 7 = .ok (.aload_n 0, 1) := by decide +kernel
theorem dCounter_appendAlarm_8 : decode cCounter_appendAlarm 8 = .ok (.aload_n 1, 1) := by decide +kernel
theorem dCounter_appendAlarm_9 : decode cCounter_appendAlarm 9 = .ok (.putfield 43, 3) := by decide +kernel
theorem dCounter_appendAlarm_12 : decode cCounter_appendAlarm 12 = .ok (.goto 11, 3) := by decide +kernel
theorem dCounter_appendAlarm_15 : decode cCounter_appendAlarm 15 = .ok (.aload_n 0, 1) := by decide +kernel
theorem dCounter_appendAlarm_16 : decode cCounter_appendAlarm 16 = .ok (.getfield 39, 3) := by decide +kernel
theorem dCounter_appendAlarm_19 : decode cCounter_appendAlarm 19 = .ok (.aload_n 1, 1) := by decide +kernel
theorem dCounter_appendAlarm_20 : decode cCounter_appendAlarm 20 = .ok (.putfield 46, 3) := by decide +kernel
theorem dCounter_appendAlarm_23 : decode cCounter_appendAlarm 23 = .ok (.aload_n 0, 1) := by decide +kernel
theorem dCounter_appendAlarm_24 : decode cCounter_appendAlarm 24 = .ok (.aload_n 1, 1) := by decide +kernel
theorem dCounter_appendAlarm_25 : decode cCounter_appendAlarm 25 = .ok (.putfield 39, 3) := by decide +kernel
theorem dCounter_appendAlarm_28 : decode cCounter_appendAlarm 28 = .ok (.return_, 1) := by decide +kernel
theorem dCounter_appendTable_0 : decode cCounter_appendTable 0 = .ok (.aload_n 0, 1) := by decide +kernel
theorem dCounter_appendTable_1 : decode cCounter_appendTable 1 = .ok (.getfield 51, 3) := by decide +kernel
theorem dCounter_appendTable_4 : decode cCounter_appendTable 4 = .ok (.ifnonnull 11, 3) := by decide +kernel
theorem dCounter_appendTable_7 : decode cCounter_appendTable 7 = .ok (.aload_n 0, 1) := by decide +kernel
theorem dCounter_appendTable_8 : decode cCounter_appendTable 8 = .ok (.aload_n 1, 1) := by decide +kernel
theorem dCounter_appendTable_9 : decode cCounter_appendTable 9 = .ok (.putfield 55, 3) := by decide +kernel
theorem dCounter_appendTable_12 : decode cCounter_appendTable 12 = .ok (.goto 11, 3) := by decide +kernel
theorem dCounter_appendTable_15 : decode cCounter_appendTable 15 = .ok (.aload_n 0, 1) := by decide +kernel
theorem dCounter_appendTable_16 : decode cCounter_appendTable 16 = .ok (.getfield 51, 3) := by decide +kernel
theorem dCounter_appendTable_19 : decode cCounter_appendTable 19 = .ok (.aload_n 1, 1) := by decide +kernel
theorem dCounter_appendTable_20 : decode cCounter_appendTable 20 = .ok (.putfield 58, 3) := by decide +kernel
theorem dCounter_appendTable_23 : decode cCounter_appendTable 23 = .ok (.aload_n 0, 1) := by decide +kernel
theorem dCounter_appendTable_24 : decode cCounter_appendTable 24 = .ok (.aload_n 1, 1) := by decide +kernel
theorem dCounter_appendTable_25 : decode cCounter_appendTable 25 = .ok (.putfield 51, 3) := by decide +kernel
theorem dCounter_appendTable_28 : decode cCounter_appendTable 28 = .ok (.return_, 1) := by decide +kernel
theorem dNotes_init_0 : decode cNotes_init 0 = .ok (.aload_n 0, 1) := by decide +kernel
theorem dNotes_init_1 : decode cNotes_init 1 = .ok (.invokespecial 3, 3) := by decide +kernel
theorem dNotes_init_4 : decode cNotes_init 4 = .ok (.aload_n 0, 1) := by decide +kernel
theorem dNotes_init_5 : decode cNotes_init 5 = .ok (.bipush 12, 2) := by decide +kernel
theorem dNotes_init_7 : decode cNotes_init 7 = .ok (.anewarray 9, 3) := by decide +kernel
theorem dNotes_init_10 : decode cNotes_init 10 = .ok (.putfield 11, 3) := by decide +kernel
theorem dNotes_init_13 : decode cNotes_init 13 = .ok (.return_, 1) := by decide +kernel
theorem dNotes_add_0 : decode cNotes_add 0 = .ok (.aload_n 0, 1) := by decide +kernel
theorem dNotes_add_1 : decode cNotes_add 1 = .ok (.dup, 1) := by decide +kernel
theorem dNotes_add_2 : decode cNotes_add 2 = .ok (.getfield 17, 3) := by decide +kernel
theorem dNotes_add_5 : decode cNotes_add 5 = .ok (.iconst 1, 1) := by decide +kernel
theorem dNotes_add_6 : decode cNotes_add 6 = .ok (.iadd, 1) := by decide +kernel
theorem dNotes_add_7 : decode cNotes_add 7 = .ok (.putfield 17, 3) := by decide +kernel
theorem dNotes_add_10 : decode cNotes_add 10 = .ok (.aload_n 0, 1) := by decide +kernel
theorem dNotes_add_11 : decode cNotes_add 11 = .ok (.getfield 21, 3) := by decide +kernel
theorem dNotes_add_14 : decode cNotes_add 14 = .ok (.sipush 3000, 3) := by decide +kernel
theorem dNotes_add_17 : decode cNotes_add 17 = .ok (.if_icmp .lt 4, 3) := by decide +kernel
theorem dNotes_add_20 : decode cNotes_add 20 = .ok (.return_, 1) := by decide +kernel
theorem dNotes_add_21 : decode cNotes_add 21 = .ok (.aload_n 0, 1) := by decide +kernel
theorem dNotes_add_22 : decode cNotes_add 22 = .ok (.getfield 21, 3) := by decide +kernel
theorem dNotes_add_25 : decode cNotes_add 25 = .ok (.sipush 250, 3) := by decide +kernel
theorem dNotes_add_28 : decode cNotes_add 28 = .ok (.idiv, 1) := by decide +kernel
theorem dNotes_add_29 : decode cNotes_add 29 = .ok (.istore 7, 2) := by decide +kernel
theorem dNotes_add_31 : decode cNotes_add 31 = .ok (.aload_n 0, 1) := by decide +kernel
theorem dNotes_add_32 : decode cNotes_add 32 = .ok (.getfield 11, 3) := by decide +kernel
theorem dNotes_add_35 : decode cNotes_add 35 = .ok (.iload 7, 2) := by decide +kernel
theorem dNotes_add_37 : decode cNotes_add 37 = .ok (.aaload, 1) := by decide +kernel
theorem dNotes_add_38 : decode cNotes_add 38 = .ok (.ifnonnull 17, 3) := by decide +kernel
theorem dNotes_add_41 : decode cNotes_add 41 = .ok (.aload_n 0, 1) := by decide +kernel
theorem dNotes_add_42 : decode cNotes_add 42 = .ok (.getfield 11, 3) := by decide +kernel
theorem dNotes_add_45 : decode cNotes_add 45 = .ok (.iload 7, 2) := by decide +kernel
theorem dNotes_add_47 : decode cNotes_add 47 = .ok (.new 9, 3) := by decide +kernel
theorem dNotes_add_50 : decode cNotes_add 50 = .ok (.dup, 1) := by decide +kernel
theorem dNotes_add_51 : decode cNotes_add 51 = .ok (.invokespecial 24, 3) := by decide +kernel
theorem dNotes_add_54 : decode cNotes_add 54 = .ok (.aastore, 1) := by decide +kernel
theorem dNotes_add_55 : decode cNotes_add 55 = .ok (.aload_n 0, 1) := by decide +kernel
theorem dNotes_add_56 : decode cNotes_add 56 = .ok (.getfield 11, 3) := by decide +kernel
theorem dNotes_add_59 : decode cNotes_add 59 = .ok (.iload 7, 2) := by decide +kernel
theorem dNotes_add_61 : decode cNotes_add 61 = .ok (.aaload, 1) := by decide +kernel
theorem dNotes_add_62 : decode cNotes_add 62 = .ok (.aload_n 0, 1) := by decide +kernel
theorem dNotes_add_63 : decode cNotes_add 63 = .ok (.getfield 21, 3) := by decide +kernel
theorem dNotes_add_66 : decode cNotes_add 66 = .ok (.sipush 250, 3) := by decide +kernel
theorem dNotes_add_69 : decode cNotes_add 69 = .ok (.irem, 1) := by decide +kernel
theorem dNotes_add_70 : decode cNotes_add 70 = .ok (.iconst 4, 1) := by decide +kernel
theorem dNotes_add_71 : decode cNotes_add 71 = .ok (.imul, 1) := by decide +kernel
theorem dNotes_add_72 : decode cNotes_add 72 = .ok (.iload_n 1, 1) := by decide +kernel
theorem dNotes_add_73 : decode cNotes_add 73 = .ok (.iload_n 2, 1) := by decide +kernel
theorem dNotes_add_74 : decode cNotes_add 74 = .ok (.lload_n 3, 1) := by decide +kernel
theorem dNotes_add_75 : decode cNotes_add 75 = .ok (.lload 5, 2) := by decide +kernel
theorem dNotes_add_77 : decode cNotes_add 77 = .ok (.invokevirtual 25, 3) := by decide +kernel
theorem dNotes_add_80 : decode cNotes_add 80 = .ok (.aload_n 0, 1) := by decide +kernel
theorem dNotes_add_81 : decode cNotes_add 81 = .ok (.dup, 1) := by decide +kernel
theorem dNotes_add_82 : decode cNotes_add 82 = .ok (.getfield 21, 3) := by decide +kernel
theorem dNotes_add_85 : decode cNotes_add 85 = .ok (.iconst 1, 1) := by decide +kernel
theorem dNotes_add_86 : decode cNotes_add 86 = .ok (.iadd, 1) := by decide +kernel
theorem dNotes_add_87 : decode cNotes_add 87 = .ok (.putfield 21, 3) := by decide +kernel
theorem dNotes_add_90 : decode cNotes_add 90 = .ok (.return_, 1) := by decide +kernel
theorem dNotes_has_0 : decode cNotes_has 0 = .ok (.iload_n 1, 1) := by decide +kernel
theorem dNotes_has_1 : decode cNotes_has 1 = .ok (.ifCond .lt 15, 3) := by decide +kernel
theorem dNotes_has_4 : decode cNotes_has 4 = .ok (.iload_n 1, 1) := by decide +kernel
theorem dNotes_has_5 : decode cNotes_has 5 = .ok (.aload_n 0, 1) := by decide +kernel
theorem dNotes_has_6 : decode cNotes_has 6 = .ok (.getfield 21, 3) := by decide +kernel
theorem dNotes_has_9 : decode cNotes_has 9 = .ok (.if_icmp .ge 7, 3) := by decide +kernel
theorem dNotes_has_12 : decode cNotes_has 12 = .ok (.iconst 1, 1) := by decide +kernel
theorem dNotes_has_13 : decode cNotes_has 13 = .ok (.goto 4, 3) := by decide +kernel
theorem dNotes_has_16 : decode cNotes_has 16 = .ok (.iconst 0, 1) := by decide +kernel
theorem dNotes_has_17 : decode cNotes_has 17 = .ok (.ireturn, 1) := by decide +kernel
theorem dNotes_read_0 : decode cNotes_read 0 = .ok (.aload_n 0, 1) := by decide +kernel
theorem dNotes_read_1 : decode cNotes_read 1 = .ok (.getfield 11, 3) := by decide +kernel
theorem dNotes_read_4 : decode cNotes_read 4 = .ok (.iload_n 1, 1) := by decide +kernel
theorem dNotes_read_5 : decode cNotes_read 5 = .ok (.sipush 250, 3) := by decide +kernel
theorem dNotes_read_8 : decode cNotes_read 8 = .ok (.idiv, 1) := by decide +kernel
theorem dNotes_read_9 : decode cNotes_read 9 = .ok (.aaload, 1) := by decide +kernel
theorem dNotes_read_10 : decode cNotes_read 10 = .ok (.astore_n 3, 1) := by decide +kernel
theorem dNotes_read_11 : decode cNotes_read 11 = .ok (.aload_n 3, 1) := by decide +kernel
theorem dNotes_read_12 : decode cNotes_read 12 = .ok (.ifnonnull 7, 3) := by decide +kernel
theorem dNotes_read_15 : decode cNotes_read 15 = .ok (.iconst (-1), 1) := by decide +kernel
theorem dNotes_read_16 : decode cNotes_read 16 = .ok (.goto 17, 3) := by decide +kernel
theorem dNotes_read_19 : decode cNotes_read 19 = .ok (.aload_n 3, 1) := by decide +kernel
theorem dNotes_read_20 : decode cNotes_read 20 = .ok (.getfield 29, 3) := by decide +kernel
theorem dNotes_read_23 : decode cNotes_read 23 = .ok (.iload_n 1, 1) := by decide +kernel
theorem dNotes_read_24 : decode cNotes_read 24 = .ok (.sipush 250, 3) := by decide +kernel
theorem dNotes_read_27 : decode cNotes_read 27 = .ok (.irem, 1) := by decide +kernel
theorem dNotes_read_28 : decode cNotes_read 28 = .ok (.iconst 4, 1) := by decide +kernel
theorem dNotes_read_29 : decode cNotes_read 29 = .ok (.imul, 1) := by decide +kernel
theorem dNotes_read_30 : decode cNotes_read 30 = .ok (.iload_n 2, 1) := by decide +kernel
theorem dNotes_read_31 : decode cNotes_read 31 = .ok (.iadd, 1) := by decide +kernel
theorem dNotes_read_32 : decode cNotes_read 32 = .ok (.iaload, 1) := by decide +kernel
theorem dNotes_read_33 : decode cNotes_read 33 = .ok (.ireturn, 1) := by decide +kernel
theorem dPage_init_0 : decode cPage_init 0 = .ok (.aload_n 0, 1) := by decide +kernel
theorem dPage_init_1 : decode cPage_init 1 = .ok (.invokespecial 3, 3) := by decide +kernel
theorem dPage_init_4 : decode cPage_init 4 = .ok (.aload_n 0, 1) := by decide +kernel
theorem dPage_init_5 : decode cPage_init 5 = .ok (.sipush 1000, 3) := by decide +kernel
theorem dPage_init_8 : decode cPage_init 8 = .ok (.newarray .int, 2) := by decide +kernel
theorem dPage_init_10 : decode cPage_init 10 = .ok (.putfield 9, 3) := by decide +kernel
theorem dPage_init_13 : decode cPage_init 13 = .ok (.return_, 1) := by decide +kernel
theorem dPage_write_0 : decode cPage_write 0 = .ok (.iload_n 1, 1) := by decide +kernel
theorem dPage_write_1 : decode cPage_write 1 = .ok (.ifCond .lt 52, 3) := by decide +kernel
theorem dPage_write_4 : decode cPage_write 4 = .ok (.iload_n 1, 1) := by decide +kernel
theorem dPage_write_5 : decode cPage_write 5 = .ok (.iconst 4, 1) := by decide +kernel
theorem dPage_write_6 : decode cPage_write 6 = .ok (.iadd, 1) := by decide +kernel
theorem dPage_write_7 : decode cPage_write 7 = .ok (.aload_n 0, 1) := by decide +kernel
theorem dPage_write_8 : decode cPage_write 8 = .ok (.getfield 9, 3) := by decide +kernel
theorem dPage_write_11 : decode cPage_write 11 = .ok (.arraylength, 1) := by decide +kernel
theorem dPage_write_12 : decode cPage_write 12 = .ok (.if_icmp .gt 41, 3) := by decide +kernel
theorem dPage_write_15 : decode cPage_write 15 = .ok (.aload_n 0, 1) := by decide +kernel
theorem dPage_write_16 : decode cPage_write 16 = .ok (.getfield 9, 3) := by decide +kernel
theorem dPage_write_19 : decode cPage_write 19 = .ok (.iload_n 1, 1) := by decide +kernel
theorem dPage_write_20 : decode cPage_write 20 = .ok (.iload_n 2, 1) := by decide +kernel
theorem dPage_write_21 : decode cPage_write 21 = .ok (.iastore, 1) := by decide +kernel
theorem dPage_write_22 : decode cPage_write 22 = .ok (.aload_n 0, 1) := by decide +kernel
theorem dPage_write_23 : decode cPage_write 23 = .ok (.getfield 9, 3) := by decide +kernel
theorem dPage_write_26 : decode cPage_write 26 = .ok (.iload_n 1, 1) := by decide +kernel
theorem dPage_write_27 : decode cPage_write 27 = .ok (.iconst 1, 1) := by decide +kernel
theorem dPage_write_28 : decode cPage_write 28 = .ok (.iadd, 1) := by decide +kernel
theorem dPage_write_29 : decode cPage_write 29 = .ok (.iload_n 3, 1) := by decide +kernel
theorem dPage_write_30 : decode cPage_write 30 = .ok (.iastore, 1) := by decide +kernel
theorem dPage_write_31 : decode cPage_write 31 = .ok (.aload_n 0, 1) := by decide +kernel
theorem dPage_write_32 : decode cPage_write 32 = .ok (.getfield 9, 3) := by decide +kernel
theorem dPage_write_35 : decode cPage_write 35 = .ok (.iload_n 1, 1) := by decide +kernel
theorem dPage_write_36 : decode cPage_write 36 = .ok (.iconst 2, 1) := by decide +kernel
theorem dPage_write_37 : decode cPage_write 37 = .ok (.iadd, 1) := by decide +kernel
theorem dPage_write_38 : decode cPage_write 38 = .ok (.lload 4, 2) := by decide +kernel
theorem dPage_write_40 : decode cPage_write 40 = .ok (.l2i, 1) := by decide +kernel
theorem dPage_write_41 : decode cPage_write 41 = .ok (.iastore, 1) := by decide +kernel
theorem dPage_write_42 : decode cPage_write 42 = .ok (.aload_n 0, 1) := by decide +kernel
theorem dPage_write_43 : decode cPage_write 43 = .ok (.getfield 9, 3) := by decide +kernel
theorem dPage_write_46 : decode cPage_write 46 = .ok (.iload_n 1, 1) := by decide +kernel
theorem dPage_write_47 : decode cPage_write 47 = .ok (.iconst 3, 1) := by decide +kernel
theorem dPage_write_48 : decode cPage_write 48 = .ok (.iadd, 1) := by decide +kernel
theorem dPage_write_49 : decode cPage_write 49 = .ok (.lload 6, 2) := by decide +kernel
theorem dPage_write_51 : decode cPage_write 51 = .ok (.l2i, 1) := by decide +kernel
theorem dPage_write_52 : decode cPage_write 52 = .ok (.iastore, 1) := by decide +kernel
theorem dPage_write_53 : decode cPage_write 53 = .ok (.return_, 1) := by decide +kernel
theorem dPoint_init_0 : decode cPoint_init 0 = .ok (.aload_n 0, 1) := by decide +kernel
theorem dPoint_init_1 : decode cPoint_init 1 = .ok (.invokespecial 1, 3) := by decide +kernel
theorem dPoint_init_4 : decode cPoint_init 4 = .ok (.aload_n 0, 1) := by decide +kernel
theorem dPoint_init_5 : decode cPoint_init 5 = .ok (.lload_n 1, 1) := by decide +kernel
theorem dPoint_init_6 : decode cPoint_init 6 = .ok (.putfield 7, 3) := by decide +kernel
theorem dPoint_init_9 : decode cPoint_init 9 = .ok (.aload_n 0, 1) := by decide +kernel
theorem dPoint_init_10 : decode cPoint_init 10 = .ok (.aload_n 3, 1) := by decide +kernel
theorem dPoint_init_11 : decode cPoint_init 11 = .ok (.putfield 13, 3) := by decide +kernel
theorem dPoint_init_14 : decode cPoint_init 14 = .ok (.return_, 1) := by decide +kernel
theorem dTable_init_0 : decode cTable_init 0 = .ok (.aload_n 0, 1) := by decide +kernel
theorem dTable_init_1 : decode cTable_init 1 = .ok (.invokespecial 3, 3) := by decide +kernel
theorem dTable_init_4 : decode cTable_init 4 = .ok (.aload_n 0, 1) := by decide +kernel
theorem dTable_init_5 : decode cTable_init 5 = .ok (.iload_n 1, 1) := by decide +kernel
theorem dTable_init_6 : decode cTable_init 6 = .ok (.putfield 9, 3) := by decide +kernel
theorem dTable_init_9 : decode cTable_init 9 = .ok (.aload_n 0, 1) := by decide +kernel
theorem dTable_init_10 : decode cTable_init 10 = .ok (.aload_n 2, 1) := by decide +kernel
theorem dTable_init_11 : decode cTable_init 11 = .ok (.putfield 15, 3) := by decide +kernel
theorem dTable_init_14 : decode cTable_init 14 = .ok (.aload_n 0, 1) := by decide +kernel
theorem dTable_init_15 : decode cTable_init 15 = .ok (.lload_n 3, 1) := by decide +kernel
theorem dTable_init_16 : decode cTable_init 16 = .ok (.putfield 19, 3) := by decide +kernel
theorem dTable_init_19 : decode cTable_init 19 = .ok (.return_, 1) := by decide +kernel
theorem dTable_pointBefore_0 : decode cTable_pointBefore 0 = .ok (.aconst_null, 1) := by decide +kernel
theorem dTable_pointBefore_1 : decode cTable_pointBefore 1 = .ok (.astore_n 3, 1) := by decide +kernel
theorem dTable_pointBefore_2 : decode cTable_pointBefore 2 = .ok (.aload_n 0, 1) := by decide +kernel
theorem dTable_pointBefore_3 : decode cTable_pointBefore 3 = .ok (.getfield 23, 3) := by decide +kernel
theorem dTable_pointBefore_6 : decode cTable_pointBefore 6 = .ok (.astore 4, 2) := by decide +kernel
theorem dTable_pointBefore_8 : decode cTable_pointBefore 8 = .ok (.aload 4, 2) := by decide +kernel
theorem dTable_pointBefore_10 : decode cTable_pointBefore 10 = .ok (.ifnull 26, 3) := by decide +kernel
theorem dTable_pointBefore_13 : decode cTable_pointBefore 13 = .ok (.aload 4, 2) := by decide +kernel
theorem dTable_pointBefore_15 : decode cTable_pointBefore 15 = .ok (.getfield 27, 3) := by decide +kernel
theorem dTable_pointBefore_18 : decode cTable_pointBefore 18 = .ok (.lload_n 1, 1) := by decide +kernel
theorem dTable_pointBefore_19 : decode cTable_pointBefore 19 = .ok (.lcmp, 1) := by decide +kernel
theorem dTable_pointBefore_20 : decode cTable_pointBefore 20 = .ok (.ifCond .ge 16, 3) := by decide +kernel
theorem dTable_pointBefore_23 : decode cTable_pointBefore 23 = .ok (.aload 4, 2) := by decide +kernel
theorem dTable_pointBefore_25 : decode cTable_pointBefore 25 = .ok (.astore_n 3, 1) := by decide +kernel
theorem dTable_pointBefore_26 : decode cTable_pointBefore 26 = .ok (.aload 4, 2) := by decide +kernel
theorem dTable_pointBefore_28 : decode cTable_pointBefore 28 = .ok (.getfield 32, 3) := by decide +kernel
theorem dTable_pointBefore_31 : decode cTable_pointBefore 31 = .ok (.astore 4, 2) := by decide +kernel
theorem dTable_pointBefore_33 : decode cTable_pointBefore 33 = .ok (.goto (-25), 3) := by decide +kernel
theorem dTable_pointBefore_36 : decode cTable_pointBefore 36 = .ok (.aload_n 3, 1) := by decide +kernel
theorem dTable_pointBefore_37 : decode cTable_pointBefore 37 = .ok (.areturn, 1) := by decide +kernel
theorem dTable_hasPointAt_0 : decode cTable_hasPointAt 0 = .ok (.aload_n 0, 1) := by decide +kernel
theorem dTable_hasPointAt_1 : decode cTable_hasPointAt 1 = .ok (.lload_n 1, 1) := by decide +kernel
theorem dTable_hasPointAt_2 : decode cTable_hasPointAt 2 = .ok (.invokevirtual 35, 3) := by decide +kernel
theorem dTable_hasPointAt_5 : decode cTable_hasPointAt 5 = .ok (.astore_n 3, 1) := by decide +kernel
theorem dTable_hasPointAt_6 : decode cTable_hasPointAt 6 = .ok (.aload_n 3, 1) := by decide +kernel
theorem dTable_hasPointAt_7 : decode cTable_hasPointAt 7 = .ok (.ifnonnull 10, 3) := by decide +kernel
theorem dTable_hasPointAt_10 : decode cTable_hasPointAt 10 = .ok (.aload_n 0, 1) := by decide +kernel
theorem dTable_hasPointAt_11 : decode cTable_hasPointAt 11 = .ok (.getfield 23, 3) := by decide +kernel
theorem dTable_hasPointAt_14 : decode cTable_hasPointAt 14 = .ok (.goto 7, 3) := by decide +kernel
theorem dTable_hasPointAt_17 : decode cTable_hasPointAt 17 = .ok (.aload_n 3, 1) := by decide +kernel
theorem dTable_hasPointAt_18 : decode cTable_hasPointAt 18 = .ok (.getfield 32, 3) := by decide +kernel
theorem dTable_hasPointAt_21 : decode cTable_hasPointAt 21 = .ok (.astore 4, 2) := by decide +kernel
theorem dTable_hasPointAt_23 : decode cTable_hasPointAt 23 = .ok (.aload 4, 2) := by decide +kernel
theorem dTable_hasPointAt_25 : decode cTable_hasPointAt 25 = .ok (.ifnull 17, 3) := by decide +kernel
theorem dTable_hasPointAt_28 : decode cTable_hasPointAt 28 = .ok (.aload 4, 2) := by decide +kernel
theorem dTable_hasPointAt_30 : decode cTable_hasPointAt 30 = .ok (.getfield 27, 3) := by decide +kernel
theorem dTable_hasPointAt_33 : decode cTable_hasPointAt 33 = .ok (.lload_n 1, 1) := by decide +kernel
theorem dTable_hasPointAt_34 : decode cTable_hasPointAt 34 = .ok (.lcmp, 1) := by decide +kernel
theorem dTable_hasPointAt_35 : decode cTable_hasPointAt 35 = .ok (.ifCond .ne 7, 3) := by decide +kernel
theorem dTable_hasPointAt_38 : decode cTable_hasPointAt 38 = .ok (.iconst 1, 1) := by decide +kernel
theorem dTable_hasPointAt_39 : decode cTable_hasPointAt 39 = .ok (.goto 4, 3) := by decide +kernel
theorem dTable_hasPointAt_42 : decode cTable_hasPointAt 42 = .ok (.iconst 0, 1) := by decide +kernel
theorem dTable_hasPointAt_43 : decode cTable_hasPointAt 43 = .ok (.ireturn, 1) := by decide +kernel
theorem dTable_insert_0 : decode cTable_insert 0 = .ok (.aload_n 0, 1) := by decide +kernel
theorem dTable_insert_1 : decode cTable_insert 1 = .ok (.aload_n 1, 1) := by decide +kernel
theorem dTable_insert_2 : decode cTable_insert 2 = .ok (.getfield 27, 3) := by decide +kernel
theorem dTable_insert_5 : decode cTable_insert 5 = .ok (.invokevirtual 35, 3) := by decide +kernel
theorem dTable_insert_8 : decode cTable_insert 8 = .ok (.astore_n 2, 1) := by decide +kernel
theorem dTable_insert_9 : decode cTable_insert 9 = .ok (.aload_n 2, 1) := by decide +kernel
theorem dTable_insert_10 : decode cTable_insert 10 = .ok (.ifnonnull 19, 3) := by decide +kernel
theorem dTable_insert_13 : decode cTable_insert 13 = .ok (.aload_n 1, 1) := by decide +kernel
theorem dTable_insert_14 : decode cTable_insert 14 = .ok (.aload_n 0, 1) := by decide +kernel
theorem dTable_insert_15 : decode cTable_insert 15 = .ok (.getfield 23, 3) := by decide +kernel
theorem dTable_insert_18 : decode cTable_insert 18 = .ok (.putfield 32, 3) := by decide +kernel
theorem dTable_insert_21 : decode cTable_insert 21 = .ok (.aload_n 0, 1) := by decide +kernel
theorem dTable_insert_22 : decode cTable_insert 22 = .ok (.aload_n 1, 1) := by decide +kernel
theorem dTable_insert_23 : decode cTable_insert 23 = .ok (.putfield 23, 3) := by decide +kernel
theorem dTable_insert_26 : decode cTable_insert 26 = .ok (.goto 16, 3) := by decide +kernel
theorem dTable_insert_29 : decode cTable_insert 29 = .ok (.aload_n 1, 1) := by decide +kernel
theorem dTable_insert_30 : decode cTable_insert 30 = .ok (.aload_n 2, 1) := by decide +kernel
theorem dTable_insert_31 : decode cTable_insert 31 = .ok (.getfield 32, 3) := by decide +kernel
theorem dTable_insert_34 : decode cTable_insert 34 = .ok (.putfield 32, 3) := by decide +kernel
theorem dTable_insert_37 : decode cTable_insert 37 = .ok (.aload_n 2, 1) := by decide +kernel
theorem dTable_insert_38 : decode cTable_insert 38 = .ok (.aload_n 1, 1) := by decide +kernel
theorem dTable_insert_39 : decode cTable_insert 39 = .ok (.putfield 32, 3) := by decide +kernel
theorem dTable_insert_42 : decode cTable_insert 42 = .ok (.aload_n 0, 1) := by decide +kernel
theorem dTable_insert_43 : decode cTable_insert 43 = .ok (.dup, 1) := by decide +kernel
theorem dTable_insert_44 : decode cTable_insert 44 = .ok (.getfield 39, 3) := by decide +kernel
theorem dTable_insert_47 : decode cTable_insert 47 = .ok (.iconst 1, 1) := by decide +kernel
theorem dTable_insert_48 : decode cTable_insert 48 = .ok (.iadd, 1) := by decide +kernel
theorem dTable_insert_49 : decode cTable_insert 49 = .ok (.putfield 39, 3) := by decide +kernel
theorem dTable_insert_52 : decode cTable_insert 52 = .ok (.return_, 1) := by decide +kernel
theorem dTable_runFrom_0 : decode cTable_runFrom 0 = .ok (.aload_n 0, 1) := by decide +kernel
theorem dTable_runFrom_1 : decode cTable_runFrom 1 = .ok (.iconst 1, 1) := by decide +kernel
theorem dTable_runFrom_2 : decode cTable_runFrom 2 = .ok (.putfield 42, 3) := by decide +kernel
theorem dTable_runFrom_5 : decode cTable_runFrom 5 = .ok (.aload_n 0, 1) := by decide +kernel
theorem dTable_runFrom_6 : decode cTable_runFrom 6 = .ok (.iconst 0, 1) := by decide +kernel
theorem dTable_runFrom_7 : decode cTable_runFrom 7 = .ok (.putfield 46, 3) := by decide +kernel
theorem dTable_runFrom_10 : decode cTable_runFrom 10 = .ok (.aload_n 0, 1) := by decide +kernel
theorem dTable_runFrom_11 : decode cTable_runFrom 11 = .ok (.lload_n 1, 1) := by decide +kernel
theorem dTable_runFrom_12 : decode cTable_runFrom 12 = .ok (.putfield 49, 3) := by decide +kernel
theorem dTable_runFrom_15 : decode cTable_runFrom 15 = .ok (.return_, 1) := by decide +kernel
theorem dTable_goOn_0 : decode cTable_goOn 0 = .ok (.aload_n 0, 1) := by decide +kernel
theorem dTable_goOn_1 : decode cTable_goOn 1 = .ok (.aload_n 3, 1) := by decide +kernel
theorem dTable_goOn_2 : decode cTable_goOn 2 = .ok (.putfield 52, 3) := by decide +kernel
theorem dTable_goOn_5 : decode cTable_goOn 5 = .ok (.aload_n 3, 1) := by decide +kernel
theorem dTable_goOn_6 : decode cTable_goOn 6 = .ok (.ifnonnull 10, 3) := by decide +kernel
theorem dTable_goOn_9 : decode cTable_goOn 9 = .ok (.aload_n 0, 1) := by decide +kernel
theorem dTable_goOn_10 : decode cTable_goOn 10 = .ok (.getfield 19, 3) := by decide +kernel
theorem dTable_goOn_13 : decode cTable_goOn 13 = .ok (.goto 7, 3) := by decide +kernel
theorem dTable_goOn_16 : decode cTable_goOn 16 = .ok (.aload_n 3, 1) := by decide +kernel
theorem dTable_goOn_17 : decode cTable_goOn 17 = .ok (.getfield 27, 3) := by decide +kernel
theorem dTable_goOn_20 : decode cTable_goOn 20 = .ok (.lload_n 1, 1) := by decide +kernel
theorem dTable_goOn_21 : decode cTable_goOn 21 = .ok (.lsub, 1) := by decide +kernel
theorem dTable_goOn_22 : decode cTable_goOn 22 = .ok (.lstore 4, 2) := by decide +kernel
theorem dTable_goOn_24 : decode cTable_goOn 24 = .ok (.aload_n 0, 1) := by decide +kernel
theorem dTable_goOn_25 : decode cTable_goOn 25 = .ok (.aload_n 0, 1) := by decide +kernel
theorem dTable_goOn_26 : decode cTable_goOn 26 = .ok (.getfield 15, 3) := by decide +kernel
theorem dTable_goOn_29 : decode cTable_goOn 29 = .ok (.getfield 55, 3) := by decide +kernel
theorem dTable_goOn_32 : decode cTable_goOn 32 = .ok (.putfield 49, 3) := by decide +kernel
theorem dTable_goOn_35 : decode cTable_goOn 35 = .ok (.lload 4, 2) := by decide +kernel
theorem dTable_goOn_37 : decode cTable_goOn 37 = .ok (.lconst 0, 1) := by decide +kernel
theorem dTable_goOn_38 : decode cTable_goOn 38 = .ok (.lcmp, 1) := by decide +kernel
theorem dTable_goOn_39 : decode cTable_goOn 39 = .ok (.ifCond .le 68, 3) := by decide +kernel
theorem dTable_goOn_42 : decode cTable_goOn 42 = .ok (.aload_n 0, 1) := by decide +kernel
theorem dTable_goOn_43 : decode cTable_goOn 43 = .ok (.getfield 60, 3) := by decide +kernel
theorem dTable_goOn_46 : decode cTable_goOn 46 = .ok (.ldc2_w 63, 3) := by decide +kernel
theorem dTable_goOn_49 : decode cTable_goOn 49 = .ok (.invokestatic 65, 3) := by decide +kernel
theorem dTable_goOn_52 : decode cTable_goOn 52 = .ok (.ldc2_w 71, 3) := by decide +kernel
theorem dTable_goOn_55 : decode cTable_goOn 55 = .ok (.invokestatic 73, 3) := by decide +kernel
theorem dTable_goOn_58 : decode cTable_goOn 58 = .ok (.lstore 6, 2) := by decide +kernel
theorem dTable_goOn_60 : decode cTable_goOn 60 = .ok (.lload 6, 2) := by decide +kernel
theorem dTable_goOn_62 : decode cTable_goOn 62 = .ok (.lconst 1, 1) := by decide +kernel
theorem dTable_goOn_63 : decode cTable_goOn 63 = .ok (.lload 4, 2) := by decide +kernel
theorem dTable_goOn_65 : decode cTable_goOn 65 = .ok (.lsub, 1) := by decide +kernel
theorem dTable_goOn_66 : decode cTable_goOn 66 = .ok (.invokestatic 73, 3) := by decide +kernel
theorem dTable_goOn_69 : decode cTable_goOn 69 = .ok (.lstore 6, 2) := by decide +kernel
theorem dTable_goOn_71 : decode cTable_goOn 71 = .ok (.aload_n 0, 1) := by decide +kernel
theorem dTable_goOn_72 : decode cTable_goOn 72 = .ok (.dup, 1) := by decide +kernel
theorem dTable_goOn_73 : decode cTable_goOn 73 = .ok (.getfield 60, 3) := by decide +kernel
theorem dTable_goOn_76 : decode cTable_goOn 76 = .ok (.lload 6, 2) := by decide +kernel
theorem dTable_goOn_78 : decode cTable_goOn 78 = .ok (.lsub, 1) := by decide +kernel
theorem dTable_goOn_79 : decode cTable_goOn 79 = .ok (.putfield 60, 3) := by decide +kernel
theorem dTable_goOn_82 : decode cTable_goOn 82 = .ok (.aload_n 0, 1) := by decide +kernel
theorem dTable_goOn_83 : decode cTable_goOn 83 = .ok (.dup, 1) := by decide +kernel
theorem dTable_goOn_84 : decode cTable_goOn 84 = .ok (.getfield 49, 3) := by decide +kernel
theorem dTable_goOn_87 : decode cTable_goOn 87 = .ok (.lload 4, 2) := by decide +kernel
theorem dTable_goOn_89 : decode cTable_goOn 89 = .ok (.lload 6, 2) := by decide +kernel
theorem dTable_goOn_91 : decode cTable_goOn 91 = .ok (.ladd, 1) := by decide +kernel
theorem dTable_goOn_92 : decode cTable_goOn 92 = .ok (.ladd, 1) := by decide +kernel
theorem dTable_goOn_93 : decode cTable_goOn 93 = .ok (.putfield 49, 3) := by decide +kernel
theorem dTable_goOn_96 : decode cTable_goOn 96 = .ok (.aload_n 0, 1) := by decide +kernel
theorem dTable_goOn_97 : decode cTable_goOn 97 = .ok (.getfield 15, 3) := by decide +kernel
theorem dTable_goOn_100 : decode cTable_goOn 100 = .ok (.aload_n 0, 1) := by decide +kernel
theorem dTable_goOn_101 : decode cTable_goOn 101 = .ok (.getfield 49, 3) := by decide +kernel
theorem dTable_goOn_104 : decode cTable_goOn 104 = .ok (.invokevirtual 76, 3) := by decide +kernel
theorem dTable_goOn_107 : decode cTable_goOn 107 = .ok (.return_, 1) := by decide +kernel
theorem dAT_init_0 : decode cAT_init 0 = .ok (.aload_n 0, 1) := by decide +kernel
theorem dAT_init_1 : decode cAT_init 1 = .ok (.invokespecial 3, 3) := by decide +kernel
theorem dAT_init_4 : decode cAT_init 4 = .ok (.aload_n 0, 1) := by decide +kernel
theorem dAT_init_5 : decode cAT_init 5 = .ok (.bipush 20, 2) := by decide +kernel
theorem dAT_init_7 : decode cAT_init 7 = .ok (.anewarray 9, 3) := by decide +kernel
theorem dAT_init_10 : decode cAT_init 10 = .ok (.putfield 11, 3) := by decide +kernel
theorem dAT_init_13 : decode cAT_init 13 = .ok (.aload_n 0, 1) := by decide +kernel
theorem dAT_init_14 : decode cAT_init 14 = .ok (.bipush 100, 2) := by decide +kernel
theorem dAT_init_16 : decode cAT_init 16 = .ok (.anewarray 15, 3) := by decide +kernel
theorem dAT_init_19 : decode cAT_init 19 = .ok (.putfield 17, 3) := by decide +kernel
theorem dAT_init_22 : decode cAT_init 22 = .ok (.aload_n 0, 1) := by decide +kernel
theorem dAT_init_23 : decode cAT_init 23 = .ok (.bipush 20, 2) := by decide +kernel
theorem dAT_init_25 : decode cAT_init 25 = .ok (.anewarray 21, 3) := by decide +kernel
theorem dAT_init_28 : decode cAT_init 28 = .ok (.putfield 23, 3) := by decide +kernel
theorem dAT_init_31 : decode cAT_init 31 = .ok (.aload_n 0, 1) := by decide +kernel
theorem dAT_init_32 : decode cAT_init 32 = .ok (.new 27, 3) := by decide +kernel
theorem dAT_init_35 : decode cAT_init 35 = .ok (.dup, 1) := by decide +kernel
theorem dAT_init_36 : decode cAT_init 36 = .ok (.invokespecial 29, 3) := by decide +kernel
theorem dAT_init_39 : decode cAT_init 39 = .ok (.putfield 30, 3) := by decide +kernel
theorem dAT_init_42 : decode cAT_init 42 = .ok (.return_, 1) := by decide +kernel
theorem dAT_counter_0 : decode cAT_counter 0 = .ok (.lload_n 1, 1) := by decide +kernel
theorem dAT_counter_1 : decode cAT_counter 1 = .ok (.lconst 0, 1) := by decide +kernel
theorem dAT_counter_2 : decode cAT_counter 2 = .ok (.lcmp, 1) := by decide +kernel
theorem dAT_counter_3 : decode cAT_counter 3 = .ok (.ifCond .lt 25, 3) := by decide +kernel
theorem dAT_counter_6 : decode cAT_counter 6 = .ok (.lload_n 1, 1) := by decide +kernel
theorem dAT_counter_7 : decode cAT_counter 7 = .ok (.ldc2_w 34, 3) := by decide +kernel
theorem dAT_counter_10 : decode cAT_counter 10 = .ok (.lcmp, 1) := by decide +kernel
theorem dAT_counter_11 : decode cAT_counter 11 = .ok (.ifCond .gt 17, 3) := by decide +kernel
theorem dAT_counter_14 : decode cAT_counter 14 = .ok (.lload_n 3, 1) := by decide +kernel
theorem dAT_counter_15 : decode cAT_counter 15 = .ok (.lconst 1, 1) := by decide +kernel
theorem dAT_counter_16 : decode cAT_counter 16 = .ok (.lcmp, 1) := by decide +kernel
theorem dAT_counter_17 : decode cAT_counter 17 = .ok (.ifCond .lt 11, 3) := by decide +kernel
theorem dAT_counter_20 : decode cAT_counter 20 = .ok (.lload_n 3, 1) := by decide +kernel
theorem dAT_counter_21 : decode cAT_counter 21 = .ok (.ldc2_w 36, 3) := by decide +kernel
theorem dAT_counter_24 : decode cAT_counter 24 = .ok (.lcmp, 1) := by decide +kernel
theorem dAT_counter_25 : decode cAT_counter 25 = .ok (.ifCond .le 6, 3) := by decide +kernel
theorem dAT_counter_28 : decode cAT_counter 28 = .ok (.bipush (-2), 2) := by decide +kernel
theorem dAT_counter_30 : decode cAT_counter 30 = .ok (.ireturn, 1) := by decide +kernel
theorem dAT_counter_31 : decode cAT_counter 31 = .ok (.aload_n 0, 1) := by decide +kernel
theorem dAT_counter_32 : decode cAT_counter 32 = .ok (.getfield 38, 3) := by decide +kernel
theorem dAT_counter_35 : decode cAT_counter 35 = .ok (.bipush 20, 2) := by decide +kernel
theorem dAT_counter_37 : decode cAT_counter 37 = .ok (.if_icmp .lt 6, 3) := by decide +kernel
theorem dAT_counter_40 : decode cAT_counter 40 = .ok (.bipush (-4), 2) := by decide +kernel
theorem dAT_counter_42 : decode cAT_counter 42 = .ok (.ireturn, 1) := by decide +kernel
theorem dAT_counter_43 : decode cAT_counter 43 = .ok (.lload_n 1, 1) := by decide +kernel
theorem dAT_counter_44 : decode cAT_counter 44 = .ok (.lconst 0, 1) := by decide +kernel
theorem dAT_counter_45 : decode cAT_counter 45 = .ok (.lcmp, 1) := by decide +kernel
theorem dAT_counter_46 : decode cAT_counter 46 = .ok (.ifCond .ne 13, 3) := by decide +kernel
theorem dAT_counter_49 : decode cAT_counter 49 = .ok (.new 42, 3) := by decide +kernel
theorem dAT_counter_52 : decode cAT_counter 52 = .ok (.dup, 1) := by decide +kernel
theorem dAT_counter_53 : decode cAT_counter 53 = .ok (.ldc 44, 2) := by decide +kernel
theorem dAT_counter_55 : decode cAT_counter 55 = .ok (.invokespecial 46, 3) := by decide +kernel
theorem dAT_counter_58 : decode cAT_counter 58 = .ok (.athrow, 1) := by decide +kernel
theorem dAT_counter_59 : decode cAT_counter 59 = .ok (.aload_n 0, 1) := by decide +kernel
theorem dAT_counter_60 : decode cAT_counter 60 = .ok (.getfield 11, 3) := by decide +kernel
theorem dAT_counter_63 : decode cAT_counter 63 = .ok (.aload_n 0, 1) := by decide +kernel
theorem dAT_counter_64 : decode cAT_counter 64 = .ok (.getfield 38, 3) := by decide +kernel
theorem dAT_counter_67 : decode cAT_counter 67 = .ok (.new 9, 3) := by decide +kernel
theorem dAT_counter_70 : decode cAT_counter 70 = .ok (.dup, 1) := by decide +kernel
theorem dAT_counter_71 : decode cAT_counter 71 = .ok (.aload_n 0, 1) := by decide +kernel
theorem dAT_counter_72 : decode cAT_counter 72 = .ok (.getfield 38, 3) := by decide +kernel
theorem dAT_counter_75 : decode cAT_counter 75 = .ok (.iconst 1, 1) := by decide +kernel
theorem dAT_counter_76 : decode cAT_counter 76 = .ok (.iadd, 1) := by decide +kernel
theorem dAT_counter_77 : decode cAT_counter 77 = .ok (.lload_n 1, 1) := by decide +kernel
theorem dAT_counter_78 : decode cAT_counter 78 = .ok (.lload_n 3, 1) := by decide +kernel
theorem dAT_counter_79 : decode cAT_counter 79 = .ok (.invokespecial 49, 3) := by decide +kernel
theorem dAT_counter_82 : decode cAT_counter 82 = .ok (.aastore, 1) := by decide +kernel
theorem dAT_counter_83 : decode cAT_counter 83 = .ok (.aload_n 0, 1) := by decide +kernel
theorem dAT_counter_84 : decode cAT_counter 84 = .ok (.dup, 1) := by decide +kernel
theorem dAT_counter_85 : decode cAT_counter 85 = .ok (.getfield 38, 3) := by decide +kernel
theorem dAT_counter_88 : decode cAT_counter 88 = .ok (.iconst 1, 1) := by decide +kernel
theorem dAT_counter_89 : decode cAT_counter 89 = .ok (.iadd, 1) := by decide +kernel
theorem dAT_counter_90 : decode cAT_counter 90 = .ok (.putfield 38, 3) := by decide +kernel
theorem dAT_counter_93 : decode cAT_counter 93 = .ok (.aload_n 0, 1) := by decide +kernel
theorem dAT_counter_94 : decode cAT_counter 94 = .ok (.getfield 38, 3) := by decide +kernel
theorem dAT_counter_97 : decode cAT_counter 97 = .ok (.ireturn, 1) := by decide +kernel
theorem dAT_alarm_0 : decode cAT_alarm 0 = .ok (.aload_n 0, 1) := by decide +kernel
theorem dAT_alarm_1 : decode cAT_alarm 1 = .ok (.iload_n 1, 1) := by decide +kernel
theorem dAT_alarm_2 : decode cAT_alarm 2 = .ok (.invokevirtual 52, 3) := by decide +kernel
theorem dAT_alarm_5 : decode cAT_alarm 5 = .ok (.astore 4, 2) := by decide +kernel
theorem dAT_alarm_7 : decode cAT_alarm 7 = .ok (.aload 4, 2) := by decide +kernel
theorem dAT_alarm_9 : decode cAT_alarm 9 = .ok (.ifnull 12, 3) := by decide +kernel
theorem dAT_alarm_12 : decode cAT_alarm 12 = .ok (.aload_n 0, 1) := by decide +kernel
theorem dAT_alarm_13 : decode cAT_alarm 13 = .ok (.iload_n 2, 1) := by decide +kernel
theorem dAT_alarm_14 : decode cAT_alarm 14 = .ok (.iload_n 3, 1) := by decide +kernel
theorem dAT_alarm_15 : decode cAT_alarm 15 = .ok (.invokevirtual 56, 3) := by decide +kernel
theorem dAT_alarm_18 : decode cAT_alarm 18 = .ok (.ifCond .eq 5, 3) := by decide +kernel
theorem dAT_alarm_21 : decode cAT_alarm 21 = .ok (.iconst (-1), 1) := by decide +kernel
theorem dAT_alarm_22 : decode cAT_alarm 22 = .ok (.ireturn, 1) := by decide +kernel
theorem dAT_alarm_23 : decode cAT_alarm 23 = .ok (.iload_n 2, 1) := by decide +kernel
theorem dAT_alarm_24 : decode cAT_alarm 24 = .ok (.ifCond .lt 8, 3) := by decide +kernel
theorem dAT_alarm_27 : decode cAT_alarm 27 = .ok (.iload_n 2, 1) := by decide +kernel
theorem dAT_alarm_28 : decode cAT_alarm 28 = .ok (.iconst 2, 1) := by decide +kernel
theorem dAT_alarm_29 : decode cAT_alarm 29 = .ok (.if_icmp .le 6, 3) := by decide +kernel
theorem dAT_alarm_32 : decode cAT_alarm 32 = .ok (.bipush (-2), 2) := by decide +kernel
theorem dAT_alarm_34 : decode cAT_alarm 34 = .ok (.ireturn, 1) := by decide +kernel
theorem dAT_alarm_35 : decode cAT_alarm 35 = .ok (.iload_n 2, 1) := by decide +kernel
theorem dAT_alarm_36 : decode cAT_alarm 36 = .ok (.iconst 1, 1) := by decide +kernel
theorem dAT_alarm_37 : decode cAT_alarm 37 = .ok (.if_icmp .ne 11, 3) := by decide +kernel
theorem dAT_alarm_40 : decode cAT_alarm 40 = .ok (.aload_n 0, 1) := by decide +kernel
theorem dAT_alarm_41 : decode cAT_alarm 41 = .ok (.iload_n 3, 1) := by decide +kernel
theorem dAT_alarm_42 : decode cAT_alarm 42 = .ok (.invokevirtual 52, 3) := by decide +kernel
theorem dAT_alarm_45 : decode cAT_alarm 45 = .ok (.goto 4, 3) := by decide +kernel
theorem dAT_alarm_48 : decode cAT_alarm 48 = .ok (.aconst_null, 1) := by decide +kernel
theorem dAT_alarm_49 : decode cAT_alarm 49 = .ok (.astore 5, 2) := by decide +kernel
theorem dAT_alarm_51 : decode cAT_alarm 51 = .ok (.aload 4, 2) := by decide +kernel
theorem dAT_alarm_53 : decode cAT_alarm 53 = .ok (.aload 5, 2) := by decide +kernel
theorem dAT_alarm_55 : decode cAT_alarm 55 = .ok (.invokestatic 60, 3) := by decide +kernel
theorem dAT_alarm_58 : decode cAT_alarm 58 = .ok (.ifCond .eq 6, 3) := by decide +kernel
theorem dAT_alarm_61 : decode cAT_alarm 61 = .ok (.bipush (-3), 2) := by decide +kernel
theorem dAT_alarm_63 : decode cAT_alarm 63 = .ok (.ireturn, 1) := by decide +kernel
theorem dAT_alarm_64 : decode cAT_alarm 64 = .ok (.aload_n 0, 1) := by decide +kernel
theorem dAT_alarm_65 : decode cAT_alarm 65 = .ok (.getfield 64, 3) := by decide +kernel
theorem dAT_alarm_68 : decode cAT_alarm 68 = .ok (.bipush 100, 2) := by decide +kernel
theorem dAT_alarm_70 : decode cAT_alarm 70 = .ok (.if_icmp .lt 6, 3) := by decide +kernel
theorem dAT_alarm_73 : decode cAT_alarm 73 = .ok (.bipush (-4), 2) := by decide +kernel
theorem dAT_alarm_75 : decode cAT_alarm 75 = .ok (.ireturn, 1) := by decide +kernel
theorem dAT_alarm_76 : decode cAT_alarm 76 = .ok (.iload_n 2, 1) := by decide +kernel
theorem dAT_alarm_77 : decode cAT_alarm 77 = .ok (.iconst 2, 1) := by decide +kernel
theorem dAT_alarm_78 : decode cAT_alarm 78 = .ok (.if_icmp .ne 11, 3) := by decide +kernel
theorem dAT_alarm_81 : decode cAT_alarm 81 = .ok (.aload_n 0, 1) := by decide +kernel
theorem dAT_alarm_82 : decode cAT_alarm 82 = .ok (.iload_n 3, 1) := by decide +kernel
theorem dAT_alarm_83 : decode cAT_alarm 83 = .ok (.invokevirtual 67, 3) := by decide +kernel
theorem dAT_alarm_86 : decode cAT_alarm 86 = .ok (.goto 4, 3) := by decide +kernel
theorem dAT_alarm_89 : decode cAT_alarm 89 = .ok (.aconst_null, 1) := by decide +kernel
theorem dAT_alarm_90 : decode cAT_alarm 90 = .ok (.astore 6, 2) := by decide +kernel
theorem dAT_alarm_92 : decode cAT_alarm 92 = .ok (.new 15, 3) := by decide +kernel
theorem dAT_alarm_95 : decode cAT_alarm 95 = .ok (.dup, 1) := by decide +kernel
theorem dAT_alarm_96 : decode cAT_alarm 96 = .ok (.aload_n 0, 1) := by decide +kernel
theorem dAT_alarm_97 : decode cAT_alarm 97 = .ok (.getfield 64, 3) := by decide +kernel
theorem dAT_alarm_100 : decode cAT_alarm 100 = .ok (.iconst 1, 1) := by decide +kernel
theorem dAT_alarm_101 : decode cAT_alarm 101 = .ok (.iadd, 1) := by decide +kernel
theorem dAT_alarm_102 : decode cAT_alarm 102 = .ok (.aload 4, 2) := by decide +kernel
theorem dAT_alarm_104 : decode cAT_alarm 104 = .ok (.new 71, 3) := by decide +kernel
theorem dAT_alarm_107 : decode cAT_alarm 107 = .ok (.dup, 1) := by decide +kernel
theorem dAT_alarm_108 : decode cAT_alarm 108 = .ok (.aload 5, 2) := by decide +kernel
theorem dAT_alarm_110 : decode cAT_alarm 110 = .ok (.aload 6, 2) := by decide +kernel
theorem dAT_alarm_112 : decode cAT_alarm 112 = .ok (.invokespecial 73, 3) := by decide +kernel
theorem dAT_alarm_115 : decode cAT_alarm 115 = .ok (.invokespecial 76, 3) := by decide +kernel
theorem dAT_alarm_118 : decode cAT_alarm 118 = .ok (.astore 7, 2) := by decide +kernel
theorem dAT_alarm_120 : decode cAT_alarm 120 = .ok (.aload_n 0, 1) := by decide +kernel
theorem dAT_alarm_121 : decode cAT_alarm 121 = .ok (.getfield 17, 3) := by decide +kernel
theorem dAT_alarm_124 : decode cAT_alarm 124 = .ok (.aload_n 0, 1) := by decide +kernel
theorem dAT_alarm_125 : decode cAT_alarm 125 = .ok (.getfield 64, 3) := by decide +kernel
theorem dAT_alarm_128 : decode cAT_alarm 128 = .ok (.aload 7, 2) := by decide +kernel
theorem dAT_alarm_130 : decode cAT_alarm 130 = .ok (.aastore, 1) := by decide +kernel
theorem dAT_alarm_131 : decode cAT_alarm 131 = .ok (.aload_n 0, 1) := by decide +kernel
theorem dAT_alarm_132 : decode cAT_alarm 132 = .ok (.dup, 1) := by decide +kernel
theorem dAT_alarm_133 : decode cAT_alarm 133 = .ok (.getfield 64, 3) := by decide +kernel
theorem dAT_alarm_136 : decode cAT_alarm 136 = .ok (.iconst 1, 1) := by decide +kernel
theorem dAT_alarm_137 : decode cAT_alarm 137 = .ok (.iadd, 1) := by decide +kernel
theorem dAT_alarm_138 : decode cAT_alarm 138 = .ok (.putfield 64, 3) := by decide +kernel
theorem dAT_alarm_141 : decode cAT_alarm 141 = .ok (.aload 4, 2) := by decide +kernel
theorem dAT_alarm_143 : decode cAT_alarm 143 = .ok (.aload 7, 2) := by decide +kernel
theorem dAT_alarm_145 : decode cAT_alarm 145 = .ok (.invokevirtual 79, 3) := by decide +kernel
theorem dAT_alarm_148 : decode cAT_alarm 148 = .ok (.aload_n 0, 1) := by decide +kernel
theorem dAT_alarm_149 : decode cAT_alarm 149 = .ok (.aload 4, 2) := by decide +kernel
theorem dAT_alarm_151 : decode cAT_alarm 151 = .ok (.aload 5, 2) := by decide +kernel
theorem dAT_alarm_153 : decode cAT_alarm 153 = .ok (.invokevirtual 83, 3) := by decide +kernel
theorem dAT_alarm_156 : decode cAT_alarm 156 = .ok (.aload_n 0, 1) := by decide +kernel
theorem dAT_alarm_157 : decode cAT_alarm 157 = .ok (.getfield 64, 3) := by decide +kernel
theorem dAT_alarm_160 : decode cAT_alarm 160 = .ok (.ireturn, 1) := by decide +kernel
theorem dAT_set_0 : decode cAT_set 0 = .ok (.aload_n 0, 1) := by decide +kernel
theorem dAT_set_1 : decode cAT_set 1 = .ok (.iload_n 1, 1) := by decide +kernel
theorem dAT_set_2 : decode cAT_set 2 = .ok (.invokevirtual 67, 3) := by decide +kernel
theorem dAT_set_5 : decode cAT_set 5 = .ok (.astore 7, 2) := by decide +kernel
theorem dAT_set_7 : decode cAT_set 7 = .ok (.aload 7, 2) := by decide +kernel
theorem dAT_set_9 : decode cAT_set 9 = .ok (.ifnonnull 5, 3) := by decide +kernel
theorem dAT_set_12 : decode cAT_set 12 = .ok (.iconst (-1), 1) := by decide +kernel
theorem dAT_set_13 : decode cAT_set 13 = .ok (.ireturn, 1) := by decide +kernel
theorem dAT_set_14 : decode cAT_set 14 = .ok (.aload 7, 2) := by decide +kernel
theorem dAT_set_16 : decode cAT_set 16 = .ok (.getfield 87, 3) := by decide +kernel
theorem dAT_set_19 : decode cAT_set 19 = .ok (.ifCond .eq 5, 3) := by decide +kernel
theorem dAT_set_22 : decode cAT_set 22 = .ok (.iconst 2, 1) := by decide +kernel
theorem dAT_set_23 : decode cAT_set 23 = .ok (.ireturn, 1) := by decide +kernel
theorem dAT_set_24 : decode cAT_set 24 = .ok (.aload 7, 2) := by decide +kernel
theorem dAT_set_26 : decode cAT_set 26 = .ok (.getfield 91, 3) := by decide +kernel
theorem dAT_set_29 : decode cAT_set 29 = .ok (.getfield 95, 3) := by decide +kernel
theorem dAT_set_32 : decode cAT_set 32 = .ok (.lstore 8, 2) := by decide +kernel
theorem dAT_set_34 : decode cAT_set 34 = .ok (.lload_n 2, 1) := by decide +kernel
theorem dAT_set_35 : decode cAT_set 35 = .ok (.iload 6, 2) := by decide +kernel
theorem dAT_set_37 : decode cAT_set 37 = .ok (.ifCond .eq 7, 3) := by decide +kernel
theorem dAT_set_40 : decode cAT_set 40 = .ok (.iconst 0, 1) := by decide +kernel
theorem dAT_set_41 : decode cAT_set 41 = .ok (.goto 4, 3) := by decide +kernel
theorem dAT_set_44 : decode cAT_set 44 = .ok (.iconst 1, 1) := by decide +kernel
theorem dAT_set_45 : decode cAT_set 45 = .ok (.i2l, 1) := by decide +kernel
theorem dAT_set_46 : decode cAT_set 46 = .ok (.lcmp, 1) := by decide +kernel
theorem dAT_set_47 : decode cAT_set 47 = .ok (.ifCond .lt 10, 3) := by decide +kernel
theorem dAT_set_50 : decode cAT_set 50 = .ok (.lload_n 2, 1) := by decide +kernel
theorem dAT_set_51 : decode cAT_set 51 = .ok (.lload 8, 2) := by decide +kernel
theorem dAT_set_53 : decode cAT_set 53 = .ok (.lcmp, 1) := by decide +kernel
theorem dAT_set_54 : decode cAT_set 54 = .ok (.ifCond .lt 5, 3) := by decide +kernel
theorem dAT_set_57 : decode cAT_set 57 = .ok (.iconst 3, 1) := by decide +kernel
theorem dAT_set_58 : decode cAT_set 58 = .ok (.ireturn, 1) := by decide +kernel
theorem dAT_set_59 : decode cAT_set 59 = .ok (.lload 4, 2) := by decide +kernel
theorem dAT_set_61 : decode cAT_set 61 = .ok (.lconst 0, 1) := by decide +kernel
theorem dAT_set_62 : decode cAT_set 62 = .ok (.lcmp, 1) := by decide +kernel
theorem dAT_set_63 : decode cAT_set 63 = .ok (.ifCond .eq 22, 3) := by decide +kernel
theorem dAT_set_66 : decode cAT_set 66 = .ok (.lload 4, 2) := by decide +kernel
theorem dAT_set_68 : decode cAT_set 68 = .ok (.ldc2_w 99, 3) := by decide +kernel
theorem dAT_set_71 : decode cAT_set 71 = .ok (.lcmp, 1) := by decide +kernel
theorem dAT_set_72 : decode cAT_set 72 = .ok (.ifCond .lt 11, 3) := by decide +kernel
theorem dAT_set_75 : decode cAT_set 75 = .ok (.lload 4, 2) := by decide +kernel
theorem dAT_set_77 : decode cAT_set 77 = .ok (.lload 8, 2) := by decide +kernel
theorem dAT_set_79 : decode cAT_set 79 = .ok (.lcmp, 1) := by decide +kernel
theorem dAT_set_80 : decode cAT_set 80 = .ok (.ifCond .le 5, 3) := by decide +kernel
theorem dAT_set_83 : decode cAT_set 83 = .ok (.iconst 4, 1) := by decide +kernel
theorem dAT_set_84 : decode cAT_set 84 = .ok (.ireturn, 1) := by decide +kernel
theorem dAT_set_85 : decode cAT_set 85 = .ok (.aload 7, 2) := by decide +kernel
theorem dAT_set_87 : decode cAT_set 87 = .ok (.iconst 1, 1) := by decide +kernel
theorem dAT_set_88 : decode cAT_set 88 = .ok (.putfield 87, 3) := by decide +kernel
theorem dAT_set_91 : decode cAT_set 91 = .ok (.aload 7, 2) := by decide +kernel
theorem dAT_set_93 : decode cAT_set 93 = .ok (.lload 4, 2) := by decide +kernel
theorem dAT_set_95 : decode cAT_set 95 = .ok (.putfield 101, 3) := by decide +kernel
theorem dAT_set_98 : decode cAT_set 98 = .ok (.aload 7, 2) := by decide +kernel
theorem dAT_set_100 : decode cAT_set 100 = .ok (.iload 6, 2) := by decide +kernel
theorem dAT_set_102 : decode cAT_set 102 = .ok (.ifCond .eq 15, 3) := by decide +kernel
theorem dAT_set_105 : decode cAT_set 105 = .ok (.aload 7, 2) := by decide +kernel
theorem dAT_set_107 : decode cAT_set 107 = .ok (.getfield 91, 3) := by decide +kernel
theorem dAT_set_110 : decode cAT_set 110 = .ok (.lload_n 2, 1) := by decide +kernel
theorem dAT_set_111 : decode cAT_set 111 = .ok (.invokevirtual 104, 3) := by decide +kernel
theorem dAT_set_114 : decode cAT_set 114 = .ok (.goto 4, 3) := by decide +kernel
theorem dAT_set_117 : decode cAT_set 117 = .ok (.lload_n 2, 1) := by decide +kernel
theorem dAT_set_118 : decode cAT_set 118 = .ok (.invokevirtual 108, 3) := by decide +kernel
theorem dAT_set_121 : decode cAT_set 121 = .ok (.iconst 1, 1) := by decide +kernel
theorem dAT_set_122 : decode cAT_set 122 = .ok (.ireturn, 1) := by decide +kernel
theorem dAT_cancel_0 : decode cAT_cancel 0 = .ok (.aload_n 0, 1) := by decide +kernel
theorem dAT_cancel_1 : decode cAT_cancel 1 = .ok (.iload_n 1, 1) := by decide +kernel
theorem dAT_cancel_2 : decode cAT_cancel 2 = .ok (.invokevirtual 67, 3) := by decide +kernel
theorem dAT_cancel_5 : decode cAT_cancel 5 = .ok (.astore_n 2, 1) := by decide +kernel
theorem dAT_cancel_6 : decode cAT_cancel 6 = .ok (.aload_n 2, 1) := by decide +kernel
theorem dAT_cancel_7 : decode cAT_cancel 7 = .ok (.ifnonnull 5, 3) := by decide +kernel
theorem dAT_cancel_10 : decode cAT_cancel 10 = .ok (.iconst (-1), 1) := by decide +kernel
theorem dAT_cancel_11 : decode cAT_cancel 11 = .ok (.ireturn, 1) := by decide +kernel
theorem dAT_cancel_12 : decode cAT_cancel 12 = .ok (.aload_n 2, 1) := by decide +kernel
theorem dAT_cancel_13 : decode cAT_cancel 13 = .ok (.getfield 87, 3) := by decide +kernel
theorem dAT_cancel_16 : decode cAT_cancel 16 = .ok (.ifCond .ne 5, 3) := by decide +kernel
theorem dAT_cancel_19 : decode cAT_cancel 19 = .ok (.iconst 5, 1) := by decide +kernel
theorem dAT_cancel_20 : decode cAT_cancel 20 = .ok (.ireturn, 1) := by decide +kernel
theorem dAT_cancel_21 : decode cAT_cancel 21 = .ok (.aload_n 2, 1) := by decide +kernel
theorem dAT_cancel_22 : decode cAT_cancel 22 = .ok (.iconst 0, 1) := by decide +kernel
theorem dAT_cancel_23 : decode cAT_cancel 23 = .ok (.putfield 87, 3) := by decide +kernel
theorem dAT_cancel_26 : decode cAT_cancel 26 = .ok (.iconst 1, 1) := by decide +kernel
theorem dAT_cancel_27 : decode cAT_cancel 27 = .ok (.ireturn, 1) := by decide +kernel
theorem dAT_table_0 : decode cAT_table 0 = .ok (.aload_n 0, 1) := by decide +kernel
theorem dAT_table_1 : decode cAT_table 1 = .ok (.iload_n 1, 1) := by decide +kernel
theorem dAT_table_2 : decode cAT_table 2 = .ok (.invokevirtual 52, 3) := by decide +kernel
theorem dAT_table_5 : decode cAT_table 5 = .ok (.astore 4, 2) := by decide +kernel
theorem dAT_table_7 : decode cAT_table 7 = .ok (.aload 4, 2) := by decide +kernel
theorem dAT_table_9 : decode cAT_table 9 = .ok (.ifnonnull 5, 3) := by decide +kernel
theorem dAT_table_12 : decode cAT_table 12 = .ok (.iconst (-1), 1) := by decide +kernel
theorem dAT_table_13 : decode cAT_table 13 = .ok (.ireturn, 1) := by decide +kernel
theorem dAT_table_14 : decode cAT_table 14 = .ok (.lload_n 2, 1) := by decide +kernel
theorem dAT_table_15 : decode cAT_table 15 = .ok (.lconst 1, 1) := by decide +kernel
theorem dAT_table_16 : decode cAT_table 16 = .ok (.lcmp, 1) := by decide +kernel
theorem dAT_table_17 : decode cAT_table 17 = .ok (.ifCond .lt 11, 3) := by decide +kernel
theorem dAT_table_20 : decode cAT_table 20 = .ok (.lload_n 2, 1) := by decide +kernel
theorem dAT_table_21 : decode cAT_table 21 = .ok (.ldc2_w 112, 3) := by decide +kernel
theorem dAT_table_24 : decode cAT_table 24 = .ok (.lcmp, 1) := by decide +kernel
theorem dAT_table_25 : decode cAT_table 25 = .ok (.ifCond .le 6, 3) := by decide +kernel
theorem dAT_table_28 : decode cAT_table 28 = .ok (.bipush (-2), 2) := by decide +kernel
theorem dAT_table_30 : decode cAT_table 30 = .ok (.ireturn, 1) := by decide +kernel
theorem dAT_table_31 : decode cAT_table 31 = .ok (.aload_n 0, 1) := by decide +kernel
theorem dAT_table_32 : decode cAT_table 32 = .ok (.getfield 114, 3) := by decide +kernel
theorem dAT_table_35 : decode cAT_table 35 = .ok (.bipush 20, 2) := by decide +kernel
theorem dAT_table_37 : decode cAT_table 37 = .ok (.if_icmp .lt 6, 3) := by decide +kernel
theorem dAT_table_40 : decode cAT_table 40 = .ok (.bipush (-4), 2) := by decide +kernel
theorem dAT_table_42 : decode cAT_table 42 = .ok (.ireturn, 1) := by decide +kernel
theorem dAT_table_43 : decode cAT_table 43 = .ok (.new 21, 3) := by decide +kernel
theorem dAT_table_46 : decode cAT_table 46 = .ok (.dup, 1) := by decide +kernel
theorem dAT_table_47 : decode cAT_table 47 = .ok (.aload_n 0, 1) := by decide +kernel
theorem dAT_table_48 : decode cAT_table 48 = .ok (.getfield 114, 3) := by decide +kernel
theorem dAT_table_51 : decode cAT_table 51 = .ok (.iconst 1, 1) := by decide +kernel
theorem dAT_table_52 : decode cAT_table 52 = .ok (.iadd, 1) := by decide +kernel
theorem dAT_table_53 : decode cAT_table 53 = .ok (.aload 4, 2) := by decide +kernel
theorem dAT_table_55 : decode cAT_table 55 = .ok (.lload_n 2, 1) := by decide +kernel
theorem dAT_table_56 : decode cAT_table 56 = .ok (.invokespecial 117, 3) := by decide +kernel
theorem dAT_table_59 : decode cAT_table 59 = .ok (.astore 5, 2) := by decide +kernel
theorem dAT_table_61 : decode cAT_table 61 = .ok (.aload_n 0, 1) := by decide +kernel
theorem dAT_table_62 : decode cAT_table 62 = .ok (.getfield 23, 3) := by decide +kernel
theorem dAT_table_65 : decode cAT_table 65 = .ok (.aload_n 0, 1) := by decide +kernel
theorem dAT_table_66 : decode cAT_table 66 = .ok (.getfield 114, 3) := by decide +kernel
theorem dAT_table_69 : decode cAT_table 69 = .ok (.aload 5, 2) := by decide +kernel
theorem dAT_table_71 : decode cAT_table 71 = .ok (.aastore, 1) := by decide +kernel
theorem dAT_table_72 : decode cAT_table 72 = .ok (.aload_n 0, 1) := by decide +kernel
theorem dAT_table_73 : decode cAT_table 73 = .ok (.dup, 1) := by decide +kernel
theorem dAT_table_74 : decode cAT_table 74 = .ok (.getfield 114, 3) := by decide +kernel
theorem dAT_table_77 : decode cAT_table 77 = .ok (.iconst 1, 1) := by decide +kernel
theorem dAT_table_78 : decode cAT_table 78 = .ok (.iadd, 1) := by decide +kernel
theorem dAT_table_79 : decode cAT_table 79 = .ok (.putfield 114, 3) := by decide +kernel
theorem dAT_table_82 : decode cAT_table 82 = .ok (.aload 4, 2) := by decide +kernel
theorem dAT_table_84 : decode cAT_table 84 = .ok (.aload 5, 2) := by decide +kernel
theorem dAT_table_86 : decode cAT_table 86 = .ok (.invokevirtual 120, 3) := by decide +kernel
theorem dAT_table_89 : decode cAT_table 89 = .ok (.aload_n 0, 1) := by decide +kernel
theorem dAT_table_90 : decode cAT_table 90 = .ok (.getfield 114, 3) := by decide +kernel
theorem dAT_table_93 : decode cAT_table 93 = .ok (.ireturn, 1) := by decide +kernel
theorem dAT_point_0 : decode cAT_point 0 = .ok (.aload_n 0, 1) := by decide +kernel
theorem dAT_point_1 : decode cAT_point 1 = .ok (.iload_n 1, 1) := by decide +kernel
theorem dAT_point_2 : decode cAT_point 2 = .ok (.invokevirtual 124, 3) := by decide +kernel
theorem dAT_point_5 : decode cAT_point 5 = .ok (.astore 5, 2) := by decide +kernel
theorem dAT_point_7 : decode cAT_point 7 = .ok (.iload 4, 2) := by decide +kernel
theorem dAT_point_9 : decode cAT_point 9 = .ok (.ifCond .le 12, 3) := by decide +kernel
theorem dAT_point_12 : decode cAT_point 12 = .ok (.aload_n 0, 1) := by decide +kernel
theorem dAT_point_13 : decode cAT_point 13 = .ok (.iload 4, 2) := by decide +kernel
theorem dAT_point_15 : decode cAT_point 15 = .ok (.invokevirtual 52, 3) := by decide +kernel
theorem dAT_point_18 : decode cAT_point 18 = .ok (.goto 4, 3) := by decide +kernel
theorem dAT_point_21 : decode cAT_point 21 = .ok (.aconst_null, 1) := by decide +kernel
theorem dAT_point_22 : decode cAT_point 22 = .ok (.astore 6, 2) := by decide +kernel
theorem dAT_point_24 : decode cAT_point 24 = .ok (.iload 4, 2) := by decide +kernel
theorem dAT_point_26 : decode cAT_point 26 = .ok (.ifCond .ge 13, 3) := by decide +kernel
theorem dAT_point_29 : decode cAT_point 29 = .ok (.aload_n 0, 1) := by decide +kernel
theorem dAT_point_30 : decode cAT_point 30 = .ok (.iload 4, 2) := by decide +kernel
theorem dAT_point_32 : decode cAT_point 32 = .ok (.ineg, 1) := by decide +kernel
theorem dAT_point_33 : decode cAT_point 33 = .ok (.invokevirtual 67, 3) := by decide +kernel
theorem dAT_point_36 : decode cAT_point 36 = .ok (.goto 4, 3) := by decide +kernel
theorem dAT_point_39 : decode cAT_point 39 = .ok (.aconst_null, 1) := by decide +kernel
theorem dAT_point_40 : decode cAT_point 40 = .ok (.astore 7, 2) := by decide +kernel
theorem dAT_point_42 : decode cAT_point 42 = .ok (.aload 5, 2) := by decide +kernel
theorem dAT_point_44 : decode cAT_point 44 = .ok (.ifnull 18, 3) := by decide +kernel
theorem dAT_point_47 : decode cAT_point 47 = .ok (.iload 4, 2) := by decide +kernel
theorem dAT_point_49 : decode cAT_point 49 = .ok (.ifCond .eq 15, 3) := by decide +kernel
theorem dAT_point_52 : decode cAT_point 52 = .ok (.aload 6, 2) := by decide +kernel
theorem dAT_point_54 : decode cAT_point 54 = .ok (.ifnonnull 10, 3) := by decide +kernel
theorem dAT_point_57 : decode cAT_point 57 = .ok (.aload 7, 2) := by decide +kernel
theorem dAT_point_59 : decode cAT_point 59 = .ok (.ifnonnull 5, 3) := by decide +kernel
theorem dAT_point_62 : decode cAT_point 62 = .ok (.iconst (-1), 1) := by decide +kernel
theorem dAT_point_63 : decode cAT_point 63 = .ok (.ireturn, 1) := by decide +kernel
theorem dAT_point_64 : decode cAT_point 64 = .ok (.lload_n 2, 1) := by decide +kernel
theorem dAT_point_65 : decode cAT_point 65 = .ok (.lconst 0, 1) := by decide +kernel
theorem dAT_point_66 : decode cAT_point 66 = .ok (.lcmp, 1) := by decide +kernel
theorem dAT_point_67 : decode cAT_point 67 = .ok (.ifCond .lt 13, 3) := by decide +kernel
theorem dAT_point_70 : decode cAT_point 70 = .ok (.lload_n 2, 1) := by decide +kernel
theorem dAT_point_71 : decode cAT_point 71 = .ok (.aload 5, 2) := by decide +kernel
theorem dAT_point_73 : decode cAT_point 73 = .ok (.getfield 128, 3) := by decide +kernel
theorem dAT_point_76 : decode cAT_point 76 = .ok (.lcmp, 1) := by decide +kernel
theorem dAT_point_77 : decode cAT_point 77 = .ok (.ifCond .le 6, 3) := by decide +kernel
theorem dAT_point_80 : decode cAT_point 80 = .ok (.bipush (-2), 2) := by decide +kernel
theorem dAT_point_82 : decode cAT_point 82 = .ok (.ireturn, 1) := by decide +kernel
theorem dAT_point_83 : decode cAT_point 83 = .ok (.aload 5, 2) := by decide +kernel
theorem dAT_point_85 : decode cAT_point 85 = .ok (.getfield 131, 3) := by decide +kernel
theorem dAT_point_88 : decode cAT_point 88 = .ok (.ifCond .ne 25, 3) := by decide +kernel
theorem dAT_point_91 : decode cAT_point 91 = .ok (.aload 5, 2) := by decide +kernel
theorem dAT_point_93 : decode cAT_point 93 = .ok (.lload_n 2, 1) := by decide +kernel
theorem dAT_point_94 : decode cAT_point 94 = .ok (.invokevirtual 134, 3) := by decide +kernel
theorem dAT_point_97 : decode cAT_point 97 = .ok (.ifCond .ne 16, 3) := by decide +kernel
theorem dAT_point_100 : decode cAT_point 100 = .ok (.aload 5, 2) := by decide +kernel
theorem dAT_point_102 : decode cAT_point 102 = .ok (.getfield 138, 3) := by decide +kernel
theorem dAT_point_105 : decode cAT_point 105 = .ok (.aload 6, 2) := by decide +kernel
theorem dAT_point_107 : decode cAT_point 107 = .ok (.invokestatic 60, 3) := by decide +kernel
theorem dAT_point_110 : decode cAT_point 110 = .ok (.ifCond .eq 6, 3) := by decide +kernel
theorem dAT_point_113 : decode cAT_point 113 = .ok (.bipush (-3), 2) := by decide +kernel
theorem dAT_point_115 : decode cAT_point 115 = .ok (.ireturn, 1) := by decide +kernel
theorem dAT_point_116 : decode cAT_point 116 = .ok (.aload 5, 2) := by decide +kernel
theorem dAT_point_118 : decode cAT_point 118 = .ok (.getfield 139, 3) := by decide +kernel
theorem dAT_point_121 : decode cAT_point 121 = .ok (.bipush 20, 2) := by decide +kernel
theorem dAT_point_123 : decode cAT_point 123 = .ok (.if_icmp .lt 6, 3) := by decide +kernel
theorem dAT_point_126 : decode cAT_point 126 = .ok (.bipush (-4), 2) := by decide +kernel
theorem dAT_point_128 : decode cAT_point 128 = .ok (.ireturn, 1) := by decide +kernel
theorem dAT_point_129 : decode cAT_point 129 = .ok (.aload 5, 2) := by decide +kernel
theorem dAT_point_131 : decode cAT_point 131 = .ok (.new 142, 3) := by decide +kernel
theorem dAT_point_134 : decode cAT_point 134 = .ok (.dup, 1) := by decide +kernel
theorem dAT_point_135 : decode cAT_point 135 = .ok (.lload_n 2, 1) := by decide +kernel
theorem dAT_point_136 : decode cAT_point 136 = .ok (.new 71, 3) := by decide +kernel
theorem dAT_point_139 : decode cAT_point 139 = .ok (.dup, 1) := by decide +kernel
theorem dAT_point_140 : decode cAT_point 140 = .ok (.aload 6, 2) := by decide +kernel
theorem dAT_point_142 : decode cAT_point 142 = .ok (.aload 7, 2) := by decide +kernel
theorem dAT_point_144 : decode cAT_point 144 = .ok (.invokespecial 73, 3) := by decide +kernel
theorem dAT_point_147 : decode cAT_point 147 = .ok (.invokespecial 144, 3) := by decide +kernel
theorem dAT_point_150 : decode cAT_point 150 = .ok (.invokevirtual 147, 3) := by decide +kernel
theorem dAT_point_153 : decode cAT_point 153 = .ok (.aload_n 0, 1) := by decide +kernel
theorem dAT_point_154 : decode cAT_point 154 = .ok (.aload 5, 2) := by decide +kernel
theorem dAT_point_156 : decode cAT_point 156 = .ok (.getfield 138, 3) := by decide +kernel
theorem dAT_point_159 : decode cAT_point 159 = .ok (.aload 6, 2) := by decide +kernel
theorem dAT_point_161 : decode cAT_point 161 = .ok (.invokevirtual 83, 3) := by decide +kernel
theorem dAT_point_164 : decode cAT_point 164 = .ok (.aload 5, 2) := by decide +kernel
theorem dAT_point_166 : decode cAT_point 166 = .ok (.getfield 139, 3) := by decide +kernel
theorem dAT_point_169 : decode cAT_point 169 = .ok (.ireturn, 1) := by decide +kernel
theorem dAT_start_0 : decode cAT_start 0 = .ok (.aload_n 0, 1) := by decide +kernel
theorem dAT_start_1 : decode cAT_start 1 = .ok (.iload_n 1, 1) := by decide +kernel
theorem dAT_start_2 : decode cAT_start 2 = .ok (.invokevirtual 124, 3) := by decide +kernel
theorem dAT_start_5 : decode cAT_start 5 = .ok (.astore 4, 2) := by decide +kernel
theorem dAT_start_7 : decode cAT_start 7 = .ok (.aload 4, 2) := by decide +kernel
theorem dAT_start_9 : decode cAT_start 9 = .ok (.ifnonnull 5, 3) := by decide +kernel
theorem dAT_start_12 : decode cAT_start 12 = .ok (.iconst (-1), 1) := by decide +kernel
theorem dAT_start_13 : decode cAT_start 13 = .ok (.ireturn, 1) := by decide +kernel
theorem dAT_start_14 : decode cAT_start 14 = .ok (.aload 4, 2) := by decide +kernel
theorem dAT_start_16 : decode cAT_start 16 = .ok (.getfield 131, 3) := by decide +kernel
theorem dAT_start_19 : decode cAT_start 19 = .ok (.ifCond .eq 5, 3) := by decide +kernel
theorem dAT_start_22 : decode cAT_start 22 = .ok (.iconst 2, 1) := by decide +kernel
theorem dAT_start_23 : decode cAT_start 23 = .ok (.ireturn, 1) := by decide +kernel
theorem dAT_start_24 : decode cAT_start 24 = .ok (.lload_n 2, 1) := by decide +kernel
theorem dAT_start_25 : decode cAT_start 25 = .ok (.lconst 1, 1) := by decide +kernel
theorem dAT_start_26 : decode cAT_start 26 = .ok (.lcmp, 1) := by decide +kernel
theorem dAT_start_27 : decode cAT_start 27 = .ok (.ifCond .lt 11, 3) := by decide +kernel
theorem dAT_start_30 : decode cAT_start 30 = .ok (.lload_n 2, 1) := by decide +kernel
theorem dAT_start_31 : decode cAT_start 31 = .ok (.ldc2_w 112, 3) := by decide +kernel
theorem dAT_start_34 : decode cAT_start 34 = .ok (.lcmp, 1) := by decide +kernel
theorem dAT_start_35 : decode cAT_start 35 = .ok (.ifCond .le 5, 3) := by decide +kernel
theorem dAT_start_38 : decode cAT_start 38 = .ok (.iconst 3, 1) := by decide +kernel
theorem dAT_start_39 : decode cAT_start 39 = .ok (.ireturn, 1) := by decide +kernel
theorem dAT_start_40 : decode cAT_start 40 = .ok (.aload 4, 2) := by decide +kernel
theorem dAT_start_42 : decode cAT_start 42 = .ok (.lconst 0, 1) := by decide +kernel
theorem dAT_start_43 : decode cAT_start 43 = .ok (.putfield 151, 3) := by decide +kernel
theorem dAT_start_46 : decode cAT_start 46 = .ok (.aload 4, 2) := by decide +kernel
theorem dAT_start_48 : decode cAT_start 48 = .ok (.aload 4, 2) := by decide +kernel
theorem dAT_start_50 : decode cAT_start 50 = .ok (.getfield 138, 3) := by decide +kernel
theorem dAT_start_53 : decode cAT_start 53 = .ok (.getfield 154, 3) := by decide +kernel
theorem dAT_start_56 : decode cAT_start 56 = .ok (.lload_n 2, 1) := by decide +kernel
theorem dAT_start_57 : decode cAT_start 57 = .ok (.ladd, 1) := by decide +kernel
theorem dAT_start_58 : decode cAT_start 58 = .ok (.invokevirtual 157, 3) := by decide +kernel
theorem dAT_start_61 : decode cAT_start 61 = .ok (.aload 4, 2) := by decide +kernel
theorem dAT_start_63 : decode cAT_start 63 = .ok (.getfield 138, 3) := by decide +kernel
theorem dAT_start_66 : decode cAT_start 66 = .ok (.aload 4, 2) := by decide +kernel
theorem dAT_start_68 : decode cAT_start 68 = .ok (.getfield 160, 3) := by decide +kernel
theorem dAT_start_71 : decode cAT_start 71 = .ok (.invokevirtual 163, 3) := by decide +kernel
theorem dAT_start_74 : decode cAT_start 74 = .ok (.iconst 1, 1) := by decide +kernel
theorem dAT_start_75 : decode cAT_start 75 = .ok (.ireturn, 1) := by decide +kernel
theorem dAT_next_0 : decode cAT_next 0 = .ok (.aload_n 0, 1) := by decide +kernel
theorem dAT_next_1 : decode cAT_next 1 = .ok (.iload_n 1, 1) := by decide +kernel
theorem dAT_next_2 : decode cAT_next 2 = .ok (.invokevirtual 124, 3) := by decide +kernel
theorem dAT_next_5 : decode cAT_next 5 = .ok (.astore_n 3, 1) := by decide +kernel
theorem dAT_next_6 : decode cAT_next 6 = .ok (.aload_n 0, 1) := by decide +kernel
theorem dAT_next_7 : decode cAT_next 7 = .ok (.iload_n 2, 1) := by decide +kernel
theorem dAT_next_8 : decode cAT_next 8 = .ok (.invokevirtual 124, 3) := by decide +kernel
theorem dAT_next_11 : decode cAT_next 11 = .ok (.astore 4, 2) := by decide +kernel
theorem dAT_next_13 : decode cAT_next 13 = .ok (.aload_n 3, 1) := by decide +kernel
theorem dAT_next_14 : decode cAT_next 14 = .ok (.ifnull 12, 3) := by decide +kernel
theorem dAT_next_17 : decode cAT_next 17 = .ok (.iload_n 2, 1) := by decide +kernel
theorem dAT_next_18 : decode cAT_next 18 = .ok (.ifCond .eq 10, 3) := by decide +kernel
theorem dAT_next_21 : decode cAT_next 21 = .ok (.aload 4, 2) := by decide +kernel
theorem dAT_next_23 : decode cAT_next 23 = .ok (.ifnonnull 5, 3) := by decide +kernel
theorem dAT_next_26 : decode cAT_next 26 = .ok (.iconst (-1), 1) := by decide +kernel
theorem dAT_next_27 : decode cAT_next 27 = .ok (.ireturn, 1) := by decide +kernel
theorem dAT_next_28 : decode cAT_next 28 = .ok (.aload 4, 2) := by decide +kernel
theorem dAT_next_30 : decode cAT_next 30 = .ok (.ifnull 18, 3) := by decide +kernel
theorem dAT_next_33 : decode cAT_next 33 = .ok (.aload 4, 2) := by decide +kernel
theorem dAT_next_35 : decode cAT_next 35 = .ok (.getfield 138, 3) := by decide +kernel
theorem dAT_next_38 : decode cAT_next 38 = .ok (.aload_n 3, 1) := by decide +kernel
theorem dAT_next_39 : decode cAT_next 39 = .ok (.getfield 138, 3) := by decide +kernel
theorem dAT_next_42 : decode cAT_next 42 = .ok (.if_acmp .eq 6, 3) := by decide +kernel
theorem dAT_next_45 : decode cAT_next 45 = .ok (.bipush (-3), 2) := by decide +kernel
theorem dAT_next_47 : decode cAT_next 47 = .ok (.ireturn, 1) := by decide +kernel
theorem dAT_next_48 : decode cAT_next 48 = .ok (.aload_n 3, 1) := by decide +kernel
theorem dAT_next_49 : decode cAT_next 49 = .ok (.aload 4, 2) := by decide +kernel
theorem dAT_next_51 : decode cAT_next 51 = .ok (.putfield 166, 3) := by decide +kernel
theorem dAT_next_54 : decode cAT_next 54 = .ok (.iconst 1, 1) := by decide +kernel
theorem dAT_next_55 : decode cAT_next 55 = .ok (.ireturn, 1) := by decide +kernel
theorem dAT_sync_0 : decode cAT_sync 0 = .ok (.aload_n 0, 1) := by decide +kernel
theorem dAT_sync_1 : decode cAT_sync 1 = .ok (.iload_n 1, 1) := by decide +kernel
theorem dAT_sync_2 : decode cAT_sync 2 = .ok (.invokevirtual 124, 3) := by decide +kernel
theorem dAT_sync_5 : decode cAT_sync 5 = .ok (.astore 4, 2) := by decide +kernel
theorem dAT_sync_7 : decode cAT_sync 7 = .ok (.aload 4, 2) := by decide +kernel
theorem dAT_sync_9 : decode cAT_sync 9 = .ok (.ifnonnull 5, 3) := by decide +kernel
theorem dAT_sync_12 : decode cAT_sync 12 = .ok (.iconst (-1), 1) := by decide +kernel
theorem dAT_sync_13 : decode cAT_sync 13 = .ok (.ireturn, 1) := by decide +kernel
theorem dAT_sync_14 : decode cAT_sync 14 = .ok (.lload_n 2, 1) := by decide +kernel
theorem dAT_sync_15 : decode cAT_sync 15 = .ok (.ldc2_w 170, 3) := by decide +kernel
theorem dAT_sync_18 : decode cAT_sync 18 = .ok (.aload 4, 2) := by decide +kernel
theorem dAT_sync_20 : decode cAT_sync 20 = .ok (.getfield 151, 3) := by decide +kernel
theorem dAT_sync_23 : decode cAT_sync 23 = .ok (.lsub, 1) := by decide +kernel
theorem dAT_sync_24 : decode cAT_sync 24 = .ok (.lcmp, 1) := by decide +kernel
theorem dAT_sync_25 : decode cAT_sync 25 = .ok (.ifCond .lt 17, 3) := by decide +kernel
theorem dAT_sync_28 : decode cAT_sync 28 = .ok (.lload_n 2, 1) := by decide +kernel
theorem dAT_sync_29 : decode cAT_sync 29 = .ok (.ldc2_w 36, 3) := by decide +kernel
theorem dAT_sync_32 : decode cAT_sync 32 = .ok (.aload 4, 2) := by decide +kernel
theorem dAT_sync_34 : decode cAT_sync 34 = .ok (.getfield 151, 3) := by decide +kernel
theorem dAT_sync_37 : decode cAT_sync 37 = .ok (.lsub, 1) := by decide +kernel
theorem dAT_sync_38 : decode cAT_sync 38 = .ok (.lcmp, 1) := by decide +kernel
theorem dAT_sync_39 : decode cAT_sync 39 = .ok (.ifCond .le 6, 3) := by decide +kernel
theorem dAT_sync_42 : decode cAT_sync 42 = .ok (.bipush (-2), 2) := by decide +kernel
theorem dAT_sync_44 : decode cAT_sync 44 = .ok (.ireturn, 1) := by decide +kernel
theorem dAT_sync_45 : decode cAT_sync 45 = .ok (.aload 4, 2) := by decide +kernel
theorem dAT_sync_47 : decode cAT_sync 47 = .ok (.getfield 131, 3) := by decide +kernel
theorem dAT_sync_50 : decode cAT_sync 50 = .ok (.ifCond .ne 6, 3) := by decide +kernel
theorem dAT_sync_53 : decode cAT_sync 53 = .ok (.bipush (-3), 2) := by decide +kernel
theorem dAT_sync_55 : decode cAT_sync 55 = .ok (.ireturn, 1) := by decide +kernel
theorem dAT_sync_56 : decode cAT_sync 56 = .ok (.aload 4, 2) := by decide +kernel
theorem dAT_sync_58 : decode cAT_sync 58 = .ok (.dup, 1) := by decide +kernel
theorem dAT_sync_59 : decode cAT_sync 59 = .ok (.getfield 151, 3) := by decide +kernel
theorem dAT_sync_62 : decode cAT_sync 62 = .ok (.lload_n 2, 1) := by decide +kernel
theorem dAT_sync_63 : decode cAT_sync 63 = .ok (.ladd, 1) := by decide +kernel
theorem dAT_sync_64 : decode cAT_sync 64 = .ok (.putfield 151, 3) := by decide +kernel
theorem dAT_sync_67 : decode cAT_sync 67 = .ok (.aload 4, 2) := by decide +kernel
theorem dAT_sync_69 : decode cAT_sync 69 = .ok (.getfield 151, 3) := by decide +kernel
theorem dAT_sync_72 : decode cAT_sync 72 = .ok (.l2i, 1) := by decide +kernel
theorem dAT_sync_73 : decode cAT_sync 73 = .ok (.ireturn, 1) := by decide +kernel
theorem dAT_tick_0 : decode cAT_tick 0 = .ok (.aload_n 0, 1) := by decide +kernel
theorem dAT_tick_1 : decode cAT_tick 1 = .ok (.iload_n 1, 1) := by decide +kernel
theorem dAT_tick_2 : decode cAT_tick 2 = .ok (.invokevirtual 52, 3) := by decide +kernel
theorem dAT_tick_5 : decode cAT_tick 5 = .ok (.astore 4, 2) := by decide +kernel
theorem dAT_tick_7 : decode cAT_tick 7 = .ok (.aload 4, 2) := by decide +kernel
theorem dAT_tick_9 : decode cAT_tick 9 = .ok (.ifnonnull 5, 3) := by decide +kernel
theorem dAT_tick_12 : decode cAT_tick 12 = .ok (.iconst (-1), 1) := by decide +kernel
theorem dAT_tick_13 : decode cAT_tick 13 = .ok (.ireturn, 1) := by decide +kernel
theorem dAT_tick_14 : decode cAT_tick 14 = .ok (.lload_n 2, 1) := by decide +kernel
theorem dAT_tick_15 : decode cAT_tick 15 = .ok (.lconst 0, 1) := by decide +kernel
theorem dAT_tick_16 : decode cAT_tick 16 = .ok (.lcmp, 1) := by decide +kernel
theorem dAT_tick_17 : decode cAT_tick 17 = .ok (.ifCond .lt 21, 3) := by decide +kernel
theorem dAT_tick_20 : decode cAT_tick 20 = .ok (.lload_n 2, 1) := by decide +kernel
theorem dAT_tick_21 : decode cAT_tick 21 = .ok (.ldc2_w 172, 3) := by decide +kernel
theorem dAT_tick_24 : decode cAT_tick 24 = .ok (.lcmp, 1) := by decide +kernel
theorem dAT_tick_25 : decode cAT_tick 25 = .ok (.ifCond .gt 13, 3) := by decide +kernel
theorem dAT_tick_28 : decode cAT_tick 28 = .ok (.aload 4, 2) := by decide +kernel
theorem dAT_tick_30 : decode cAT_tick 30 = .ok (.getfield 174, 3) := by decide +kernel
theorem dAT_tick_33 : decode cAT_tick 33 = .ok (.lconst 1, 1) := by decide +kernel
theorem dAT_tick_34 : decode cAT_tick 34 = .ok (.lcmp, 1) := by decide +kernel
theorem dAT_tick_35 : decode cAT_tick 35 = .ok (.ifCond .ge 6, 3) := by decide +kernel
theorem dAT_tick_38 : decode cAT_tick 38 = .ok (.bipush (-2), 2) := by decide +kernel
theorem dAT_tick_40 : decode cAT_tick 40 = .ok (.ireturn, 1) := by decide +kernel
theorem dAT_tick_41 : decode cAT_tick 41 = .ok (.aload 4, 2) := by decide +kernel
theorem dAT_tick_43 : decode cAT_tick 43 = .ok (.getfield 177, 3) := by decide +kernel
theorem dAT_tick_46 : decode cAT_tick 46 = .ok (.lload_n 2, 1) := by decide +kernel
theorem dAT_tick_47 : decode cAT_tick 47 = .ok (.ladd, 1) := by decide +kernel
theorem dAT_tick_48 : decode cAT_tick 48 = .ok (.lstore 5, 2) := by decide +kernel
theorem dAT_tick_50 : decode cAT_tick 50 = .ok (.lload 5, 2) := by decide +kernel
theorem dAT_tick_52 : decode cAT_tick 52 = .ok (.aload 4, 2) := by decide +kernel
theorem dAT_tick_54 : decode cAT_tick 54 = .ok (.getfield 174, 3) := by decide +kernel
theorem dAT_tick_57 : decode cAT_tick 57 = .ok (.ldiv, 1) := by decide +kernel
theorem dAT_tick_58 : decode cAT_tick 58 = .ok (.lstore 7, 2) := by decide +kernel
theorem dAT_tick_60 : decode cAT_tick 60 = .ok (.lload 7, 2) := by decide +kernel
theorem dAT_tick_62 : decode cAT_tick 62 = .ok (.ldc2_w 180, 3) := by decide +kernel
theorem dAT_tick_65 : decode cAT_tick 65 = .ok (.lcmp, 1) := by decide +kernel
theorem dAT_tick_66 : decode cAT_tick 66 = .ok (.ifCond .le 6, 3) := by decide +kernel
theorem dAT_tick_69 : decode cAT_tick 69 = .ok (.bipush (-2), 2) := by decide +kernel
theorem dAT_tick_71 : decode cAT_tick 71 = .ok (.ireturn, 1) := by decide +kernel
theorem dAT_tick_72 : decode cAT_tick 72 = .ok (.aload 4, 2) := by decide +kernel
theorem dAT_tick_74 : decode cAT_tick 74 = .ok (.lload 5, 2) := by decide +kernel
theorem dAT_tick_76 : decode cAT_tick 76 = .ok (.aload 4, 2) := by decide +kernel
theorem dAT_tick_78 : decode cAT_tick 78 = .ok (.getfield 174, 3) := by decide +kernel
theorem dAT_tick_81 : decode cAT_tick 81 = .ok (.lrem, 1) := by decide +kernel
theorem dAT_tick_82 : decode cAT_tick 82 = .ok (.putfield 177, 3) := by decide +kernel
theorem dAT_tick_85 : decode cAT_tick 85 = .ok (.aload_n 0, 1) := by decide +kernel
theorem dAT_tick_86 : decode cAT_tick 86 = .ok (.getfield 30, 3) := by decide +kernel
theorem dAT_tick_89 : decode cAT_tick 89 = .ok (.getfield 182, 3) := by decide +kernel
theorem dAT_tick_92 : decode cAT_tick 92 = .ok (.istore 9, 2) := by decide +kernel
theorem dAT_tick_94 : decode cAT_tick 94 = .ok (.aload_n 0, 1) := by decide +kernel
theorem dAT_tick_95 : decode cAT_tick 95 = .ok (.iconst 0, 1) := by decide +kernel
theorem dAT_tick_96 : decode cAT_tick 96 = .ok (.putfield 185, 3) := by decide +kernel
theorem dAT_tick_99 : decode cAT_tick 99 = .ok (.lconst 0, 1) := by decide +kernel
theorem dAT_tick_100 : decode cAT_tick 100 = .ok (.lstore 10, 2) := by decide +kernel
theorem dAT_tick_102 : decode cAT_tick 102 = .ok (.lload 10, 2) := by decide +kernel
theorem dAT_tick_104 : decode cAT_tick 104 = .ok (.lload 7, 2) := by decide +kernel
theorem dAT_tick_106 : decode cAT_tick 106 = .ok (.lcmp, 1) := by decide +kernel
theorem dAT_tick_107 : decode cAT_tick 107 = .ok (.ifCond .ge 19, 3) := by decide +kernel
theorem dAT_tick_110 : decode cAT_tick 110 = .ok (.aload_n 0, 1) := by decide +kernel
theorem dAT_tick_111 : decode cAT_tick 111 = .ok (.aload 4, 2) := by decide +kernel
theorem dAT_tick_113 : decode cAT_tick 113 = .ok (.iconst 1, 1) := by decide +kernel
theorem dAT_tick_114 : decode cAT_tick 114 = .ok (.invokevirtual 188, 3) := by decide +kernel
theorem dAT_tick_117 : decode cAT_tick 117 = .ok (.lload 10, 2) := by decide +kernel
theorem dAT_tick_119 : decode cAT_tick 119 = .ok (.lconst 1, 1) := by decide +kernel
theorem dAT_tick_120 : decode cAT_tick 120 = .ok (.ladd, 1) := by decide +kernel
theorem dAT_tick_121 : decode cAT_tick 121 = .ok (.lstore 10, 2) := by decide +kernel
theorem dAT_tick_123 : decode cAT_tick 123 = .ok (.goto (-21), 3) := by decide +kernel
theorem dAT_tick_126 : decode cAT_tick 126 = .ok (.aload_n 0, 1) := by decide +kernel
theorem dAT_tick_127 : decode cAT_tick 127 = .ok (.getfield 30, 3) := by decide +kernel
theorem dAT_tick_130 : decode cAT_tick 130 = .ok (.getfield 182, 3) := by decide +kernel
theorem dAT_tick_133 : decode cAT_tick 133 = .ok (.iload 9, 2) := by decide +kernel
theorem dAT_tick_135 : decode cAT_tick 135 = .ok (.isub, 1) := by decide +kernel
theorem dAT_tick_136 : decode cAT_tick 136 = .ok (.ireturn, 1) := by decide +kernel
theorem dAT_expired_0 : decode cAT_expired 0 = .ok (.iload_n 1, 1) := by decide +kernel
theorem dAT_expired_1 : decode cAT_expired 1 = .ok (.iconst (-1), 1) := by decide +kernel
theorem dAT_expired_2 : decode cAT_expired 2 = .ok (.if_icmp .ne 15, 3) := by decide +kernel
theorem dAT_expired_5 : decode cAT_expired 5 = .ok (.iload_n 2, 1) := by decide +kernel
theorem dAT_expired_6 : decode cAT_expired 6 = .ok (.ifCond .ne 11, 3) := by decide +kernel
theorem dAT_expired_9 : decode cAT_expired 9 = .ok (.aload_n 0, 1) := by decide +kernel
theorem dAT_expired_10 : decode cAT_expired 10 = .ok (.getfield 30, 3) := by decide +kernel
theorem dAT_expired_13 : decode cAT_expired 13 = .ok (.getfield 182, 3) := by decide +kernel
theorem dAT_expired_16 : decode cAT_expired 16 = .ok (.ireturn, 1) := by decide +kernel
theorem dAT_expired_17 : decode cAT_expired 17 = .ok (.aload_n 0, 1) := by decide +kernel
theorem dAT_expired_18 : decode cAT_expired 18 = .ok (.getfield 30, 3) := by decide +kernel
theorem dAT_expired_21 : decode cAT_expired 21 = .ok (.iload_n 1, 1) := by decide +kernel
theorem dAT_expired_22 : decode cAT_expired 22 = .ok (.invokevirtual 192, 3) := by decide +kernel
theorem dAT_expired_25 : decode cAT_expired 25 = .ok (.ifCond .ne 5, 3) := by decide +kernel
theorem dAT_expired_28 : decode cAT_expired 28 = .ok (.iconst (-1), 1) := by decide +kernel
theorem dAT_expired_29 : decode cAT_expired 29 = .ok (.ireturn, 1) := by decide +kernel
theorem dAT_expired_30 : decode cAT_expired 30 = .ok (.iload_n 2, 1) := by decide +kernel
theorem dAT_expired_31 : decode cAT_expired 31 = .ok (.ifCond .lt 8, 3) := by decide +kernel
theorem dAT_expired_34 : decode cAT_expired 34 = .ok (.iload_n 2, 1) := by decide +kernel
theorem dAT_expired_35 : decode cAT_expired 35 = .ok (.iconst 4, 1) := by decide +kernel
theorem dAT_expired_36 : decode cAT_expired 36 = .ok (.if_icmp .lt 6, 3) := by decide +kernel
theorem dAT_expired_39 : decode cAT_expired 39 = .ok (.bipush (-2), 2) := by decide +kernel
theorem dAT_expired_41 : decode cAT_expired 41 = .ok (.ireturn, 1) := by decide +kernel
theorem dAT_expired_42 : decode cAT_expired 42 = .ok (.aload_n 0, 1) := by decide +kernel
theorem dAT_expired_43 : decode cAT_expired 43 = .ok (.getfield 30, 3) := by decide +kernel
theorem dAT_expired_46 : decode cAT_expired 46 = .ok (.iload_n 1, 1) := by decide +kernel
theorem dAT_expired_47 : decode cAT_expired 47 = .ok (.iload_n 2, 1) := by decide +kernel
theorem dAT_expired_48 : decode cAT_expired 48 = .ok (.invokevirtual 196, 3) := by decide +kernel
theorem dAT_expired_51 : decode cAT_expired 51 = .ok (.ireturn, 1) := by decide +kernel
theorem dAT_deviation_0 : decode cAT_deviation 0 = .ok (.aload_n 0, 1) := by decide +kernel
theorem dAT_deviation_1 : decode cAT_deviation 1 = .ok (.iload_n 1, 1) := by decide +kernel
theorem dAT_deviation_2 : decode cAT_deviation 2 = .ok (.invokevirtual 124, 3) := by decide +kernel
theorem dAT_deviation_5 : decode cAT_deviation 5 = .ok (.astore_n 2, 1) := by decide +kernel
theorem dAT_deviation_6 : decode cAT_deviation 6 = .ok (.aload_n 2, 1) := by decide +kernel
theorem dAT_deviation_7 : decode cAT_deviation 7 = .ok (.ifnonnull 7, 3) := by decide +kernel
theorem dAT_deviation_10 : decode cAT_deviation 10 = .ok (.lconst 0, 1) := by decide +kernel
theorem dAT_deviation_11 : decode cAT_deviation 11 = .ok (.goto 7, 3) := by decide +kernel
theorem dAT_deviation_14 : decode cAT_deviation 14 = .ok (.aload_n 2, 1) := by decide +kernel
theorem dAT_deviation_15 : decode cAT_deviation 15 = .ok (.getfield 151, 3) := by decide +kernel
theorem dAT_deviation_18 : decode cAT_deviation 18 = .ok (.lreturn, 1) := by decide +kernel
theorem dAT_findCounter_0 : decode cAT_findCounter 0 = .ok (.iload_n 1, 1) := by decide +kernel
theorem dAT_findCounter_1 : decode cAT_findCounter 1 = .ok (.iconst 1, 1) := by decide +kernel
theorem dAT_findCounter_2 : decode cAT_findCounter 2 = .ok (.if_icmp .lt 22, 3) := by decide +kernel
theorem dAT_findCounter_5 : decode cAT_findCounter 5 = .ok (.iload_n 1, 1) := by decide +kernel
theorem dAT_findCounter_6 : decode cAT_findCounter 6 = .ok (.aload_n 0, 1) := by decide +kernel
theorem dAT_findCounter_7 : decode cAT_findCounter 7 = .ok (.getfield 38, 3) := by decide +kernel
theorem dAT_findCounter_10 : decode cAT_findCounter 10 = .ok (.if_icmp .gt 14, 3) := by decide +kernel
theorem dAT_findCounter_13 : decode cAT_findCounter 13 = .ok (.aload_n 0, 1) := by decide +kernel
theorem dAT_findCounter_14 : decode cAT_findCounter 14 = .ok (.getfield 11, 3) := by decide +kernel
theorem dAT_findCounter_17 : decode cAT_findCounter 17 = .ok (.iload_n 1, 1) := by decide +kernel
theorem dAT_findCounter_18 : decode cAT_findCounter 18 = .ok (.iconst 1, 1) := by decide +kernel
theorem dAT_findCounter_19 : decode cAT_findCounter 19 = .ok (.isub, 1) := by decide +kernel
theorem dAT_findCounter_20 : decode cAT_findCounter 20 = .ok (.aaload, 1) := by decide +kernel
theorem dAT_findCounter_21 : decode cAT_findCounter 21 = .ok (.goto 4, 3) := by decide +kernel
theorem dAT_findCounter_24 : decode cAT_findCounter 24 = .ok (.aconst_null, 1) := by decide +kernel
theorem dAT_findCounter_25 : decode cAT_findCounter 25 = .ok (.areturn, 1) := by decide +kernel
theorem dAT_findAlarm_0 : decode cAT_findAlarm 0 = .ok (.iload_n 1, 1) := by decide +kernel
theorem dAT_findAlarm_1 : decode cAT_findAlarm 1 = .ok (.iconst 1, 1) := by decide +kernel
theorem dAT_findAlarm_2 : decode cAT_findAlarm 2 = .ok (.if_icmp .lt 22, 3) := by decide +kernel
theorem dAT_findAlarm_5 : decode cAT_findAlarm 5 = .ok (.iload_n 1, 1) := by decide +kernel
theorem dAT_findAlarm_6 : decode cAT_findAlarm 6 = .ok (.aload_n 0, 1) := by decide +kernel
theorem dAT_findAlarm_7 : decode cAT_findAlarm 7 = .ok (.getfield 64, 3) := by decide +kernel
theorem dAT_findAlarm_10 : decode cAT_findAlarm 10 = .ok (.if_icmp .gt 14, 3) := by decide +kernel
theorem dAT_findAlarm_13 : decode cAT_findAlarm 13 = .ok (.aload_n 0, 1) := by decide +kernel
theorem dAT_findAlarm_14 : decode cAT_findAlarm 14 = .ok (.getfield 17, 3) := by decide +kernel
theorem dAT_findAlarm_17 : decode cAT_findAlarm 17 = .ok (.iload_n 1, 1) := by decide +kernel
theorem dAT_findAlarm_18 : decode cAT_findAlarm 18 = .ok (.iconst 1, 1) := by decide +kernel
theorem dAT_findAlarm_19 : decode cAT_findAlarm 19 = .ok (.isub, 1) := by decide +kernel
theorem dAT_findAlarm_20 : decode cAT_findAlarm 20 = .ok (.aaload, 1) := by decide +kernel
theorem dAT_findAlarm_21 : decode cAT_findAlarm 21 = .ok (.goto 4, 3) := by decide +kernel
theorem dAT_findAlarm_24 : decode cAT_findAlarm 24 = .ok (.aconst_null, 1) := by decide +kernel
theorem dAT_findAlarm_25 : decode cAT_findAlarm 25 = .ok (.areturn, 1) := by decide +kernel
theorem dAT_findTable_0 : decode cAT_findTable 0 = .ok (.iload_n 1, 1) := by decide +kernel
theorem dAT_findTable_1 : decode cAT_findTable 1 = .ok (.iconst 1, 1) := by decide +kernel
theorem dAT_findTable_2 : decode cAT_findTable 2 = .ok (.if_icmp .lt 22, 3) := by decide +kernel
theorem dAT_findTable_5 : decode cAT_findTable 5 = .ok (.iload_n 1, 1) := by decide +kernel
theorem dAT_findTable_6 : decode cAT_findTable 6 = .ok (.aload_n 0, 1) := by decide +kernel
theorem dAT_findTable_7 : decode cAT_findTable 7 = .ok (.getfield 114, 3) := by decide +kernel
theorem dAT_findTable_10 : decode cAT_findTable 10 = .ok (.if_icmp .gt 14, 3) := by decide +kernel
theorem dAT_findTable_13 : decode cAT_findTable 13 = .ok (.aload_n 0, 1) := by decide +kernel
theorem dAT_findTable_14 : decode cAT_findTable 14 = .ok (.getfield 23, 3) := by decide +kernel
theorem dAT_findTable_17 : decode cAT_findTable 17 = .ok (.iload_n 1, 1) := by decide +kernel
theorem dAT_findTable_18 : decode cAT_findTable 18 = .ok (.iconst 1, 1) := by decide +kernel
theorem dAT_findTable_19 : decode cAT_findTable 19 = .ok (.isub, 1) := by decide +kernel
theorem dAT_findTable_20 : decode cAT_findTable 20 = .ok (.aaload, 1) := by decide +kernel
theorem dAT_findTable_21 : decode cAT_findTable 21 = .ok (.goto 4, 3) := by decide +kernel
theorem dAT_findTable_24 : decode cAT_findTable 24 = .ok (.aconst_null, 1) := by decide +kernel
theorem dAT_findTable_25 : decode cAT_findTable 25 = .ok (.areturn, 1) := by decide +kernel
theorem dAT_isUnknownFor_0 : decode cAT_isUnknownFor 0 = .ok (.iload_n 1, 1) := by decide +kernel
theorem dAT_isUnknownFor_1 : decode cAT_isUnknownFor 1 = .ok (.tableswitch 65 0 2 #[27, 37, 51], 27) := by decide +kernel
theorem dAT_isUnknownFor_28 : decode cAT_isUnknownFor 28 = .ok (.iload_n 2, 1) := by decide +kernel
theorem dAT_isUnknownFor_29 : decode cAT_isUnknownFor 29 = .ok (.ifCond .eq 7, 3) := by decide +kernel
theorem dAT_isUnknownFor_32 : decode cAT_isUnknownFor 32 = .ok (.iconst 1, 1) := by decide +kernel
theorem dAT_isUnknownFor_33 : decode cAT_isUnknownFor 33 = .ok (.goto 4, 3) := by decide +kernel
theorem dAT_isUnknownFor_36 : decode cAT_isUnknownFor 36 = .ok (.iconst 0, 1) := by decide +kernel
theorem dAT_isUnknownFor_37 : decode cAT_isUnknownFor 37 = .ok (.ireturn, 1) := by decide +kernel
theorem dAT_isUnknownFor_38 : decode cAT_isUnknownFor 38 = .ok (.aload_n 0, 1) := by decide +kernel
theorem dAT_isUnknownFor_39 : decode cAT_isUnknownFor 39 = .ok (.iload_n 2, 1) := by decide +kernel
theorem dAT_isUnknownFor_40 : decode cAT_isUnknownFor 40 = .ok (.invokevirtual 52, 3) := by decide +kernel
theorem dAT_isUnknownFor_43 : decode cAT_isUnknownFor 43 = .ok (.ifnonnull 7, 3) := by decide +kernel
theorem dAT_isUnknownFor_46 : decode cAT_isUnknownFor 46 = .ok (.iconst 1, 1) := by decide +kernel
theorem dAT_isUnknownFor_47 : decode cAT_isUnknownFor 47 = .ok (.goto 4, 3) := by decide +kernel
theorem dAT_isUnknownFor_50 : decode cAT_isUnknownFor 50 = .ok (.iconst 0, 1) := by decide +kernel
theorem dAT_isUnknownFor_51 : decode cAT_isUnknownFor 51 = .ok (.ireturn, 1) := by decide +kernel
theorem dAT_isUnknownFor_52 : decode cAT_isUnknownFor 52 = .ok (.aload_n 0, 1) := by decide +kernel
theorem dAT_isUnknownFor_53 : decode cAT_isUnknownFor 53 = .ok (.iload_n 2, 1) := by decide +kernel
theorem dAT_isUnknownFor_54 : decode cAT_isUnknownFor 54 = .ok (.invokevirtual 67, 3) := by decide +kernel
theorem dAT_isUnknownFor_57 : decode cAT_isUnknownFor 57 = .ok (.ifnonnull 7, 3) := by decide +kernel
theorem dAT_isUnknownFor_60 : decode cAT_isUnknownFor 60 = .ok (.iconst 1, 1) := by decide +kernel
theorem dAT_isUnknownFor_61 : decode cAT_isUnknownFor 61 = .ok (.goto 4, 3) := by decide +kernel
theorem dAT_isUnknownFor_64 : decode cAT_isUnknownFor 64 = .ok (.iconst 0, 1) := by decide +kernel
theorem dAT_isUnknownFor_65 : decode cAT_isUnknownFor 65 = .ok (.ireturn, 1) := by decide +kernel
theorem dAT_isUnknownFor_66 : decode cAT_isUnknownFor 66 = .ok (.iconst 0, 1) := by decide +kernel
theorem dAT_isUnknownFor_67 : decode cAT_isUnknownFor 67 = .ok (.ireturn, 1) := by decide +kernel
theorem dAT_wouldCircle_0 : decode cAT_wouldCircle 0 = .ok (.aload_n 1, 1) := by decide +kernel
theorem dAT_wouldCircle_1 : decode cAT_wouldCircle 1 = .ok (.ifnull 24, 3) := by decide +kernel
theorem dAT_wouldCircle_4 : decode cAT_wouldCircle 4 = .ok (.aload_n 1, 1) := by decide +kernel
theorem dAT_wouldCircle_5 : decode cAT_wouldCircle 5 = .ok (.aload_n 0, 1) := by decide +kernel
theorem dAT_wouldCircle_6 : decode cAT_wouldCircle 6 = .ok (.if_acmp .eq 15, 3) := by decide +kernel
theorem dAT_wouldCircle_9 : decode cAT_wouldCircle 9 = .ok (.aload_n 1, 1) := by decide +kernel
theorem dAT_wouldCircle_10 : decode cAT_wouldCircle 10 = .ok (.getfield 200, 3) := by decide +kernel
theorem dAT_wouldCircle_13 : decode cAT_wouldCircle 13 = .ok (.aload_n 0, 1) := by decide +kernel
theorem dAT_wouldCircle_14 : decode cAT_wouldCircle 14 = .ok (.getfield 203, 3) := by decide +kernel
theorem dAT_wouldCircle_17 : decode cAT_wouldCircle 17 = .ok (.iand, 1) := by decide +kernel
theorem dAT_wouldCircle_18 : decode cAT_wouldCircle 18 = .ok (.ifCond .eq 7, 3) := by decide +kernel
theorem dAT_wouldCircle_21 : decode cAT_wouldCircle 21 = .ok (.iconst 1, 1) := by decide +kernel
theorem dAT_wouldCircle_22 : decode cAT_wouldCircle 22 = .ok (.goto 4, 3) := by decide +kernel
theorem dAT_wouldCircle_25 : decode cAT_wouldCircle 25 = .ok (.iconst 0, 1) := by decide +kernel
theorem dAT_wouldCircle_26 : decode cAT_wouldCircle 26 = .ok (.ireturn, 1) := by decide +kernel
theorem dAT_link_0 : decode cAT_link 0 = .ok (.aload_n 2, 1) := by decide +kernel
theorem dAT_link_1 : decode cAT_link 1 = .ok (.ifnonnull 4, 3) := by decide +kernel
theorem dAT_link_4 : decode cAT_link 4 = .ok (.return_, 1) := by decide +kernel
theorem dAT_link_5 : decode cAT_link 5 = .ok (.aload_n 2, 1) := by decide +kernel
theorem dAT_link_6 : decode cAT_link 6 = .ok (.getfield 200, 3) := by decide +kernel
theorem dAT_link_9 : decode cAT_link 9 = .ok (.aload_n 2, 1) := by decide +kernel
theorem dAT_link_10 : decode cAT_link 10 = .ok (.getfield 203, 3) := by decide +kernel
theorem dAT_link_13 : decode cAT_link 13 = .ok (.ior, 1) := by decide +kernel
theorem dAT_link_14 : decode cAT_link 14 = .ok (.istore_n 3, 1) := by decide +kernel
theorem dAT_link_15 : decode cAT_link 15 = .ok (.iconst 0, 1) := by decide +kernel
theorem dAT_link_16 : decode cAT_link 16 = .ok (.istore 4, 2) := by decide +kernel
theorem dAT_link_18 : decode cAT_link 18 = .ok (.iload 4, 2) := by decide +kernel
theorem dAT_link_20 : decode cAT_link 20 = .ok (.aload_n 0, 1) := by decide +kernel
theorem dAT_link_21 : decode cAT_link 21 = .ok (.getfield 38, 3) := by decide +kernel
theorem dAT_link_24 : decode cAT_link 24 = .ok (.if_icmp .ge 53, 3) := by decide +kernel
theorem dAT_link_27 : decode cAT_link 27 = .ok (.aload_n 0, 1) := by decide +kernel
theorem dAT_link_28 : decode cAT_link 28 = .ok (.getfield 11, 3) := by decide +kernel
theorem dAT_link_31 : decode cAT_link 31 = .ok (.iload 4, 2) := by decide +kernel
theorem dAT_link_33 : decode cAT_link 33 = .ok (.aaload, 1) := by decide +kernel
theorem dAT_link_34 : decode cAT_link 34 = .ok (.astore 5, 2) := by decide +kernel
theorem dAT_link_36 : decode cAT_link 36 = .ok (.aload 5, 2) := by decide +kernel
theorem dAT_link_38 : decode cAT_link 38 = .ok (.ifnull 33, 3) := by decide +kernel
theorem dAT_link_41 : decode cAT_link 41 = .ok (.aload 5, 2) := by decide +kernel
theorem dAT_link_43 : decode cAT_link 43 = .ok (.aload_n 1, 1) := by decide +kernel
theorem dAT_link_44 : decode cAT_link 44 = .ok (.if_acmp .eq 16, 3) := by decide +kernel
theorem dAT_link_47 : decode cAT_link 47 = .ok (.aload 5, 2) := by decide +kernel
theorem dAT_link_49 : decode cAT_link 49 = .ok (.getfield 200, 3) := by decide +kernel
theorem dAT_link_52 : decode cAT_link 52 = .ok (.aload_n 1, 1) := by decide +kernel
theorem dAT_link_53 : decode cAT_link 53 = .ok (.getfield 203, 3) := by decide +kernel
theorem dAT_link_56 : decode cAT_link 56 = .ok (.iand, 1) := by decide +kernel
theorem dAT_link_57 : decode cAT_link 57 = .ok (.ifCond .eq 14, 3) := by decide +kernel
theorem dAT_link_60 : decode cAT_link 60 = .ok (.aload 5, 2) := by decide +kernel
theorem dAT_link_62 : decode cAT_link 62 = .ok (.dup, 1) := by decide +kernel
theorem dAT_link_63 : decode cAT_link 63 = .ok (.getfield 200, 3) := by decide +kernel
theorem dAT_link_66 : decode cAT_link 66 = .ok (.iload_n 3, 1) := by decide +kernel
theorem dAT_link_67 : decode cAT_link 67 = .ok (.ior, 1) := by decide +kernel
theorem dAT_link_68 : decode cAT_link 68 = .ok (.putfield 200, 3) := by decide +kernel
theorem dAT_link_71 : decode cAT_link 71 = .ok (.iinc 4 1, 3) := by decide +kernel
theorem dAT_link_74 : decode cAT_link 74 = .ok (.goto (-56), 3) := by decide +kernel
theorem dAT_link_77 : decode cAT_link 77 = .ok (.return_, 1) := by decide +kernel
theorem dAT_makeStep_0 : decode cAT_makeStep 0 = .ok (.aload_n 1, 1) := by decide +kernel
theorem dAT_makeStep_1 : decode cAT_makeStep 1 = .ok (.invokevirtual 206, 3) := by decide +kernel
theorem dAT_makeStep_4 : decode cAT_makeStep 4 = .ok (.aload_n 1, 1) := by decide +kernel
theorem dAT_makeStep_5 : decode cAT_makeStep 5 = .ok (.getfield 154, 3) := by decide +kernel
theorem dAT_makeStep_8 : decode cAT_makeStep 8 = .ok (.aload_n 1, 1) := by decide +kernel
theorem dAT_makeStep_9 : decode cAT_makeStep 9 = .ok (.getfield 209, 3) := by decide +kernel
theorem dAT_makeStep_12 : decode cAT_makeStep 12 = .ok (.lcmp, 1) := by decide +kernel
theorem dAT_makeStep_13 : decode cAT_makeStep 13 = .ok (.ifCond .ge 4, 3) := by decide +kernel
theorem dAT_makeStep_16 : decode cAT_makeStep 16 = .ok (.return_, 1) := by decide +kernel
theorem dAT_makeStep_17 : decode cAT_makeStep 17 = .ok (.aload_n 1, 1) := by decide +kernel
theorem dAT_makeStep_18 : decode cAT_makeStep 18 = .ok (.ldc2_w 212, 3) := by decide +kernel
theorem dAT_makeStep_21 : decode cAT_makeStep 21 = .ok (.putfield 209, 3) := by decide +kernel
theorem dAT_makeStep_24 : decode cAT_makeStep 24 = .ok (.aload_n 1, 1) := by decide +kernel
theorem dAT_makeStep_25 : decode cAT_makeStep 25 = .ok (.getfield 214, 3) := by decide +kernel
theorem dAT_makeStep_28 : decode cAT_makeStep 28 = .ok (.astore_n 3, 1) := by decide +kernel
theorem dAT_makeStep_29 : decode cAT_makeStep 29 = .ok (.aload_n 3, 1) := by decide +kernel
theorem dAT_makeStep_30 : decode cAT_makeStep 30 = .ok (.ifnull 17, 3) := by decide +kernel
theorem dAT_makeStep_33 : decode cAT_makeStep 33 = .ok (.aload_n 0, 1) := by decide +kernel
theorem dAT_makeStep_34 : decode cAT_makeStep 34 = .ok (.aload_n 3, 1) := by decide +kernel
theorem dAT_makeStep_35 : decode cAT_makeStep 35 = .ok (.iload_n 2, 1) := by decide +kernel
theorem dAT_makeStep_36 : decode cAT_makeStep 36 = .ok (.invokevirtual 218, 3) := by decide +kernel
theorem dAT_makeStep_39 : decode cAT_makeStep 39 = .ok (.aload_n 3, 1) := by decide +kernel
theorem dAT_makeStep_40 : decode cAT_makeStep 40 = .ok (.getfield 222, 3) := by decide +kernel
theorem dAT_makeStep_43 : decode cAT_makeStep 43 = .ok (.astore_n 3, 1) := by decide +kernel
theorem dAT_makeStep_44 : decode cAT_makeStep 44 = .ok (.goto (-15), 3) := by decide +kernel
theorem dAT_makeStep_47 : decode cAT_makeStep 47 = .ok (.aload_n 1, 1) := by decide +kernel
theorem dAT_makeStep_48 : decode cAT_makeStep 48 = .ok (.getfield 225, 3) := by decide +kernel
theorem dAT_makeStep_51 : decode cAT_makeStep 51 = .ok (.astore_n 3, 1) := by decide +kernel
theorem dAT_makeStep_52 : decode cAT_makeStep 52 = .ok (.aload_n 3, 1) := by decide +kernel
theorem dAT_makeStep_53 : decode cAT_makeStep 53 = .ok (.ifnull 17, 3) := by decide +kernel
theorem dAT_makeStep_56 : decode cAT_makeStep 56 = .ok (.aload_n 0, 1) := by decide +kernel
theorem dAT_makeStep_57 : decode cAT_makeStep 57 = .ok (.aload_n 3, 1) := by decide +kernel
theorem dAT_makeStep_58 : decode cAT_makeStep 58 = .ok (.iload_n 2, 1) := by decide +kernel
theorem dAT_makeStep_59 : decode cAT_makeStep 59 = .ok (.invokevirtual 228, 3) := by decide +kernel
theorem dAT_makeStep_62 : decode cAT_makeStep 62 = .ok (.aload_n 3, 1) := by decide +kernel
theorem dAT_makeStep_63 : decode cAT_makeStep 63 = .ok (.getfield 232, 3) := by decide +kernel
theorem dAT_makeStep_66 : decode cAT_makeStep 66 = .ok (.astore_n 3, 1) := by decide +kernel
theorem dAT_makeStep_67 : decode cAT_makeStep 67 = .ok (.goto (-15), 3) := by decide +kernel
theorem dAT_makeStep_70 : decode cAT_makeStep 70 = .ok (.return_, 1) := by decide +kernel
theorem dAT_takeAlarmTurn_0 : decode cAT_takeAlarmTurn 0 = .ok (.aload_n 1, 1) := by decide +kernel
theorem dAT_takeAlarmTurn_1 : decode cAT_takeAlarmTurn 1 = .ok (.getfield 87, 3) := by decide +kernel
theorem dAT_takeAlarmTurn_4 : decode cAT_takeAlarmTurn 4 = .ok (.ifCond .ne 4, 3) := by decide +kernel
theorem dAT_takeAlarmTurn_7 : decode cAT_takeAlarmTurn 7 = .ok (.return_, 1) := by decide +kernel
theorem dAT_takeAlarmTurn_8 : decode cAT_takeAlarmTurn 8 = .ok (.aload_n 1, 1) := by decide +kernel
theorem dAT_takeAlarmTurn_9 : decode cAT_takeAlarmTurn 9 = .ok (.getfield 234, 3) := by decide +kernel
theorem dAT_takeAlarmTurn_12 : decode cAT_takeAlarmTurn 12 = .ok (.aload_n 1, 1) := by decide +kernel
theorem dAT_takeAlarmTurn_13 : decode cAT_takeAlarmTurn 13 = .ok (.getfield 91, 3) := by decide +kernel
theorem dAT_takeAlarmTurn_16 : decode cAT_takeAlarmTurn 16 = .ok (.getfield 154, 3) := by decide +kernel
theorem dAT_takeAlarmTurn_19 : decode cAT_takeAlarmTurn 19 = .ok (.lcmp, 1) := by decide +kernel
theorem dAT_takeAlarmTurn_20 : decode cAT_takeAlarmTurn 20 = .ok (.ifCond .eq 15, 3) := by decide +kernel
theorem dAT_takeAlarmTurn_23 : decode cAT_takeAlarmTurn 23 = .ok (.aload_n 1, 1) := by decide +kernel
theorem dAT_takeAlarmTurn_24 : decode cAT_takeAlarmTurn 24 = .ok (.getfield 91, 3) := by decide +kernel
theorem dAT_takeAlarmTurn_27 : decode cAT_takeAlarmTurn 27 = .ok (.aload_n 1, 1) := by decide +kernel
theorem dAT_takeAlarmTurn_28 : decode cAT_takeAlarmTurn 28 = .ok (.getfield 234, 3) := by decide +kernel
theorem dAT_takeAlarmTurn_31 : decode cAT_takeAlarmTurn 31 = .ok (.invokevirtual 163, 3) := by decide +kernel
theorem dAT_takeAlarmTurn_34 : decode cAT_takeAlarmTurn 34 = .ok (.return_, 1) := by decide +kernel
theorem dAT_takeAlarmTurn_35 : decode cAT_takeAlarmTurn 35 = .ok (.aload_n 0, 1) := by decide +kernel
theorem dAT_takeAlarmTurn_36 : decode cAT_takeAlarmTurn 36 = .ok (.getfield 30, 3) := by decide +kernel
theorem dAT_takeAlarmTurn_39 : decode cAT_takeAlarmTurn 39 = .ok (.iconst 0, 1) := by decide +kernel
theorem dAT_takeAlarmTurn_40 : decode cAT_takeAlarmTurn 40 = .ok (.aload_n 1, 1) := by decide +kernel
theorem dAT_takeAlarmTurn_41 : decode cAT_takeAlarmTurn 41 = .ok (.getfield 235, 3) := by decide +kernel
theorem dAT_takeAlarmTurn_44 : decode cAT_takeAlarmTurn 44 = .ok (.lconst 0, 1) := by decide +kernel
theorem dAT_takeAlarmTurn_45 : decode cAT_takeAlarmTurn 45 = .ok (.aload_n 1, 1) := by decide +kernel
theorem dAT_takeAlarmTurn_46 : decode cAT_takeAlarmTurn 46 = .ok (.getfield 91, 3) := by decide +kernel
theorem dAT_takeAlarmTurn_49 : decode cAT_takeAlarmTurn 49 = .ok (.getfield 238, 3) := by decide +kernel
theorem dAT_takeAlarmTurn_52 : decode cAT_takeAlarmTurn 52 = .ok (.invokevirtual 241, 3) := by decide +kernel
theorem dAT_takeAlarmTurn_55 : decode cAT_takeAlarmTurn 55 = .ok (.aload_n 1, 1) := by decide +kernel
theorem dAT_takeAlarmTurn_56 : decode cAT_takeAlarmTurn 56 = .ok (.getfield 101, 3) := by decide +kernel
theorem dAT_takeAlarmTurn_59 : decode cAT_takeAlarmTurn 59 = .ok (.lconst 0, 1) := by decide +kernel
theorem dAT_takeAlarmTurn_60 : decode cAT_takeAlarmTurn 60 = .ok (.lcmp, 1) := by decide +kernel
theorem dAT_takeAlarmTurn_61 : decode cAT_takeAlarmTurn 61 = .ok (.ifCond .ne 11, 3) := by decide +kernel
theorem dAT_takeAlarmTurn_64 : decode cAT_takeAlarmTurn 64 = .ok (.aload_n 1, 1) := by decide +kernel
theorem dAT_takeAlarmTurn_65 : decode cAT_takeAlarmTurn 65 = .ok (.iconst 0, 1) := by decide +kernel
theorem dAT_takeAlarmTurn_66 : decode cAT_takeAlarmTurn 66 = .ok (.putfield 87, 3) := by decide +kernel
theorem dAT_takeAlarmTurn_69 : decode cAT_takeAlarmTurn 69 = .ok (.goto 11, 3) := by decide +kernel
theorem dAT_takeAlarmTurn_72 : decode cAT_takeAlarmTurn 72 = .ok (.aload_n 1, 1) := by decide +kernel
theorem dAT_takeAlarmTurn_73 : decode cAT_takeAlarmTurn 73 = .ok (.aload_n 1, 1) := by decide +kernel
theorem dAT_takeAlarmTurn_74 : decode cAT_takeAlarmTurn 74 = .ok (.getfield 101, 3) := by decide +kernel
theorem dAT_takeAlarmTurn_77 : decode cAT_takeAlarmTurn 77 = .ok (.invokevirtual 108, 3) := by decide +kernel
theorem dAT_takeAlarmTurn_80 : decode cAT_takeAlarmTurn 80 = .ok (.aload_n 0, 1) := by decide +kernel
theorem dAT_takeAlarmTurn_81 : decode cAT_takeAlarmTurn 81 = .ok (.aload_n 1, 1) := by decide +kernel
theorem dAT_takeAlarmTurn_82 : decode cAT_takeAlarmTurn 82 = .ok (.getfield 245, 3) := by decide +kernel
theorem dAT_takeAlarmTurn_85 : decode cAT_takeAlarmTurn 85 = .ok (.iload_n 2, 1) := by decide +kernel
theorem dAT_takeAlarmTurn_86 : decode cAT_takeAlarmTurn 86 = .ok (.invokevirtual 249, 3) := by decide +kernel
theorem dAT_takeAlarmTurn_89 : decode cAT_takeAlarmTurn 89 = .ok (.return_, 1) := by decide +kernel
theorem dAT_takeTableTurn_0 : decode cAT_takeTableTurn 0 = .ok (.aload_n 1, 1) := by decide +kernel
theorem dAT_takeTableTurn_1 : decode cAT_takeTableTurn 1 = .ok (.getfield 131, 3) := by decide +kernel
theorem dAT_takeTableTurn_4 : decode cAT_takeTableTurn 4 = .ok (.ifCond .ne 4, 3) := by decide +kernel
theorem dAT_takeTableTurn_7 : decode cAT_takeTableTurn 7 = .ok (.return_, 1) := by decide +kernel
theorem dAT_takeTableTurn_8 : decode cAT_takeTableTurn 8 = .ok (.aload_n 1, 1) := by decide +kernel
theorem dAT_takeTableTurn_9 : decode cAT_takeTableTurn 9 = .ok (.getfield 160, 3) := by decide +kernel
theorem dAT_takeTableTurn_12 : decode cAT_takeTableTurn 12 = .ok (.aload_n 1, 1) := by decide +kernel
theorem dAT_takeTableTurn_13 : decode cAT_takeTableTurn 13 = .ok (.getfield 138, 3) := by decide +kernel
theorem dAT_takeTableTurn_16 : decode cAT_takeTableTurn 16 = .ok (.getfield 154, 3) := by decide +kernel
theorem dAT_takeTableTurn_19 : decode cAT_takeTableTurn 19 = .ok (.lcmp, 1) := by decide +kernel
theorem dAT_takeTableTurn_20 : decode cAT_takeTableTurn 20 = .ok (.ifCond .eq 15, 3) := by decide +kernel
theorem dAT_takeTableTurn_23 : decode cAT_takeTableTurn 23 = .ok (.aload_n 1, 1) := by decide +kernel
theorem dAT_takeTableTurn_24 : decode cAT_takeTableTurn 24 = .ok (.getfield 138, 3) := by decide +kernel
theorem dAT_takeTableTurn_27 : decode cAT_takeTableTurn 27 = .ok (.aload_n 1, 1) := by decide +kernel
theorem dAT_takeTableTurn_28 : decode cAT_takeTableTurn 28 = .ok (.getfield 160, 3) := by decide +kernel
theorem dAT_takeTableTurn_31 : decode cAT_takeTableTurn 31 = .ok (.invokevirtual 163, 3) := by decide +kernel
theorem dAT_takeTableTurn_34 : decode cAT_takeTableTurn 34 = .ok (.return_, 1) := by decide +kernel
theorem dAT_takeTableTurn_35 : decode cAT_takeTableTurn 35 = .ok (.aload_n 1, 1) := by decide +kernel
theorem dAT_takeTableTurn_36 : decode cAT_takeTableTurn 36 = .ok (.astore_n 3, 1) := by decide +kernel
theorem dAT_takeTableTurn_37 : decode cAT_takeTableTurn 37 = .ok (.iconst 0, 1) := by decide +kernel
theorem dAT_takeTableTurn_38 : decode cAT_takeTableTurn 38 = .ok (.istore 4, 2) := by decide +kernel
theorem dAT_takeTableTurn_40 : decode cAT_takeTableTurn 40 = .ok (.iload 4, 2) := by decide +kernel
theorem dAT_takeTableTurn_42 : decode cAT_takeTableTurn 42 = .ok (.bipush 8, 2) := by decide +kernel
theorem dAT_takeTableTurn_44 : decode cAT_takeTableTurn 44 = .ok (.if_icmp .ge 35, 3) := by decide +kernel
theorem dAT_takeTableTurn_47 : decode cAT_takeTableTurn 47 = .ok (.aload_n 3, 1) := by decide +kernel
theorem dAT_takeTableTurn_48 : decode cAT_takeTableTurn 48 = .ok (.ifnull 31, 3) := by decide +kernel
theorem dAT_takeTableTurn_51 : decode cAT_takeTableTurn 51 = .ok (.aload_n 3, 1) := by decide +kernel
theorem dAT_takeTableTurn_52 : decode cAT_takeTableTurn 52 = .ok (.getfield 160, 3) := by decide +kernel
theorem dAT_takeTableTurn_55 : decode cAT_takeTableTurn 55 = .ok (.aload_n 3, 1) := by decide +kernel
theorem dAT_takeTableTurn_56 : decode cAT_takeTableTurn 56 = .ok (.getfield 138, 3) := by decide +kernel
theorem dAT_takeTableTurn_59 : decode cAT_takeTableTurn 59 = .ok (.getfield 154, 3) := by decide +kernel
theorem dAT_takeTableTurn_62 : decode cAT_takeTableTurn 62 = .ok (.lcmp, 1) := by decide +kernel
theorem dAT_takeTableTurn_63 : decode cAT_takeTableTurn 63 = .ok (.ifCond .ne 16, 3) := by decide +kernel
theorem dAT_takeTableTurn_66 : decode cAT_takeTableTurn 66 = .ok (.aload_n 0, 1) := by decide +kernel
theorem dAT_takeTableTurn_67 : decode cAT_takeTableTurn 67 = .ok (.aload_n 3, 1) := by decide +kernel
theorem dAT_takeTableTurn_68 : decode cAT_takeTableTurn 68 = .ok (.iload_n 2, 1) := by decide +kernel
theorem dAT_takeTableTurn_69 : decode cAT_takeTableTurn 69 = .ok (.invokevirtual 253, 3) := by decide +kernel
theorem dAT_takeTableTurn_72 : decode cAT_takeTableTurn 72 = .ok (.astore_n 3, 1) := by decide +kernel
theorem dAT_takeTableTurn_73 : decode cAT_takeTableTurn 73 = .ok (.iinc 4 1, 3) := by decide +kernel
theorem dAT_takeTableTurn_76 : decode cAT_takeTableTurn 76 = .ok (.goto (-36), 3) := by decide +kernel
theorem dAT_takeTableTurn_79 : decode cAT_takeTableTurn 79 = .ok (.return_, 1) := by decide +kernel
theorem dAT_goThrough_0 : decode cAT_goThrough 0 = .ok (.aload_n 1, 1) := by decide +kernel
theorem dAT_goThrough_1 : decode cAT_goThrough 1 = .ok (.getfield 257, 3) := by decide +kernel
theorem dAT_goThrough_4 : decode cAT_goThrough 4 = .ok (.ifCond .ne 19, 3) := by decide +kernel
theorem dAT_goThrough_7 : decode cAT_goThrough 7 = .ok (.aload_n 1, 1) := by decide +kernel
theorem dAT_goThrough_8 : decode cAT_goThrough 8 = .ok (.iconst 1, 1) := by decide +kernel
theorem dAT_goThrough_9 : decode cAT_goThrough 9 = .ok (.putfield 257, 3) := by decide +kernel
theorem dAT_goThrough_12 : decode cAT_goThrough 12 = .ok (.aload_n 1, 1) := by decide +kernel
theorem dAT_goThrough_13 : decode cAT_goThrough 13 = .ok (.lconst 0, 1) := by decide +kernel
theorem dAT_goThrough_14 : decode cAT_goThrough 14 = .ok (.aload_n 1, 1) := by decide +kernel
theorem dAT_goThrough_15 : decode cAT_goThrough 15 = .ok (.getfield 260, 3) := by decide +kernel
theorem dAT_goThrough_18 : decode cAT_goThrough 18 = .ok (.invokevirtual 264, 3) := by decide +kernel
theorem dAT_goThrough_21 : decode cAT_goThrough 21 = .ok (.aload_n 1, 1) := by decide +kernel
theorem dAT_goThrough_22 : decode cAT_goThrough 22 = .ok (.areturn, 1) := by decide +kernel
theorem dAT_goThrough_23 : decode cAT_goThrough 23 = .ok (.aload_n 1, 1) := by decide +kernel
theorem dAT_goThrough_24 : decode cAT_goThrough 24 = .ok (.getfield 268, 3) := by decide +kernel
theorem dAT_goThrough_27 : decode cAT_goThrough 27 = .ok (.astore_n 3, 1) := by decide +kernel
theorem dAT_goThrough_28 : decode cAT_goThrough 28 = .ok (.aload_n 3, 1) := by decide +kernel
theorem dAT_goThrough_29 : decode cAT_goThrough 29 = .ok (.ifnonnull 9, 3) := by decide +kernel
theorem dAT_goThrough_32 : decode cAT_goThrough 32 = .ok (.aload_n 0, 1) := by decide +kernel
theorem dAT_goThrough_33 : decode cAT_goThrough 33 = .ok (.aload_n 1, 1) := by decide +kernel
theorem dAT_goThrough_34 : decode cAT_goThrough 34 = .ok (.invokevirtual 271, 3) := by decide +kernel
theorem dAT_goThrough_37 : decode cAT_goThrough 37 = .ok (.areturn, 1) := by decide +kernel
theorem dAT_goThrough_38 : decode cAT_goThrough 38 = .ok (.aload_n 0, 1) := by decide +kernel
theorem dAT_goThrough_39 : decode cAT_goThrough 39 = .ok (.getfield 30, 3) := by decide +kernel
theorem dAT_goThrough_42 : decode cAT_goThrough 42 = .ok (.iconst 1, 1) := by decide +kernel
theorem dAT_goThrough_43 : decode cAT_goThrough 43 = .ok (.aload_n 1, 1) := by decide +kernel
theorem dAT_goThrough_44 : decode cAT_goThrough 44 = .ok (.getfield 275, 3) := by decide +kernel
theorem dAT_goThrough_47 : decode cAT_goThrough 47 = .ok (.aload_n 3, 1) := by decide +kernel
theorem dAT_goThrough_48 : decode cAT_goThrough 48 = .ok (.getfield 276, 3) := by decide +kernel
theorem dAT_goThrough_51 : decode cAT_goThrough 51 = .ok (.aload_n 1, 1) := by decide +kernel
theorem dAT_goThrough_52 : decode cAT_goThrough 52 = .ok (.getfield 138, 3) := by decide +kernel
theorem dAT_goThrough_55 : decode cAT_goThrough 55 = .ok (.getfield 238, 3) := by decide +kernel
theorem dAT_goThrough_58 : decode cAT_goThrough 58 = .ok (.invokevirtual 241, 3) := by decide +kernel
theorem dAT_goThrough_61 : decode cAT_goThrough 61 = .ok (.aload_n 1, 1) := by decide +kernel
theorem dAT_goThrough_62 : decode cAT_goThrough 62 = .ok (.aload_n 3, 1) := by decide +kernel
theorem dAT_goThrough_63 : decode cAT_goThrough 63 = .ok (.getfield 276, 3) := by decide +kernel
theorem dAT_goThrough_66 : decode cAT_goThrough 66 = .ok (.aload_n 3, 1) := by decide +kernel
theorem dAT_goThrough_67 : decode cAT_goThrough 67 = .ok (.getfield 279, 3) := by decide +kernel
theorem dAT_goThrough_70 : decode cAT_goThrough 70 = .ok (.invokevirtual 264, 3) := by decide +kernel
theorem dAT_goThrough_73 : decode cAT_goThrough 73 = .ok (.aload_n 0, 1) := by decide +kernel
theorem dAT_goThrough_74 : decode cAT_goThrough 74 = .ok (.aload_n 3, 1) := by decide +kernel
theorem dAT_goThrough_75 : decode cAT_goThrough 75 = .ok (.getfield 281, 3) := by decide +kernel
theorem dAT_goThrough_78 : decode cAT_goThrough 78 = .ok (.iload_n 2, 1) := by decide +kernel
theorem dAT_goThrough_79 : decode cAT_goThrough 79 = .ok (.invokevirtual 249, 3) := by decide +kernel
theorem dAT_goThrough_82 : decode cAT_goThrough 82 = .ok (.aload_n 1, 1) := by decide +kernel
theorem dAT_goThrough_83 : decode cAT_goThrough 83 = .ok (.areturn, 1) := by decide +kernel
theorem dAT_giveOver_0 : decode cAT_giveOver 0 = .ok (.aload_n 0, 1) := by decide +kernel
theorem dAT_giveOver_1 : decode cAT_giveOver 1 = .ok (.getfield 30, 3) := by decide +kernel
theorem dAT_giveOver_4 : decode cAT_giveOver 4 = .ok (.iconst 2, 1) := by decide +kernel
theorem dAT_giveOver_5 : decode cAT_giveOver 5 = .ok (.aload_n 1, 1) := by decide +kernel
theorem dAT_giveOver_6 : decode cAT_giveOver 6 = .ok (.getfield 275, 3) := by decide +kernel
theorem dAT_giveOver_9 : decode cAT_giveOver 9 = .ok (.lconst 0, 1) := by decide +kernel
theorem dAT_giveOver_10 : decode cAT_giveOver 10 = .ok (.aload_n 1, 1) := by decide +kernel
theorem dAT_giveOver_11 : decode cAT_giveOver 11 = .ok (.getfield 138, 3) := by decide +kernel
theorem dAT_giveOver_14 : decode cAT_giveOver 14 = .ok (.getfield 238, 3) := by decide +kernel
theorem dAT_giveOver_17 : decode cAT_giveOver 17 = .ok (.invokevirtual 241, 3) := by decide +kernel
theorem dAT_giveOver_20 : decode cAT_giveOver 20 = .ok (.aload_n 1, 1) := by decide +kernel
theorem dAT_giveOver_21 : decode cAT_giveOver 21 = .ok (.iconst 0, 1) := by decide +kernel
theorem dAT_giveOver_22 : decode cAT_giveOver 22 = .ok (.putfield 131, 3) := by decide +kernel
theorem dAT_giveOver_25 : decode cAT_giveOver 25 = .ok (.aload_n 1, 1) := by decide +kernel
theorem dAT_giveOver_26 : decode cAT_giveOver 26 = .ok (.getfield 166, 3) := by decide +kernel
theorem dAT_giveOver_29 : decode cAT_giveOver 29 = .ok (.astore_n 2, 1) := by decide +kernel
theorem dAT_giveOver_30 : decode cAT_giveOver 30 = .ok (.aload_n 2, 1) := by decide +kernel
theorem dAT_giveOver_31 : decode cAT_giveOver 31 = .ok (.ifnull 10, 3) := by decide +kernel
theorem dAT_giveOver_34 : decode cAT_giveOver 34 = .ok (.aload_n 2, 1) := by decide +kernel
theorem dAT_giveOver_35 : decode cAT_giveOver 35 = .ok (.getfield 131, 3) := by decide +kernel
theorem dAT_giveOver_38 : decode cAT_giveOver 38 = .ok (.ifCond .eq 5, 3) := by decide +kernel
theorem dAT_giveOver_41 : decode cAT_giveOver 41 = .ok (.aconst_null, 1) := by decide +kernel
theorem dAT_giveOver_42 : decode cAT_giveOver 42 = .ok (.areturn, 1) := by decide +kernel
theorem dAT_giveOver_43 : decode cAT_giveOver 43 = .ok (.aload_n 2, 1) := by decide +kernel
theorem dAT_giveOver_44 : decode cAT_giveOver 44 = .ok (.aload_n 1, 1) := by decide +kernel
theorem dAT_giveOver_45 : decode cAT_giveOver 45 = .ok (.if_acmp .eq 8, 3) := by decide +kernel
theorem dAT_giveOver_48 : decode cAT_giveOver 48 = .ok (.aload_n 2, 1) := by decide +kernel
theorem dAT_giveOver_49 : decode cAT_giveOver 49 = .ok (.lconst 0, 1) := by decide +kernel
theorem dAT_giveOver_50 : decode cAT_giveOver 50 = .ok (.putfield 151, 3) := by decide +kernel
theorem dAT_giveOver_53 : decode cAT_giveOver 53 = .ok (.aload_n 2, 1) := by decide +kernel
theorem dAT_giveOver_54 : decode cAT_giveOver 54 = .ok (.aload_n 1, 1) := by decide +kernel
theorem dAT_giveOver_55 : decode cAT_giveOver 55 = .ok (.getfield 138, 3) := by decide +kernel
theorem dAT_giveOver_58 : decode cAT_giveOver 58 = .ok (.getfield 154, 3) := by decide +kernel
theorem dAT_giveOver_61 : decode cAT_giveOver 61 = .ok (.invokevirtual 157, 3) := by decide +kernel
theorem dAT_giveOver_64 : decode cAT_giveOver 64 = .ok (.aload_n 2, 1) := by decide +kernel
theorem dAT_giveOver_65 : decode cAT_giveOver 65 = .ok (.areturn, 1) := by decide +kernel
theorem dAT_perform_0 : decode cAT_perform 0 = .ok (.aload_n 1, 1) := by decide +kernel
theorem dAT_perform_1 : decode cAT_perform 1 = .ok (.getfield 282, 3) := by decide +kernel
theorem dAT_perform_4 : decode cAT_perform 4 = .ok (.ifnull 11, 3) := by decide +kernel
theorem dAT_perform_7 : decode cAT_perform 7 = .ok (.aload_n 1, 1) := by decide +kernel
theorem dAT_perform_8 : decode cAT_perform 8 = .ok (.getfield 282, 3) := by decide +kernel
theorem dAT_perform_11 : decode cAT_perform 11 = .ok (.iconst 0, 1) := by decide +kernel
theorem dAT_perform_12 : decode cAT_perform 12 = .ok (.putfield 87, 3) := by decide +kernel
theorem dAT_perform_15 : decode cAT_perform 15 = .ok (.aload_n 1, 1) := by decide +kernel
theorem dAT_perform_16 : decode cAT_perform 16 = .ok (.getfield 285, 3) := by decide +kernel
theorem dAT_perform_19 : decode cAT_perform 19 = .ok (.ifnull 40, 3) := by decide +kernel
theorem dAT_perform_22 : decode cAT_perform 22 = .ok (.aload_n 0, 1) := by decide +kernel
theorem dAT_perform_23 : decode cAT_perform 23 = .ok (.getfield 185, 3) := by decide +kernel
theorem dAT_perform_26 : decode cAT_perform 26 = .ok (.sipush 20000, 3) := by decide +kernel
theorem dAT_perform_29 : decode cAT_perform 29 = .ok (.if_icmp .ge 30, 3) := by decide +kernel
theorem dAT_perform_32 : decode cAT_perform 32 = .ok (.iload_n 2, 1) := by decide +kernel
theorem dAT_perform_33 : decode cAT_perform 33 = .ok (.bipush 20, 2) := by decide +kernel
theorem dAT_perform_35 : decode cAT_perform 35 = .ok (.if_icmp .ge 24, 3) := by decide +kernel
theorem dAT_perform_38 : decode cAT_perform 38 = .ok (.aload_n 0, 1) := by decide +kernel
theorem dAT_perform_39 : decode cAT_perform 39 = .ok (.dup, 1) := by decide +kernel
theorem dAT_perform_40 : decode cAT_perform 40 = .ok (.getfield 185, 3) := by decide +kernel
theorem dAT_perform_43 : decode cAT_perform 43 = .ok (.iconst 1, 1) := by decide +kernel
theorem dAT_perform_44 : decode cAT_perform 44 = .ok (.iadd, 1) := by decide +kernel
theorem dAT_perform_45 : decode cAT_perform 45 = .ok (.putfield 185, 3) := by decide +kernel
theorem dAT_perform_48 : decode cAT_perform 48 = .ok (.aload_n 0, 1) := by decide +kernel
theorem dAT_perform_49 : decode cAT_perform 49 = .ok (.aload_n 1, 1) := by decide +kernel
theorem dAT_perform_50 : decode cAT_perform 50 = .ok (.getfield 285, 3) := by decide +kernel
theorem dAT_perform_53 : decode cAT_perform 53 = .ok (.iload_n 2, 1) := by decide +kernel
theorem dAT_perform_54 : decode cAT_perform 54 = .ok (.iconst 1, 1) := by decide +kernel
theorem dAT_perform_55 : decode cAT_perform 55 = .ok (.iadd, 1) := by decide +kernel
theorem dAT_perform_56 : decode cAT_perform 56 = .ok (.invokevirtual 188, 3) := by decide +kernel
theorem dAT_perform_59 : decode cAT_perform 59 = .ok (.return_, 1) := by decide +kernel
