-- THE LAW: WORDS AND DECODINGS
abbrev cLaw_counter : ByteArray := method_3_code
def yLaw_counter : MethodName := ⟨RLaw, "counter", "(LAlarmTables;JJ[J)I"⟩
abbrev hhLaw : List (Nat × Nat × Nat × Nat) := [(0, 11, 14, 13)]
set_option maxRecDepth 100000 in
theorem CLaw_7 : cV RLaw 7 RAT yAT_counter cAT_counter 5 (some .int) 2 := ⟨⟨wT_in 401 (by decide +kernel) rfl, wT_in 402 (by decide +kernel) rfl, wT_in 403 (by decide +kernel) rfl, wT_in 25 (by decide +kernel) rfl⟩, wT_in 404 rfl rfl, by decide +kernel⟩
theorem dvAT (S : HS) (q : Nat) : ∀ j, j < 8 → defaultValue (tyAT j) = vp_V ((lay 8).map (fv (newQ S q 8) q)) j := by
  intro j hj
  rcases (show j = 0 ∨ j = 1 ∨ j = 2 ∨ j = 3 ∨ j = 4 ∨ j = 5 ∨ j = 6 ∨ j = 7 by omega) with rfl | rfl | rfl | rfl | rfl | rfl | rfl | rfl <;> simp [vp_V, lay, fv, newQ, fi, fl, fr, zr, va_rf, tyAT, defaultValue]
theorem NLaw_8 : (8 ≠ 0 ∧ aK 8 = 0 ∧ aE 8 = 0 ∧ vwCl[8 - 1]? = some (RAT, TAT, 8)) ∧ (∃ ty : Nat → FieldType, (∀ k, k < 8 → parseFieldDescriptor (TAT k).2.2.1 = some (ty k)) ∧ ∀ S q, ∀ j, j < 8 → defaultValue (ty j) = vp_V ((lay 8).map (fv (newQ S q 8) q)) j) ∧ (Cond.classLink RLaw 8 RAT ∈ wT ∧ Cond.instantiable RAT 8 ∈ wT ∧ Cond.initialized RAT ∈ wT) := ⟨⟨by decide, by decide, by decide, rfl⟩, ⟨tyAT, tyAT_ok, dvAT⟩, wT_in 39 (by decide +kernel) rfl, wT_in 40 (by decide +kernel) rfl, wT_in 25 (by decide +kernel) rfl⟩
set_option maxRecDepth 100000 in
theorem CLaw_15 : cI RLaw 15 yAT_init cAT_init 1 0 := ⟨⟨wT_in 41 (by decide +kernel) rfl, wT_in 42 (by decide +kernel) rfl, wT_in 25 (by decide +kernel) rfl, rfl⟩, wT_in 43 rfl rfl, by decide +kernel⟩
theorem dvMod (S : HS) (q : Nat) : ∀ j, j < 35 → defaultValue (tyMod j) = vp_V ((lay 9).map (fv (newQ S q 9) q)) j := by
  intro j hj
  rcases (show j = 0 ∨ j = 1 ∨ j = 2 ∨ j = 3 ∨ j = 4 ∨ j = 5 ∨ j = 6 ∨ j = 7 ∨ j = 8 ∨ j = 9 ∨ j = 10 ∨ j = 11 ∨ j = 12 ∨ j = 13 ∨ j = 14 ∨ j = 15 ∨ j = 16 ∨ j = 17 ∨ j = 18 ∨ j = 19 ∨ j = 20 ∨ j = 21 ∨ j = 22 ∨ j = 23 ∨ j = 24 ∨ j = 25 ∨ j = 26 ∨ j = 27 ∨ j = 28 ∨ j = 29 ∨ j = 30 ∨ j = 31 ∨ j = 32 ∨ j = 33 ∨ j = 34 by omega) with rfl | rfl | rfl | rfl | rfl | rfl | rfl | rfl | rfl | rfl | rfl | rfl | rfl | rfl | rfl | rfl | rfl | rfl | rfl | rfl | rfl | rfl | rfl | rfl | rfl | rfl | rfl | rfl | rfl | rfl | rfl | rfl | rfl | rfl | rfl <;> simp [vp_V, lay, fv, newQ, fi, fl, fr, zr, va_rf, tyMod, defaultValue]
theorem NLaw_16 : (9 ≠ 0 ∧ aK 9 = 0 ∧ aE 9 = 0 ∧ vwCl[9 - 1]? = some (RMod, TMod, 35)) ∧ (∃ ty : Nat → FieldType, (∀ k, k < 35 → parseFieldDescriptor (TMod k).2.2.1 = some (ty k)) ∧ ∀ S q, ∀ j, j < 35 → defaultValue (ty j) = vp_V ((lay 9).map (fv (newQ S q 9) q)) j) ∧ (Cond.classLink RLaw 16 RMod ∈ wT ∧ Cond.instantiable RMod 35 ∈ wT ∧ Cond.initialized RMod ∈ wT) := ⟨⟨by decide, by decide, by decide, rfl⟩, ⟨tyMod, tyMod_ok, dvMod⟩, wT_in 525 (by decide +kernel) rfl, wT_in 526 (by decide +kernel) rfl, wT_in 27 (by decide +kernel) rfl⟩
set_option maxRecDepth 100000 in
theorem CLaw_18 : cI RLaw 18 yMod_init cMod_init 1 0 := ⟨⟨wT_in 527 (by decide +kernel) rfl, wT_in 528 (by decide +kernel) rfl, wT_in 27 (by decide +kernel) rfl, rfl⟩, wT_in 529 rfl rfl, by decide +kernel⟩
theorem QLaw_19 : Cond.constantLong RLaw 19 4294967295 ∈ wT := wT_in 750 (by decide +kernel) rfl
set_option maxRecDepth 100000 in
theorem CLaw_21 : cW RLaw 21 yLaw_counter cLaw_counter 7 (some .int) hhLaw 4 := ⟨⟨wT_in 397 (by decide +kernel) rfl, wT_in 398 (by decide +kernel) rfl, wT_in 24 (by decide +kernel) rfl⟩, wT_in 399 rfl rfl, by decide +kernel⟩
set_option maxRecDepth 100000 in
theorem CLaw_26 : cV RLaw 26 RMod yMod_counter cMod_counter 5 (some .int) 2 := ⟨⟨wT_in 643 (by decide +kernel) rfl, wT_in 644 (by decide +kernel) rfl, wT_in 645 (by decide +kernel) rfl, wT_in 27 (by decide +kernel) rfl⟩, wT_in 646 rfl rfl, by decide +kernel⟩
set_option maxRecDepth 100000 in
theorem CLaw_27 : cV RLaw 27 RMod yMod_thrown cMod_thrown 1 (some .int) 0 := ⟨⟨wT_in 639 (by decide +kernel) rfl, wT_in 640 (by decide +kernel) rfl, wT_in 641 (by decide +kernel) rfl, wT_in 27 (by decide +kernel) rfl⟩, wT_in 642 rfl rfl, by decide +kernel⟩
set_option maxRecDepth 100000 in
theorem CLaw_31 : cV RLaw 31 RAT yAT_alarm cAT_alarm 8 (some .int) 3 := ⟨⟨wT_in 97 (by decide +kernel) rfl, wT_in 98 (by decide +kernel) rfl, wT_in 99 (by decide +kernel) rfl, wT_in 25 (by decide +kernel) rfl⟩, wT_in 100 rfl rfl, by decide +kernel⟩
set_option maxRecDepth 100000 in
theorem CLaw_35 : cV RLaw 35 RMod yMod_alarm cMod_alarm 4 (some .int) 3 := ⟨⟨wT_in 649 (by decide +kernel) rfl, wT_in 650 (by decide +kernel) rfl, wT_in 651 (by decide +kernel) rfl, wT_in 27 (by decide +kernel) rfl⟩, wT_in 652 rfl rfl, by decide +kernel⟩
set_option maxRecDepth 100000 in
theorem CLaw_36 : cV RLaw 36 RAT yAT_set cAT_set 10 (some .int) 4 := ⟨⟨wT_in 171 (by decide +kernel) rfl, wT_in 172 (by decide +kernel) rfl, wT_in 173 (by decide +kernel) rfl, wT_in 25 (by decide +kernel) rfl⟩, wT_in 174 rfl rfl, by decide +kernel⟩
set_option maxRecDepth 100000 in
theorem CLaw_40 : cV RLaw 40 RMod yMod_set cMod_set 12 (some .int) 4 := ⟨⟨wT_in 665 (by decide +kernel) rfl, wT_in 666 (by decide +kernel) rfl, wT_in 667 (by decide +kernel) rfl, wT_in 27 (by decide +kernel) rfl⟩, wT_in 668 rfl rfl, by decide +kernel⟩
set_option maxRecDepth 100000 in
theorem CLaw_41 : cV RLaw 41 RAT yAT_cancel cAT_cancel 3 (some .int) 1 := ⟨⟨wT_in 191 (by decide +kernel) rfl, wT_in 192 (by decide +kernel) rfl, wT_in 193 (by decide +kernel) rfl, wT_in 25 (by decide +kernel) rfl⟩, wT_in 194 rfl rfl, by decide +kernel⟩
set_option maxRecDepth 100000 in
theorem CLaw_45 : cV RLaw 45 RMod yMod_cancel cMod_cancel 3 (some .int) 1 := ⟨⟨wT_in 670 (by decide +kernel) rfl, wT_in 671 (by decide +kernel) rfl, wT_in 672 (by decide +kernel) rfl, wT_in 27 (by decide +kernel) rfl⟩, wT_in 673 rfl rfl, by decide +kernel⟩
set_option maxRecDepth 100000 in
theorem CLaw_46 : cV RLaw 46 RAT yAT_table cAT_table 6 (some .int) 2 := ⟨⟨wT_in 195 (by decide +kernel) rfl, wT_in 196 (by decide +kernel) rfl, wT_in 197 (by decide +kernel) rfl, wT_in 25 (by decide +kernel) rfl⟩, wT_in 198 rfl rfl, by decide +kernel⟩
set_option maxRecDepth 100000 in
theorem CLaw_50 : cV RLaw 50 RMod yMod_table cMod_table 4 (some .int) 2 := ⟨⟨wT_in 674 (by decide +kernel) rfl, wT_in 675 (by decide +kernel) rfl, wT_in 676 (by decide +kernel) rfl, wT_in 27 (by decide +kernel) rfl⟩, wT_in 677 rfl rfl, by decide +kernel⟩
set_option maxRecDepth 100000 in
theorem CLaw_51 : cV RLaw 51 RAT yAT_point cAT_point 8 (some .int) 3 := ⟨⟨wT_in 257 (by decide +kernel) rfl, wT_in 258 (by decide +kernel) rfl, wT_in 259 (by decide +kernel) rfl, wT_in 25 (by decide +kernel) rfl⟩, wT_in 260 rfl rfl, by decide +kernel⟩
set_option maxRecDepth 100000 in
theorem CLaw_55 : cV RLaw 55 RMod yMod_point cMod_point 8 (some .int) 3 := ⟨⟨wT_in 679 (by decide +kernel) rfl, wT_in 680 (by decide +kernel) rfl, wT_in 681 (by decide +kernel) rfl, wT_in 27 (by decide +kernel) rfl⟩, wT_in 682 rfl rfl, by decide +kernel⟩
set_option maxRecDepth 100000 in
theorem CLaw_56 : cV RLaw 56 RAT yAT_start cAT_start 5 (some .int) 2 := ⟨⟨wT_in 297 (by decide +kernel) rfl, wT_in 298 (by decide +kernel) rfl, wT_in 299 (by decide +kernel) rfl, wT_in 25 (by decide +kernel) rfl⟩, wT_in 300 rfl rfl, by decide +kernel⟩
set_option maxRecDepth 100000 in
theorem CLaw_59 : cV RLaw 59 RMod yMod_start cMod_start 4 (some .int) 2 := ⟨⟨wT_in 687 (by decide +kernel) rfl, wT_in 688 (by decide +kernel) rfl, wT_in 689 (by decide +kernel) rfl, wT_in 27 (by decide +kernel) rfl⟩, wT_in 690 rfl rfl, by decide +kernel⟩
set_option maxRecDepth 100000 in
theorem CLaw_60 : cV RLaw 60 RAT yAT_next cAT_next 5 (some .int) 2 := ⟨⟨wT_in 306 (by decide +kernel) rfl, wT_in 307 (by decide +kernel) rfl, wT_in 308 (by decide +kernel) rfl, wT_in 25 (by decide +kernel) rfl⟩, wT_in 309 rfl rfl, by decide +kernel⟩
set_option maxRecDepth 100000 in
theorem CLaw_64 : cV RLaw 64 RMod yMod_next cMod_next 3 (some .int) 2 := ⟨⟨wT_in 691 (by decide +kernel) rfl, wT_in 692 (by decide +kernel) rfl, wT_in 693 (by decide +kernel) rfl, wT_in 27 (by decide +kernel) rfl⟩, wT_in 694 rfl rfl, by decide +kernel⟩
set_option maxRecDepth 100000 in
theorem CLaw_65 : cV RLaw 65 RAT yAT_sync cAT_sync 5 (some .int) 2 := ⟨⟨wT_in 310 (by decide +kernel) rfl, wT_in 311 (by decide +kernel) rfl, wT_in 312 (by decide +kernel) rfl, wT_in 25 (by decide +kernel) rfl⟩, wT_in 313 rfl rfl, by decide +kernel⟩
set_option maxRecDepth 100000 in
theorem CLaw_68 : cV RLaw 68 RMod yMod_sync cMod_sync 5 (some .int) 2 := ⟨⟨wT_in 695 (by decide +kernel) rfl, wT_in 696 (by decide +kernel) rfl, wT_in 697 (by decide +kernel) rfl, wT_in 27 (by decide +kernel) rfl⟩, wT_in 698 rfl rfl, by decide +kernel⟩
set_option maxRecDepth 100000 in
theorem CLaw_69 : cV RLaw 69 RAT yAT_tick cAT_tick 12 (some .int) 2 := ⟨⟨wT_in 316 (by decide +kernel) rfl, wT_in 317 (by decide +kernel) rfl, wT_in 318 (by decide +kernel) rfl, wT_in 25 (by decide +kernel) rfl⟩, wT_in 319 rfl rfl, by decide +kernel⟩
set_option maxRecDepth 100000 in
theorem CLaw_72 : cV RLaw 72 RMod yMod_tick cMod_tick 9 (some .int) 2 := ⟨⟨wT_in 702 (by decide +kernel) rfl, wT_in 703 (by decide +kernel) rfl, wT_in 704 (by decide +kernel) rfl, wT_in 27 (by decide +kernel) rfl⟩, wT_in 705 rfl rfl, by decide +kernel⟩
set_option maxRecDepth 100000 in
theorem CLaw_73 : cV RLaw 73 RAT yAT_expired cAT_expired 3 (some .int) 2 := ⟨⟨wT_in 381 (by decide +kernel) rfl, wT_in 382 (by decide +kernel) rfl, wT_in 383 (by decide +kernel) rfl, wT_in 25 (by decide +kernel) rfl⟩, wT_in 384 rfl rfl, by decide +kernel⟩
set_option maxRecDepth 100000 in
theorem CLaw_76 : cV RLaw 76 RMod yMod_expired cMod_expired 3 (some .int) 2 := ⟨⟨wT_in 742 (by decide +kernel) rfl, wT_in 743 (by decide +kernel) rfl, wT_in 744 (by decide +kernel) rfl, wT_in 27 (by decide +kernel) rfl⟩, wT_in 745 rfl rfl, by decide +kernel⟩
set_option maxRecDepth 100000 in
theorem CLaw_77 : cV RLaw 77 RAT yAT_deviation cAT_deviation 3 (some .long) 1 := ⟨⟨wT_in 393 (by decide +kernel) rfl, wT_in 394 (by decide +kernel) rfl, wT_in 395 (by decide +kernel) rfl, wT_in 25 (by decide +kernel) rfl⟩, wT_in 396 rfl rfl, by decide +kernel⟩
set_option maxRecDepth 100000 in
theorem CLaw_81 : cV RLaw 81 RMod yMod_deviation cMod_deviation 2 (some .long) 1 := ⟨⟨wT_in 746 (by decide +kernel) rfl, wT_in 747 (by decide +kernel) rfl, wT_in 748 (by decide +kernel) rfl, wT_in 27 (by decide +kernel) rfl⟩, wT_in 749 rfl rfl, by decide +kernel⟩
theorem dLaw_counter_0 : decode cLaw_counter 0 = .ok (.aload 5, 2) := by decide +kernel
theorem dLaw_counter_2 : decode cLaw_counter 2 = .ok (.iconst 0, 1) := by decide +kernel
theorem dLaw_counter_3 : decode cLaw_counter 3 = .ok (.aload_n 0, 1) := by decide +kernel
theorem dLaw_counter_4 : decode cLaw_counter 4 = .ok (.lload_n 1, 1) := by decide +kernel
theorem dLaw_counter_5 : decode cLaw_counter 5 = .ok (.lload_n 3, 1) := by decide +kernel
theorem dLaw_counter_6 : decode cLaw_counter 6 = .ok (.invokevirtual 7, 3) := by decide +kernel
theorem dLaw_counter_9 : decode cLaw_counter 9 = .ok (.i2l, 1) := by decide +kernel
theorem dLaw_counter_10 : decode cLaw_counter 10 = .ok (.lastore, 1) := by decide +kernel
theorem dLaw_counter_11 : decode cLaw_counter 11 = .ok (.goto 7, 3) := by decide +kernel
theorem dLaw_counter_14 : decode cLaw_counter 14 = .ok (.astore 6, 2) := by decide +kernel
theorem dLaw_counter_16 : decode cLaw_counter 16 = .ok (.iconst 1, 1) := by decide +kernel
theorem dLaw_counter_17 : decode cLaw_counter 17 = .ok (.ireturn, 1) := by decide +kernel
theorem dLaw_counter_18 : decode cLaw_counter 18 = .ok (.iconst 0, 1) := by decide +kernel
theorem dLaw_counter_19 : decode cLaw_counter 19 = .ok (.ireturn, 1) := by decide +kernel
theorem dLaw_law_0 : decode code 0 = .ok (.new 8, 3) := by decide +kernel
theorem dLaw_law_3 : decode code 3 = .ok (.dup, 1) := by decide +kernel
theorem dLaw_law_4 : decode code 4 = .ok (.invokespecial 15, 3) := by decide +kernel
theorem dLaw_law_7 : decode code 7 = .ok (.astore_n 1, 1) := by decide +kernel
theorem dLaw_law_8 : decode code 8 = .ok (.new 16, 3) := by decide +kernel
theorem dLaw_law_11 : decode code 11 = .ok (.dup, 1) := by decide +kernel
theorem dLaw_law_12 : decode code 12 = .ok (.invokespecial 18, 3) := by decide +kernel
theorem dLaw_law_15 : decode code 15 = .ok (.astore_n 2, 1) := by decide +kernel
theorem dLaw_law_16 : decode code 16 = .ok (.iconst 1, 1) := by decide +kernel
theorem dLaw_law_17 : decode code 17 = .ok (.newarray .long, 2) := by decide +kernel
theorem dLaw_law_19 : decode code 19 = .ok (.astore_n 3, 1) := by decide +kernel
theorem dLaw_law_20 : decode code 20 = .ok (.iconst 0, 1) := by decide +kernel
theorem dLaw_law_21 : decode code 21 = .ok (.istore 4, 2) := by decide +kernel
theorem dLaw_law_23 : decode code 23 = .ok (.iload 4, 2) := by decide +kernel
theorem dLaw_law_25 : decode code 25 = .ok (.aload_n 0, 1) := by decide +kernel
theorem dLaw_law_26 : decode code 26 = .ok (.arraylength, 1) := by decide +kernel
theorem dLaw_law_27 : decode code 27 = .ok (.bipush 7, 2) := by decide +kernel
theorem dLaw_law_29 : decode code 29 = .ok (.isub, 1) := by decide +kernel
theorem dLaw_law_30 : decode code 30 = .ok (.if_icmp .gt 886, 3) := by decide +kernel
theorem dLaw_law_33 : decode code 33 = .ok (.aload_n 0, 1) := by decide +kernel
theorem dLaw_law_34 : decode code 34 = .ok (.iload 4, 2) := by decide +kernel
theorem dLaw_law_36 : decode code 36 = .ok (.iaload, 1) := by decide +kernel
theorem dLaw_law_37 : decode code 37 = .ok (.bipush 15, 2) := by decide +kernel
theorem dLaw_law_39 : decode code 39 = .ok (.iand, 1) := by decide +kernel
theorem dLaw_law_40 : decode code 40 = .ok (.tableswitch 870 0 11 #[64, 196, 245, 388, 413, 482, 563, 632, 669, 738, 807, 844], 64) := by decide +kernel
theorem dLaw_law_104 : decode code 104 = .ok (.aload_n 1, 1) := by decide +kernel
theorem dLaw_law_105 : decode code 105 = .ok (.aload_n 0, 1) := by decide +kernel
theorem dLaw_law_106 : decode code 106 = .ok (.iload 4, 2) := by decide +kernel
theorem dLaw_law_108 : decode code 108 = .ok (.iconst 1, 1) := by decide +kernel
theorem dLaw_law_109 : decode code 109 = .ok (.iadd, 1) := by decide +kernel
theorem dLaw_law_110 : decode code 110 = .ok (.iaload, 1) := by decide +kernel
theorem dLaw_law_111 : decode code 111 = .ok (.i2l, 1) := by decide +kernel
theorem dLaw_law_112 : decode code 112 = .ok (.bipush 32, 2) := by decide +kernel
theorem dLaw_law_114 : decode code 114 = .ok (.lshl, 1) := by decide +kernel
theorem dLaw_law_115 : decode code 115 = .ok (.aload_n 0, 1) := by decide +kernel
theorem dLaw_law_116 : decode code 116 = .ok (.iload 4, 2) := by decide +kernel
theorem dLaw_law_118 : decode code 118 = .ok (.iconst 2, 1) := by decide +kernel
theorem dLaw_law_119 : decode code 119 = .ok (.iadd, 1) := by decide +kernel
theorem dLaw_law_120 : decode code 120 = .ok (.iaload, 1) := by decide +kernel
theorem dLaw_law_121 : decode code 121 = .ok (.i2l, 1) := by decide +kernel
theorem dLaw_law_122 : decode code 122 = .ok (.ldc2_w 19, 3) := by decide +kernel
theorem dLaw_law_125 : decode code 125 = .ok (.land, 1) := by decide +kernel
theorem dLaw_law_126 : decode code 126 = .ok (.lor, 1) := by decide +kernel
theorem dLaw_law_127 : decode code 127 = .ok (.aload_n 0, 1) := by decide +kernel
theorem dLaw_law_128 : decode code 128 = .ok (.iload 4, 2) := by decide +kernel
theorem dLaw_law_130 : decode code 130 = .ok (.iconst 3, 1) := by decide +kernel
theorem dLaw_law_131 : decode code 131 = .ok (.iadd, 1) := by decide +kernel
theorem dLaw_law_132 : decode code 132 = .ok (.iaload, 1) := by decide +kernel
theorem dLaw_law_133 : decode code 133 = .ok (.i2l, 1) := by decide +kernel
theorem dLaw_law_134 : decode code 134 = .ok (.bipush 32, 2) := by decide +kernel
theorem dLaw_law_136 : decode code 136 = .ok (.lshl, 1) := by decide +kernel
theorem dLaw_law_137 : decode code 137 = .ok (.aload_n 0, 1) := by decide +kernel
theorem dLaw_law_138 : decode code 138 = .ok (.iload 4, 2) := by decide +kernel
theorem dLaw_law_140 : decode code 140 = .ok (.iconst 4, 1) := by decide +kernel
theorem dLaw_law_141 : decode code 141 = .ok (.iadd, 1) := by decide +kernel
theorem dLaw_law_142 : decode code 142 = .ok (.iaload, 1) := by decide +kernel
theorem dLaw_law_143 : decode code 143 = .ok (.i2l, 1) := by decide +kernel
theorem dLaw_law_144 : decode code 144 = .ok (.ldc2_w 19, 3) := by decide +kernel
theorem dLaw_law_147 : decode code 147 = .ok (.land, 1) := by decide +kernel
theorem dLaw_law_148 : decode code 148 = .ok (.lor, 1) := by decide +kernel
theorem dLaw_law_149 : decode code 149 = .ok (.aload_n 3, 1) := by decide +kernel
theorem dLaw_law_150 : decode code 150 = .ok (.invokestatic 21, 3) := by decide +kernel
theorem dLaw_law_153 : decode code 153 = .ok (.istore 5, 2) := by decide +kernel
theorem dLaw_law_155 : decode code 155 = .ok (.aload_n 2, 1) := by decide +kernel
theorem dLaw_law_156 : decode code 156 = .ok (.aload_n 0, 1) := by decide +kernel
theorem dLaw_law_157 : decode code 157 = .ok (.iload 4, 2) := by decide +kernel
theorem dLaw_law_159 : decode code 159 = .ok (.iconst 1, 1) := by decide +kernel
theorem dLaw_law_160 : decode code 160 = .ok (.iadd, 1) := by decide +kernel
theorem dLaw_law_161 : decode code 161 = .ok (.iaload, 1) := by decide +kernel
theorem dLaw_law_162 : decode code 162 = .ok (.i2l, 1) := by decide +kernel
theorem dLaw_law_163 : decode code 163 = .ok (.bipush 32, 2) := by decide +kernel
theorem dLaw_law_165 : decode code 165 = .ok (.lshl, 1) := by decide +kernel
theorem dLaw_law_166 : decode code 166 = .ok (.aload_n 0, 1) := by decide +kernel
theorem dLaw_law_167 : decode code 167 = .ok (.iload 4, 2) := by decide +kernel
theorem dLaw_law_169 : decode code 169 = .ok (.iconst 2, 1) := by decide +kernel
theorem dLaw_law_170 : decode code 170 = .ok (.iadd, 1) := by decide +kernel
theorem dLaw_law_171 : decode code 171 = .ok (.iaload, 1) := by decide +kernel
theorem dLaw_law_172 : decode code 172 = .ok (.i2l, 1) := by decide +kernel
theorem dLaw_law_173 : decode code 173 = .ok (.ldc2_w 19, 3) := by decide +kernel
theorem dLaw_law_176 : decode code 176 = .ok (.land, 1) := by decide +kernel
theorem dLaw_law_177 : decode code 177 = .ok (.lor, 1) := by decide +kernel
theorem dLaw_law_178 : decode code 178 = .ok (.aload_n 0, 1) := by decide +kernel
theorem dLaw_law_179 : decode code 179 = .ok (.iload 4, 2) := by decide +kernel
theorem dLaw_law_181 : decode code 181 = .ok (.iconst 3, 1) := by decide +kernel
theorem dLaw_law_182 : decode code 182 = .ok (.iadd, 1) := by decide +kernel
theorem dLaw_law_183 : decode code 183 = .ok (.iaload, 1) := by decide +kernel
theorem dLaw_law_184 : decode code 184 = .ok (.i2l, 1) := by decide +kernel
theorem dLaw_law_185 : decode code 185 = .ok (.bipush 32, 2) := by decide +kernel
theorem dLaw_law_187 : decode code 187 = .ok (.lshl, 1) := by decide +kernel
theorem dLaw_law_188 : decode code 188 = .ok (.aload_n 0, 1) := by decide +kernel
theorem dLaw_law_189 : decode code 189 = .ok (.iload 4, 2) := by decide +kernel
theorem dLaw_law_191 : decode code 191 = .ok (.iconst 4, 1) := by decide +kernel
theorem dLaw_law_192 : decode code 192 = .ok (.iadd, 1) := by decide +kernel
theorem dLaw_law_193 : decode code 193 = .ok (.iaload, 1) := by decide +kernel
theorem dLaw_law_194 : decode code 194 = .ok (.i2l, 1) := by decide +kernel
theorem dLaw_law_195 : decode code 195 = .ok (.ldc2_w 19, 3) := by decide +kernel
theorem dLaw_law_198 : decode code 198 = .ok (.land, 1) := by decide +kernel
theorem dLaw_law_199 : decode code 199 = .ok (.lor, 1) := by decide +kernel
theorem dLaw_law_200 : decode code 200 = .ok (.invokevirtual 26, 3) := by decide +kernel
theorem dLaw_law_203 : decode code 203 = .ok (.istore 6, 2) := by decide +kernel
theorem dLaw_law_205 : decode code 205 = .ok (.aload_n 2, 1) := by decide +kernel
theorem dLaw_law_206 : decode code 206 = .ok (.invokevirtual 27, 3) := by decide +kernel
theorem dLaw_law_209 : decode code 209 = .ok (.iload 5, 2) := by decide +kernel
theorem dLaw_law_211 : decode code 211 = .ok (.if_icmp .eq 5, 3) := by decide +kernel
theorem dLaw_law_214 : decode code 214 = .ok (.iconst 0, 1) := by decide +kernel
theorem dLaw_law_215 : decode code 215 = .ok (.ireturn, 1) := by decide +kernel
theorem dLaw_law_216 : decode code 216 = .ok (.iload 5, 2) := by decide +kernel
theorem dLaw_law_218 : decode code 218 = .ok (.ifCond .ne 15, 3) := by decide +kernel
theorem dLaw_law_221 : decode code 221 = .ok (.aload_n 3, 1) := by decide +kernel
theorem dLaw_law_222 : decode code 222 = .ok (.iconst 0, 1) := by decide +kernel
theorem dLaw_law_223 : decode code 223 = .ok (.laload, 1) := by decide +kernel
theorem dLaw_law_224 : decode code 224 = .ok (.iload 6, 2) := by decide +kernel
theorem dLaw_law_226 : decode code 226 = .ok (.i2l, 1) := by decide +kernel
theorem dLaw_law_227 : decode code 227 = .ok (.lcmp, 1) := by decide +kernel
theorem dLaw_law_228 : decode code 228 = .ok (.ifCond .eq 5, 3) := by decide +kernel
theorem dLaw_law_231 : decode code 231 = .ok (.iconst 0, 1) := by decide +kernel
theorem dLaw_law_232 : decode code 232 = .ok (.ireturn, 1) := by decide +kernel
theorem dLaw_law_233 : decode code 233 = .ok (.goto 677, 3) := by decide +kernel
theorem dLaw_law_236 : decode code 236 = .ok (.aload_n 1, 1) := by decide +kernel
theorem dLaw_law_237 : decode code 237 = .ok (.aload_n 0, 1) := by decide +kernel
theorem dLaw_law_238 : decode code 238 = .ok (.iload 4, 2) := by decide +kernel
theorem dLaw_law_240 : decode code 240 = .ok (.iconst 1, 1) := by decide +kernel
theorem dLaw_law_241 : decode code 241 = .ok (.iadd, 1) := by decide +kernel
theorem dLaw_law_242 : decode code 242 = .ok (.iaload, 1) := by decide +kernel
theorem dLaw_law_243 : decode code 243 = .ok (.aload_n 0, 1) := by decide +kernel
theorem dLaw_law_244 : decode code 244 = .ok (.iload 4, 2) := by decide +kernel
theorem dLaw_law_246 : decode code 246 = .ok (.iconst 2, 1) := by decide +kernel
theorem dLaw_law_247 : decode code 247 = .ok (.iadd, 1) := by decide +kernel
theorem dLaw_law_248 : decode code 248 = .ok (.iaload, 1) := by decide +kernel
theorem dLaw_law_249 : decode code 249 = .ok (.aload_n 0, 1) := by decide +kernel
theorem dLaw_law_250 : decode code 250 = .ok (.iload 4, 2) := by decide +kernel
theorem dLaw_law_252 : decode code 252 = .ok (.iconst 3, 1) := by decide +kernel
theorem dLaw_law_253 : decode code 253 = .ok (.iadd, 1) := by decide +kernel
theorem dLaw_law_254 : decode code 254 = .ok (.iaload, 1) := by decide +kernel
theorem dLaw_law_255 : decode code 255 = .ok (.invokevirtual 31, 3) := by decide +kernel
theorem dLaw_law_258 : decode code 258 = .ok (.aload_n 2, 1) := by decide +kernel
theorem dLaw_law_259 : decode code 259 = .ok (.aload_n 0, 1) := by decide +kernel
theorem dLaw_law_260 : decode code 260 = .ok (.iload 4, 2) := by decide +kernel
theorem dLaw_law_262 : decode code 262 = .ok (.iconst 1, 1) := by decide +kernel
theorem dLaw_law_263 : decode code 263 = .ok (.iadd, 1) := by decide +kernel
theorem dLaw_law_264 : decode code 264 = .ok (.iaload, 1) := by decide +kernel
theorem dLaw_law_265 : decode code 265 = .ok (.aload_n 0, 1) := by decide +kernel
theorem dLaw_law_266 : decode code 266 = .ok (.iload 4, 2) := by decide +kernel
theorem dLaw_law_268 : decode code 268 = .ok (.iconst 2, 1) := by decide +kernel
theorem dLaw_law_269 : decode code 269 = .ok (.iadd, 1) := by decide +kernel
theorem dLaw_law_270 : decode code 270 = .ok (.iaload, 1) := by decide +kernel
theorem dLaw_law_271 : decode code 271 = .ok (.aload_n 0, 1) := by decide +kernel
theorem dLaw_law_272 : decode code 272 = .ok (.iload 4, 2) := by decide +kernel
theorem dLaw_law_274 : decode code 274 = .ok (.iconst 3, 1) := by decide +kernel
theorem dLaw_law_275 : decode code 275 = .ok (.iadd, 1) := by decide +kernel
theorem dLaw_law_276 : decode code 276 = .ok (.iaload, 1) := by decide +kernel
theorem dLaw_law_277 : decode code 277 = .ok (.invokevirtual 35, 3) := by decide +kernel
theorem dLaw_law_280 : decode code 280 = .ok (.if_icmp .eq 630, 3) := by decide +kernel
theorem dLaw_law_283 : decode code 283 = .ok (.iconst 0, 1) := by decide +kernel
theorem dLaw_law_284 : decode code 284 = .ok (.ireturn, 1) := by decide +kernel
theorem dLaw_law_285 : decode code 285 = .ok (.aload_n 1, 1) := by decide +kernel
theorem dLaw_law_286 : decode code 286 = .ok (.aload_n 0, 1) := by decide +kernel
theorem dLaw_law_287 : decode code 287 = .ok (.iload 4, 2) := by decide +kernel
theorem dLaw_law_289 : decode code 289 = .ok (.iconst 1, 1) := by decide +kernel
theorem dLaw_law_290 : decode code 290 = .ok (.iadd, 1) := by decide +kernel
theorem dLaw_law_291 : decode code 291 = .ok (.iaload, 1) := by decide +kernel
theorem dLaw_law_292 : decode code 292 = .ok (.aload_n 0, 1) := by decide +kernel
theorem dLaw_law_293 : decode code 293 = .ok (.iload 4, 2) := by decide +kernel
theorem dLaw_law_295 : decode code 295 = .ok (.iconst 2, 1) := by decide +kernel
theorem dLaw_law_296 : decode code 296 = .ok (.iadd, 1) := by decide +kernel
theorem dLaw_law_297 : decode code 297 = .ok (.iaload, 1) := by decide +kernel
theorem dLaw_law_298 : decode code 298 = .ok (.i2l, 1) := by decide +kernel
theorem dLaw_law_299 : decode code 299 = .ok (.bipush 32, 2) := by decide +kernel
theorem dLaw_law_301 : decode code 301 = .ok (.lshl, 1) := by decide +kernel
theorem dLaw_law_302 : decode code 302 = .ok (.aload_n 0, 1) := by decide +kernel
theorem dLaw_law_303 : decode code 303 = .ok (.iload 4, 2) := by decide +kernel
theorem dLaw_law_305 : decode code 305 = .ok (.iconst 3, 1) := by decide +kernel
theorem dLaw_law_306 : decode code 306 = .ok (.iadd, 1) := by decide +kernel
theorem dLaw_law_307 : decode code 307 = .ok (.iaload, 1) := by decide +kernel
theorem dLaw_law_308 : decode code 308 = .ok (.i2l, 1) := by decide +kernel
theorem dLaw_law_309 : decode code 309 = .ok (.ldc2_w 19, 3) := by decide +kernel
theorem dLaw_law_312 : decode code 312 = .ok (.land, 1) := by decide +kernel
theorem dLaw_law_313 : decode code 313 = .ok (.lor, 1) := by decide +kernel
theorem dLaw_law_314 : decode code 314 = .ok (.aload_n 0, 1) := by decide +kernel
theorem dLaw_law_315 : decode code 315 = .ok (.iload 4, 2) := by decide +kernel
theorem dLaw_law_317 : decode code 317 = .ok (.iconst 4, 1) := by decide +kernel
theorem dLaw_law_318 : decode code 318 = .ok (.iadd, 1) := by decide +kernel
theorem dLaw_law_319 : decode code 319 = .ok (.iaload, 1) := by decide +kernel
theorem dLaw_law_320 : decode code 320 = .ok (.i2l, 1) := by decide +kernel
theorem dLaw_law_321 : decode code 321 = .ok (.bipush 32, 2) := by decide +kernel
theorem dLaw_law_323 : decode code 323 = .ok (.lshl, 1) := by decide +kernel
theorem dLaw_law_324 : decode code 324 = .ok (.aload_n 0, 1) := by decide +kernel
theorem dLaw_law_325 : decode code 325 = .ok (.iload 4, 2) := by decide +kernel
theorem dLaw_law_327 : decode code 327 = .ok (.iconst 5, 1) := by decide +kernel
theorem dLaw_law_328 : decode code 328 = .ok (.iadd, 1) := by decide +kernel
theorem dLaw_law_329 : decode code 329 = .ok (.iaload, 1) := by decide +kernel
theorem dLaw_law_330 : decode code 330 = .ok (.i2l, 1) := by decide +kernel
theorem dLaw_law_331 : decode code 331 = .ok (.ldc2_w 19, 3) := by decide +kernel
theorem dLaw_law_334 : decode code 334 = .ok (.land, 1) := by decide +kernel
theorem dLaw_law_335 : decode code 335 = .ok (.lor, 1) := by decide +kernel
theorem dLaw_law_336 : decode code 336 = .ok (.aload_n 0, 1) := by decide +kernel
theorem dLaw_law_337 : decode code 337 = .ok (.iload 4, 2) := by decide +kernel
theorem dLaw_law_339 : decode code 339 = .ok (.bipush 6, 2) := by decide +kernel
theorem dLaw_law_341 : decode code 341 = .ok (.iadd, 1) := by decide +kernel
theorem dLaw_law_342 : decode code 342 = .ok (.iaload, 1) := by decide +kernel
theorem dLaw_law_343 : decode code 343 = .ok (.ifCond .eq 7, 3) := by decide +kernel
theorem dLaw_law_346 : decode code 346 = .ok (.iconst 1, 1) := by decide +kernel
theorem dLaw_law_347 : decode code 347 = .ok (.goto 4, 3) := by decide +kernel
theorem dLaw_law_350 : decode code 350 = .ok (.iconst 0, 1) := by decide +kernel
theorem dLaw_law_351 : decode code 351 = .ok (.invokevirtual 36, 3) := by decide +kernel
theorem dLaw_law_354 : decode code 354 = .ok (.aload_n 2, 1) := by decide +kernel
theorem dLaw_law_355 : decode code 355 = .ok (.aload_n 0, 1) := by decide +kernel
theorem dLaw_law_356 : decode code 356 = .ok (.iload 4, 2) := by decide +kernel
theorem dLaw_law_358 : decode code 358 = .ok (.iconst 1, 1) := by decide +kernel
theorem dLaw_law_359 : decode code 359 = .ok (.iadd, 1) := by decide +kernel
theorem dLaw_law_360 : decode code 360 = .ok (.iaload, 1) := by decide +kernel
theorem dLaw_law_361 : decode code 361 = .ok (.aload_n 0, 1) := by decide +kernel
theorem dLaw_law_362 : decode code 362 = .ok (.iload 4, 2) := by decide +kernel
theorem dLaw_law_364 : decode code 364 = .ok (.iconst 2, 1) := by decide +kernel
theorem dLaw_law_365 : decode code 365 = .ok (.iadd, 1) := by decide +kernel
theorem dLaw_law_366 : decode code 366 = .ok (.iaload, 1) := by decide +kernel
theorem dLaw_law_367 : decode code 367 = .ok (.i2l, 1) := by decide +kernel
theorem dLaw_law_368 : decode code 368 = .ok (.bipush 32, 2) := by decide +kernel
theorem dLaw_law_370 : decode code 370 = .ok (.lshl, 1) := by decide +kernel
theorem dLaw_law_371 : decode code 371 = .ok (.aload_n 0, 1) := by decide +kernel
theorem dLaw_law_372 : decode code 372 = .ok (.iload 4, 2) := by decide +kernel
theorem dLaw_law_374 : decode code 374 = .ok (.iconst 3, 1) := by decide +kernel
theorem dLaw_law_375 : decode code 375 = .ok (.iadd, 1) := by decide +kernel
theorem dLaw_law_376 : decode code 376 = .ok (.iaload, 1) := by decide +kernel
theorem dLaw_law_377 : decode code 377 = .ok (.i2l, 1) := by decide +kernel
theorem dLaw_law_378 : decode code 378 = .ok (.ldc2_w 19, 3) := by decide +kernel
theorem dLaw_law_381 : decode code 381 = .ok (.land, 1) := by decide +kernel
theorem dLaw_law_382 : decode code 382 = .ok (.lor, 1) := by decide +kernel
theorem dLaw_law_383 : decode code 383 = .ok (.aload_n 0, 1) := by decide +kernel
theorem dLaw_law_384 : decode code 384 = .ok (.iload 4, 2) := by decide +kernel
theorem dLaw_law_386 : decode code 386 = .ok (.iconst 4, 1) := by decide +kernel
theorem dLaw_law_387 : decode code 387 = .ok (.iadd, 1) := by decide +kernel
theorem dLaw_law_388 : decode code 388 = .ok (.iaload, 1) := by decide +kernel
theorem dLaw_law_389 : decode code 389 = .ok (.i2l, 1) := by decide +kernel
theorem dLaw_law_390 : decode code 390 = .ok (.bipush 32, 2) := by decide +kernel
theorem dLaw_law_392 : decode code 392 = .ok (.lshl, 1) := by decide +kernel
theorem dLaw_law_393 : decode code 393 = .ok (.aload_n 0, 1) := by decide +kernel
theorem dLaw_law_394 : decode code 394 = .ok (.iload 4, 2) := by decide +kernel
theorem dLaw_law_396 : decode code 396 = .ok (.iconst 5, 1) := by decide +kernel
theorem dLaw_law_397 : decode code 397 = .ok (.iadd, 1) := by decide +kernel
theorem dLaw_law_398 : decode code 398 = .ok (.iaload, 1) := by decide +kernel
theorem dLaw_law_399 : decode code 399 = .ok (.i2l, 1) := by decide +kernel
theorem dLaw_law_400 : decode code 400 = .ok (.ldc2_w 19, 3) := by decide +kernel
theorem dLaw_law_403 : decode code 403 = .ok (.land, 1) := by decide +kernel
theorem dLaw_law_404 : decode code 404 = .ok (.lor, 1) := by decide +kernel
theorem dLaw_law_405 : decode code 405 = .ok (.aload_n 0, 1) := by decide +kernel
theorem dLaw_law_406 : decode code 406 = .ok (.iload 4, 2) := by decide +kernel
theorem dLaw_law_408 : decode code 408 = .ok (.bipush 6, 2) := by decide +kernel
theorem dLaw_law_410 : decode code 410 = .ok (.iadd, 1) := by decide +kernel
theorem dLaw_law_411 : decode code 411 = .ok (.iaload, 1) := by decide +kernel
theorem dLaw_law_412 : decode code 412 = .ok (.ifCond .eq 7, 3) := by decide +kernel
theorem dLaw_law_415 : decode code 415 = .ok (.iconst 1, 1) := by decide +kernel
theorem dLaw_law_416 : decode code 416 = .ok (.goto 4, 3) := by decide +kernel
theorem dLaw_law_419 : decode code 419 = .ok (.iconst 0, 1) := by decide +kernel
theorem dLaw_law_420 : decode code 420 = .ok (.invokevirtual 40, 3) := by decide +kernel
theorem dLaw_law_423 : decode code 423 = .ok (.if_icmp .eq 487, 3) := by decide +kernel
theorem dLaw_law_426 : decode code 426 = .ok (.iconst 0, 1) := by decide +kernel
theorem dLaw_law_427 : decode code 427 = .ok (.ireturn, 1) := by decide +kernel
theorem dLaw_law_428 : decode code 428 = .ok (.aload_n 1, 1) := by decide +kernel
theorem dLaw_law_429 : decode code 429 = .ok (.aload_n 0, 1) := by decide +kernel
theorem dLaw_law_430 : decode code 430 = .ok (.iload 4, 2) := by decide +kernel
theorem dLaw_law_432 : decode code 432 = .ok (.iconst 1, 1) := by decide +kernel
theorem dLaw_law_433 : decode code 433 = .ok (.iadd, 1) := by decide +kernel
theorem dLaw_law_434 : decode code 434 = .ok (.iaload, 1) := by decide +kernel
theorem dLaw_law_435 : decode code 435 = .ok (.invokevirtual 41, 3) := by decide +kernel
theorem dLaw_law_438 : decode code 438 = .ok (.aload_n 2, 1) := by decide +kernel
theorem dLaw_law_439 : decode code 439 = .ok (.aload_n 0, 1) := by decide +kernel
theorem dLaw_law_440 : decode code 440 = .ok (.iload 4, 2) := by decide +kernel
theorem dLaw_law_442 : decode code 442 = .ok (.iconst 1, 1) := by decide +kernel
theorem dLaw_law_443 : decode code 443 = .ok (.iadd, 1) := by decide +kernel
theorem dLaw_law_444 : decode code 444 = .ok (.iaload, 1) := by decide +kernel
theorem dLaw_law_445 : decode code 445 = .ok (.invokevirtual 45, 3) := by decide +kernel
theorem dLaw_law_448 : decode code 448 = .ok (.if_icmp .eq 462, 3) := by decide +kernel
theorem dLaw_law_451 : decode code 451 = .ok (.iconst 0, 1) := by decide +kernel
theorem dLaw_law_452 : decode code 452 = .ok (.ireturn, 1) := by decide +kernel
theorem dLaw_law_453 : decode code 453 = .ok (.aload_n 1, 1) := by decide +kernel
theorem dLaw_law_454 : decode code 454 = .ok (.aload_n 0, 1) := by decide +kernel
theorem dLaw_law_455 : decode code 455 = .ok (.iload 4, 2) := by decide +kernel
theorem dLaw_law_457 : decode code 457 = .ok (.iconst 1, 1) := by decide +kernel
theorem dLaw_law_458 : decode code 458 = .ok (.iadd, 1) := by decide +kernel
theorem dLaw_law_459 : decode code 459 = .ok (.iaload, 1) := by decide +kernel
theorem dLaw_law_460 : decode code 460 = .ok (.aload_n 0, 1) := by decide +kernel
theorem dLaw_law_461 : decode code 461 = .ok (.iload 4, 2) := by decide +kernel
theorem dLaw_law_463 : decode code 463 = .ok (.iconst 2, 1) := by decide +kernel
theorem dLaw_law_464 : decode code 464 = .ok (.iadd, 1) := by decide +kernel
theorem dLaw_law_465 : decode code 465 = .ok (.iaload, 1) := by decide +kernel
theorem dLaw_law_466 : decode code 466 = .ok (.i2l, 1) := by decide +kernel
theorem dLaw_law_467 : decode code 467 = .ok (.bipush 32, 2) := by decide +kernel
theorem dLaw_law_469 : decode code 469 = .ok (.lshl, 1) := by decide +kernel
theorem dLaw_law_470 : decode code 470 = .ok (.aload_n 0, 1) := by decide +kernel
theorem dLaw_law_471 : decode code 471 = .ok (.iload 4, 2) := by decide +kernel
theorem dLaw_law_473 : decode code 473 = .ok (.iconst 3, 1) := by decide +kernel
theorem dLaw_law_474 : decode code 474 = .ok (.iadd, 1) := by decide +kernel
theorem dLaw_law_475 : decode code 475 = .ok (.iaload, 1) := by decide +kernel
theorem dLaw_law_476 : decode code 476 = .ok (.i2l, 1) := by decide +kernel
theorem dLaw_law_477 : decode code 477 = .ok (.ldc2_w 19, 3) := by decide +kernel
theorem dLaw_law_480 : decode code 480 = .ok (.land, 1) := by decide +kernel
theorem dLaw_law_481 : decode code 481 = .ok (.lor, 1) := by decide +kernel
theorem dLaw_law_482 : decode code 482 = .ok (.invokevirtual 46, 3) := by decide +kernel
theorem dLaw_law_485 : decode code 485 = .ok (.aload_n 2, 1) := by decide +kernel
theorem dLaw_law_486 : decode code 486 = .ok (.aload_n 0, 1) := by decide +kernel
theorem dLaw_law_487 : decode code 487 = .ok (.iload 4, 2) := by decide +kernel
theorem dLaw_law_489 : decode code 489 = .ok (.iconst 1, 1) := by decide +kernel
theorem dLaw_law_490 : decode code 490 = .ok (.iadd, 1) := by decide +kernel
theorem dLaw_law_491 : decode code 491 = .ok (.iaload, 1) := by decide +kernel
theorem dLaw_law_492 : decode code 492 = .ok (.aload_n 0, 1) := by decide +kernel
theorem dLaw_law_493 : decode code 493 = .ok (.iload 4, 2) := by decide +kernel
theorem dLaw_law_495 : decode code 495 = .ok (.iconst 2, 1) := by decide +kernel
theorem dLaw_law_496 : decode code 496 = .ok (.iadd, 1) := by decide +kernel
theorem dLaw_law_497 : decode code 497 = .ok (.iaload, 1) := by decide +kernel
theorem dLaw_law_498 : decode code 498 = .ok (.i2l, 1) := by decide +kernel
theorem dLaw_law_499 : decode code 499 = .ok (.bipush 32, 2) := by decide +kernel
theorem dLaw_law_501 : decode code 501 = .ok (.lshl, 1) := by decide +kernel
theorem dLaw_law_502 : decode code 502 = .ok (.aload_n 0, 1) := by decide +kernel
theorem dLaw_law_503 : decode code 503 = .ok (.iload 4, 2) := by decide +kernel
theorem dLaw_law_505 : decode code 505 = .ok (.iconst 3, 1) := by decide +kernel
theorem dLaw_law_506 : decode code 506 = .ok (.iadd, 1) := by decide +kernel
theorem dLaw_law_507 : decode code 507 = .ok (.iaload, 1) := by decide +kernel
theorem dLaw_law_508 : decode code 508 = .ok (.i2l, 1) := by decide +kernel
theorem dLaw_law_509 : decode code 509 = .ok (.ldc2_w 19, 3) := by decide +kernel
theorem dLaw_law_512 : decode code 512 = .ok (.land, 1) := by decide +kernel
theorem dLaw_law_513 : decode code 513 = .ok (.lor, 1) := by decide +kernel
theorem dLaw_law_514 : decode code 514 = .ok (.invokevirtual 50, 3) := by decide +kernel
theorem dLaw_law_517 : decode code 517 = .ok (.if_icmp .eq 393, 3) := by decide +kernel
theorem dLaw_law_520 : decode code 520 = .ok (.iconst 0, 1) := by decide +kernel
theorem dLaw_law_521 : decode code 521 = .ok (.ireturn, 1) := by decide +kernel
theorem dLaw_law_522 : decode code 522 = .ok (.aload_n 1, 1) := by decide +kernel
theorem dLaw_law_523 : decode code 523 = .ok (.aload_n 0, 1) := by decide +kernel
theorem dLaw_law_524 : decode code 524 = .ok (.iload 4, 2) := by decide +kernel
theorem dLaw_law_526 : decode code 526 = .ok (.iconst 1, 1) := by decide +kernel
theorem dLaw_law_527 : decode code 527 = .ok (.iadd, 1) := by decide +kernel
theorem dLaw_law_528 : decode code 528 = .ok (.iaload, 1) := by decide +kernel
theorem dLaw_law_529 : decode code 529 = .ok (.aload_n 0, 1) := by decide +kernel
theorem dLaw_law_530 : decode code 530 = .ok (.iload 4, 2) := by decide +kernel
theorem dLaw_law_532 : decode code 532 = .ok (.iconst 2, 1) := by decide +kernel
theorem dLaw_law_533 : decode code 533 = .ok (.iadd, 1) := by decide +kernel
theorem dLaw_law_534 : decode code 534 = .ok (.iaload, 1) := by decide +kernel
theorem dLaw_law_535 : decode code 535 = .ok (.i2l, 1) := by decide +kernel
theorem dLaw_law_536 : decode code 536 = .ok (.bipush 32, 2) := by decide +kernel
theorem dLaw_law_538 : decode code 538 = .ok (.lshl, 1) := by decide +kernel
theorem dLaw_law_539 : decode code 539 = .ok (.aload_n 0, 1) := by decide +kernel
theorem dLaw_law_540 : decode code 540 = .ok (.iload 4, 2) := by decide +kernel
theorem dLaw_law_542 : decode code 542 = .ok (.iconst 3, 1) := by decide +kernel
theorem dLaw_law_543 : decode code 543 = .ok (.iadd, 1) := by decide +kernel
theorem dLaw_law_544 : decode code 544 = .ok (.iaload, 1) := by decide +kernel
theorem dLaw_law_545 : decode code 545 = .ok (.i2l, 1) := by decide +kernel
theorem dLaw_law_546 : decode code 546 = .ok (.ldc2_w 19, 3) := by decide +kernel
theorem dLaw_law_549 : decode code 549 = .ok (.land, 1) := by decide +kernel
theorem dLaw_law_550 : decode code 550 = .ok (.lor, 1) := by decide +kernel
theorem dLaw_law_551 : decode code 551 = .ok (.aload_n 0, 1) := by decide +kernel
theorem dLaw_law_552 : decode code 552 = .ok (.iload 4, 2) := by decide +kernel
theorem dLaw_law_554 : decode code 554 = .ok (.iconst 4, 1) := by decide +kernel
theorem dLaw_law_555 : decode code 555 = .ok (.iadd, 1) := by decide +kernel
theorem dLaw_law_556 : decode code 556 = .ok (.iaload, 1) := by decide +kernel
theorem dLaw_law_557 : decode code 557 = .ok (.invokevirtual 51, 3) := by decide +kernel
theorem dLaw_law_560 : decode code 560 = .ok (.aload_n 2, 1) := by decide +kernel
theorem dLaw_law_561 : decode code 561 = .ok (.aload_n 0, 1) := by decide +kernel
theorem dLaw_law_562 : decode code 562 = .ok (.iload 4, 2) := by decide +kernel
theorem dLaw_law_564 : decode code 564 = .ok (.iconst 1, 1) := by decide +kernel
theorem dLaw_law_565 : decode code 565 = .ok (.iadd, 1) := by decide +kernel
theorem dLaw_law_566 : decode code 566 = .ok (.iaload, 1) := by decide +kernel
theorem dLaw_law_567 : decode code 567 = .ok (.aload_n 0, 1) := by decide +kernel
theorem dLaw_law_568 : decode code 568 = .ok (.iload 4, 2) := by decide +kernel
theorem dLaw_law_570 : decode code 570 = .ok (.iconst 2, 1) := by decide +kernel
theorem dLaw_law_571 : decode code 571 = .ok (.iadd, 1) := by decide +kernel
theorem dLaw_law_572 : decode code 572 = .ok (.iaload, 1) := by decide +kernel
theorem dLaw_law_573 : decode code 573 = .ok (.i2l, 1) := by decide +kernel
theorem dLaw_law_574 : decode code 574 = .ok (.bipush 32, 2) := by decide +kernel
theorem dLaw_law_576 : decode code 576 = .ok (.lshl, 1) := by decide +kernel
theorem dLaw_law_577 : decode code 577 = .ok (.aload_n 0, 1) := by decide +kernel
theorem dLaw_law_578 : decode code 578 = .ok (.iload 4, 2) := by decide +kernel
theorem dLaw_law_580 : decode code 580 = .ok (.iconst 3, 1) := by decide +kernel
theorem dLaw_law_581 : decode code 581 = .ok (.iadd, 1) := by decide +kernel
theorem dLaw_law_582 : decode code 582 = .ok (.iaload, 1) := by decide +kernel
theorem dLaw_law_583 : decode code 583 = .ok (.i2l, 1) := by decide +kernel
theorem dLaw_law_584 : decode code 584 = .ok (.ldc2_w 19, 3) := by decide +kernel
theorem dLaw_law_587 : decode code 587 = .ok (.land, 1) := by decide +kernel
theorem dLaw_law_588 : decode code 588 = .ok (.lor, 1) := by decide +kernel
theorem dLaw_law_589 : decode code 589 = .ok (.aload_n 0, 1) := by decide +kernel
theorem dLaw_law_590 : decode code 590 = .ok (.iload 4, 2) := by decide +kernel
theorem dLaw_law_592 : decode code 592 = .ok (.iconst 4, 1) := by decide +kernel
theorem dLaw_law_593 : decode code 593 = .ok (.iadd, 1) := by decide +kernel
theorem dLaw_law_594 : decode code 594 = .ok (.iaload, 1) := by decide +kernel
theorem dLaw_law_595 : decode code 595 = .ok (.invokevirtual 55, 3) := by decide +kernel
theorem dLaw_law_598 : decode code 598 = .ok (.if_icmp .eq 312, 3) := by decide +kernel
theorem dLaw_law_601 : decode code 601 = .ok (.iconst 0, 1) := by decide +kernel
theorem dLaw_law_602 : decode code 602 = .ok (.ireturn, 1) := by decide +kernel
theorem dLaw_law_603 : decode code 603 = .ok (.aload_n 1, 1) := by decide +kernel
theorem dLaw_law_604 : decode code 604 = .ok (.aload_n 0, 1) := by decide +kernel
theorem dLaw_law_605 : decode code 605 = .ok (.iload 4, 2) := by decide +kernel
theorem dLaw_law_607 : decode code 607 = .ok (.iconst 1, 1) := by decide +kernel
theorem dLaw_law_608 : decode code 608 = .ok (.iadd, 1) := by decide +kernel
theorem dLaw_law_609 : decode code 609 = .ok (.iaload, 1) := by decide +kernel
theorem dLaw_law_610 : decode code 610 = .ok (.aload_n 0, 1) := by decide +kernel
theorem dLaw_law_611 : decode code 611 = .ok (.iload 4, 2) := by decide +kernel
theorem dLaw_law_613 : decode code 613 = .ok (.iconst 2, 1) := by decide +kernel
theorem dLaw_law_614 : decode code 614 = .ok (.iadd, 1) := by decide +kernel
theorem dLaw_law_615 : decode code 615 = .ok (.iaload, 1) := by decide +kernel
theorem dLaw_law_616 : decode code 616 = .ok (.i2l, 1) := by decide +kernel
theorem dLaw_law_617 : decode code 617 = .ok (.bipush 32, 2) := by decide +kernel
theorem dLaw_law_619 : decode code 619 = .ok (.lshl, 1) := by decide +kernel
theorem dLaw_law_620 : decode code 620 = .ok (.aload_n 0, 1) := by decide +kernel
theorem dLaw_law_621 : decode code 621 = .ok (.iload 4, 2) := by decide +kernel
theorem dLaw_law_623 : decode code 623 = .ok (.iconst 3, 1) := by decide +kernel
theorem dLaw_law_624 : decode code 624 = .ok (.iadd, 1) := by decide +kernel
theorem dLaw_law_625 : decode code 625 = .ok (.iaload, 1) := by decide +kernel
theorem dLaw_law_626 : decode code 626 = .ok (.i2l, 1) := by decide +kernel
theorem dLaw_law_627 : decode code 627 = .ok (.ldc2_w 19, 3) := by decide +kernel
theorem dLaw_law_630 : decode code 630 = .ok (.land, 1) := by decide +kernel
theorem dLaw_law_631 : decode code 631 = .ok (.lor, 1) := by decide +kernel
theorem dLaw_law_632 : decode code 632 = .ok (.invokevirtual 56, 3) := by decide +kernel
theorem dLaw_law_635 : decode code 635 = .ok (.aload_n 2, 1) := by decide +kernel
theorem dLaw_law_636 : decode code 636 = .ok (.aload_n 0, 1) := by decide +kernel
theorem dLaw_law_637 : decode code 637 = .ok (.iload 4, 2) := by decide +kernel
theorem dLaw_law_639 : decode code 639 = .ok (.iconst 1, 1) := by decide +kernel
theorem dLaw_law_640 : decode code 640 = .ok (.iadd, 1) := by decide +kernel
theorem dLaw_law_641 : decode code 641 = .ok (.iaload, 1) := by decide +kernel
theorem dLaw_law_642 : decode code 642 = .ok (.aload_n 0, 1) := by decide +kernel
theorem dLaw_law_643 : decode code 643 = .ok (.iload 4, 2) := by decide +kernel
theorem dLaw_law_645 : decode code 645 = .ok (.iconst 2, 1) := by decide +kernel
theorem dLaw_law_646 : decode code 646 = .ok (.iadd, 1) := by decide +kernel
theorem dLaw_law_647 : decode code 647 = .ok (.iaload, 1) := by decide +kernel
theorem dLaw_law_648 : decode code 648 = .ok (.i2l, 1) := by decide +kernel
theorem dLaw_law_649 : decode code 649 = .ok (.bipush 32, 2) := by decide +kernel
theorem dLaw_law_651 : decode code 651 = .ok (.lshl, 1) := by decide +kernel
theorem dLaw_law_652 : decode code 652 = .ok (.aload_n 0, 1) := by decide +kernel
theorem dLaw_law_653 : decode code 653 = .ok (.iload 4, 2) := by decide +kernel
theorem dLaw_law_655 : decode code 655 = .ok (.iconst 3, 1) := by decide +kernel
theorem dLaw_law_656 : decode code 656 = .ok (.iadd, 1) := by decide +kernel
theorem dLaw_law_657 : decode code 657 = .ok (.iaload, 1) := by decide +kernel
theorem dLaw_law_658 : decode code 658 = .ok (.i2l, 1) := by decide +kernel
theorem dLaw_law_659 : decode code 659 = .ok (.ldc2_w 19, 3) := by decide +kernel
theorem dLaw_law_662 : decode code 662 = .ok (.land, 1) := by decide +kernel
theorem dLaw_law_663 : decode code 663 = .ok (.lor, 1) := by decide +kernel
theorem dLaw_law_664 : decode code 664 = .ok (.invokevirtual 59, 3) := by decide +kernel
theorem dLaw_law_667 : decode code 667 = .ok (.if_icmp .eq 243, 3) := by decide +kernel
theorem dLaw_law_670 : decode code 670 = .ok (.iconst 0, 1) := by decide +kernel
theorem dLaw_law_671 : decode code 671 = .ok (.ireturn, 1) := by decide +kernel
theorem dLaw_law_672 : decode code 672 = .ok (.aload_n 1, 1) := by decide +kernel
theorem dLaw_law_673 : decode code 673 = .ok (.aload_n 0, 1) := by decide +kernel
theorem dLaw_law_674 : decode code 674 = .ok (.iload 4, 2) := by decide +kernel
theorem dLaw_law_676 : decode code 676 = .ok (.iconst 1, 1) := by decide +kernel
theorem dLaw_law_677 : decode code 677 = .ok (.iadd, 1) := by decide +kernel
theorem dLaw_law_678 : decode code 678 = .ok (.iaload, 1) := by decide +kernel
theorem dLaw_law_679 : decode code 679 = .ok (.aload_n 0, 1) := by decide +kernel
theorem dLaw_law_680 : decode code 680 = .ok (.iload 4, 2) := by decide +kernel
theorem dLaw_law_682 : decode code 682 = .ok (.iconst 2, 1) := by decide +kernel
theorem dLaw_law_683 : decode code 683 = .ok (.iadd, 1) := by decide +kernel
theorem dLaw_law_684 : decode code 684 = .ok (.iaload, 1) := by decide +kernel
theorem dLaw_law_685 : decode code 685 = .ok (.invokevirtual 60, 3) := by decide +kernel
theorem dLaw_law_688 : decode code 688 = .ok (.aload_n 2, 1) := by decide +kernel
theorem dLaw_law_689 : decode code 689 = .ok (.aload_n 0, 1) := by decide +kernel
theorem dLaw_law_690 : decode code 690 = .ok (.iload 4, 2) := by decide +kernel
theorem dLaw_law_692 : decode code 692 = .ok (.iconst 1, 1) := by decide +kernel
theorem dLaw_law_693 : decode code 693 = .ok (.iadd, 1) := by decide +kernel
theorem dLaw_law_694 : decode code 694 = .ok (.iaload, 1) := by decide +kernel
theorem dLaw_law_695 : decode code 695 = .ok (.aload_n 0, 1) := by decide +kernel
theorem dLaw_law_696 : decode code 696 = .ok (.iload 4, 2) := by decide +kernel
theorem dLaw_law_698 : decode code 698 = .ok (.iconst 2, 1) := by decide +kernel
theorem dLaw_law_699 : decode code 699 = .ok (.iadd, 1) := by decide +kernel
theorem dLaw_law_700 : decode code 700 = .ok (.iaload, 1) := by decide +kernel
theorem dLaw_law_701 : decode code 701 = .ok (.invokevirtual 64, 3) := by decide +kernel
theorem dLaw_law_704 : decode code 704 = .ok (.if_icmp .eq 206, 3) := by decide +kernel
theorem dLaw_law_707 : decode code 707 = .ok (.iconst 0, 1) := by decide +kernel
theorem dLaw_law_708 : decode code 708 = .ok (.ireturn, 1) := by decide +kernel
theorem dLaw_law_709 : decode code 709 = .ok (.aload_n 1, 1) := by decide +kernel
theorem dLaw_law_710 : decode code 710 = .ok (.aload_n 0, 1) := by decide +kernel
theorem dLaw_law_711 : decode code 711 = .ok (.iload 4, 2) := by decide +kernel
theorem dLaw_law_713 : decode code 713 = .ok (.iconst 1, 1) := by decide +kernel
theorem dLaw_law_714 : decode code 714 = .ok (.iadd, 1) := by decide +kernel
theorem dLaw_law_715 : decode code 715 = .ok (.iaload, 1) := by decide +kernel
theorem dLaw_law_716 : decode code 716 = .ok (.aload_n 0, 1) := by decide +kernel
theorem dLaw_law_717 : decode code 717 = .ok (.iload 4, 2) := by decide +kernel
theorem dLaw_law_719 : decode code 719 = .ok (.iconst 2, 1) := by decide +kernel
theorem dLaw_law_720 : decode code 720 = .ok (.iadd, 1) := by decide +kernel
theorem dLaw_law_721 : decode code 721 = .ok (.iaload, 1) := by decide +kernel
theorem dLaw_law_722 : decode code 722 = .ok (.i2l, 1) := by decide +kernel
theorem dLaw_law_723 : decode code 723 = .ok (.bipush 32, 2) := by decide +kernel
theorem dLaw_law_725 : decode code 725 = .ok (.lshl, 1) := by decide +kernel
theorem dLaw_law_726 : decode code 726 = .ok (.aload_n 0, 1) := by decide +kernel
theorem dLaw_law_727 : decode code 727 = .ok (.iload 4, 2) := by decide +kernel
theorem dLaw_law_729 : decode code 729 = .ok (.iconst 3, 1) := by decide +kernel
theorem dLaw_law_730 : decode code 730 = .ok (.iadd, 1) := by decide +kernel
theorem dLaw_law_731 : decode code 731 = .ok (.iaload, 1) := by decide +kernel
theorem dLaw_law_732 : decode code 732 = .ok (.i2l, 1) := by decide +kernel
theorem dLaw_law_733 : decode code 733 = .ok (.ldc2_w 19, 3) := by decide +kernel
theorem dLaw_law_736 : decode code 736 = .ok (.land, 1) := by decide +kernel
theorem dLaw_law_737 : decode code 737 = .ok (.lor, 1) := by decide +kernel
theorem dLaw_law_738 : decode code 738 = .ok (.invokevirtual 65, 3) := by decide +kernel
theorem dLaw_law_741 : decode code 741 = .ok (.aload_n 2, 1) := by decide +kernel
theorem dLaw_law_742 : decode code 742 = .ok (.aload_n 0, 1) := by decide +kernel
theorem dLaw_law_743 : decode code 743 = .ok (.iload 4, 2) := by decide +kernel
theorem dLaw_law_745 : decode code 745 = .ok (.iconst 1, 1) := by decide +kernel
theorem dLaw_law_746 : decode code 746 = .ok (.iadd, 1) := by decide +kernel
theorem dLaw_law_747 : decode code 747 = .ok (.iaload, 1) := by decide +kernel
theorem dLaw_law_748 : decode code 748 = .ok (.aload_n 0, 1) := by decide +kernel
theorem dLaw_law_749 : decode code 749 = .ok (.iload 4, 2) := by decide +kernel
theorem dLaw_law_751 : decode code 751 = .ok (.iconst 2, 1) := by decide +kernel
theorem dLaw_law_752 : decode code 752 = .ok (.iadd, 1) := by decide +kernel
theorem dLaw_law_753 : decode code 753 = .ok (.iaload, 1) := by decide +kernel
theorem dLaw_law_754 : decode code 754 = .ok (.i2l, 1) := by decide +kernel
theorem dLaw_law_755 : decode code 755 = .ok (.bipush 32, 2) := by decide +kernel
theorem dLaw_law_757 : decode code 757 = .ok (.lshl, 1) := by decide +kernel
theorem dLaw_law_758 : decode code 758 = .ok (.aload_n 0, 1) := by decide +kernel
theorem dLaw_law_759 : decode code 759 = .ok (.iload 4, 2) := by decide +kernel
theorem dLaw_law_761 : decode code 761 = .ok (.iconst 3, 1) := by decide +kernel
theorem dLaw_law_762 : decode code 762 = .ok (.iadd, 1) := by decide +kernel
theorem dLaw_law_763 : decode code 763 = .ok (.iaload, 1) := by decide +kernel
theorem dLaw_law_764 : decode code 764 = .ok (.i2l, 1) := by decide +kernel
theorem dLaw_law_765 : decode code 765 = .ok (.ldc2_w 19, 3) := by decide +kernel
theorem dLaw_law_768 : decode code 768 = .ok (.land, 1) := by decide +kernel
theorem dLaw_law_769 : decode code 769 = .ok (.lor, 1) := by decide +kernel
theorem dLaw_law_770 : decode code 770 = .ok (.invokevirtual 68, 3) := by decide +kernel
theorem dLaw_law_773 : decode code 773 = .ok (.if_icmp .eq 137, 3) := by decide +kernel
theorem dLaw_law_776 : decode code 776 = .ok (.iconst 0, 1) := by decide +kernel
theorem dLaw_law_777 : decode code 777 = .ok (.ireturn, 1) := by decide +kernel
theorem dLaw_law_778 : decode code 778 = .ok (.aload_n 1, 1) := by decide +kernel
theorem dLaw_law_779 : decode code 779 = .ok (.aload_n 0, 1) := by decide +kernel
theorem dLaw_law_780 : decode code 780 = .ok (.iload 4, 2) := by decide +kernel
theorem dLaw_law_782 : decode code 782 = .ok (.iconst 1, 1) := by decide +kernel
theorem dLaw_law_783 : decode code 783 = .ok (.iadd, 1) := by decide +kernel
theorem dLaw_law_784 : decode code 784 = .ok (.iaload, 1) := by decide +kernel
theorem dLaw_law_785 : decode code 785 = .ok (.aload_n 0, 1) := by decide +kernel
theorem dLaw_law_786 : decode code 786 = .ok (.iload 4, 2) := by decide +kernel
theorem dLaw_law_788 : decode code 788 = .ok (.iconst 2, 1) := by decide +kernel
theorem dLaw_law_789 : decode code 789 = .ok (.iadd, 1) := by decide +kernel
theorem dLaw_law_790 : decode code 790 = .ok (.iaload, 1) := by decide +kernel
theorem dLaw_law_791 : decode code 791 = .ok (.i2l, 1) := by decide +kernel
theorem dLaw_law_792 : decode code 792 = .ok (.bipush 32, 2) := by decide +kernel
theorem dLaw_law_794 : decode code 794 = .ok (.lshl, 1) := by decide +kernel
theorem dLaw_law_795 : decode code 795 = .ok (.aload_n 0, 1) := by decide +kernel
theorem dLaw_law_796 : decode code 796 = .ok (.iload 4, 2) := by decide +kernel
theorem dLaw_law_798 : decode code 798 = .ok (.iconst 3, 1) := by decide +kernel
theorem dLaw_law_799 : decode code 799 = .ok (.iadd, 1) := by decide +kernel
theorem dLaw_law_800 : decode code 800 = .ok (.iaload, 1) := by decide +kernel
theorem dLaw_law_801 : decode code 801 = .ok (.i2l, 1) := by decide +kernel
theorem dLaw_law_802 : decode code 802 = .ok (.ldc2_w 19, 3) := by decide +kernel
theorem dLaw_law_805 : decode code 805 = .ok (.land, 1) := by decide +kernel
theorem dLaw_law_806 : decode code 806 = .ok (.lor, 1) := by decide +kernel
theorem dLaw_law_807 : decode code 807 = .ok (.invokevirtual 69, 3) := by decide +kernel
theorem dLaw_law_810 : decode code 810 = .ok (.aload_n 2, 1) := by decide +kernel
theorem dLaw_law_811 : decode code 811 = .ok (.aload_n 0, 1) := by decide +kernel
theorem dLaw_law_812 : decode code 812 = .ok (.iload 4, 2) := by decide +kernel
theorem dLaw_law_814 : decode code 814 = .ok (.iconst 1, 1) := by decide +kernel
theorem dLaw_law_815 : decode code 815 = .ok (.iadd, 1) := by decide +kernel
theorem dLaw_law_816 : decode code 816 = .ok (.iaload, 1) := by decide +kernel
theorem dLaw_law_817 : decode code 817 = .ok (.aload_n 0, 1) := by decide +kernel
theorem dLaw_law_818 : decode code 818 = .ok (.iload 4, 2) := by decide +kernel
theorem dLaw_law_820 : decode code 820 = .ok (.iconst 2, 1) := by decide +kernel
theorem dLaw_law_821 : decode code 821 = .ok (.iadd, 1) := by decide +kernel
theorem dLaw_law_822 : decode code 822 = .ok (.iaload, 1) := by decide +kernel
theorem dLaw_law_823 : decode code 823 = .ok (.i2l, 1) := by decide +kernel
theorem dLaw_law_824 : decode code 824 = .ok (.bipush 32, 2) := by decide +kernel
theorem dLaw_law_826 : decode code 826 = .ok (.lshl, 1) := by decide +kernel
theorem dLaw_law_827 : decode code 827 = .ok (.aload_n 0, 1) := by decide +kernel
theorem dLaw_law_828 : decode code 828 = .ok (.iload 4, 2) := by decide +kernel
theorem dLaw_law_830 : decode code 830 = .ok (.iconst 3, 1) := by decide +kernel
theorem dLaw_law_831 : decode code 831 = .ok (.iadd, 1) := by decide +kernel
theorem dLaw_law_832 : decode code 832 = .ok (.iaload, 1) := by decide +kernel
theorem dLaw_law_833 : decode code 833 = .ok (.i2l, 1) := by decide +kernel
theorem dLaw_law_834 : decode code 834 = .ok (.ldc2_w 19, 3) := by decide +kernel
theorem dLaw_law_837 : decode code 837 = .ok (.land, 1) := by decide +kernel
theorem dLaw_law_838 : decode code 838 = .ok (.lor, 1) := by decide +kernel
theorem dLaw_law_839 : decode code 839 = .ok (.invokevirtual 72, 3) := by decide +kernel
theorem dLaw_law_842 : decode code 842 = .ok (.if_icmp .eq 68, 3) := by decide +kernel
theorem dLaw_law_845 : decode code 845 = .ok (.iconst 0, 1) := by decide +kernel
theorem dLaw_law_846 : decode code 846 = .ok (.ireturn, 1) := by decide +kernel
theorem dLaw_law_847 : decode code 847 = .ok (.aload_n 1, 1) := by decide +kernel
theorem dLaw_law_848 : decode code 848 = .ok (.aload_n 0, 1) := by decide +kernel
theorem dLaw_law_849 : decode code 849 = .ok (.iload 4, 2) := by decide +kernel
theorem dLaw_law_851 : decode code 851 = .ok (.iconst 1, 1) := by decide +kernel
theorem dLaw_law_852 : decode code 852 = .ok (.iadd, 1) := by decide +kernel
theorem dLaw_law_853 : decode code 853 = .ok (.iaload, 1) := by decide +kernel
theorem dLaw_law_854 : decode code 854 = .ok (.aload_n 0, 1) := by decide +kernel
theorem dLaw_law_855 : decode code 855 = .ok (.iload 4, 2) := by decide +kernel
theorem dLaw_law_857 : decode code 857 = .ok (.iconst 2, 1) := by decide +kernel
theorem dLaw_law_858 : decode code 858 = .ok (.iadd, 1) := by decide +kernel
theorem dLaw_law_859 : decode code 859 = .ok (.iaload, 1) := by decide +kernel
theorem dLaw_law_860 : decode code 860 = .ok (.invokevirtual 73, 3) := by decide +kernel
theorem dLaw_law_863 : decode code 863 = .ok (.aload_n 2, 1) := by decide +kernel
theorem dLaw_law_864 : decode code 864 = .ok (.aload_n 0, 1) := by decide +kernel
theorem dLaw_law_865 : decode code 865 = .ok (.iload 4, 2) := by decide +kernel
theorem dLaw_law_867 : decode code 867 = .ok (.iconst 1, 1) := by decide +kernel
theorem dLaw_law_868 : decode code 868 = .ok (.iadd, 1) := by decide +kernel
theorem dLaw_law_869 : decode code 869 = .ok (.iaload, 1) := by decide +kernel
theorem dLaw_law_870 : decode code 870 = .ok (.aload_n 0, 1) := by decide +kernel
theorem dLaw_law_871 : decode code 871 = .ok (.iload 4, 2) := by decide +kernel
theorem dLaw_law_873 : decode code 873 = .ok (.iconst 2, 1) := by decide +kernel
theorem dLaw_law_874 : decode code 874 = .ok (.iadd, 1) := by decide +kernel
theorem dLaw_law_875 : decode code 875 = .ok (.iaload, 1) := by decide +kernel
theorem dLaw_law_876 : decode code 876 = .ok (.invokevirtual 76, 3) := by decide +kernel
theorem dLaw_law_879 : decode code 879 = .ok (.if_icmp .eq 31, 3) := by decide +kernel
theorem dLaw_law_882 : decode code 882 = .ok (.iconst 0, 1) := by decide +kernel
theorem dLaw_law_883 : decode code 883 = .ok (.ireturn, 1) := by decide +kernel
theorem dLaw_law_884 : decode code 884 = .ok (.aload_n 1, 1) := by decide +kernel
theorem dLaw_law_885 : decode code 885 = .ok (.aload_n 0, 1) := by decide +kernel
theorem dLaw_law_886 : decode code 886 = .ok (.iload 4, 2) := by decide +kernel
theorem dLaw_law_888 : decode code 888 = .ok (.iconst 1, 1) := by decide +kernel
theorem dLaw_law_889 : decode code 889 = .ok (.iadd, 1) := by decide +kernel
theorem dLaw_law_890 : decode code 890 = .ok (.iaload, 1) := by decide +kernel
theorem dLaw_law_891 : decode code 891 = .ok (.invokevirtual 77, 3) := by decide +kernel
theorem dLaw_law_894 : decode code 894 = .ok (.aload_n 2, 1) := by decide +kernel
theorem dLaw_law_895 : decode code 895 = .ok (.aload_n 0, 1) := by decide +kernel
theorem dLaw_law_896 : decode code 896 = .ok (.iload 4, 2) := by decide +kernel
theorem dLaw_law_898 : decode code 898 = .ok (.iconst 1, 1) := by decide +kernel
theorem dLaw_law_899 : decode code 899 = .ok (.iadd, 1) := by decide +kernel
theorem dLaw_law_900 : decode code 900 = .ok (.iaload, 1) := by decide +kernel
theorem dLaw_law_901 : decode code 901 = .ok (.invokevirtual 81, 3) := by decide +kernel
theorem dLaw_law_904 : decode code 904 = .ok (.lcmp, 1) := by decide +kernel
theorem dLaw_law_905 : decode code 905 = .ok (.ifCond .eq 5, 3) := by decide +kernel
theorem dLaw_law_908 : decode code 908 = .ok (.iconst 0, 1) := by decide +kernel
theorem dLaw_law_909 : decode code 909 = .ok (.ireturn, 1) := by decide +kernel
theorem dLaw_law_910 : decode code 910 = .ok (.iinc 4 7, 3) := by decide +kernel
theorem dLaw_law_913 : decode code 913 = .ok (.goto (-890), 3) := by decide +kernel
theorem dLaw_law_916 : decode code 916 = .ok (.iconst 1, 1) := by decide +kernel
theorem dLaw_law_917 : decode code 917 = .ok (.ireturn, 1) := by decide +kernel
