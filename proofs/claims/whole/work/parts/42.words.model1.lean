set_option maxRecDepth 100000 in
theorem iwMod : ∀ w ∈ u_ws RMod TMod 35, w ∈ wT := by decide +kernel
set_option maxRecDepth 100000 in
theorem FMod_96 : fdOk RMod RMod RMod TMod 35 96 9 0 0 14 := ⟨⟨by decide, by decide, rfl, by decide, rfl, by decide⟩, iwMod, wT_in 531 (by decide +kernel) rfl, rfl⟩
set_option maxRecDepth 100000 in
theorem GMod_code : fdPut TMod 35 0 (.int) false := ⟨rfl, tyMod_ok 0 (by decide), ⟨tyMod, tyMod_ok⟩, nmMod⟩
set_option maxRecDepth 100000 in
theorem FMod_100 : fdOk RMod RMod RMod TMod 35 100 9 1 0 15 := ⟨⟨by decide, by decide, rfl, by decide, rfl, by decide⟩, iwMod, wT_in 532 (by decide +kernel) rfl, rfl⟩
set_option maxRecDepth 100000 in
theorem GMod_counters : fdPut TMod 35 1 (.int) false := ⟨rfl, tyMod_ok 1 (by decide), ⟨tyMod, tyMod_ok⟩, nmMod⟩
set_option maxRecDepth 100000 in
theorem FMod_103 : fdOk RMod RMod RMod TMod 35 103 9 8 0 16 := ⟨⟨by decide, by decide, rfl, by decide, rfl, by decide⟩, iwMod, wT_in 539 (by decide +kernel) rfl, rfl⟩
set_option maxRecDepth 100000 in
theorem GMod_alarms : fdPut TMod 35 8 (.int) false := ⟨rfl, tyMod_ok 8 (by decide), ⟨tyMod, tyMod_ok⟩, nmMod⟩
set_option maxRecDepth 100000 in
theorem FMod_106 : fdOk RMod RMod RMod TMod 35 106 9 15 0 17 := ⟨⟨by decide, by decide, rfl, by decide, rfl, by decide⟩, iwMod, wT_in 546 (by decide +kernel) rfl, rfl⟩
set_option maxRecDepth 100000 in
theorem GMod_tables : fdPut TMod 35 15 (.int) false := ⟨rfl, tyMod_ok 15 (by decide), ⟨tyMod, tyMod_ok⟩, nmMod⟩
set_option maxRecDepth 100000 in
theorem QMod_109 : Cond.constantLong RMod 109 1000000000 ∈ wT := wT_in 647 (by decide +kernel) rfl
set_option maxRecDepth 100000 in
theorem QMod_111 : Cond.constantLong RMod 111 1000 ∈ wT := wT_in 648 (by decide +kernel) rfl
set_option maxRecDepth 100000 in
theorem FMod_7 : fdOk RMod RMod RMod TMod 35 7 9 2 2 22 := ⟨⟨by decide, by decide, rfl, by decide, rfl, by decide⟩, iwMod, wT_in 533 (by decide +kernel) rfl, rfl⟩
set_option maxRecDepth 100000 in
theorem GMod_base : fdPut TMod 35 2 (.array .long) true := ⟨rfl, tyMod_ok 2 (by decide), ⟨tyMod, tyMod_ok⟩, nmMod⟩
set_option maxRecDepth 100000 in
theorem FMod_13 : fdOk RMod RMod RMod TMod 35 13 9 3 2 23 := ⟨⟨by decide, by decide, rfl, by decide, rfl, by decide⟩, iwMod, wT_in 534 (by decide +kernel) rfl, rfl⟩
set_option maxRecDepth 100000 in
theorem GMod_ticks : fdPut TMod 35 3 (.array .long) true := ⟨rfl, tyMod_ok 3 (by decide), ⟨tyMod, tyMod_ok⟩, nmMod⟩
set_option maxRecDepth 100000 in
theorem CMod_117 : cV RMod 117 RMod yMod_noAlarm cMod_noAlarm 2 (some .boolean) 1 := ⟨⟨wT_in 657 (by decide +kernel) rfl, wT_in 659 (by decide +kernel) rfl, wT_in 13 (by decide +kernel) rfl, wT_in 27 (by decide +kernel) rfl⟩, wT_in 660 rfl rfl, by decide +kernel⟩
set_option maxRecDepth 100000 in
theorem FMod_29 : fdOk RMod RMod RMod TMod 35 29 9 9 2 28 := ⟨⟨by decide, by decide, rfl, by decide, rfl, by decide⟩, iwMod, wT_in 540 (by decide +kernel) rfl, rfl⟩
set_option maxRecDepth 100000 in
theorem GMod_alarmOn : fdPut TMod 35 9 (.array .int) true := ⟨rfl, tyMod_ok 9 (by decide), ⟨tyMod, tyMod_ok⟩, nmMod⟩
set_option maxRecDepth 100000 in
theorem FMod_39 : fdOk RMod RMod RMod TMod 35 39 9 12 2 31 := ⟨⟨by decide, by decide, rfl, by decide, rfl, by decide⟩, iwMod, wT_in 543 (by decide +kernel) rfl, rfl⟩
set_option maxRecDepth 100000 in
theorem GMod_isSet : fdPut TMod 35 12 (.array .boolean) true := ⟨rfl, tyMod_ok 12 (by decide), ⟨tyMod, tyMod_ok⟩, nmMod⟩
set_option maxRecDepth 100000 in
theorem FMod_45 : fdOk RMod RMod RMod TMod 35 45 9 14 2 33 := ⟨⟨by decide, by decide, rfl, by decide, rfl, by decide⟩, iwMod, wT_in 545 (by decide +kernel) rfl, rfl⟩
set_option maxRecDepth 100000 in
theorem GMod_cycle : fdPut TMod 35 14 (.array .long) true := ⟨rfl, tyMod_ok 14 (by decide), ⟨tyMod, tyMod_ok⟩, nmMod⟩
set_option maxRecDepth 100000 in
theorem FMod_42 : fdOk RMod RMod RMod TMod 35 42 9 13 2 32 := ⟨⟨by decide, by decide, rfl, by decide, rfl, by decide⟩, iwMod, wT_in 544 (by decide +kernel) rfl, rfl⟩
set_option maxRecDepth 100000 in
theorem GMod_alarmDue : fdPut TMod 35 13 (.array .long) true := ⟨rfl, tyMod_ok 13 (by decide), ⟨tyMod, tyMod_ok⟩, nmMod⟩
set_option maxRecDepth 100000 in
theorem FMod_19 : fdOk RMod RMod RMod TMod 35 19 9 5 2 25 := ⟨⟨by decide, by decide, rfl, by decide, rfl, by decide⟩, iwMod, wT_in 536 (by decide +kernel) rfl, rfl⟩
set_option maxRecDepth 100000 in
theorem GMod_steps : fdPut TMod 35 5 (.array .long) true := ⟨rfl, tyMod_ok 5 (by decide), ⟨tyMod, tyMod_ok⟩, nmMod⟩
set_option maxRecDepth 100000 in
theorem QMod_124 : Cond.constantLong RMod 124 2 ∈ wT := wT_in 669 (by decide +kernel) rfl
set_option maxRecDepth 100000 in
theorem CMod_113 : cV RMod 113 RMod yMod_no cMod_no 2 (some .boolean) 1 := ⟨⟨wT_in 653 (by decide +kernel) rfl, wT_in 655 (by decide +kernel) rfl, wT_in 12 (by decide +kernel) rfl, wT_in 27 (by decide +kernel) rfl⟩, wT_in 656 rfl rfl, by decide +kernel⟩
set_option maxRecDepth 100000 in
theorem QMod_126 : Cond.constantLong RMod 126 1000000 ∈ wT := wT_in 678 (by decide +kernel) rfl
set_option maxRecDepth 100000 in
theorem FMod_48 : fdOk RMod RMod RMod TMod 35 48 9 16 2 34 := ⟨⟨by decide, by decide, rfl, by decide, rfl, by decide⟩, iwMod, wT_in 547 (by decide +kernel) rfl, rfl⟩
set_option maxRecDepth 100000 in
theorem GMod_tableOn : fdPut TMod 35 16 (.array .int) true := ⟨rfl, tyMod_ok 16 (by decide), ⟨tyMod, tyMod_ok⟩, nmMod⟩
set_option maxRecDepth 100000 in
theorem FMod_51 : fdOk RMod RMod RMod TMod 35 51 9 17 2 35 := ⟨⟨by decide, by decide, rfl, by decide, rfl, by decide⟩, iwMod, wT_in 548 (by decide +kernel) rfl, rfl⟩
set_option maxRecDepth 100000 in
theorem GMod_length : fdPut TMod 35 17 (.array .long) true := ⟨rfl, tyMod_ok 17 (by decide), ⟨tyMod, tyMod_ok⟩, nmMod⟩
set_option maxRecDepth 100000 in
theorem CMod_128 : cV RMod 128 RMod yMod_noTable cMod_noTable 2 (some .boolean) 1 := ⟨⟨wT_in 683 (by decide +kernel) rfl, wT_in 685 (by decide +kernel) rfl, wT_in 15 (by decide +kernel) rfl, wT_in 27 (by decide +kernel) rfl⟩, wT_in 686 rfl rfl, by decide +kernel⟩
set_option maxRecDepth 100000 in
theorem FMod_69 : fdOk RMod RMod RMod TMod 35 69 9 23 2 41 := ⟨⟨by decide, by decide, rfl, by decide, rfl, by decide⟩, iwMod, wT_in 554 (by decide +kernel) rfl, rfl⟩
set_option maxRecDepth 100000 in
theorem GMod_runs : fdPut TMod 35 23 (.array .boolean) true := ⟨rfl, tyMod_ok 23 (by decide), ⟨tyMod, tyMod_ok⟩, nmMod⟩
set_option maxRecDepth 100000 in
theorem FMod_66 : fdOk RMod RMod RMod TMod 35 66 9 22 2 40 := ⟨⟨by decide, by decide, rfl, by decide, rfl, by decide⟩, iwMod, wT_in 553 (by decide +kernel) rfl, rfl⟩
set_option maxRecDepth 100000 in
theorem GMod_deviation : fdPut TMod 35 22 (.array .long) true := ⟨rfl, tyMod_ok 22 (by decide), ⟨tyMod, tyMod_ok⟩, nmMod⟩
set_option maxRecDepth 100000 in
theorem FMod_75 : fdOk RMod RMod RMod TMod 35 75 9 25 2 43 := ⟨⟨by decide, by decide, rfl, by decide, rfl, by decide⟩, iwMod, wT_in 556 (by decide +kernel) rfl, rfl⟩
set_option maxRecDepth 100000 in
theorem GMod_place : fdPut TMod 35 25 (.array .int) true := ⟨rfl, tyMod_ok 25 (by decide), ⟨tyMod, tyMod_ok⟩, nmMod⟩
set_option maxRecDepth 100000 in
theorem FMod_72 : fdOk RMod RMod RMod TMod 35 72 9 24 2 42 := ⟨⟨by decide, by decide, rfl, by decide, rfl, by decide⟩, iwMod, wT_in 555 (by decide +kernel) rfl, rfl⟩
set_option maxRecDepth 100000 in
theorem GMod_due : fdPut TMod 35 24 (.array .long) true := ⟨rfl, tyMod_ok 24 (by decide), ⟨tyMod, tyMod_ok⟩, nmMod⟩
set_option maxRecDepth 100000 in
theorem FMod_63 : fdOk RMod RMod RMod TMod 35 63 9 21 2 39 := ⟨⟨by decide, by decide, rfl, by decide, rfl, by decide⟩, iwMod, wT_in 552 (by decide +kernel) rfl, rfl⟩
set_option maxRecDepth 100000 in
theorem GMod_next : fdPut TMod 35 21 (.array .int) true := ⟨rfl, tyMod_ok 21 (by decide), ⟨tyMod, tyMod_ok⟩, nmMod⟩
set_option maxRecDepth 100000 in
theorem QMod_131 : Cond.constantLong RMod 131 (-2000) ∈ wT := wT_in 699 (by decide +kernel) rfl
set_option maxRecDepth 100000 in
theorem QMod_133 : Cond.constantLong RMod 133 2000 ∈ wT := wT_in 700 (by decide +kernel) rfl
set_option maxRecDepth 100000 in
theorem QMod_135 : Cond.constantLong RMod 135 (-1000) ∈ wT := wT_in 701 (by decide +kernel) rfl
set_option maxRecDepth 100000 in
theorem FMod_137 : fdOk RMod RMod RMod TMod 35 137 9 26 0 18 := ⟨⟨by decide, by decide, rfl, by decide, rfl, by decide⟩, iwMod, wT_in 557 (by decide +kernel) rfl, rfl⟩
set_option maxRecDepth 100000 in
theorem GMod_expired : fdPut TMod 35 26 (.int) false := ⟨rfl, tyMod_ok 26 (by decide), ⟨tyMod, tyMod_ok⟩, nmMod⟩
set_option maxRecDepth 100000 in
theorem FMod_87 : fdOk RMod RMod RMod TMod 35 87 9 30 2 47 := ⟨⟨by decide, by decide, rfl, by decide, rfl, by decide⟩, iwMod, wT_in 561 (by decide +kernel) rfl, rfl⟩
set_option maxRecDepth 100000 in
theorem GMod_value : fdPut TMod 35 30 (.array .int) true := ⟨rfl, tyMod_ok 30 (by decide), ⟨tyMod, tyMod_ok⟩, nmMod⟩
set_option maxRecDepth 100000 in
theorem FMod_84 : fdOk RMod RMod RMod TMod 35 84 9 29 2 46 := ⟨⟨by decide, by decide, rfl, by decide, rfl, by decide⟩, iwMod, wT_in 560 (by decide +kernel) rfl, rfl⟩
set_option maxRecDepth 100000 in
theorem GMod_where : fdPut TMod 35 29 (.array .int) true := ⟨rfl, tyMod_ok 29 (by decide), ⟨tyMod, tyMod_ok⟩, nmMod⟩
set_option maxRecDepth 100000 in
theorem FMod_81 : fdOk RMod RMod RMod TMod 35 81 9 28 2 45 := ⟨⟨by decide, by decide, rfl, by decide, rfl, by decide⟩, iwMod, wT_in 559 (by decide +kernel) rfl, rfl⟩
set_option maxRecDepth 100000 in
theorem GMod_number : fdPut TMod 35 28 (.array .int) true := ⟨rfl, tyMod_ok 28 (by decide), ⟨tyMod, tyMod_ok⟩, nmMod⟩
set_option maxRecDepth 100000 in
theorem FMod_78 : fdOk RMod RMod RMod TMod 35 78 9 27 2 44 := ⟨⟨by decide, by decide, rfl, by decide, rfl, by decide⟩, iwMod, wT_in 558 (by decide +kernel) rfl, rfl⟩
set_option maxRecDepth 100000 in
theorem GMod_kind : fdPut TMod 35 27 (.array .int) true := ⟨rfl, tyMod_ok 27 (by decide), ⟨tyMod, tyMod_ok⟩, nmMod⟩
