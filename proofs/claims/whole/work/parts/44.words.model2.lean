set_option maxRecDepth 100000 in
theorem FMod_90 : fdOk RMod RMod RMod TMod 35 90 9 33 2 48 := ⟨⟨by decide, by decide, rfl, by decide, rfl, by decide⟩, iwMod, wT_in 564 (by decide +kernel) rfl, rfl⟩
set_option maxRecDepth 100000 in
theorem GMod_stepped : fdPut TMod 35 33 (.array .int) true := ⟨rfl, tyMod_ok 33 (by decide), ⟨tyMod, tyMod_ok⟩, nmMod⟩
set_option maxRecDepth 100000 in
theorem FMod_140 : fdOk RMod RMod RMod TMod 35 140 9 32 0 20 := ⟨⟨by decide, by decide, rfl, by decide, rfl, by decide⟩, iwMod, wT_in 563 (by decide +kernel) rfl, rfl⟩
set_option maxRecDepth 100000 in
theorem GMod_deep : fdPut TMod 35 32 (.int) false := ⟨rfl, tyMod_ok 32 (by decide), ⟨tyMod, tyMod_ok⟩, nmMod⟩
set_option maxRecDepth 100000 in
theorem FMod_93 : fdOk RMod RMod RMod TMod 35 93 9 34 2 49 := ⟨⟨by decide, by decide, rfl, by decide, rfl, by decide⟩, iwMod, wT_in 565 (by decide +kernel) rfl, rfl⟩
set_option maxRecDepth 100000 in
theorem GMod_goesOn : fdPut TMod 35 34 (.array .int) true := ⟨rfl, tyMod_ok 34 (by decide), ⟨tyMod, tyMod_ok⟩, nmMod⟩
set_option maxRecDepth 100000 in
theorem FMod_143 : fdOk RMod RMod RMod TMod 35 143 9 31 0 19 := ⟨⟨by decide, by decide, rfl, by decide, rfl, by decide⟩, iwMod, wT_in 562 (by decide +kernel) rfl, rfl⟩
set_option maxRecDepth 100000 in
theorem GMod_acted : fdPut TMod 35 31 (.int) false := ⟨rfl, tyMod_ok 31 (by decide), ⟨tyMod, tyMod_ok⟩, nmMod⟩
set_option maxRecDepth 100000 in
theorem CMod_146 : cV RMod 146 RMod yMod_makeStep cMod_makeStep 2 none 1 := ⟨⟨wT_in 708 (by decide +kernel) rfl, wT_in 710 (by decide +kernel) rfl, wT_in 16 (by decide +kernel) rfl, wT_in 27 (by decide +kernel) rfl⟩, wT_in 711 rfl rfl, by decide +kernel⟩
set_option maxRecDepth 100000 in
theorem FMod_54 : fdOk RMod RMod RMod TMod 35 54 9 18 2 36 := ⟨⟨by decide, by decide, rfl, by decide, rfl, by decide⟩, iwMod, wT_in 549 (by decide +kernel) rfl, rfl⟩
set_option maxRecDepth 100000 in
theorem GMod_points : fdPut TMod 35 18 (.array .int) true := ⟨rfl, tyMod_ok 18 (by decide), ⟨tyMod, tyMod_ok⟩, nmMod⟩
set_option maxRecDepth 100000 in
theorem QMod_150 : Cond.constantLong RMod 150 (-2) ∈ wT := wT_in 728 (by decide +kernel) rfl
set_option maxRecDepth 100000 in
theorem FMod_57 : fdOk RMod RMod RMod TMod 35 57 9 19 2 37 := ⟨⟨by decide, by decide, rfl, by decide, rfl, by decide⟩, iwMod, wT_in 550 (by decide +kernel) rfl, rfl⟩
set_option maxRecDepth 100000 in
theorem GMod_offset : fdPut TMod 35 19 (.array .long) true := ⟨rfl, tyMod_ok 19 (by decide), ⟨tyMod, tyMod_ok⟩, nmMod⟩
set_option maxRecDepth 100000 in
theorem CMod_156 : cV RMod 156 RMod yMod_note cMod_note 6 none 4 := ⟨⟨wT_in 729 (by decide +kernel) rfl, wT_in 731 (by decide +kernel) rfl, wT_in 21 (by decide +kernel) rfl, wT_in 27 (by decide +kernel) rfl⟩, wT_in 732 rfl rfl, by decide +kernel⟩
set_option maxRecDepth 100000 in
theorem CMod_152 : cV RMod 152 RMod yMod_goOn cMod_goOn 10 (some .boolean) 2 := ⟨⟨wT_in 724 (by decide +kernel) rfl, wT_in 726 (by decide +kernel) rfl, wT_in 20 (by decide +kernel) rfl, wT_in 27 (by decide +kernel) rfl⟩, wT_in 727 rfl rfl, by decide +kernel⟩
set_option maxRecDepth 100000 in
theorem CMod_160 : cV RMod 160 RMod yMod_tableGoes cMod_tableGoes 5 (some .int) 1 := ⟨⟨wT_in 720 (by decide +kernel) rfl, wT_in 722 (by decide +kernel) rfl, wT_in 19 (by decide +kernel) rfl, wT_in 27 (by decide +kernel) rfl⟩, wT_in 723 rfl rfl, by decide +kernel⟩
set_option maxRecDepth 100000 in
theorem FMod_60 : fdOk RMod RMod RMod TMod 35 60 9 20 2 38 := ⟨⟨by decide, by decide, rfl, by decide, rfl, by decide⟩, iwMod, wT_in 551 (by decide +kernel) rfl, rfl⟩
set_option maxRecDepth 100000 in
theorem GMod_act : fdPut TMod 35 20 (.array .int) true := ⟨rfl, tyMod_ok 20 (by decide), ⟨tyMod, tyMod_ok⟩, nmMod⟩
set_option maxRecDepth 100000 in
theorem CMod_164 : cV RMod 164 RMod yMod_byAct cMod_byAct 2 none 1 := ⟨⟨wT_in 733 (by decide +kernel) rfl, wT_in 735 (by decide +kernel) rfl, wT_in 22 (by decide +kernel) rfl, wT_in 27 (by decide +kernel) rfl⟩, wT_in 736 rfl rfl, by decide +kernel⟩
set_option maxRecDepth 100000 in
theorem FMod_33 : fdOk RMod RMod RMod TMod 35 33 9 10 2 29 := ⟨⟨by decide, by decide, rfl, by decide, rfl, by decide⟩, iwMod, wT_in 541 (by decide +kernel) rfl, rfl⟩
set_option maxRecDepth 100000 in
theorem GMod_alarmAct : fdPut TMod 35 10 (.array .int) true := ⟨rfl, tyMod_ok 10 (by decide), ⟨tyMod, tyMod_ok⟩, nmMod⟩
set_option maxRecDepth 100000 in
theorem FMod_36 : fdOk RMod RMod RMod TMod 35 36 9 11 2 30 := ⟨⟨by decide, by decide, rfl, by decide, rfl, by decide⟩, iwMod, wT_in 542 (by decide +kernel) rfl, rfl⟩
set_option maxRecDepth 100000 in
theorem GMod_alarmOf : fdPut TMod 35 11 (.array .int) true := ⟨rfl, tyMod_ok 11 (by decide), ⟨tyMod, tyMod_ok⟩, nmMod⟩
