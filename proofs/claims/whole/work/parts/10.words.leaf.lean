set_option maxRecDepth 100000 in
theorem OCounter_3 : Cond.methodLink RCounter 3 objectInit ∈ wT ∧ Cond.instanceMethod objectInit ∈ wT ∧ Cond.code objectInit ⟨#[0xb1]⟩ 1 none ∈ wT := ⟨wT_in 476 (by decide +kernel) rfl, wT_in 45 (by decide +kernel) rfl, wT_in 46 rfl rfl⟩
set_option maxRecDepth 100000 in
theorem QCounter_9 : Cond.constantLong RCounter 9 9223372036854775807 ∈ wT := wT_in 477 (by decide +kernel) rfl
set_option maxRecDepth 100000 in
theorem iwCounter : ∀ w ∈ u_ws RCounter TCounter 12, w ∈ wT := by decide +kernel
set_option maxRecDepth 100000 in
theorem FCounter_11 : fdOk RCounter RCounter RCounter TCounter 12 11 3 6 1 7 := ⟨⟨by decide, by decide, rfl, by decide, rfl, by decide⟩, iwCounter, wT_in 491 (by decide +kernel) rfl, rfl⟩
set_option maxRecDepth 100000 in
theorem GCounter_wake : fdPut TCounter 12 6 (.long) false := ⟨rfl, tyCounter_ok 6 (by decide), ⟨tyCounter, tyCounter_ok⟩, nmCounter⟩
set_option maxRecDepth 100000 in
theorem FCounter_17 : fdOk RCounter RCounter RCounter TCounter 12 17 3 0 0 2 := ⟨⟨by decide, by decide, rfl, by decide, rfl, by decide⟩, iwCounter, wT_in 478 (by decide +kernel) rfl, rfl⟩
set_option maxRecDepth 100000 in
theorem GCounter_bit : fdPut TCounter 12 0 (.int) true := ⟨rfl, tyCounter_ok 0 (by decide), ⟨tyCounter, tyCounter_ok⟩, nmCounter⟩
set_option maxRecDepth 100000 in
theorem FCounter_21 : fdOk RCounter RCounter RCounter TCounter 12 21 3 1 1 2 := ⟨⟨by decide, by decide, rfl, by decide, rfl, by decide⟩, iwCounter, wT_in 480 (by decide +kernel) rfl, rfl⟩
set_option maxRecDepth 100000 in
theorem GCounter_base : fdPut TCounter 12 1 (.long) true := ⟨rfl, tyCounter_ok 1 (by decide), ⟨tyCounter, tyCounter_ok⟩, nmCounter⟩
set_option maxRecDepth 100000 in
theorem FCounter_24 : fdOk RCounter RCounter RCounter TCounter 12 24 3 2 1 3 := ⟨⟨by decide, by decide, rfl, by decide, rfl, by decide⟩, iwCounter, wT_in 482 (by decide +kernel) rfl, rfl⟩
set_option maxRecDepth 100000 in
theorem GCounter_ticksAStep : fdPut TCounter 12 2 (.long) true := ⟨rfl, tyCounter_ok 2 (by decide), ⟨tyCounter, tyCounter_ok⟩, nmCounter⟩
set_option maxRecDepth 100000 in
theorem MCounter_27 : Cond.methodLink RCounter 27 Lib.MathLoose.min_long.x ∈ wT ∧ Cond.static Lib.MathLoose.min_long.x ∈ wT ∧ Cond.initialized "java/lang/Math" ∈ wT ∧ Cond.code Lib.MathLoose.min_long.x Lib.MathLoose.min_long.code 4 (some .long) ∈ wT := ⟨wT_in 188 (by decide +kernel) rfl, wT_in 189 (by decide +kernel) rfl, wT_in 35 (by decide +kernel) rfl, wT_in 190 rfl rfl⟩
set_option maxRecDepth 100000 in
theorem FCounter_33 : fdOk RCounter RCounter RCounter TCounter 12 33 3 5 1 6 := ⟨⟨by decide, by decide, rfl, by decide, rfl, by decide⟩, iwCounter, wT_in 488 (by decide +kernel) rfl, rfl⟩
set_option maxRecDepth 100000 in
theorem GCounter_steps : fdPut TCounter 12 5 (.long) false := ⟨rfl, tyCounter_ok 5 (by decide), ⟨tyCounter, tyCounter_ok⟩, nmCounter⟩
set_option maxRecDepth 100000 in
theorem FCounter_36 : fdOk RCounter RCounter RCounter TCounter 12 36 3 4 1 5 := ⟨⟨by decide, by decide, rfl, by decide, rfl, by decide⟩, iwCounter, wT_in 485 (by decide +kernel) rfl, rfl⟩
set_option maxRecDepth 100000 in
theorem GCounter_value : fdPut TCounter 12 4 (.long) false := ⟨rfl, tyCounter_ok 4 (by decide), ⟨tyCounter, tyCounter_ok⟩, nmCounter⟩
set_option maxRecDepth 100000 in
theorem OAct_1 : Cond.methodLink RAct 1 objectInit ∈ wT ∧ Cond.instanceMethod objectInit ∈ wT ∧ Cond.code objectInit ⟨#[0xb1]⟩ 1 none ∈ wT := ⟨wT_in 122 (by decide +kernel) rfl, wT_in 45 (by decide +kernel) rfl, wT_in 46 rfl rfl⟩
set_option maxRecDepth 100000 in
theorem iwAct : ∀ w ∈ u_ws RAct TAct 2, w ∈ wT := by decide +kernel
set_option maxRecDepth 100000 in
theorem FAct_7 : fdOk RAct RAct RAct TAct 2 7 1 0 2 0 := ⟨⟨by decide, by decide, rfl, by decide, rfl, by decide⟩, iwAct, wT_in 123 (by decide +kernel) rfl, rfl⟩
set_option maxRecDepth 100000 in
theorem GAct_stepped : fdPut TAct 2 0 (.object "AlarmTables$Counter") true := ⟨rfl, tyAct_ok 0 (by decide), ⟨tyAct, tyAct_ok⟩, nmAct⟩
set_option maxRecDepth 100000 in
theorem FAct_13 : fdOk RAct RAct RAct TAct 2 13 1 1 2 1 := ⟨⟨by decide, by decide, rfl, by decide, rfl, by decide⟩, iwAct, wT_in 125 (by decide +kernel) rfl, rfl⟩
set_option maxRecDepth 100000 in
theorem GAct_cancelled : fdPut TAct 2 1 (.object "AlarmTables$Alarm") true := ⟨rfl, tyAct_ok 1 (by decide), ⟨tyAct, tyAct_ok⟩, nmAct⟩
set_option maxRecDepth 100000 in
theorem FCounter_39 : fdOk RCounter RCounter RCounter TCounter 12 39 3 9 2 6 := ⟨⟨by decide, by decide, rfl, by decide, rfl, by decide⟩, iwCounter, wT_in 496 (by decide +kernel) rfl, rfl⟩
set_option maxRecDepth 100000 in
theorem GCounter_lastAlarm : fdPut TCounter 12 9 (.object "AlarmTables$Alarm") false := ⟨rfl, tyCounter_ok 9 (by decide), ⟨tyCounter, tyCounter_ok⟩, nmCounter⟩
set_option maxRecDepth 100000 in
theorem FCounter_43 : fdOk RCounter RCounter RCounter TCounter 12 43 3 8 2 5 := ⟨⟨by decide, by decide, rfl, by decide, rfl, by decide⟩, iwCounter, wT_in 494 (by decide +kernel) rfl, rfl⟩
set_option maxRecDepth 100000 in
theorem GCounter_firstAlarm : fdPut TCounter 12 8 (.object "AlarmTables$Alarm") false := ⟨rfl, tyCounter_ok 8 (by decide), ⟨tyCounter, tyCounter_ok⟩, nmCounter⟩
set_option maxRecDepth 100000 in
theorem iwAlarm : ∀ w ∈ u_ws RAlarm TAlarm 7, w ∈ wT := by decide +kernel
set_option maxRecDepth 100000 in
theorem FCounter_46 : fdOk RCounter RAlarm RAlarm TAlarm 7 46 2 6 2 4 := ⟨⟨by decide, by decide, rfl, by decide, rfl, by decide⟩, iwAlarm, wT_in 146 (by decide +kernel) rfl, rfl⟩
set_option maxRecDepth 100000 in
theorem GAlarm_behind : fdPut TAlarm 7 6 (.object "AlarmTables$Alarm") false := ⟨rfl, tyAlarm_ok 6 (by decide), ⟨tyAlarm, tyAlarm_ok⟩, nmAlarm⟩
set_option maxRecDepth 100000 in
theorem FCounter_51 : fdOk RCounter RCounter RCounter TCounter 12 51 3 11 2 8 := ⟨⟨by decide, by decide, rfl, by decide, rfl, by decide⟩, iwCounter, wT_in 499 (by decide +kernel) rfl, rfl⟩
set_option maxRecDepth 100000 in
theorem GCounter_lastTable : fdPut TCounter 12 11 (.object "AlarmTables$Table") false := ⟨rfl, tyCounter_ok 11 (by decide), ⟨tyCounter, tyCounter_ok⟩, nmCounter⟩
set_option maxRecDepth 100000 in
theorem FCounter_55 : fdOk RCounter RCounter RCounter TCounter 12 55 3 10 2 7 := ⟨⟨by decide, by decide, rfl, by decide, rfl, by decide⟩, iwCounter, wT_in 497 (by decide +kernel) rfl, rfl⟩
set_option maxRecDepth 100000 in
theorem GCounter_firstTable : fdPut TCounter 12 10 (.object "AlarmTables$Table") false := ⟨rfl, tyCounter_ok 10 (by decide), ⟨tyCounter, tyCounter_ok⟩, nmCounter⟩
set_option maxRecDepth 100000 in
theorem iwTable : ∀ w ∈ u_ws RTable TTable 12, w ∈ wT := by decide +kernel
set_option maxRecDepth 100000 in
theorem FCounter_58 : fdOk RCounter RTable RTable TTable 12 58 7 11 2 17 := ⟨⟨by decide, by decide, rfl, by decide, rfl, by decide⟩, iwTable, wT_in 226 (by decide +kernel) rfl, rfl⟩
set_option maxRecDepth 100000 in
theorem GTable_behind : fdPut TTable 12 11 (.object "AlarmTables$Table") false := ⟨rfl, tyTable_ok 11 (by decide), ⟨tyTable, tyTable_ok⟩, nmTable⟩
set_option maxRecDepth 100000 in
theorem OAlarm_1 : Cond.methodLink RAlarm 1 objectInit ∈ wT ∧ Cond.instanceMethod objectInit ∈ wT ∧ Cond.code objectInit ⟨#[0xb1]⟩ 1 none ∈ wT := ⟨wT_in 135 (by decide +kernel) rfl, wT_in 45 (by decide +kernel) rfl, wT_in 46 rfl rfl⟩
set_option maxRecDepth 100000 in
theorem FAlarm_7 : fdOk RAlarm RAlarm RAlarm TAlarm 7 7 2 0 0 0 := ⟨⟨by decide, by decide, rfl, by decide, rfl, by decide⟩, iwAlarm, wT_in 136 (by decide +kernel) rfl, rfl⟩
set_option maxRecDepth 100000 in
theorem GAlarm_number : fdPut TAlarm 7 0 (.int) true := ⟨rfl, tyAlarm_ok 0 (by decide), ⟨tyAlarm, tyAlarm_ok⟩, nmAlarm⟩
set_option maxRecDepth 100000 in
theorem FAlarm_13 : fdOk RAlarm RAlarm RAlarm TAlarm 7 13 2 1 2 2 := ⟨⟨by decide, by decide, rfl, by decide, rfl, by decide⟩, iwAlarm, wT_in 138 (by decide +kernel) rfl, rfl⟩
set_option maxRecDepth 100000 in
theorem GAlarm_counter : fdPut TAlarm 7 1 (.object "AlarmTables$Counter") true := ⟨rfl, tyAlarm_ok 1 (by decide), ⟨tyAlarm, tyAlarm_ok⟩, nmAlarm⟩
set_option maxRecDepth 100000 in
theorem FAlarm_17 : fdOk RAlarm RAlarm RAlarm TAlarm 7 17 2 2 2 3 := ⟨⟨by decide, by decide, rfl, by decide, rfl, by decide⟩, iwAlarm, wT_in 140 (by decide +kernel) rfl, rfl⟩
set_option maxRecDepth 100000 in
theorem GAlarm_act : fdPut TAlarm 7 2 (.object "AlarmTables$Act") true := ⟨rfl, tyAlarm_ok 2 (by decide), ⟨tyAlarm, tyAlarm_ok⟩, nmAlarm⟩
set_option maxRecDepth 100000 in
theorem FAlarm_21 : fdOk RAlarm RCounter RCounter TCounter 12 21 3 5 1 6 := ⟨⟨by decide, by decide, rfl, by decide, rfl, by decide⟩, iwCounter, wT_in 487 (by decide +kernel) rfl, rfl⟩
set_option maxRecDepth 100000 in
theorem FAlarm_27 : fdOk RAlarm RAlarm RAlarm TAlarm 7 27 2 4 1 0 := ⟨⟨by decide, by decide, rfl, by decide, rfl, by decide⟩, iwAlarm, wT_in 143 (by decide +kernel) rfl, rfl⟩
set_option maxRecDepth 100000 in
theorem GAlarm_due : fdPut TAlarm 7 4 (.long) false := ⟨rfl, tyAlarm_ok 4 (by decide), ⟨tyAlarm, tyAlarm_ok⟩, nmAlarm⟩
set_option maxRecDepth 100000 in
theorem CAlarm_30 : cV RAlarm 30 RCounter yCounter_wakeAt cCounter_wakeAt 3 none 1 := ⟨⟨wT_in 184 (by decide +kernel) rfl, wT_in 185 (by decide +kernel) rfl, wT_in 186 (by decide +kernel) rfl, wT_in 32 (by decide +kernel) rfl⟩, wT_in 187 rfl rfl, by decide +kernel⟩
set_option maxRecDepth 100000 in
theorem OPoint_1 : Cond.methodLink RPoint 1 objectInit ∈ wT ∧ Cond.instanceMethod objectInit ∈ wT ∧ Cond.code objectInit ⟨#[0xb1]⟩ 1 none ∈ wT := ⟨wT_in 278 (by decide +kernel) rfl, wT_in 45 (by decide +kernel) rfl, wT_in 46 rfl rfl⟩
set_option maxRecDepth 100000 in
theorem iwPoint : ∀ w ∈ u_ws RPoint TPoint 3, w ∈ wT := by decide +kernel
set_option maxRecDepth 100000 in
theorem FPoint_7 : fdOk RPoint RPoint RPoint TPoint 3 7 6 0 1 8 := ⟨⟨by decide, by decide, rfl, by decide, rfl, by decide⟩, iwPoint, wT_in 279 (by decide +kernel) rfl, rfl⟩
set_option maxRecDepth 100000 in
theorem GPoint_offset : fdPut TPoint 3 0 (.long) true := ⟨rfl, tyPoint_ok 0 (by decide), ⟨tyPoint, tyPoint_ok⟩, nmPoint⟩
set_option maxRecDepth 100000 in
theorem FPoint_13 : fdOk RPoint RPoint RPoint TPoint 3 13 6 1 2 11 := ⟨⟨by decide, by decide, rfl, by decide, rfl, by decide⟩, iwPoint, wT_in 282 (by decide +kernel) rfl, rfl⟩
set_option maxRecDepth 100000 in
theorem GPoint_act : fdPut TPoint 3 1 (.object "AlarmTables$Act") true := ⟨rfl, tyPoint_ok 1 (by decide), ⟨tyPoint, tyPoint_ok⟩, nmPoint⟩
set_option maxRecDepth 100000 in
theorem OTable_3 : Cond.methodLink RTable 3 objectInit ∈ wT ∧ Cond.instanceMethod objectInit ∈ wT ∧ Cond.code objectInit ⟨#[0xb1]⟩ 1 none ∈ wT := ⟨wT_in 204 (by decide +kernel) rfl, wT_in 45 (by decide +kernel) rfl, wT_in 46 rfl rfl⟩
set_option maxRecDepth 100000 in
theorem FTable_9 : fdOk RTable RTable RTable TTable 12 9 7 0 0 6 := ⟨⟨by decide, by decide, rfl, by decide, rfl, by decide⟩, iwTable, wT_in 205 (by decide +kernel) rfl, rfl⟩
set_option maxRecDepth 100000 in
theorem GTable_number : fdPut TTable 12 0 (.int) true := ⟨rfl, tyTable_ok 0 (by decide), ⟨tyTable, tyTable_ok⟩, nmTable⟩
set_option maxRecDepth 100000 in
theorem FTable_15 : fdOk RTable RTable RTable TTable 12 15 7 1 2 13 := ⟨⟨by decide, by decide, rfl, by decide, rfl, by decide⟩, iwTable, wT_in 207 (by decide +kernel) rfl, rfl⟩
set_option maxRecDepth 100000 in
theorem GTable_counter : fdPut TTable 12 1 (.object "AlarmTables$Counter") true := ⟨rfl, tyTable_ok 1 (by decide), ⟨tyTable, tyTable_ok⟩, nmTable⟩
set_option maxRecDepth 100000 in
theorem FTable_19 : fdOk RTable RTable RTable TTable 12 19 7 2 1 9 := ⟨⟨by decide, by decide, rfl, by decide, rfl, by decide⟩, iwTable, wT_in 209 (by decide +kernel) rfl, rfl⟩
set_option maxRecDepth 100000 in
theorem GTable_length : fdPut TTable 12 2 (.long) true := ⟨rfl, tyTable_ok 2 (by decide), ⟨tyTable, tyTable_ok⟩, nmTable⟩
set_option maxRecDepth 100000 in
theorem FTable_42 : fdOk RTable RTable RTable TTable 12 42 7 5 0 8 := ⟨⟨by decide, by decide, rfl, by decide, rfl, by decide⟩, iwTable, wT_in 215 (by decide +kernel) rfl, rfl⟩
set_option maxRecDepth 100000 in
theorem GTable_runs : fdPut TTable 12 5 (.boolean) false := ⟨rfl, tyTable_ok 5 (by decide), ⟨tyTable, tyTable_ok⟩, nmTable⟩
set_option maxRecDepth 100000 in
theorem FTable_46 : fdOk RTable RTable RTable TTable 12 46 7 6 0 9 := ⟨⟨by decide, by decide, rfl, by decide, rfl, by decide⟩, iwTable, wT_in 217 (by decide +kernel) rfl, rfl⟩
set_option maxRecDepth 100000 in
theorem GTable_begun : fdPut TTable 12 6 (.boolean) false := ⟨rfl, tyTable_ok 6 (by decide), ⟨tyTable, tyTable_ok⟩, nmTable⟩
set_option maxRecDepth 100000 in
theorem FTable_49 : fdOk RTable RTable RTable TTable 12 49 7 7 1 10 := ⟨⟨by decide, by decide, rfl, by decide, rfl, by decide⟩, iwTable, wT_in 219 (by decide +kernel) rfl, rfl⟩
set_option maxRecDepth 100000 in
theorem GTable_due : fdPut TTable 12 7 (.long) false := ⟨rfl, tyTable_ok 7 (by decide), ⟨tyTable, tyTable_ok⟩, nmTable⟩
set_option maxRecDepth 100000 in
theorem FTable_52 : fdOk RTable RTable RTable TTable 12 52 7 8 2 15 := ⟨⟨by decide, by decide, rfl, by decide, rfl, by decide⟩, iwTable, wT_in 221 (by decide +kernel) rfl, rfl⟩
set_option maxRecDepth 100000 in
theorem GTable_coming : fdPut TTable 12 8 (.object "AlarmTables$Point") false := ⟨rfl, tyTable_ok 8 (by decide), ⟨tyTable, tyTable_ok⟩, nmTable⟩
set_option maxRecDepth 100000 in
theorem FTable_55 : fdOk RTable RCounter RCounter TCounter 12 55 3 5 1 6 := ⟨⟨by decide, by decide, rfl, by decide, rfl, by decide⟩, iwCounter, wT_in 489 (by decide +kernel) rfl, rfl⟩
set_option maxRecDepth 100000 in
theorem FTable_60 : fdOk RTable RTable RTable TTable 12 60 7 9 1 11 := ⟨⟨by decide, by decide, rfl, by decide, rfl, by decide⟩, iwTable, wT_in 223 (by decide +kernel) rfl, rfl⟩
set_option maxRecDepth 100000 in
theorem GTable_drift : fdPut TTable 12 9 (.long) false := ⟨rfl, tyTable_ok 9 (by decide), ⟨tyTable, tyTable_ok⟩, nmTable⟩
set_option maxRecDepth 100000 in
theorem QTable_63 : Cond.constantLong RTable 63 2 ∈ wT := wT_in 370 (by decide +kernel) rfl
set_option maxRecDepth 100000 in
theorem MTable_65 : Cond.methodLink RTable 65 Lib.MathLoose.min_long.x ∈ wT ∧ Cond.static Lib.MathLoose.min_long.x ∈ wT ∧ Cond.initialized "java/lang/Math" ∈ wT ∧ Cond.code Lib.MathLoose.min_long.x Lib.MathLoose.min_long.code 4 (some .long) ∈ wT := ⟨wT_in 371 (by decide +kernel) rfl, wT_in 189 (by decide +kernel) rfl, wT_in 35 (by decide +kernel) rfl, wT_in 190 rfl rfl⟩
set_option maxRecDepth 100000 in
theorem QTable_71 : Cond.constantLong RTable 71 (-2) ∈ wT := wT_in 372 (by decide +kernel) rfl
set_option maxRecDepth 100000 in
theorem MTable_73 : Cond.methodLink RTable 73 Lib.MathLoose.max_long.x ∈ wT ∧ Cond.static Lib.MathLoose.max_long.x ∈ wT ∧ Cond.initialized "java/lang/Math" ∈ wT ∧ Cond.code Lib.MathLoose.max_long.x Lib.MathLoose.max_long.code 4 (some .long) ∈ wT := ⟨wT_in 373 (by decide +kernel) rfl, wT_in 374 (by decide +kernel) rfl, wT_in 35 (by decide +kernel) rfl, wT_in 375 rfl rfl⟩
set_option maxRecDepth 100000 in
theorem CTable_76 : cV RTable 76 RCounter yCounter_wakeAt cCounter_wakeAt 3 none 1 := ⟨⟨wT_in 376 (by decide +kernel) rfl, wT_in 185 (by decide +kernel) rfl, wT_in 186 (by decide +kernel) rfl, wT_in 32 (by decide +kernel) rfl⟩, wT_in 187 rfl rfl, by decide +kernel⟩
set_option maxRecDepth 100000 in
theorem FTable_27 : fdOk RTable RPoint RPoint TPoint 3 27 6 0 1 8 := ⟨⟨by decide, by decide, rfl, by decide, rfl, by decide⟩, iwPoint, wT_in 280 (by decide +kernel) rfl, rfl⟩
set_option maxRecDepth 100000 in
theorem FTable_32 : fdOk RTable RPoint RPoint TPoint 3 32 6 2 2 12 := ⟨⟨by decide, by decide, rfl, by decide, rfl, by decide⟩, iwPoint, wT_in 284 (by decide +kernel) rfl, rfl⟩
set_option maxRecDepth 100000 in
theorem GPoint_behind : fdPut TPoint 3 2 (.object "AlarmTables$Point") false := ⟨rfl, tyPoint_ok 2 (by decide), ⟨tyPoint, tyPoint_ok⟩, nmPoint⟩
set_option maxRecDepth 100000 in
theorem FTable_23 : fdOk RTable RTable RTable TTable 12 23 7 3 2 14 := ⟨⟨by decide, by decide, rfl, by decide, rfl, by decide⟩, iwTable, wT_in 211 (by decide +kernel) rfl, rfl⟩
set_option maxRecDepth 100000 in
theorem GTable_firstPoint : fdPut TTable 12 3 (.object "AlarmTables$Point") false := ⟨rfl, tyTable_ok 3 (by decide), ⟨tyTable, tyTable_ok⟩, nmTable⟩
