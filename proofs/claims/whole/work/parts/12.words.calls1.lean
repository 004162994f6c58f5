set_option maxRecDepth 100000 in
theorem OPage_3 : Cond.methodLink RPage 3 objectInit ∈ wT ∧ Cond.instanceMethod objectInit ∈ wT ∧ Cond.code objectInit ⟨#[0xb1]⟩ 1 none ∈ wT := ⟨wT_in 343 (by decide +kernel) rfl, wT_in 45 (by decide +kernel) rfl, wT_in 46 rfl rfl⟩
set_option maxRecDepth 100000 in
theorem NI_int : Cond.arrayClass (newarray.typeOf .int) ∈ wT := wT_in 349 (by decide +kernel) rfl
set_option maxRecDepth 100000 in
theorem iwPage : ∀ w ∈ u_ws RPage TPage 1, w ∈ wT := by decide +kernel
set_option maxRecDepth 100000 in
theorem FPage_9 : fdOk RPage RPage RPage TPage 1 9 5 0 2 10 := ⟨⟨by decide, by decide, rfl, by decide, rfl, by decide⟩, iwPage, wT_in 344 (by decide +kernel) rfl, rfl⟩
set_option maxRecDepth 100000 in
theorem GPage_cells : fdPut TPage 1 0 (.array .int) true := ⟨rfl, tyPage_ok 0 (by decide), ⟨tyPage, tyPage_ok⟩, nmPage⟩
set_option maxRecDepth 100000 in
theorem ONotes_3 : Cond.methodLink RNotes 3 objectInit ∈ wT ∧ Cond.instanceMethod objectInit ∈ wT ∧ Cond.code objectInit ⟨#[0xb1]⟩ 1 none ∈ wT := ⟨wT_in 58 (by decide +kernel) rfl, wT_in 45 (by decide +kernel) rfl, wT_in 46 rfl rfl⟩
set_option maxRecDepth 100000 in
theorem NANotes_9 : Cond.classLink RNotes 9 RPage ∈ wT ∧ ∀ s, NX s → va_AO RPage s := ⟨wT_in 59 (by decide +kernel) rfl, fun _ h => h.2.2.2.2.2⟩
set_option maxRecDepth 100000 in
theorem iwNotes : ∀ w ∈ u_ws RNotes TNotes 3, w ∈ wT := by decide +kernel
set_option maxRecDepth 100000 in
theorem FNotes_11 : fdOk RNotes RNotes RNotes TNotes 3 11 4 0 2 9 := ⟨⟨by decide, by decide, rfl, by decide, rfl, by decide⟩, iwNotes, wT_in 61 (by decide +kernel) rfl, rfl⟩
set_option maxRecDepth 100000 in
theorem GNotes_pages : fdPut TNotes 3 0 (.array (.object "AlarmTables$Page")) true := ⟨rfl, tyNotes_ok 0 (by decide), ⟨tyNotes, tyNotes_ok⟩, nmNotes⟩
set_option maxRecDepth 100000 in
theorem FNotes_21 : fdOk RNotes RNotes RNotes TNotes 3 21 4 1 0 4 := ⟨⟨by decide, by decide, rfl, by decide, rfl, by decide⟩, iwNotes, wT_in 62 (by decide +kernel) rfl, rfl⟩
set_option maxRecDepth 100000 in
theorem GNotes_kept : fdPut TNotes 3 1 (.int) false := ⟨rfl, tyNotes_ok 1 (by decide), ⟨tyNotes, tyNotes_ok⟩, nmNotes⟩
set_option maxRecDepth 100000 in
theorem iwAT : ∀ w ∈ u_ws RAT TAT 8, w ∈ wT := by decide +kernel
set_option maxRecDepth 100000 in
theorem FAT_38 : fdOk RAT RAT RAT TAT 8 38 8 4 0 10 := ⟨⟨by decide, by decide, rfl, by decide, rfl, by decide⟩, iwAT, wT_in 76 (by decide +kernel) rfl, rfl⟩
set_option maxRecDepth 100000 in
theorem GAT_counterCount : fdPut TAT 8 4 (.int) false := ⟨rfl, tyAT_ok 4 (by decide), ⟨tyAT, tyAT_ok⟩, nmAT⟩
set_option maxRecDepth 100000 in
theorem FAT_11 : fdOk RAT RAT RAT TAT 8 11 8 0 2 18 := ⟨⟨by decide, by decide, rfl, by decide, rfl, by decide⟩, iwAT, wT_in 72 (by decide +kernel) rfl, rfl⟩
set_option maxRecDepth 100000 in
theorem GAT_counters : fdPut TAT 8 0 (.array (.object "AlarmTables$Counter")) true := ⟨rfl, tyAT_ok 0 (by decide), ⟨tyAT, tyAT_ok⟩, nmAT⟩
set_option maxRecDepth 100000 in
theorem FAT_64 : fdOk RAT RAT RAT TAT 8 64 8 5 0 11 := ⟨⟨by decide, by decide, rfl, by decide, rfl, by decide⟩, iwAT, wT_in 77 (by decide +kernel) rfl, rfl⟩
set_option maxRecDepth 100000 in
theorem GAT_alarmCount : fdPut TAT 8 5 (.int) false := ⟨rfl, tyAT_ok 5 (by decide), ⟨tyAT, tyAT_ok⟩, nmAT⟩
set_option maxRecDepth 100000 in
theorem FAT_17 : fdOk RAT RAT RAT TAT 8 17 8 1 2 19 := ⟨⟨by decide, by decide, rfl, by decide, rfl, by decide⟩, iwAT, wT_in 73 (by decide +kernel) rfl, rfl⟩
set_option maxRecDepth 100000 in
theorem GAT_alarms : fdPut TAT 8 1 (.array (.object "AlarmTables$Alarm")) true := ⟨rfl, tyAT_ok 1 (by decide), ⟨tyAT, tyAT_ok⟩, nmAT⟩
set_option maxRecDepth 100000 in
theorem FAT_114 : fdOk RAT RAT RAT TAT 8 114 8 6 0 12 := ⟨⟨by decide, by decide, rfl, by decide, rfl, by decide⟩, iwAT, wT_in 78 (by decide +kernel) rfl, rfl⟩
set_option maxRecDepth 100000 in
theorem GAT_tableCount : fdPut TAT 8 6 (.int) false := ⟨rfl, tyAT_ok 6 (by decide), ⟨tyAT, tyAT_ok⟩, nmAT⟩
set_option maxRecDepth 100000 in
theorem FAT_23 : fdOk RAT RAT RAT TAT 8 23 8 2 2 20 := ⟨⟨by decide, by decide, rfl, by decide, rfl, by decide⟩, iwAT, wT_in 74 (by decide +kernel) rfl, rfl⟩
set_option maxRecDepth 100000 in
theorem GAT_tables : fdPut TAT 8 2 (.array (.object "AlarmTables$Table")) true := ⟨rfl, tyAT_ok 2 (by decide), ⟨tyAT, tyAT_ok⟩, nmAT⟩
set_option maxRecDepth 100000 in
theorem FAT_200 : fdOk RAT RCounter RCounter TCounter 12 200 3 7 0 3 := ⟨⟨by decide, by decide, rfl, by decide, rfl, by decide⟩, iwCounter, wT_in 493 (by decide +kernel) rfl, rfl⟩
set_option maxRecDepth 100000 in
theorem GCounter_leadsTo : fdPut TCounter 12 7 (.int) false := ⟨rfl, tyCounter_ok 7 (by decide), ⟨tyCounter, tyCounter_ok⟩, nmCounter⟩
set_option maxRecDepth 100000 in
theorem FAT_203 : fdOk RAT RCounter RCounter TCounter 12 203 3 0 0 2 := ⟨⟨by decide, by decide, rfl, by decide, rfl, by decide⟩, iwCounter, wT_in 479 (by decide +kernel) rfl, rfl⟩
set_option maxRecDepth 100000 in
theorem CAT_67 : cV RAT 67 RAT yAT_findAlarm cAT_findAlarm 2 (some (.object "AlarmTables$Alarm")) 1 := ⟨⟨wT_in 109 (by decide +kernel) rfl, wT_in 111 (by decide +kernel) rfl, wT_in 2 (by decide +kernel) rfl, wT_in 25 (by decide +kernel) rfl⟩, wT_in 112 rfl rfl, by decide +kernel⟩
set_option maxRecDepth 100000 in
theorem FAT_87 : fdOk RAT RAlarm RAlarm TAlarm 7 87 2 3 0 1 := ⟨⟨by decide, by decide, rfl, by decide, rfl, by decide⟩, iwAlarm, wT_in 142 (by decide +kernel) rfl, rfl⟩
set_option maxRecDepth 100000 in
theorem GAlarm_isSet : fdPut TAlarm 7 3 (.boolean) false := ⟨rfl, tyAlarm_ok 3 (by decide), ⟨tyAlarm, tyAlarm_ok⟩, nmAlarm⟩
set_option maxRecDepth 100000 in
theorem FAT_91 : fdOk RAT RAlarm RAlarm TAlarm 7 91 2 1 2 2 := ⟨⟨by decide, by decide, rfl, by decide, rfl, by decide⟩, iwAlarm, wT_in 139 (by decide +kernel) rfl, rfl⟩
set_option maxRecDepth 100000 in
theorem FAT_95 : fdOk RAT RCounter RCounter TCounter 12 95 3 1 1 2 := ⟨⟨by decide, by decide, rfl, by decide, rfl, by decide⟩, iwCounter, wT_in 481 (by decide +kernel) rfl, rfl⟩
set_option maxRecDepth 100000 in
theorem FAT_101 : fdOk RAT RAlarm RAlarm TAlarm 7 101 2 5 1 1 := ⟨⟨by decide, by decide, rfl, by decide, rfl, by decide⟩, iwAlarm, wT_in 145 (by decide +kernel) rfl, rfl⟩
set_option maxRecDepth 100000 in
theorem GAlarm_cycle : fdPut TAlarm 7 5 (.long) false := ⟨rfl, tyAlarm_ok 5 (by decide), ⟨tyAlarm, tyAlarm_ok⟩, nmAlarm⟩
set_option maxRecDepth 100000 in
theorem CAT_108 : cV RAT 108 RAlarm yAlarm_becomeDue cAlarm_becomeDue 3 none 1 := ⟨⟨wT_in 180 (by decide +kernel) rfl, wT_in 181 (by decide +kernel) rfl, wT_in 182 (by decide +kernel) rfl, wT_in 33 (by decide +kernel) rfl⟩, wT_in 183 rfl rfl, by decide +kernel⟩
set_option maxRecDepth 100000 in
theorem CAT_104 : cV RAT 104 RCounter yCounter_stepsUntil cCounter_stepsUntil 5 (some .long) 1 := ⟨⟨wT_in 176 (by decide +kernel) rfl, wT_in 177 (by decide +kernel) rfl, wT_in 178 (by decide +kernel) rfl, wT_in 32 (by decide +kernel) rfl⟩, wT_in 179 rfl rfl, by decide +kernel⟩
set_option maxRecDepth 100000 in
theorem QAT_99 : Cond.constantLong RAT 99 2 ∈ wT := wT_in 175 (by decide +kernel) rfl
set_option maxRecDepth 100000 in
theorem CAT_124 : cV RAT 124 RAT yAT_findTable cAT_findTable 2 (some (.object "AlarmTables$Table")) 1 := ⟨⟨wT_in 261 (by decide +kernel) rfl, wT_in 263 (by decide +kernel) rfl, wT_in 4 (by decide +kernel) rfl, wT_in 25 (by decide +kernel) rfl⟩, wT_in 264 rfl rfl, by decide +kernel⟩
set_option maxRecDepth 100000 in
theorem FAT_131 : fdOk RAT RTable RTable TTable 12 131 7 5 0 8 := ⟨⟨by decide, by decide, rfl, by decide, rfl, by decide⟩, iwTable, wT_in 216 (by decide +kernel) rfl, rfl⟩
set_option maxRecDepth 100000 in
theorem QAT_112 : Cond.constantLong RAT 112 1000000 ∈ wT := wT_in 199 (by decide +kernel) rfl
set_option maxRecDepth 100000 in
theorem FAT_151 : fdOk RAT RTable RTable TTable 12 151 7 9 1 11 := ⟨⟨by decide, by decide, rfl, by decide, rfl, by decide⟩, iwTable, wT_in 224 (by decide +kernel) rfl, rfl⟩
set_option maxRecDepth 100000 in
theorem FAT_138 : fdOk RAT RTable RTable TTable 12 138 7 1 2 13 := ⟨⟨by decide, by decide, rfl, by decide, rfl, by decide⟩, iwTable, wT_in 208 (by decide +kernel) rfl, rfl⟩
set_option maxRecDepth 100000 in
theorem FAT_154 : fdOk RAT RCounter RCounter TCounter 12 154 3 5 1 6 := ⟨⟨by decide, by decide, rfl, by decide, rfl, by decide⟩, iwCounter, wT_in 490 (by decide +kernel) rfl, rfl⟩
set_option maxRecDepth 100000 in
theorem CAT_157 : cV RAT 157 RTable yTable_runFrom cTable_runFrom 3 none 1 := ⟨⟨wT_in 301 (by decide +kernel) rfl, wT_in 302 (by decide +kernel) rfl, wT_in 303 (by decide +kernel) rfl, wT_in 36 (by decide +kernel) rfl⟩, wT_in 304 rfl rfl, by decide +kernel⟩
set_option maxRecDepth 100000 in
theorem FAT_160 : fdOk RAT RTable RTable TTable 12 160 7 7 1 10 := ⟨⟨by decide, by decide, rfl, by decide, rfl, by decide⟩, iwTable, wT_in 220 (by decide +kernel) rfl, rfl⟩
set_option maxRecDepth 100000 in
theorem CAT_163 : cV RAT 163 RCounter yCounter_wakeAt cCounter_wakeAt 3 none 1 := ⟨⟨wT_in 305 (by decide +kernel) rfl, wT_in 185 (by decide +kernel) rfl, wT_in 186 (by decide +kernel) rfl, wT_in 32 (by decide +kernel) rfl⟩, wT_in 187 rfl rfl, by decide +kernel⟩
set_option maxRecDepth 100000 in
theorem FAT_166 : fdOk RAT RTable RTable TTable 12 166 7 10 2 16 := ⟨⟨by decide, by decide, rfl, by decide, rfl, by decide⟩, iwTable, wT_in 225 (by decide +kernel) rfl, rfl⟩
set_option maxRecDepth 100000 in
theorem GTable_told : fdPut TTable 12 10 (.object "AlarmTables$Table") false := ⟨rfl, tyTable_ok 10 (by decide), ⟨tyTable, tyTable_ok⟩, nmTable⟩
set_option maxRecDepth 100000 in
theorem QAT_170 : Cond.constantLong RAT 170 (-1000) ∈ wT := wT_in 314 (by decide +kernel) rfl
set_option maxRecDepth 100000 in
theorem QAT_36 : Cond.constantLong RAT 36 1000 ∈ wT := wT_in 315 (by decide +kernel) rfl
