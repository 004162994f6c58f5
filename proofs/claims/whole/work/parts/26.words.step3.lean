set_option maxRecDepth 100000 in
theorem CAT_228 : cV RAT 228 RAT yAT_takeTableTurn cAT_takeTableTurn 5 none 2 := ⟨⟨wT_in 358 (by decide +kernel) rfl, wT_in 360 (by decide +kernel) rfl, wT_in 8 (by decide +kernel) rfl, wT_in 25 (by decide +kernel) rfl⟩, wT_in 361 rfl rfl, by decide +kernel⟩
set_option maxRecDepth 100000 in
theorem FAT_232 : fdOk RAT RTable RTable TTable 12 232 7 11 2 17 := ⟨⟨by decide, by decide, rfl, by decide, rfl, by decide⟩, iwTable, wT_in 227 (by decide +kernel) rfl, rfl⟩
set_option maxRecDepth 100000 in
theorem FAT_225 : fdOk RAT RCounter RCounter TCounter 12 225 3 10 2 7 := ⟨⟨by decide, by decide, rfl, by decide, rfl, by decide⟩, iwCounter, wT_in 498 (by decide +kernel) rfl, rfl⟩
set_option maxRecDepth 100000 in
theorem CAT_218 : cV RAT 218 RAT yAT_takeAlarmTurn cAT_takeAlarmTurn 3 none 2 := ⟨⟨wT_in 331 (by decide +kernel) rfl, wT_in 333 (by decide +kernel) rfl, wT_in 6 (by decide +kernel) rfl, wT_in 25 (by decide +kernel) rfl⟩, wT_in 334 rfl rfl, by decide +kernel⟩
set_option maxRecDepth 100000 in
theorem FAT_222 : fdOk RAT RAlarm RAlarm TAlarm 7 222 2 6 2 4 := ⟨⟨by decide, by decide, rfl, by decide, rfl, by decide⟩, iwAlarm, wT_in 147 (by decide +kernel) rfl, rfl⟩
set_option maxRecDepth 100000 in
theorem CAT_206 : cV RAT 206 RCounter yCounter_advance cCounter_advance 1 none 0 := ⟨⟨wT_in 326 (by decide +kernel) rfl, wT_in 327 (by decide +kernel) rfl, wT_in 328 (by decide +kernel) rfl, wT_in 32 (by decide +kernel) rfl⟩, wT_in 329 rfl rfl, by decide +kernel⟩
set_option maxRecDepth 100000 in
theorem FAT_209 : fdOk RAT RCounter RCounter TCounter 12 209 3 6 1 7 := ⟨⟨by decide, by decide, rfl, by decide, rfl, by decide⟩, iwCounter, wT_in 492 (by decide +kernel) rfl, rfl⟩
set_option maxRecDepth 100000 in
theorem QAT_212 : Cond.constantLong RAT 212 9223372036854775807 ∈ wT := wT_in 330 (by decide +kernel) rfl
set_option maxRecDepth 100000 in
theorem FAT_214 : fdOk RAT RCounter RCounter TCounter 12 214 3 8 2 5 := ⟨⟨by decide, by decide, rfl, by decide, rfl, by decide⟩, iwCounter, wT_in 495 (by decide +kernel) rfl, rfl⟩
