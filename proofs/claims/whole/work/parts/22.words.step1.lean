set_option maxRecDepth 100000 in
theorem FAT_282 : fdOk RAT RAct RAct TAct 2 282 1 1 2 1 := ⟨⟨by decide, by decide, rfl, by decide, rfl, by decide⟩, iwAct, wT_in 126 (by decide +kernel) rfl, rfl⟩
set_option maxRecDepth 100000 in
theorem FAT_285 : fdOk RAT RAct RAct TAct 2 285 1 0 2 0 := ⟨⟨by decide, by decide, rfl, by decide, rfl, by decide⟩, iwAct, wT_in 124 (by decide +kernel) rfl, rfl⟩
set_option maxRecDepth 100000 in
theorem FAT_185 : fdOk RAT RAT RAT TAT 8 185 8 7 0 13 := ⟨⟨by decide, by decide, rfl, by decide, rfl, by decide⟩, iwAT, wT_in 79 (by decide +kernel) rfl, rfl⟩
set_option maxRecDepth 100000 in
theorem GAT_actSteps : fdPut TAT 8 7 (.int) false := ⟨rfl, tyAT_ok 7 (by decide), ⟨tyAT, tyAT_ok⟩, nmAT⟩
set_option maxRecDepth 100000 in
theorem CAT_188 : cV RAT 188 RAT yAT_makeStep cAT_makeStep 4 none 2 := ⟨⟨wT_in 322 (by decide +kernel) rfl, wT_in 324 (by decide +kernel) rfl, wT_in 5 (by decide +kernel) rfl, wT_in 25 (by decide +kernel) rfl⟩, wT_in 325 rfl rfl, by decide +kernel⟩
set_option maxRecDepth 100000 in
theorem FAT_234 : fdOk RAT RAlarm RAlarm TAlarm 7 234 2 4 1 0 := ⟨⟨by decide, by decide, rfl, by decide, rfl, by decide⟩, iwAlarm, wT_in 144 (by decide +kernel) rfl, rfl⟩
set_option maxRecDepth 100000 in
theorem FAT_235 : fdOk RAT RAlarm RAlarm TAlarm 7 235 2 0 0 0 := ⟨⟨by decide, by decide, rfl, by decide, rfl, by decide⟩, iwAlarm, wT_in 137 (by decide +kernel) rfl, rfl⟩
set_option maxRecDepth 100000 in
theorem FAT_238 : fdOk RAT RCounter RCounter TCounter 12 238 3 4 1 5 := ⟨⟨by decide, by decide, rfl, by decide, rfl, by decide⟩, iwCounter, wT_in 486 (by decide +kernel) rfl, rfl⟩
set_option maxRecDepth 100000 in
theorem CAT_241 : cV RAT 241 RNotes yNotes_add cNotes_add 8 none 4 := ⟨⟨wT_in 335 (by decide +kernel) rfl, wT_in 336 (by decide +kernel) rfl, wT_in 337 (by decide +kernel) rfl, wT_in 26 (by decide +kernel) rfl⟩, wT_in 338 rfl rfl, by decide +kernel⟩
set_option maxRecDepth 100000 in
theorem FAT_245 : fdOk RAT RAlarm RAlarm TAlarm 7 245 2 2 2 3 := ⟨⟨by decide, by decide, rfl, by decide, rfl, by decide⟩, iwAlarm, wT_in 141 (by decide +kernel) rfl, rfl⟩
set_option maxRecDepth 100000 in
theorem CAT_249 : cV RAT 249 RAT yAT_perform cAT_perform 3 none 2 := ⟨⟨wT_in 354 (by decide +kernel) rfl, wT_in 356 (by decide +kernel) rfl, wT_in 7 (by decide +kernel) rfl, wT_in 25 (by decide +kernel) rfl⟩, wT_in 357 rfl rfl, by decide +kernel⟩
set_option maxRecDepth 100000 in
theorem FAT_275 : fdOk RAT RTable RTable TTable 12 275 7 0 0 6 := ⟨⟨by decide, by decide, rfl, by decide, rfl, by decide⟩, iwTable, wT_in 206 (by decide +kernel) rfl, rfl⟩
