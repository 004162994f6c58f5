set_option maxRecDepth 100000 in
theorem FAT_257 : fdOk RAT RTable RTable TTable 12 257 7 6 0 9 := ⟨⟨by decide, by decide, rfl, by decide, rfl, by decide⟩, iwTable, wT_in 218 (by decide +kernel) rfl, rfl⟩
set_option maxRecDepth 100000 in
theorem FAT_268 : fdOk RAT RTable RTable TTable 12 268 7 8 2 15 := ⟨⟨by decide, by decide, rfl, by decide, rfl, by decide⟩, iwTable, wT_in 222 (by decide +kernel) rfl, rfl⟩
set_option maxRecDepth 100000 in
theorem CAT_271 : cV RAT 271 RAT yAT_giveOver cAT_giveOver 3 (some (.object "AlarmTables$Table")) 1 := ⟨⟨wT_in 377 (by decide +kernel) rfl, wT_in 379 (by decide +kernel) rfl, wT_in 10 (by decide +kernel) rfl, wT_in 25 (by decide +kernel) rfl⟩, wT_in 380 rfl rfl, by decide +kernel⟩
set_option maxRecDepth 100000 in
theorem FAT_276 : fdOk RAT RPoint RPoint TPoint 3 276 6 0 1 8 := ⟨⟨by decide, by decide, rfl, by decide, rfl, by decide⟩, iwPoint, wT_in 281 (by decide +kernel) rfl, rfl⟩
set_option maxRecDepth 100000 in
theorem FAT_279 : fdOk RAT RPoint RPoint TPoint 3 279 6 2 2 12 := ⟨⟨by decide, by decide, rfl, by decide, rfl, by decide⟩, iwPoint, wT_in 285 (by decide +kernel) rfl, rfl⟩
set_option maxRecDepth 100000 in
theorem CAT_264 : cV RAT 264 RTable yTable_goOn cTable_goOn 8 none 2 := ⟨⟨wT_in 366 (by decide +kernel) rfl, wT_in 367 (by decide +kernel) rfl, wT_in 368 (by decide +kernel) rfl, wT_in 36 (by decide +kernel) rfl⟩, wT_in 369 rfl rfl, by decide +kernel⟩
set_option maxRecDepth 100000 in
theorem FAT_281 : fdOk RAT RPoint RPoint TPoint 3 281 6 1 2 11 := ⟨⟨by decide, by decide, rfl, by decide, rfl, by decide⟩, iwPoint, wT_in 283 (by decide +kernel) rfl, rfl⟩
set_option maxRecDepth 100000 in
theorem FAT_260 : fdOk RAT RTable RTable TTable 12 260 7 3 2 14 := ⟨⟨by decide, by decide, rfl, by decide, rfl, by decide⟩, iwTable, wT_in 212 (by decide +kernel) rfl, rfl⟩
set_option maxRecDepth 100000 in
theorem CAT_253 : cV RAT 253 RAT yAT_goThrough cAT_goThrough 4 (some (.object "AlarmTables$Table")) 2 := ⟨⟨wT_in 362 (by decide +kernel) rfl, wT_in 364 (by decide +kernel) rfl, wT_in 9 (by decide +kernel) rfl, wT_in 25 (by decide +kernel) rfl⟩, wT_in 365 rfl rfl, by decide +kernel⟩
