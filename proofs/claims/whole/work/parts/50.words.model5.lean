set_option maxRecDepth 100000 in
theorem FMod_26 : fdOk RMod RMod RMod TMod 35 26 9 7 2 27 := ⟨⟨by decide, by decide, rfl, by decide, rfl, by decide⟩, iwMod, wT_in 538 (by decide +kernel) rfl, rfl⟩
set_option maxRecDepth 100000 in
theorem GMod_seen : fdPut TMod 35 7 (.array .boolean) true := ⟨rfl, tyMod_ok 7 (by decide), ⟨tyMod, tyMod_ok⟩, nmMod⟩
set_option maxRecDepth 100000 in
theorem FMod_22 : fdOk RMod RMod RMod TMod 35 22 9 6 2 26 := ⟨⟨by decide, by decide, rfl, by decide, rfl, by decide⟩, iwMod, wT_in 537 (by decide +kernel) rfl, rfl⟩
set_option maxRecDepth 100000 in
theorem GMod_leads : fdPut TMod 35 6 (.array .boolean) true := ⟨rfl, tyMod_ok 6 (by decide), ⟨tyMod, tyMod_ok⟩, nmMod⟩
set_option maxRecDepth 100000 in
theorem CMod_120 : cV RMod 120 RMod yMod_leadsTo cMod_leadsTo 6 (some .boolean) 2 := ⟨⟨wT_in 661 (by decide +kernel) rfl, wT_in 663 (by decide +kernel) rfl, wT_in 14 (by decide +kernel) rfl, wT_in 27 (by decide +kernel) rfl⟩, wT_in 664 rfl rfl, by decide +kernel⟩
