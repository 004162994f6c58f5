set_option maxRecDepth 100000 in
theorem QAT_172 : Cond.constantLong RAT 172 100000 ∈ wT := wT_in 320 (by decide +kernel) rfl
set_option maxRecDepth 100000 in
theorem FAT_174 : fdOk RAT RCounter RCounter TCounter 12 174 3 2 1 3 := ⟨⟨by decide, by decide, rfl, by decide, rfl, by decide⟩, iwCounter, wT_in 483 (by decide +kernel) rfl, rfl⟩
set_option maxRecDepth 100000 in
theorem FAT_177 : fdOk RAT RCounter RCounter TCounter 12 177 3 3 1 4 := ⟨⟨by decide, by decide, rfl, by decide, rfl, by decide⟩, iwCounter, wT_in 484 (by decide +kernel) rfl, rfl⟩
set_option maxRecDepth 100000 in
theorem GCounter_ticksKept : fdPut TCounter 12 3 (.long) false := ⟨rfl, tyCounter_ok 3 (by decide), ⟨tyCounter, tyCounter_ok⟩, nmCounter⟩
set_option maxRecDepth 100000 in
theorem QAT_180 : Cond.constantLong RAT 180 5000 ∈ wT := wT_in 321 (by decide +kernel) rfl
