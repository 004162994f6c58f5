set_option maxRecDepth 100000 in
theorem CMod_180 : cV RMod 180 RMod yMod_go cMod_go 4 none 0 := ⟨⟨wT_in 712 (by decide +kernel) rfl, wT_in 714 (by decide +kernel) rfl, wT_in 17 (by decide +kernel) rfl, wT_in 27 (by decide +kernel) rfl⟩, wT_in 715 rfl rfl, by decide +kernel⟩
set_option maxRecDepth 100000 in
theorem QMod_176 : Cond.constantLong RMod 176 100000 ∈ wT := wT_in 706 (by decide +kernel) rfl
set_option maxRecDepth 100000 in
theorem FMod_16 : fdOk RMod RMod RMod TMod 35 16 9 4 2 24 := ⟨⟨by decide, by decide, rfl, by decide, rfl, by decide⟩, iwMod, wT_in 535 (by decide +kernel) rfl, rfl⟩
set_option maxRecDepth 100000 in
theorem GMod_rest : fdPut TMod 35 4 (.array .long) true := ⟨rfl, tyMod_ok 4 (by decide), ⟨tyMod, tyMod_ok⟩, nmMod⟩
set_option maxRecDepth 100000 in
theorem QMod_178 : Cond.constantLong RMod 178 5000 ∈ wT := wT_in 707 (by decide +kernel) rfl
