set_option maxRecDepth 100000 in
theorem QMod_174 : Cond.constantLong RMod 174 (-1) ∈ wT := wT_in 741 (by decide +kernel) rfl
set_option maxRecDepth 100000 in
theorem CMod_167 : cV RMod 167 RMod yMod_goTable cMod_goTable 5 none 2 := ⟨⟨wT_in 716 (by decide +kernel) rfl, wT_in 718 (by decide +kernel) rfl, wT_in 18 (by decide +kernel) rfl, wT_in 27 (by decide +kernel) rfl⟩, wT_in 719 rfl rfl, by decide +kernel⟩
set_option maxRecDepth 100000 in
theorem CMod_171 : cV RMod 171 RMod yMod_goAlarm cMod_goAlarm 3 none 1 := ⟨⟨wT_in 737 (by decide +kernel) rfl, wT_in 739 (by decide +kernel) rfl, wT_in 23 (by decide +kernel) rfl, wT_in 27 (by decide +kernel) rfl⟩, wT_in 740 rfl rfl, by decide +kernel⟩
