set_option maxRecDepth 100000 in
theorem OCounter_3 : Cond.methodLink RCounter 3 objectInit ∈ wT ∧ Cond.instanceMethod objectInit ∈ wT ∧ Cond.code objectInit ⟨#[0xb1]⟩ 1 none ∈ wT := ⟨wT_in 476 (by decide +kernel) rfl, wT_in 45 (by decide +kernel) rfl, wT_in 46 rfl rfl⟩
set_option maxRecDepth 100000 in
theorem QCounter_9 : Cond.constantLong RCounter 9 9223372036854775807 ∈ wT := wT_in 477 (by decide +kernel) rfl
set_option maxRecDepth 100000 in
theorem iwCounter : ∀ w ∈ u_ws RCounter TCounter 12, w ∈ wT := by decide +kernel
set_option maxRecDepth 100000 in
theorem FCounter_11 : fdOk RCounter RCounter RCounter TCounter 12 11 3 6 1 7 := ⟨⟨by decide, by decide, rfl, by decide, rfl, by decide⟩, iwCounter, wT_in 491 (by decide +kernel) rfl, rfl⟩
set_option maxRecDepth 100000 in
theorem GCounter_wake : fdPut TCounter 12 6 (.long) false := ⟨rfl, tyCounter_ok 6 (by decide), ⟨tyCounter, tyCounter_ok⟩, nmCounter⟩
set_option maxRecDepth 100000 in
theorem FCounter_17 : fdOk RCounter RCounter RCounter TCounter 12 17 3 0 0 2 := ⟨⟨by decide, by decide, rfl, by decide, rfl, by decide⟩, iwCounter, wT_in 478 (by decide +kernel) rfl, rfl⟩
set_option maxRecDepth 100000 in
theorem GCounter_bit : fdPut TCounter 12 0 (.int) true := ⟨rfl, tyCounter_ok 0 (by decide), ⟨tyCounter, tyCounter_ok⟩, nmCounter⟩
set_option maxRecDepth 100000 in
theorem FCounter_21 : fdOk RCounter RCounter RCounter TCounter 12 21 3 1 1 2 := ⟨⟨by decide, by decide, rfl, by decide, rfl, by decide⟩, iwCounter, wT_in 480 (by decide +kernel) rfl, rfl⟩
set_option maxRecDepth 100000 in
theorem GCounter_base : fdPut TCounter 12 1 (.long) true := ⟨rfl, tyCounter_ok 1 (by decide), ⟨tyCounter, tyCounter_ok⟩, nmCounter⟩
set_option maxRecDepth 100000 in
theorem FCounter_24 : fdOk RCounter RCounter RCounter TCounter 12 24 3 2 1 3 := ⟨⟨by decide, by decide, rfl, by decide, rfl, by decide⟩, iwCounter, wT_in 482 (by decide +kernel) rfl, rfl⟩
set_option maxRecDepth 100000 in
theorem GCounter_ticksAStep : fdPut TCounter 12 2 (.long) true := ⟨rfl, tyCounter_ok 2 (by decide), ⟨tyCounter, tyCounter_ok⟩, nmCounter⟩
set_option maxRecDepth 100000 in
theorem MCounter_27 : Cond.methodLink RCounter 27 Lib.MathLoose.min_long.x ∈ wT ∧ Cond.static Lib.MathLoose.min_long.x ∈ wT ∧ Cond.initialized "java/lang/Math" ∈ wT ∧ Cond.code Lib.MathLoose.min_long.x Lib.MathLoose.min_long.code 4 (some .long) ∈ wT := ⟨wT_in 188 (by decide +kernel) rfl, wT_in 189 (by decide +kernel) rfl, wT_in 35 (by decide +kernel) rfl, wT_in 190 rfl rfl⟩
set_option maxRecDepth 100000 in
theorem FCounter_33 : fdOk RCounter RCounter RCounter TCounter 12 33 3 5 1 6 := ⟨⟨by decide, by decide, rfl, by decide, rfl, by decide⟩, iwCounter, wT_in 488 (by decide +kernel) rfl, rfl⟩
set_option maxRecDepth 100000 in
theorem GCounter_steps : fdPut TCounter 12 5 (.long) false := ⟨rfl, tyCounter_ok 5 (by decide), ⟨tyCounter, tyCounter_ok⟩, nmCounter⟩
set_option maxRecDepth 100000 in
theorem FCounter_36 : fdOk RCounter RCounter RCounter TCounter 12 36 3 4 1 5 := ⟨⟨by decide, by decide, rfl, by decide, rfl, by decide⟩, iwCounter, wT_in 485 (by decide +kernel) rfl, rfl⟩
set_option maxRecDepth 100000 in
theorem GCounter_value : fdPut TCounter 12 4 (.long) false := ⟨rfl, tyCounter_ok 4 (by decide), ⟨tyCounter, tyCounter_ok⟩, nmCounter⟩
set_option maxRecDepth 100000 in
theorem OAct_1 : Cond.methodLink RAct 1 objectInit ∈ wT ∧ Cond.instanceMethod objectInit ∈ wT ∧ Cond.code objectInit ⟨#[0xb1]⟩ 1 none ∈ wT := ⟨wT_in 122 (by decide +kernel) rfl, wT_in 45 (by decide +kernel) rfl, wT_in 46 rfl rfl⟩
set_option maxRecDepth 100000 in
theorem iwAct : ∀ w ∈ u_ws RAct TAct 2, w ∈ wT := by decide +kernel
set_option maxRecDepth 100000 in
theorem FAct_7 : fdOk RAct RAct RAct TAct 2 7 1 0 2 0 := ⟨⟨by decide, by decide, rfl, by decide, rfl, by decide⟩, iwAct, wT_in 123 (by decide +kernel) rfl, rfl⟩
set_option maxRecDepth 100000 in
theorem GAct_stepped : fdPut TAct 2 0 (.object "AlarmTables$Counter") true := ⟨rfl, tyAct_ok 0 (by decide), ⟨tyAct, tyAct_ok⟩, nmAct⟩
set_option maxRecDepth 100000 in
theorem FAct_13 : fdOk RAct RAct RAct TAct 2 13 1 1 2 1 := ⟨⟨by decide, by decide, rfl, by decide, rfl, by decide⟩, iwAct, wT_in 125 (by decide +kernel) rfl, rfl⟩
set_option maxRecDepth 100000 in
theorem GAct_cancelled : fdPut TAct 2 1 (.object "AlarmTables$Alarm") true := ⟨rfl, tyAct_ok 1 (by decide), ⟨tyAct, tyAct_ok⟩, nmAct⟩
