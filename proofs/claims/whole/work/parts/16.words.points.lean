set_option maxRecDepth 100000 in
theorem FNotes_29 : fdOk RNotes RPage RPage TPage 1 29 5 0 2 10 := ⟨⟨by decide, by decide, rfl, by decide, rfl, by decide⟩, iwPage, wT_in 345 (by decide +kernel) rfl, rfl⟩
set_option maxRecDepth 100000 in
theorem FAT_30 : fdOk RAT RAT RAT TAT 8 30 8 3 2 21 := ⟨⟨by decide, by decide, rfl, by decide, rfl, by decide⟩, iwAT, wT_in 75 (by decide +kernel) rfl, rfl⟩
set_option maxRecDepth 100000 in
theorem GAT_notes : fdPut TAT 8 3 (.object "AlarmTables$Notes") true := ⟨rfl, tyAT_ok 3 (by decide), ⟨tyAT, tyAT_ok⟩, nmAT⟩
set_option maxRecDepth 100000 in
theorem CAT_192 : cV RAT 192 RNotes yNotes_has cNotes_has 2 (some .boolean) 1 := ⟨⟨wT_in 385 (by decide +kernel) rfl, wT_in 386 (by decide +kernel) rfl, wT_in 387 (by decide +kernel) rfl, wT_in 26 (by decide +kernel) rfl⟩, wT_in 388 rfl rfl, by decide +kernel⟩
set_option maxRecDepth 100000 in
theorem CAT_196 : cV RAT 196 RNotes yNotes_read cNotes_read 4 (some .int) 2 := ⟨⟨wT_in 389 (by decide +kernel) rfl, wT_in 390 (by decide +kernel) rfl, wT_in 391 (by decide +kernel) rfl, wT_in 26 (by decide +kernel) rfl⟩, wT_in 392 rfl rfl, by decide +kernel⟩
set_option maxRecDepth 100000 in
theorem FAT_182 : fdOk RAT RNotes RNotes TNotes 3 182 4 2 0 5 := ⟨⟨by decide, by decide, rfl, by decide, rfl, by decide⟩, iwNotes, wT_in 64 (by decide +kernel) rfl, rfl⟩
set_option maxRecDepth 100000 in
theorem CTable_35 : cV RTable 35 RTable yTable_pointBefore cTable_pointBefore 5 (some (.object "AlarmTables$Point")) 1 := ⟨⟨wT_in 269 (by decide +kernel) rfl, wT_in 270 (by decide +kernel) rfl, wT_in 271 (by decide +kernel) rfl, wT_in 36 (by decide +kernel) rfl⟩, wT_in 272 rfl rfl, by decide +kernel⟩
set_option maxRecDepth 100000 in
theorem FTable_39 : fdOk RTable RTable RTable TTable 12 39 7 4 0 7 := ⟨⟨by decide, by decide, rfl, by decide, rfl, by decide⟩, iwTable, wT_in 213 (by decide +kernel) rfl, rfl⟩
set_option maxRecDepth 100000 in
theorem GTable_pointCount : fdPut TTable 12 4 (.int) false := ⟨rfl, tyTable_ok 4 (by decide), ⟨tyTable, tyTable_ok⟩, nmTable⟩
set_option maxRecDepth 100000 in
theorem CAT_52 : cV RAT 52 RAT yAT_findCounter cAT_findCounter 2 (some (.object "AlarmTables$Counter")) 1 := ⟨⟨wT_in 101 (by decide +kernel) rfl, wT_in 103 (by decide +kernel) rfl, wT_in 0 (by decide +kernel) rfl, wT_in 25 (by decide +kernel) rfl⟩, wT_in 104 rfl rfl, by decide +kernel⟩
set_option maxRecDepth 100000 in
theorem OAT_3 : Cond.methodLink RAT 3 objectInit ∈ wT ∧ Cond.instanceMethod objectInit ∈ wT ∧ Cond.code objectInit ⟨#[0xb1]⟩ 1 none ∈ wT := ⟨wT_in 44 (by decide +kernel) rfl, wT_in 45 (by decide +kernel) rfl, wT_in 46 rfl rfl⟩
set_option maxRecDepth 100000 in
theorem NAAT_9 : Cond.classLink RAT 9 RCounter ∈ wT ∧ ∀ s, NX s → va_AO RCounter s := ⟨wT_in 47 (by decide +kernel) rfl, fun _ h => h.2.2.1⟩
set_option maxRecDepth 100000 in
theorem NAAT_15 : Cond.classLink RAT 15 RAlarm ∈ wT ∧ ∀ s, NX s → va_AO RAlarm s := ⟨wT_in 49 (by decide +kernel) rfl, fun _ h => h.2.2.2.1⟩
set_option maxRecDepth 100000 in
theorem NAAT_21 : Cond.classLink RAT 21 RTable ∈ wT ∧ ∀ s, NX s → va_AO RTable s := ⟨wT_in 51 (by decide +kernel) rfl, fun _ h => h.2.2.2.2.1⟩
set_option maxRecDepth 100000 in
theorem dvNotes (S : HS) (q : Nat) : ∀ j, j < 3 → defaultValue (tyNotes j) = vp_V ((lay 4).map (fv (newQ S q 4) q)) j := by
  intro j hj
  rcases (show j = 0 ∨ j = 1 ∨ j = 2 by omega) with rfl | rfl | rfl <;> simp [vp_V, lay, fv, newQ, fi, fl, fr, zr, va_rf, tyNotes, defaultValue]
set_option maxRecDepth 100000 in
theorem NAT_27 : (4 ≠ 0 ∧ aK 4 = 0 ∧ aE 4 = 0 ∧ vwCl[4 - 1]? = some (RNotes, TNotes, 3)) ∧ (∃ ty : Nat → FieldType, (∀ k, k < 3 → parseFieldDescriptor (TNotes k).2.2.1 = some (ty k)) ∧ ∀ S q, ∀ j, j < 3 → defaultValue (ty j) = vp_V ((lay 4).map (fv (newQ S q 4) q)) j) ∧ (Cond.classLink RAT 27 RNotes ∈ wT ∧ Cond.instantiable RNotes 3 ∈ wT ∧ Cond.initialized RNotes ∈ wT) := ⟨⟨by decide, by decide, by decide, rfl⟩, ⟨tyNotes, tyNotes_ok, dvNotes⟩, wT_in 53 (by decide +kernel) rfl, wT_in 54 (by decide +kernel) rfl, wT_in 26 (by decide +kernel) rfl⟩
set_option maxRecDepth 100000 in
theorem CAT_29 : cN RAT 29 yNotes_init "AlarmTables" cNotes_init 1 0 := ⟨fun _ h => h.1, ⟨wT_in 56 (by decide +kernel) rfl, wT_in 26 (by decide +kernel) rfl, rfl⟩, wT_in 57 rfl rfl, by decide +kernel⟩
