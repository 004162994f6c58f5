set_option maxRecDepth 100000 in
theorem FNotes_17 : fdOk RNotes RNotes RNotes TNotes 3 17 4 2 0 5 := ⟨⟨by decide, by decide, rfl, by decide, rfl, by decide⟩, iwNotes, wT_in 63 (by decide +kernel) rfl, rfl⟩
set_option maxRecDepth 100000 in
theorem GNotes_total : fdPut TNotes 3 2 (.int) false := ⟨rfl, tyNotes_ok 2 (by decide), ⟨tyNotes, tyNotes_ok⟩, nmNotes⟩
set_option maxRecDepth 100000 in
theorem dvPage (S : HS) (q : Nat) : ∀ j, j < 1 → defaultValue (tyPage j) = vp_V ((lay 5).map (fv (newQ S q 5) q)) j := by
  intro j hj
  rcases (show j = 0 by omega) with rfl <;> simp [vp_V, lay, fv, newQ, fi, fl, fr, zr, va_rf, tyPage, defaultValue]
set_option maxRecDepth 100000 in
theorem NNotes_9 : (5 ≠ 0 ∧ aK 5 = 0 ∧ aE 5 = 0 ∧ vwCl[5 - 1]? = some (RPage, TPage, 1)) ∧ (∃ ty : Nat → FieldType, (∀ k, k < 1 → parseFieldDescriptor (TPage k).2.2.1 = some (ty k)) ∧ ∀ S q, ∀ j, j < 1 → defaultValue (ty j) = vp_V ((lay 5).map (fv (newQ S q 5) q)) j) ∧ (Cond.classLink RNotes 9 RPage ∈ wT ∧ Cond.instantiable RPage 1 ∈ wT ∧ Cond.initialized RPage ∈ wT) := ⟨⟨by decide, by decide, by decide, rfl⟩, ⟨tyPage, tyPage_ok, dvPage⟩, wT_in 59 (by decide +kernel) rfl, wT_in 339 (by decide +kernel) rfl, wT_in 38 (by decide +kernel) rfl⟩
set_option maxRecDepth 100000 in
theorem CNotes_24 : cN RNotes 24 yPage_init "AlarmTables" cPage_init 1 0 := ⟨fun _ h => h.2.1, ⟨wT_in 341 (by decide +kernel) rfl, wT_in 38 (by decide +kernel) rfl, rfl⟩, wT_in 342 rfl rfl, by decide +kernel⟩
set_option maxRecDepth 100000 in
theorem CNotes_25 : cV RNotes 25 RPage yPage_write cPage_write 8 none 5 := ⟨⟨wT_in 350 (by decide +kernel) rfl, wT_in 351 (by decide +kernel) rfl, wT_in 352 (by decide +kernel) rfl, wT_in 38 (by decide +kernel) rfl⟩, wT_in 353 rfl rfl, by decide +kernel⟩
