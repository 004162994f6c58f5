set_option maxRecDepth 100000 in
theorem dvTable (S : HS) (q : Nat) : ∀ j, j < 12 → defaultValue (tyTable j) = vp_V ((lay 7).map (fv (newQ S q 7) q)) j := by
  intro j hj
  rcases (show j = 0 ∨ j = 1 ∨ j = 2 ∨ j = 3 ∨ j = 4 ∨ j = 5 ∨ j = 6 ∨ j = 7 ∨ j = 8 ∨ j = 9 ∨ j = 10 ∨ j = 11 by omega) with rfl | rfl | rfl | rfl | rfl | rfl | rfl | rfl | rfl | rfl | rfl | rfl <;> simp [vp_V, lay, fv, newQ, fi, fl, fr, zr, va_rf, tyTable, defaultValue]
set_option maxRecDepth 100000 in
theorem NAT_21 : (7 ≠ 0 ∧ aK 7 = 0 ∧ aE 7 = 0 ∧ vwCl[7 - 1]? = some (RTable, TTable, 12)) ∧ (∃ ty : Nat → FieldType, (∀ k, k < 12 → parseFieldDescriptor (TTable k).2.2.1 = some (ty k)) ∧ ∀ S q, ∀ j, j < 12 → defaultValue (ty j) = vp_V ((lay 7).map (fv (newQ S q 7) q)) j) ∧ (Cond.classLink RAT 21 RTable ∈ wT ∧ Cond.instantiable RTable 12 ∈ wT ∧ Cond.initialized RTable ∈ wT) := ⟨⟨by decide, by decide, by decide, rfl⟩, ⟨tyTable, tyTable_ok, dvTable⟩, wT_in 51 (by decide +kernel) rfl, wT_in 200 (by decide +kernel) rfl, wT_in 36 (by decide +kernel) rfl⟩
set_option maxRecDepth 100000 in
theorem CAT_117 : cI RAT 117 yTable_init cTable_init 5 3 := ⟨⟨wT_in 201 (by decide +kernel) rfl, wT_in 202 (by decide +kernel) rfl, wT_in 36 (by decide +kernel) rfl, rfl⟩, wT_in 203 rfl rfl, by decide +kernel⟩
set_option maxRecDepth 100000 in
theorem CAT_120 : cV RAT 120 RCounter yCounter_appendTable cCounter_appendTable 2 none 1 := ⟨⟨wT_in 253 (by decide +kernel) rfl, wT_in 254 (by decide +kernel) rfl, wT_in 255 (by decide +kernel) rfl, wT_in 32 (by decide +kernel) rfl⟩, wT_in 256 rfl rfl, by decide +kernel⟩
