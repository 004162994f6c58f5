set_option maxRecDepth 100000 in
theorem QAT_34 : Cond.constantLong RAT 34 1000000000 ∈ wT := wT_in 405 (by decide +kernel) rfl
set_option maxRecDepth 100000 in
theorem dvCounter (S : HS) (q : Nat) : ∀ j, j < 12 → defaultValue (tyCounter j) = vp_V ((lay 3).map (fv (newQ S q 3) q)) j := by
  intro j hj
  rcases (show j = 0 ∨ j = 1 ∨ j = 2 ∨ j = 3 ∨ j = 4 ∨ j = 5 ∨ j = 6 ∨ j = 7 ∨ j = 8 ∨ j = 9 ∨ j = 10 ∨ j = 11 by omega) with rfl | rfl | rfl | rfl | rfl | rfl | rfl | rfl | rfl | rfl | rfl | rfl <;> simp [vp_V, lay, fv, newQ, fi, fl, fr, zr, va_rf, tyCounter, defaultValue]
set_option maxRecDepth 100000 in
theorem NAT_9 : (3 ≠ 0 ∧ aK 3 = 0 ∧ aE 3 = 0 ∧ vwCl[3 - 1]? = some (RCounter, TCounter, 12)) ∧ (∃ ty : Nat → FieldType, (∀ k, k < 12 → parseFieldDescriptor (TCounter k).2.2.1 = some (ty k)) ∧ ∀ S q, ∀ j, j < 12 → defaultValue (ty j) = vp_V ((lay 3).map (fv (newQ S q 3) q)) j) ∧ (Cond.classLink RAT 9 RCounter ∈ wT ∧ Cond.instantiable RCounter 12 ∈ wT ∧ Cond.initialized RCounter ∈ wT) := ⟨⟨by decide, by decide, by decide, rfl⟩, ⟨tyCounter, tyCounter_ok, dvCounter⟩, wT_in 47 (by decide +kernel) rfl, wT_in 472 (by decide +kernel) rfl, wT_in 32 (by decide +kernel) rfl⟩
set_option maxRecDepth 100000 in
theorem CAT_49 : cI RAT 49 yCounter_init cCounter_init 6 3 := ⟨⟨wT_in 473 (by decide +kernel) rfl, wT_in 474 (by decide +kernel) rfl, wT_in 32 (by decide +kernel) rfl, rfl⟩, wT_in 475 rfl rfl, by decide +kernel⟩
