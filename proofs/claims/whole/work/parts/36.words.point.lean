set_option maxRecDepth 100000 in
theorem dvPoint (S : HS) (q : Nat) : ∀ j, j < 3 → defaultValue (tyPoint j) = vp_V ((lay 6).map (fv (newQ S q 6) q)) j := by
  intro j hj
  rcases (show j = 0 ∨ j = 1 ∨ j = 2 by omega) with rfl | rfl | rfl <;> simp [vp_V, lay, fv, newQ, fi, fl, fr, zr, va_rf, tyPoint, defaultValue]
set_option maxRecDepth 100000 in
theorem NAT_142 : (6 ≠ 0 ∧ aK 6 = 0 ∧ aE 6 = 0 ∧ vwCl[6 - 1]? = some (RPoint, TPoint, 3)) ∧ (∃ ty : Nat → FieldType, (∀ k, k < 3 → parseFieldDescriptor (TPoint k).2.2.1 = some (ty k)) ∧ ∀ S q, ∀ j, j < 3 → defaultValue (ty j) = vp_V ((lay 6).map (fv (newQ S q 6) q)) j) ∧ (Cond.classLink RAT 142 RPoint ∈ wT ∧ Cond.instantiable RPoint 3 ∈ wT ∧ Cond.initialized RPoint ∈ wT) := ⟨⟨by decide, by decide, by decide, rfl⟩, ⟨tyPoint, tyPoint_ok, dvPoint⟩, wT_in 273 (by decide +kernel) rfl, wT_in 274 (by decide +kernel) rfl, wT_in 37 (by decide +kernel) rfl⟩
set_option maxRecDepth 100000 in
theorem CAT_144 : cI RAT 144 yPoint_init cPoint_init 4 2 := ⟨⟨wT_in 275 (by decide +kernel) rfl, wT_in 276 (by decide +kernel) rfl, wT_in 37 (by decide +kernel) rfl, rfl⟩, wT_in 277 rfl rfl, by decide +kernel⟩
set_option maxRecDepth 100000 in
theorem CAT_147 : cV RAT 147 RTable yTable_insert cTable_insert 3 none 1 := ⟨⟨wT_in 293 (by decide +kernel) rfl, wT_in 294 (by decide +kernel) rfl, wT_in 295 (by decide +kernel) rfl, wT_in 36 (by decide +kernel) rfl⟩, wT_in 296 rfl rfl, by decide +kernel⟩
set_option maxRecDepth 100000 in
theorem FAT_139 : fdOk RAT RTable RTable TTable 12 139 7 4 0 7 := ⟨⟨by decide, by decide, rfl, by decide, rfl, by decide⟩, iwTable, wT_in 214 (by decide +kernel) rfl, rfl⟩
set_option maxRecDepth 100000 in
theorem FAT_128 : fdOk RAT RTable RTable TTable 12 128 7 2 1 9 := ⟨⟨by decide, by decide, rfl, by decide, rfl, by decide⟩, iwTable, wT_in 210 (by decide +kernel) rfl, rfl⟩
set_option maxRecDepth 100000 in
theorem CAT_134 : cV RAT 134 RTable yTable_hasPointAt cTable_hasPointAt 5 (some .boolean) 1 := ⟨⟨wT_in 265 (by decide +kernel) rfl, wT_in 266 (by decide +kernel) rfl, wT_in 267 (by decide +kernel) rfl, wT_in 36 (by decide +kernel) rfl⟩, wT_in 268 rfl rfl, by decide +kernel⟩
