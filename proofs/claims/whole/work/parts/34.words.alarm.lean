set_option maxRecDepth 100000 in
theorem dvAlarm (S : HS) (q : Nat) : ∀ j, j < 7 → defaultValue (tyAlarm j) = vp_V ((lay 2).map (fv (newQ S q 2) q)) j := by
  intro j hj
  rcases (show j = 0 ∨ j = 1 ∨ j = 2 ∨ j = 3 ∨ j = 4 ∨ j = 5 ∨ j = 6 by omega) with rfl | rfl | rfl | rfl | rfl | rfl | rfl <;> simp [vp_V, lay, fv, newQ, fi, fl, fr, zr, va_rf, tyAlarm, defaultValue]
set_option maxRecDepth 100000 in
theorem NAT_15 : (2 ≠ 0 ∧ aK 2 = 0 ∧ aE 2 = 0 ∧ vwCl[2 - 1]? = some (RAlarm, TAlarm, 7)) ∧ (∃ ty : Nat → FieldType, (∀ k, k < 7 → parseFieldDescriptor (TAlarm k).2.2.1 = some (ty k)) ∧ ∀ S q, ∀ j, j < 7 → defaultValue (ty j) = vp_V ((lay 2).map (fv (newQ S q 2) q)) j) ∧ (Cond.classLink RAT 15 RAlarm ∈ wT ∧ Cond.instantiable RAlarm 7 ∈ wT ∧ Cond.initialized RAlarm ∈ wT) := ⟨⟨by decide, by decide, by decide, rfl⟩, ⟨tyAlarm, tyAlarm_ok, dvAlarm⟩, wT_in 49 (by decide +kernel) rfl, wT_in 116 (by decide +kernel) rfl, wT_in 33 (by decide +kernel) rfl⟩
set_option maxRecDepth 100000 in
theorem dvAct (S : HS) (q : Nat) : ∀ j, j < 2 → defaultValue (tyAct j) = vp_V ((lay 1).map (fv (newQ S q 1) q)) j := by
  intro j hj
  rcases (show j = 0 ∨ j = 1 by omega) with rfl | rfl <;> simp [vp_V, lay, fv, newQ, fi, fl, fr, zr, va_rf, tyAct, defaultValue]
set_option maxRecDepth 100000 in
theorem NAT_71 : (1 ≠ 0 ∧ aK 1 = 0 ∧ aE 1 = 0 ∧ vwCl[1 - 1]? = some (RAct, TAct, 2)) ∧ (∃ ty : Nat → FieldType, (∀ k, k < 2 → parseFieldDescriptor (TAct k).2.2.1 = some (ty k)) ∧ ∀ S q, ∀ j, j < 2 → defaultValue (ty j) = vp_V ((lay 1).map (fv (newQ S q 1) q)) j) ∧ (Cond.classLink RAT 71 RAct ∈ wT ∧ Cond.instantiable RAct 2 ∈ wT ∧ Cond.initialized RAct ∈ wT) := ⟨⟨by decide, by decide, by decide, rfl⟩, ⟨tyAct, tyAct_ok, dvAct⟩, wT_in 117 (by decide +kernel) rfl, wT_in 118 (by decide +kernel) rfl, wT_in 34 (by decide +kernel) rfl⟩
set_option maxRecDepth 100000 in
theorem CAT_73 : cI RAT 73 yAct_init cAct_init 3 2 := ⟨⟨wT_in 119 (by decide +kernel) rfl, wT_in 120 (by decide +kernel) rfl, wT_in 34 (by decide +kernel) rfl, rfl⟩, wT_in 121 rfl rfl, by decide +kernel⟩
set_option maxRecDepth 100000 in
theorem CAT_76 : cI RAT 76 yAlarm_init cAlarm_init 4 3 := ⟨⟨wT_in 132 (by decide +kernel) rfl, wT_in 133 (by decide +kernel) rfl, wT_in 33 (by decide +kernel) rfl, rfl⟩, wT_in 134 rfl rfl, by decide +kernel⟩
set_option maxRecDepth 100000 in
theorem CAT_79 : cV RAT 79 RCounter yCounter_appendAlarm cCounter_appendAlarm 2 none 1 := ⟨⟨wT_in 163 (by decide +kernel) rfl, wT_in 164 (by decide +kernel) rfl, wT_in 165 (by decide +kernel) rfl, wT_in 32 (by decide +kernel) rfl⟩, wT_in 166 rfl rfl, by decide +kernel⟩
set_option maxRecDepth 100000 in
theorem CAT_83 : cV RAT 83 RAT yAT_link cAT_link 6 none 2 := ⟨⟨wT_in 167 (by decide +kernel) rfl, wT_in 169 (by decide +kernel) rfl, wT_in 3 (by decide +kernel) rfl, wT_in 25 (by decide +kernel) rfl⟩, wT_in 170 rfl rfl, by decide +kernel⟩
set_option maxRecDepth 100000 in
theorem CAT_56 : cV RAT 56 RAT yAT_isUnknownFor cAT_isUnknownFor 3 (some .boolean) 2 := ⟨⟨wT_in 105 (by decide +kernel) rfl, wT_in 107 (by decide +kernel) rfl, wT_in 1 (by decide +kernel) rfl, wT_in 25 (by decide +kernel) rfl⟩, wT_in 108 rfl rfl, by decide +kernel⟩
set_option maxRecDepth 100000 in
theorem CAT_60 : cS RAT 60 yAT_wouldCircle cAT_wouldCircle 2 (some .boolean) 2 := ⟨⟨wT_in 113 (by decide +kernel) rfl, wT_in 114 (by decide +kernel) rfl, wT_in 25 (by decide +kernel) rfl⟩, wT_in 115 rfl rfl, by decide +kernel⟩
