set_option maxRecDepth 100000 in
theorem OMod_1 : Cond.methodLink RMod 1 objectInit ∈ wT ∧ Cond.instanceMethod objectInit ∈ wT ∧ Cond.code objectInit ⟨#[0xb1]⟩ 1 none ∈ wT := ⟨wT_in 530 (by decide +kernel) rfl, wT_in 45 (by decide +kernel) rfl, wT_in 46 rfl rfl⟩
set_option maxRecDepth 100000 in
theorem NI_long : Cond.arrayClass (newarray.typeOf .long) ∈ wT := wT_in 637 (by decide +kernel) rfl
set_option maxRecDepth 100000 in
theorem NI_boolean : Cond.arrayClass (newarray.typeOf .boolean) ∈ wT := wT_in 638 (by decide +kernel) rfl
