-- A COUNTER WHOSE BASE IS 0: THE THROW, AND ITS CATCH IN THE LAW
def AE : String := "java/lang/ArithmeticException"
def AEn : List String := ["java/lang/RuntimeException", "java/lang/Exception"]
set_option maxRecDepth 100000 in
theorem AE_link : Cond.classLink RAT 42 AE ∈ wT ∧ Cond.instantiable AE 6 ∈ wT ∧ Cond.initialized AE ∈ wT ∧ Cond.classLink RLaw 13 AE ∈ wT := by decide +kernel
def msgX : String := "a counter cannot wrap at 0"
/-- the end of a throw: one new cell, at the heap's end -/
def thX (s : State) (o : Outcome) (U : State) : Prop := o = .threw s.heap.size ∧ ∃ ce : Cell, U.heap[s.heap.size]? = some ce ∧ ce.vm = .none ∧ s.vm.findClass AE = some ce.cls ∧ s.WarmedH U.vm ∧ s.sameButNew ({ U with vm := s.vm } : State) [] 1 6
theorem fx_throw {p : Program} {l : Launch} {e : Env} {s : State} {m : MethodId} {args : Array Value} {below : List Frame} {meth : Method} {c : Code} {ls : Array Slot} {fr lo sa : Nat} (hl : l.stackTraces = false) (hexec : p.tables.exec = Jvm.exec) (hb : c.code = cAT_counter) (hown : s.vm.findClass RAT = some m.cls) (hts : ∀ w ∈ wT, w.before args s = true) (hO : ∀ w ∈ Bundle.ownAtoms RAT 46 AE AEn, w.before args s = true) (hstr : vk_R RAT 44 msgX sa s) (hsize : ls.size = c.maxLocals) (hno : c.exceptionTable.toList = []) (hlocks : meth.locks = false) (hfr : 5 < fr) (hlo : 83 ≤ lo) : W p l e (rmOf fr 1 6 lo) s m args below meth c s.heap [] 0 0 (fun t => ∃ o, t.status = .running ∧ Ended t below o ∧ thX s o t) (F0 m 49 ls []) := by
  intro T hT X
  have htr : e.platform.stackTraces = false := (show e.platform.stackTraces = l.stackTraces by rw [X.admits.platform]).trans hl
  obtain ⟨vm₁, cX, kX, hfX, hkX, -, -, X₁, st1⟩ := X.newCold hexec (own := RAT) (C := AE) (index := 42) (n := 6) hown (hts _ AE_link.1) (hts _ AE_link.2.1) (hts _ AE_link.2.2.1) (g := F0 m 49 ls []) rfl (by rw [hb]; exact dAT_counter_49) (Nat.le_refl _) (Nat.le_refl _)
  generalize hT1 : (T.setVm vm₁).pushCell { cls := cX, slots := kX.instanceTypes.map defaultValue, vm := .none } = T1 at X₁ st1
  have hcell : T1.heap[T.heap.size]? = some (freshCell cX kX) := by rw [← hT1]; exact State.heap_pushCell_size _ _
  have hnone : ∀ x ∈ c.exceptionTable.toList, covers x (55 + 3) = false := fun x hx => by rw [hno] at hx; cases hx
  have hcat : (Value.ref T.heap.size).category = 1 := rfl
  obtain ⟨U, hsteps, hrun, hend, hW, hsame, ce, hce, hO⟩ := X₁.ctorThrowS hexec htr (own := RAT) (cls := AE) (names := AEn) (ic := 46) hown (by decide) (by decide) hO (fun x hx => nomatch hx) hfX hkX hcell (by rw [hT]; exact Nat.le_refl _) (msg := .ref sa) rfl
    (g := { method := m, pc := 55, locals := ls, stack := [.ref sa, .ref T.heap.size, .ref T.heap.size], locked := none }) rfl hsize rfl rfl (rest := []) rfl (by rw [hb]; exact dAT_counter_55) (by rw [hb]; exact dAT_counter_58) hnone (by show 2 + 3 < fr; exact hfr) (by show 2 * 0 + (List.map (fun v : Value => v.category) [Value.ref T.heap.size]).sum + (13 * (2 + 1) + 42) ≤ lo; simp only [List.map_cons, List.map_nil, List.sum_cons, List.sum_nil, hcat]; omega) hlocks
  have hcl : s.vm.findClass AE = some ce.cls := hO.cls
  rw [hT] at hce hend
  refine ⟨U, ?_, .threw s.heap.size, hrun, hend, rfl, ce, hce, hO.vm, hcl, hW, hsame⟩
  refine st1 _ ?_
  show Steps p.tables e below (T1.setTop { method := m, pc := 52, locals := ls, stack := [.ref T.heap.size], locked := none }) _
  have d3' : decode c.code 52 = .ok (.dup, 1) := by rw [hb]; exact dAT_counter_52
  jvm_step X₁.here [X₁.here.top, hexec, d3', Value.category]
  exact X₁.ldcString hexec (own := RAT) (text := msgX) (index := 44) (a := sa) hown hstr.1 hstr.2
    (g := { method := m, pc := 53, locals := ls, stack := [.ref T.heap.size, .ref T.heap.size], locked := none }) rfl (by rw [hb]; exact dAT_counter_53) _ hsteps
