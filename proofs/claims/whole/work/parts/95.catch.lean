-- THE CATCH
theorem fx_find {e : Env} {S : State} {f : JFrame} {a : Addr} {meth : Method} {code : Code} {x : ExceptionTableEntry} {cT : ClassId} {cell : Cell} (hm : S.vm.method? f.method = some meth) (hc : meth.code = some code) (ht : code.exceptionTable.toList = [x]) (hx : covers x f.pc = true) (h0 : x.catchType ≠ 0) (hl : S.vm.ClassLinks e.platform f.method.cls x.catchType cT) (hcell : S.heap[a]? = some cell) (hobj : ∀ k, cell.vm ≠ .statics k) (hk : ∃ k, S.vm.classes[cell.cls]? = some k) (hkT : ∃ k, S.vm.classes[cT]? = some k) (hfit : S.vm.assignable cell.cls cT = true) (Q : Handler → Bool → List Action → State → Prop) (E : Control → List Action → State → Prop) (d : Bool) (acts : List Action) : wp (findHandler f a) Q E e d acts S ↔ Q (.found x.handlerPc) d acts (S.setVm (S.vm.noted f.method.cls x.catchType (.cls cT))) := by
  rw [Jvm.W.findHandler_eq hm hc, ht]
  simp only [covers] at hx
  obtain ⟨r1, r2⟩ := (resolveClass_links e.toSetting hl).op (op := VmOp.resolveClass f.method.cls x.catchType) rfl
  have al := (Vm.Alike.refl S.vm).noted f.method.cls x.catchType (.cls cT)
  obtain ⟨k1, hk1⟩ := hk
  obtain ⟨k2, hk2⟩ := hkT
  obtain ⟨j1, hj1, -⟩ := al.2.2 _ _ hk1
  obtain ⟨j2, hj2, -⟩ := al.2.2 _ _ hk2
  have fit2 : (S.vm.noted f.method.cls x.catchType (.cls cT)).assignable cell.cls cT = true := by rw [al.assignable]; exact hfit
  simp [findHandler.go, hx, h0, r1, r2, hcell, hobj, hj1, hj2, fit2, VmOp.dirties, VmOp.acts]
theorem fx_step {e : Env} {s : State} {a : Addr} {f : JFrame} {r : List Frame} {pc : Nat} {v : Vm} (h : ∀ (Q : Handler → Bool → List Action → State → Prop) (E : Control → List Action → State → Prop) (d : Bool) (acts : List Action), wp (findHandler f a) Q E e d acts s ↔ Q (.found pc) d acts (s.setVm v)) : (stepThrowing e s a (.java f :: r)).Is ((s.setVm v).setFrames (.java { f with pc := pc, stack := [.ref a] } :: r)) [] := by
  simp only [stepThrowing, searchFrame, vmDo]
  generalize hr : Sem.go _ e false [] s = res
  obtain ⟨as, rfl, ha⟩ := Sem.eq_ok_of hr (a := Handler.found pc) (s' := s.setVm v) (acts' := []) (by simp [h _ _ _ _])
  exact ⟨rfl, ha⟩
theorem fx_sf (u : State) (v : Vm) (F G : List Frame) : ((u.setFrames F).setVm v).setFrames G = (u.setVm v).setFrames G := by
  show ((u.setVm v).setFrames F).setFrames G = _
  rw [State.setFrames_setFrames]
section CATCH
variable {p : Program} {l : Launch} {e : Env} {R : Room} {s : State} {m : MethodId} {args : Array Value} {below : List Frame} {meth : Method} {c : Code} {locs : List Loc} {cells slots : Nat}
theorem fx_catch {T : State} (X : Stand p l e R s m args below meth c T locs cells slots) {g : JFrame} (hg : g.method = m) {own name : String} (hown : s.vm.findClass own = some m.cls) {x : ExceptionTableEntry} (ht : c.exceptionTable.toList = [x]) (hx : covers x g.pc = true) (h0 : x.catchType ≠ 0) (hlink : (Cond.classLink own x.catchType name).before args s = true) {a : Addr} {cell : Cell} (hcell : T.heap[a]? = some cell) (hobj : cell.vm = .none) (hcls : s.vm.findClass name = some cell.cls) :
    ∃ v, Stand p l e R s m args below meth c (T.setVm v) locs cells slots ∧ ∀ target, Steps p.tables e below ((T.setVm v).setTop { g with pc := x.handlerPc, stack := [.ref a] }) target → Steps p.tables e below ((T.setTop g).pushFrame (.throwing a)) target := by
  subst hg
  have hpl : e.platform.magicAccessors = ({} : Platform).magicAccessors := by rw [X.admits.platform]
  obtain ⟨c', hc', hcl⟩ := Cond.classLink_spec hown hlink e.platform hpl
  have e1 : c' = cell.cls := Option.some.inj (hc'.symm.trans hcls)
  subst e1
  obtain ⟨dk, _, _, kt, hd, _, _, _, _, hkt, _, hopen⟩ := hcl.here
  obtain ⟨kt', hkt', -⟩ := X.warmed.alike.2.2 _ _ hkt
  have hfit : T.vm.assignable cell.cls cell.cls = true := by
    show T.vm.assignableAux (255 + 1) cell.cls cell.cls = true
    rw [Vm.assignableAux, Bool.or_eq_true, beq_iff_eq]
    exact Or.inl rfl
  have hf := fx_find (e := e) (S := (T.setTop g).pushFrame (.throwing a)) (f := g) (a := a) (meth := meth) (code := c) (x := x) (cT := cell.cls) (cell := cell) X.method' X.code ht hx h0 (X.warmed.classLinks hcl) hcell (fun k hk => by rw [hobj] at hk; cases hk) ⟨kt', hkt'⟩ ⟨kt', hkt'⟩ hfit
  refine ⟨T.vm.noted g.method.cls x.catchType (.cls cell.cls), X.noted (X.warmed.noted hd hopen (State.rightAt_cls hcl)), fun target hrest => ?_⟩
  have h : At T g.method c below := X.here
  obtain ⟨hgo, hw⟩ := h.throwing a
  refine Steps.head hgo hw ?_
  have hstep := fx_step (r := T.frames.tail) hf
  rw [stepThread_throwing (frames_entered h.top _), hstep.1]
  obtain ⟨g₀, hg0⟩ := Option.isSome_iff_exists.mp h.top
  obtain ⟨r, hr⟩ := State.topJava?_eq_some.mp hg0
  have hr' : (T.setVm (T.vm.noted g.method.cls x.catchType (.cls cell.cls))).frames = .java g₀ :: r := hr
  rw [State.setTop_of_frames _ hr'] at hrest
  rw [hr, List.tail_cons, State.pushFrame, fx_sf, State.setTop_of_frames _ hr, fx_sf]
  exact hrest
/-- what a throw leaves of the heap -/
theorem thX_heap {s U : State} {o : Outcome} (h : thX s o U) : U.heap.size = s.heap.size + 1 ∧ (∀ q : Nat, q < s.heap.size → U.heap[q]? = s.heap[q]?) ∧ ∃ ce : Cell, U.heap[s.heap.size]? = some ce ∧ ce.slots.size ≤ 6 := by
  obtain ⟨-, ce, hce, -, -, -, -, h2, h3, h4, h5, h6⟩ := h
  have hlt : s.heap.size < U.heap.size := (Array.getElem?_eq_some_iff.mp hce).1
  have h3 : U.heap.size ≤ s.heap.size + 1 := h3
  have hsz : U.heap.size = s.heap.size + 1 := by omega
  refine ⟨hsz, fun q hq => ?_, ce, hce, ?_⟩
  · obtain ⟨cq, hcq⟩ : ∃ cq, s.heap[q]? = some cq := ⟨_, Array.getElem?_eq_getElem hq⟩
    obtain ⟨c', e1, e2, e3, e4⟩ := h6 q cq hcq
    have e5 : c'.slots = cq.slots := by
      apply Array.ext_getElem?
      intro i
      exact e4 i (fun z => by cases z)
    rw [e5] at e2
    rw [hcq]
    exact e1.trans (by rw [e2])
  · have h5 : ((U.heap.toList.drop s.heap.size).map (fun c => c.slots.size)).sum ≤ 6 := h5
    have e1 : U.heap.toList.drop s.heap.size = [ce] := by
      apply List.ext_getElem?
      intro i
      rw [List.getElem?_drop, Array.getElem?_toList]
      cases i with
      | zero => rw [Nat.add_zero, hce]; rfl
      | succ i =>
        rw [Array.getElem?_eq_none (by omega)]
        rfl
    rw [e1] at h5
    simpa using h5
variable {H : Heap} {Q : State → Prop} {cc bytes : ByteArray} {pc maxL nL index n fr lo : Nat} {ls : Array Slot} {st rest As : List Value} {b : Nat} {own C : String} {y : MethodName} {ret : Option FieldType} {Pc : Array Value → State → Prop}
/-- a call of a method that throws, caught in this frame -/
theorem fx_callX (hM : MetFree l y (headSpec (Cond.code y bytes maxL ret :: wT) (rmOf fr 1 6 lo)) Pc (fun _ _ _ _ _ => True) (fun _ st o U => thX st o U)) (CV : cV own index C y bytes maxL ret n) (hexec : p.tables.exec = Jvm.exec) (hb : c.code = cc) (hml : c.maxLocals = nL) (hown : s.vm.findClass own = some m.cls) (hts : ∀ w ∈ wT, w.before args s = true) {cellB : Cell} (hcB : H[b]? = some cellB) (hoB : cellB.vm.isStatics = false) (hclB : s.vm.findClass C = some cellB.cls) (hls : ls.size = nL) (hn : As.length = n) (hst : st = As.reverse ++ .ref b :: rest) (hw : (rest.map fun v => v.category).sum ≤ 8) (hrm : RmOk R cells slots fr lo maxL 1 6) (hdg : decode cc pc = .ok (.invokevirtual index, 3))
    (hPc : ∀ U : State, U.heap = H → s.WarmedH U.vm → ∀ g mk, Pc (Value.ref b :: As).toArray (U.calling g mk (Value.ref b :: As).toArray)) {x : ExceptionTableEntry} (ht : c.exceptionTable.toList = [x]) (hx : covers x pc = true) (h0 : x.catchType ≠ 0) (hlink : (Cond.classLink own x.catchType AE).before args s = true)
    (kk : ∀ (H1 : Heap) (ce : Cell), H1.size = H.size + 1 → (∀ q : Nat, q < H.size → H1[q]? = H[q]?) → H1[H.size]? = some ce → ce.slots.size ≤ 6 → W p l e R s m args below meth c H1 locs (cells + 1) (slots + 6) Q (F0 m x.handlerPc ls [.ref H.size])) : W p l e R s m args below meth c H locs cells slots Q (F0 m pc ls st) := by
  subst hst
  intro T hT X
  obtain ⟨⟨hrc, hrs, hfr, hlo, hws, hcw, hcode, hini, hy, hlen, hl⟩, hin, hse⟩ := cwV (rm := rmOf fr 1 6 lo) (mc := 1) (ms := 6) n hts (good_V CV) rfl rfl rfl CV.2.2 hrm.1
  obtain ⟨mk, methM, hnamed, hmethM, hstM, habM⟩ := Cond.instanceMethod_spec hin
  obtain ⟨methM', cM, hmethM', -, -, -, -, -, -, hsigM⟩ := Cond.code_spec hnamed hcode
  cases hmethM.symm.trans hmethM'
  obtain ⟨c2, r2, m2, q1, q2, q3, q4, kP, hkP, hkPi⟩ := Cond.selects_spec hse
  cases hclB.symm.trans q1
  cases (State.methodFound?_of_named hnamed hy).symm.trans q2
  cases hnamed.symm.trans q3
  have hselP : selectMethod e.platform s.vm cellB.cls mk = .method mk := by rw [Launch.admits_selectMethod X.admits]; exact q4
  obtain ⟨vm₁, X₁, hstep₁⟩ := X.invokevirtual hexec hown hl hnamed hmethM hstM hkP hkPi hy (a := b) (cell := cellB) (by rw [hT]; exact hcB)
    (fun z h => by rw [h] at hoB; cases hoB) hselP hmethM habM hkP hkPi (g := F0 m pc ls (As.reverse ++ .ref b :: rest)) rfl (argsL := As) (rest := rest) (hn.trans (hlen _ hsigM)) rfl (by rw [hb]; exact hdg)
  -- the callee
  have hU : (T.setVm vm₁).heap = H := hT
  generalize T.setVm vm₁ = U at X₁ hstep₁ hU
  have hnU := X₁.named hnamed
  obtain ⟨methY, cY, hmY, hcY, -, hlY, -, -, -, -⟩ := Cond.code_spec hnU (hws _ hcw (Value.ref b :: As).toArray U X₁.warmed)
  obtain ⟨kY, hkY, -⟩ := className_of_methodNamed hnU
  have hiniU : (Cond.initialized y.cls).before (Value.ref b :: As).toArray U = true := word_at X₁.warmed (Or.inl (by first | rfl | simp [Cond.onTables, Cond.keeps, Cond.steady])) hini
  have hinitY : kY.init = .initialized := Cond.initialized_spec (findClass_of_methodNamed hnU) hkY hiniU
  have h : At U m c below := X₁.here
  have happ : (headSpec (Cond.code y bytes maxL ret :: wT) (rmOf fr 1 6 lo)).appliesLoose y e.platform (U.calling (F0 m pc ls rest) mk (Value.ref b :: As).toArray) = true :=
    Spec.appliesLoose_calling (g := F0 m pc ls rest) h (by rw [hb]; exact hdg) hnU hkY hinitY
      (X₁.room_calling (g := F0 m pc ls rest) (R' := rmOf fr 1 6 lo) (hls.trans hml.symm) hmY hcY hfr (by rw [hlY]; show 2 * (F0 m pc ls rest).monitorRoom + (rest.map fun v => v.category).sum + (maxL + 11) + lo ≤ R.locals; have h8 : 2 * (F0 m pc ls rest).monitorRoom + (rest.map fun v => v.category).sum ≤ 8 := lv_room hw; have h9 : (rmOf fr 1 6 lo).locals = lo := rfl; have h10 := hrm.1.2; omega) hrm.2.1 hrm.2.2) (atoms_intro fun w hw => hws w hw _ _ X₁.warmed)
  obtain ⟨mid, hmid⟩ := h.above
  have hfrm : (U.setTop (F0 m pc ls rest)).frames = (.java (F0 m pc ls rest) :: mid) ++ below := by rw [State.frames_setTop' _ h.top, hmid]; rfl
  obtain ⟨o, s₂, hsteps, -, hend, hq⟩ := Steps.callFree hM p X₁.admits X₁.cas X₁.clock (acts := []) hfrm happ (hPc U hU X₁.warmed _ _) trivial
  have hq' : thX (U.calling (F0 m pc ls rest) mk (Value.ref b :: As).toArray) o s₂ := hq
  rw [State.frames_setTop' _ h.top] at hend
  obtain ⟨z1, z2, ce0, z3, z4⟩ := thX_heap hq'
  obtain ⟨rfl, ce, hce, hcev, hcec, hW₂, e2, p2, p3, p4, p5, p6⟩ := hq'
  have hW' : U.WarmedH s₂.vm := hW₂
  have ece : ce0 = ce := Option.some.inj (z3.symm.trans hce)
  subst ece
  have hf₂ : s₂.frames = .throwing (U.calling (F0 m pc ls rest) mk (Value.ref b :: As).toArray).heap.size :: .java (F0 m pc ls rest) :: U.frames.tail := hend
  have hHs : (U.calling (F0 m pc ls rest) mk (Value.ref b :: As).toArray).heap = H := hU
  rw [hHs] at hf₂ z1 z2 z3 hce
  have e3 : s₂ = ({ (U.calling (F0 m pc ls rest) mk (Value.ref b :: As).toArray).setFrames s₂.frames with heap := s₂.heap, slotsUsed := s₂.slotsUsed } : State).setVm s₂.vm := by
    have : s₂ = ({ s₂ with vm := (U.calling (F0 m pc ls rest) mk (Value.ref b :: As).toArray).vm } : State).setVm s₂.vm := rfl
    rw [e2] at this
    exact this
  obtain ⟨g₀, hg0⟩ := Option.isSome_iff_exists.mp h.top
  obtain ⟨r, hr⟩ := State.topJava?_eq_some.mp hg0
  have hs₂ : s₂ = ((({ U with heap := s₂.heap, slotsUsed := s₂.slotsUsed } : State).setVm s₂.vm).setTop (F0 m pc ls rest)).pushFrame (.throwing H.size) := by
    have hr' : (({ U with heap := s₂.heap, slotsUsed := s₂.slotsUsed } : State).setVm s₂.vm).frames = .java g₀ :: r := hr
    refine e3.trans ?_
    rw [hf₂, State.calling_eq h.top, State.setFrames_setFrames, State.pushFrame, State.frames_setTop _ hr', State.setTop_of_frames _ hr', State.setFrames_setFrames, hr]
    rfl
  have hsame : U.sameButNew ({ U with heap := s₂.heap, slotsUsed := s₂.slotsUsed } : State) [] 1 6 := by
    refine ⟨?_, p2, p3, p4, p5, p6⟩
    obtain ⟨t, ht, -⟩ := State.frames_cons hr
    show ({ U with heap := s₂.heap, slotsUsed := s₂.slotsUsed } : State) = { U.setFrames U.frames with heap := s₂.heap, slotsUsed := s₂.slotsUsed }
    rw [State.setFrames_self ht]
  have X₂ : Stand p l e R s m args below meth c (({ U with heap := s₂.heap, slotsUsed := s₂.slotsUsed } : State).setVm s₂.vm) (locs ++ []) (cells + 1) (slots + 6) :=
    ⟨X₁.admits, X₁.cas, X₁.clock, X₁.frames, X₁.room, X₁.hears, X₁.method, X₁.code, (X₁.here.setHeapUsed s₂.heap s₂.slotsUsed).setVm hW'.alike, X₁.tail, State.WarmedH.trans X₁.warmed hW', X₁.limits, X₁.bytes, X₁.same.trans (hsame.setVm s.vm)⟩
  rw [List.append_nil] at X₂
  have hcl : s.vm.findClass AE = some ce0.cls := by
    have : U.vm.findClass AE = some ce0.cls := hcec
    rw [X₁.warmed.alike.findClass] at this
    exact this
  obtain ⟨v, X₃, hst₃⟩ := fx_catch X₂ (g := F0 m pc ls rest) rfl hown ht hx h0 hlink (a := H.size) (cell := ce0) hce hcev hcl
  obtain ⟨tt, hsteps2, hQ⟩ := kk s₂.heap ce0 z1 z2 z3 z4 ((({ U with heap := s₂.heap, slotsUsed := s₂.slotsUsed } : State).setVm s₂.vm).setVm v) rfl X₃
  refine ⟨tt, hstep₁ _ (fun acts => ?_), hQ⟩
  rw [doInvoke_state]
  refine hsteps.trans ?_
  rw [hs₂]
  exact hst₃ _ hsteps2
end CATCH
