-- A STATIC METHOD WITH A TABLE OF HANDLERS
def cW (own : String) (index : Nat) (y : MethodName) (bytes : ByteArray) (maxL : Nat) (ret : Option FieldType) (hh : List (Nat × Nat × Nat × Nat)) (n : Nat) : Prop := (Cond.methodLink own index y ∈ wT ∧ Cond.static y ∈ wT ∧ Cond.initialized own ∈ wT) ∧ Cond.codeWith y bytes maxL ret hh ∈ wT ∧ (y.cls = own ∧ y.cls ≠ "java/lang/invoke/MethodHandle" ∧ y.cls ≠ "java/lang/invoke/VarHandle" ∧ (parseMethodDescriptor y.desc).map (fun d => d.parameters.length) = some n)
section STATICW
variable {p : Program} {l : Launch} {e : Env} {R : Room} {s : State} {m : MethodId} {args : Array Value} {below : List Frame} {meth : Method} {c : Code} {H : Heap} {locs : List Loc} {cells slots : Nat} {Q : State → Prop}
variable {cc bytes : ByteArray} {pc maxL nL index n fr lo mc ms : Nat} {ls : Array Slot} {st rest As : List Value} {D : va_G} {AC : Nat → ClassId} {A : Nat → Prop} {H0 : Heap} {S : HS} {own : String} {y : MethodName} {ret : Option FieldType} {hh : List (Nat × Nat × Nat × Nat)} {Pc : Array Value → State → Prop}
theorem fx_callSW {T : State} (X : Stand p l e R s m args below meth c T locs cells slots) (hexec : p.tables.exec = Jvm.exec)
    (hown : s.vm.findClass own = some m.cls) (hlink : (Cond.methodLink own index y).before args s = true) (hstat : (Cond.static y).before args s = true) (hinit : (Cond.initialized y.cls).before args s = true)
    (hcode : (Cond.codeWith y bytes maxL ret hh).before args s = true) (hy : y.cls ≠ "java/lang/invoke/MethodHandle" ∧ y.cls ≠ "java/lang/invoke/VarHandle")
    {W : Nat} {Pre : Pt → Array Value → Prop} {Post : Pt → Array Value → Option Value → Pt → Prop} (hK : Back l R p e below s args y 3 W Pre Post)
    {g : JFrame} (hg : g.method = m) (hsize : g.locals.size = c.maxLocals) {argsL : List Value} (hlen : ∀ sig, parseMethodDescriptor y.desc = some sig → argsL.length = sig.parameters.length)
    (hstack : g.stack = argsL.reverse ++ rest) (hW : 2 * g.monitorRoom + (rest.map fun v => v.category).sum ≤ W) (hdg : decode c.code g.pc = .ok (.invokestatic index, 3))
    (hpre : ∀ vm₁, s.WarmedH vm₁ → Pre ⟨T.setVm vm₁, locs, cells, slots⟩ argsL.toArray) :
    ∃ (v : Option Value) (vm₁ : Vm) (B : Pt), s.WarmedH vm₁ ∧ Stand p l e R s m args below meth c B.U B.locs B.cells B.slots ∧ Post ⟨T.setVm vm₁, locs, cells, slots⟩ argsL.toArray v B ∧
      ∀ target, Steps p.tables e below (B.U.setTop { g with pc := g.pc + 3, stack := v.toList ++ rest }) target → Steps p.tables e below (T.setTop g) target := by
  obtain ⟨mk, methM, cM, hnamed, hmethM, -, -, -, -, -, -, hsigM⟩ := Cond.codeWith_spec hcode
  have hstatic : methM.isStatic = true := Cond.static_spec hnamed hmethM hstat
  obtain ⟨kP, hkP, -⟩ := className_of_methodNamed hnamed
  have hinitP : kP.init = .initialized := Cond.initialized_spec (findClass_of_methodNamed hnamed) hkP hinit
  obtain ⟨vm₁, X₁, hstep₁⟩ := X.invokestatic hexec hown hlink hnamed hmethM hstatic hkP hinitP hy (g := g) hg (argsL := argsL) (rest := rest) (hlen _ hsigM) hstack hdg
  obtain ⟨v, B, X', hpost, hsteps⟩ := hK m meth c ⟨T.setVm vm₁, locs, cells, slots⟩ { g with stack := rest } (.invokestatic index) mk argsL.toArray X₁ hg hsize hdg hW (X₁.named hnamed) (hpre vm₁ X₁.warmed)
  exact ⟨v, vm₁, B, X₁.warmed, X', hpost, fun target h => hstep₁ _ fun acts => by rw [doInvoke_state]; exact hsteps.trans h⟩
theorem fx_runSW {Qc : Array Value → State → Outcome → State → Prop} {free : Addr → Prop} (hM : Met l y (Cond.codeWith y bytes maxL ret hh :: wT) (rmOf fr mc ms lo) Pc Qc mc ms free) (CV : cW own index y bytes maxL ret hh n) (hexec : p.tables.exec = Jvm.exec) (hb : c.code = cc) (hml : c.maxLocals = nL) (hown : s.vm.findClass own = some m.cls) (hts : ∀ w ∈ wT, w.before args s = true) (hbl : FrameBlind Pc) (hPc : ∀ U : State, U.heap = H → s.WarmedH U.vm → Pc As.toArray U)
    (hls : ls.size = nL) (hn : As.length = n) (hw : (rest.map fun v => v.category).sum ≤ 8) (hrm : RmOk R cells slots fr lo maxL mc ms) (hdg : decode cc pc = .ok (.invokestatic index, 3)) :
    va_Run p l e R s m args below meth c H locs cells slots mc ms (F0 m pc ls (As.reverse ++ rest)) rest (Qc As.toArray) free := by
  have hG : GoodIn wT (Cond.codeWith y bytes maxL ret hh :: wT) := fun w hw => by
    rcases List.mem_cons.mp hw with rfl | hw
    · exact wT_good _ CV.2.1
    · exact wT_good w hw
  have hini : (Cond.initialized y.cls).before args s = true := by rw [CV.2.2.1]; exact hts _ CV.1.2.2
  have hK : Back l R p e below s args y 3 8 (PreOf R mc ms Pc) (PostOf Qc mc ms free) := va_backW (hh := hh) (bytes := bytes) (maxL := maxL) (ret := ret) hM hbl rfl rfl hrm.1.1 hrm.1.2 (pay_in hts hG) List.mem_cons_self (fun a' U hW => word_at hW (Or.inl (by first | rfl | simp [Cond.onTables, Cond.keeps, Cond.steady])) hini)
  intro T hT X
  obtain ⟨v, vm₁, ⟨U', l2, c2, s2⟩, hW₁, X', ⟨g', mk, t, L, e1, e2, hq, h1, hL, h2, h3⟩, st⟩ := fx_callSW X hexec (bytes := bytes) (maxL := maxL) (ret := ret) (hh := hh) hown (hts _ CV.1.1) (hts _ CV.1.2.1) hini (hts _ CV.2.1) ⟨CV.2.2.2.1, CV.2.2.2.2.1⟩ hK (g := F0 m pc ls (As.reverse ++ rest)) rfl (hls.trans hml.symm) (argsL := As) (rest := rest) (fun sig h => by
      have h2 := CV.2.2.2.2.2
      rw [h] at h2
      exact hn.trans (Option.some.inj h2).symm) rfl (lv_room hw) (by rw [hb]; exact hdg)
    (fun vm₁ hW₁ => ⟨hrm.2.1, hrm.2.2, hPc (T.setVm vm₁) hT hW₁⟩)
  dsimp only [Pt.U, Pt.locs, Pt.cells, Pt.slots] at X' e1 e2 h1 h2 h3 st
  subst h1; subst h2; subst h3
  exact ⟨v, (T.setVm vm₁).calling g' mk As.toArray, t, U', L, hT, X', hL, e1, e2, hq, st⟩
theorem k_SWi {post : Int32 → HS → Prop} (hM : Met l y (Cond.codeWith y bytes maxL ret hh :: wT) (rmOf fr mc ms lo) Pc (va_Qi post (CB D AC S) (AS (hL S) (hz S))) mc ms (AS (hL S) (hz S))) (CV : cW own index y bytes maxL ret hh n) (hexec : p.tables.exec = Jvm.exec) (hb : c.code = cc) (hml : c.maxLocals = nL) (hown : s.vm.findClass own = some m.cls) (hts : ∀ w ∈ wT, w.before args s = true) (hW : Wd D AC A s H0 H locs S) (hbl : FrameBlind Pc) (hPc : ∀ U : State, U.heap = H → s.WarmedH U.vm → Pc As.toArray U) (hls : ls.size = nL) (hn : As.length = n) (hst : st = As.reverse ++ rest) (hw : (rest.map fun v => v.category).sum ≤ 8) (hrm : RmOk R cells slots fr lo maxL mc ms) (hdg : decode cc pc = .ok (.invokestatic index, 3))
    (kk : ∀ (r : Int32) (S' : HS) (H1 : Heap) (locs1 : List Loc), post r S' → Wd D AC A s H0 H1 locs1 S' → mono S S' → Fr S H S' H1 → W p l e R s m args below meth c H1 locs1 (cells + mc) (slots + ms) Q (F0 m (pc + 3) ls (.int r :: rest))) : W p l e R s m args below meth c H locs cells slots Q (F0 m pc ls st) := by
  subst hst
  exact va_calli (fx_runSW hM CV hexec hb hml hown hts hbl hPc hls hn hw hrm hdg) hW.wS (fun q _ h => hW.free q h) hW.free (fun r S' t H1 locs1 ht hvm hp hB hz hk1 hS => by
    obtain ⟨z1, z2, z3⟩ := hW.back ht hvm hB hz hk1 hS
    exact kk r S' H1 locs1 hp z1 z2 z3)
end STATICW
