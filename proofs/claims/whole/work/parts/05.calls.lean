-- CONTRACTS OVER THE STORE, ENDS, CALLS
def CPre (D : va_G) (AC : Nat → ClassId) (S : HS) (av : List Value) : Array Value → State → Prop := va_Pc av (fun U => U.heap.size = hz S ∧ va_K D vwCl (aTys AC) U ∧ va_P D vwCl (pool AC S) U.heap ∧ va_D (fun _ => True) (pool AC S) ∧ hOk S ∧ NX U ∧ hts U.heap = tz S)
def CB (D : va_G) (AC : Nat → ClassId) (S : HS) (S' : HS) (t : State) : Prop := va_K D vwCl (aTys AC) t ∧ va_P D vwCl (pool AC S') t.heap ∧ va_D (AS (hL S) (hz S)) (pool AC S') ∧ hOk S' ∧ mono S S' ∧ t.heap.size = hz S' ∧ hts t.heap = tz S'
abbrev rmOf (fr mc ms lo : Nat) : Room := { frames := fr, cells := mc, slots := ms, locals := lo }
def CtI (l : Launch) (y : MethodName) (ws : List Cond) (fr lo : Nat) (D : va_G) (AC : Nat → ClassId) (S : HS) (av : List Value) (mc ms : Nat) (post : Int32 → HS → Prop) : Prop := Met l y ws (rmOf fr mc ms lo) (CPre D AC S av) (va_Qi post (CB D AC S) (AS (hL S) (hz S))) mc ms (AS (hL S) (hz S))
def CtL (l : Launch) (y : MethodName) (ws : List Cond) (fr lo : Nat) (D : va_G) (AC : Nat → ClassId) (S : HS) (av : List Value) (mc ms : Nat) (post : Int64 → HS → Prop) : Prop := Met l y ws (rmOf fr mc ms lo) (CPre D AC S av) (va_Ql post (CB D AC S) (AS (hL S) (hz S))) mc ms (AS (hL S) (hz S))
def CtV (l : Launch) (y : MethodName) (ws : List Cond) (fr lo : Nat) (D : va_G) (AC : Nat → ClassId) (S : HS) (av : List Value) (mc ms : Nat) (post : HS → Prop) : Prop := Met l y ws (rmOf fr mc ms lo) (CPre D AC S av) (va_Qv post (CB D AC S) (AS (hL S) (hz S))) mc ms (AS (hL S) (hz S))
def CtQ (l : Launch) (y : MethodName) (ws : List Cond) (fr lo : Nat) (D : va_G) (AC : Nat → ClassId) (S : HS) (av : List Value) (mc ms : Nat) (post : Option Nat → HS → Prop) : Prop := Met l y ws (rmOf fr mc ms lo) (CPre D AC S av) (va_Qq post (CB D AC S) (AS (hL S) (hz S))) mc ms (AS (hL S) (hz S))
/-- where a body stands -/
def Cx (p : Program) (s : State) (m : MethodId) (args : Array Value) (meth : Method) (c : Code) (y : MethodName) (cc : ByteArray) (maxL : Nat) (ret : Option FieldType) : Prop := p.tables.exec = Jvm.exec ∧ c.code = cc ∧ c.maxLocals = maxL ∧ meth.sig.returnType = ret ∧ meth.locks = false ∧ s.vm.findClass y.cls = some m.cls ∧ meth.name = y.name ∧ ∀ w ∈ wT, w.before args s = true
theorem met_of {l : Launch} {y : MethodName} {cc : ByteArray} {maxL : Nat} {ret : Option FieldType} {fr lo mc ms : Nat} {D : va_G} {AC : Nat → ClassId} {S : HS} {av : List Value} {Qc : Array Value → State → Outcome → State → Prop} (hy : plainName y.cls = true) (hlen : (lg_sl av).length ≤ maxL)
    (body : ∀ (p : Program) (e : Env) (s : State) (m : MethodId) (below : List Frame) (meth : Method) (c : Code) (ls : Array Slot), s.heap.size = hz S → Cx p s m av.toArray meth c y cc maxL ret → Wd D AC (AS (hL S) s.heap.size) s s.heap s.heap [] S → lv_has ls maxL (lv_args 0 av) →
      W p l e (rmOf fr mc ms lo) s m av.toArray below meth c s.heap [] 0 0 (MQ below Qc av.toArray s mc ms (AS (hL S) (hz S))) (F0 m 0 ls [])) : Met l y (Cond.code y cc maxL ret :: wT) (rmOf fr mc ms lo) (CPre D AC S av) Qc mc ms (AS (hL S) (hz S)) := by
  refine Met.ofW (cc := cc) (maxL := maxL) (ret := ret) hy rfl ?_
  intro p e s m args below meth c s₁ B hml hv
  obtain ⟨rfl, hsz, hK, hP, hD, hok, hnx, hht⟩ := hv
  have hts := atoms_spec (ws := Cond.code y cc maxL ret :: wT) B.pre
  have hl := lv_entry av (n := maxL) hlen
  rw [lg_entry_eq]
  exact body p e s m below meth c _ hsz ⟨B.exec, B.bytes, hml, B.returns, B.notSynchronized, findClass_of_methodNamed B.named, (name_of_methodNamed B.named B.method).1, fun w hw => hts w (List.mem_cons_of_mem _ hw)⟩
    ⟨hK, hP, ⟨hD.1, fun k q hk => Or.inl (pl_mem hk).1⟩, va_S.rf, fun q h => Or.inr h, hok, hsz, hnx, hht⟩ hl
section ENDS
variable {p : Program} {l : Launch} {e : Env} {R : Room} {s : State} {m : MethodId} {args : Array Value} {below : List Frame} {meth : Method} {c : Code} {H : Heap} {locs : List Loc} {cells slots : Nat}
variable {cc : ByteArray} {pc mc ms : Nat} {ls : Array Slot} {D : va_G} {AC : Nat → ClassId} {S0 S : HS}
theorem e_i {post : Int32 → HS → Prop} {r : Int32} (hsz : s.heap.size = hz S0) (hexec : p.tables.exec = Jvm.exec) (hb : c.code = cc) (hr : meth.sig.returnType = some .int) (hlk : meth.locks = false) (hW : Wd D AC (AS (hL S0) s.heap.size) s s.heap H locs S) (hm : mono S0 S) (hc : cells ≤ mc) (hs : slots ≤ ms) (hdg : decode cc pc = .ok (.ireturn, 1)) (hp : post r S) : W p l e R s m args below meth c H locs cells slots (MQ below (va_Qi post (CB D AC S0) (AS (hL S0) (hz S0))) args s mc ms (AS (hL S0) (hz S0))) (F0 m pc ls [.int r]) := by
  rw [hsz] at hW
  refine W.widen hc hs ?_
  exact W.iret (v := r) hexec hb hr (fun t ht hWm => ⟨⟨r, S, rfl, hp, va_K.moved hWm.alike hW.wK, by rw [ht]; exact hW.wP, hW.wD, hW.ok, hm, by rw [ht]; exact hW.z, by rw [ht]; exact hW.t⟩, hW.wS.F ht⟩) hW.wS.2.2 hdg hlk
theorem e_z {post : Int32 → HS → Prop} {r : Int32} (hsz : s.heap.size = hz S0) (hexec : p.tables.exec = Jvm.exec) (hb : c.code = cc) (hr : meth.sig.returnType = some .boolean) (hlk : meth.locks = false) (hW : Wd D AC (AS (hL S0) s.heap.size) s s.heap H locs S) (hm : mono S0 S) (hc : cells ≤ mc) (hs : slots ≤ ms) (hdg : decode cc pc = .ok (.ireturn, 1)) (hn : narrow .boolean (.int r) = .int r) (hp : post r S) : W p l e R s m args below meth c H locs cells slots (MQ below (va_Qi post (CB D AC S0) (AS (hL S0) (hz S0))) args s mc ms (AS (hL S0) (hz S0))) (F0 m pc ls [.int r]) := by
  rw [hsz] at hW
  refine W.widen hc hs ?_
  exact W.zret (v := r) hexec hb hr hn (fun t ht hWm => ⟨⟨r, S, rfl, hp, va_K.moved hWm.alike hW.wK, by rw [ht]; exact hW.wP, hW.wD, hW.ok, hm, by rw [ht]; exact hW.z, by rw [ht]; exact hW.t⟩, hW.wS.F ht⟩) hW.wS.2.2 hdg hlk
theorem e_l {post : Int64 → HS → Prop} {r : Int64} (hsz : s.heap.size = hz S0) (hexec : p.tables.exec = Jvm.exec) (hb : c.code = cc) (hr : meth.sig.returnType = some .long) (hlk : meth.locks = false) (hW : Wd D AC (AS (hL S0) s.heap.size) s s.heap H locs S) (hm : mono S0 S) (hc : cells ≤ mc) (hs : slots ≤ ms) (hdg : decode cc pc = .ok (.lreturn, 1)) (hp : post r S) : W p l e R s m args below meth c H locs cells slots (MQ below (va_Ql post (CB D AC S0) (AS (hL S0) (hz S0))) args s mc ms (AS (hL S0) (hz S0))) (F0 m pc ls [.long r]) := by
  rw [hsz] at hW
  refine W.widen hc hs ?_
  exact W.lret (v := r) hexec hb hr (fun t ht hWm => ⟨⟨r, S, rfl, hp, va_K.moved hWm.alike hW.wK, by rw [ht]; exact hW.wP, hW.wD, hW.ok, hm, by rw [ht]; exact hW.z, by rw [ht]; exact hW.t⟩, hW.wS.F ht⟩) hW.wS.2.2 hdg hlk
theorem e_v {post : HS → Prop} (hsz : s.heap.size = hz S0) (hexec : p.tables.exec = Jvm.exec) (hb : c.code = cc) (hr : meth.sig.returnType = none) (hlk : meth.locks = false) (hW : Wd D AC (AS (hL S0) s.heap.size) s s.heap H locs S) (hm : mono S0 S) (hc : cells ≤ mc) (hs : slots ≤ ms) (hdg : decode cc pc = .ok (.return_, 1)) (hp : post S) : W p l e R s m args below meth c H locs cells slots (MQ below (va_Qv post (CB D AC S0) (AS (hL S0) (hz S0))) args s mc ms (AS (hL S0) (hz S0))) (F0 m pc ls []) := by
  rw [hsz] at hW
  refine W.widen hc hs ?_
  exact W.vret hexec hb hr (fun t ht hWm => ⟨⟨S, rfl, hp, va_K.moved hWm.alike hW.wK, by rw [ht]; exact hW.wP, hW.wD, hW.ok, hm, by rw [ht]; exact hW.z, by rw [ht]; exact hW.t⟩, hW.wS.F ht⟩) hW.wS.2.2 hdg hlk
theorem e_q {post : Option Nat → HS → Prop} {r : Option Nat} {C : String} (hsz : s.heap.size = hz S0) (hexec : p.tables.exec = Jvm.exec) (hb : c.code = cc) (hr : meth.sig.returnType = some (.object C)) (hlk : meth.locks = false) (hW : Wd D AC (AS (hL S0) s.heap.size) s s.heap H locs S) (hm : mono S0 S) (hc : cells ≤ mc) (hs : slots ≤ ms) (hdg : decode cc pc = .ok (.areturn, 1)) (hp : post r S) : W p l e R s m args below meth c H locs cells slots (MQ below (va_Qq post (CB D AC S0) (AS (hL S0) (hz S0))) args s mc ms (AS (hL S0) (hz S0))) (F0 m pc ls [va_rf r]) := by
  rw [hsz] at hW
  refine W.widen hc hs ?_
  exact W.aret (v := va_rf r) hexec hb hr (Or.inl ⟨_, rfl⟩) (va_rf_or r) (fun t ht hWm => ⟨⟨r, S, rfl, hp, va_K.moved hWm.alike hW.wK, by rw [ht]; exact hW.wP, hW.wD, hW.ok, hm, by rw [ht]; exact hW.z, by rw [ht]; exact hW.t⟩, hW.wS.F ht⟩) hW.wS.2.2 hdg hlk
end ENDS
/-- the words of a call of an instance method, of a static one, of a constructor -/
def cV (own : String) (index : Nat) (C : String) (y : MethodName) (bytes : ByteArray) (maxL : Nat) (ret : Option FieldType) (n : Nat) : Prop := (Cond.methodLink own index y ∈ wT ∧ Cond.instanceMethod y ∈ wT ∧ Cond.selects C y y ∈ wT ∧ Cond.initialized C ∈ wT) ∧ Cond.code y bytes maxL ret ∈ wT ∧ (y.cls = C ∧ y.cls ≠ "java/lang/invoke/MethodHandle" ∧ y.cls ≠ "java/lang/invoke/VarHandle" ∧ (parseMethodDescriptor y.desc).map (fun d => d.parameters.length) = some n)
def cS (own : String) (index : Nat) (y : MethodName) (bytes : ByteArray) (maxL : Nat) (ret : Option FieldType) (n : Nat) : Prop := (Cond.methodLink own index y ∈ wT ∧ Cond.static y ∈ wT ∧ Cond.initialized own ∈ wT) ∧ Cond.code y bytes maxL ret ∈ wT ∧ (y.cls = own ∧ y.cls ≠ "java/lang/invoke/MethodHandle" ∧ y.cls ≠ "java/lang/invoke/VarHandle" ∧ (parseMethodDescriptor y.desc).map (fun d => d.parameters.length) = some n)
def cI (own : String) (index : Nat) (y : MethodName) (bytes : ByteArray) (maxL : Nat) (n : Nat) : Prop := (Cond.methodLink own index y ∈ wT ∧ Cond.instanceMethod y ∈ wT ∧ Cond.initialized y.cls ∈ wT ∧ y.name = "<init>") ∧ Cond.code y bytes maxL none ∈ wT ∧ (y.cls ≠ "java/lang/invoke/MethodHandle" ∧ y.cls ≠ "java/lang/invoke/VarHandle" ∧ (parseMethodDescriptor y.desc).map (fun d => d.parameters.length) = some n)
theorem wT_good : GoodIn wT wT := fun w hw => ⟨hw, good_of_word (List.mem_filter.mp hw).2⟩
theorem good_code {y : MethodName} {bytes : ByteArray} {maxL : Nat} {ret : Option FieldType} (h : Cond.code y bytes maxL ret ∈ wT) : GoodIn wT (Cond.code y bytes maxL ret :: wT) := fun w hw => by
  rcases List.mem_cons.mp hw with rfl | hw
  · exact wT_good _ h
  · exact wT_good w hw
theorem good_V {own C : String} {index n maxL : Nat} {y : MethodName} {bytes : ByteArray} {ret : Option FieldType} (h : cV own index C y bytes maxL ret n) : GoodIn wT (wsV own index C y (Cond.code y bytes maxL ret :: wT)) := fun w hw => by
  rcases List.mem_append.mp hw with hw | hw
  · simp only [List.mem_cons, List.not_mem_nil, or_false] at hw
    rcases hw with rfl | rfl | rfl | rfl
    · exact wT_good _ h.1.1
    · exact wT_good _ h.1.2.1
    · exact wT_good _ h.1.2.2.1
    · exact wT_good _ h.1.2.2.2
  · exact good_code h.2.1 w hw
theorem good_S {own : String} {index n maxL : Nat} {y : MethodName} {bytes : ByteArray} {ret : Option FieldType} (h : cS own index y bytes maxL ret n) : GoodIn wT (wsS own index y (Cond.code y bytes maxL ret :: wT)) := fun w hw => by
  rcases List.mem_append.mp hw with hw | hw
  · simp only [List.mem_cons, List.not_mem_nil, or_false] at hw
    rcases hw with rfl | rfl | rfl
    · exact wT_good _ h.1.1
    · exact wT_good _ h.1.2.1
    · exact wT_good _ h.1.2.2
  · exact good_code h.2.1 w hw
/-- what a call leaves of the heap beside the store: all else stays; the store's cells are its own or new -/
def Fr (S : HS) (H : Heap) (S' : HS) (H1 : Heap) : Prop := H.size ≤ H1.size ∧ (∀ q : Nat, q < H.size → ¬ AS (hL S) (hz S) q → H1[q]? = H[q]?) ∧ ∀ q ∈ hL S', AS (hL S) (hz S) q
section CALLS
variable {p : Program} {l : Launch} {e : Env} {R : Room} {s : State} {m : MethodId} {args : Array Value} {below : List Frame} {meth : Method} {c : Code} {H : Heap} {locs : List Loc} {cells slots : Nat} {Q : State → Prop}
variable {cc bytes : ByteArray} {pc maxL nL index n fr lo mc ms : Nat} {ls : Array Slot} {st rest As : List Value} {D : va_G} {AC : Nat → ClassId} {A : Nat → Prop} {H0 : Heap} {S : HS} {b K : Nat} {own C : String} {y : MethodName} {ret : Option FieldType}
theorem Wd.blind (av : List Value) : FrameBlind (CPre D AC S av) := fun a U g mk q => by
  obtain ⟨q0, q1, qK, qP, qD, qO, qX, qT⟩ := q
  exact ⟨q0, q1, va_K.moved (u := U) (U := U.calling g mk a) (Vm.Alike.refl U.vm) qK, qP, qD, qO, NX.same (u := U) (U := U.calling g mk a) rfl qX, qT⟩
theorem Wd.pre (hW : Wd D AC A s H0 H locs S) (av : List Value) : ∀ U : State, U.heap = H → s.WarmedH U.vm → CPre D AC S av av.toArray U := fun U hU hw =>
  ⟨rfl, by rw [hU]; exact hW.z, va_K.moved hw.alike hW.wK, by rw [hU]; exact hW.wP, hW.wD.weaken (fun _ _ _ _ => trivial), hW.ok, hW.nx.warm hw, by rw [hU]; exact hW.t⟩
theorem Wd.recv (hW : Wd D AC A s H0 H locs S) (hk : kd S b = K) (hK : K ≠ 0 ∧ aK K = 0 ∧ ∃ r : vw_C, vwCl[K - 1]? = some r ∧ r.1 = C) : ∃ cellB : Cell, H[b]? = some cellB ∧ cellB.vm.isStatics = false ∧ s.vm.findClass C = some cellB.cls := by
  obtain ⟨h0, h1, r, h2, h3⟩ := hK
  obtain ⟨q0, hq⟩ := hW.in hk h0
  rw [eC_obj hk h1] at hq
  subst h3
  exact va_recv hW.wK hW.wP h2 hq
theorem Wd.free (hW : Wd D AC A s H0 H locs S) : ∀ q, AS (hL S) (hz S) q → A q := fun q h => by
  rcases h with h | h
  · obtain ⟨k, hk⟩ := va_pl_get (X := []) (f := eC AC S) h
    exact hW.wD.2 k _ hk
  · exact hW.wA q (Nat.le_trans hW.wS.1 (by rw [hW.z]; exact h))
theorem Wd.back {S' : HS} {t : State} {H1 : Heap} {locs1 : List Loc} (hW : Wd D AC A s H0 H locs S) (ht : t.heap = H1) (hvm : s.vm.Alike t.vm) (hB : CB D AC S S' t) (hzz : H.size ≤ H1.size) (hk : ∀ q : Nat, q < H.size → ¬ AS (hL S) (hz S) q → H1[q]? = H[q]?) (hS : va_S A H0 H1 locs1) : Wd D AC A s H0 H1 locs1 S' ∧ mono S S' ∧ Fr S H S' H1 := by
  obtain ⟨h1, h2, h3, h4, h5, h6, h7⟩ := hB
  refine ⟨⟨va_K.moved hvm.symm h1, by rw [← ht]; exact h2, ⟨h3.1, fun k q hq => hW.free _ (h3.2 k q hq)⟩, hS, hW.wA, h4, by rw [← ht]; exact h6, hW.nx, by rw [← ht]; exact h7⟩, h5, hzz, hk, fun q hq => ?_⟩
  obtain ⟨k, hk2⟩ := va_pl_get (X := []) (f := eC AC S') hq
  exact h3.2 k _ hk2
abbrev RmOk (R : Room) (cells slots fr lo maxL mc ms : Nat) : Prop := (fr + 1 ≤ R.frames ∧ 8 + (maxL + 11) + lo ≤ R.locals) ∧ (cells + mc ≤ R.cells ∧ slots + ms ≤ R.slots)
theorem k_Vi {post : Int32 → HS → Prop} (hC : CtI l y (Cond.code y bytes maxL ret :: wT) fr lo D AC S (.ref b :: As) mc ms post) (CV : cV own index C y bytes maxL ret n) (hK : K ≠ 0 ∧ aK K = 0 ∧ ∃ r : vw_C, vwCl[K - 1]? = some r ∧ r.1 = C) (hexec : p.tables.exec = Jvm.exec) (hb : c.code = cc) (hml : c.maxLocals = nL) (hown : s.vm.findClass own = some m.cls) (hts : ∀ w ∈ wT, w.before args s = true) (hW : Wd D AC A s H0 H locs S) (hk : kd S b = K) (hls : ls.size = nL) (hn : As.length = n) (hst : st = As.reverse ++ .ref b :: rest) (hw : (rest.map fun v => v.category).sum ≤ 8) (hrm : RmOk R cells slots fr lo maxL mc ms) (hdg : decode cc pc = .ok (.invokevirtual index, 3))
    (kk : ∀ (r : Int32) (S' : HS) (H1 : Heap) (locs1 : List Loc), post r S' → Wd D AC A s H0 H1 locs1 S' → mono S S' → Fr S H S' H1 → W p l e R s m args below meth c H1 locs1 (cells + mc) (slots + ms) Q (F0 m (pc + 3) ls (.int r :: rest))) : W p l e R s m args below meth c H locs cells slots Q (F0 m pc ls st) := by
  subst hst
  exact va_calli (va_runV (As := As) (rest := rest) ⟨hexec, hb, hml, hown, hts⟩ hC (cwV n hts (good_V CV) rfl rfl rfl CV.2.2 hrm.1) ⟨Wd.blind _, hW.recv hk hK, hW.pre _⟩ rfl hn hls rfl (lv_room hw) hdg hrm.2) hW.wS (fun q _ h => hW.free q h) hW.free (fun r S' t H1 locs1 ht hvm hp hB hz hk1 hS => by
    obtain ⟨z1, z2, z3⟩ := hW.back ht hvm hB hz hk1 hS
    exact kk r S' H1 locs1 hp z1 z2 z3)
theorem k_Vl {post : Int64 → HS → Prop} (hC : CtL l y (Cond.code y bytes maxL ret :: wT) fr lo D AC S (.ref b :: As) mc ms post) (CV : cV own index C y bytes maxL ret n) (hK : K ≠ 0 ∧ aK K = 0 ∧ ∃ r : vw_C, vwCl[K - 1]? = some r ∧ r.1 = C) (hexec : p.tables.exec = Jvm.exec) (hb : c.code = cc) (hml : c.maxLocals = nL) (hown : s.vm.findClass own = some m.cls) (hts : ∀ w ∈ wT, w.before args s = true) (hW : Wd D AC A s H0 H locs S) (hk : kd S b = K) (hls : ls.size = nL) (hn : As.length = n) (hst : st = As.reverse ++ .ref b :: rest) (hw : (rest.map fun v => v.category).sum ≤ 8) (hrm : RmOk R cells slots fr lo maxL mc ms) (hdg : decode cc pc = .ok (.invokevirtual index, 3))
    (kk : ∀ (r : Int64) (S' : HS) (H1 : Heap) (locs1 : List Loc), post r S' → Wd D AC A s H0 H1 locs1 S' → mono S S' → Fr S H S' H1 → W p l e R s m args below meth c H1 locs1 (cells + mc) (slots + ms) Q (F0 m (pc + 3) ls (.long r :: rest))) : W p l e R s m args below meth c H locs cells slots Q (F0 m pc ls st) := by
  subst hst
  exact va_calll (va_runV (As := As) (rest := rest) ⟨hexec, hb, hml, hown, hts⟩ hC (cwV n hts (good_V CV) rfl rfl rfl CV.2.2 hrm.1) ⟨Wd.blind _, hW.recv hk hK, hW.pre _⟩ rfl hn hls rfl (lv_room hw) hdg hrm.2) hW.wS (fun q _ h => hW.free q h) hW.free (fun r S' t H1 locs1 ht hvm hp hB hz hk1 hS => by
    obtain ⟨z1, z2, z3⟩ := hW.back ht hvm hB hz hk1 hS
    exact kk r S' H1 locs1 hp z1 z2 z3)
theorem k_Vv {post : HS → Prop} (hC : CtV l y (Cond.code y bytes maxL ret :: wT) fr lo D AC S (.ref b :: As) mc ms post) (CV : cV own index C y bytes maxL ret n) (hK : K ≠ 0 ∧ aK K = 0 ∧ ∃ r : vw_C, vwCl[K - 1]? = some r ∧ r.1 = C) (hexec : p.tables.exec = Jvm.exec) (hb : c.code = cc) (hml : c.maxLocals = nL) (hown : s.vm.findClass own = some m.cls) (hts : ∀ w ∈ wT, w.before args s = true) (hW : Wd D AC A s H0 H locs S) (hk : kd S b = K) (hls : ls.size = nL) (hn : As.length = n) (hst : st = As.reverse ++ .ref b :: rest) (hw : (rest.map fun v => v.category).sum ≤ 8) (hrm : RmOk R cells slots fr lo maxL mc ms) (hdg : decode cc pc = .ok (.invokevirtual index, 3))
    (kk : ∀ (S' : HS) (H1 : Heap) (locs1 : List Loc), post S' → Wd D AC A s H0 H1 locs1 S' → mono S S' → Fr S H S' H1 → W p l e R s m args below meth c H1 locs1 (cells + mc) (slots + ms) Q (F0 m (pc + 3) ls rest)) : W p l e R s m args below meth c H locs cells slots Q (F0 m pc ls st) := by
  subst hst
  exact va_callv (va_runV (As := As) (rest := rest) ⟨hexec, hb, hml, hown, hts⟩ hC (cwV n hts (good_V CV) rfl rfl rfl CV.2.2 hrm.1) ⟨Wd.blind _, hW.recv hk hK, hW.pre _⟩ rfl hn hls rfl (lv_room hw) hdg hrm.2) hW.wS (fun q _ h => hW.free q h) hW.free (fun S' t H1 locs1 ht hvm hp hB hz hk1 hS => by
    obtain ⟨z1, z2, z3⟩ := hW.back ht hvm hB hz hk1 hS
    exact kk S' H1 locs1 hp z1 z2 z3)
theorem k_Vq {post : Option Nat → HS → Prop} (hC : CtQ l y (Cond.code y bytes maxL ret :: wT) fr lo D AC S (.ref b :: As) mc ms post) (CV : cV own index C y bytes maxL ret n) (hK : K ≠ 0 ∧ aK K = 0 ∧ ∃ r : vw_C, vwCl[K - 1]? = some r ∧ r.1 = C) (hexec : p.tables.exec = Jvm.exec) (hb : c.code = cc) (hml : c.maxLocals = nL) (hown : s.vm.findClass own = some m.cls) (hts : ∀ w ∈ wT, w.before args s = true) (hW : Wd D AC A s H0 H locs S) (hk : kd S b = K) (hls : ls.size = nL) (hn : As.length = n) (hst : st = As.reverse ++ .ref b :: rest) (hw : (rest.map fun v => v.category).sum ≤ 8) (hrm : RmOk R cells slots fr lo maxL mc ms) (hdg : decode cc pc = .ok (.invokevirtual index, 3))
    (kk : ∀ (r : Option Nat) (S' : HS) (H1 : Heap) (locs1 : List Loc), post r S' → Wd D AC A s H0 H1 locs1 S' → mono S S' → Fr S H S' H1 → W p l e R s m args below meth c H1 locs1 (cells + mc) (slots + ms) Q (F0 m (pc + 3) ls (va_rf r :: rest))) : W p l e R s m args below meth c H locs cells slots Q (F0 m pc ls st) := by
  subst hst
  exact va_callq (va_runV (As := As) (rest := rest) ⟨hexec, hb, hml, hown, hts⟩ hC (cwV n hts (good_V CV) rfl rfl rfl CV.2.2 hrm.1) ⟨Wd.blind _, hW.recv hk hK, hW.pre _⟩ rfl hn hls rfl (lv_room hw) hdg hrm.2) hW.wS (fun q _ h => hW.free q h) hW.free (fun r S' t H1 locs1 ht hvm hp hB hz hk1 hS => by
    obtain ⟨z1, z2, z3⟩ := hW.back ht hvm hB hz hk1 hS
    exact kk r S' H1 locs1 hp z1 z2 z3)
theorem k_Si {post : Int32 → HS → Prop} (hC : CtI l y (Cond.code y bytes maxL ret :: wT) fr lo D AC S As mc ms post) (CV : cS own index y bytes maxL ret n) (hexec : p.tables.exec = Jvm.exec) (hb : c.code = cc) (hml : c.maxLocals = nL) (hown : s.vm.findClass own = some m.cls) (hts : ∀ w ∈ wT, w.before args s = true) (hW : Wd D AC A s H0 H locs S) (hls : ls.size = nL) (hn : As.length = n) (hst : st = As.reverse ++ rest) (hw : (rest.map fun v => v.category).sum ≤ 8) (hrm : RmOk R cells slots fr lo maxL mc ms) (hdg : decode cc pc = .ok (.invokestatic index, 3))
    (kk : ∀ (r : Int32) (S' : HS) (H1 : Heap) (locs1 : List Loc), post r S' → Wd D AC A s H0 H1 locs1 S' → mono S S' → Fr S H S' H1 → W p l e R s m args below meth c H1 locs1 (cells + mc) (slots + ms) Q (F0 m (pc + 3) ls (.int r :: rest))) : W p l e R s m args below meth c H locs cells slots Q (F0 m pc ls st) := by
  subst hst
  exact va_calli (va_runS (As := As) (rest := rest) ⟨hexec, hb, hml, hown, hts⟩ hC (cwS n hts (good_S CV) rfl rfl rfl CV.2.2 hrm.1) ⟨Wd.blind _, hW.pre _⟩ rfl hn hls rfl (lv_room hw) hdg hrm.2) hW.wS (fun q _ h => hW.free q h) hW.free (fun r S' t H1 locs1 ht hvm hp hB hz hk1 hS => by
    obtain ⟨z1, z2, z3⟩ := hW.back ht hvm hB hz hk1 hS
    exact kk r S' H1 locs1 hp z1 z2 z3)
theorem k_Iv {post : HS → Prop} (hC : CtV l y (Cond.code y bytes maxL none :: wT) fr lo D AC S (.ref b :: As) mc ms post) (CV : cI own index y bytes maxL n) (hexec : p.tables.exec = Jvm.exec) (hb : c.code = cc) (hml : c.maxLocals = nL) (hown : s.vm.findClass own = some m.cls) (hts : ∀ w ∈ wT, w.before args s = true) (hW : Wd D AC A s H0 H locs S) (hls : ls.size = nL) (hn : As.length = n) (hst : st = As.reverse ++ .ref b :: rest) (hw : (rest.map fun v => v.category).sum ≤ 8) (hrm : RmOk R cells slots fr lo maxL mc ms) (hdg : decode cc pc = .ok (.invokespecial index, 3))
    (kk : ∀ (S' : HS) (H1 : Heap) (locs1 : List Loc), post S' → Wd D AC A s H0 H1 locs1 S' → mono S S' → Fr S H S' H1 → W p l e R s m args below meth c H1 locs1 (cells + mc) (slots + ms) Q (F0 m (pc + 3) ls rest)) : W p l e R s m args below meth c H locs cells slots Q (F0 m pc ls st) := by
  subst hst
  exact va_callv (va_runI (As := As) (rest := rest) ⟨hexec, hb, hml, hown, hts⟩ hC (cwI n hts (good_code CV.2.1) rfl rfl rfl (hts _ CV.1.2.2.1) (hts _ CV.1.1) (hts _ CV.1.2.1) CV.1.2.2.2 CV.2.2 hrm.1) ⟨Wd.blind _, hW.pre _⟩ rfl hn hls rfl (lv_room hw) hdg hrm.2) hW.wS (fun q _ h => hW.free q h) hW.free (fun S' t H1 locs1 ht hvm hp hB hz hk1 hS => by
    obtain ⟨z1, z2, z3⟩ := hW.back ht hvm hB hz hk1 hS
    exact kk S' H1 locs1 hp z1 z2 z3)
def cN (own : String) (index : Nat) (y : MethodName) (host : String) (bytes : ByteArray) (maxL : Nat) (n : Nat) : Prop := (∀ s, NX s → va_Nw (.methodLinkNest own index y host) s) ∧ (Cond.instanceMethod y ∈ wT ∧ Cond.initialized y.cls ∈ wT ∧ y.name = "<init>") ∧ Cond.code y bytes maxL none ∈ wT ∧ (y.cls ≠ "java/lang/invoke/MethodHandle" ∧ y.cls ≠ "java/lang/invoke/VarHandle" ∧ (parseMethodDescriptor y.desc).map (fun d => d.parameters.length) = some n)
theorem k_Nv {host : String} {post : HS → Prop} (hC : CtV l y (Cond.code y bytes maxL none :: wT) fr lo D AC S (.ref b :: As) mc ms post) (CV : cN own index y host bytes maxL n) (hexec : p.tables.exec = Jvm.exec) (hb : c.code = cc) (hml : c.maxLocals = nL) (hown : s.vm.findClass own = some m.cls) (hts : ∀ w ∈ wT, w.before args s = true) (hW : Wd D AC A s H0 H locs S) (hls : ls.size = nL) (hn : As.length = n) (hst : st = As.reverse ++ .ref b :: rest) (hw : (rest.map fun v => v.category).sum ≤ 8) (hrm : RmOk R cells slots fr lo maxL mc ms) (hdg : decode cc pc = .ok (.invokespecial index, 3))
    (kk : ∀ (S' : HS) (H1 : Heap) (locs1 : List Loc), post S' → Wd D AC A s H0 H1 locs1 S' → mono S S' → Fr S H S' H1 → W p l e R s m args below meth c H1 locs1 (cells + mc) (slots + ms) Q (F0 m (pc + 3) ls rest)) : W p l e R s m args below meth c H locs cells slots Q (F0 m pc ls st) := by
  subst hst
  exact va_callv (va_runIN (As := As) (rest := rest) ⟨hexec, hb, hml, hown, hts⟩ hC ⟨va_cnB n hts (good_code CV.2.2.1) rfl rfl rfl (CV.1 s hW.nx) (hts _ CV.2.1.2.1) CV.2.2.2 hrm.1, CV.2.1.2.2, hts _ CV.2.1.1⟩ ⟨Wd.blind _, hW.pre _⟩ rfl hn hls rfl (lv_room hw) hdg hrm.2) hW.wS (fun q _ h => hW.free q h) hW.free (fun S' t H1 locs1 ht hvm hp hB hz hk1 hS => by
    obtain ⟨z1, z2, z3⟩ := hW.back ht hvm hB hz hk1 hS
    exact kk S' H1 locs1 hp z1 z2 z3)
end CALLS
section OINIT
variable {p : Program} {l : Launch} {e : Env} {R : Room} {s : State} {m : MethodId} {args : Array Value} {below : List Frame} {meth : Method} {c : Code} {H : Heap} {locs : List Loc} {cells slots : Nat} {Q : State → Prop}
variable {cc : ByteArray} {pc nL idx a : Nat} {ls : Array Slot} {rest : List Value} {own : String}
theorem o_init (O : Cond.methodLink own idx objectInit ∈ wT ∧ Cond.instanceMethod objectInit ∈ wT ∧ Cond.code objectInit ⟨#[0xb1]⟩ 1 none ∈ wT) (hexec : p.tables.exec = Jvm.exec) (hb : c.code = cc) (hown : s.vm.findClass own = some m.cls) (hts : ∀ w ∈ wT, w.before args s = true) (hml : c.maxLocals = nL) (hls : ls.size = nL) (hdg : decode cc pc = .ok (.invokespecial idx, 3)) (hfr : 1 ≤ R.frames) (hlo : (rest.map fun v => v.category).sum + 12 ≤ R.locals)
    (kk : W p l e R s m args below meth c H locs cells slots Q (F0 m (pc + 3) ls rest)) : W p l e R s m args below meth c H locs cells slots Q (F0 m pc ls (.ref a :: rest)) :=
  W.objInit hexec hb hown (hts _ O.1) (hts _ O.2.1) (hts _ O.2.2) rfl (hls.trans hml.symm) rfl hdg hfr (by show 2 * 0 + _ + 12 ≤ _; omega) kk
end OINIT
