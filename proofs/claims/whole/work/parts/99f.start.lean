-- THE LAW'S START
def empS (z t : Nat) : HS := (z, t, [], fun _ => 0, fun _ _ => 0, fun _ _ => 0, fun _ _ => none, fun _ => 0, fun _ _ => 0, fun _ _ => 0, fun _ _ => none)
theorem emp_ok {z t : Nat} : hOk (empS z t) := ⟨fun a h => absurd rfl h, fun k a b h => absurd h.symm (rO_ne k), fun a j b h => absurd rfl h⟩
theorem pl_emp {AC : Nat → ClassId} {z t : Nat} : pool AC (empS z t) = [] := rfl
theorem Wd0 {D : va_G} {AC : Nat → ClassId} {s : State} (hK : va_K D vwCl (aTys AC) s) (nx : NX s) : Wd D AC (fun q => s.heap.size ≤ q) s s.heap s.heap [] (empS s.heap.size (hts s.heap)) := by
  refine ⟨hK, ?_, ?_, va_S.rf, fun q h => h, emp_ok, rfl, nx, rfl⟩
  · rw [pl_emp]
    intro k q h
    simp at h
  · rw [pl_emp]
    exact ⟨fun i j p q h => by simp at h, fun k q h => by simp at h⟩
section START
variable {p : Program} {l : Launch} {e : Env} {R : Room} {s : State} {m : MethodId} {args : Array Value} {below : List Frame} {meth : Method} {c : Code} {H : Heap} {locs : List Loc} {cells slots : Nat} {Q : State → Prop}
variable {cc : ByteArray} {pc : Nat} {ls : Array Slot} {rest : List Value} {D : va_G} {AC : Nat → ClassId} {A : Nat → Prop} {H0 : Heap} {S : HS} {a K j k : Nat}
theorem Wd_em (hW : Wd D AC A s H0 H locs S) : Wd D AC A s H0 H locs (empS (hz S) (tz S)) := by
  refine ⟨hW.wK, ?_, ?_, hW.wS, hW.wA, emp_ok, hW.z, hW.nx, hW.t⟩
  · rw [pl_emp]
    intro k q h
    simp at h
  · rw [pl_emp]
    exact ⟨fun i j p q h => by simp at h, fun k q h => by simp at h⟩
theorem n_oF {own C : String} {T : u_T} {N index : Nat} (hK : K ≠ 0 ∧ aK K = 0 ∧ aE K = 0 ∧ vwCl[K - 1]? = some (C, T, N)) (hln : (lay K).length = N) (hT : ∃ ty : Nat → FieldType, (∀ k, k < N → parseFieldDescriptor (T k).2.2.1 = some (ty k)) ∧ ∀ S q, ∀ j, j < N → defaultValue (ty j) = vp_V ((lay K).map (fv (newQ S q K) q)) j) (hin : ∀ w ∈ u_ws C T N, w ∈ wT) (hl : Cond.classLink own index C ∈ wT ∧ Cond.instantiable C N ∈ wT ∧ Cond.initialized C ∈ wT)
    (hexec : p.tables.exec = Jvm.exec) (hb : c.code = cc) (hts : ∀ w ∈ wT, w.before args s = true) (hown : s.vm.findClass own = some m.cls) (hW : Wd D AC A s H0 H locs S) (hrm : cells + 1 ≤ R.cells ∧ slots + N ≤ R.slots) (q : Nat) (hq : hz S = q) (hdg : decode cc pc = .ok (.new index, 3))
    (kk : ∀ (H1 : Heap), Wd D AC A s H0 H1 locs (newQ S q K) → kd (newQ S q K) q = K → (∀ i : Nat, i < q → H1[i]? = H[i]?) → W p l e R s m args below meth c H1 locs (cells + 1) (slots + N) Q (F0 m (pc + 3) ls (.ref q :: rest))) : W p l e R s m args below meth c H locs cells slots Q (F0 m pc ls rest) := by
  subst hq
  obtain ⟨ty, hty, hfs⟩ := hT
  have hKn := hW.wK.1 (K - 1) _ hK.2.2.2
  refine W.newcK hexec hb hown (hts _ hl.1) (hts _ hl.2.1) (hts _ hl.2.2) rfl hdg hrm.1 hrm.2 hKn.2.1 hW.z (fun H1 kC hkC e1 z1 o1 => ?_)
  refine kk H1 (hW.grow (x := .inr (K - 1, (lay K).map (fv (newQ S (hz S) K) (hz S)))) ⟨_, hK.2.2.2, (u_born ty hts hin hKn hkC e1 hty).to (hfs S (hz S))⟩ z1 o1 (eC_newQ hW.fresh hK.2.1) (hW.ok.newQ hW.fresh hK.2.2.1 rO_ne rT_ne rfl) e1 ⟨rfl, ?_⟩) (va_up_self _ _ _) o1
  show tz S + (lay K).length = tz S + _
  obtain ⟨c9, k9, f1, f2, -, -, -, f6⟩ := Cond.instantiable_spec (hts _ hl.2.1)
  obtain rfl : c9 = D.1 (K - 1) := Option.some.inj (f1.symm.trans hKn.2.1)
  obtain rfl : k9 = kC := Option.some.inj (f2.symm.trans hkC)
  rw [show (blank (D.1 (K - 1)) k9).slots.size = k9.instanceTypes.size by simp [blank], f6, hln]
theorem n_lF {t0 n : Nat} {x : Int32} (hK : K ≠ 0 ∧ aK K = 2 ∧ ∀ k, rO k ≠ K) (ht : (aTys AC)[t0]? = some (AC K, .long)) (hin : Cond.arrayClass (newarray.typeOf .long) ∈ wT) (hexec : p.tables.exec = Jvm.exec) (hb : c.code = cc) (hts : ∀ w ∈ wT, w.before args s = true) (hW : Wd D AC A s H0 H locs S) (hx : x = nI n) (hn : n < 2 ^ 20) (hrm : cells + 1 ≤ R.cells ∧ slots + n ≤ R.slots) (q : Nat) (hq : hz S = q) (hdg : decode cc pc = .ok (.newarray .long, 2))
    (kk : ∀ (H1 : Heap), Wd D AC A s H0 H1 locs (newB S q K n) → kd (newB S q K n) q = K → (∀ i : Nat, i < q → H1[i]? = H[i]?) → W p l e R s m args below meth c H1 locs (cells + 1) (slots + n) Q (F0 m (pc + 2) ls (.ref q :: rest))) : W p l e R s m args below meth c H locs cells slots Q (F0 m pc ls (.int x :: rest)) := by
  subst hx
  subst hq
  refine va_newaK hexec hb (hts _ hin) rfl hdg rfl (nI_pos (by omega)) (nI_clamp (by omega)) (by show n * 8 ≤ _; omega) hrm.1 hrm.2 hW.z (fun H1 cA e1 z1 o1 hAr hNm => ?_)
  have e : cA = AC K := by
    have a1 := (hW.wK.2 t0 _ ht).2
    exact Option.some.inj (hNm.symm.trans a1)
  subst e
  refine kk H1 (hW.grow (x := .inl (AC K, n, .inr (.inl (fun _ => 0)))) ?_ z1 o1 (eC_newA hW.fresh ?_) (hW.ok.newB hW.fresh hK.2.2 rO_ne rT_ne) e1 ⟨rfl, by show tz S + n = tz S + (arrV _ _ _).slots.size; rw [arrV_size]⟩) (va_up_self _ _ _) o1
  · show H1[hz S]? = some (vp_cell _ _)
    rw [e1, vp_cell_l]
    rfl
  · rw [eC_longs (S := newB S (hz S) K n) (va_up_self _ _ _) hK.2.1]
    show Sum.inl (AC K, va_up (an S) (hz S) n (hz S), Sum.inr (Sum.inl (va_up (al S) (hz S) (fun _ => 0) (hz S)))) = _
    rw [va_up_self, va_up_self]
theorem Fr_new {S' : HS} {H1 : Heap} (hz0 : H.size = hz S) (h1 : H1.size = hz S + 1) (o1 : ∀ q : Nat, q < hz S → H1[q]? = H[q]?) (hl : hL S' = hL S ++ [hz S]) : Fr S H S' H1 := by
  refine ⟨by omega, fun q hq _ => o1 q (by omega), fun q hq => ?_⟩
  rw [hl] at hq
  rcases List.mem_append.mp hq with h | h
  · exact Or.inl h
  · rw [List.mem_singleton] at h
    exact Or.inr (by omega)
theorem hsP0 {z t : Nat} (hW : Wd D AC A s H0 H locs (newQ (empS z t) z 9)) : Wd D AC A s H0 H locs (hsP z (t + 35) 0 0) := by
  refine hW.same rfl ⟨rfl, rfl⟩ (fun b hb => ?_) (hsP_ok (Nat.le_refl _) (by omega))
  have hb : b ∈ [z] := hb
  rw [List.mem_singleton] at hb
  subst hb
  rw [eC_obj (K := 9) hsP_k rfl, eC_obj (S := newQ (empS b t) b 9) (a := b) (K := 9) (va_up_self _ _ _) rfl]
  have e : fv (hsP b (t + 35) 0 0) b = fv (newQ (empS b t) b 9) b := by
    refine fv_eq (fun k => ?_) (fun k => ?_) (fun k => ?_)
    · show (0 : Int32) = (if b = b then 0 else 0)
      rw [if_pos rfl]
    · show (0 : Int64) = (if b = b then 0 else 0)
      rw [if_pos rfl]
    · show (if b = b ∧ 22 ≤ k ∧ k < 22 + 0 then some (b + 1 + (k - 22)) else none) = (if b = b then none else none)
      rw [if_neg (by omega), if_pos rfl]
  rw [e]
end START
theorem arrI {s : State} {a : Array Value} {ty : FieldType} (h : (Cond.arrayClass ty).before a s = true) : ∃ cA : ClassId, ArrOfT s cA ty ∧ s.vm.findClass ("[" ++ ty.toString) = some cA := by
  obtain ⟨c, k, comp, h1, h2, h3⟩ := Cond.arrayClass_spec h
  exact ⟨c, fun n z => ⟨fun k h => (by cases h), k, h2, comp, h3⟩, h1⟩
theorem arrO {s : State} {C : String} (h : va_AO C s) : ∃ cA : ClassId, ArrOfT s cA (.object C) ∧ va_RA s cA (.object C) := by
  obtain ⟨comp, c, k, h1, h2, h3, h4, h5⟩ := Cond.arrayOver_spec h
  exact ⟨c, fun n z => ⟨fun k h => (by cases h), k, h3, comp, h4⟩, k, comp, h3, h4, h1, h5⟩
set_option maxRecDepth 100000 in
theorem NX_in : Cond.methodLinkNest RAT 29 yNotes_init "AlarmTables" ∈ lw_tbl ∧ Cond.methodLinkNest RNotes 24 yPage_init "AlarmTables" ∈ lw_tbl ∧ Cond.arrayOver (.object RCounter) ∈ lw_tbl ∧ Cond.arrayOver (.object RAlarm) ∈ lw_tbl ∧ Cond.arrayOver (.object RTable) ∈ lw_tbl ∧ Cond.arrayOver (.object RPage) ∈ lw_tbl := by decide +kernel
set_option maxRecDepth 100000 in
theorem own_in : ∀ w ∈ ownL, w ∈ lw_tbl ∨ w ∈ flatC (Jvm.Cond.and given_1 narrow_1) := by decide +kernel
set_option maxRecDepth 100000 in
theorem str_in : Cond.stringRef RAT 44 msgX ∈ lw_tbl := by decide +kernel
set_option maxRecDepth 100000 in
theorem inst_in : Cond.instantiable RAct 2 ∈ wT ∧ Cond.instantiable RAlarm 7 ∈ wT ∧ Cond.instantiable RCounter 12 ∈ wT ∧ Cond.instantiable RNotes 3 ∈ wT ∧ Cond.instantiable RPage 1 ∈ wT ∧ Cond.instantiable RPoint 3 ∈ wT ∧ Cond.instantiable RTable 12 ∈ wT ∧ Cond.instantiable RAT 8 ∈ wT ∧ Cond.instantiable RMod 35 ∈ wT := by decide +kernel
set_option maxRecDepth 100000 in
theorem arr_in : Cond.arrayClass .int ∈ wT ∧ Cond.arrayClass .long ∈ wT ∧ Cond.arrayClass .boolean ∈ wT := by decide +kernel
theorem lw_NX {s : State} {a : Array Value} (h : ∀ w ∈ lw_tbl, w.before a s = true) : NX s := ⟨va_Nw.of rfl (h _ NX_in.1), va_Nw.of rfl (h _ NX_in.2.1), va_AO.of (h _ NX_in.2.2.1), va_AO.of (h _ NX_in.2.2.2.1), va_AO.of (h _ NX_in.2.2.2.2.1), va_AO.of (h _ NX_in.2.2.2.2.2)⟩
theorem lw_Th {s : State} {a : Array Value} (h : ∀ w ∈ lw_tbl, w.before a s = true) (hgv : (Jvm.Cond.and given_1 narrow_1).before a s = true) (hf : ∃ cur, s.vm.findClass RAT = some cur) : ∃ sa, ThW sa a s := by
  obtain ⟨cur, hcur⟩ := hf
  obtain ⟨k, cf, i, sa, -, -, -, -, -, he⟩ := Cond.stringRef_spec hcur (h _ str_in)
  exact ⟨sa, fun w hw => (own_in w hw).elim (h w) (flat_of_before _ hgv w), vk_R.of (h _ str_in) he⟩
theorem lw_K {s : State} {a : Array Value} (h : ∀ w ∈ wT, w.before a s = true) (nx : NX s) : ∃ (D : va_G) (AC : Nat → ClassId), va_K D vwCl (aTys AC) s := by
  have key : ∀ (k : Nat) (q : vw_C), vwCl[k]? = some q → ∃ (cC : ClassId) (iS : Nat → Nat), u_Kn s q.1 q.2.1 q.2.2 cC iS := by
    intro k q hq
    match k, hq with
    | 0, hq => cases hq; exact u_known h iwAct (h _ inst_in.1)
    | 1, hq => cases hq; exact u_known h iwAlarm (h _ inst_in.2.1)
    | 2, hq => cases hq; exact u_known h iwCounter (h _ inst_in.2.2.1)
    | 3, hq => cases hq; exact u_known h iwNotes (h _ inst_in.2.2.2.1)
    | 4, hq => cases hq; exact u_known h iwPage (h _ inst_in.2.2.2.2.1)
    | 5, hq => cases hq; exact u_known h iwPoint (h _ inst_in.2.2.2.2.2.1)
    | 6, hq => cases hq; exact u_known h iwTable (h _ inst_in.2.2.2.2.2.2.1)
    | 7, hq => cases hq; exact u_known h iwAT (h _ inst_in.2.2.2.2.2.2.2.1)
    | 8, hq => cases hq; exact u_known h iwMod (h _ inst_in.2.2.2.2.2.2.2.2)
    | k + 9, hq => simp at hq
  have hk : ∀ k : Nat, ∃ (cC : ClassId) (iS : Nat → Nat), ∀ q : vw_C, vwCl[k]? = some q → u_Kn s q.1 q.2.1 q.2.2 cC iS := by
    intro k
    cases hq : vwCl[k]? with
    | none => exact ⟨0, fun _ => 0, fun q h => by cases h⟩
    | some q =>
      obtain ⟨cC, iS, h1⟩ := key k q hq
      exact ⟨cC, iS, fun q' h' => by cases h'; exact h1⟩
  obtain ⟨c1, p1, r1⟩ := arrI (h _ arr_in.1)
  obtain ⟨c2, p2, r2⟩ := arrI (h _ arr_in.2.1)
  obtain ⟨c3, p3, r3⟩ := arrI (h _ arr_in.2.2)
  obtain ⟨c4, p4, r4⟩ := arrO nx.2.2.1
  obtain ⟨c5, p5, r5⟩ := arrO nx.2.2.2.1
  obtain ⟨c6, p6, r6⟩ := arrO nx.2.2.2.2.1
  obtain ⟨c7, p7, r7⟩ := arrO nx.2.2.2.2.2
  refine ⟨(fun k => (hk k).choose, fun k => (hk k).choose_spec.choose), fun K => if K = 11 then c1 else if K = 12 then c2 else if K = 13 then c3 else if K = 14 then c4 else if K = 15 then c5 else if K = 16 then c6 else c7, fun k q hq => (hk k).choose_spec.choose_spec q hq, fun k q hq => ?_⟩
  match k, hq with
  | 0, hq => cases hq; exact ⟨p1, r1⟩
  | 1, hq => cases hq; exact ⟨p2, r2⟩
  | 2, hq => cases hq; exact ⟨p3, r3⟩
  | 3, hq => cases hq; exact ⟨p4, r4⟩
  | 4, hq => cases hq; exact ⟨p5, r5⟩
  | 5, hq => cases hq; exact ⟨p6, r6⟩
  | 6, hq => cases hq; exact ⟨p7, r7⟩
  | k + 7, hq => simp [aTys] at hq
