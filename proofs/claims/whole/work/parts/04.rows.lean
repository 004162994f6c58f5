-- ROWS OVER THE STORE
section ROWS
variable {p : Program} {l : Launch} {e : Env} {R : Room} {s : State} {m : MethodId} {args : Array Value} {below : List Frame} {meth : Method} {c : Code} {H : Heap} {locs : List Loc} {cells slots : Nat} {Q : State → Prop}
variable {cc : ByteArray} {pc : Nat} {ls : Array Slot} {rest : List Value} {D : va_G} {AC : Nat → ClassId} {A : Nat → Prop} {H0 : Heap} {S : HS} {a K j k : Nat}
theorem Wd.in (hW : Wd D AC A s H0 H locs S) (hk : kd S a = K) (h0 : K ≠ 0) : ∃ q0 : Nat, (pool AC S)[q0]? = some (a, eC AC S a) :=
  va_pl_get (X := []) (f := eC AC S) (hW.2.2.2.2.2.1.1 a (by rw [hk]; exact h0))
theorem Wd.ok (hW : Wd D AC A s H0 H locs S) : hOk S := hW.2.2.2.2.2.1
theorem Wd.z (hW : Wd D AC A s H0 H locs S) : H.size = hz S := hW.2.2.2.2.2.2.1
theorem Wd.nx (hW : Wd D AC A s H0 H locs S) : NX s := hW.2.2.2.2.2.2.2.1
theorem Wd.t (hW : Wd D AC A s H0 H locs S) : hts H = tz S := hW.2.2.2.2.2.2.2.2
theorem Wd.wK (hW : Wd D AC A s H0 H locs S) : va_K D vwCl (aTys AC) s := hW.1
theorem Wd.wP (hW : Wd D AC A s H0 H locs S) : va_P D vwCl (pool AC S) H := hW.2.1
theorem Wd.wD (hW : Wd D AC A s H0 H locs S) : va_D A (pool AC S) := hW.2.2.1
theorem Wd.wS (hW : Wd D AC A s H0 H locs S) : va_S A H0 H locs := hW.2.2.2.1
theorem Wd.wA (hW : Wd D AC A s H0 H locs S) : ∀ q, H0.size ≤ q → A q := hW.2.2.2.2.1
/-- what a field of a class is: its class, its place among the class's fields, its tag -/
def fdOk (own ref C : String) (T : u_T) (N index K j tag k : Nat) : Prop := (K ≠ 0 ∧ aK K = 0 ∧ vwCl[K - 1]? = some (C, T, N) ∧ j < N ∧ (lay K)[j]? = some (tag, k) ∧ (lay K).Nodup) ∧ (∀ w ∈ u_ws C T N, w ∈ wT) ∧ Cond.fieldLink own index ref (T j).2.1 (T j).2.2.1 ∈ wT ∧ ref = (T j).1
theorem g_i {own ref C : String} {T : u_T} {N index : Nat} (F : fdOk own ref C T N index K j 0 k) (hexec : p.tables.exec = Jvm.exec) (hb : c.code = cc) (hts : ∀ w ∈ wT, w.before args s = true) (hown : s.vm.findClass own = some m.cls) (hW : Wd D AC A s H0 H locs S) (hk : kd S a = K) (hdg : decode cc pc = .ok (.getfield index, 3))
    (kk : W p l e R s m args below meth c H locs cells slots Q (F0 m (pc + 3) ls (.int (fi S k a) :: rest))) : W p l e R s m args below meth c H locs cells slots Q (F0 m pc ls (.ref a :: rest)) := by
  obtain ⟨⟨h0, hK, hc, hj, hl, -⟩, hin, hlink, hrf⟩ := F
  obtain ⟨q0, hq⟩ := hW.in hk h0
  rw [eC_obj hk hK] at hq
  exact va_get hexec hb hts hin hown hW.wK hW.wP q0 hq hc j hj (hts _ hlink) (fun x h => by rw [hrf]; exact h) (v := .int (fi S k a)) (by rw [List.getElem?_map, hl]; rfl) hdg kk
theorem g_l {own ref C : String} {T : u_T} {N index : Nat} (F : fdOk own ref C T N index K j 1 k) (hexec : p.tables.exec = Jvm.exec) (hb : c.code = cc) (hts : ∀ w ∈ wT, w.before args s = true) (hown : s.vm.findClass own = some m.cls) (hW : Wd D AC A s H0 H locs S) (hk : kd S a = K) (hdg : decode cc pc = .ok (.getfield index, 3))
    (kk : W p l e R s m args below meth c H locs cells slots Q (F0 m (pc + 3) ls (.long (fl S k a) :: rest))) : W p l e R s m args below meth c H locs cells slots Q (F0 m pc ls (.ref a :: rest)) := by
  obtain ⟨⟨h0, hK, hc, hj, hl, -⟩, hin, hlink, hrf⟩ := F
  obtain ⟨q0, hq⟩ := hW.in hk h0
  rw [eC_obj hk hK] at hq
  exact va_get hexec hb hts hin hown hW.wK hW.wP q0 hq hc j hj (hts _ hlink) (fun x h => by rw [hrf]; exact h) (v := .long (fl S k a)) (by rw [List.getElem?_map, hl]; rfl) hdg kk
/-- a field of references: null, or an object of the field's own kind -/
theorem g_r {own ref C : String} {T : u_T} {N index : Nat} (F : fdOk own ref C T N index K j 2 k) (hO : rO k = K) (hexec : p.tables.exec = Jvm.exec) (hb : c.code = cc) (hts : ∀ w ∈ wT, w.before args s = true) (hown : s.vm.findClass own = some m.cls) (hW : Wd D AC A s H0 H locs S) (hk : kd S a = K) (hdg : decode cc pc = .ok (.getfield index, 3))
    (kn : fr S k a = none → W p l e R s m args below meth c H locs cells slots Q (F0 m (pc + 3) ls (.null :: rest))) (ks : ∀ b, fr S k a = some b → kd S b = rT k → W p l e R s m args below meth c H locs cells slots Q (F0 m (pc + 3) ls (.ref b :: rest))) : W p l e R s m args below meth c H locs cells slots Q (F0 m pc ls (.ref a :: rest)) := by
  obtain ⟨⟨h0, hK, hc, hj, hl, -⟩, hin, hlink, hrf⟩ := F
  obtain ⟨q0, hq⟩ := hW.in hk h0
  rw [eC_obj hk hK] at hq
  refine va_get hexec hb hts hin hown hW.wK hW.wP q0 hq hc j hj (hts _ hlink) (fun x h => by rw [hrf]; exact h) (v := va_rf (fr S k a)) (by rw [List.getElem?_map, hl]; rfl) hdg ?_
  cases hf : fr S k a with
  | none => exact kn hf
  | some b => exact ks b hf (hW.ok.2.1 k a b (by rw [hk, hO]) hf)
theorem g_q {own ref C : String} {T : u_T} {N index : Nat} (F : fdOk own ref C T N index K j 2 k) (hexec : p.tables.exec = Jvm.exec) (hb : c.code = cc) (hts : ∀ w ∈ wT, w.before args s = true) (hown : s.vm.findClass own = some m.cls) (hW : Wd D AC A s H0 H locs S) (hk : kd S a = K) (hdg : decode cc pc = .ok (.getfield index, 3))
    (kk : W p l e R s m args below meth c H locs cells slots Q (F0 m (pc + 3) ls (va_rf (fr S k a) :: rest))) : W p l e R s m args below meth c H locs cells slots Q (F0 m pc ls (.ref a :: rest)) := by
  obtain ⟨⟨h0, hK, hc, hj, hl, -⟩, hin, hlink, hrf⟩ := F
  obtain ⟨q0, hq⟩ := hW.in hk h0
  rw [eC_obj hk hK] at hq
  exact va_get hexec hb hts hin hown hW.wK hW.wP q0 hq hc j hj (hts _ hlink) (fun x h => by rw [hrf]; exact h) (v := va_rf (fr S k a)) (by rw [List.getElem?_map, hl]; rfl) hdg kk
/-- a write at one address: the store behind it -/
theorem Wd.put (hW : Wd D AC A s H0 H locs S) {q0 i0 : Nat} {x : va_E} {S' : HS} {H1 : Heap} (hq : (pool AC S)[q0]? = some (a, eC AC S a)) (ha : a ∈ hL S) (hL' : hL S' = hL S) (hz' : hz S' = hz S ∧ tz S' = tz S) (he : va_up (eC AC S) a x = eC AC S') (hk : hOk S') {c0 : Cell} {iw : Nat} {vw : Value} (hc0 : H[a]? = some c0) (hc1 : H1[a]? = some (c0.setSlot iw vw))
    (h1 : va_at D vwCl (a, x) H1) (h2 : H1.size = H.size) (h3 : ∀ q : Nat, q ≠ a → H1[q]? = H[q]?) : Wd D AC A s H0 H1 (locs ++ [⟨a, i0⟩]) S' := by
  have p1 := hW.wP.set hW.wD hq h1 h3
  have p2 := hW.wD.set (e := x) hq
  have e : (pool AC S).set q0 (a, x) = pool AC S' := by
    have := va_pl_set (X := []) (e := x) hW.wD ha hq
    rw [show (pool AC S).set q0 (a, x) = ([] ++ va_pl (hL S) (eC AC S)).set q0 (a, x) from rfl, this, he]
    show va_pl (hL S) (eC AC S') = va_pl (hL S') (eC AC S')
    rw [hL']
  rw [e] at p1 p2
  exact ⟨hW.wK, p1, p2, hW.wS.put h2 h3 (hW.wD.2 q0 _ hq), hW.wA, hk, by rw [h2, hz'.1]; exact hW.z, hW.nx, by
    rw [hz'.2, ← hW.t]
    refine hts_same h2 (fun q c hc => ?_)
    by_cases hqa : q = a
    · subst hqa
      rw [hc0] at hc
      cases hc
      exact ⟨_, hc1, by simp [Cell.setSlot]⟩
    · exact ⟨c, by rw [h3 q hqa]; exact hc, rfl⟩⟩
/-- what a field is that may be written -/
def fdPut (T : u_T) (N j : Nat) (ty : FieldType) (fin : Bool) : Prop := (T j).2.2.2 = fin ∧ parseFieldDescriptor (T j).2.2.1 = some ty ∧ (∃ ty0 : Nat → FieldType, ∀ k, k < N → parseFieldDescriptor (T k).2.2.1 = some (ty0 k)) ∧ (∀ a, a < N → ∀ b, b < N → a ≠ b → (T a).2.1 ≠ (T b).2.1)
/-- a field's own write: of a final one in its constructor -/
theorem p_v {own ref C : String} {T : u_T} {N index tag : Nat} {ty : FieldType} {fin : Bool} {v : Value} {S' : HS} (F : fdOk own ref C T N index K j tag k) (G : fdPut T N j ty fin) (hinit : fin = true → meth.name = "<init>" ∧ (T j).1 = own) (hexec : p.tables.exec = Jvm.exec) (hb : c.code = cc) (hts : ∀ w ∈ wT, w.before args s = true) (hown : s.vm.findClass own = some m.cls) (hW : Wd D AC A s H0 H locs S) (hk : kd S a = K) (hn : narrow ty v = v) (hfit : fits ty v = true)
    (hL' : hL S' = hL S) (hz' : hz S' = hz S ∧ tz S' = tz S) (he : va_up (eC AC S) a (.inr (K - 1, ((lay K).map (fv S a)).set j v)) = eC AC S') (hok : hOk S') (hdg : decode cc pc = .ok (.putfield index, 3))
    (kk : ∀ (H1 : Heap) (locs1 : List Loc), Wd D AC A s H0 H1 locs1 S' → W p l e R s m args below meth c H1 locs1 cells slots Q (F0 m (pc + 3) ls rest)) : W p l e R s m args below meth c H locs cells slots Q (F0 m pc ls (v :: .ref a :: rest)) := by
  obtain ⟨⟨h0, hK, hc, hj, hl, hnd⟩, hin, hlink, hrf⟩ := F
  obtain ⟨hfin, hd, ⟨ty0, hty⟩, hnm⟩ := G
  obtain ⟨q0, hq0⟩ := hW.in hk h0
  have ha := hW.ok.1 a (by rw [hk]; exact h0)
  have hq := hq0
  rw [eC_obj hk hK] at hq
  have hlen : j < ((lay K).map (fv S a)).length := by rw [List.length_map]; exact (List.getElem?_eq_some_iff.mp hl).1
  have hap := va_apart (own := own) hts hin ty0 hty hnm hW.wK hc
  obtain ⟨r, e1, cell, q1, q2, q3, q4⟩ := hW.wP q0 _ hq
  obtain rfl : r = (C, T, N) := Option.some.inj (e1.symm.trans hc)
  obtain ⟨hSl, hfc, kC, hkC, hkind⟩ := hW.wK.1 (K - 1) _ hc
  obtain ⟨cf, kf, fx, f, hi, hsl⟩ := hSl j hj
  have hst := (u_facts hfc hkC (u_lays hts hin hj) hi).1
  have hlay := hts _ (hin _ (u_in_lay hj))
  unfold u_lay at hlay
  subst hrf
  have hat : ∀ {H1 : Heap}, H1[a]? = some (cell.setSlot f.slot v) → va_at D vwCl (a, .inr (K - 1, ((lay K).map (fv S a)).set j v)) H1 := by
    intro H1 g1
    rw [hsl] at g1
    exact ⟨_, hc, t_OB.to (V := updV (vp_V ((lay K).map (fv S a))) j v) ⟨_, g1, q2, q3, t_set q4 hap hj v⟩ (fun i _ => vp_updV_set hlen v i)⟩
  cases hf : fin with
  | false =>
    rw [if_neg (by rw [hfin, hf]; decide)] at hlay
    have h6 := u_store hfc hkC hkind hlay hi hd hn hfit
    exact W.putK hexec hb (f := f) ⟨hown, hts _ hlink, ⟨_, _, _, hi⟩, hst⟩ (by rw [q2]; exact h6) q1 q3 (by rw [hsl]; exact k2_hasslot (q4 j hj)) rfl rfl hdg (fun H' g1 g2 g3 => kk H' _ (hW.put hq0 ha hL' hz' he hok q1 g1 (hat g1) g2 g3))
  | true =>
    rw [if_pos (by rw [hfin, hf])] at hlay
    obtain ⟨hi2, hdc⟩ := hinit hf
    have hcf : m.cls = cf := by
      obtain ⟨_, _, c', _, _, _, -, -, hf', -, -, -, hown2, -⟩ := Cond.laysFinal_spec hlay
      have e1 : c' = cf := by have := hi.symm.trans hf'; simp at this; exact this.1.symm
      rw [hdc] at hown2
      rw [← e1]; exact Option.some.inj (hown.symm.trans hown2)
    have h6 := u_fits hfc hkC hkind (Or.inr hlay) hi hd hn hfit
    exact W.putFinK hexec hb hown (hts _ hlink) hi hst hcf hi2 (by rw [q2]; exact h6) q1 q3 (by rw [hsl]; exact k2_hasslot (q4 j hj)) rfl rfl hdg (fun H' g1 g2 g3 => kk H' _ (hW.put hq0 ha hL' hz' he hok q1 g1 (hat g1) g2 g3))
theorem p_i {own ref C : String} {T : u_T} {N index : Nat} {ty : FieldType} {fin : Bool} {v : Int32} (F : fdOk own ref C T N index K j 0 k) (G : fdPut T N j ty fin) (hinit : fin = true → meth.name = "<init>" ∧ (T j).1 = own) (hexec : p.tables.exec = Jvm.exec) (hb : c.code = cc) (hts : ∀ w ∈ wT, w.before args s = true) (hown : s.vm.findClass own = some m.cls) (hW : Wd D AC A s H0 H locs S) (hk : kd S a = K) (hn : narrow ty (.int v) = .int v) (hfit : fits ty (.int v) = true) (hdg : decode cc pc = .ok (.putfield index, 3))
    (kk : ∀ (H1 : Heap) (locs1 : List Loc), Wd D AC A s H0 H1 locs1 (sfi S k a v) → W p l e R s m args below meth c H1 locs1 cells slots Q (F0 m (pc + 3) ls rest)) : W p l e R s m args below meth c H locs cells slots Q (F0 m pc ls (.int v :: .ref a :: rest)) :=
  p_v (S' := sfi S k a v) F G hinit hexec hb hts hown hW hk hn hfit rfl ⟨rfl, rfl⟩ (eC_sfi v hk F.1.2.1 F.1.2.2.2.2.2 F.1.2.2.2.2.1) (hW.ok.sfi k a v) hdg kk
theorem p_l {own ref C : String} {T : u_T} {N index : Nat} {fin : Bool} {v : Int64} (F : fdOk own ref C T N index K j 1 k) (G : fdPut T N j .long fin) (hinit : fin = true → meth.name = "<init>" ∧ (T j).1 = own) (hexec : p.tables.exec = Jvm.exec) (hb : c.code = cc) (hts : ∀ w ∈ wT, w.before args s = true) (hown : s.vm.findClass own = some m.cls) (hW : Wd D AC A s H0 H locs S) (hk : kd S a = K) (hdg : decode cc pc = .ok (.putfield index, 3))
    (kk : ∀ (H1 : Heap) (locs1 : List Loc), Wd D AC A s H0 H1 locs1 (sfl S k a v) → W p l e R s m args below meth c H1 locs1 cells slots Q (F0 m (pc + 3) ls rest)) : W p l e R s m args below meth c H locs cells slots Q (F0 m pc ls (.long v :: .ref a :: rest)) :=
  p_v (S' := sfl S k a v) F G hinit hexec hb hts hown hW hk rfl rfl rfl ⟨rfl, rfl⟩ (eC_sfl v hk F.1.2.1 F.1.2.2.2.2.2 F.1.2.2.2.2.1) (hW.ok.sfl k a v) hdg kk
theorem p_r {own ref C : String} {T : u_T} {N index : Nat} {ty : FieldType} {fin : Bool} {b : Nat} (F : fdOk own ref C T N index K j 2 k) (G : fdPut T N j ty fin) (hty : narrow ty (.ref b) = .ref b ∧ fits ty (.ref b) = true) (hinit : fin = true → meth.name = "<init>" ∧ (T j).1 = own) (hexec : p.tables.exec = Jvm.exec) (hb : c.code = cc) (hts : ∀ w ∈ wT, w.before args s = true) (hown : s.vm.findClass own = some m.cls) (hW : Wd D AC A s H0 H locs S) (hk : kd S a = K) (hkb : kd S b = rT k) (hdg : decode cc pc = .ok (.putfield index, 3))
    (kk : ∀ (H1 : Heap) (locs1 : List Loc), Wd D AC A s H0 H1 locs1 (sfr S k a (some b)) → W p l e R s m args below meth c H1 locs1 cells slots Q (F0 m (pc + 3) ls rest)) : W p l e R s m args below meth c H locs cells slots Q (F0 m pc ls (.ref b :: .ref a :: rest)) :=
  p_v (S' := sfr S k a (some b)) F G hinit hexec hb hts hown hW hk hty.1 hty.2 rfl ⟨rfl, rfl⟩ (eC_sfr (some b) hk F.1.2.1 F.1.2.2.2.2.2 F.1.2.2.2.2.1) (hW.ok.sfr k a (some b) (fun x h => by cases h; exact hkb)) hdg kk
theorem p_n {own ref C : String} {T : u_T} {N index : Nat} {ty : FieldType} {fin : Bool} (F : fdOk own ref C T N index K j 2 k) (G : fdPut T N j ty fin) (hty : narrow ty .null = .null ∧ fits ty .null = true) (hinit : fin = true → meth.name = "<init>" ∧ (T j).1 = own) (hexec : p.tables.exec = Jvm.exec) (hb : c.code = cc) (hts : ∀ w ∈ wT, w.before args s = true) (hown : s.vm.findClass own = some m.cls) (hW : Wd D AC A s H0 H locs S) (hk : kd S a = K) (hdg : decode cc pc = .ok (.putfield index, 3))
    (kk : ∀ (H1 : Heap) (locs1 : List Loc), Wd D AC A s H0 H1 locs1 (sfr S k a none) → W p l e R s m args below meth c H1 locs1 cells slots Q (F0 m (pc + 3) ls rest)) : W p l e R s m args below meth c H locs cells slots Q (F0 m pc ls (.null :: .ref a :: rest)) :=
  p_v (S' := sfr S k a none) F G hinit hexec hb hts hown hW hk hty.1 hty.2 rfl ⟨rfl, rfl⟩ (eC_sfr none hk F.1.2.1 F.1.2.2.2.2.2 F.1.2.2.2.2.1) (hW.ok.sfr k a none (fun x h => by cases h)) hdg kk
theorem p_q {own ref C : String} {T : u_T} {N index : Nat} {ty : FieldType} {fin : Bool} {o : Option Nat} (F : fdOk own ref C T N index K j 2 k) (G : fdPut T N j ty fin) (hty : (∀ b, narrow ty (.ref b) = .ref b) ∧ (∀ b, fits ty (.ref b) = true) ∧ narrow ty .null = .null ∧ fits ty .null = true) (hinit : fin = true → meth.name = "<init>" ∧ (T j).1 = own) (hexec : p.tables.exec = Jvm.exec) (hb : c.code = cc) (hts : ∀ w ∈ wT, w.before args s = true) (hown : s.vm.findClass own = some m.cls) (hW : Wd D AC A s H0 H locs S) (hk : kd S a = K) (hkb : ∀ b, o = some b → kd S b = rT k) (hdg : decode cc pc = .ok (.putfield index, 3))
    (kk : ∀ (H1 : Heap) (locs1 : List Loc), Wd D AC A s H0 H1 locs1 (sfr S k a o) → W p l e R s m args below meth c H1 locs1 cells slots Q (F0 m (pc + 3) ls rest)) : W p l e R s m args below meth c H locs cells slots Q (F0 m pc ls (va_rf o :: .ref a :: rest)) := by
  cases o with
  | none => exact p_n F G hty.2.2 hinit hexec hb hts hown hW hk hdg kk
  | some b => exact p_r F G ⟨hty.1 b, hty.2.1 b⟩ hinit hexec hb hts hown hW hk (hkb b rfl) hdg kk
-- arrays: t0 the place of the kind in aTys
theorem a_il {t0 : Nat} {i : Int32} (hK : K ≠ 0 ∧ aK K = 1) (ht : (aTys AC)[t0]? = some (AC K, .int)) (hexec : p.tables.exec = Jvm.exec) (hb : c.code = cc) (hW : Wd D AC A s H0 H locs S) (hk : kd S a = K) (hin : vp_in i (an S a)) (hdg : decode cc pc = .ok (.iaload, 1))
    (kk : W p l e R s m args below meth c H locs cells slots Q (F0 m (pc + 1) ls (.int (ai S a i.toNatClampNeg) :: rest))) : W p l e R s m args below meth c H locs cells slots Q (F0 m pc ls (.int i :: .ref a :: rest)) := by
  obtain ⟨q0, hq⟩ := hW.in hk hK.1
  rw [eC_ints hk hK.2] at hq
  exact va_iald hexec hb hW.wK hW.wP q0 t0 hq ht hin hdg kk
theorem a_zl {t0 : Nat} {i : Int32} (hK : K ≠ 0 ∧ aK K = 1) (ht : (aTys AC)[t0]? = some (AC K, .boolean)) (hexec : p.tables.exec = Jvm.exec) (hb : c.code = cc) (hW : Wd D AC A s H0 H locs S) (hk : kd S a = K) (hin : vp_in i (an S a)) (hdg : decode cc pc = .ok (.baload, 1))
    (kk : W p l e R s m args below meth c H locs cells slots Q (F0 m (pc + 1) ls (.int (ai S a i.toNatClampNeg) :: rest))) : W p l e R s m args below meth c H locs cells slots Q (F0 m pc ls (.int i :: .ref a :: rest)) := by
  obtain ⟨q0, hq⟩ := hW.in hk hK.1
  rw [eC_ints hk hK.2] at hq
  exact va_zald hexec hb hW.wK hW.wP q0 t0 hq ht hin hdg kk
theorem a_ll {t0 : Nat} {i : Int32} (hK : K ≠ 0 ∧ aK K = 2) (ht : (aTys AC)[t0]? = some (AC K, .long)) (hexec : p.tables.exec = Jvm.exec) (hb : c.code = cc) (hW : Wd D AC A s H0 H locs S) (hk : kd S a = K) (hin : vp_in i (an S a)) (hdg : decode cc pc = .ok (.laload, 1))
    (kk : W p l e R s m args below meth c H locs cells slots Q (F0 m (pc + 1) ls (.long (al S a i.toNatClampNeg) :: rest))) : W p l e R s m args below meth c H locs cells slots Q (F0 m pc ls (.int i :: .ref a :: rest)) := by
  obtain ⟨q0, hq⟩ := hW.in hk hK.1
  rw [eC_longs hk hK.2] at hq
  exact va_lald hexec hb hW.wK hW.wP q0 t0 hq ht hin hdg kk
theorem a_rl {t0 : Nat} {C : String} {i : Int32} (hK : K ≠ 0 ∧ aK K = 3 ∧ aE K ≠ 0) (ht : (aTys AC)[t0]? = some (AC K, .object C)) (hexec : p.tables.exec = Jvm.exec) (hb : c.code = cc) (hW : Wd D AC A s H0 H locs S) (hk : kd S a = K) (hin : vp_in i (an S a)) (hdg : decode cc pc = .ok (.aaload, 1))
    (kn : ar S a i.toNatClampNeg = none → W p l e R s m args below meth c H locs cells slots Q (F0 m (pc + 1) ls (.null :: rest))) (ks : ∀ b, ar S a i.toNatClampNeg = some b → kd S b = aE K → W p l e R s m args below meth c H locs cells slots Q (F0 m (pc + 1) ls (.ref b :: rest))) : W p l e R s m args below meth c H locs cells slots Q (F0 m pc ls (.int i :: .ref a :: rest)) := by
  obtain ⟨q0, hq⟩ := hW.in hk hK.1
  rw [eC_refs hk hK.2.1] at hq
  refine va_aldq hexec hb hW.wK hW.wP q0 t0 hq ht hin hdg ?_
  cases hf : ar S a i.toNatClampNeg with
  | none => exact kn hf
  | some b => exact ks b hf (by have := hW.ok.2.2 a _ b (by rw [hk]; exact hK.2.2) hf; rw [hk] at this; exact this)
theorem a_q {t0 : Nat} {C : String} {i : Int32} (hK : K ≠ 0 ∧ aK K = 3 ∧ aE K ≠ 0) (ht : (aTys AC)[t0]? = some (AC K, .object C)) (hexec : p.tables.exec = Jvm.exec) (hb : c.code = cc) (hW : Wd D AC A s H0 H locs S) (hk : kd S a = K) (hin : vp_in i (an S a)) (hdg : decode cc pc = .ok (.aaload, 1))
    (kk : W p l e R s m args below meth c H locs cells slots Q (F0 m (pc + 1) ls (va_rf (ar S a i.toNatClampNeg) :: rest))) : W p l e R s m args below meth c H locs cells slots Q (F0 m pc ls (.int i :: .ref a :: rest)) := by
  obtain ⟨q0, hq⟩ := hW.in hk hK.1
  rw [eC_refs hk hK.2.1] at hq
  exact va_aldq hexec hb hW.wK hW.wP q0 t0 hq ht hin hdg kk
theorem a_len {t0 : Nat} {ty : FieldType} (hK : K ≠ 0 ∧ aK K ≠ 0) (ht : (aTys AC)[t0]? = some (AC K, ty)) (hexec : p.tables.exec = Jvm.exec) (hb : c.code = cc) (hW : Wd D AC A s H0 H locs S) (hk : kd S a = K) (hdg : decode cc pc = .ok (.arraylength, 1))
    (kk : W p l e R s m args below meth c H locs cells slots Q (F0 m (pc + 1) ls (.int (nI (an S a)) :: rest))) : W p l e R s m args below meth c H locs cells slots Q (F0 m pc ls (.ref a :: rest)) := by
  obtain ⟨q0, hq⟩ := hW.in hk hK.1
  have : ∃ x : vp_A, eC AC S a = .inl (AC K, x) ∧ x.1 = an S a := by
    match hc : aK K with
    | 0 => exact absurd hc hK.2
    | 1 => exact ⟨_, eC_ints hk hc, rfl⟩
    | 2 => exact ⟨_, eC_longs hk hc, rfl⟩
    | n + 3 => exact ⟨(an S a, .inr (.inr (.inr (.inr (ar S a))))), by simp only [eC, hk, hc], rfl⟩
  obtain ⟨x, hx, hn⟩ := this
  rw [hx] at hq
  exact va_alen hexec hb hW.wK hW.wP q0 t0 hq ht (by rw [hn]; rfl) hdg kk
theorem Wd.arr (hW : Wd D AC A s H0 H locs S) (hk : kd S a = K) (h0 : K ≠ 0) {x : ClassId × vp_A} (hx : eC AC S a = .inl x) : H[a]? = some (vp_cell x.1 x.2) := by
  obtain ⟨q0, hq⟩ := hW.in hk h0
  rw [hx] at hq
  exact hW.wP q0 _ hq
theorem Wd.in_arr (hW : Wd D AC A s H0 H locs S) (hk : kd S a = K) (h0 : K ≠ 0) {x : va_E} {i0 : Nat} {S' : HS} {H1 : Heap} (hL' : hL S' = hL S) (hz' : hz S' = hz S ∧ tz S' = tz S) (he : va_up (eC AC S) a x = eC AC S') (hok : hOk S') {c0 : Cell} {iw : Nat} {vw : Value} (hc0 : H[a]? = some c0) (hc1 : H1[a]? = some (c0.setSlot iw vw)) (h1 : va_at D vwCl (a, x) H1) (h2 : H1.size = H.size) (h3 : ∀ q : Nat, q ≠ a → H1[q]? = H[q]?) : Wd D AC A s H0 H1 (locs ++ [⟨a, i0⟩]) S' := by
  obtain ⟨q0, hq⟩ := hW.in hk h0
  exact hW.put hq (hW.ok.1 a (by rw [hk]; exact h0)) hL' hz' he hok hc0 hc1 h1 h2 h3
theorem a_is {t0 : Nat} {i v : Int32} (hK : K ≠ 0 ∧ aK K = 1) (ht : (aTys AC)[t0]? = some (AC K, .int)) (hexec : p.tables.exec = Jvm.exec) (hb : c.code = cc) (hW : Wd D AC A s H0 H locs S) (hk : kd S a = K) (hin : vp_in i (an S a)) (hdg : decode cc pc = .ok (.iastore, 1))
    (kk : ∀ (H1 : Heap) (locs1 : List Loc), Wd D AC A s H0 H1 locs1 (sai S a i.toNatClampNeg v) → W p l e R s m args below meth c H1 locs1 cells slots Q (F0 m (pc + 1) ls rest)) : W p l e R s m args below meth c H locs cells slots Q (F0 m pc ls (.int v :: .int i :: .ref a :: rest)) := by
  refine W.iast hexec hb (hW.arr hk hK.1 (eC_ints hk hK.2)) ((hW.wK.2 t0 _ ht).1 (an S a) (fun j => .int (ai S a j))) (fun q => by cases q) (by show ¬ (i < 0 ∨ (arrV _ _ _).slots.size ≤ _); rw [arrV_size]; exact hin) rfl rfl hdg (fun H1 g1 g2 g3 => kk H1 _ (hW.in_arr hk hK.1 rfl ⟨rfl, rfl⟩ (eC_sai v hk hK.2) (hW.ok.sai _ _ _) (hW.arr hk hK.1 (eC_ints hk hK.2)) g1 ?_ g2 g3))
  show H1[a]? = some (vp_cell _ _)
  rw [g1, vp_cell_i, vp_cell_i, arrV_store]
  congr 2
  funext q
  by_cases hq : q = i.toNatClampNeg
  · subst hq; simp [updV, upd]
  · simp [updV, upd, hq]
theorem a_zs {t0 : Nat} {i v : Int32} (hK : K ≠ 0 ∧ aK K = 1) (ht : (aTys AC)[t0]? = some (AC K, .boolean)) (hexec : p.tables.exec = Jvm.exec) (hb : c.code = cc) (hW : Wd D AC A s H0 H locs S) (hk : kd S a = K) (hin : vp_in i (an S a)) (hv : v = 0 ∨ v = 1) (hdg : decode cc pc = .ok (.bastore, 1))
    (kk : ∀ (H1 : Heap) (locs1 : List Loc), Wd D AC A s H0 H1 locs1 (sai S a i.toNatClampNeg v) → W p l e R s m args below meth c H1 locs1 cells slots Q (F0 m (pc + 1) ls rest)) : W p l e R s m args below meth c H locs cells slots Q (F0 m pc ls (.int v :: .int i :: .ref a :: rest)) := by
  refine W.zast hexec hb (hW.arr hk hK.1 (eC_ints hk hK.2)) ((hW.wK.2 t0 _ ht).1 (an S a) (fun j => .int (ai S a j))) (fun q => by cases q) (by show ¬ (i < 0 ∨ (arrV _ _ _).slots.size ≤ _); rw [arrV_size]; exact hin) rfl rfl hdg (fun H1 g1 g2 g3 => kk H1 _ (hW.in_arr hk hK.1 rfl ⟨rfl, rfl⟩ (eC_sai v hk hK.2) (hW.ok.sai _ _ _) (hW.arr hk hK.1 (eC_ints hk hK.2)) g1 ?_ g2 g3))
  show H1[a]? = some (vp_cell _ _)
  have hv1 : narrow .boolean (.int v) = .int v := by rcases hv with rfl | rfl <;> rfl
  rw [g1, vp_cell_i, vp_cell_i, arrV_store]
  congr 2
  funext q
  by_cases hq : q = i.toNatClampNeg
  · subst hq; simp [updV, upd, hv1]
  · simp [updV, upd, hq]
theorem a_ls {t0 : Nat} {i : Int32} {v : Int64} (hK : K ≠ 0 ∧ aK K = 2) (ht : (aTys AC)[t0]? = some (AC K, .long)) (hexec : p.tables.exec = Jvm.exec) (hb : c.code = cc) (hW : Wd D AC A s H0 H locs S) (hk : kd S a = K) (hin : vp_in i (an S a)) (hdg : decode cc pc = .ok (.lastore, 1))
    (kk : ∀ (H1 : Heap) (locs1 : List Loc), Wd D AC A s H0 H1 locs1 (sal S a i.toNatClampNeg v) → W p l e R s m args below meth c H1 locs1 cells slots Q (F0 m (pc + 1) ls rest)) : W p l e R s m args below meth c H locs cells slots Q (F0 m pc ls (.long v :: .int i :: .ref a :: rest)) := by
  refine W.last hexec hb (hW.arr hk hK.1 (eC_longs hk hK.2)) ((hW.wK.2 t0 _ ht).1 (an S a) (fun j => .long (al S a j))) (fun q => by cases q) (by show ¬ (i < 0 ∨ (arrV _ _ _).slots.size ≤ _); rw [arrV_size]; exact hin) rfl rfl hdg (fun H1 g1 g2 g3 => kk H1 _ (hW.in_arr hk hK.1 rfl ⟨rfl, rfl⟩ (eC_sal v hk hK.2) (hW.ok.sal _ _ _) (hW.arr hk hK.1 (eC_longs hk hK.2)) g1 ?_ g2 g3))
  show H1[a]? = some (vp_cell _ _)
  rw [g1, vp_cell_l, vp_cell_l, arrV_store]
  congr 2
  funext q
  by_cases hq : q = i.toNatClampNeg
  · subst hq; simp [updV, vp_updL]
  · simp [updV, vp_updL, hq]
theorem a_rs {t0 b : Nat} {r : vw_C} {i : Int32} (hK : K ≠ 0 ∧ aK K = 3 ∧ aE K ≠ 0) (ht : (aTys AC)[t0]? = some (AC K, .object r.1)) (hE : aK (aE K) = 0 ∧ vwCl[aE K - 1]? = some r) (hexec : p.tables.exec = Jvm.exec) (hb : c.code = cc) (hW : Wd D AC A s H0 H locs S) (hk : kd S a = K) (hkb : kd S b = aE K) (hin : vp_in i (an S a)) (hdg : decode cc pc = .ok (.aastore, 1))
    (kk : ∀ (H1 : Heap) (locs1 : List Loc), Wd D AC A s H0 H1 locs1 (sar S a i.toNatClampNeg (some b)) → W p l e R s m args below meth c H1 locs1 cells slots Q (F0 m (pc + 1) ls rest)) : W p l e R s m args below meth c H locs cells slots Q (F0 m pc ls (.ref b :: .int i :: .ref a :: rest)) := by
  have hlt : i.toNatClampNeg < an S a := Nat.not_le.mp fun q => hin (Or.inr q)
  have h0 : ¬ i < 0 := fun q => hin (Or.inl q)
  obtain ⟨qb, hqb⟩ := hW.in hkb hK.2.2
  rw [eC_obj hkb hE.1] at hqb
  obtain ⟨r', hr', cellV, g1, g2, g3, -⟩ := hW.wP qb _ hqb
  have hcls := (hW.wK.1 (aE K - 1) r hE.2).2
  obtain ⟨kA, comp, k1, k2, k3, -⟩ := (hW.wK.2 t0 _ ht).2
  obtain rfl : comp = D.1 (aE K - 1) := Option.some.inj (k3.symm.trans hcls.1)
  obtain ⟨kC, hkC, -⟩ := hcls.2
  refine W.aast hexec hb (hW.arr hk hK.1 (eC_refs hk hK.2.1)) (fun q h => by cases h) (fun h => by cases h) k1 k2 rfl hkC ⟨h0, by show _ < (arrV _ _ _).slots.size; rw [arrV_size]; exact hlt⟩ g1 (fun q h => by rw [g3] at h; cases h) (by rw [g2]; exact hkC) (by rw [g2]; exact va_assign hcls) rfl rfl hdg (fun H1 e1 e2 e3 => kk H1 _ (hW.in_arr hk hK.1 rfl ⟨rfl, rfl⟩ (eC_sar (some b) hk hK.2.1) (hW.ok.sar _ _ _ (fun x h => by cases h; rw [hk]; exact hkb)) (hW.arr hk hK.1 (eC_refs hk hK.2.1)) e1 ?_ e2 e3))
  show H1[a]? = some (vp_cell _ _)
  rw [e1, vp_cell_q, vp_cell_q, arrV_store]
  congr 2
  funext q
  by_cases hq : q = i.toNatClampNeg
  · subst hq; simp [updV, va_up, va_rf]
  · simp [updV, va_up, hq]
theorem Wd.lt (hW : Wd D AC A s H0 H locs S) (ha : a ∈ hL S) : a < hz S := by
  have := va_pl_lt (X := []) hW.wP ha
  rw [hW.z] at this
  exact this
theorem Wd.fresh (hW : Wd D AC A s H0 H locs S) : hz S ∉ hL S := fun h => Nat.lt_irrefl _ (hW.lt h)
theorem Wd.grow (hW : Wd D AC A s H0 H locs S) {x : va_E} {S' : HS} {H1 : Heap} (e1 : va_at D vwCl (hz S, x) H1) (z1 : H1.size = hz S + 1) (o1 : ∀ q, q < hz S → H1[q]? = H[q]?) (he : pool AC S ++ [(hz S, x)] = pool AC S') (hok : hOk S') {c0 : Cell} (hc0 : H1[hz S]? = some c0) (hz' : hz S' = hz S + 1 ∧ tz S' = tz S + c0.slots.size) : Wd D AC A s H0 H1 locs S' := by
  have hk : ∀ (k : Nat) (y : Nat × va_E), (pool AC S)[k]? = some y → H1[y.1]? = H[y.1]? := fun k y hy => o1 y.1 (by rw [← hW.z]; exact (hW.wP k y hy).lt)
  have h0 : H0.size ≤ hz S := by rw [← hW.z]; exact hW.wS.1
  have p1 : va_P D vwCl (pool AC S ++ [(hz S, x)]) H1 := (hW.wP.kept hk).app (fun k y hy => by
    have hz1 : k < 1 := (List.getElem?_eq_some_iff.mp hy).1
    rw [show k = 0 by omega] at hy
    cases hy
    exact e1)
  have p2 : va_D A (pool AC S ++ [(hz S, x)]) := hW.wD.push hW.wP hW.z.symm (hW.wA _ h0)
  rw [he] at p1 p2
  exact ⟨hW.wK, p1, p2, ⟨by omega, fun y h1 h2 => (o1 y (by omega)).trans (hW.wS.2.1 y h1 h2), hW.wS.2.2⟩, hW.wA, hok, by rw [z1, hz'.1], hW.nx, by
    rw [hz'.2, ← hW.t]
    exact hts_grow (by rw [z1, hW.z]) (by rw [hW.z]; exact o1) (by rw [hW.z]; exact hc0)⟩
theorem mono_newQ (hW : Wd D AC A s H0 H locs S) (K : Nat) : mono S (newO S K) := fun a ha => by
  have hne : a ≠ hz S := fun z => hW.fresh (z ▸ hW.ok.1 a ha)
  exact ⟨va_up_ne _ _ hne, rfl⟩
theorem mono_newB (hW : Wd D AC A s H0 H locs S) (K n : Nat) : mono S (newA S K n) := fun a ha => by
  have hne : a ≠ hz S := fun z => hW.fresh (z ▸ hW.ok.1 a ha)
  exact ⟨va_up_ne _ _ hne, va_up_ne _ _ hne⟩
theorem n_o {own C : String} {T : u_T} {N index : Nat} (hK : K ≠ 0 ∧ aK K = 0 ∧ aE K = 0 ∧ vwCl[K - 1]? = some (C, T, N)) (hln : (lay K).length = N) (hT : ∃ ty : Nat → FieldType, (∀ k, k < N → parseFieldDescriptor (T k).2.2.1 = some (ty k)) ∧ ∀ S q, ∀ j, j < N → defaultValue (ty j) = vp_V ((lay K).map (fv (newQ S q K) q)) j) (hin : ∀ w ∈ u_ws C T N, w ∈ wT) (hl : Cond.classLink own index C ∈ wT ∧ Cond.instantiable C N ∈ wT ∧ Cond.initialized C ∈ wT)
    (hexec : p.tables.exec = Jvm.exec) (hb : c.code = cc) (hts : ∀ w ∈ wT, w.before args s = true) (hown : s.vm.findClass own = some m.cls) (hW : Wd D AC A s H0 H locs S) (hrm : cells + 1 ≤ R.cells ∧ slots + N ≤ R.slots) (q : Nat) (hq : hz S = q) (hdg : decode cc pc = .ok (.new index, 3))
    (kk : ∀ (H1 : Heap), Wd D AC A s H0 H1 locs (newQ S q K) → mono S (newQ S q K) → kd (newQ S q K) q = K → W p l e R s m args below meth c H1 locs (cells + 1) (slots + N) Q (F0 m (pc + 3) ls (.ref q :: rest))) : W p l e R s m args below meth c H locs cells slots Q (F0 m pc ls rest) := by
  subst hq
  obtain ⟨ty, hty, hfs⟩ := hT
  have hKn := hW.wK.1 (K - 1) _ hK.2.2.2
  refine W.newcK hexec hb hown (hts _ hl.1) (hts _ hl.2.1) (hts _ hl.2.2) rfl hdg hrm.1 hrm.2 hKn.2.1 hW.z (fun H1 kC hkC e1 z1 o1 => ?_)
  refine kk H1 (hW.grow (x := .inr (K - 1, (lay K).map (fv (newQ S (hz S) K) (hz S)))) ⟨_, hK.2.2.2, (u_born ty hts hin hKn hkC e1 hty).to (hfs S (hz S))⟩ z1 o1 (eC_newQ hW.fresh hK.2.1) (hW.ok.newQ hW.fresh hK.2.2.1 rO_ne rT_ne rfl) e1 ⟨rfl, ?_⟩) (mono_newQ hW K) (va_up_self _ _ _)
  show tz S + (lay K).length = tz S + _
  obtain ⟨c9, k9, f1, f2, -, -, -, f6⟩ := Cond.instantiable_spec (hts _ hl.2.1)
  obtain rfl : c9 = D.1 (K - 1) := Option.some.inj (f1.symm.trans hKn.2.1)
  obtain rfl : k9 = kC := Option.some.inj (f2.symm.trans hkC)
  rw [show (blank (D.1 (K - 1)) k9).slots.size = k9.instanceTypes.size by simp [blank], f6, hln]
theorem eC_newA {q n : Nat} {x : va_E} (hq : q ∉ hL S) (hx : eC AC (newB S q K n) q = x) : va_pl (hL S) (eC AC S) ++ [(q, x)] = pool AC (newB S q K n) := by
  rw [va_pl_push hq]
  show va_pl (hL S ++ [q]) _ = va_pl (hL S ++ [q]) _
  congr 1
  exact eC_up (fun b hb => eC_same (va_up_ne _ _ hb) (va_up_ne _ _ hb) (va_up_ne _ _ hb) (va_up_ne _ _ hb) (va_up_ne _ _ hb) rfl) hx
theorem n_i {t0 n : Nat} {x : Int32} {atype : ArrayType} {ty : FieldType} (hK : K ≠ 0 ∧ aK K = 1 ∧ ∀ k, rO k ≠ K) (ht : (aTys AC)[t0]? = some (AC K, ty)) (hty : newarray.typeOf atype = ty) (hpr : (∀ C, ty ≠ .object C) ∧ defaultValue ty = .int 0) (hin : Cond.arrayClass (newarray.typeOf atype) ∈ wT) (hexec : p.tables.exec = Jvm.exec) (hb : c.code = cc) (hts : ∀ w ∈ wT, w.before args s = true) (hW : Wd D AC A s H0 H locs S) (hx : x = nI n) (hn : n < 2 ^ 20 ∧ n * componentBytes ty ≤ 536870912) (hrm : cells + 1 ≤ R.cells ∧ slots + n ≤ R.slots) (q : Nat) (hq : hz S = q) (hdg : decode cc pc = .ok (.newarray atype, 2))
    (kk : ∀ (H1 : Heap), Wd D AC A s H0 H1 locs (newB S q K n) → mono S (newB S q K n) → kd (newB S q K n) q = K → W p l e R s m args below meth c H1 locs (cells + 1) (slots + n) Q (F0 m (pc + 2) ls (.ref q :: rest))) : W p l e R s m args below meth c H locs cells slots Q (F0 m pc ls (.int x :: rest)) := by
  subst hx
  subst hq
  subst hty
  refine va_newaK hexec hb (hts _ hin) rfl hdg rfl (nI_pos (by omega)) (nI_clamp (by omega)) hn.2 hrm.1 hrm.2 hW.z (fun H1 cA e1 z1 o1 hAr hNm => ?_)
  have e : cA = AC K := by
    have a1 := (hW.wK.2 t0 _ ht).2
    generalize newarray.typeOf atype = ty at a1 hNm hpr
    cases ty with
    | object C => exact absurd rfl (hpr.1 C)
    | _ => exact Option.some.inj (hNm.symm.trans a1)
  subst e
  refine kk H1 (hW.grow (x := .inl (AC K, n, .inl (fun _ => 0))) ?_ z1 o1 (eC_newA hW.fresh ?_) (hW.ok.newB hW.fresh hK.2.2 rO_ne rT_ne) e1 ⟨rfl, by show tz S + n = tz S + (arrV _ _ _).slots.size; rw [arrV_size]⟩) (mono_newB hW K n) (va_up_self _ _ _)
  · show H1[hz S]? = some (vp_cell _ _)
    rw [e1, vp_cell_i, hpr.2]
  · rw [eC_ints (S := newB S (hz S) K n) (va_up_self _ _ _) hK.2.1]
    show Sum.inl (AC K, va_up (an S) (hz S) n (hz S), Sum.inl (va_up (ai S) (hz S) (fun _ => 0) (hz S))) = _
    rw [va_up_self, va_up_self]
theorem n_l {t0 n : Nat} {x : Int32} (hK : K ≠ 0 ∧ aK K = 2 ∧ ∀ k, rO k ≠ K) (ht : (aTys AC)[t0]? = some (AC K, .long)) (hin : Cond.arrayClass (newarray.typeOf .long) ∈ wT) (hexec : p.tables.exec = Jvm.exec) (hb : c.code = cc) (hts : ∀ w ∈ wT, w.before args s = true) (hW : Wd D AC A s H0 H locs S) (hx : x = nI n) (hn : n < 2 ^ 20) (hrm : cells + 1 ≤ R.cells ∧ slots + n ≤ R.slots) (q : Nat) (hq : hz S = q) (hdg : decode cc pc = .ok (.newarray .long, 2))
    (kk : ∀ (H1 : Heap), Wd D AC A s H0 H1 locs (newB S q K n) → mono S (newB S q K n) → kd (newB S q K n) q = K → W p l e R s m args below meth c H1 locs (cells + 1) (slots + n) Q (F0 m (pc + 2) ls (.ref q :: rest))) : W p l e R s m args below meth c H locs cells slots Q (F0 m pc ls (.int x :: rest)) := by
  subst hx
  subst hq
  refine va_newaK hexec hb (hts _ hin) rfl hdg rfl (nI_pos (by omega)) (nI_clamp (by omega)) (by show n * 8 ≤ _; omega) hrm.1 hrm.2 hW.z (fun H1 cA e1 z1 o1 hAr hNm => ?_)
  have e : cA = AC K := by
    have a1 := (hW.wK.2 t0 _ ht).2
    exact Option.some.inj (hNm.symm.trans a1)
  subst e
  refine kk H1 (hW.grow (x := .inl (AC K, n, .inr (.inl (fun _ => 0)))) ?_ z1 o1 (eC_newA hW.fresh ?_) (hW.ok.newB hW.fresh hK.2.2 rO_ne rT_ne) e1 ⟨rfl, by show tz S + n = tz S + (arrV _ _ _).slots.size; rw [arrV_size]⟩) (mono_newB hW K n) (va_up_self _ _ _)
  · show H1[hz S]? = some (vp_cell _ _)
    rw [e1, vp_cell_l]
    rfl
  · rw [eC_longs (S := newB S (hz S) K n) (va_up_self _ _ _) hK.2.1]
    show Sum.inl (AC K, va_up (an S) (hz S) n (hz S), Sum.inr (Sum.inl (va_up (al S) (hz S) (fun _ => 0) (hz S)))) = _
    rw [va_up_self, va_up_self]
theorem n_r {t0 n index : Nat} {own C : String} {x : Int32} (hK : K ≠ 0 ∧ aK K = 3 ∧ ∀ k, rO k ≠ K) (ht : (aTys AC)[t0]? = some (AC K, .object C)) (hin : Cond.classLink own index C ∈ wT ∧ ∀ s, NX s → va_AO C s) (hexec : p.tables.exec = Jvm.exec) (hb : c.code = cc) (hts : ∀ w ∈ wT, w.before args s = true) (hown : s.vm.findClass own = some m.cls) (hW : Wd D AC A s H0 H locs S) (hx : x = nI n) (hn : n < 2 ^ 20) (hrm : cells + 1 ≤ R.cells ∧ slots + n ≤ R.slots) (q : Nat) (hq : hz S = q) (hdg : decode cc pc = .ok (.anewarray index, 3))
    (kk : ∀ (H1 : Heap), Wd D AC A s H0 H1 locs (newB S q K n) → mono S (newB S q K n) → kd (newB S q K n) q = K → W p l e R s m args below meth c H1 locs (cells + 1) (slots + n) Q (F0 m (pc + 3) ls (.ref q :: rest))) : W p l e R s m args below meth c H locs cells slots Q (F0 m pc ls (.int x :: rest)) := by
  subst hx
  subst hq
  have hc : (nI n).toNatClampNeg = n := nI_clamp (by omega)
  refine W.anew hexec hb hown (hts _ hin.1) (va_AO.use (hin.2 s hW.nx)) rfl hdg rfl (nI_pos (by omega)) (by rw [hc]; omega) hrm.1 (by rw [hc]; exact hrm.2) (fun cA kA comp f1 f2 f3 f4 => ?_)
  rw [hc, hW.z]
  generalize hH1 : H.push ({ cls := cA, slots := Array.replicate n .null, vm := .none } : Cell) = H1
  have z1 : H1.size = hz S + 1 := by rw [← hH1, Array.size_push, hW.z]
  have e1 : H1[hz S]? = some (arrV cA n (fun _ => .null)) := by rw [← hH1, ← hW.z, Array.getElem?_push_size, ← arrV_new]
  have o1 : ∀ q : Nat, q < hz S → H1[q]? = H[q]? := fun q hq => by rw [← hH1, Array.getElem?_push, if_neg (by rw [hW.z]; exact Nat.ne_of_lt hq)]
  have e : cA = AC K := by
    obtain ⟨-, -, -, -, -, a1⟩ := (hW.wK.2 t0 _ ht).2
    exact Option.some.inj (f1.symm.trans a1)
  subst e
  refine kk H1 (hW.grow (x := .inl (AC K, n, .inr (.inr (.inr (.inr (fun _ => none)))))) ?_ z1 o1 (eC_newA hW.fresh ?_) (hW.ok.newB hW.fresh hK.2.2 rO_ne rT_ne) e1 ⟨rfl, by show tz S + n = tz S + (arrV _ _ _).slots.size; rw [arrV_size]⟩) (mono_newB hW K n) (va_up_self _ _ _)
  · show H1[hz S]? = some (vp_cell _ _)
    rw [e1, vp_cell_q]
    rfl
  · rw [eC_refs (S := newB S (hz S) K n) (va_up_self _ _ _) hK.2.1]
    show Sum.inl (AC K, va_up (an S) (hz S) n (hz S), Sum.inr (Sum.inr (Sum.inr (Sum.inr (va_up (ar S) (hz S) (fun _ => none) (hz S)))))) = _
    rw [va_up_self, va_up_self]
/-- a walk's count of new cells and slots, by what the heap holds -/
theorem W.tight {g : JFrame} {k n : Nat} (h1 : H.size ≤ s.heap.size + k) (h2 : hts H ≤ hts s.heap + n) (kk : W p l e R s m args below meth c H locs k n Q g) : W p l e R s m args below meth c H locs cells slots Q g := by
  intro T hT X
  refine kk T hT { X with same := ?_ }
  obtain ⟨a1, a2, a3, a4, a5, a6⟩ := X.same
  refine ⟨a1, a2, ?_, a4, ?_, a6⟩
  · show T.heap.size ≤ _
    rw [hT]; exact h1
  · show ((T.heap.toList.drop s.heap.size).map (fun c => c.slots.size)).sum ≤ n
    rw [hT]
    have a2 : s.heap.size ≤ H.size := by rw [← hT]; exact a2
    have e1 : hts H = ((H.toList.take s.heap.size).map (fun c => c.slots.size)).sum + ((H.toList.drop s.heap.size).map (fun c => c.slots.size)).sum := by
      unfold hts
      rw [← List.sum_append, ← List.map_append, List.take_append_drop]
    have e2 : (H.toList.take s.heap.size).map (fun c => c.slots.size) = s.heap.toList.map (fun c => c.slots.size) := by
      apply List.ext_getElem?
      intro i
      rw [List.getElem?_map, List.getElem?_map, List.getElem?_take]
      by_cases hi : i < s.heap.size
      · rw [if_pos hi, Array.getElem?_toList, Array.getElem?_toList]
        obtain ⟨c0, hc0⟩ : ∃ c0, s.heap[i]? = some c0 := ⟨_, Array.getElem?_eq_getElem hi⟩
        obtain ⟨c1, hc1, -, hs1, -⟩ := a6 i c0 hc0
        have hc1 : T.heap[i]? = some c1 := hc1
        rw [hT] at hc1
        rw [hc0, hc1]
        simp [hs1]
      · rw [if_neg hi, Array.getElem?_toList, Array.getElem?_eq_none (by omega)]
    have e3 : hts s.heap = (s.heap.toList.map (fun c => c.slots.size)).sum := rfl
    rw [e2, ← e3] at e1
    omega
end ROWS
