-- THE LAW'S COUNTER
def thr (S : HS) (t : Nat) (bs tk : Int64) : Prop := ¬ bs < (0 : Int64) ∧ ¬ (1000000000 : Int64) < bs ∧ ¬ tk < (1 : Int64) ∧ ¬ (1000 : Int64) < tk ∧ fi S 10 t < (20 : Int32) ∧ bs = (0 : Int64)
def lcP (S : HS) (t ow : Nat) (bs tk : Int64) (r : Int32) (S' : HS) : Prop := (thr S t bs tk → r = 1 ∧ ∃ j, j ≤ 6 ∧ S' = shz S (hz S + 1) (tz S + j)) ∧ (¬ thr S t bs tk → r = 0 ∧ S' = sal (counter_S S t bs tk) ow 0 (counter_R S t bs tk).toInt64)
def CPreL (D : va_G) (AC : Nat → ClassId) (S : HS) (av : List Value) (sa : Nat) : Array Value → State → Prop := fun a U => CPre D AC S av a U ∧ ThW sa a U
theorem CPreL.blind {D : va_G} {AC : Nat → ClassId} {S : HS} {av : List Value} {sa : Nat} : FrameBlind (CPreL D AC S av sa) := fun a U g mk q => ⟨Wd.blind av a U g mk q.1, q.2.call g mk⟩
theorem Wd.shz1 {D : va_G} {AC : Nat → ClassId} {A : Nat → Prop} {s : State} {H0 H H1 : Heap} {locs : List Loc} {S : HS} {ce : Cell} (hW : Wd D AC A s H0 H locs S) (h1 : H1.size = H.size + 1) (h2 : ∀ q : Nat, q < H.size → H1[q]? = H[q]?) (h3 : H1[H.size]? = some ce) : Wd D AC A s H0 H1 locs (shz S (hz S + 1) (tz S + ce.slots.size)) := by
  refine ⟨hW.wK, va_P.kept (H := H) hW.wP (fun k q hq => ?_), hW.wD, ?_, hW.wA, hW.ok, ?_, hW.nx, ?_⟩
  · have := hW.lt (pl_mem hq).1
    rw [h2 _ (by rw [hW.z]; exact this)]
  · obtain ⟨q1, q2, q3⟩ := hW.wS
    exact ⟨by omega, fun q hq hA => (h2 q (by omega)).trans (q2 q hq hA), q3⟩
  · show H1.size = hz S + 1
    rw [h1, hW.z]
  · show hts H1 = tz S + ce.slots.size
    rw [hts_grow h1 h2 h3, hW.t]
set_option maxRecDepth 20000 in
set_option maxHeartbeats 2000000 in
theorem c_LawCounter (l : Launch) (hl0 : l.stackTraces = false) (D : va_G) (AC : Nat → ClassId) (S : HS) (t ow : Nat) (bs tk : Int64) (sa : Nat) (k_t : kd S t = 8) (k_o : kd S ow = 12) (n_o : an S ow = 1) (hn : nn S) (ha : atOk S t) : Met l yLaw_counter (Cond.codeWith yLaw_counter cLaw_counter 7 (some .int) hhLaw :: wT) (rmOf 7 1 12 200) (CPreL D AC S [.ref t, .long bs, .long tk, .ref ow] sa) (va_Qi (lcP S t ow bs tk) (CB D AC S) (AS (hL S) (hz S))) 1 12 (AS (hL S) (hz S)) := by
  refine va_MetW (cc := cLaw_counter) (maxL := 7) (ret := some .int) (hh := hhLaw) (by decide) rfl ?_
  intro p e s m args below meth c s₁ B hml hv
  obtain ⟨⟨rfl, hsz, hK, hP, hD, hok, hnx, hht⟩, hTh⟩ := hv
  have hts0 := atoms_spec (ws := Cond.codeWith yLaw_counter cLaw_counter 7 (some .int) hhLaw :: wT) B.pre
  have hts : ∀ w ∈ wT, w.before _ s = true := fun w hw => hts0 w (List.mem_cons_of_mem _ hw)
  have hx := B.exec
  have hb := B.bytes
  have hr := B.returns
  have hlk := B.notSynchronized
  have hown : s.vm.findClass RLaw = some m.cls := findClass_of_methodNamed B.named
  obtain ⟨x, hxt, x1, x2, x3, x4⟩ : ∃ x, c.exceptionTable.toList = [x] ∧ x.startPc = 0 ∧ x.endPc = 11 ∧ x.handlerPc = 14 ∧ x.catchType = 13 := by
    obtain ⟨m9, meth9, c9, hn9, hm9, hc9, -, -, htab, -⟩ := Cond.codeWith_spec (hts0 _ List.mem_cons_self)
    have e1 : m9 = m := Option.some.inj (hn9.symm.trans B.named)
    subst e1
    have e2 : meth9 = meth := Option.some.inj (hm9.symm.trans B.method)
    subst e2
    have e3 : c9 = c := Option.some.inj (hc9.symm.trans (Stand.of_body B).code)
    subst e3
    cases hl : c9.exceptionTable.toList with
    | nil => rw [hl] at htab; cases htab
    | cons x xs =>
      rw [hl] at htab
      cases xs with
      | cons y ys =>
        have hlen := congrArg List.length htab
        rw [List.length_map] at hlen
        cases hlen
      | nil =>
        have h1 := (List.cons.inj htab).1
        simp only [Prod.mk.injEq] at h1
        exact ⟨x, rfl, h1.1, h1.2.1, h1.2.2.1, h1.2.2.2⟩
  have hW : Wd D AC (AS (hL S) s.heap.size) s s.heap s.heap [] S := ⟨hK, hP, ⟨hD.1, fun k q hk => Or.inl (pl_mem hk).1⟩, va_S.rf, fun q h => Or.inr h, hok, hsz, hnx, hht⟩
  have hl := lv_entry [.ref t, .long bs, .long tk, .ref ow] (n := 7) (Nat.le_of_ble_eq_true rfl)
  rw [lg_entry_eq]
  generalize (lg_sl ([.ref t, .long bs, .long tk, .ref ow]) ++ List.replicate (7 - (lg_sl ([.ref t, .long bs, .long tk, .ref ow])).length) Slot.unset).toArray = ls at hl ⊢
  have hl : lv_has ls 7 [(0, .ref t), (1, .long bs), (3, .long tk), (5, .ref ow)] := hl
  refine lv_aload hx hb dLaw_counter_0 (lv_at hl 3 rfl) ?_
  refine lv_iconst (v := (0 : Int32)) hx hb dLaw_counter_2 (by decide) ?_
  refine lv_aload_n hx hb dLaw_counter_3 rfl (lv_at hl 0 rfl) ?_
  refine lv_lload_n hx hb dLaw_counter_4 rfl (lv_at hl 1 rfl) ?_
  refine lv_lload_n hx hb dLaw_counter_5 rfl (lv_at hl 2 rfl) ?_
  by_cases ht : thr S t bs tk
  · obtain ⟨q1, q2, q3, q4, q5, q6⟩ := id ht
    obtain ⟨cellB, hcB, hoB, hclB⟩ := hW.recv (C := RAT) k_t ⟨by decide, by decide, _, rfl, rfl⟩
    refine fx_callX (C := RAT) (As := [.long bs, .long tk]) (rest := [.int 0, .ref ow]) (c_counterX l hl0 D AC S t bs tk sa k_t q1 q2 q3 q4 q5 q6) CLaw_7 hx hb hml hown hts hcB hoB hclB hl.1 rfl rfl (Nat.le_of_ble_eq_true rfl) ⟨⟨Nat.le_of_ble_eq_true rfl, Nat.le_of_ble_eq_true rfl⟩, ⟨Nat.le_of_ble_eq_true rfl, Nat.le_of_ble_eq_true rfl⟩⟩ dLaw_counter_6 (fun U hU hw g mk => ?_) hxt (by rw [covers, x1, x2]; rfl) (by rw [x4]; decide) (by rw [x4]; exact hts _ AE_link.2.2.2) (fun H1 ce h1 h2 h3 h4 => ?_)
    · have hTU : ThW sa ([.ref t, .long bs, .long tk] : List Value).toArray U := ThW.ride hw (fun q _ => by rw [hU]) hTh
      have := hTU.call g mk
      exact ⟨Wd.blind _ _ U g mk (hW.pre [.ref t, .long bs, .long tk] U hU hw), this.1, this.2⟩
    · rw [x3]
      have hW1 := hW.shz1 h1 h2 h3
      refine lv_astore hx hb dLaw_counter_14 hl (Nat.le_of_ble_eq_true rfl) rfl (fun ls hl => ?_)
      refine lv_iconst (v := (1 : Int32)) hx hb dLaw_counter_16 (by decide) ?_
      exact e_i hsz hx hb hr hlk hW1 (mono.rf S) (Nat.le_of_ble_eq_true rfl) (Nat.le_of_ble_eq_true rfl) dLaw_counter_17 ⟨fun _ => ⟨rfl, _, h4, rfl⟩, fun z => absurd ht z⟩
  · refine k_Vi (K := 8) (As := [.long bs, .long tk]) (rest := [.int 0, .ref ow]) (c_counter l D AC S t bs tk k_t hn ha (fun q1 q2 q3 q4 q5 q6 => ht ⟨q1, q2, q3, q4, q5, q6⟩)) CLaw_7 ⟨by decide, by decide, _, rfl, rfl⟩ hx hb hml hown hts hW k_t hl.1 rfl rfl (Nat.le_of_ble_eq_true rfl) ⟨⟨Nat.le_of_ble_eq_true rfl, Nat.le_of_ble_eq_true rfl⟩, ⟨Nat.le_of_ble_eq_true rfl, Nat.le_of_ble_eq_true rfl⟩⟩ dLaw_counter_6 (fun r S1 H locs e1 hW1 m1 _ => ?_)
    obtain ⟨rfl, rfl⟩ := e1
    have k_o1 := m1.k k_o (by decide)
    have n_o1 := m1.n k_o (by decide) n_o
    refine lv_i2l (v := (counter_R S t bs tk).toInt64) hx hb dLaw_counter_9 rfl ?_
    refine a_ls (K := 12) (t0 := 1) ⟨by decide, rfl⟩ rfl hx hb hW1 k_o1 (by rw [n_o1]; exact nI_in (c := 0) (by decide) (by decide)) dLaw_counter_10 (fun H1 locs1 hW2 => ?_)
    refine lv_goto (tgt := 18) hx hb dLaw_counter_11 (by decide) ?_
    refine lv_iconst (v := (0 : Int32)) hx hb dLaw_counter_18 (by decide) ?_
    exact e_i hsz hx hb hr hlk hW2 (m1.tr (fun _ _ => ⟨rfl, rfl⟩)) (Nat.le_of_ble_eq_true rfl) (Nat.le_of_ble_eq_true rfl) dLaw_counter_19 ⟨fun z => absurd z ht, fun _ => ⟨rfl, rfl⟩⟩
