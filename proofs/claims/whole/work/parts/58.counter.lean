theorem counter_fr' {S : HS} {n : Int32} {bs tk : Int64} {k a : Nat} (h : a ≠ hz S) : fr (Counter_init_S (newQ S (hz S) 3) (hz S) n bs tk) k a = fr S k a := fr_newQ (K := 3) h
theorem Counter_init_fi {Y : HS} {q k a : Nat} {n : Int32} {bs tk : Int64} (h : a ≠ q) : fi (Counter_init_S Y q n bs tk) k a = fi Y k a := by
  show up2 (fi Y) 2 q _ k a = fi Y k a
  rw [up2_a _ _ _ _ h]
theorem counter_fi' {S : HS} {n : Int32} {bs tk : Int64} {k a : Nat} (h : a ≠ hz S) : fi (Counter_init_S (newQ S (hz S) 3) (hz S) n bs tk) k a = fi S k a := (Counter_init_fi h).trans (fi_newQ (K := 3) h)

def counter_R (S : HS) (t : Nat) (bs : Int64) (tk : Int64) : Int32 :=
  if bs < (0 : Int64) then
    (-2 : Int32)
  else
    if (1000000000 : Int64) < bs then
      (-2 : Int32)
    else
      if tk < (1 : Int64) then
        (-2 : Int32)
      else
        if (1000 : Int64) < tk then
          (-2 : Int32)
        else
          if (fi S 10 t) < (20 : Int32) then
            ((fi S 10 t) + (1 : Int32))
          else
            (-4 : Int32)
def counter_S (S : HS) (t : Nat) (bs : Int64) (tk : Int64) : HS :=
  if bs < (0 : Int64) then
    S
  else
    if (1000000000 : Int64) < bs then
      S
    else
      if tk < (1 : Int64) then
        S
      else
        if (1000 : Int64) < tk then
          S
        else
          if (fi S 10 t) < (20 : Int32) then
            (sfi (sar (Counter_init_S (newQ S (hz S) 3) (hz S) ((fi S 10 t) + (1 : Int32)) bs tk) (gd (fr S 18 t)) (fi S 10 t).toNatClampNeg (some (hz S))) 10 t ((fi S 10 t) + (1 : Int32)))
          else
            S
set_option maxRecDepth 20000 in
set_option maxHeartbeats 2000000 in
theorem c_counter (l : Launch) (D : va_G) (AC : Nat → ClassId) (S : HS) (t : Nat) (bs : Int64) (tk : Int64)  (k_t : kd S t = 8) (hn : nn S) (ha : atOk S t) (hnz : ¬ bs < (0 : Int64) → ¬ (1000000000 : Int64) < bs → ¬ tk < (1 : Int64) → ¬ (1000 : Int64) < tk → fi S 10 t < (20 : Int32) → ¬ bs = (0 : Int64)) : CtI l yAT_counter (Cond.code yAT_counter cAT_counter 5 (some .int) :: wT) 2 60 D AC S [.ref t, .long bs, .long tk] 1 12 (fun r S' => r = counter_R S t bs tk ∧ S' = counter_S S t bs tk) := by
  refine met_of (by decide) (Nat.le_of_ble_eq_true rfl) ?_
  intro p e s m below meth c ls hsz X hW hl
  obtain ⟨hx, hb, hml, hr, hlk, hown, hnm, hts⟩ := X
  have hl : lv_has ls 5 [(0, .ref t), (1, .long bs), (3, .long tk)] := hl
  have mo : mono S S := mono.rf S
  have h00 := hW.k00
  have kt0 := k_t
  have nA : fr S 18 t = some (gd (fr S 18 t)) := gd_some (hn 18 t rfl k_t)
  have kA : kd S (gd (fr S 18 t)) = 14 := hW.ok.2.1 18 t _ k_t nA
  have lA : an S (gd (fr S 18 t)) = 20 := ha.2.2.2.1
  have kqA : ∀ b, fr S 18 t = some b → kd S b = 14 := fun b h => hW.ok.2.1 18 t b k_t h
  refine lv_lload_n hx hb dAT_counter_0 rfl (lv_at hl 1 rfl) ?_
  refine lv_lconst (v := (0 : Int64)) hx hb dAT_counter_1 (by decide) ?_
  refine ll_lt (tgt := 28) hx hb dAT_counter_2 dAT_counter_3 (by decide) (fun c_1 => ?_) (fun c_1 => ?_)
  · refine lv_bipush (v := (-2 : Int32)) hx hb dAT_counter_28 (by decide) ?_
    exact e_i hsz hx hb hr hlk hW (mono.rf S) (Nat.le_of_ble_eq_true rfl) (Nat.le_of_ble_eq_true rfl) dAT_counter_30 ⟨(by refine Eq.symm ?_; refine (if_pos c_1).trans ?_; rfl), (by refine Eq.symm ?_; refine (if_pos c_1).trans ?_; rfl)⟩
  · refine lv_lload_n hx hb dAT_counter_6 rfl (lv_at hl 1 rfl) ?_
    refine lv_ldc2 (v := (1000000000 : Int64)) hx hb hown (hts _ QAT_34) dAT_counter_7 ?_
    refine ll_gt (tgt := 28) hx hb dAT_counter_10 dAT_counter_11 (by decide) (fun c_2 => ?_) (fun c_2 => ?_)
    · refine lv_bipush (v := (-2 : Int32)) hx hb dAT_counter_28 (by decide) ?_
      exact e_i hsz hx hb hr hlk hW (mono.rf S) (Nat.le_of_ble_eq_true rfl) (Nat.le_of_ble_eq_true rfl) dAT_counter_30 ⟨(by refine Eq.symm ?_; refine (if_neg c_1).trans ?_; refine (if_pos c_2).trans ?_; rfl), (by refine Eq.symm ?_; refine (if_neg c_1).trans ?_; refine (if_pos c_2).trans ?_; rfl)⟩
    · refine lv_lload_n hx hb dAT_counter_14 rfl (lv_at hl 2 rfl) ?_
      refine lv_lconst (v := (1 : Int64)) hx hb dAT_counter_15 (by decide) ?_
      refine ll_lt (tgt := 28) hx hb dAT_counter_16 dAT_counter_17 (by decide) (fun c_3 => ?_) (fun c_3 => ?_)
      · refine lv_bipush (v := (-2 : Int32)) hx hb dAT_counter_28 (by decide) ?_
        exact e_i hsz hx hb hr hlk hW (mono.rf S) (Nat.le_of_ble_eq_true rfl) (Nat.le_of_ble_eq_true rfl) dAT_counter_30 ⟨(by refine Eq.symm ?_; refine (if_neg c_1).trans ?_; refine (if_neg c_2).trans ?_; refine (if_pos c_3).trans ?_; rfl), (by refine Eq.symm ?_; refine (if_neg c_1).trans ?_; refine (if_neg c_2).trans ?_; refine (if_pos c_3).trans ?_; rfl)⟩
      · refine lv_lload_n hx hb dAT_counter_20 rfl (lv_at hl 2 rfl) ?_
        refine lv_ldc2 (v := (1000 : Int64)) hx hb hown (hts _ QAT_36) dAT_counter_21 ?_
        refine ll_le (tgt := 31) hx hb dAT_counter_24 dAT_counter_25 (by decide) (fun c_4 => ?_) (fun c_4 => ?_)
        · refine lv_aload_n hx hb dAT_counter_31 rfl (lv_at hl 0 rfl) ?_
          refine g_i FAT_38 hx hb hts hown hW k_t dAT_counter_32 ?_
          refine lv_bipush (v := (20 : Int32)) hx hb dAT_counter_35 (by decide) ?_
          refine lv_icmp_lt (tgt := 43) hx hb dAT_counter_37 (by decide) (fun c_5 => ?_) (fun c_5 => ?_)
          · refine lv_lload_n hx hb dAT_counter_43 rfl (lv_at hl 1 rfl) ?_
            refine lv_lconst (v := (0 : Int64)) hx hb dAT_counter_44 (by decide) ?_
            refine ll_ne (tgt := 59) hx hb dAT_counter_45 dAT_counter_46 (by decide) (fun c_6 => ?_) (fun c_6 => ?_)
            · refine lv_aload_n hx hb dAT_counter_59 rfl (lv_at hl 0 rfl) ?_
              refine g_q FAT_11 hx hb hts hown hW k_t dAT_counter_60 ?_
              refine lv_aload_n hx hb dAT_counter_63 rfl (lv_at hl 0 rfl) ?_
              refine g_i FAT_38 hx hb hts hown hW k_t dAT_counter_64 ?_
              have ne7_0 : t ≠ (hz S) := hW.ne k_t (by decide)
              have ne7_1 : (gd (fr S 18 t)) ≠ (hz S) := hW.ne kA (by decide)
              refine n_o (NAT_9).1 rfl (NAT_9).2.1 iwCounter (NAT_9).2.2 hx hb hts hown hW ⟨Nat.le_of_ble_eq_true rfl, Nat.le_of_ble_eq_true rfl⟩ (hz S) rfl dAT_counter_67 (fun H hW m_7 k_q7 => ?_)
              have lA := m_7.n kA (by decide) lA
              have k_t := m_7.k k_t (by decide)
              have kA := m_7.k kA (by decide)
              have kqA := fun b h => m_7.k (kqA b h) (by decide)
              have mo := mo.tr m_7
              refine lv_dup hx hb dAT_counter_70 rfl ?_
              refine lv_aload_n hx hb dAT_counter_71 rfl (lv_at hl 0 rfl) ?_
              refine g_i FAT_38 hx hb hts hown hW k_t dAT_counter_72 ?_
              rw [show fi (newQ S (hz S) 3) 10 t = fi S 10 t from (by simp only [ne7_0, fr_sfr, fr_sfi, fr_sfl, fr_sar, fr_sai, fr_sal, fi_sfr, fi_sfi, fi_sfl, fi_sar, fi_sai, fi_sal, fl_sfr, fl_sfi, fl_sfl, fl_sar, fl_sai, fl_sal, fr_newQ, fi_newQ, fl_newQ, fr_newB, fi_newB, fl_newB, ne_eq, not_false_eq_true] <;> rfl)]
              refine lv_iconst (v := (1 : Int32)) hx hb dAT_counter_75 (by decide) ?_
              refine lv_iadd hx hb dAT_counter_76 ?_
              refine lv_lload_n hx hb dAT_counter_77 rfl (lv_at hl 1 rfl) ?_
              refine lv_lload_n hx hb dAT_counter_78 rfl (lv_at hl 2 rfl) ?_
              refine k_Iv (As := [.int ((fi S 10 t) + (1 : Int32)), .long bs, .long tk]) (rest := [.ref (hz S), .int (fi S 10 t), va_rf (fr S 18 t)]) (c_Counter_init l D AC (newQ S (hz S) 3) (hz S) ((fi S 10 t) + (1 : Int32)) bs tk k_q7) CAT_49 hx hb hml hown hts hW hl.1 rfl rfl (by simp [q_cat, cat_r, cat_i, cat_l, cat_n]) ⟨⟨Nat.le_of_ble_eq_true rfl, Nat.le_of_ble_eq_true rfl⟩, ⟨Nat.le_of_ble_eq_true rfl, Nat.le_of_ble_eq_true rfl⟩⟩ dAT_counter_79 (fun S_8 H locs e_8 hW m_8 _ => ?_)
              have lA := m_8.n kA (by decide) lA
              have k_t := m_8.k k_t (by decide)
              have kA := m_8.k kA (by decide)
              have k_q7 := m_8.k k_q7 (by decide)
              have kqA := fun b h => m_8.k (kqA b h) (by decide)
              have mo := mo.tr m_8
              have hr_8 : ∀ k a, a ≠ (hz S) → fr S_8 k a = fr S k a := by rw [e_8]; exact fun k a h0 => counter_fr' h0
              have hi_8 : ∀ k a, a ≠ (hz S) → fi S_8 k a = fi S k a := by rw [e_8]; exact fun k a h0 => counter_fi' h0
              refine q_some2 nA ?_
              refine a_rs (K := 14) (t0 := 3) (by decide) rfl (r := (RCounter, TCounter, 12)) ⟨rfl, rfl⟩ hx hb hW kA k_q7 (cnt_in (Classical.choose_spec ha.1).2 (Classical.choose_spec ha.1).1 (by decide) c_5 lA) dAT_counter_82 (fun H locs hW => ?_)
              have mo := mo.tr (mono_sar (a := (gd (fr S 18 t))) (i := (fi S 10 t).toNatClampNeg) (v := (some (hz S))))
              have lA : an (sar S_8 (gd (fr S 18 t)) (fi S 10 t).toNatClampNeg (some (hz S))) (gd (fr S 18 t)) = 20 := ka_sar lA
              have k_t : kd (sar S_8 (gd (fr S 18 t)) (fi S 10 t).toNatClampNeg (some (hz S))) t = 8 := kk_sar k_t
              have kA : kd (sar S_8 (gd (fr S 18 t)) (fi S 10 t).toNatClampNeg (some (hz S))) (gd (fr S 18 t)) = 14 := kk_sar kA
              have k_q7 : kd (sar S_8 (gd (fr S 18 t)) (fi S 10 t).toNatClampNeg (some (hz S))) (hz S) = 3 := kk_sar k_q7
              have kqA : ∀ b, fr S 18 t = some b → kd (sar S_8 (gd (fr S 18 t)) (fi S 10 t).toNatClampNeg (some (hz S))) b = 14 := fun b h => kk_sar (kqA b h)
              refine lv_aload_n hx hb dAT_counter_83 rfl (lv_at hl 0 rfl) ?_
              refine lv_dup hx hb dAT_counter_84 rfl ?_
              refine g_i FAT_38 hx hb hts hown hW k_t dAT_counter_85 ?_
              rw [show fi (sar S_8 (gd (fr S 18 t)) (fi S 10 t).toNatClampNeg (some (hz S))) 10 t = fi S 10 t from hi_8 10 t ne7_0]
              refine lv_iconst (v := (1 : Int32)) hx hb dAT_counter_88 (by decide) ?_
              refine lv_iadd hx hb dAT_counter_89 ?_
              refine p_i FAT_38 GAT_counterCount (fun h => by cases h) hx hb hts hown hW k_t rfl rfl dAT_counter_90 (fun H locs hW => ?_)
              have mo := mo.tr (mono_sfi (k := 10) (a := t) (v := ((fi S 10 t) + (1 : Int32))))
              have lA : an (sfi (sar S_8 (gd (fr S 18 t)) (fi S 10 t).toNatClampNeg (some (hz S))) 10 t ((fi S 10 t) + (1 : Int32))) (gd (fr S 18 t)) = 20 := ka_sfi lA
              have k_t : kd (sfi (sar S_8 (gd (fr S 18 t)) (fi S 10 t).toNatClampNeg (some (hz S))) 10 t ((fi S 10 t) + (1 : Int32))) t = 8 := kk_sfi k_t
              have kA : kd (sfi (sar S_8 (gd (fr S 18 t)) (fi S 10 t).toNatClampNeg (some (hz S))) 10 t ((fi S 10 t) + (1 : Int32))) (gd (fr S 18 t)) = 14 := kk_sfi kA
              have k_q7 : kd (sfi (sar S_8 (gd (fr S 18 t)) (fi S 10 t).toNatClampNeg (some (hz S))) 10 t ((fi S 10 t) + (1 : Int32))) (hz S) = 3 := kk_sfi k_q7
              have kqA : ∀ b, fr S 18 t = some b → kd (sfi (sar S_8 (gd (fr S 18 t)) (fi S 10 t).toNatClampNeg (some (hz S))) 10 t ((fi S 10 t) + (1 : Int32))) b = 14 := fun b h => kk_sfi (kqA b h)
              refine lv_aload_n hx hb dAT_counter_93 rfl (lv_at hl 0 rfl) ?_
              refine g_i FAT_38 hx hb hts hown hW k_t dAT_counter_94 ?_
              rw [show fi (sfi (sar S_8 (gd (fr S 18 t)) (fi S 10 t).toNatClampNeg (some (hz S))) 10 t ((fi S 10 t) + (1 : Int32))) 10 t = ((fi S 10 t) + (1 : Int32)) from up2_self _ _ _ _]
              exact e_i hsz hx hb hr hlk hW mo (Nat.le_of_ble_eq_true rfl) (Nat.le_of_ble_eq_true rfl) dAT_counter_97 ⟨by refine Eq.symm ?_; refine (if_neg c_1).trans ?_; refine (if_neg c_2).trans ?_; refine (if_neg c_3).trans ?_; refine (if_neg c_4).trans ?_; refine (if_pos c_5).trans ?_; rfl, by rw [e_8]; refine Eq.symm ?_; refine (if_neg c_1).trans ?_; refine (if_neg c_2).trans ?_; refine (if_neg c_3).trans ?_; refine (if_neg c_4).trans ?_; refine (if_pos c_5).trans ?_; rfl⟩
            · exact absurd c_6 (hnz c_1 c_2 c_3 c_4 c_5)
          · refine lv_bipush (v := (-4 : Int32)) hx hb dAT_counter_40 (by decide) ?_
            exact e_i hsz hx hb hr hlk hW (mono.rf S) (Nat.le_of_ble_eq_true rfl) (Nat.le_of_ble_eq_true rfl) dAT_counter_42 ⟨(by refine Eq.symm ?_; refine (if_neg c_1).trans ?_; refine (if_neg c_2).trans ?_; refine (if_neg c_3).trans ?_; refine (if_neg c_4).trans ?_; refine (if_neg c_5).trans ?_; rfl), (by refine Eq.symm ?_; refine (if_neg c_1).trans ?_; refine (if_neg c_2).trans ?_; refine (if_neg c_3).trans ?_; refine (if_neg c_4).trans ?_; refine (if_neg c_5).trans ?_; rfl)⟩
        · refine lv_bipush (v := (-2 : Int32)) hx hb dAT_counter_28 (by decide) ?_
          exact e_i hsz hx hb hr hlk hW (mono.rf S) (Nat.le_of_ble_eq_true rfl) (Nat.le_of_ble_eq_true rfl) dAT_counter_30 ⟨(by refine Eq.symm ?_; refine (if_neg c_1).trans ?_; refine (if_neg c_2).trans ?_; refine (if_neg c_3).trans ?_; refine (if_pos c_4).trans ?_; rfl), (by refine Eq.symm ?_; refine (if_neg c_1).trans ?_; refine (if_neg c_2).trans ?_; refine (if_neg c_3).trans ?_; refine (if_pos c_4).trans ?_; rfl)⟩

/-- where counter throws: the start, the end -/
def CPreX (D : va_G) (AC : Nat → ClassId) (S : HS) (av : List Value) (sa : Nat) : Array Value → State → Prop := fun a U => CPre D AC S av a U ∧ (∀ w ∈ Bundle.ownAtoms RAT 46 AE AEn, w.before a U = true) ∧ vk_R RAT 44 msgX sa U
set_option maxRecDepth 20000 in
set_option maxHeartbeats 2000000 in
theorem c_counterX (l : Launch) (hl0 : l.stackTraces = false) (D : va_G) (AC : Nat → ClassId) (S : HS) (t : Nat) (bs tk : Int64) (sa : Nat) (k_t : kd S t = 8) (h1 : ¬ bs < (0 : Int64)) (h2 : ¬ (1000000000 : Int64) < bs) (h3 : ¬ tk < (1 : Int64)) (h4 : ¬ (1000 : Int64) < tk) (h5 : fi S 10 t < (20 : Int32)) (h6 : bs = (0 : Int64)) : MetFree l yAT_counter (headSpec (Cond.code yAT_counter cAT_counter 5 (some .int) :: wT) (rmOf 6 1 6 100)) (CPreX D AC S [.ref t, .long bs, .long tk] sa) (fun _ _ _ _ _ => True) (fun _ st o U => thX st o U) := by
  refine MetFree.of_bodyS (code := cAT_counter) (maxLocals := 5) (ret := some .int) (by decide) ?_ ?_
  · intro args s m h hn
    obtain ⟨meth, c, h1, h2, h3, h4, h5, h6, -, -⟩ := Cond.code_spec hn (atoms_spec (ws := Cond.code yAT_counter cAT_counter 5 (some .int) :: wT) h _ List.mem_cons_self)
    exact ⟨meth, c, h1, h2, h3, h4, h5, h6⟩
  intro p e s m args below meth c s₁ B hml hP _
  obtain ⟨⟨rfl, hsz, hK, hP, hD, hok, hnx, hht⟩, hO, hstr⟩ := hP
  have hts0 := atoms_spec (ws := Cond.code yAT_counter cAT_counter 5 (some .int) :: wT) B.pre
  have hts : ∀ w ∈ wT, w.before _ s = true := fun w hw => hts0 w (List.mem_cons_of_mem _ hw)
  have hno : c.exceptionTable.toList = [] := by
    have h0 := BodyLoose.noHandlers B (hts0 _ List.mem_cons_self)
    have h1 : c.exceptionTable.size = 0 := by simpa [Array.isEmpty] using h0
    exact List.eq_nil_of_length_eq_zero (by simpa using h1)
  have hx := B.exec
  have hb := B.bytes
  have hlk := B.notSynchronized
  have hown : s.vm.findClass RAT = some m.cls := findClass_of_methodNamed B.named
  have hW : Wd D AC (AS (hL S) s.heap.size) s s.heap s.heap [] S := ⟨hK, hP, ⟨hD.1, fun k q hk => Or.inl (pl_mem hk).1⟩, va_S.rf, fun q h => Or.inr h, hok, hsz, hnx, hht⟩
  have hh0 : s₁.heap = s.heap := by rw [B.state]; rfl
  have bodyW : ∀ ls, lv_has ls 5 [(0, .ref t), (1, .long bs), (3, .long tk)] → W p l e (rmOf 6 1 6 100) s m ([.ref t, .long bs, .long tk] : List Value).toArray below meth c s.heap [] 0 0 (fun t => ∃ o, t.status = .running ∧ Ended t below o ∧ thX s o t) (F0 m 0 ls []) := by
    intro ls hl
    refine lv_lload_n hx hb dAT_counter_0 rfl (lv_at hl 1 rfl) ?_
    refine lv_lconst (v := (0 : Int64)) hx hb dAT_counter_1 (by decide) ?_
    refine ll_lt (tgt := 28) hx hb dAT_counter_2 dAT_counter_3 (by decide) (fun c_1 => ?_) (fun c_1 => ?_)
    · exact absurd c_1 h1
    · refine lv_lload_n hx hb dAT_counter_6 rfl (lv_at hl 1 rfl) ?_
      refine lv_ldc2 (v := (1000000000 : Int64)) hx hb hown (hts _ QAT_34) dAT_counter_7 ?_
      refine ll_gt (tgt := 28) hx hb dAT_counter_10 dAT_counter_11 (by decide) (fun c_2 => ?_) (fun c_2 => ?_)
      · exact absurd c_2 h2
      · refine lv_lload_n hx hb dAT_counter_14 rfl (lv_at hl 2 rfl) ?_
        refine lv_lconst (v := (1 : Int64)) hx hb dAT_counter_15 (by decide) ?_
        refine ll_lt (tgt := 28) hx hb dAT_counter_16 dAT_counter_17 (by decide) (fun c_3 => ?_) (fun c_3 => ?_)
        · exact absurd c_3 h3
        · refine lv_lload_n hx hb dAT_counter_20 rfl (lv_at hl 2 rfl) ?_
          refine lv_ldc2 (v := (1000 : Int64)) hx hb hown (hts _ QAT_36) dAT_counter_21 ?_
          refine ll_le (tgt := 31) hx hb dAT_counter_24 dAT_counter_25 (by decide) (fun c_4 => ?_) (fun c_4 => ?_)
          · refine lv_aload_n hx hb dAT_counter_31 rfl (lv_at hl 0 rfl) ?_
            refine g_i FAT_38 hx hb hts hown hW k_t dAT_counter_32 ?_
            refine lv_bipush (v := (20 : Int32)) hx hb dAT_counter_35 (by decide) ?_
            refine lv_icmp_lt (tgt := 43) hx hb dAT_counter_37 (by decide) (fun c_5 => ?_) (fun c_5 => ?_)
            · refine lv_lload_n hx hb dAT_counter_43 rfl (lv_at hl 1 rfl) ?_
              refine lv_lconst (v := (0 : Int64)) hx hb dAT_counter_44 (by decide) ?_
              refine ll_ne (tgt := 59) hx hb dAT_counter_45 dAT_counter_46 (by decide) (fun c_6 => ?_) (fun c_6 => ?_)
              · exact absurd h6 c_6
              · exact fx_throw hl0 hx hb hown hts hO hstr (hl.1.trans hml.symm) hno hlk (Nat.le_of_ble_eq_true rfl) (Nat.le_of_ble_eq_true rfl)
            · exact absurd h5 c_5
          · exact absurd c_4 h4
  have body : W p l e (rmOf 6 1 6 100) s m ([.ref t, .long bs, .long tk] : List Value).toArray below meth c s.heap [] 0 0 (fun t => ∃ o, t.status = .running ∧ Ended t below o ∧ thX s o t) (entryFrame m ([.ref t, .long bs, .long tk] : List Value).toArray 5) := by
    rw [lg_entry_eq]
    exact bodyW _ (lv_entry [.ref t, .long bs, .long tk] (n := 5) (Nat.le_of_ble_eq_true rfl))
  obtain ⟨t', a1, o, b1, b2, b3⟩ := body s₁ hh0 (Stand.of_body B)
  exact ⟨t', o, a1, b1, b2, b3⟩
