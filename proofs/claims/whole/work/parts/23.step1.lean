def perform_S (S : HS) (t : Nat) (x : Nat) (dp : Int32) (rec : HS → Nat → HS) : HS :=
  opc (fr S 1 x) (opc (fr S 0 x) (S)
    (fun b_4 => if (20000 : Int32) ≤ (fi S 13 t) then
        S
      else
        if (20 : Int32) ≤ dp then
          S
        else
          (rec (sfi S 13 t ((fi S 13 t) + (1 : Int32))) b_4)))
  (fun b_2 => opc (fr S 0 x) ((sfi S 1 b_2 (0 : Int32)))
    (fun b_11 => if (20000 : Int32) ≤ (fi S 13 t) then
        (sfi S 1 b_2 (0 : Int32))
      else
        if (20 : Int32) ≤ dp then
          (sfi S 1 b_2 (0 : Int32))
        else
          (rec (sfi (sfi S 1 b_2 (0 : Int32)) 13 t ((fi S 13 t) + (1 : Int32))) b_11)))
set_option maxRecDepth 20000 in
set_option maxHeartbeats 2000000 in
theorem c_perform (l : Launch) (D : va_G) (AC : Nat → ClassId) (S : HS) (t : Nat) (x : Nat) (dp : Int32) (rec : HS → Nat → HS) (k : Nat) (k_t : kd S t = 8) (k_x : kd S x = 1) (hi : sInv S t) (hrec : ¬ (20 : Int32) ≤ dp → ∀ S1 c1, sInv S1 t → kd S1 c1 = 3 → CtV l yAT_makeStep (Cond.code yAT_makeStep cAT_makeStep 4 none :: wT) (8 + 5 * k) (200 + 92 * k) D AC S1 [.ref t, .ref c1, .int (dp + 1)] (phi S1 t) (psi S1 t) (fun S2 => S2 = rec S1 c1)) (hrr : ∀ S1 c1, sInv S1 t → kd S1 c1 = 3 → sRel t S1 (rec S1 c1)) : CtV l yAT_perform (Cond.code yAT_perform cAT_perform 3 none :: wT) (9 + 5 * k) (223 + 92 * k) D AC S [.ref t, .ref x, .int dp] (phi S t) (psi S t) (fun S' => S' = perform_S S t x dp rec) := by
  refine met_of (by decide) (Nat.le_of_ble_eq_true rfl) ?_
  intro p e s m below meth c ls hsz X hW hl
  obtain ⟨hx, hb, hml, hr, hlk, hown, hnm, hts⟩ := X
  have hl : lv_has ls 3 [(0, .ref t), (1, .ref x), (2, .int dp)] := hl
  have mo : mono S S := mono.rf S
  have sr : sRel t S S := sRel.rf hi
  have ht0 := hW.t
  refine lv_aload_n hx hb dAT_perform_0 rfl (lv_at hl 1 rfl) ?_
  have kq_1 : ∀ b, fr S 1 x = some b → kd S b = 2 := fun b h => hW.ok.2.1 1 x b k_x h
  refine g_q FAT_282 hx hb hts hown hW k_x dAT_perform_1 ?_
  refine q_ifnull (tgt := 15) hx hb dAT_perform_4 (by decide) (fun n_2 => ?_) (fun b_2 n_2 => ?_)
  · refine lv_aload_n hx hb dAT_perform_15 rfl (lv_at hl 1 rfl) ?_
    have kq_3 : ∀ b, fr S 0 x = some b → kd S b = 3 := fun b h => hW.ok.2.1 0 x b k_x h
    refine g_q FAT_285 hx hb hts hown hW k_x dAT_perform_16 ?_
    refine q_ifnull (tgt := 59) hx hb dAT_perform_19 (by decide) (fun n_4 => ?_) (fun b_4 n_4 => ?_)
    · exact e_v hsz hx hb hr hlk hW (mono.rf S) (by show _ ≤ phi S t; have z1 := sr.2.1; have z2 := sr.2.2.1; omega) (by show _ ≤ psi S t; have z1 := sr.2.1; have z2 := sr.2.2.1; omega) dAT_perform_59 ((by refine Eq.symm ?_; refine (op_none n_2).trans ?_; refine (op_none n_4).trans ?_; rfl))
    · have k_b_4 : kd S b_4 = 3 := kq_3 b_4 n_4
      refine lv_aload_n hx hb dAT_perform_22 rfl (lv_at hl 0 rfl) ?_
      refine g_i FAT_185 hx hb hts hown hW k_t dAT_perform_23 ?_
      refine lv_sipush (v := (20000 : Int32)) hx hb dAT_perform_26 (by decide) ?_
      refine lv_icmp_ge (tgt := 59) hx hb dAT_perform_29 (by decide) (fun c_5 => ?_) (fun c_5 => ?_)
      · exact e_v hsz hx hb hr hlk hW (mono.rf S) (by show _ ≤ phi S t; have z1 := sr.2.1; have z2 := sr.2.2.1; omega) (by show _ ≤ psi S t; have z1 := sr.2.1; have z2 := sr.2.2.1; omega) dAT_perform_59 ((by refine Eq.symm ?_; refine (op_none n_2).trans ?_; refine (op_some n_4).trans ?_; refine (if_pos c_5).trans ?_; rfl))
      · refine lv_iload_n hx hb dAT_perform_32 rfl (lv_at hl 2 rfl) ?_
        refine lv_bipush (v := (20 : Int32)) hx hb dAT_perform_33 (by decide) ?_
        refine lv_icmp_ge (tgt := 59) hx hb dAT_perform_35 (by decide) (fun c_6 => ?_) (fun c_6 => ?_)
        · exact e_v hsz hx hb hr hlk hW (mono.rf S) (by show _ ≤ phi S t; have z1 := sr.2.1; have z2 := sr.2.2.1; omega) (by show _ ≤ psi S t; have z1 := sr.2.1; have z2 := sr.2.2.1; omega) dAT_perform_59 ((by refine Eq.symm ?_; refine (op_none n_2).trans ?_; refine (op_some n_4).trans ?_; refine (if_neg c_5).trans ?_; refine (if_pos c_6).trans ?_; rfl))
        · refine lv_aload_n hx hb dAT_perform_38 rfl (lv_at hl 0 rfl) ?_
          refine lv_dup hx hb dAT_perform_39 rfl ?_
          refine g_i FAT_185 hx hb hts hown hW k_t dAT_perform_40 ?_
          refine lv_iconst (v := (1 : Int32)) hx hb dAT_perform_43 (by decide) ?_
          refine lv_iadd hx hb dAT_perform_44 ?_
          refine p_i FAT_185 GAT_actSteps (fun h => by cases h) hx hb hts hown hW k_t rfl rfl dAT_perform_45 (fun H locs hW => ?_)
          have mo := mo.tr (mono_sfi (k := 13) (a := t) (v := ((fi S 13 t) + (1 : Int32))))
          have sr : sRel t S (sfi S 13 t ((fi S 13 t) + (1 : Int32))) := sr.tr (sRel_sfi (by decide) sr.1)
          refine W.tight (k := hz (sfi S 13 t ((fi S 13 t) + (1 : Int32))) - hz S) (n := tz (sfi S 13 t ((fi S 13 t) + (1 : Int32))) - tz S) (by rw [hW.z, hsz]; have := sr.2.2.1.1; omega) (by rw [hW.t, ht0]; have := sr.2.2.1.2; omega) ?_
          have nnp_7 : nn (sfi S 13 t ((fi S 13 t) + (1 : Int32))) := nn_sfi hi.2.2.1
          refine lv_aload_n hx hb dAT_perform_48 rfl (lv_at hl 0 rfl) ?_
          refine lv_aload_n hx hb dAT_perform_49 rfl (lv_at hl 1 rfl) ?_
          refine g_q FAT_285 hx hb hts hown hW k_x dAT_perform_50 ?_
          rw [show fr (sfi S 13 t ((fi S 13 t) + (1 : Int32))) 0 x = fr S 0 x from rfl]
          refine lv_iload_n hx hb dAT_perform_53 rfl (lv_at hl 2 rfl) ?_
          refine lv_iconst (v := (1 : Int32)) hx hb dAT_perform_54 (by decide) ?_
          refine lv_iadd hx hb dAT_perform_55 ?_
          refine q_some1 n_4 ?_
          refine k_Vv (As := [.ref b_4, .int (dp + (1 : Int32))]) (rest := []) (hrec c_6 (sfi S 13 t ((fi S 13 t) + (1 : Int32))) b_4 sr.1 k_b_4) CAT_188 ⟨by decide, by decide, _, rfl, rfl⟩ hx hb hml hown hts hW k_t hl.1 rfl rfl (Nat.le_of_ble_eq_true rfl) ⟨⟨by show _ ≤ (9 + 5 * k); omega, by show _ ≤ (223 + 92 * k); omega⟩, ⟨by show _ ≤ phi S t; have z1 := sr.2.1; have z2 := sr.2.2.1; omega, by show _ ≤ psi S t; have z1 := sr.2.1; have z2 := sr.2.2.1; omega⟩⟩ dAT_perform_56 (fun S_8 H locs e_8 hW m_8 _ => ?_)
          rw [e_8] at hW m_8
          have sr := sr.tr (hrr _ _ sr.1 k_b_4)
          have k_t := m_8.k k_t (by decide)
          have k_x := m_8.k k_x (by decide)
          have k_b_4 := m_8.k k_b_4 (by decide)
          have kq_1 := fun b h => m_8.k (kq_1 b h) (by decide)
          have kq_3 := fun b h => m_8.k (kq_3 b h) (by decide)
          have mo := mo.tr m_8
          refine W.tight (k := hz (rec (sfi S 13 t ((fi S 13 t) + (1 : Int32))) b_4) - hz S) (n := tz (rec (sfi S 13 t ((fi S 13 t) + (1 : Int32))) b_4) - tz S) (by rw [hW.z, hsz]; have := sr.2.2.1.1; omega) (by rw [hW.t, ht0]; have := sr.2.2.1.2; omega) ?_
          exact e_v hsz hx hb hr hlk hW (mo) (by show _ ≤ phi S t; have z1 := sr.2.1; have z2 := sr.2.2.1; omega) (by show _ ≤ psi S t; have z1 := sr.2.1; have z2 := sr.2.2.1; omega) dAT_perform_59 ((by refine Eq.symm ?_; refine (op_none n_2).trans ?_; refine (op_some n_4).trans ?_; refine (if_neg c_5).trans ?_; refine (if_neg c_6).trans ?_; rfl))
  · have k_b_2 : kd S b_2 = 2 := kq_1 b_2 n_2
    refine lv_aload_n hx hb dAT_perform_7 rfl (lv_at hl 1 rfl) ?_
    refine g_q FAT_282 hx hb hts hown hW k_x dAT_perform_8 ?_
    refine lv_iconst (v := (0 : Int32)) hx hb dAT_perform_11 (by decide) ?_
    refine q_some1 n_2 ?_
    refine p_i FAT_87 GAlarm_isSet (fun h => by cases h) hx hb hts hown hW k_b_2 rfl rfl dAT_perform_12 (fun H locs hW => ?_)
    have mo := mo.tr (mono_sfi (k := 1) (a := b_2) (v := (0 : Int32)))
    have sr : sRel t S (sfi S 1 b_2 (0 : Int32)) := sr.tr (sRel_sfi (by decide) sr.1)
    refine W.tight (k := hz (sfi S 1 b_2 (0 : Int32)) - hz S) (n := tz (sfi S 1 b_2 (0 : Int32)) - tz S) (by rw [hW.z, hsz]; have := sr.2.2.1.1; omega) (by rw [hW.t, ht0]; have := sr.2.2.1.2; omega) ?_
    have nnp_9 : nn (sfi S 1 b_2 (0 : Int32)) := nn_sfi hi.2.2.1
    refine lv_aload_n hx hb dAT_perform_15 rfl (lv_at hl 1 rfl) ?_
    have kq_10 : ∀ b, fr S 0 x = some b → kd (sfi S 1 b_2 (0 : Int32)) b = 3 := fun b h => hW.ok.2.1 0 x b k_x h
    refine g_q FAT_285 hx hb hts hown hW k_x dAT_perform_16 ?_
    rw [show fr (sfi S 1 b_2 (0 : Int32)) 0 x = fr S 0 x from rfl]
    refine q_ifnull (tgt := 59) hx hb dAT_perform_19 (by decide) (fun n_11 => ?_) (fun b_11 n_11 => ?_)
    · exact e_v hsz hx hb hr hlk hW (mo) (by show _ ≤ phi S t; have z1 := sr.2.1; have z2 := sr.2.2.1; omega) (by show _ ≤ psi S t; have z1 := sr.2.1; have z2 := sr.2.2.1; omega) dAT_perform_59 ((by refine Eq.symm ?_; refine (op_some n_2).trans ?_; refine (op_none n_11).trans ?_; rfl))
    · have k_b_11 : kd (sfi S 1 b_2 (0 : Int32)) b_11 = 3 := kq_10 b_11 n_11
      refine lv_aload_n hx hb dAT_perform_22 rfl (lv_at hl 0 rfl) ?_
      refine g_i FAT_185 hx hb hts hown hW k_t dAT_perform_23 ?_
      rw [show fi (sfi S 1 b_2 (0 : Int32)) 13 t = fi S 13 t from rfl]
      refine lv_sipush (v := (20000 : Int32)) hx hb dAT_perform_26 (by decide) ?_
      refine lv_icmp_ge (tgt := 59) hx hb dAT_perform_29 (by decide) (fun c_12 => ?_) (fun c_12 => ?_)
      · exact e_v hsz hx hb hr hlk hW (mo) (by show _ ≤ phi S t; have z1 := sr.2.1; have z2 := sr.2.2.1; omega) (by show _ ≤ psi S t; have z1 := sr.2.1; have z2 := sr.2.2.1; omega) dAT_perform_59 ((by refine Eq.symm ?_; refine (op_some n_2).trans ?_; refine (op_some n_11).trans ?_; refine (if_pos c_12).trans ?_; rfl))
      · refine lv_iload_n hx hb dAT_perform_32 rfl (lv_at hl 2 rfl) ?_
        refine lv_bipush (v := (20 : Int32)) hx hb dAT_perform_33 (by decide) ?_
        refine lv_icmp_ge (tgt := 59) hx hb dAT_perform_35 (by decide) (fun c_13 => ?_) (fun c_13 => ?_)
        · exact e_v hsz hx hb hr hlk hW (mo) (by show _ ≤ phi S t; have z1 := sr.2.1; have z2 := sr.2.2.1; omega) (by show _ ≤ psi S t; have z1 := sr.2.1; have z2 := sr.2.2.1; omega) dAT_perform_59 ((by refine Eq.symm ?_; refine (op_some n_2).trans ?_; refine (op_some n_11).trans ?_; refine (if_neg c_12).trans ?_; refine (if_pos c_13).trans ?_; rfl))
        · refine lv_aload_n hx hb dAT_perform_38 rfl (lv_at hl 0 rfl) ?_
          refine lv_dup hx hb dAT_perform_39 rfl ?_
          refine g_i FAT_185 hx hb hts hown hW k_t dAT_perform_40 ?_
          rw [show fi (sfi S 1 b_2 (0 : Int32)) 13 t = fi S 13 t from rfl]
          refine lv_iconst (v := (1 : Int32)) hx hb dAT_perform_43 (by decide) ?_
          refine lv_iadd hx hb dAT_perform_44 ?_
          refine p_i FAT_185 GAT_actSteps (fun h => by cases h) hx hb hts hown hW k_t rfl rfl dAT_perform_45 (fun H locs hW => ?_)
          have mo := mo.tr (mono_sfi (k := 13) (a := t) (v := ((fi S 13 t) + (1 : Int32))))
          have sr : sRel t S (sfi (sfi S 1 b_2 (0 : Int32)) 13 t ((fi S 13 t) + (1 : Int32))) := sr.tr (sRel_sfi (by decide) sr.1)
          refine W.tight (k := hz (sfi (sfi S 1 b_2 (0 : Int32)) 13 t ((fi S 13 t) + (1 : Int32))) - hz S) (n := tz (sfi (sfi S 1 b_2 (0 : Int32)) 13 t ((fi S 13 t) + (1 : Int32))) - tz S) (by rw [hW.z, hsz]; have := sr.2.2.1.1; omega) (by rw [hW.t, ht0]; have := sr.2.2.1.2; omega) ?_
          have nnp_14 : nn (sfi (sfi S 1 b_2 (0 : Int32)) 13 t ((fi S 13 t) + (1 : Int32))) := nn_sfi nnp_9
          refine lv_aload_n hx hb dAT_perform_48 rfl (lv_at hl 0 rfl) ?_
          refine lv_aload_n hx hb dAT_perform_49 rfl (lv_at hl 1 rfl) ?_
          refine g_q FAT_285 hx hb hts hown hW k_x dAT_perform_50 ?_
          rw [show fr (sfi (sfi S 1 b_2 (0 : Int32)) 13 t ((fi S 13 t) + (1 : Int32))) 0 x = fr S 0 x from rfl]
          refine lv_iload_n hx hb dAT_perform_53 rfl (lv_at hl 2 rfl) ?_
          refine lv_iconst (v := (1 : Int32)) hx hb dAT_perform_54 (by decide) ?_
          refine lv_iadd hx hb dAT_perform_55 ?_
          refine q_some1 n_11 ?_
          refine k_Vv (As := [.ref b_11, .int (dp + (1 : Int32))]) (rest := []) (hrec c_13 (sfi (sfi S 1 b_2 (0 : Int32)) 13 t ((fi S 13 t) + (1 : Int32))) b_11 sr.1 k_b_11) CAT_188 ⟨by decide, by decide, _, rfl, rfl⟩ hx hb hml hown hts hW k_t hl.1 rfl rfl (Nat.le_of_ble_eq_true rfl) ⟨⟨by show _ ≤ (9 + 5 * k); omega, by show _ ≤ (223 + 92 * k); omega⟩, ⟨by show _ ≤ phi S t; have z1 := sr.2.1; have z2 := sr.2.2.1; omega, by show _ ≤ psi S t; have z1 := sr.2.1; have z2 := sr.2.2.1; omega⟩⟩ dAT_perform_56 (fun S_15 H locs e_15 hW m_15 _ => ?_)
          rw [e_15] at hW m_15
          have sr := sr.tr (hrr _ _ sr.1 k_b_11)
          have k_t := m_15.k k_t (by decide)
          have k_x := m_15.k k_x (by decide)
          have k_b_2 := m_15.k k_b_2 (by decide)
          have k_b_11 := m_15.k k_b_11 (by decide)
          have kq_1 := fun b h => m_15.k (kq_1 b h) (by decide)
          have kq_10 := fun b h => m_15.k (kq_10 b h) (by decide)
          have mo := mo.tr m_15
          refine W.tight (k := hz (rec (sfi (sfi S 1 b_2 (0 : Int32)) 13 t ((fi S 13 t) + (1 : Int32))) b_11) - hz S) (n := tz (rec (sfi (sfi S 1 b_2 (0 : Int32)) 13 t ((fi S 13 t) + (1 : Int32))) b_11) - tz S) (by rw [hW.z, hsz]; have := sr.2.2.1.1; omega) (by rw [hW.t, ht0]; have := sr.2.2.1.2; omega) ?_
          exact e_v hsz hx hb hr hlk hW (mo) (by show _ ≤ phi S t; have z1 := sr.2.1; have z2 := sr.2.2.1; omega) (by show _ ≤ psi S t; have z1 := sr.2.1; have z2 := sr.2.2.1; omega) dAT_perform_59 ((by refine Eq.symm ?_; refine (op_some n_2).trans ?_; refine (op_some n_11).trans ?_; refine (if_neg c_12).trans ?_; refine (if_neg c_13).trans ?_; rfl))

theorem sRel_perform {S : HS} {t x : Nat} {dp : Int32} {rec : HS → Nat → HS} (hrr : ∀ S1 c1, sInv S1 t → kd S1 c1 = 3 → sRel t S1 (rec S1 c1)) (h : sInv S t) (k_x : kd S x = 1) : sRel t S (perform_S S t x dp rec) := by
  have hc : ∀ c, fr S 0 x = some c → kd S c = 3 := fun c hc => h.1.1.2.1 0 x c k_x hc
  have key : ∀ (S1 : HS) (c : Nat) (v : Int32), sRel t S S1 → kd S1 c = 3 → sRel t S (if (20000 : Int32) ≤ fi S 13 t then S1 else if (20 : Int32) ≤ dp then S1 else rec (sfi S1 13 t v) c) := by
    intro S1 c v s1 kc
    have s2 := s1.tr (sRel_sfi (k := 13) (a := t) (v := v) (by decide) s1.1)
    exact ite_P (P := sRel t S) s1 (ite_P (P := sRel t S) s1 (s2.tr (hrr _ _ s2.1 kc)))
  unfold perform_S
  refine opc_P (P := sRel t S) (fun _ => ?_) (fun b _ => ?_)
  · exact opc_P (P := sRel t S) (fun _ => sRel.rf h) (fun c hcc => key S c _ (sRel.rf h) (hc c hcc))
  · have s1 : sRel t S (sfi S 1 b 0) := sRel_sfi (by decide) h
    exact opc_P (P := sRel t S) (fun _ => s1) (fun c hcc => key (sfi S 1 b 0) c _ s1 (hc c hcc))

def takeAlarmTurn_S (S : HS) (t : Nat) (a : Nat) (dp : Int32) (rec : HS → Nat → HS) : HS :=
  if (fi S 1 a) = 0 then
    S
  else
    if (fl S 0 a) = (fl S 6 (gd (fr S 2 a))) then
      if (fl (add_S S (gd (fr S 21 t)) (0 : Int32) (fi S 0 a) (0 : Int64) (fl S 5 (gd (fr S 2 a)))) 1 a) = (0 : Int64) then
        (perform_S (sfi (add_S S (gd (fr S 21 t)) (0 : Int32) (fi S 0 a) (0 : Int64) (fl S 5 (gd (fr S 2 a)))) 1 a (0 : Int32)) t (gd (fr (add_S S (gd (fr S 21 t)) (0 : Int32) (fi S 0 a) (0 : Int64) (fl S 5 (gd (fr S 2 a)))) 3 a)) dp rec)
      else
        (perform_S (becomeDue_S (add_S S (gd (fr S 21 t)) (0 : Int32) (fi S 0 a) (0 : Int64) (fl S 5 (gd (fr S 2 a)))) a (fl (add_S S (gd (fr S 21 t)) (0 : Int32) (fi S 0 a) (0 : Int64) (fl S 5 (gd (fr S 2 a)))) 1 a)) t (gd (fr (becomeDue_S (add_S S (gd (fr S 21 t)) (0 : Int32) (fi S 0 a) (0 : Int64) (fl S 5 (gd (fr S 2 a)))) a (fl (add_S S (gd (fr S 21 t)) (0 : Int32) (fi S 0 a) (0 : Int64) (fl S 5 (gd (fr S 2 a)))) 1 a)) 3 a)) dp rec)
    else
      (wakeAt_S S (gd (fr S 2 a)) (fl S 0 a))
set_option maxRecDepth 20000 in
set_option maxHeartbeats 2000000 in
theorem c_takeAlarmTurn (l : Launch) (D : va_G) (AC : Nat → ClassId) (S : HS) (t : Nat) (a : Nat) (dp : Int32) (rec : HS → Nat → HS) (k : Nat) (k_t : kd S t = 8) (k_a : kd S a = 2) (hi : sInv S t) (hrec : ¬ (20 : Int32) ≤ dp → ∀ S1 c1, sInv S1 t → kd S1 c1 = 3 → CtV l yAT_makeStep (Cond.code yAT_makeStep cAT_makeStep 4 none :: wT) (8 + 5 * k) (200 + 92 * k) D AC S1 [.ref t, .ref c1, .int (dp + 1)] (phi S1 t) (psi S1 t) (fun S2 => S2 = rec S1 c1)) (hrr : ∀ S1 c1, sInv S1 t → kd S1 c1 = 3 → sRel t S1 (rec S1 c1)) : CtV l yAT_takeAlarmTurn (Cond.code yAT_takeAlarmTurn cAT_takeAlarmTurn 3 none :: wT) (10 + 5 * k) (245 + 92 * k) D AC S [.ref t, .ref a, .int dp] (phi S t) (psi S t) (fun S' => S' = takeAlarmTurn_S S t a dp rec) := by
  refine met_of (by decide) (Nat.le_of_ble_eq_true rfl) ?_
  intro p e s m below meth c ls hsz X hW hl
  obtain ⟨hx, hb, hml, hr, hlk, hown, hnm, hts⟩ := X
  have hl : lv_has ls 3 [(0, .ref t), (1, .ref a), (2, .int dp)] := hl
  have mo : mono S S := mono.rf S
  have sr : sRel t S S := sRel.rf hi
  have ht0 := hW.t
  refine lv_aload_n hx hb dAT_takeAlarmTurn_0 rfl (lv_at hl 1 rfl) ?_
  refine g_i FAT_87 hx hb hts hown hW k_a dAT_takeAlarmTurn_1 ?_
  refine lv_if_ne (tgt := 8) hx hb dAT_takeAlarmTurn_4 (by decide) (fun c_1 => ?_) (fun c_1 => ?_)
  · refine lv_aload_n hx hb dAT_takeAlarmTurn_8 rfl (lv_at hl 1 rfl) ?_
    refine g_l FAT_234 hx hb hts hown hW k_a dAT_takeAlarmTurn_9 ?_
    refine lv_aload_n hx hb dAT_takeAlarmTurn_12 rfl (lv_at hl 1 rfl) ?_
    have kq_2 : ∀ b, fr S 2 a = some b → kd S b = 3 := fun b h => hW.ok.2.1 2 a b k_a h
    refine g_q FAT_91 hx hb hts hown hW k_a dAT_takeAlarmTurn_13 ?_
    have n_3 : fr S 2 a = some (gd (fr S 2 a)) := gd_some (hi.2.2.1 2 a rfl k_a)
    have kb_4 : kd S (gd (fr S 2 a)) = 3 := kq_2 (gd (fr S 2 a)) n_3
    refine q_some n_3 ?_
    refine g_l FAT_154 hx hb hts hown hW kb_4 dAT_takeAlarmTurn_16 ?_
    refine ll_eq (tgt := 35) hx hb dAT_takeAlarmTurn_19 dAT_takeAlarmTurn_20 (by decide) (fun c_5 => ?_) (fun c_5 => ?_)
    · refine lv_aload_n hx hb dAT_takeAlarmTurn_35 rfl (lv_at hl 0 rfl) ?_
      have kq_6 : ∀ b, fr S 21 t = some b → kd S b = 4 := fun b h => hW.ok.2.1 21 t b k_t h
      refine g_q FAT_30 hx hb hts hown hW k_t dAT_takeAlarmTurn_36 ?_
      refine lv_iconst (v := (0 : Int32)) hx hb dAT_takeAlarmTurn_39 (by decide) ?_
      refine lv_aload_n hx hb dAT_takeAlarmTurn_40 rfl (lv_at hl 1 rfl) ?_
      refine g_i FAT_235 hx hb hts hown hW k_a dAT_takeAlarmTurn_41 ?_
      refine lv_lconst (v := (0 : Int64)) hx hb dAT_takeAlarmTurn_44 (by decide) ?_
      refine lv_aload_n hx hb dAT_takeAlarmTurn_45 rfl (lv_at hl 1 rfl) ?_
      refine g_q FAT_91 hx hb hts hown hW k_a dAT_takeAlarmTurn_46 ?_
      refine q_some n_3 ?_
      refine g_l FAT_238 hx hb hts hown hW kb_4 dAT_takeAlarmTurn_49 ?_
      have n_7 : fr S 21 t = some (gd (fr S 21 t)) := gd_some (hi.2.2.1 21 t rfl k_t)
      have kb_8 : kd S (gd (fr S 21 t)) = 4 := kq_6 (gd (fr S 21 t)) n_7
      refine q_some4 n_7 ?_
      refine k_Vv (As := [.int (0 : Int32), .int (fi S 0 a), .long (0 : Int64), .long (fl S 5 (gd (fr S 2 a)))]) (rest := []) (c_add l D AC S (gd (fr S 21 t)) (0 : Int32) (fi S 0 a) (0 : Int64) (fl S 5 (gd (fr S 2 a))) kb_8 sr.1.2.2.1 sr.1.2.2.2.2.1.1 sr.1.2.2.2.2.1.2.1 sr.1.2.2.2.2.1.2.2.1 sr.1.2.2.2.1) CAT_241 ⟨by decide, by decide, _, rfl, rfl⟩ hx hb hml hown hts hW kb_8 hl.1 rfl rfl (Nat.le_of_ble_eq_true rfl) ⟨⟨by show _ ≤ (10 + 5 * k); omega, by show _ ≤ (245 + 92 * k); omega⟩, ⟨by show _ ≤ phi S t; have z1 := sr.2.1; have z2 := sr.2.2.1; have z3 : addC S (gd (fr S 21 t)) ≤ phi S t ∧ addM S (gd (fr S 21 t)) ≤ psi S t := addC_le sr.1; omega, by show _ ≤ psi S t; have z1 := sr.2.1; have z2 := sr.2.2.1; have z3 : addC S (gd (fr S 21 t)) ≤ phi S t ∧ addM S (gd (fr S 21 t)) ≤ psi S t := addC_le sr.1; omega⟩⟩ dAT_takeAlarmTurn_52 (fun S_9 H locs e_9 hW m_9 _ => ?_)
      rw [e_9] at hW m_9
      have sr : sRel t S (add_S S (gd (fr S 21 t)) (0 : Int32) (fi S 0 a) (0 : Int64) (fl S 5 (gd (fr S 2 a)))) := sr.tr (sRel_add sr.1)
      have k_t := m_9.k k_t (by decide)
      have k_a := m_9.k k_a (by decide)
      have kb_4 := m_9.k kb_4 (by decide)
      have kb_8 := m_9.k kb_8 (by decide)
      have kq_2 := fun b h => m_9.k (kq_2 b h) (by decide)
      have kq_6 := fun b h => m_9.k (kq_6 b h) (by decide)
      have mo := mo.tr m_9
      refine W.tight (k := hz (add_S S (gd (fr S 21 t)) (0 : Int32) (fi S 0 a) (0 : Int64) (fl S 5 (gd (fr S 2 a)))) - hz S) (n := tz (add_S S (gd (fr S 21 t)) (0 : Int32) (fi S 0 a) (0 : Int64) (fl S 5 (gd (fr S 2 a)))) - tz S) (by rw [hW.z, hsz]; have := sr.2.2.1.1; omega) (by rw [hW.t, ht0]; have := sr.2.2.1.2; omega) ?_
      have nnp_10 : nn (add_S S (gd (fr S 21 t)) (0 : Int32) (fi S 0 a) (0 : Int64) (fl S 5 (gd (fr S 2 a)))) := sr.1.2.2.1
      refine lv_aload_n hx hb dAT_takeAlarmTurn_55 rfl (lv_at hl 1 rfl) ?_
      refine g_l FAT_101 hx hb hts hown hW k_a dAT_takeAlarmTurn_56 ?_
      refine lv_lconst (v := (0 : Int64)) hx hb dAT_takeAlarmTurn_59 (by decide) ?_
      refine ll_ne (tgt := 72) hx hb dAT_takeAlarmTurn_60 dAT_takeAlarmTurn_61 (by decide) (fun c_11 => ?_) (fun c_11 => ?_)
      · refine lv_aload_n hx hb dAT_takeAlarmTurn_72 rfl (lv_at hl 1 rfl) ?_
        refine lv_aload_n hx hb dAT_takeAlarmTurn_73 rfl (lv_at hl 1 rfl) ?_
        refine g_l FAT_101 hx hb hts hown hW k_a dAT_takeAlarmTurn_74 ?_
        refine k_Vv (As := [.long (fl (add_S S (gd (fr S 21 t)) (0 : Int32) (fi S 0 a) (0 : Int64) (fl S 5 (gd (fr S 2 a)))) 1 a)]) (rest := []) (c_becomeDue l D AC (add_S S (gd (fr S 21 t)) (0 : Int32) (fi S 0 a) (0 : Int64) (fl S 5 (gd (fr S 2 a)))) a (fl (add_S S (gd (fr S 21 t)) (0 : Int32) (fi S 0 a) (0 : Int64) (fl S 5 (gd (fr S 2 a)))) 1 a) k_a sr.1.2.2.1) CAT_108 ⟨by decide, by decide, _, rfl, rfl⟩ hx hb hml hown hts hW k_a hl.1 rfl rfl (Nat.le_of_ble_eq_true rfl) ⟨⟨by show _ ≤ (10 + 5 * k); omega, by show _ ≤ (245 + 92 * k); omega⟩, ⟨by show _ ≤ phi S t; have z1 := sr.2.1; have z2 := sr.2.2.1; omega, by show _ ≤ psi S t; have z1 := sr.2.1; have z2 := sr.2.2.1; omega⟩⟩ dAT_takeAlarmTurn_77 (fun S_12 H locs e_12 hW m_12 _ => ?_)
        rw [e_12] at hW m_12
        have sr : sRel t S (becomeDue_S (add_S S (gd (fr S 21 t)) (0 : Int32) (fi S 0 a) (0 : Int64) (fl S 5 (gd (fr S 2 a)))) a (fl (add_S S (gd (fr S 21 t)) (0 : Int32) (fi S 0 a) (0 : Int64) (fl S 5 (gd (fr S 2 a)))) 1 a)) := sr.tr (sRel_becomeDue sr.1)
        have k_t := m_12.k k_t (by decide)
        have k_a := m_12.k k_a (by decide)
        have kb_4 := m_12.k kb_4 (by decide)
        have kb_8 := m_12.k kb_8 (by decide)
        have kq_2 := fun b h => m_12.k (kq_2 b h) (by decide)
        have kq_6 := fun b h => m_12.k (kq_6 b h) (by decide)
        have mo := mo.tr m_12
        refine W.tight (k := hz (becomeDue_S (add_S S (gd (fr S 21 t)) (0 : Int32) (fi S 0 a) (0 : Int64) (fl S 5 (gd (fr S 2 a)))) a (fl (add_S S (gd (fr S 21 t)) (0 : Int32) (fi S 0 a) (0 : Int64) (fl S 5 (gd (fr S 2 a)))) 1 a)) - hz S) (n := tz (becomeDue_S (add_S S (gd (fr S 21 t)) (0 : Int32) (fi S 0 a) (0 : Int64) (fl S 5 (gd (fr S 2 a)))) a (fl (add_S S (gd (fr S 21 t)) (0 : Int32) (fi S 0 a) (0 : Int64) (fl S 5 (gd (fr S 2 a)))) 1 a)) - tz S) (by rw [hW.z, hsz]; have := sr.2.2.1.1; omega) (by rw [hW.t, ht0]; have := sr.2.2.1.2; omega) ?_
        have nnp_13 : nn (becomeDue_S (add_S S (gd (fr S 21 t)) (0 : Int32) (fi S 0 a) (0 : Int64) (fl S 5 (gd (fr S 2 a)))) a (fl (add_S S (gd (fr S 21 t)) (0 : Int32) (fi S 0 a) (0 : Int64) (fl S 5 (gd (fr S 2 a)))) 1 a)) := sr.1.2.2.1
        refine lv_aload_n hx hb dAT_takeAlarmTurn_80 rfl (lv_at hl 0 rfl) ?_
        refine lv_aload_n hx hb dAT_takeAlarmTurn_81 rfl (lv_at hl 1 rfl) ?_
        have kq_14 : ∀ b, fr (becomeDue_S (add_S S (gd (fr S 21 t)) (0 : Int32) (fi S 0 a) (0 : Int64) (fl S 5 (gd (fr S 2 a)))) a (fl (add_S S (gd (fr S 21 t)) (0 : Int32) (fi S 0 a) (0 : Int64) (fl S 5 (gd (fr S 2 a)))) 1 a)) 3 a = some b → kd (becomeDue_S (add_S S (gd (fr S 21 t)) (0 : Int32) (fi S 0 a) (0 : Int64) (fl S 5 (gd (fr S 2 a)))) a (fl (add_S S (gd (fr S 21 t)) (0 : Int32) (fi S 0 a) (0 : Int64) (fl S 5 (gd (fr S 2 a)))) 1 a)) b = 1 := fun b h => hW.ok.2.1 3 a b k_a h
        refine g_q FAT_245 hx hb hts hown hW k_a dAT_takeAlarmTurn_82 ?_
        refine lv_iload_n hx hb dAT_takeAlarmTurn_85 rfl (lv_at hl 2 rfl) ?_
        have n_15 : fr (becomeDue_S (add_S S (gd (fr S 21 t)) (0 : Int32) (fi S 0 a) (0 : Int64) (fl S 5 (gd (fr S 2 a)))) a (fl (add_S S (gd (fr S 21 t)) (0 : Int32) (fi S 0 a) (0 : Int64) (fl S 5 (gd (fr S 2 a)))) 1 a)) 3 a = some (gd (fr (becomeDue_S (add_S S (gd (fr S 21 t)) (0 : Int32) (fi S 0 a) (0 : Int64) (fl S 5 (gd (fr S 2 a)))) a (fl (add_S S (gd (fr S 21 t)) (0 : Int32) (fi S 0 a) (0 : Int64) (fl S 5 (gd (fr S 2 a)))) 1 a)) 3 a)) := gd_some (nnp_13 3 a rfl k_a)
        have kb_16 : kd (becomeDue_S (add_S S (gd (fr S 21 t)) (0 : Int32) (fi S 0 a) (0 : Int64) (fl S 5 (gd (fr S 2 a)))) a (fl (add_S S (gd (fr S 21 t)) (0 : Int32) (fi S 0 a) (0 : Int64) (fl S 5 (gd (fr S 2 a)))) 1 a)) (gd (fr (becomeDue_S (add_S S (gd (fr S 21 t)) (0 : Int32) (fi S 0 a) (0 : Int64) (fl S 5 (gd (fr S 2 a)))) a (fl (add_S S (gd (fr S 21 t)) (0 : Int32) (fi S 0 a) (0 : Int64) (fl S 5 (gd (fr S 2 a)))) 1 a)) 3 a)) = 1 := kq_14 (gd (fr (becomeDue_S (add_S S (gd (fr S 21 t)) (0 : Int32) (fi S 0 a) (0 : Int64) (fl S 5 (gd (fr S 2 a)))) a (fl (add_S S (gd (fr S 21 t)) (0 : Int32) (fi S 0 a) (0 : Int64) (fl S 5 (gd (fr S 2 a)))) 1 a)) 3 a)) n_15
        refine q_some1 n_15 ?_
        refine k_Vv (As := [.ref (gd (fr (becomeDue_S (add_S S (gd (fr S 21 t)) (0 : Int32) (fi S 0 a) (0 : Int64) (fl S 5 (gd (fr S 2 a)))) a (fl (add_S S (gd (fr S 21 t)) (0 : Int32) (fi S 0 a) (0 : Int64) (fl S 5 (gd (fr S 2 a)))) 1 a)) 3 a)), .int dp]) (rest := []) (c_perform l D AC (becomeDue_S (add_S S (gd (fr S 21 t)) (0 : Int32) (fi S 0 a) (0 : Int64) (fl S 5 (gd (fr S 2 a)))) a (fl (add_S S (gd (fr S 21 t)) (0 : Int32) (fi S 0 a) (0 : Int64) (fl S 5 (gd (fr S 2 a)))) 1 a)) t (gd (fr (becomeDue_S (add_S S (gd (fr S 21 t)) (0 : Int32) (fi S 0 a) (0 : Int64) (fl S 5 (gd (fr S 2 a)))) a (fl (add_S S (gd (fr S 21 t)) (0 : Int32) (fi S 0 a) (0 : Int64) (fl S 5 (gd (fr S 2 a)))) 1 a)) 3 a)) dp rec k k_t kb_16 sr.1 hrec hrr) CAT_249 ⟨by decide, by decide, _, rfl, rfl⟩ hx hb hml hown hts hW k_t hl.1 rfl rfl (Nat.le_of_ble_eq_true rfl) ⟨⟨by show _ ≤ (10 + 5 * k); omega, by show _ ≤ (245 + 92 * k); omega⟩, ⟨by show _ ≤ phi S t; have z1 := sr.2.1; have z2 := sr.2.2.1; omega, by show _ ≤ psi S t; have z1 := sr.2.1; have z2 := sr.2.2.1; omega⟩⟩ dAT_takeAlarmTurn_86 (fun S_17 H locs e_17 hW m_17 _ => ?_)
        rw [e_17] at hW m_17
        have sr : sRel t S (perform_S (becomeDue_S (add_S S (gd (fr S 21 t)) (0 : Int32) (fi S 0 a) (0 : Int64) (fl S 5 (gd (fr S 2 a)))) a (fl (add_S S (gd (fr S 21 t)) (0 : Int32) (fi S 0 a) (0 : Int64) (fl S 5 (gd (fr S 2 a)))) 1 a)) t (gd (fr (becomeDue_S (add_S S (gd (fr S 21 t)) (0 : Int32) (fi S 0 a) (0 : Int64) (fl S 5 (gd (fr S 2 a)))) a (fl (add_S S (gd (fr S 21 t)) (0 : Int32) (fi S 0 a) (0 : Int64) (fl S 5 (gd (fr S 2 a)))) 1 a)) 3 a)) dp rec) := sr.tr (sRel_perform hrr sr.1 kb_16)
        have k_t := m_17.k k_t (by decide)
        have k_a := m_17.k k_a (by decide)
        have kb_4 := m_17.k kb_4 (by decide)
        have kb_8 := m_17.k kb_8 (by decide)
        have kb_16 := m_17.k kb_16 (by decide)
        have kq_2 := fun b h => m_17.k (kq_2 b h) (by decide)
        have kq_6 := fun b h => m_17.k (kq_6 b h) (by decide)
        have kq_14 := fun b h => m_17.k (kq_14 b h) (by decide)
        have mo := mo.tr m_17
        refine W.tight (k := hz (perform_S (becomeDue_S (add_S S (gd (fr S 21 t)) (0 : Int32) (fi S 0 a) (0 : Int64) (fl S 5 (gd (fr S 2 a)))) a (fl (add_S S (gd (fr S 21 t)) (0 : Int32) (fi S 0 a) (0 : Int64) (fl S 5 (gd (fr S 2 a)))) 1 a)) t (gd (fr (becomeDue_S (add_S S (gd (fr S 21 t)) (0 : Int32) (fi S 0 a) (0 : Int64) (fl S 5 (gd (fr S 2 a)))) a (fl (add_S S (gd (fr S 21 t)) (0 : Int32) (fi S 0 a) (0 : Int64) (fl S 5 (gd (fr S 2 a)))) 1 a)) 3 a)) dp rec) - hz S) (n := tz (perform_S (becomeDue_S (add_S S (gd (fr S 21 t)) (0 : Int32) (fi S 0 a) (0 : Int64) (fl S 5 (gd (fr S 2 a)))) a (fl (add_S S (gd (fr S 21 t)) (0 : Int32) (fi S 0 a) (0 : Int64) (fl S 5 (gd (fr S 2 a)))) 1 a)) t (gd (fr (becomeDue_S (add_S S (gd (fr S 21 t)) (0 : Int32) (fi S 0 a) (0 : Int64) (fl S 5 (gd (fr S 2 a)))) a (fl (add_S S (gd (fr S 21 t)) (0 : Int32) (fi S 0 a) (0 : Int64) (fl S 5 (gd (fr S 2 a)))) 1 a)) 3 a)) dp rec) - tz S) (by rw [hW.z, hsz]; have := sr.2.2.1.1; omega) (by rw [hW.t, ht0]; have := sr.2.2.1.2; omega) ?_
        have nnp_18 : nn (perform_S (becomeDue_S (add_S S (gd (fr S 21 t)) (0 : Int32) (fi S 0 a) (0 : Int64) (fl S 5 (gd (fr S 2 a)))) a (fl (add_S S (gd (fr S 21 t)) (0 : Int32) (fi S 0 a) (0 : Int64) (fl S 5 (gd (fr S 2 a)))) 1 a)) t (gd (fr (becomeDue_S (add_S S (gd (fr S 21 t)) (0 : Int32) (fi S 0 a) (0 : Int64) (fl S 5 (gd (fr S 2 a)))) a (fl (add_S S (gd (fr S 21 t)) (0 : Int32) (fi S 0 a) (0 : Int64) (fl S 5 (gd (fr S 2 a)))) 1 a)) 3 a)) dp rec) := sr.1.2.2.1
        exact e_v hsz hx hb hr hlk hW (mo) (by show _ ≤ phi S t; have z1 := sr.2.1; have z2 := sr.2.2.1; omega) (by show _ ≤ psi S t; have z1 := sr.2.1; have z2 := sr.2.2.1; omega) dAT_takeAlarmTurn_89 ((by refine Eq.symm ?_; refine (if_neg c_1).trans ?_; refine (if_pos c_5).trans ?_; refine (if_neg c_11).trans ?_; rfl))
      · refine lv_aload_n hx hb dAT_takeAlarmTurn_64 rfl (lv_at hl 1 rfl) ?_
        refine lv_iconst (v := (0 : Int32)) hx hb dAT_takeAlarmTurn_65 (by decide) ?_
        refine p_i FAT_87 GAlarm_isSet (fun h => by cases h) hx hb hts hown hW k_a rfl rfl dAT_takeAlarmTurn_66 (fun H locs hW => ?_)
        have mo := mo.tr (mono_sfi (k := 1) (a := a) (v := (0 : Int32)))
        have sr : sRel t S (sfi (add_S S (gd (fr S 21 t)) (0 : Int32) (fi S 0 a) (0 : Int64) (fl S 5 (gd (fr S 2 a)))) 1 a (0 : Int32)) := sr.tr (sRel_sfi (by decide) sr.1)
        refine W.tight (k := hz (sfi (add_S S (gd (fr S 21 t)) (0 : Int32) (fi S 0 a) (0 : Int64) (fl S 5 (gd (fr S 2 a)))) 1 a (0 : Int32)) - hz S) (n := tz (sfi (add_S S (gd (fr S 21 t)) (0 : Int32) (fi S 0 a) (0 : Int64) (fl S 5 (gd (fr S 2 a)))) 1 a (0 : Int32)) - tz S) (by rw [hW.z, hsz]; have := sr.2.2.1.1; omega) (by rw [hW.t, ht0]; have := sr.2.2.1.2; omega) ?_
        have nnp_19 : nn (sfi (add_S S (gd (fr S 21 t)) (0 : Int32) (fi S 0 a) (0 : Int64) (fl S 5 (gd (fr S 2 a)))) 1 a (0 : Int32)) := nn_sfi nnp_10
        refine lv_goto (tgt := 80) hx hb dAT_takeAlarmTurn_69 (by decide) ?_
        refine lv_aload_n hx hb dAT_takeAlarmTurn_80 rfl (lv_at hl 0 rfl) ?_
        refine lv_aload_n hx hb dAT_takeAlarmTurn_81 rfl (lv_at hl 1 rfl) ?_
        have kq_20 : ∀ b, fr (add_S S (gd (fr S 21 t)) (0 : Int32) (fi S 0 a) (0 : Int64) (fl S 5 (gd (fr S 2 a)))) 3 a = some b → kd (sfi (add_S S (gd (fr S 21 t)) (0 : Int32) (fi S 0 a) (0 : Int64) (fl S 5 (gd (fr S 2 a)))) 1 a (0 : Int32)) b = 1 := fun b h => hW.ok.2.1 3 a b k_a h
        refine g_q FAT_245 hx hb hts hown hW k_a dAT_takeAlarmTurn_82 ?_
        rw [show fr (sfi (add_S S (gd (fr S 21 t)) (0 : Int32) (fi S 0 a) (0 : Int64) (fl S 5 (gd (fr S 2 a)))) 1 a (0 : Int32)) 3 a = fr (add_S S (gd (fr S 21 t)) (0 : Int32) (fi S 0 a) (0 : Int64) (fl S 5 (gd (fr S 2 a)))) 3 a from rfl]
        refine lv_iload_n hx hb dAT_takeAlarmTurn_85 rfl (lv_at hl 2 rfl) ?_
        have n_21 : fr (add_S S (gd (fr S 21 t)) (0 : Int32) (fi S 0 a) (0 : Int64) (fl S 5 (gd (fr S 2 a)))) 3 a = some (gd (fr (add_S S (gd (fr S 21 t)) (0 : Int32) (fi S 0 a) (0 : Int64) (fl S 5 (gd (fr S 2 a)))) 3 a)) := gd_some (nnp_10 3 a rfl k_a)
        have kb_22 : kd (sfi (add_S S (gd (fr S 21 t)) (0 : Int32) (fi S 0 a) (0 : Int64) (fl S 5 (gd (fr S 2 a)))) 1 a (0 : Int32)) (gd (fr (add_S S (gd (fr S 21 t)) (0 : Int32) (fi S 0 a) (0 : Int64) (fl S 5 (gd (fr S 2 a)))) 3 a)) = 1 := kq_20 (gd (fr (add_S S (gd (fr S 21 t)) (0 : Int32) (fi S 0 a) (0 : Int64) (fl S 5 (gd (fr S 2 a)))) 3 a)) n_21
        refine q_some1 n_21 ?_
        refine k_Vv (As := [.ref (gd (fr (add_S S (gd (fr S 21 t)) (0 : Int32) (fi S 0 a) (0 : Int64) (fl S 5 (gd (fr S 2 a)))) 3 a)), .int dp]) (rest := []) (c_perform l D AC (sfi (add_S S (gd (fr S 21 t)) (0 : Int32) (fi S 0 a) (0 : Int64) (fl S 5 (gd (fr S 2 a)))) 1 a (0 : Int32)) t (gd (fr (add_S S (gd (fr S 21 t)) (0 : Int32) (fi S 0 a) (0 : Int64) (fl S 5 (gd (fr S 2 a)))) 3 a)) dp rec k k_t kb_22 sr.1 hrec hrr) CAT_249 ⟨by decide, by decide, _, rfl, rfl⟩ hx hb hml hown hts hW k_t hl.1 rfl rfl (Nat.le_of_ble_eq_true rfl) ⟨⟨by show _ ≤ (10 + 5 * k); omega, by show _ ≤ (245 + 92 * k); omega⟩, ⟨by show _ ≤ phi S t; have z1 := sr.2.1; have z2 := sr.2.2.1; omega, by show _ ≤ psi S t; have z1 := sr.2.1; have z2 := sr.2.2.1; omega⟩⟩ dAT_takeAlarmTurn_86 (fun S_23 H locs e_23 hW m_23 _ => ?_)
        rw [e_23] at hW m_23
        have sr : sRel t S (perform_S (sfi (add_S S (gd (fr S 21 t)) (0 : Int32) (fi S 0 a) (0 : Int64) (fl S 5 (gd (fr S 2 a)))) 1 a (0 : Int32)) t (gd (fr (add_S S (gd (fr S 21 t)) (0 : Int32) (fi S 0 a) (0 : Int64) (fl S 5 (gd (fr S 2 a)))) 3 a)) dp rec) := sr.tr (sRel_perform hrr sr.1 kb_22)
        have k_t := m_23.k k_t (by decide)
        have k_a := m_23.k k_a (by decide)
        have kb_4 := m_23.k kb_4 (by decide)
        have kb_8 := m_23.k kb_8 (by decide)
        have kb_22 := m_23.k kb_22 (by decide)
        have kq_2 := fun b h => m_23.k (kq_2 b h) (by decide)
        have kq_6 := fun b h => m_23.k (kq_6 b h) (by decide)
        have kq_20 := fun b h => m_23.k (kq_20 b h) (by decide)
        have mo := mo.tr m_23
        refine W.tight (k := hz (perform_S (sfi (add_S S (gd (fr S 21 t)) (0 : Int32) (fi S 0 a) (0 : Int64) (fl S 5 (gd (fr S 2 a)))) 1 a (0 : Int32)) t (gd (fr (add_S S (gd (fr S 21 t)) (0 : Int32) (fi S 0 a) (0 : Int64) (fl S 5 (gd (fr S 2 a)))) 3 a)) dp rec) - hz S) (n := tz (perform_S (sfi (add_S S (gd (fr S 21 t)) (0 : Int32) (fi S 0 a) (0 : Int64) (fl S 5 (gd (fr S 2 a)))) 1 a (0 : Int32)) t (gd (fr (add_S S (gd (fr S 21 t)) (0 : Int32) (fi S 0 a) (0 : Int64) (fl S 5 (gd (fr S 2 a)))) 3 a)) dp rec) - tz S) (by rw [hW.z, hsz]; have := sr.2.2.1.1; omega) (by rw [hW.t, ht0]; have := sr.2.2.1.2; omega) ?_
        have nnp_24 : nn (perform_S (sfi (add_S S (gd (fr S 21 t)) (0 : Int32) (fi S 0 a) (0 : Int64) (fl S 5 (gd (fr S 2 a)))) 1 a (0 : Int32)) t (gd (fr (add_S S (gd (fr S 21 t)) (0 : Int32) (fi S 0 a) (0 : Int64) (fl S 5 (gd (fr S 2 a)))) 3 a)) dp rec) := sr.1.2.2.1
        exact e_v hsz hx hb hr hlk hW (mo) (by show _ ≤ phi S t; have z1 := sr.2.1; have z2 := sr.2.2.1; omega) (by show _ ≤ psi S t; have z1 := sr.2.1; have z2 := sr.2.2.1; omega) dAT_takeAlarmTurn_89 ((by refine Eq.symm ?_; refine (if_neg c_1).trans ?_; refine (if_pos c_5).trans ?_; refine (if_pos c_11).trans ?_; rfl))
    · refine lv_aload_n hx hb dAT_takeAlarmTurn_23 rfl (lv_at hl 1 rfl) ?_
      refine g_q FAT_91 hx hb hts hown hW k_a dAT_takeAlarmTurn_24 ?_
      refine lv_aload_n hx hb dAT_takeAlarmTurn_27 rfl (lv_at hl 1 rfl) ?_
      refine g_l FAT_234 hx hb hts hown hW k_a dAT_takeAlarmTurn_28 ?_
      refine q_some1 n_3 ?_
      refine k_Vv (As := [.long (fl S 0 a)]) (rest := []) (c_wakeAt l D AC S (gd (fr S 2 a)) (fl S 0 a) kb_4) CAT_163 ⟨by decide, by decide, _, rfl, rfl⟩ hx hb hml hown hts hW kb_4 hl.1 rfl rfl (Nat.le_of_ble_eq_true rfl) ⟨⟨by show _ ≤ (10 + 5 * k); omega, by show _ ≤ (245 + 92 * k); omega⟩, ⟨by show _ ≤ phi S t; have z1 := sr.2.1; have z2 := sr.2.2.1; omega, by show _ ≤ psi S t; have z1 := sr.2.1; have z2 := sr.2.2.1; omega⟩⟩ dAT_takeAlarmTurn_31 (fun S_25 H locs e_25 hW m_25 _ => ?_)
      rw [e_25] at hW m_25
      have sr : sRel t S (wakeAt_S S (gd (fr S 2 a)) (fl S 0 a)) := sr.tr (sRel_wakeAt sr.1)
      have k_t := m_25.k k_t (by decide)
      have k_a := m_25.k k_a (by decide)
      have kb_4 := m_25.k kb_4 (by decide)
      have kq_2 := fun b h => m_25.k (kq_2 b h) (by decide)
      have mo := mo.tr m_25
      refine W.tight (k := hz (wakeAt_S S (gd (fr S 2 a)) (fl S 0 a)) - hz S) (n := tz (wakeAt_S S (gd (fr S 2 a)) (fl S 0 a)) - tz S) (by rw [hW.z, hsz]; have := sr.2.2.1.1; omega) (by rw [hW.t, ht0]; have := sr.2.2.1.2; omega) ?_
      have nnp_26 : nn (wakeAt_S S (gd (fr S 2 a)) (fl S 0 a)) := sr.1.2.2.1
      exact e_v hsz hx hb hr hlk hW (mo) (by show _ ≤ phi S t; have z1 := sr.2.1; have z2 := sr.2.2.1; omega) (by show _ ≤ psi S t; have z1 := sr.2.1; have z2 := sr.2.2.1; omega) dAT_takeAlarmTurn_34 ((by refine Eq.symm ?_; refine (if_neg c_1).trans ?_; refine (if_neg c_5).trans ?_; rfl))
  · exact e_v hsz hx hb hr hlk hW (mono.rf S) (by show _ ≤ phi S t; have z1 := sr.2.1; have z2 := sr.2.2.1; omega) (by show _ ≤ psi S t; have z1 := sr.2.1; have z2 := sr.2.2.1; omega) dAT_takeAlarmTurn_7 ((by refine Eq.symm ?_; refine (if_pos c_1).trans ?_; rfl))

theorem nn_get {S : HS} (h : hOk S) (hn : nn S) {k a : Nat} (hk : nnk k = true) (ha : kd S a = rO k) : kd S (gd (fr S k a)) = rT k := h.2.1 k a _ ha (gd_some (hn k a hk ha))
theorem sRel_takeAlarmTurn {S : HS} {t a : Nat} {dp : Int32} {rec : HS → Nat → HS} (hrr : ∀ S1 c1, sInv S1 t → kd S1 c1 = 3 → sRel t S1 (rec S1 c1)) (h : sInv S t) (k_a : kd S a = 2) : sRel t S (takeAlarmTurn_S S t a dp rec) := by
  have key : ∀ S1, sRel t S S1 → sRel t S (perform_S S1 t (gd (fr S1 3 a)) dp rec) := fun S1 s1 => s1.tr (sRel_perform hrr s1.1 (nn_get s1.1.1.1 s1.1.2.2.1 rfl (s1.2.2.2.2.k k_a (by decide))))
  unfold takeAlarmTurn_S
  refine ite_P (P := sRel t S) (sRel.rf h) (ite_P (P := sRel t S) ?_ (sRel_wakeAt h))
  have sA : sRel t S (add_S S (gd (fr S 21 t)) (0 : Int32) (fi S 0 a) (0 : Int64) (fl S 5 (gd (fr S 2 a)))) := sRel_add h
  generalize add_S S (gd (fr S 21 t)) (0 : Int32) (fi S 0 a) (0 : Int64) (fl S 5 (gd (fr S 2 a))) = S1 at sA
  refine ite_P (P := sRel t S) ?_ ?_
  · exact key (sfi S1 1 a 0) (sA.tr (sRel_sfi (by decide) sA.1))
  · exact key (becomeDue_S S1 a (fl S1 1 a)) (sA.tr (sRel_becomeDue sA.1))

def giveOver_R (S : HS) (t : Nat) (a : Nat) : Option Nat :=
  opc (fr (add_S S (gd (fr S 21 t)) (2 : Int32) (fi S 6 a) (0 : Int64) (fl S 5 (gd (fr S 13 a)))) 16 a) (none)
  (fun b_11 => if (fi (sfi (add_S S (gd (fr S 21 t)) (2 : Int32) (fi S 6 a) (0 : Int64) (fl S 5 (gd (fr S 13 a)))) 8 a (0 : Int32)) 8 b_11) = 0 then
      if (some b_11) = (some a) then
        fr (add_S S (gd (fr S 21 t)) (2 : Int32) (fi S 6 a) (0 : Int64) (fl S 5 (gd (fr S 13 a)))) 16 a
      else
        fr (add_S S (gd (fr S 21 t)) (2 : Int32) (fi S 6 a) (0 : Int64) (fl S 5 (gd (fr S 13 a)))) 16 a
    else
      none)
def giveOver_S (S : HS) (t : Nat) (a : Nat) : HS :=
  opc (fr (add_S S (gd (fr S 21 t)) (2 : Int32) (fi S 6 a) (0 : Int64) (fl S 5 (gd (fr S 13 a)))) 16 a) ((sfi (add_S S (gd (fr S 21 t)) (2 : Int32) (fi S 6 a) (0 : Int64) (fl S 5 (gd (fr S 13 a)))) 8 a (0 : Int32)))
  (fun b_11 => if (fi (sfi (add_S S (gd (fr S 21 t)) (2 : Int32) (fi S 6 a) (0 : Int64) (fl S 5 (gd (fr S 13 a)))) 8 a (0 : Int32)) 8 b_11) = 0 then
      if (some b_11) = (some a) then
        (runFrom_S (sfi (add_S S (gd (fr S 21 t)) (2 : Int32) (fi S 6 a) (0 : Int64) (fl S 5 (gd (fr S 13 a)))) 8 a (0 : Int32)) b_11 (fl (add_S S (gd (fr S 21 t)) (2 : Int32) (fi S 6 a) (0 : Int64) (fl S 5 (gd (fr S 13 a)))) 6 (gd (fr (add_S S (gd (fr S 21 t)) (2 : Int32) (fi S 6 a) (0 : Int64) (fl S 5 (gd (fr S 13 a)))) 13 a))))
      else
        (runFrom_S (sfl (sfi (add_S S (gd (fr S 21 t)) (2 : Int32) (fi S 6 a) (0 : Int64) (fl S 5 (gd (fr S 13 a)))) 8 a (0 : Int32)) 11 b_11 (0 : Int64)) b_11 (fl (add_S S (gd (fr S 21 t)) (2 : Int32) (fi S 6 a) (0 : Int64) (fl S 5 (gd (fr S 13 a)))) 6 (gd (fr (add_S S (gd (fr S 21 t)) (2 : Int32) (fi S 6 a) (0 : Int64) (fl S 5 (gd (fr S 13 a)))) 13 a))))
    else
      (sfi (add_S S (gd (fr S 21 t)) (2 : Int32) (fi S 6 a) (0 : Int64) (fl S 5 (gd (fr S 13 a)))) 8 a (0 : Int32)))
set_option maxRecDepth 20000 in
set_option maxHeartbeats 2000000 in
theorem c_giveOver (l : Launch) (D : va_G) (AC : Nat → ClassId) (S : HS) (t : Nat) (a : Nat)  (k_t : kd S t = 8) (k_a : kd S a = 7) (hi : sInv S t) : CtQ l yAT_giveOver (Cond.code yAT_giveOver cAT_giveOver 3 (some (.object "AlarmTables$Table")) :: wT) 10 150 D AC S [.ref t, .ref a] (phi S t) (psi S t) (fun r S' => r = giveOver_R S t a ∧ S' = giveOver_S S t a) := by
  refine met_of (by decide) (Nat.le_of_ble_eq_true rfl) ?_
  intro p e s m below meth c ls hsz X hW hl
  obtain ⟨hx, hb, hml, hr, hlk, hown, hnm, hts⟩ := X
  have hl : lv_has ls 3 [(0, .ref t), (1, .ref a)] := hl
  have mo : mono S S := mono.rf S
  have sr : sRel t S S := sRel.rf hi
  have ht0 := hW.t
  refine lv_aload_n hx hb dAT_giveOver_0 rfl (lv_at hl 0 rfl) ?_
  have kq_1 : ∀ b, fr S 21 t = some b → kd S b = 4 := fun b h => hW.ok.2.1 21 t b k_t h
  refine g_q FAT_30 hx hb hts hown hW k_t dAT_giveOver_1 ?_
  refine lv_iconst (v := (2 : Int32)) hx hb dAT_giveOver_4 (by decide) ?_
  refine lv_aload_n hx hb dAT_giveOver_5 rfl (lv_at hl 1 rfl) ?_
  refine g_i FAT_275 hx hb hts hown hW k_a dAT_giveOver_6 ?_
  refine lv_lconst (v := (0 : Int64)) hx hb dAT_giveOver_9 (by decide) ?_
  refine lv_aload_n hx hb dAT_giveOver_10 rfl (lv_at hl 1 rfl) ?_
  have kq_2 : ∀ b, fr S 13 a = some b → kd S b = 3 := fun b h => hW.ok.2.1 13 a b k_a h
  refine g_q FAT_138 hx hb hts hown hW k_a dAT_giveOver_11 ?_
  have n_3 : fr S 13 a = some (gd (fr S 13 a)) := gd_some (hi.2.2.1 13 a rfl k_a)
  have kb_4 : kd S (gd (fr S 13 a)) = 3 := kq_2 (gd (fr S 13 a)) n_3
  refine q_some n_3 ?_
  refine g_l FAT_238 hx hb hts hown hW kb_4 dAT_giveOver_14 ?_
  have n_5 : fr S 21 t = some (gd (fr S 21 t)) := gd_some (hi.2.2.1 21 t rfl k_t)
  have kb_6 : kd S (gd (fr S 21 t)) = 4 := kq_1 (gd (fr S 21 t)) n_5
  refine q_some4 n_5 ?_
  refine k_Vv (As := [.int (2 : Int32), .int (fi S 6 a), .long (0 : Int64), .long (fl S 5 (gd (fr S 13 a)))]) (rest := []) (c_add l D AC S (gd (fr S 21 t)) (2 : Int32) (fi S 6 a) (0 : Int64) (fl S 5 (gd (fr S 13 a))) kb_6 sr.1.2.2.1 sr.1.2.2.2.2.1.1 sr.1.2.2.2.2.1.2.1 sr.1.2.2.2.2.1.2.2.1 sr.1.2.2.2.1) CAT_241 ⟨by decide, by decide, _, rfl, rfl⟩ hx hb hml hown hts hW kb_6 hl.1 rfl rfl (Nat.le_of_ble_eq_true rfl) ⟨⟨by show _ ≤ 10; omega, by show _ ≤ 150; omega⟩, ⟨by show _ ≤ phi S t; have z1 := sr.2.1; have z2 := sr.2.2.1; have z3 : addC S (gd (fr S 21 t)) ≤ phi S t ∧ addM S (gd (fr S 21 t)) ≤ psi S t := addC_le sr.1; omega, by show _ ≤ psi S t; have z1 := sr.2.1; have z2 := sr.2.2.1; have z3 : addC S (gd (fr S 21 t)) ≤ phi S t ∧ addM S (gd (fr S 21 t)) ≤ psi S t := addC_le sr.1; omega⟩⟩ dAT_giveOver_17 (fun S_7 H locs e_7 hW m_7 _ => ?_)
  rw [e_7] at hW m_7
  have sr : sRel t S (add_S S (gd (fr S 21 t)) (2 : Int32) (fi S 6 a) (0 : Int64) (fl S 5 (gd (fr S 13 a)))) := sr.tr (sRel_add sr.1)
  have k_t := m_7.k k_t (by decide)
  have k_a := m_7.k k_a (by decide)
  have kb_4 := m_7.k kb_4 (by decide)
  have kb_6 := m_7.k kb_6 (by decide)
  have kq_1 := fun b h => m_7.k (kq_1 b h) (by decide)
  have kq_2 := fun b h => m_7.k (kq_2 b h) (by decide)
  have mo := mo.tr m_7
  refine W.tight (k := hz (add_S S (gd (fr S 21 t)) (2 : Int32) (fi S 6 a) (0 : Int64) (fl S 5 (gd (fr S 13 a)))) - hz S) (n := tz (add_S S (gd (fr S 21 t)) (2 : Int32) (fi S 6 a) (0 : Int64) (fl S 5 (gd (fr S 13 a)))) - tz S) (by rw [hW.z, hsz]; have := sr.2.2.1.1; omega) (by rw [hW.t, ht0]; have := sr.2.2.1.2; omega) ?_
  have nnp_8 : nn (add_S S (gd (fr S 21 t)) (2 : Int32) (fi S 6 a) (0 : Int64) (fl S 5 (gd (fr S 13 a)))) := sr.1.2.2.1
  refine lv_aload_n hx hb dAT_giveOver_20 rfl (lv_at hl 1 rfl) ?_
  refine lv_iconst (v := (0 : Int32)) hx hb dAT_giveOver_21 (by decide) ?_
  refine p_i FAT_131 GTable_runs (fun h => by cases h) hx hb hts hown hW k_a rfl rfl dAT_giveOver_22 (fun H locs hW => ?_)
  have mo := mo.tr (mono_sfi (k := 8) (a := a) (v := (0 : Int32)))
  have sr : sRel t S (sfi (add_S S (gd (fr S 21 t)) (2 : Int32) (fi S 6 a) (0 : Int64) (fl S 5 (gd (fr S 13 a)))) 8 a (0 : Int32)) := sr.tr (sRel_sfi (by decide) sr.1)
  refine W.tight (k := hz (sfi (add_S S (gd (fr S 21 t)) (2 : Int32) (fi S 6 a) (0 : Int64) (fl S 5 (gd (fr S 13 a)))) 8 a (0 : Int32)) - hz S) (n := tz (sfi (add_S S (gd (fr S 21 t)) (2 : Int32) (fi S 6 a) (0 : Int64) (fl S 5 (gd (fr S 13 a)))) 8 a (0 : Int32)) - tz S) (by rw [hW.z, hsz]; have := sr.2.2.1.1; omega) (by rw [hW.t, ht0]; have := sr.2.2.1.2; omega) ?_
  have nnp_9 : nn (sfi (add_S S (gd (fr S 21 t)) (2 : Int32) (fi S 6 a) (0 : Int64) (fl S 5 (gd (fr S 13 a)))) 8 a (0 : Int32)) := nn_sfi nnp_8
  refine lv_aload_n hx hb dAT_giveOver_25 rfl (lv_at hl 1 rfl) ?_
  have kq_10 : ∀ b, fr (add_S S (gd (fr S 21 t)) (2 : Int32) (fi S 6 a) (0 : Int64) (fl S 5 (gd (fr S 13 a)))) 16 a = some b → kd (sfi (add_S S (gd (fr S 21 t)) (2 : Int32) (fi S 6 a) (0 : Int64) (fl S 5 (gd (fr S 13 a)))) 8 a (0 : Int32)) b = 7 := fun b h => hW.ok.2.1 16 a b k_a h
  refine g_q FAT_166 hx hb hts hown hW k_a dAT_giveOver_26 ?_
  rw [show fr (sfi (add_S S (gd (fr S 21 t)) (2 : Int32) (fi S 6 a) (0 : Int64) (fl S 5 (gd (fr S 13 a)))) 8 a (0 : Int32)) 16 a = fr (add_S S (gd (fr S 21 t)) (2 : Int32) (fi S 6 a) (0 : Int64) (fl S 5 (gd (fr S 13 a)))) 16 a from rfl]
  refine q_astore_n (i := 2) (lv' := [(2, va_rf (fr (add_S S (gd (fr S 21 t)) (2 : Int32) (fi S 6 a) (0 : Int64) (fl S 5 (gd (fr S 13 a)))) 16 a)), (0, .ref t), (1, .ref a)]) hx hb dAT_giveOver_29 rfl hl (by decide) rfl (fun ls hl => ?_)
  refine q_aload_n hx hb dAT_giveOver_30 rfl (lv_at hl 0 rfl) ?_
  refine q_ifnull (tgt := 41) hx hb dAT_giveOver_31 (by decide) (fun n_11 => ?_) (fun b_11 n_11 => ?_)
  · refine lv_null hx hb dAT_giveOver_41 ?_
    exact e_q (r := none) hsz hx hb hr hlk hW (mo) (by show _ ≤ phi S t; have z1 := sr.2.1; have z2 := sr.2.2.1; omega) (by show _ ≤ psi S t; have z1 := sr.2.1; have z2 := sr.2.2.1; omega) dAT_giveOver_42 ⟨(by refine Eq.symm ?_; refine (op_none n_11).trans ?_; rfl), (by refine Eq.symm ?_; refine (op_none n_11).trans ?_; rfl)⟩
  · have k_b_11 : kd (sfi (add_S S (gd (fr S 21 t)) (2 : Int32) (fi S 6 a) (0 : Int64) (fl S 5 (gd (fr S 13 a)))) 8 a (0 : Int32)) b_11 = 7 := kq_10 b_11 n_11
    refine q_aload_n hx hb dAT_giveOver_34 rfl (lv_at hl 0 rfl) ?_
    refine q_some n_11 ?_
    refine g_i FAT_131 hx hb hts hown hW k_b_11 dAT_giveOver_35 ?_
    refine lv_if_eq (tgt := 43) hx hb dAT_giveOver_38 (by decide) (fun c_12 => ?_) (fun c_12 => ?_)
    · refine q_aload_n hx hb dAT_giveOver_43 rfl (lv_at hl 0 rfl) ?_
      refine lv_aload_n hx hb dAT_giveOver_44 rfl (lv_at hl 2 rfl) ?_
      refine q_some1 n_11 ?_
      refine lv_acmp_eq (rx := some b_11) (ry := some a) (tgt := 53) hx hb dAT_giveOver_45 (by decide) (fun c_13 => ?_) (fun c_13 => ?_)
      · refine q_aload_n hx hb dAT_giveOver_53 rfl (lv_at hl 0 rfl) ?_
        refine lv_aload_n hx hb dAT_giveOver_54 rfl (lv_at hl 2 rfl) ?_
        have kq_14 : ∀ b, fr (add_S S (gd (fr S 21 t)) (2 : Int32) (fi S 6 a) (0 : Int64) (fl S 5 (gd (fr S 13 a)))) 13 a = some b → kd (sfi (add_S S (gd (fr S 21 t)) (2 : Int32) (fi S 6 a) (0 : Int64) (fl S 5 (gd (fr S 13 a)))) 8 a (0 : Int32)) b = 3 := fun b h => hW.ok.2.1 13 a b k_a h
        refine g_q FAT_138 hx hb hts hown hW k_a dAT_giveOver_55 ?_
        rw [show fr (sfi (add_S S (gd (fr S 21 t)) (2 : Int32) (fi S 6 a) (0 : Int64) (fl S 5 (gd (fr S 13 a)))) 8 a (0 : Int32)) 13 a = fr (add_S S (gd (fr S 21 t)) (2 : Int32) (fi S 6 a) (0 : Int64) (fl S 5 (gd (fr S 13 a)))) 13 a from rfl]
        have n_15 : fr (add_S S (gd (fr S 21 t)) (2 : Int32) (fi S 6 a) (0 : Int64) (fl S 5 (gd (fr S 13 a)))) 13 a = some (gd (fr (add_S S (gd (fr S 21 t)) (2 : Int32) (fi S 6 a) (0 : Int64) (fl S 5 (gd (fr S 13 a)))) 13 a)) := gd_some (nnp_8 13 a rfl k_a)
        have kb_16 : kd (sfi (add_S S (gd (fr S 21 t)) (2 : Int32) (fi S 6 a) (0 : Int64) (fl S 5 (gd (fr S 13 a)))) 8 a (0 : Int32)) (gd (fr (add_S S (gd (fr S 21 t)) (2 : Int32) (fi S 6 a) (0 : Int64) (fl S 5 (gd (fr S 13 a)))) 13 a)) = 3 := kq_14 (gd (fr (add_S S (gd (fr S 21 t)) (2 : Int32) (fi S 6 a) (0 : Int64) (fl S 5 (gd (fr S 13 a)))) 13 a)) n_15
        refine q_some n_15 ?_
        refine g_l FAT_154 hx hb hts hown hW kb_16 dAT_giveOver_58 ?_
        rw [show fl (sfi (add_S S (gd (fr S 21 t)) (2 : Int32) (fi S 6 a) (0 : Int64) (fl S 5 (gd (fr S 13 a)))) 8 a (0 : Int32)) 6 (gd (fr (add_S S (gd (fr S 21 t)) (2 : Int32) (fi S 6 a) (0 : Int64) (fl S 5 (gd (fr S 13 a)))) 13 a)) = fl (add_S S (gd (fr S 21 t)) (2 : Int32) (fi S 6 a) (0 : Int64) (fl S 5 (gd (fr S 13 a)))) 6 (gd (fr (add_S S (gd (fr S 21 t)) (2 : Int32) (fi S 6 a) (0 : Int64) (fl S 5 (gd (fr S 13 a)))) 13 a)) from rfl]
        refine q_some1 n_11 ?_
        refine k_Vv (As := [.long (fl (add_S S (gd (fr S 21 t)) (2 : Int32) (fi S 6 a) (0 : Int64) (fl S 5 (gd (fr S 13 a)))) 6 (gd (fr (add_S S (gd (fr S 21 t)) (2 : Int32) (fi S 6 a) (0 : Int64) (fl S 5 (gd (fr S 13 a)))) 13 a)))]) (rest := []) (c_runFrom l D AC (sfi (add_S S (gd (fr S 21 t)) (2 : Int32) (fi S 6 a) (0 : Int64) (fl S 5 (gd (fr S 13 a)))) 8 a (0 : Int32)) b_11 (fl (add_S S (gd (fr S 21 t)) (2 : Int32) (fi S 6 a) (0 : Int64) (fl S 5 (gd (fr S 13 a)))) 6 (gd (fr (add_S S (gd (fr S 21 t)) (2 : Int32) (fi S 6 a) (0 : Int64) (fl S 5 (gd (fr S 13 a)))) 13 a))) k_b_11) CAT_157 ⟨by decide, by decide, _, rfl, rfl⟩ hx hb hml hown hts hW k_b_11 hl.1 rfl rfl (Nat.le_of_ble_eq_true rfl) ⟨⟨by show _ ≤ 10; omega, by show _ ≤ 150; omega⟩, ⟨by show _ ≤ phi S t; have z1 := sr.2.1; have z2 := sr.2.2.1; omega, by show _ ≤ psi S t; have z1 := sr.2.1; have z2 := sr.2.2.1; omega⟩⟩ dAT_giveOver_61 (fun S_17 H locs e_17 hW m_17 _ => ?_)
        rw [e_17] at hW m_17
        have sr : sRel t S (runFrom_S (sfi (add_S S (gd (fr S 21 t)) (2 : Int32) (fi S 6 a) (0 : Int64) (fl S 5 (gd (fr S 13 a)))) 8 a (0 : Int32)) b_11 (fl (add_S S (gd (fr S 21 t)) (2 : Int32) (fi S 6 a) (0 : Int64) (fl S 5 (gd (fr S 13 a)))) 6 (gd (fr (add_S S (gd (fr S 21 t)) (2 : Int32) (fi S 6 a) (0 : Int64) (fl S 5 (gd (fr S 13 a)))) 13 a)))) := sr.tr (sRel_runFrom sr.1)
        have k_t := m_17.k k_t (by decide)
        have k_a := m_17.k k_a (by decide)
        have kb_4 := m_17.k kb_4 (by decide)
        have kb_6 := m_17.k kb_6 (by decide)
        have k_b_11 := m_17.k k_b_11 (by decide)
        have kb_16 := m_17.k kb_16 (by decide)
        have kq_1 := fun b h => m_17.k (kq_1 b h) (by decide)
        have kq_2 := fun b h => m_17.k (kq_2 b h) (by decide)
        have kq_10 := fun b h => m_17.k (kq_10 b h) (by decide)
        have kq_14 := fun b h => m_17.k (kq_14 b h) (by decide)
        have mo := mo.tr m_17
        refine W.tight (k := hz (runFrom_S (sfi (add_S S (gd (fr S 21 t)) (2 : Int32) (fi S 6 a) (0 : Int64) (fl S 5 (gd (fr S 13 a)))) 8 a (0 : Int32)) b_11 (fl (add_S S (gd (fr S 21 t)) (2 : Int32) (fi S 6 a) (0 : Int64) (fl S 5 (gd (fr S 13 a)))) 6 (gd (fr (add_S S (gd (fr S 21 t)) (2 : Int32) (fi S 6 a) (0 : Int64) (fl S 5 (gd (fr S 13 a)))) 13 a)))) - hz S) (n := tz (runFrom_S (sfi (add_S S (gd (fr S 21 t)) (2 : Int32) (fi S 6 a) (0 : Int64) (fl S 5 (gd (fr S 13 a)))) 8 a (0 : Int32)) b_11 (fl (add_S S (gd (fr S 21 t)) (2 : Int32) (fi S 6 a) (0 : Int64) (fl S 5 (gd (fr S 13 a)))) 6 (gd (fr (add_S S (gd (fr S 21 t)) (2 : Int32) (fi S 6 a) (0 : Int64) (fl S 5 (gd (fr S 13 a)))) 13 a)))) - tz S) (by rw [hW.z, hsz]; have := sr.2.2.1.1; omega) (by rw [hW.t, ht0]; have := sr.2.2.1.2; omega) ?_
        have nnp_18 : nn (runFrom_S (sfi (add_S S (gd (fr S 21 t)) (2 : Int32) (fi S 6 a) (0 : Int64) (fl S 5 (gd (fr S 13 a)))) 8 a (0 : Int32)) b_11 (fl (add_S S (gd (fr S 21 t)) (2 : Int32) (fi S 6 a) (0 : Int64) (fl S 5 (gd (fr S 13 a)))) 6 (gd (fr (add_S S (gd (fr S 21 t)) (2 : Int32) (fi S 6 a) (0 : Int64) (fl S 5 (gd (fr S 13 a)))) 13 a)))) := sr.1.2.2.1
        refine q_aload_n hx hb dAT_giveOver_64 rfl (lv_at hl 0 rfl) ?_
        exact e_q (r := fr (add_S S (gd (fr S 21 t)) (2 : Int32) (fi S 6 a) (0 : Int64) (fl S 5 (gd (fr S 13 a)))) 16 a) hsz hx hb hr hlk hW (mo) (by show _ ≤ phi S t; have z1 := sr.2.1; have z2 := sr.2.2.1; omega) (by show _ ≤ psi S t; have z1 := sr.2.1; have z2 := sr.2.2.1; omega) dAT_giveOver_65 ⟨(by refine Eq.symm ?_; refine (op_some n_11).trans ?_; refine (if_pos c_12).trans ?_; refine (if_pos c_13).trans ?_; rfl), (by refine Eq.symm ?_; refine (op_some n_11).trans ?_; refine (if_pos c_12).trans ?_; refine (if_pos c_13).trans ?_; rfl)⟩
      · refine q_aload_n hx hb dAT_giveOver_48 rfl (lv_at hl 0 rfl) ?_
        refine lv_lconst (v := (0 : Int64)) hx hb dAT_giveOver_49 (by decide) ?_
        refine q_some1 n_11 ?_
        refine p_l FAT_151 GTable_drift (fun h => by cases h) hx hb hts hown hW k_b_11 dAT_giveOver_50 (fun H locs hW => ?_)
        have mo := mo.tr (mono_sfl (k := 11) (a := b_11) (v := (0 : Int64)))
        have sr : sRel t S (sfl (sfi (add_S S (gd (fr S 21 t)) (2 : Int32) (fi S 6 a) (0 : Int64) (fl S 5 (gd (fr S 13 a)))) 8 a (0 : Int32)) 11 b_11 (0 : Int64)) := sr.tr (sRel_sfl sr.1)
        refine W.tight (k := hz (sfl (sfi (add_S S (gd (fr S 21 t)) (2 : Int32) (fi S 6 a) (0 : Int64) (fl S 5 (gd (fr S 13 a)))) 8 a (0 : Int32)) 11 b_11 (0 : Int64)) - hz S) (n := tz (sfl (sfi (add_S S (gd (fr S 21 t)) (2 : Int32) (fi S 6 a) (0 : Int64) (fl S 5 (gd (fr S 13 a)))) 8 a (0 : Int32)) 11 b_11 (0 : Int64)) - tz S) (by rw [hW.z, hsz]; have := sr.2.2.1.1; omega) (by rw [hW.t, ht0]; have := sr.2.2.1.2; omega) ?_
        have nnp_19 : nn (sfl (sfi (add_S S (gd (fr S 21 t)) (2 : Int32) (fi S 6 a) (0 : Int64) (fl S 5 (gd (fr S 13 a)))) 8 a (0 : Int32)) 11 b_11 (0 : Int64)) := nn_sfl nnp_9
        refine q_aload_n hx hb dAT_giveOver_53 rfl (lv_at hl 0 rfl) ?_
        refine lv_aload_n hx hb dAT_giveOver_54 rfl (lv_at hl 2 rfl) ?_
        have kq_20 : ∀ b, fr (add_S S (gd (fr S 21 t)) (2 : Int32) (fi S 6 a) (0 : Int64) (fl S 5 (gd (fr S 13 a)))) 13 a = some b → kd (sfl (sfi (add_S S (gd (fr S 21 t)) (2 : Int32) (fi S 6 a) (0 : Int64) (fl S 5 (gd (fr S 13 a)))) 8 a (0 : Int32)) 11 b_11 (0 : Int64)) b = 3 := fun b h => hW.ok.2.1 13 a b k_a h
        refine g_q FAT_138 hx hb hts hown hW k_a dAT_giveOver_55 ?_
        rw [show fr (sfl (sfi (add_S S (gd (fr S 21 t)) (2 : Int32) (fi S 6 a) (0 : Int64) (fl S 5 (gd (fr S 13 a)))) 8 a (0 : Int32)) 11 b_11 (0 : Int64)) 13 a = fr (add_S S (gd (fr S 21 t)) (2 : Int32) (fi S 6 a) (0 : Int64) (fl S 5 (gd (fr S 13 a)))) 13 a from rfl]
        have n_21 : fr (add_S S (gd (fr S 21 t)) (2 : Int32) (fi S 6 a) (0 : Int64) (fl S 5 (gd (fr S 13 a)))) 13 a = some (gd (fr (add_S S (gd (fr S 21 t)) (2 : Int32) (fi S 6 a) (0 : Int64) (fl S 5 (gd (fr S 13 a)))) 13 a)) := gd_some (nnp_8 13 a rfl k_a)
        have kb_22 : kd (sfl (sfi (add_S S (gd (fr S 21 t)) (2 : Int32) (fi S 6 a) (0 : Int64) (fl S 5 (gd (fr S 13 a)))) 8 a (0 : Int32)) 11 b_11 (0 : Int64)) (gd (fr (add_S S (gd (fr S 21 t)) (2 : Int32) (fi S 6 a) (0 : Int64) (fl S 5 (gd (fr S 13 a)))) 13 a)) = 3 := kq_20 (gd (fr (add_S S (gd (fr S 21 t)) (2 : Int32) (fi S 6 a) (0 : Int64) (fl S 5 (gd (fr S 13 a)))) 13 a)) n_21
        refine q_some n_21 ?_
        refine g_l FAT_154 hx hb hts hown hW kb_22 dAT_giveOver_58 ?_
        rw [show fl (sfl (sfi (add_S S (gd (fr S 21 t)) (2 : Int32) (fi S 6 a) (0 : Int64) (fl S 5 (gd (fr S 13 a)))) 8 a (0 : Int32)) 11 b_11 (0 : Int64)) 6 (gd (fr (add_S S (gd (fr S 21 t)) (2 : Int32) (fi S 6 a) (0 : Int64) (fl S 5 (gd (fr S 13 a)))) 13 a)) = fl (add_S S (gd (fr S 21 t)) (2 : Int32) (fi S 6 a) (0 : Int64) (fl S 5 (gd (fr S 13 a)))) 6 (gd (fr (add_S S (gd (fr S 21 t)) (2 : Int32) (fi S 6 a) (0 : Int64) (fl S 5 (gd (fr S 13 a)))) 13 a)) from rfl]
        refine q_some1 n_11 ?_
        refine k_Vv (As := [.long (fl (add_S S (gd (fr S 21 t)) (2 : Int32) (fi S 6 a) (0 : Int64) (fl S 5 (gd (fr S 13 a)))) 6 (gd (fr (add_S S (gd (fr S 21 t)) (2 : Int32) (fi S 6 a) (0 : Int64) (fl S 5 (gd (fr S 13 a)))) 13 a)))]) (rest := []) (c_runFrom l D AC (sfl (sfi (add_S S (gd (fr S 21 t)) (2 : Int32) (fi S 6 a) (0 : Int64) (fl S 5 (gd (fr S 13 a)))) 8 a (0 : Int32)) 11 b_11 (0 : Int64)) b_11 (fl (add_S S (gd (fr S 21 t)) (2 : Int32) (fi S 6 a) (0 : Int64) (fl S 5 (gd (fr S 13 a)))) 6 (gd (fr (add_S S (gd (fr S 21 t)) (2 : Int32) (fi S 6 a) (0 : Int64) (fl S 5 (gd (fr S 13 a)))) 13 a))) k_b_11) CAT_157 ⟨by decide, by decide, _, rfl, rfl⟩ hx hb hml hown hts hW k_b_11 hl.1 rfl rfl (Nat.le_of_ble_eq_true rfl) ⟨⟨by show _ ≤ 10; omega, by show _ ≤ 150; omega⟩, ⟨by show _ ≤ phi S t; have z1 := sr.2.1; have z2 := sr.2.2.1; omega, by show _ ≤ psi S t; have z1 := sr.2.1; have z2 := sr.2.2.1; omega⟩⟩ dAT_giveOver_61 (fun S_23 H locs e_23 hW m_23 _ => ?_)
        rw [e_23] at hW m_23
        have sr : sRel t S (runFrom_S (sfl (sfi (add_S S (gd (fr S 21 t)) (2 : Int32) (fi S 6 a) (0 : Int64) (fl S 5 (gd (fr S 13 a)))) 8 a (0 : Int32)) 11 b_11 (0 : Int64)) b_11 (fl (add_S S (gd (fr S 21 t)) (2 : Int32) (fi S 6 a) (0 : Int64) (fl S 5 (gd (fr S 13 a)))) 6 (gd (fr (add_S S (gd (fr S 21 t)) (2 : Int32) (fi S 6 a) (0 : Int64) (fl S 5 (gd (fr S 13 a)))) 13 a)))) := sr.tr (sRel_runFrom sr.1)
        have k_t := m_23.k k_t (by decide)
        have k_a := m_23.k k_a (by decide)
        have kb_4 := m_23.k kb_4 (by decide)
        have kb_6 := m_23.k kb_6 (by decide)
        have k_b_11 := m_23.k k_b_11 (by decide)
        have kb_22 := m_23.k kb_22 (by decide)
        have kq_1 := fun b h => m_23.k (kq_1 b h) (by decide)
        have kq_2 := fun b h => m_23.k (kq_2 b h) (by decide)
        have kq_10 := fun b h => m_23.k (kq_10 b h) (by decide)
        have kq_20 := fun b h => m_23.k (kq_20 b h) (by decide)
        have mo := mo.tr m_23
        refine W.tight (k := hz (runFrom_S (sfl (sfi (add_S S (gd (fr S 21 t)) (2 : Int32) (fi S 6 a) (0 : Int64) (fl S 5 (gd (fr S 13 a)))) 8 a (0 : Int32)) 11 b_11 (0 : Int64)) b_11 (fl (add_S S (gd (fr S 21 t)) (2 : Int32) (fi S 6 a) (0 : Int64) (fl S 5 (gd (fr S 13 a)))) 6 (gd (fr (add_S S (gd (fr S 21 t)) (2 : Int32) (fi S 6 a) (0 : Int64) (fl S 5 (gd (fr S 13 a)))) 13 a)))) - hz S) (n := tz (runFrom_S (sfl (sfi (add_S S (gd (fr S 21 t)) (2 : Int32) (fi S 6 a) (0 : Int64) (fl S 5 (gd (fr S 13 a)))) 8 a (0 : Int32)) 11 b_11 (0 : Int64)) b_11 (fl (add_S S (gd (fr S 21 t)) (2 : Int32) (fi S 6 a) (0 : Int64) (fl S 5 (gd (fr S 13 a)))) 6 (gd (fr (add_S S (gd (fr S 21 t)) (2 : Int32) (fi S 6 a) (0 : Int64) (fl S 5 (gd (fr S 13 a)))) 13 a)))) - tz S) (by rw [hW.z, hsz]; have := sr.2.2.1.1; omega) (by rw [hW.t, ht0]; have := sr.2.2.1.2; omega) ?_
        have nnp_24 : nn (runFrom_S (sfl (sfi (add_S S (gd (fr S 21 t)) (2 : Int32) (fi S 6 a) (0 : Int64) (fl S 5 (gd (fr S 13 a)))) 8 a (0 : Int32)) 11 b_11 (0 : Int64)) b_11 (fl (add_S S (gd (fr S 21 t)) (2 : Int32) (fi S 6 a) (0 : Int64) (fl S 5 (gd (fr S 13 a)))) 6 (gd (fr (add_S S (gd (fr S 21 t)) (2 : Int32) (fi S 6 a) (0 : Int64) (fl S 5 (gd (fr S 13 a)))) 13 a)))) := sr.1.2.2.1
        refine q_aload_n hx hb dAT_giveOver_64 rfl (lv_at hl 0 rfl) ?_
        exact e_q (r := fr (add_S S (gd (fr S 21 t)) (2 : Int32) (fi S 6 a) (0 : Int64) (fl S 5 (gd (fr S 13 a)))) 16 a) hsz hx hb hr hlk hW (mo) (by show _ ≤ phi S t; have z1 := sr.2.1; have z2 := sr.2.2.1; omega) (by show _ ≤ psi S t; have z1 := sr.2.1; have z2 := sr.2.2.1; omega) dAT_giveOver_65 ⟨(by refine Eq.symm ?_; refine (op_some n_11).trans ?_; refine (if_pos c_12).trans ?_; refine (if_neg c_13).trans ?_; rfl), (by refine Eq.symm ?_; refine (op_some n_11).trans ?_; refine (if_pos c_12).trans ?_; refine (if_neg c_13).trans ?_; rfl)⟩
    · refine lv_null hx hb dAT_giveOver_41 ?_
      exact e_q (r := none) hsz hx hb hr hlk hW (mo) (by show _ ≤ phi S t; have z1 := sr.2.1; have z2 := sr.2.2.1; omega) (by show _ ≤ psi S t; have z1 := sr.2.1; have z2 := sr.2.2.1; omega) dAT_giveOver_42 ⟨(by refine Eq.symm ?_; refine (op_some n_11).trans ?_; refine (if_neg c_12).trans ?_; rfl), (by refine Eq.symm ?_; refine (op_some n_11).trans ?_; refine (if_neg c_12).trans ?_; rfl)⟩

theorem sRel_giveOver {S : HS} {t a : Nat} (h : sInv S t) (k_a : kd S a = 7) : sRel t S (giveOver_S S t a) := by
  unfold giveOver_S
  have sA : sRel t S (add_S S (gd (fr S 21 t)) (2 : Int32) (fi S 6 a) (0 : Int64) (fl S 5 (gd (fr S 13 a)))) := sRel_add h
  generalize add_S S (gd (fr S 21 t)) (2 : Int32) (fi S 6 a) (0 : Int64) (fl S 5 (gd (fr S 13 a))) = S1 at sA
  have s1 : sRel t S (sfi S1 8 a 0) := sA.tr (sRel_sfi (by decide) sA.1)
  refine opc_P (P := sRel t S) (fun _ => s1) (fun b _ => ite_P (P := sRel t S) (ite_P (P := sRel t S) ?_ ?_) s1)
  · exact s1.tr (sRel_runFrom s1.1)
  · have s2 := s1.tr (sRel_sfl (k := 11) (a := b) (v := 0) s1.1)
    exact s2.tr (sRel_runFrom s2.1)
theorem giveOver_kd {S : HS} {t a : Nat} (h : sInv S t) (k_a : kd S a = 7) : ∀ b, giveOver_R S t a = some b → kd (giveOver_S S t a) b = 7 := by
  intro b hb
  unfold giveOver_R at hb
  unfold giveOver_S
  have sA : sRel t S (add_S S (gd (fr S 21 t)) (2 : Int32) (fi S 6 a) (0 : Int64) (fl S 5 (gd (fr S 13 a)))) := sRel_add h
  generalize add_S S (gd (fr S 21 t)) (2 : Int32) (fi S 6 a) (0 : Int64) (fl S 5 (gd (fr S 13 a))) = S1 at sA hb
  have k1 : kd S1 b = 7 := by
    have hk : ∀ c, fr S1 16 a = some c → kd S1 c = 7 := fun c hc => sA.1.1.1.2.1 16 a c (sA.2.2.2.2.k k_a (by decide)) hc
    cases ho : fr S1 16 a with
    | none => rw [ho] at hb; cases hb
    | some c =>
      rw [ho] at hb
      have hb : (if fi (sfi S1 8 a 0) 8 c = 0 then (if some c = some a then some c else some c) else none) = some b := hb
      split at hb
      · split at hb <;> (cases hb; exact hk _ ho)
      · cases hb
  refine opc_P (P := fun z => kd z b = 7) (fun _ => k1) (fun c _ => ite_P (P := fun z => kd z b = 7) (ite_P (P := fun z => kd z b = 7) k1 k1) k1)
