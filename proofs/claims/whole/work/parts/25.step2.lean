def goThrough_R (S : HS) (t : Nat) (a : Nat) (dp : Int32) (rec : HS → Nat → HS) : Option Nat :=
  if (fi S 9 a) = 0 then
    some a
  else
    opc (fr S 15 a) ((giveOver_R S t a))
    (fun b_3 => some a)
def goThrough_S (S : HS) (t : Nat) (a : Nat) (dp : Int32) (rec : HS → Nat → HS) : HS :=
  if (fi S 9 a) = 0 then
    (goOn_S (sfi S 9 a (1 : Int32)) a (0 : Int64) (fr S 14 a))
  else
    opc (fr S 15 a) ((giveOver_S S t a))
    (fun b_3 => (perform_S (goOn_S (add_S S (gd (fr S 21 t)) (1 : Int32) (fi S 6 a) (fl S 8 b_3) (fl S 5 (gd (fr S 13 a)))) a (fl (add_S S (gd (fr S 21 t)) (1 : Int32) (fi S 6 a) (fl S 8 b_3) (fl S 5 (gd (fr S 13 a)))) 8 b_3) (fr (add_S S (gd (fr S 21 t)) (1 : Int32) (fi S 6 a) (fl S 8 b_3) (fl S 5 (gd (fr S 13 a)))) 12 b_3)) t (gd (fr (goOn_S (add_S S (gd (fr S 21 t)) (1 : Int32) (fi S 6 a) (fl S 8 b_3) (fl S 5 (gd (fr S 13 a)))) a (fl (add_S S (gd (fr S 21 t)) (1 : Int32) (fi S 6 a) (fl S 8 b_3) (fl S 5 (gd (fr S 13 a)))) 8 b_3) (fr (add_S S (gd (fr S 21 t)) (1 : Int32) (fi S 6 a) (fl S 8 b_3) (fl S 5 (gd (fr S 13 a)))) 12 b_3)) 11 b_3)) dp rec))
set_option maxRecDepth 20000 in
set_option maxHeartbeats 2000000 in
theorem c_goThrough (l : Launch) (D : va_G) (AC : Nat → ClassId) (S : HS) (t : Nat) (a : Nat) (dp : Int32) (rec : HS → Nat → HS) (k : Nat) (k_t : kd S t = 8) (k_a : kd S a = 7) (hi : sInv S t) (hrec : ¬ (20 : Int32) ≤ dp → ∀ S1 c1, sInv S1 t → kd S1 c1 = 3 → CtV l yAT_makeStep (Cond.code yAT_makeStep cAT_makeStep 4 none :: wT) (8 + 5 * k) (200 + 92 * k) D AC S1 [.ref t, .ref c1, .int (dp + 1)] (phi S1 t) (psi S1 t) (fun S2 => S2 = rec S1 c1)) (hrr : ∀ S1 c1, sInv S1 t → kd S1 c1 = 3 → sRel t S1 (rec S1 c1)) : CtQ l yAT_goThrough (Cond.code yAT_goThrough cAT_goThrough 4 (some (.object "AlarmTables$Table")) :: wT) (11 + 5 * k) (245 + 92 * k) D AC S [.ref t, .ref a, .int dp] (phi S t) (psi S t) (fun r S' => r = goThrough_R S t a dp rec ∧ S' = goThrough_S S t a dp rec) := by
  refine met_of (by decide) (Nat.le_of_ble_eq_true rfl) ?_
  intro p e s m below meth c ls hsz X hW hl
  obtain ⟨hx, hb, hml, hr, hlk, hown, hnm, hts⟩ := X
  have hl : lv_has ls 4 [(0, .ref t), (1, .ref a), (2, .int dp)] := hl
  have mo : mono S S := mono.rf S
  have sr : sRel t S S := sRel.rf hi
  have ht0 := hW.t
  refine lv_aload_n hx hb dAT_goThrough_0 rfl (lv_at hl 1 rfl) ?_
  refine g_i FAT_257 hx hb hts hown hW k_a dAT_goThrough_1 ?_
  refine lv_if_ne (tgt := 23) hx hb dAT_goThrough_4 (by decide) (fun c_1 => ?_) (fun c_1 => ?_)
  · refine lv_aload_n hx hb dAT_goThrough_23 rfl (lv_at hl 1 rfl) ?_
    have kq_2 : ∀ b, fr S 15 a = some b → kd S b = 6 := fun b h => hW.ok.2.1 15 a b k_a h
    refine g_q FAT_268 hx hb hts hown hW k_a dAT_goThrough_24 ?_
    refine q_astore_n (i := 3) (lv' := [(3, va_rf (fr S 15 a)), (0, .ref t), (1, .ref a), (2, .int dp)]) hx hb dAT_goThrough_27 rfl hl (by decide) rfl (fun ls hl => ?_)
    refine q_aload_n hx hb dAT_goThrough_28 rfl (lv_at hl 0 rfl) ?_
    refine q_ifnonnull (tgt := 38) hx hb dAT_goThrough_29 (by decide) (fun n_3 => ?_) (fun b_3 n_3 => ?_)
    · refine lv_aload_n hx hb dAT_goThrough_32 rfl (lv_at hl 1 rfl) ?_
      refine lv_aload_n hx hb dAT_goThrough_33 rfl (lv_at hl 2 rfl) ?_
      have si_4 : sInv S t := sr.1
      have ka_4 := k_a
      refine k_Vq (As := [.ref a]) (rest := []) (c_giveOver l D AC S t a k_t k_a sr.1) CAT_271 ⟨by decide, by decide, _, rfl, rfl⟩ hx hb hml hown hts hW k_t hl.1 rfl rfl (Nat.le_of_ble_eq_true rfl) ⟨⟨by show _ ≤ (11 + 5 * k); omega, by show _ ≤ (245 + 92 * k); omega⟩, ⟨by show _ ≤ phi S t; have z1 := sr.2.1; have z2 := sr.2.2.1; omega, by show _ ≤ psi S t; have z1 := sr.2.1; have z2 := sr.2.2.1; omega⟩⟩ dAT_goThrough_34 (fun r_5 S_5 H locs e_5 hW m_5 _ => ?_)
      obtain ⟨e1_5, e2_5⟩ := e_5
      rw [e2_5] at hW m_5
      rw [e1_5]
      have sr : sRel t S (giveOver_S S t a) := sr.tr (sRel_giveOver sr.1 k_a)
      have k_t := m_5.k k_t (by decide)
      have k_a := m_5.k k_a (by decide)
      have kq_2 := fun b h => m_5.k (kq_2 b h) (by decide)
      have mo := mo.tr m_5
      refine W.tight (k := hz (giveOver_S S t a) - hz S) (n := tz (giveOver_S S t a) - tz S) (by rw [hW.z, hsz]; have := sr.2.2.1.1; omega) (by rw [hW.t, ht0]; have := sr.2.2.1.2; omega) ?_
      have nnp_6 : nn (giveOver_S S t a) := sr.1.2.2.1
      have kq_7 : ∀ b, (giveOver_R S t a) = some b → kd (giveOver_S S t a) b = 7 := giveOver_kd si_4 ka_4
      exact e_q (r := (giveOver_R S t a)) hsz hx hb hr hlk hW (mo) (by show _ ≤ phi S t; have z1 := sr.2.1; have z2 := sr.2.2.1; omega) (by show _ ≤ psi S t; have z1 := sr.2.1; have z2 := sr.2.2.1; omega) dAT_goThrough_37 ⟨(by refine Eq.symm ?_; refine (if_neg c_1).trans ?_; refine (op_none n_3).trans ?_; rfl), (by refine Eq.symm ?_; refine (if_neg c_1).trans ?_; refine (op_none n_3).trans ?_; rfl)⟩
    · have k_b_3 : kd S b_3 = 6 := kq_2 b_3 n_3
      refine lv_aload_n hx hb dAT_goThrough_38 rfl (lv_at hl 1 rfl) ?_
      have kq_8 : ∀ b, fr S 21 t = some b → kd S b = 4 := fun b h => hW.ok.2.1 21 t b k_t h
      refine g_q FAT_30 hx hb hts hown hW k_t dAT_goThrough_39 ?_
      refine lv_iconst (v := (1 : Int32)) hx hb dAT_goThrough_42 (by decide) ?_
      refine lv_aload_n hx hb dAT_goThrough_43 rfl (lv_at hl 2 rfl) ?_
      refine g_i FAT_275 hx hb hts hown hW k_a dAT_goThrough_44 ?_
      refine q_aload_n hx hb dAT_goThrough_47 rfl (lv_at hl 0 rfl) ?_
      refine q_some n_3 ?_
      refine g_l FAT_276 hx hb hts hown hW k_b_3 dAT_goThrough_48 ?_
      refine lv_aload_n hx hb dAT_goThrough_51 rfl (lv_at hl 2 rfl) ?_
      have kq_9 : ∀ b, fr S 13 a = some b → kd S b = 3 := fun b h => hW.ok.2.1 13 a b k_a h
      refine g_q FAT_138 hx hb hts hown hW k_a dAT_goThrough_52 ?_
      have n_10 : fr S 13 a = some (gd (fr S 13 a)) := gd_some (hi.2.2.1 13 a rfl k_a)
      have kb_11 : kd S (gd (fr S 13 a)) = 3 := kq_9 (gd (fr S 13 a)) n_10
      refine q_some n_10 ?_
      refine g_l FAT_238 hx hb hts hown hW kb_11 dAT_goThrough_55 ?_
      have n_12 : fr S 21 t = some (gd (fr S 21 t)) := gd_some (hi.2.2.1 21 t rfl k_t)
      have kb_13 : kd S (gd (fr S 21 t)) = 4 := kq_8 (gd (fr S 21 t)) n_12
      refine q_some4 n_12 ?_
      refine k_Vv (As := [.int (1 : Int32), .int (fi S 6 a), .long (fl S 8 b_3), .long (fl S 5 (gd (fr S 13 a)))]) (rest := []) (c_add l D AC S (gd (fr S 21 t)) (1 : Int32) (fi S 6 a) (fl S 8 b_3) (fl S 5 (gd (fr S 13 a))) kb_13 sr.1.2.2.1 sr.1.2.2.2.2.1.1 sr.1.2.2.2.2.1.2.1 sr.1.2.2.2.2.1.2.2.1 sr.1.2.2.2.1) CAT_241 ⟨by decide, by decide, _, rfl, rfl⟩ hx hb hml hown hts hW kb_13 hl.1 rfl rfl (Nat.le_of_ble_eq_true rfl) ⟨⟨by show _ ≤ (11 + 5 * k); omega, by show _ ≤ (245 + 92 * k); omega⟩, ⟨by show _ ≤ phi S t; have z1 := sr.2.1; have z2 := sr.2.2.1; have z3 : addC S (gd (fr S 21 t)) ≤ phi S t ∧ addM S (gd (fr S 21 t)) ≤ psi S t := addC_le sr.1; omega, by show _ ≤ psi S t; have z1 := sr.2.1; have z2 := sr.2.2.1; have z3 : addC S (gd (fr S 21 t)) ≤ phi S t ∧ addM S (gd (fr S 21 t)) ≤ psi S t := addC_le sr.1; omega⟩⟩ dAT_goThrough_58 (fun S_14 H locs e_14 hW m_14 _ => ?_)
      rw [e_14] at hW m_14
      have sr : sRel t S (add_S S (gd (fr S 21 t)) (1 : Int32) (fi S 6 a) (fl S 8 b_3) (fl S 5 (gd (fr S 13 a)))) := sr.tr (sRel_add sr.1)
      have k_t := m_14.k k_t (by decide)
      have k_a := m_14.k k_a (by decide)
      have k_b_3 := m_14.k k_b_3 (by decide)
      have kb_11 := m_14.k kb_11 (by decide)
      have kb_13 := m_14.k kb_13 (by decide)
      have kq_2 := fun b h => m_14.k (kq_2 b h) (by decide)
      have kq_8 := fun b h => m_14.k (kq_8 b h) (by decide)
      have kq_9 := fun b h => m_14.k (kq_9 b h) (by decide)
      have mo := mo.tr m_14
      refine W.tight (k := hz (add_S S (gd (fr S 21 t)) (1 : Int32) (fi S 6 a) (fl S 8 b_3) (fl S 5 (gd (fr S 13 a)))) - hz S) (n := tz (add_S S (gd (fr S 21 t)) (1 : Int32) (fi S 6 a) (fl S 8 b_3) (fl S 5 (gd (fr S 13 a)))) - tz S) (by rw [hW.z, hsz]; have := sr.2.2.1.1; omega) (by rw [hW.t, ht0]; have := sr.2.2.1.2; omega) ?_
      have nnp_15 : nn (add_S S (gd (fr S 21 t)) (1 : Int32) (fi S 6 a) (fl S 8 b_3) (fl S 5 (gd (fr S 13 a)))) := sr.1.2.2.1
      refine lv_aload_n hx hb dAT_goThrough_61 rfl (lv_at hl 2 rfl) ?_
      refine q_aload_n hx hb dAT_goThrough_62 rfl (lv_at hl 0 rfl) ?_
      refine q_some n_3 ?_
      refine g_l FAT_276 hx hb hts hown hW k_b_3 dAT_goThrough_63 ?_
      refine q_aload_n hx hb dAT_goThrough_66 rfl (lv_at hl 0 rfl) ?_
      refine q_some n_3 ?_
      have kq_16 : ∀ b, fr (add_S S (gd (fr S 21 t)) (1 : Int32) (fi S 6 a) (fl S 8 b_3) (fl S 5 (gd (fr S 13 a)))) 12 b_3 = some b → kd (add_S S (gd (fr S 21 t)) (1 : Int32) (fi S 6 a) (fl S 8 b_3) (fl S 5 (gd (fr S 13 a)))) b = 6 := fun b h => hW.ok.2.1 12 b_3 b k_b_3 h
      refine g_q FAT_279 hx hb hts hown hW k_b_3 dAT_goThrough_67 ?_
      refine k_Vv (As := [.long (fl (add_S S (gd (fr S 21 t)) (1 : Int32) (fi S 6 a) (fl S 8 b_3) (fl S 5 (gd (fr S 13 a)))) 8 b_3), va_rf (fr (add_S S (gd (fr S 21 t)) (1 : Int32) (fi S 6 a) (fl S 8 b_3) (fl S 5 (gd (fr S 13 a)))) 12 b_3)]) (rest := []) (c_goOn l D AC (add_S S (gd (fr S 21 t)) (1 : Int32) (fi S 6 a) (fl S 8 b_3) (fl S 5 (gd (fr S 13 a)))) a (fl (add_S S (gd (fr S 21 t)) (1 : Int32) (fi S 6 a) (fl S 8 b_3) (fl S 5 (gd (fr S 13 a)))) 8 b_3) (fr (add_S S (gd (fr S 21 t)) (1 : Int32) (fi S 6 a) (fl S 8 b_3) (fl S 5 (gd (fr S 13 a)))) 12 b_3) k_a kq_16 sr.1.2.2.1) CAT_264 ⟨by decide, by decide, _, rfl, rfl⟩ hx hb hml hown hts hW k_a hl.1 rfl rfl (Nat.le_of_ble_eq_true rfl) ⟨⟨by show _ ≤ (11 + 5 * k); omega, by show _ ≤ (245 + 92 * k); omega⟩, ⟨by show _ ≤ phi S t; have z1 := sr.2.1; have z2 := sr.2.2.1; omega, by show _ ≤ psi S t; have z1 := sr.2.1; have z2 := sr.2.2.1; omega⟩⟩ dAT_goThrough_70 (fun S_17 H locs e_17 hW m_17 _ => ?_)
      rw [e_17] at hW m_17
      have sr : sRel t S (goOn_S (add_S S (gd (fr S 21 t)) (1 : Int32) (fi S 6 a) (fl S 8 b_3) (fl S 5 (gd (fr S 13 a)))) a (fl (add_S S (gd (fr S 21 t)) (1 : Int32) (fi S 6 a) (fl S 8 b_3) (fl S 5 (gd (fr S 13 a)))) 8 b_3) (fr (add_S S (gd (fr S 21 t)) (1 : Int32) (fi S 6 a) (fl S 8 b_3) (fl S 5 (gd (fr S 13 a)))) 12 b_3)) := sr.tr (sRel_goOn sr.1 kq_16)
      have k_t := m_17.k k_t (by decide)
      have k_a := m_17.k k_a (by decide)
      have k_b_3 := m_17.k k_b_3 (by decide)
      have kb_11 := m_17.k kb_11 (by decide)
      have kb_13 := m_17.k kb_13 (by decide)
      have kq_2 := fun b h => m_17.k (kq_2 b h) (by decide)
      have kq_8 := fun b h => m_17.k (kq_8 b h) (by decide)
      have kq_9 := fun b h => m_17.k (kq_9 b h) (by decide)
      have kq_16 := fun b h => m_17.k (kq_16 b h) (by decide)
      have mo := mo.tr m_17
      refine W.tight (k := hz (goOn_S (add_S S (gd (fr S 21 t)) (1 : Int32) (fi S 6 a) (fl S 8 b_3) (fl S 5 (gd (fr S 13 a)))) a (fl (add_S S (gd (fr S 21 t)) (1 : Int32) (fi S 6 a) (fl S 8 b_3) (fl S 5 (gd (fr S 13 a)))) 8 b_3) (fr (add_S S (gd (fr S 21 t)) (1 : Int32) (fi S 6 a) (fl S 8 b_3) (fl S 5 (gd (fr S 13 a)))) 12 b_3)) - hz S) (n := tz (goOn_S (add_S S (gd (fr S 21 t)) (1 : Int32) (fi S 6 a) (fl S 8 b_3) (fl S 5 (gd (fr S 13 a)))) a (fl (add_S S (gd (fr S 21 t)) (1 : Int32) (fi S 6 a) (fl S 8 b_3) (fl S 5 (gd (fr S 13 a)))) 8 b_3) (fr (add_S S (gd (fr S 21 t)) (1 : Int32) (fi S 6 a) (fl S 8 b_3) (fl S 5 (gd (fr S 13 a)))) 12 b_3)) - tz S) (by rw [hW.z, hsz]; have := sr.2.2.1.1; omega) (by rw [hW.t, ht0]; have := sr.2.2.1.2; omega) ?_
      have nnp_18 : nn (goOn_S (add_S S (gd (fr S 21 t)) (1 : Int32) (fi S 6 a) (fl S 8 b_3) (fl S 5 (gd (fr S 13 a)))) a (fl (add_S S (gd (fr S 21 t)) (1 : Int32) (fi S 6 a) (fl S 8 b_3) (fl S 5 (gd (fr S 13 a)))) 8 b_3) (fr (add_S S (gd (fr S 21 t)) (1 : Int32) (fi S 6 a) (fl S 8 b_3) (fl S 5 (gd (fr S 13 a)))) 12 b_3)) := sr.1.2.2.1
      refine lv_aload_n hx hb dAT_goThrough_73 rfl (lv_at hl 1 rfl) ?_
      refine q_aload_n hx hb dAT_goThrough_74 rfl (lv_at hl 0 rfl) ?_
      refine q_some n_3 ?_
      have kq_19 : ∀ b, fr (goOn_S (add_S S (gd (fr S 21 t)) (1 : Int32) (fi S 6 a) (fl S 8 b_3) (fl S 5 (gd (fr S 13 a)))) a (fl (add_S S (gd (fr S 21 t)) (1 : Int32) (fi S 6 a) (fl S 8 b_3) (fl S 5 (gd (fr S 13 a)))) 8 b_3) (fr (add_S S (gd (fr S 21 t)) (1 : Int32) (fi S 6 a) (fl S 8 b_3) (fl S 5 (gd (fr S 13 a)))) 12 b_3)) 11 b_3 = some b → kd (goOn_S (add_S S (gd (fr S 21 t)) (1 : Int32) (fi S 6 a) (fl S 8 b_3) (fl S 5 (gd (fr S 13 a)))) a (fl (add_S S (gd (fr S 21 t)) (1 : Int32) (fi S 6 a) (fl S 8 b_3) (fl S 5 (gd (fr S 13 a)))) 8 b_3) (fr (add_S S (gd (fr S 21 t)) (1 : Int32) (fi S 6 a) (fl S 8 b_3) (fl S 5 (gd (fr S 13 a)))) 12 b_3)) b = 1 := fun b h => hW.ok.2.1 11 b_3 b k_b_3 h
      refine g_q FAT_281 hx hb hts hown hW k_b_3 dAT_goThrough_75 ?_
      refine lv_iload_n hx hb dAT_goThrough_78 rfl (lv_at hl 3 rfl) ?_
      have n_20 : fr (goOn_S (add_S S (gd (fr S 21 t)) (1 : Int32) (fi S 6 a) (fl S 8 b_3) (fl S 5 (gd (fr S 13 a)))) a (fl (add_S S (gd (fr S 21 t)) (1 : Int32) (fi S 6 a) (fl S 8 b_3) (fl S 5 (gd (fr S 13 a)))) 8 b_3) (fr (add_S S (gd (fr S 21 t)) (1 : Int32) (fi S 6 a) (fl S 8 b_3) (fl S 5 (gd (fr S 13 a)))) 12 b_3)) 11 b_3 = some (gd (fr (goOn_S (add_S S (gd (fr S 21 t)) (1 : Int32) (fi S 6 a) (fl S 8 b_3) (fl S 5 (gd (fr S 13 a)))) a (fl (add_S S (gd (fr S 21 t)) (1 : Int32) (fi S 6 a) (fl S 8 b_3) (fl S 5 (gd (fr S 13 a)))) 8 b_3) (fr (add_S S (gd (fr S 21 t)) (1 : Int32) (fi S 6 a) (fl S 8 b_3) (fl S 5 (gd (fr S 13 a)))) 12 b_3)) 11 b_3)) := gd_some (nnp_18 11 b_3 rfl k_b_3)
      have kb_21 : kd (goOn_S (add_S S (gd (fr S 21 t)) (1 : Int32) (fi S 6 a) (fl S 8 b_3) (fl S 5 (gd (fr S 13 a)))) a (fl (add_S S (gd (fr S 21 t)) (1 : Int32) (fi S 6 a) (fl S 8 b_3) (fl S 5 (gd (fr S 13 a)))) 8 b_3) (fr (add_S S (gd (fr S 21 t)) (1 : Int32) (fi S 6 a) (fl S 8 b_3) (fl S 5 (gd (fr S 13 a)))) 12 b_3)) (gd (fr (goOn_S (add_S S (gd (fr S 21 t)) (1 : Int32) (fi S 6 a) (fl S 8 b_3) (fl S 5 (gd (fr S 13 a)))) a (fl (add_S S (gd (fr S 21 t)) (1 : Int32) (fi S 6 a) (fl S 8 b_3) (fl S 5 (gd (fr S 13 a)))) 8 b_3) (fr (add_S S (gd (fr S 21 t)) (1 : Int32) (fi S 6 a) (fl S 8 b_3) (fl S 5 (gd (fr S 13 a)))) 12 b_3)) 11 b_3)) = 1 := kq_19 (gd (fr (goOn_S (add_S S (gd (fr S 21 t)) (1 : Int32) (fi S 6 a) (fl S 8 b_3) (fl S 5 (gd (fr S 13 a)))) a (fl (add_S S (gd (fr S 21 t)) (1 : Int32) (fi S 6 a) (fl S 8 b_3) (fl S 5 (gd (fr S 13 a)))) 8 b_3) (fr (add_S S (gd (fr S 21 t)) (1 : Int32) (fi S 6 a) (fl S 8 b_3) (fl S 5 (gd (fr S 13 a)))) 12 b_3)) 11 b_3)) n_20
      refine q_some1 n_20 ?_
      refine k_Vv (As := [.ref (gd (fr (goOn_S (add_S S (gd (fr S 21 t)) (1 : Int32) (fi S 6 a) (fl S 8 b_3) (fl S 5 (gd (fr S 13 a)))) a (fl (add_S S (gd (fr S 21 t)) (1 : Int32) (fi S 6 a) (fl S 8 b_3) (fl S 5 (gd (fr S 13 a)))) 8 b_3) (fr (add_S S (gd (fr S 21 t)) (1 : Int32) (fi S 6 a) (fl S 8 b_3) (fl S 5 (gd (fr S 13 a)))) 12 b_3)) 11 b_3)), .int dp]) (rest := []) (c_perform l D AC (goOn_S (add_S S (gd (fr S 21 t)) (1 : Int32) (fi S 6 a) (fl S 8 b_3) (fl S 5 (gd (fr S 13 a)))) a (fl (add_S S (gd (fr S 21 t)) (1 : Int32) (fi S 6 a) (fl S 8 b_3) (fl S 5 (gd (fr S 13 a)))) 8 b_3) (fr (add_S S (gd (fr S 21 t)) (1 : Int32) (fi S 6 a) (fl S 8 b_3) (fl S 5 (gd (fr S 13 a)))) 12 b_3)) t (gd (fr (goOn_S (add_S S (gd (fr S 21 t)) (1 : Int32) (fi S 6 a) (fl S 8 b_3) (fl S 5 (gd (fr S 13 a)))) a (fl (add_S S (gd (fr S 21 t)) (1 : Int32) (fi S 6 a) (fl S 8 b_3) (fl S 5 (gd (fr S 13 a)))) 8 b_3) (fr (add_S S (gd (fr S 21 t)) (1 : Int32) (fi S 6 a) (fl S 8 b_3) (fl S 5 (gd (fr S 13 a)))) 12 b_3)) 11 b_3)) dp rec k k_t kb_21 sr.1 hrec hrr) CAT_249 ⟨by decide, by decide, _, rfl, rfl⟩ hx hb hml hown hts hW k_t hl.1 rfl rfl (Nat.le_of_ble_eq_true rfl) ⟨⟨by show _ ≤ (11 + 5 * k); omega, by show _ ≤ (245 + 92 * k); omega⟩, ⟨by show _ ≤ phi S t; have z1 := sr.2.1; have z2 := sr.2.2.1; omega, by show _ ≤ psi S t; have z1 := sr.2.1; have z2 := sr.2.2.1; omega⟩⟩ dAT_goThrough_79 (fun S_22 H locs e_22 hW m_22 _ => ?_)
      rw [e_22] at hW m_22
      have sr : sRel t S (perform_S (goOn_S (add_S S (gd (fr S 21 t)) (1 : Int32) (fi S 6 a) (fl S 8 b_3) (fl S 5 (gd (fr S 13 a)))) a (fl (add_S S (gd (fr S 21 t)) (1 : Int32) (fi S 6 a) (fl S 8 b_3) (fl S 5 (gd (fr S 13 a)))) 8 b_3) (fr (add_S S (gd (fr S 21 t)) (1 : Int32) (fi S 6 a) (fl S 8 b_3) (fl S 5 (gd (fr S 13 a)))) 12 b_3)) t (gd (fr (goOn_S (add_S S (gd (fr S 21 t)) (1 : Int32) (fi S 6 a) (fl S 8 b_3) (fl S 5 (gd (fr S 13 a)))) a (fl (add_S S (gd (fr S 21 t)) (1 : Int32) (fi S 6 a) (fl S 8 b_3) (fl S 5 (gd (fr S 13 a)))) 8 b_3) (fr (add_S S (gd (fr S 21 t)) (1 : Int32) (fi S 6 a) (fl S 8 b_3) (fl S 5 (gd (fr S 13 a)))) 12 b_3)) 11 b_3)) dp rec) := sr.tr (sRel_perform hrr sr.1 kb_21)
      have k_t := m_22.k k_t (by decide)
      have k_a := m_22.k k_a (by decide)
      have k_b_3 := m_22.k k_b_3 (by decide)
      have kb_11 := m_22.k kb_11 (by decide)
      have kb_13 := m_22.k kb_13 (by decide)
      have kb_21 := m_22.k kb_21 (by decide)
      have kq_2 := fun b h => m_22.k (kq_2 b h) (by decide)
      have kq_8 := fun b h => m_22.k (kq_8 b h) (by decide)
      have kq_9 := fun b h => m_22.k (kq_9 b h) (by decide)
      have kq_16 := fun b h => m_22.k (kq_16 b h) (by decide)
      have kq_19 := fun b h => m_22.k (kq_19 b h) (by decide)
      have mo := mo.tr m_22
      refine W.tight (k := hz (perform_S (goOn_S (add_S S (gd (fr S 21 t)) (1 : Int32) (fi S 6 a) (fl S 8 b_3) (fl S 5 (gd (fr S 13 a)))) a (fl (add_S S (gd (fr S 21 t)) (1 : Int32) (fi S 6 a) (fl S 8 b_3) (fl S 5 (gd (fr S 13 a)))) 8 b_3) (fr (add_S S (gd (fr S 21 t)) (1 : Int32) (fi S 6 a) (fl S 8 b_3) (fl S 5 (gd (fr S 13 a)))) 12 b_3)) t (gd (fr (goOn_S (add_S S (gd (fr S 21 t)) (1 : Int32) (fi S 6 a) (fl S 8 b_3) (fl S 5 (gd (fr S 13 a)))) a (fl (add_S S (gd (fr S 21 t)) (1 : Int32) (fi S 6 a) (fl S 8 b_3) (fl S 5 (gd (fr S 13 a)))) 8 b_3) (fr (add_S S (gd (fr S 21 t)) (1 : Int32) (fi S 6 a) (fl S 8 b_3) (fl S 5 (gd (fr S 13 a)))) 12 b_3)) 11 b_3)) dp rec) - hz S) (n := tz (perform_S (goOn_S (add_S S (gd (fr S 21 t)) (1 : Int32) (fi S 6 a) (fl S 8 b_3) (fl S 5 (gd (fr S 13 a)))) a (fl (add_S S (gd (fr S 21 t)) (1 : Int32) (fi S 6 a) (fl S 8 b_3) (fl S 5 (gd (fr S 13 a)))) 8 b_3) (fr (add_S S (gd (fr S 21 t)) (1 : Int32) (fi S 6 a) (fl S 8 b_3) (fl S 5 (gd (fr S 13 a)))) 12 b_3)) t (gd (fr (goOn_S (add_S S (gd (fr S 21 t)) (1 : Int32) (fi S 6 a) (fl S 8 b_3) (fl S 5 (gd (fr S 13 a)))) a (fl (add_S S (gd (fr S 21 t)) (1 : Int32) (fi S 6 a) (fl S 8 b_3) (fl S 5 (gd (fr S 13 a)))) 8 b_3) (fr (add_S S (gd (fr S 21 t)) (1 : Int32) (fi S 6 a) (fl S 8 b_3) (fl S 5 (gd (fr S 13 a)))) 12 b_3)) 11 b_3)) dp rec) - tz S) (by rw [hW.z, hsz]; have := sr.2.2.1.1; omega) (by rw [hW.t, ht0]; have := sr.2.2.1.2; omega) ?_
      have nnp_23 : nn (perform_S (goOn_S (add_S S (gd (fr S 21 t)) (1 : Int32) (fi S 6 a) (fl S 8 b_3) (fl S 5 (gd (fr S 13 a)))) a (fl (add_S S (gd (fr S 21 t)) (1 : Int32) (fi S 6 a) (fl S 8 b_3) (fl S 5 (gd (fr S 13 a)))) 8 b_3) (fr (add_S S (gd (fr S 21 t)) (1 : Int32) (fi S 6 a) (fl S 8 b_3) (fl S 5 (gd (fr S 13 a)))) 12 b_3)) t (gd (fr (goOn_S (add_S S (gd (fr S 21 t)) (1 : Int32) (fi S 6 a) (fl S 8 b_3) (fl S 5 (gd (fr S 13 a)))) a (fl (add_S S (gd (fr S 21 t)) (1 : Int32) (fi S 6 a) (fl S 8 b_3) (fl S 5 (gd (fr S 13 a)))) 8 b_3) (fr (add_S S (gd (fr S 21 t)) (1 : Int32) (fi S 6 a) (fl S 8 b_3) (fl S 5 (gd (fr S 13 a)))) 12 b_3)) 11 b_3)) dp rec) := sr.1.2.2.1
      refine lv_aload_n hx hb dAT_goThrough_82 rfl (lv_at hl 2 rfl) ?_
      exact e_q (r := some a) hsz hx hb hr hlk hW (mo) (by show _ ≤ phi S t; have z1 := sr.2.1; have z2 := sr.2.2.1; omega) (by show _ ≤ psi S t; have z1 := sr.2.1; have z2 := sr.2.2.1; omega) dAT_goThrough_83 ⟨(by refine Eq.symm ?_; refine (if_neg c_1).trans ?_; refine (op_some n_3).trans ?_; rfl), (by refine Eq.symm ?_; refine (if_neg c_1).trans ?_; refine (op_some n_3).trans ?_; rfl)⟩
  · refine lv_aload_n hx hb dAT_goThrough_7 rfl (lv_at hl 1 rfl) ?_
    refine lv_iconst (v := (1 : Int32)) hx hb dAT_goThrough_8 (by decide) ?_
    refine p_i FAT_257 GTable_begun (fun h => by cases h) hx hb hts hown hW k_a rfl rfl dAT_goThrough_9 (fun H locs hW => ?_)
    have mo := mo.tr (mono_sfi (k := 9) (a := a) (v := (1 : Int32)))
    have sr : sRel t S (sfi S 9 a (1 : Int32)) := sr.tr (sRel_sfi (by decide) sr.1)
    refine W.tight (k := hz (sfi S 9 a (1 : Int32)) - hz S) (n := tz (sfi S 9 a (1 : Int32)) - tz S) (by rw [hW.z, hsz]; have := sr.2.2.1.1; omega) (by rw [hW.t, ht0]; have := sr.2.2.1.2; omega) ?_
    have nnp_24 : nn (sfi S 9 a (1 : Int32)) := nn_sfi hi.2.2.1
    refine lv_aload_n hx hb dAT_goThrough_12 rfl (lv_at hl 1 rfl) ?_
    refine lv_lconst (v := (0 : Int64)) hx hb dAT_goThrough_13 (by decide) ?_
    refine lv_aload_n hx hb dAT_goThrough_14 rfl (lv_at hl 1 rfl) ?_
    have kq_25 : ∀ b, fr S 14 a = some b → kd (sfi S 9 a (1 : Int32)) b = 6 := fun b h => hW.ok.2.1 14 a b k_a h
    refine g_q FAT_260 hx hb hts hown hW k_a dAT_goThrough_15 ?_
    rw [show fr (sfi S 9 a (1 : Int32)) 14 a = fr S 14 a from rfl]
    refine k_Vv (As := [.long (0 : Int64), va_rf (fr S 14 a)]) (rest := []) (c_goOn l D AC (sfi S 9 a (1 : Int32)) a (0 : Int64) (fr S 14 a) k_a kq_25 sr.1.2.2.1) CAT_264 ⟨by decide, by decide, _, rfl, rfl⟩ hx hb hml hown hts hW k_a hl.1 rfl rfl (Nat.le_of_ble_eq_true rfl) ⟨⟨by show _ ≤ (11 + 5 * k); omega, by show _ ≤ (245 + 92 * k); omega⟩, ⟨by show _ ≤ phi S t; have z1 := sr.2.1; have z2 := sr.2.2.1; omega, by show _ ≤ psi S t; have z1 := sr.2.1; have z2 := sr.2.2.1; omega⟩⟩ dAT_goThrough_18 (fun S_26 H locs e_26 hW m_26 _ => ?_)
    rw [e_26] at hW m_26
    have sr : sRel t S (goOn_S (sfi S 9 a (1 : Int32)) a (0 : Int64) (fr S 14 a)) := sr.tr (sRel_goOn sr.1 kq_25)
    have k_t := m_26.k k_t (by decide)
    have k_a := m_26.k k_a (by decide)
    have kq_25 := fun b h => m_26.k (kq_25 b h) (by decide)
    have mo := mo.tr m_26
    refine W.tight (k := hz (goOn_S (sfi S 9 a (1 : Int32)) a (0 : Int64) (fr S 14 a)) - hz S) (n := tz (goOn_S (sfi S 9 a (1 : Int32)) a (0 : Int64) (fr S 14 a)) - tz S) (by rw [hW.z, hsz]; have := sr.2.2.1.1; omega) (by rw [hW.t, ht0]; have := sr.2.2.1.2; omega) ?_
    have nnp_27 : nn (goOn_S (sfi S 9 a (1 : Int32)) a (0 : Int64) (fr S 14 a)) := sr.1.2.2.1
    refine lv_aload_n hx hb dAT_goThrough_21 rfl (lv_at hl 1 rfl) ?_
    exact e_q (r := some a) hsz hx hb hr hlk hW (mo) (by show _ ≤ phi S t; have z1 := sr.2.1; have z2 := sr.2.2.1; omega) (by show _ ≤ psi S t; have z1 := sr.2.1; have z2 := sr.2.2.1; omega) dAT_goThrough_22 ⟨(by refine Eq.symm ?_; refine (if_pos c_1).trans ?_; rfl), (by refine Eq.symm ?_; refine (if_pos c_1).trans ?_; rfl)⟩

theorem sRel_goThrough {S : HS} {t a : Nat} {dp : Int32} {rec : HS → Nat → HS} (hrr : ∀ S1 c1, sInv S1 t → kd S1 c1 = 3 → sRel t S1 (rec S1 c1)) (h : sInv S t) (k_a : kd S a = 7) : sRel t S (goThrough_S S t a dp rec) := by
  unfold goThrough_S
  refine ite_P (P := sRel t S) ?_ (opc_P (P := sRel t S) (fun _ => sRel_giveOver h k_a) (fun b hb => ?_))
  · have s1 : sRel t S (sfi S 9 a 1) := sRel_sfi (by decide) h
    exact s1.tr (sRel_goOn s1.1 (fun b hb => h.1.1.2.1 14 a b k_a hb))
  · have k_b : kd S b = 6 := h.1.1.2.1 15 a b k_a hb
    have sA : sRel t S (add_S S (gd (fr S 21 t)) (1 : Int32) (fi S 6 a) (fl S 8 b) (fl S 5 (gd (fr S 13 a)))) := sRel_add h
    generalize add_S S (gd (fr S 21 t)) (1 : Int32) (fi S 6 a) (fl S 8 b) (fl S 5 (gd (fr S 13 a))) = S1 at sA
    have kb1 := sA.2.2.2.2.k k_b (by decide)
    have s2 : sRel t S (goOn_S S1 a (fl S1 8 b) (fr S1 12 b)) := sA.tr (sRel_goOn sA.1 (fun z hz => sA.1.1.1.2.1 12 b z kb1 hz))
    generalize goOn_S S1 a (fl S1 8 b) (fr S1 12 b) = S2 at s2
    exact s2.tr (sRel_perform hrr s2.1 (nn_get s2.1.1.1 s2.1.2.2.1 rfl (s2.2.2.2.2.k k_b (by decide))))
theorem goThrough_kd {S : HS} {t a : Nat} {dp : Int32} {rec : HS → Nat → HS} (hrr : ∀ S1 c1, sInv S1 t → kd S1 c1 = 3 → sRel t S1 (rec S1 c1)) (h : sInv S t) (k_a : kd S a = 7) : ∀ b, goThrough_R S t a dp rec = some b → kd (goThrough_S S t a dp rec) b = 7 := by
  intro b hb
  have s1 := (sRel_goThrough (dp := dp) hrr h k_a).2.2.2.2
  unfold goThrough_R at hb
  by_cases c : fi S 9 a = 0
  · rw [if_pos c] at hb
    cases hb
    exact s1.k k_a (by decide)
  · rw [if_neg c] at hb
    cases ho : fr S 15 a with
    | none =>
      rw [op_none ho] at hb
      have e : goThrough_S S t a dp rec = giveOver_S S t a := (if_neg c).trans (op_none ho)
      rw [e]
      exact giveOver_kd h k_a b hb
    | some x =>
      rw [op_some ho] at hb
      cases hb
      exact s1.k k_a (by decide)
/-- what a table goes through in one step: at most so many things -/
def ttL (t : Nat) (dp : Int32) (rec : HS → Nat → HS) : Nat → HS → Option Nat → HS
  | 0, S, _ => S
  | n + 1, S, o => opc o S (fun b => if fl S 10 b = fl S 6 (gd (fr S 13 b)) then ttL t dp rec n (goThrough_S S t b dp rec) (goThrough_R S t b dp rec) else S)
def takeTableTurn_S (S : HS) (t a : Nat) (dp : Int32) (rec : HS → Nat → HS) : HS :=
  if fi S 8 a = 0 then S else if fl S 10 a = fl S 6 (gd (fr S 13 a)) then ttL t dp rec 8 S (some a) else wakeAt_S S (gd (fr S 13 a)) (fl S 10 a)
theorem sRel_ttL {t : Nat} {dp : Int32} {rec : HS → Nat → HS} (hrr : ∀ S1 c1, sInv S1 t → kd S1 c1 = 3 → sRel t S1 (rec S1 c1)) : ∀ (n : Nat) (S : HS) (o : Option Nat), sInv S t → (∀ b, o = some b → kd S b = 7) → sRel t S (ttL t dp rec n S o)
  | 0, S, _, h, _ => sRel.rf h
  | n + 1, S, o, h, ho => by
    unfold ttL
    refine opc_P (P := sRel t S) (fun _ => sRel.rf h) (fun b hb => ite_P (P := sRel t S) ?_ (sRel.rf h))
    have s1 := sRel_goThrough (dp := dp) hrr h (ho b hb)
    exact s1.tr (sRel_ttL hrr n _ _ s1.1 (goThrough_kd hrr h (ho b hb)))
theorem sRel_takeTableTurn {S : HS} {t a : Nat} {dp : Int32} {rec : HS → Nat → HS} (hrr : ∀ S1 c1, sInv S1 t → kd S1 c1 = 3 → sRel t S1 (rec S1 c1)) (h : sInv S t) (k_a : kd S a = 7) : sRel t S (takeTableTurn_S S t a dp rec) := by
  unfold takeTableTurn_S
  exact ite_P (P := sRel t S) (sRel.rf h) (ite_P (P := sRel t S) (sRel_ttL hrr 8 S _ h (fun b hb => by cases hb; exact k_a)) (sRel_wakeAt h))

set_option maxRecDepth 20000 in
set_option maxHeartbeats 2000000 in
theorem c_takeTableTurn (l : Launch) (D : va_G) (AC : Nat → ClassId) (S : HS) (t a : Nat) (dp : Int32) (rec : HS → Nat → HS) (k : Nat) (k_t : kd S t = 8) (k_a : kd S a = 7) (hi : sInv S t) (hrec : ¬ (20 : Int32) ≤ dp → ∀ S1 c1, sInv S1 t → kd S1 c1 = 3 → CtV l yAT_makeStep (Cond.code yAT_makeStep cAT_makeStep 4 none :: wT) (8 + 5 * k) (200 + 92 * k) D AC S1 [.ref t, .ref c1, .int (dp + 1)] (phi S1 t) (psi S1 t) (fun S2 => S2 = rec S1 c1)) (hrr : ∀ S1 c1, sInv S1 t → kd S1 c1 = 3 → sRel t S1 (rec S1 c1)) : CtV l yAT_takeTableTurn (Cond.code yAT_takeTableTurn cAT_takeTableTurn 5 none :: wT) (12 + 5 * k) (268 + 92 * k) D AC S [.ref t, .ref a, .int dp] (phi S t) (psi S t) (fun S' => S' = takeTableTurn_S S t a dp rec) := by
  refine met_of (by decide) (Nat.le_of_ble_eq_true rfl) ?_
  intro p e s m below meth c ls hsz X hW hl
  obtain ⟨hx, hb, hml, hr, hlk, hown, hnm, hts⟩ := X
  have mo : mono S S := mono.rf S
  have hl : lv_has ls 5 [(0, .ref t), (1, .ref a), (2, .int dp)] := hl
  have sr : sRel t S S := sRel.rf hi
  have ht0 := hW.t
  have loop : ∀ (n j : Nat) (S1 : HS) (ob : Option Nat), j + n = 8 → (∀ b, ob = some b → kd S1 b = 7) → kd S1 t = 8 → ttL t dp rec n S1 ob = takeTableTurn_S S t a dp rec → sRel t S S1 → mono S S1 → ∀ H locs, Wd D AC (AS (hL S) s.heap.size) s s.heap H locs S1 → ∀ ls, lv_has ls 5 [(0, .ref t), (2, .int dp), (3, va_rf ob), (4, .int (nI j))] → W p l e (rmOf (12 + 5 * k) (phi S t) (psi S t) (268 + 92 * k)) s m ([.ref t, .ref a, .int dp] : List Value).toArray below meth c H locs (hz S1 - hz S) (tz S1 - tz S) (MQ below (va_Qv (fun S' => S' = takeTableTurn_S S t a dp rec) (CB D AC S) (AS (hL S) (hz S))) ([.ref t, .ref a, .int dp] : List Value).toArray s (phi S t) (psi S t) (AS (hL S) (hz S))) (F0 m 40 ls []) := by
    intro n
    induction n with
    | zero =>
      intro j S1 ob hj kq_ob k_t hv sr mo H locs hW ls hl
      have nnp_101 : nn S1 := sr.1.2.2.1
      refine lv_iload hx hb dAT_takeTableTurn_40 (lv_at hl 3 rfl) ?_
      refine lv_bipush (v := (8 : Int32)) hx hb dAT_takeTableTurn_42 (by decide) ?_
      refine lv_icmp_ge (tgt := 79) hx hb dAT_takeTableTurn_44 (by decide) (fun c_102 => ?_) (fun c_102 => ?_)
      · exact e_v hsz hx hb hr hlk hW mo (by show _ ≤ phi S t; have z1 := sr.2.1; have z2 := sr.2.2.1; omega) (by show _ ≤ psi S t; have z1 := sr.2.1; have z2 := sr.2.2.1; omega) dAT_takeTableTurn_79 hv
      · exact absurd (by rw [show j = 8 by omega]; decide) c_102
    | succ n ih =>
      intro j S1 ob hj kq_ob k_t hv sr mo H locs hW ls hl
      have nnp_101 : nn S1 := sr.1.2.2.1
      refine lv_iload hx hb dAT_takeTableTurn_40 (lv_at hl 3 rfl) ?_
      refine lv_bipush (v := (8 : Int32)) hx hb dAT_takeTableTurn_42 (by decide) ?_
      refine lv_icmp_ge (tgt := 79) hx hb dAT_takeTableTurn_44 (by decide) (fun c_102 => ?_) (fun c_102 => ?_)
      · exact absurd c_102 (by rw [show (8 : Int32) = nI 8 from rfl, nI_leI (by decide) (by omega)]; omega)
      · refine q_aload_n hx hb dAT_takeTableTurn_47 rfl (lv_at hl 2 rfl) ?_
        refine q_ifnull (tgt := 79) hx hb dAT_takeTableTurn_48 (by decide) (fun n_103 => ?_) (fun b_103 n_103 => ?_)
        · exact e_v hsz hx hb hr hlk hW mo (by show _ ≤ phi S t; have z1 := sr.2.1; have z2 := sr.2.2.1; omega) (by show _ ≤ psi S t; have z1 := sr.2.1; have z2 := sr.2.2.1; omega) dAT_takeTableTurn_79 ((by refine Eq.symm ?_; refine (op_none n_103).trans ?_; rfl : S1 = ttL t dp rec (n + 1) S1 ob).trans hv)
        · have k_b_103 : kd S1 b_103 = 7 := kq_ob b_103 n_103
          refine q_aload_n hx hb dAT_takeTableTurn_51 rfl (lv_at hl 2 rfl) ?_
          refine q_some n_103 ?_
          refine g_l FAT_160 hx hb hts hown hW k_b_103 dAT_takeTableTurn_52 ?_
          refine q_aload_n hx hb dAT_takeTableTurn_55 rfl (lv_at hl 2 rfl) ?_
          refine q_some n_103 ?_
          have kq_104 : ∀ b, fr S1 13 b_103 = some b → kd S1 b = 3 := fun b h => hW.ok.2.1 13 b_103 b k_b_103 h
          refine g_q FAT_138 hx hb hts hown hW k_b_103 dAT_takeTableTurn_56 ?_
          have n_105 : fr S1 13 b_103 = some (gd (fr S1 13 b_103)) := gd_some (nnp_101 13 b_103 rfl k_b_103)
          have kb_106 : kd S1 (gd (fr S1 13 b_103)) = 3 := kq_104 (gd (fr S1 13 b_103)) n_105
          refine q_some n_105 ?_
          refine g_l FAT_154 hx hb hts hown hW kb_106 dAT_takeTableTurn_59 ?_
          refine ll_ne (tgt := 79) hx hb dAT_takeTableTurn_62 dAT_takeTableTurn_63 (by decide) (fun c_107 => ?_) (fun c_107 => ?_)
          · exact e_v hsz hx hb hr hlk hW mo (by show _ ≤ phi S t; have z1 := sr.2.1; have z2 := sr.2.2.1; omega) (by show _ ≤ psi S t; have z1 := sr.2.1; have z2 := sr.2.2.1; omega) dAT_takeTableTurn_79 ((by refine Eq.symm ?_; refine (op_some n_103).trans ?_; refine (if_neg c_107).trans ?_; rfl : S1 = ttL t dp rec (n + 1) S1 ob).trans hv)
          · refine lv_aload_n hx hb dAT_takeTableTurn_66 rfl (lv_at hl 0 rfl) ?_
            refine q_aload_n hx hb dAT_takeTableTurn_67 rfl (lv_at hl 2 rfl) ?_
            refine lv_iload_n hx hb dAT_takeTableTurn_68 rfl (lv_at hl 1 rfl) ?_
            refine q_some1 n_103 ?_
            have si_108 : sInv S1 t := sr.1
            have ka_108 := k_b_103
            refine k_Vq (As := [.ref b_103, .int dp]) (rest := []) (c_goThrough l D AC S1 t b_103 dp rec k k_t k_b_103 sr.1 hrec hrr) CAT_253 ⟨by decide, by decide, _, rfl, rfl⟩ hx hb hml hown hts hW k_t hl.1 rfl rfl (Nat.le_of_ble_eq_true rfl) ⟨⟨by show _ ≤ (12 + 5 * k); omega, by show _ ≤ (268 + 92 * k); omega⟩, ⟨by show _ ≤ phi S t; have z1 := sr.2.1; have z2 := sr.2.2.1; omega, by show _ ≤ psi S t; have z1 := sr.2.1; have z2 := sr.2.2.1; omega⟩⟩ dAT_takeTableTurn_69 (fun r_109 S_109 H locs e_109 hW m_109 _ => ?_)
            obtain ⟨e1_109, e2_109⟩ := e_109
            rw [e2_109] at hW m_109
            rw [e1_109]
            have sr : sRel t S (goThrough_S S1 t b_103 dp rec) := sr.tr (sRel_goThrough hrr sr.1 k_b_103)
            have k_t := m_109.k k_t (by decide)
            have k_b_103 := m_109.k k_b_103 (by decide)
            have kb_106 := m_109.k kb_106 (by decide)
            have kq_ob := fun b h => m_109.k (kq_ob b h) (by decide)
            have kq_104 := fun b h => m_109.k (kq_104 b h) (by decide)
            have mo := mo.tr m_109
            refine W.tight (k := hz (goThrough_S S1 t b_103 dp rec) - hz S) (n := tz (goThrough_S S1 t b_103 dp rec) - tz S) (by rw [hW.z, hsz]; have := sr.2.2.1.1; omega) (by rw [hW.t, ht0]; have := sr.2.2.1.2; omega) ?_
            have nnp_110 : nn (goThrough_S S1 t b_103 dp rec) := sr.1.2.2.1
            have kq_111 : ∀ b, (goThrough_R S1 t b_103 dp rec) = some b → kd (goThrough_S S1 t b_103 dp rec) b = 7 := goThrough_kd hrr si_108 ka_108
            refine q_astore_n (i := 3) (lv' := [(3, va_rf (goThrough_R S1 t b_103 dp rec)), (0, .ref t), (2, .int dp), (4, .int (nI j))]) hx hb dAT_takeTableTurn_72 rfl hl (by decide) rfl (fun ls hl => ?_)
            refine lv_iinc (v := ((nI j) + (1 : Int32))) (lv' := [(4, .int ((nI j) + (1 : Int32))), (3, va_rf (goThrough_R S1 t b_103 dp rec)), (0, .ref t), (2, .int dp)]) hx hb dAT_takeTableTurn_73 hl (k := 3) rfl rfl (by decide) (by simp [q_cat, cat_r, cat_i, cat_l, cat_n]) (fun ls hl => ?_)
            refine lv_goto (tgt := 40) hx hb dAT_takeTableTurn_76 (by decide) ?_
            exact ih (j + 1) (goThrough_S S1 t b_103 dp rec) (goThrough_R S1 t b_103 dp rec) (by omega) kq_111 k_t ((by refine Eq.symm ?_; refine (op_some n_103).trans ?_; refine (if_pos c_107).trans ?_; rfl : ttL t dp rec n (goThrough_S S1 t b_103 dp rec) (goThrough_R S1 t b_103 dp rec) = ttL t dp rec (n + 1) S1 ob).trans hv) sr mo H locs hW ls (by rw [← nI_1]; exact (lv_sub hl [2, 3, 1, 0] rfl))
  refine lv_aload_n hx hb dAT_takeTableTurn_0 rfl (lv_at hl 1 rfl) ?_
  refine g_i FAT_131 hx hb hts hown hW k_a dAT_takeTableTurn_1 ?_
  refine lv_if_ne (tgt := 8) hx hb dAT_takeTableTurn_4 (by decide) (fun c_1 => ?_) (fun c_1 => ?_)
  · refine lv_aload_n hx hb dAT_takeTableTurn_8 rfl (lv_at hl 1 rfl) ?_
    refine g_l FAT_160 hx hb hts hown hW k_a dAT_takeTableTurn_9 ?_
    refine lv_aload_n hx hb dAT_takeTableTurn_12 rfl (lv_at hl 1 rfl) ?_
    have kq_2 : ∀ b, fr S 13 a = some b → kd S b = 3 := fun b h => hW.ok.2.1 13 a b k_a h
    refine g_q FAT_138 hx hb hts hown hW k_a dAT_takeTableTurn_13 ?_
    have n_3 : fr S 13 a = some (gd (fr S 13 a)) := gd_some (hi.2.2.1 13 a rfl k_a)
    have kb_4 : kd S (gd (fr S 13 a)) = 3 := kq_2 (gd (fr S 13 a)) n_3
    refine q_some n_3 ?_
    refine g_l FAT_154 hx hb hts hown hW kb_4 dAT_takeTableTurn_16 ?_
    refine ll_eq (tgt := 35) hx hb dAT_takeTableTurn_19 dAT_takeTableTurn_20 (by decide) (fun c_5 => ?_) (fun c_5 => ?_)
    · refine lv_aload_n hx hb dAT_takeTableTurn_35 rfl (lv_at hl 1 rfl) ?_
      refine lv_astore_n (i := 3) (lv' := [(3, .ref a), (0, .ref t), (1, .ref a), (2, .int dp)]) hx hb dAT_takeTableTurn_36 rfl hl (by decide) rfl (fun ls hl => ?_)
      refine lv_iconst (v := (0 : Int32)) hx hb dAT_takeTableTurn_37 (by decide) ?_
      refine lv_istore (lv' := [(4, .int (0 : Int32)), (3, .ref a), (0, .ref t), (1, .ref a), (2, .int dp)]) hx hb dAT_takeTableTurn_38 hl (by decide) rfl (fun ls hl => ?_)
      refine W.tight (k := hz S - hz S) (n := tz S - tz S) (Nat.le_add_right _ _) (Nat.le_add_right _ _) ?_
      exact loop 8 0 S (some a) (by omega) (fun b h => by cases h; exact k_a) k_t (by refine Eq.symm ?_; refine (if_neg c_1).trans ?_; refine (if_pos c_5).trans ?_; rfl) sr mo _ _ hW ls (lv_sub hl [2, 4, 1, 0] rfl)
    · refine lv_aload_n hx hb dAT_takeTableTurn_23 rfl (lv_at hl 1 rfl) ?_
      refine g_q FAT_138 hx hb hts hown hW k_a dAT_takeTableTurn_24 ?_
      refine lv_aload_n hx hb dAT_takeTableTurn_27 rfl (lv_at hl 1 rfl) ?_
      refine g_l FAT_160 hx hb hts hown hW k_a dAT_takeTableTurn_28 ?_
      refine q_some1 n_3 ?_
      refine k_Vv (As := [.long (fl S 10 a)]) (rest := []) (c_wakeAt l D AC S (gd (fr S 13 a)) (fl S 10 a) kb_4) CAT_163 ⟨by decide, by decide, _, rfl, rfl⟩ hx hb hml hown hts hW kb_4 hl.1 rfl rfl (Nat.le_of_ble_eq_true rfl) ⟨⟨by show _ ≤ (12 + 5 * k); omega, by show _ ≤ (268 + 92 * k); omega⟩, ⟨by show _ ≤ phi S t; have z1 := sr.2.1; have z2 := sr.2.2.1; omega, by show _ ≤ psi S t; have z1 := sr.2.1; have z2 := sr.2.2.1; omega⟩⟩ dAT_takeTableTurn_31 (fun S_6 H locs e_6 hW m_6 _ => ?_)
      rw [e_6] at hW m_6
      have sr : sRel t S (wakeAt_S S (gd (fr S 13 a)) (fl S 10 a)) := sr.tr (sRel_wakeAt sr.1)
      have k_t := m_6.k k_t (by decide)
      have k_a := m_6.k k_a (by decide)
      have kb_4 := m_6.k kb_4 (by decide)
      have kq_2 := fun b h => m_6.k (kq_2 b h) (by decide)
      have mo := mo.tr m_6
      refine W.tight (k := hz (wakeAt_S S (gd (fr S 13 a)) (fl S 10 a)) - hz S) (n := tz (wakeAt_S S (gd (fr S 13 a)) (fl S 10 a)) - tz S) (by rw [hW.z, hsz]; have := sr.2.2.1.1; omega) (by rw [hW.t, ht0]; have := sr.2.2.1.2; omega) ?_
      have nnp_7 : nn (wakeAt_S S (gd (fr S 13 a)) (fl S 10 a)) := sr.1.2.2.1
      exact e_v hsz hx hb hr hlk hW (mo) (by show _ ≤ phi S t; have z1 := sr.2.1; have z2 := sr.2.2.1; omega) (by show _ ≤ psi S t; have z1 := sr.2.1; have z2 := sr.2.2.1; omega) dAT_takeTableTurn_34 ((by refine Eq.symm ?_; refine (if_neg c_1).trans ?_; refine (if_neg c_5).trans ?_; rfl))
  · exact e_v hsz hx hb hr hlk hW (mo) (by show _ ≤ phi S t; have z1 := sr.2.1; have z2 := sr.2.2.1; omega) (by show _ ≤ psi S t; have z1 := sr.2.1; have z2 := sr.2.2.1; omega) dAT_takeTableTurn_7 ((by refine Eq.symm ?_; refine (if_pos c_1).trans ?_; rfl))
