noncomputable def stF (t : Nat) : Nat → HS → Nat → HS
  | 0, S, _ => S
  | k + 1, S, c => makeStep_S S t c (nI (20 - k)) (stF t k)
theorem sRel_stF (t : Nat) : ∀ (k : Nat) (S : HS) (c : Nat), sInv S t → kd S c = 3 → sRel t S (stF t k S c)
  | 0, _, _, h, _ => sRel.rf h
  | k + 1, _, _, h, kc => sRel_makeStep (dp := nI (20 - k)) (fun S1 c1 => sRel_stF t k S1 c1) h kc
theorem c_stF (l : Launch) (D : va_G) (AC : Nat → ClassId) (t : Nat) : ∀ (k : Nat), k ≤ 19 → ∀ (S : HS) (c : Nat), sInv S t → kd S c = 3 → CtV l yAT_makeStep (Cond.code yAT_makeStep cAT_makeStep 4 none :: wT) (8 + 5 * (k + 1)) (200 + 92 * (k + 1)) D AC S [.ref t, .ref c, .int (nI (20 - k))] (phi S t) (psi S t) (fun S2 => S2 = stF t (k + 1) S c)
  | 0, _, S, c, h, kc => c_makeStep l D AC S t c (nI 20) (stF t 0) 0 h.2.1 kc h (fun q => absurd (show (20 : Int32) ≤ nI 20 by decide) q) (fun S1 c1 => sRel_stF t 0 S1 c1)
  | k + 1, hk, S, c, h, kc => by
    have e1 : 8 + 5 * (k + 1 + 1) = 13 + 5 * (k + 1) := by omega
    have e2 : 200 + 92 * (k + 1 + 1) = 292 + 92 * (k + 1) := by omega
    rw [e1, e2]
    refine c_makeStep l D AC S t c (nI (20 - (k + 1))) (stF t (k + 1)) (k + 1) h.2.1 kc h (fun _ S1 c1 h1 kc1 => ?_) (fun S1 c1 => sRel_stF t (k + 1) S1 c1)
    have e3 : nI (20 - (k + 1)) + 1 = nI (20 - k) := by rw [nI_1]; congr 1; omega
    rw [e3]
    exact c_stF l D AC t k (by omega) S1 c1 h1 kc1
theorem lN_ltD {d : Int64} {j : Nat} (hd : ¬ (5000 : Int64) < d) (hj : j ≤ d.toNatClampNeg) : (lN j < d ↔ j < d.toNatClampNeg) := by
  have h1 : (5000 : Int64).toInt = 5000 := by decide
  rw [Int64.lt_iff_toInt_lt, h1] at hd
  have h2 : d.toNatClampNeg = d.toInt.toNat := rfl
  rw [h2] at hj ⊢
  rw [Int64.lt_iff_toInt_lt, lN_toInt (by omega)]
  omega
theorem ne0_of {x : Int64} (h : ¬ x < (1 : Int64)) : ¬ x = 0 := fun e => h (by rw [e]; decide)
noncomputable def tkL (t c : Nat) : Nat → HS → HS
  | 0, S => S
  | n + 1, S => tkL t c n (stF t 20 S c)
theorem sRel_tkL {t c : Nat} : ∀ (n : Nat) (S : HS), sInv S t → kd S c = 3 → sRel t S (tkL t c n S)
  | 0, _, h, _ => sRel.rf h
  | n + 1, S, h, kc => by
    have s1 := sRel_stF t 20 S c h kc
    exact s1.tr (sRel_tkL n _ s1.1 (s1.2.2.2.2.k kc (by decide)))
abbrev tkD (S : HS) (c : Nat) (x : Int64) : Int64 := (fl S 4 c + x) / fl S 3 c
noncomputable def tick_S (S : HS) (t : Nat) (n : Int32) (x : Int64) : HS :=
  opc (findCounter_R S t n) S (fun c => if x < (0 : Int64) then S else if (100000 : Int64) < x then S else if fl S 3 c < (1 : Int64) then S else if (5000 : Int64) < tkD S c x then S else
    tkL t c (tkD S c x).toNatClampNeg (sfi (sfl S 4 c ((fl S 4 c + x) - tkD S c x * fl S 3 c)) 13 t 0))
noncomputable def tick_R (S : HS) (t : Nat) (n : Int32) (x : Int64) : Int32 :=
  opc (findCounter_R S t n) (-1) (fun c => if x < (0 : Int64) then -2 else if (100000 : Int64) < x then -2 else if fl S 3 c < (1 : Int64) then -2 else if (5000 : Int64) < tkD S c x then -2 else
    fi (tick_S S t n x) 5 (gd (fr (tick_S S t n x) 21 t)) - fi S 5 (gd (fr S 21 t)))
theorem sRel_tick {S : HS} {t : Nat} {n : Int32} {x : Int64} (h : sInv S t) : sRel t S (tick_S S t n x) := by
  unfold tick_S
  refine opc_P (P := sRel t S) (fun _ => sRel.rf h) (fun c hc => ?_)
  have kc : kd S c = 3 := kq_findCounter h.1.1 h.2.1 h.2.2.1 n c hc
  refine ite_P (P := sRel t S) (sRel.rf h) (ite_P (P := sRel t S) (sRel.rf h) (ite_P (P := sRel t S) (sRel.rf h) (ite_P (P := sRel t S) (sRel.rf h) ?_)))
  have s1 : sRel t S (sfl S 4 c ((fl S 4 c + x) - tkD S c x * fl S 3 c)) := sRel_sfl h
  have s2 := s1.tr (sRel_sfi (k := 13) (a := t) (v := 0) (by decide) s1.1)
  exact s2.tr (sRel_tkL _ _ s2.1 (s2.2.2.2.2.k kc (by decide)))

set_option maxRecDepth 20000 in
set_option maxHeartbeats 2000000 in
theorem c_tick (l : Launch) (D : va_G) (AC : Nat → ClassId) (S : HS) (t : Nat) (n : Int32) (x : Int64) (k_t : kd S t = 8) (hi : sInv S t) (ha : atOk S t) : CtI l yAT_tick (Cond.code yAT_tick cAT_tick 12 (some .int) :: wT) 109 2063 D AC S [.ref t, .int n, .long x] (phi S t) (psi S t) (fun r S' => r = tick_R S t n x ∧ S' = tick_S S t n x) := by
  refine met_of (by decide) (Nat.le_of_ble_eq_true rfl) ?_
  intro p e s m below meth c9 ls hsz X hW hl
  obtain ⟨hx, hb, hml, hr, hlk, hown, hnm, hts⟩ := X
  have mo : mono S S := mono.rf S
  have hl : lv_has ls 12 [(0, .ref t), (1, .int n), (2, .long x)] := hl
  have sr : sRel t S S := sRel.rf hi
  have ht0 := hW.t
  have loop : ∀ (c : Nat) (d : Int64) (bf : Int32), ¬ (5000 : Int64) < d → fi (tick_S S t n x) 5 (gd (fr (tick_S S t n x) 21 t)) - bf = tick_R S t n x → ∀ (k j : Nat) (S1 : HS), j + k = d.toNatClampNeg → kd S1 t = 8 → kd S1 c = 3 → tkL t c k S1 = tick_S S t n x → sRel t S S1 → mono S S1 → ∀ H locs, Wd D AC (AS (hL S) s.heap.size) s s.heap H locs S1 → ∀ ls, lv_has ls 12 [(0, .ref t), (4, .ref c), (7, .long d), (9, .int bf), (10, .long (lN j))] → W p l e (rmOf 109 (phi S t) (psi S t) 2063) s m ([.ref t, .int n, .long x] : List Value).toArray below meth c9 H locs (hz S1 - hz S) (tz S1 - tz S) (MQ below (va_Qi (fun r S' => r = tick_R S t n x ∧ S' = tick_S S t n x) (CB D AC S) (AS (hL S) (hz S))) ([.ref t, .int n, .long x] : List Value).toArray s (phi S t) (psi S t) (AS (hL S) (hz S))) (F0 m 102 ls []) := by
    intro c d bf hd hR k
    induction k with
    | zero =>
      intro j S1 hj k_t k_c hv sr mo H locs hW ls hl
      have nnp_101 : nn S1 := sr.1.2.2.1
      refine lv_lload hx hb dAT_tick_102 (lv_at hl 4 rfl) ?_
      refine lv_lload hx hb dAT_tick_104 (lv_at hl 2 rfl) ?_
      refine ll_ge (tgt := 126) hx hb dAT_tick_106 dAT_tick_107 (by decide) (fun c_102 => ?_) (fun c_102 => ?_)
      · refine lv_aload_n hx hb dAT_tick_126 rfl (lv_at hl 0 rfl) ?_
        have kq_103 : ∀ b, fr S1 21 t = some b → kd S1 b = 4 := fun b h => hW.ok.2.1 21 t b k_t h
        refine g_q FAT_30 hx hb hts hown hW k_t dAT_tick_127 ?_
        have n_104 : fr S1 21 t = some (gd (fr S1 21 t)) := gd_some (nnp_101 21 t rfl k_t)
        have kb_105 : kd S1 (gd (fr S1 21 t)) = 4 := kq_103 (gd (fr S1 21 t)) n_104
        refine q_some n_104 ?_
        refine g_i FAT_182 hx hb hts hown hW kb_105 dAT_tick_130 ?_
        refine lv_iload hx hb dAT_tick_133 (lv_at hl 3 rfl) ?_
        refine lv_isub hx hb dAT_tick_135 ?_
        exact e_i hsz hx hb hr hlk hW mo (by show _ ≤ phi S t; have z1 := sr.2.1; have z2 := sr.2.2.1; omega) (by show _ ≤ psi S t; have z1 := sr.2.1; have z2 := sr.2.2.1; omega) dAT_tick_136 ⟨by rw [← hR, ← hv]; rfl, hv⟩
      · exact absurd c_102 (fun q => by have q := (lN_ltD hd (by omega)).mp q; omega)
    | succ k ih =>
      intro j S1 hj k_t k_c hv sr mo H locs hW ls hl
      have nnp_101 : nn S1 := sr.1.2.2.1
      refine lv_lload hx hb dAT_tick_102 (lv_at hl 4 rfl) ?_
      refine lv_lload hx hb dAT_tick_104 (lv_at hl 2 rfl) ?_
      refine ll_ge (tgt := 126) hx hb dAT_tick_106 dAT_tick_107 (by decide) (fun c_102 => ?_) (fun c_102 => ?_)
      · exact absurd ((lN_ltD hd (by omega)).mpr (by omega)) c_102
      · refine lv_aload_n hx hb dAT_tick_110 rfl (lv_at hl 0 rfl) ?_
        refine lv_aload hx hb dAT_tick_111 (lv_at hl 1 rfl) ?_
        refine lv_iconst (v := (1 : Int32)) hx hb dAT_tick_113 (by decide) ?_
        refine k_Vv (As := [.ref c, .int (1 : Int32)]) (rest := []) (c_stF l D AC t 19 (by decide) S1 c sr.1 k_c) CAT_188 ⟨by decide, by decide, _, rfl, rfl⟩ hx hb hml hown hts hW k_t hl.1 rfl rfl (Nat.le_of_ble_eq_true rfl) ⟨⟨by show _ ≤ 109; omega, by show _ ≤ 2063; omega⟩, ⟨by show _ ≤ phi S t; have z1 := sr.2.1; have z2 := sr.2.2.1; omega, by show _ ≤ psi S t; have z1 := sr.2.1; have z2 := sr.2.2.1; omega⟩⟩ dAT_tick_114 (fun S_103 H locs e_103 hW m_103 _ => ?_)
        have e_103 : S_103 = (stF t 20 S1 c) := e_103
        rw [e_103] at hW m_103
        have sr : sRel t S (stF t 20 S1 c) := sr.tr (sRel_stF t 20 _ _ sr.1 k_c)
        have k_t := m_103.k k_t (by decide)
        have k_c := m_103.k k_c (by decide)
        have mo := mo.tr m_103
        refine W.tight (k := hz (stF t 20 S1 c) - hz S) (n := tz (stF t 20 S1 c) - tz S) (by rw [hW.z, hsz]; have := sr.2.2.1.1; omega) (by rw [hW.t, ht0]; have := sr.2.2.1.2; omega) ?_
        have nnp_104 : nn (stF t 20 S1 c) := sr.1.2.2.1
        refine lv_lload hx hb dAT_tick_117 (lv_at hl 4 rfl) ?_
        refine lv_lconst (v := (1 : Int64)) hx hb dAT_tick_119 (by decide) ?_
        refine lv_ladd hx hb dAT_tick_120 ?_
        refine lv_lstore (lv' := [(10, .long ((lN j) + (1 : Int64))), (0, .ref t), (4, .ref c), (7, .long d), (9, .int bf)]) hx hb dAT_tick_121 hl (by decide) rfl (fun ls hl => ?_)
        refine lv_goto (tgt := 102) hx hb dAT_tick_123 (by decide) ?_
        exact ih (j + 1) (stF t 20 S1 c) (by omega) k_t k_c hv sr mo H locs hW ls (by rw [← lN_1]; exact (lv_sub hl [1, 2, 3, 4, 0] rfl))
  refine lv_aload_n hx hb dAT_tick_0 rfl (lv_at hl 0 rfl) ?_
  refine lv_iload_n hx hb dAT_tick_1 rfl (lv_at hl 1 rfl) ?_
  refine k_Vq (As := [.int n]) (rest := []) (c_findCounter l D AC S t n k_t sr.1.2.2.1 ha) CAT_52 ⟨by decide, by decide, _, rfl, rfl⟩ hx hb hml hown hts hW k_t hl.1 rfl rfl (Nat.le_of_ble_eq_true rfl) ⟨⟨Nat.le_of_ble_eq_true rfl, Nat.le_of_ble_eq_true rfl⟩, ⟨by show _ ≤ phi S t; have z1 := sr.2.1; have z2 := sr.2.2.1; omega, by show _ ≤ psi S t; have z1 := sr.2.1; have z2 := sr.2.2.1; omega⟩⟩ dAT_tick_2 (fun r_1 S_1 H locs e_1 hW m_1 _ => ?_)
  obtain ⟨e1_1, e2_1⟩ := e_1
  rw [e2_1] at hW m_1
  rw [e1_1]
  have kq_2 : ∀ b, (findCounter_R S t n) = some b → kd S b = 3 := kq_findCounter hW.ok k_t hi.2.2.1 _
  refine q_astore (lv' := [(4, va_rf (findCounter_R S t n)), (0, .ref t), (1, .int n), (2, .long x)]) hx hb dAT_tick_5 hl (by decide) rfl (fun ls hl => ?_)
  refine q_aload hx hb dAT_tick_7 (lv_at hl 0 rfl) ?_
  refine q_ifnonnull (tgt := 14) hx hb dAT_tick_9 (by decide) (fun n_3 => ?_) (fun b_3 n_3 => ?_)
  · refine lv_iconst (v := (-1 : Int32)) hx hb dAT_tick_12 (by decide) ?_
    exact e_i hsz hx hb hr hlk hW (mo) (by show _ ≤ phi S t; have z1 := sr.2.1; have z2 := sr.2.2.1; omega) (by show _ ≤ psi S t; have z1 := sr.2.1; have z2 := sr.2.2.1; omega) dAT_tick_13 ⟨(by refine Eq.symm ?_; refine (op_none n_3).trans ?_; rfl), (by refine Eq.symm ?_; refine (op_none n_3).trans ?_; rfl)⟩
  · have k_b_3 : kd S b_3 = 3 := kq_2 b_3 n_3
    refine lv_lload_n hx hb dAT_tick_14 rfl (lv_at hl 3 rfl) ?_
    refine lv_lconst (v := (0 : Int64)) hx hb dAT_tick_15 (by decide) ?_
    refine ll_lt (tgt := 38) hx hb dAT_tick_16 dAT_tick_17 (by decide) (fun c_4 => ?_) (fun c_4 => ?_)
    · refine lv_bipush (v := (-2 : Int32)) hx hb dAT_tick_38 (by decide) ?_
      exact e_i hsz hx hb hr hlk hW (mo) (by show _ ≤ phi S t; have z1 := sr.2.1; have z2 := sr.2.2.1; omega) (by show _ ≤ psi S t; have z1 := sr.2.1; have z2 := sr.2.2.1; omega) dAT_tick_40 ⟨(by refine Eq.symm ?_; refine (op_some n_3).trans ?_; refine (if_pos c_4).trans ?_; rfl), (by refine Eq.symm ?_; refine (op_some n_3).trans ?_; refine (if_pos c_4).trans ?_; rfl)⟩
    · refine lv_lload_n hx hb dAT_tick_20 rfl (lv_at hl 3 rfl) ?_
      refine lv_ldc2 (v := (100000 : Int64)) hx hb hown (hts _ QAT_172) dAT_tick_21 ?_
      refine ll_gt (tgt := 38) hx hb dAT_tick_24 dAT_tick_25 (by decide) (fun c_5 => ?_) (fun c_5 => ?_)
      · refine lv_bipush (v := (-2 : Int32)) hx hb dAT_tick_38 (by decide) ?_
        exact e_i hsz hx hb hr hlk hW (mo) (by show _ ≤ phi S t; have z1 := sr.2.1; have z2 := sr.2.2.1; omega) (by show _ ≤ psi S t; have z1 := sr.2.1; have z2 := sr.2.2.1; omega) dAT_tick_40 ⟨(by refine Eq.symm ?_; refine (op_some n_3).trans ?_; refine (if_neg c_4).trans ?_; refine (if_pos c_5).trans ?_; rfl), (by refine Eq.symm ?_; refine (op_some n_3).trans ?_; refine (if_neg c_4).trans ?_; refine (if_pos c_5).trans ?_; rfl)⟩
      · refine q_aload hx hb dAT_tick_28 (lv_at hl 0 rfl) ?_
        refine q_some n_3 ?_
        refine g_l FAT_174 hx hb hts hown hW k_b_3 dAT_tick_30 ?_
        refine lv_lconst (v := (1 : Int64)) hx hb dAT_tick_33 (by decide) ?_
        refine ll_ge (tgt := 41) hx hb dAT_tick_34 dAT_tick_35 (by decide) (fun c_6 => ?_) (fun c_6 => ?_)
        · refine q_aload hx hb dAT_tick_41 (lv_at hl 0 rfl) ?_
          refine q_some n_3 ?_
          refine g_l FAT_177 hx hb hts hown hW k_b_3 dAT_tick_43 ?_
          refine lv_lload_n hx hb dAT_tick_46 rfl (lv_at hl 3 rfl) ?_
          refine lv_ladd hx hb dAT_tick_47 ?_
          refine lv_lstore (lv' := [(5, .long ((fl S 4 b_3) + x)), (4, va_rf (findCounter_R S t n)), (0, .ref t), (1, .int n), (2, .long x)]) hx hb dAT_tick_48 hl (by decide) (by simp [q_cat, cat_r, cat_i, cat_l, cat_n]) (fun ls hl => ?_)
          refine lv_lload hx hb dAT_tick_50 (lv_at hl 0 rfl) ?_
          refine q_aload hx hb dAT_tick_52 (lv_at hl 1 rfl) ?_
          refine q_some n_3 ?_
          refine g_l FAT_174 hx hb hts hown hW k_b_3 dAT_tick_54 ?_
          refine lv_ldiv hx hb dAT_tick_57 (ne0_of c_6) ?_
          refine lv_lstore (lv' := [(7, .long (((fl S 4 b_3) + x) / (fl S 3 b_3))), (5, .long ((fl S 4 b_3) + x)), (4, va_rf (findCounter_R S t n)), (0, .ref t), (1, .int n), (2, .long x)]) hx hb dAT_tick_58 hl (by decide) rfl (fun ls hl => ?_)
          refine lv_lload hx hb dAT_tick_60 (lv_at hl 0 rfl) ?_
          refine lv_ldc2 (v := (5000 : Int64)) hx hb hown (hts _ QAT_180) dAT_tick_62 ?_
          refine ll_le (tgt := 72) hx hb dAT_tick_65 dAT_tick_66 (by decide) (fun c_7 => ?_) (fun c_7 => ?_)
          · refine q_aload hx hb dAT_tick_72 (lv_at hl 2 rfl) ?_
            refine lv_lload hx hb dAT_tick_74 (lv_at hl 1 rfl) ?_
            refine q_aload hx hb dAT_tick_76 (lv_at hl 2 rfl) ?_
            refine q_some n_3 ?_
            refine g_l FAT_174 hx hb hts hown hW k_b_3 dAT_tick_78 ?_
            refine lv_lrem hx hb dAT_tick_81 (ne0_of c_6) ?_
            refine q_some1 n_3 ?_
            refine p_l FAT_177 GCounter_ticksKept (fun h => by cases h) hx hb hts hown hW k_b_3 dAT_tick_82 (fun H locs hW => ?_)
            have mo := mo.tr (mono_sfl (k := 4) (a := b_3) (v := (((fl S 4 b_3) + x) - ((fl S 4 b_3) + x) / (fl S 3 b_3) * (fl S 3 b_3))))
            have sr : sRel t S (sfl S 4 b_3 (((fl S 4 b_3) + x) - ((fl S 4 b_3) + x) / (fl S 3 b_3) * (fl S 3 b_3))) := sr.tr (sRel_sfl sr.1)
            refine W.tight (k := hz (sfl S 4 b_3 (((fl S 4 b_3) + x) - ((fl S 4 b_3) + x) / (fl S 3 b_3) * (fl S 3 b_3))) - hz S) (n := tz (sfl S 4 b_3 (((fl S 4 b_3) + x) - ((fl S 4 b_3) + x) / (fl S 3 b_3) * (fl S 3 b_3))) - tz S) (by rw [hW.z, hsz]; have := sr.2.2.1.1; omega) (by rw [hW.t, ht0]; have := sr.2.2.1.2; omega) ?_
            have nnp_8 : nn (sfl S 4 b_3 (((fl S 4 b_3) + x) - ((fl S 4 b_3) + x) / (fl S 3 b_3) * (fl S 3 b_3))) := nn_sfl hi.2.2.1
            refine lv_aload_n hx hb dAT_tick_85 rfl (lv_at hl 3 rfl) ?_
            have kq_9 : ∀ b, fr S 21 t = some b → kd (sfl S 4 b_3 (((fl S 4 b_3) + x) - ((fl S 4 b_3) + x) / (fl S 3 b_3) * (fl S 3 b_3))) b = 4 := fun b h => hW.ok.2.1 21 t b k_t h
            refine g_q FAT_30 hx hb hts hown hW k_t dAT_tick_86 ?_
            rw [show fr (sfl S 4 b_3 (((fl S 4 b_3) + x) - ((fl S 4 b_3) + x) / (fl S 3 b_3) * (fl S 3 b_3))) 21 t = fr S 21 t from rfl]
            have n_10 : fr S 21 t = some (gd (fr S 21 t)) := gd_some (hi.2.2.1 21 t rfl k_t)
            have kb_11 : kd (sfl S 4 b_3 (((fl S 4 b_3) + x) - ((fl S 4 b_3) + x) / (fl S 3 b_3) * (fl S 3 b_3))) (gd (fr S 21 t)) = 4 := kq_9 (gd (fr S 21 t)) n_10
            refine q_some n_10 ?_
            refine g_i FAT_182 hx hb hts hown hW kb_11 dAT_tick_89 ?_
            rw [show fi (sfl S 4 b_3 (((fl S 4 b_3) + x) - ((fl S 4 b_3) + x) / (fl S 3 b_3) * (fl S 3 b_3))) 5 (gd (fr S 21 t)) = fi S 5 (gd (fr S 21 t)) from rfl]
            refine lv_istore (lv' := [(9, .int (fi S 5 (gd (fr S 21 t)))), (7, .long (((fl S 4 b_3) + x) / (fl S 3 b_3))), (5, .long ((fl S 4 b_3) + x)), (4, va_rf (findCounter_R S t n)), (0, .ref t), (1, .int n), (2, .long x)]) hx hb dAT_tick_92 hl (by decide) rfl (fun ls hl => ?_)
            refine lv_aload_n hx hb dAT_tick_94 rfl (lv_at hl 4 rfl) ?_
            refine lv_iconst (v := (0 : Int32)) hx hb dAT_tick_95 (by decide) ?_
            refine p_i FAT_185 GAT_actSteps (fun h => by cases h) hx hb hts hown hW k_t rfl rfl dAT_tick_96 (fun H locs hW => ?_)
            have mo := mo.tr (mono_sfi (k := 13) (a := t) (v := (0 : Int32)))
            have sr : sRel t S (sfi (sfl S 4 b_3 (((fl S 4 b_3) + x) - ((fl S 4 b_3) + x) / (fl S 3 b_3) * (fl S 3 b_3))) 13 t (0 : Int32)) := sr.tr (sRel_sfi (by decide) sr.1)
            refine W.tight (k := hz (sfi (sfl S 4 b_3 (((fl S 4 b_3) + x) - ((fl S 4 b_3) + x) / (fl S 3 b_3) * (fl S 3 b_3))) 13 t (0 : Int32)) - hz S) (n := tz (sfi (sfl S 4 b_3 (((fl S 4 b_3) + x) - ((fl S 4 b_3) + x) / (fl S 3 b_3) * (fl S 3 b_3))) 13 t (0 : Int32)) - tz S) (by rw [hW.z, hsz]; have := sr.2.2.1.1; omega) (by rw [hW.t, ht0]; have := sr.2.2.1.2; omega) ?_
            have nnp_12 : nn (sfi (sfl S 4 b_3 (((fl S 4 b_3) + x) - ((fl S 4 b_3) + x) / (fl S 3 b_3) * (fl S 3 b_3))) 13 t (0 : Int32)) := nn_sfi nnp_8
            refine lv_lconst (v := (0 : Int64)) hx hb dAT_tick_99 (by decide) ?_
            refine lv_lstore (lv' := [(10, .long (0 : Int64)), (9, .int (fi S 5 (gd (fr S 21 t)))), (7, .long (((fl S 4 b_3) + x) / (fl S 3 b_3))), (5, .long ((fl S 4 b_3) + x)), (4, va_rf (findCounter_R S t n)), (0, .ref t), (1, .int n), (2, .long x)]) hx hb dAT_tick_100 hl (by decide) rfl (fun ls hl => ?_)
            exact loop b_3 (((fl S 4 b_3) + x) / (fl S 3 b_3)) (fi S 5 (gd (fr S 21 t))) c_7 (by refine Eq.symm ?_; refine (op_some n_3).trans ?_; refine (if_neg c_4).trans ?_; refine (if_neg c_5).trans ?_; refine (if_neg c_6).trans ?_; refine (if_neg c_7).trans ?_; rfl) _ 0 (sfi (sfl S 4 b_3 (((fl S 4 b_3) + x) - ((fl S 4 b_3) + x) / (fl S 3 b_3) * (fl S 3 b_3))) 13 t (0 : Int32)) (Nat.zero_add _) k_t k_b_3 (by refine Eq.symm ?_; refine (op_some n_3).trans ?_; refine (if_neg c_4).trans ?_; refine (if_neg c_5).trans ?_; refine (if_neg c_6).trans ?_; refine (if_neg c_7).trans ?_; rfl) sr mo _ _ hW ls (by have hl2 := (lv_sub hl [5, 4, 2, 1, 0] rfl); rw [n_3] at hl2; exact hl2)
          · refine lv_bipush (v := (-2 : Int32)) hx hb dAT_tick_69 (by decide) ?_
            exact e_i hsz hx hb hr hlk hW (mo) (by show _ ≤ phi S t; have z1 := sr.2.1; have z2 := sr.2.2.1; omega) (by show _ ≤ psi S t; have z1 := sr.2.1; have z2 := sr.2.2.1; omega) dAT_tick_71 ⟨(by refine Eq.symm ?_; refine (op_some n_3).trans ?_; refine (if_neg c_4).trans ?_; refine (if_neg c_5).trans ?_; refine (if_neg c_6).trans ?_; refine (if_pos c_7).trans ?_; rfl), (by refine Eq.symm ?_; refine (op_some n_3).trans ?_; refine (if_neg c_4).trans ?_; refine (if_neg c_5).trans ?_; refine (if_neg c_6).trans ?_; refine (if_pos c_7).trans ?_; rfl)⟩
        · refine lv_bipush (v := (-2 : Int32)) hx hb dAT_tick_38 (by decide) ?_
          exact e_i hsz hx hb hr hlk hW (mo) (by show _ ≤ phi S t; have z1 := sr.2.1; have z2 := sr.2.2.1; omega) (by show _ ≤ psi S t; have z1 := sr.2.1; have z2 := sr.2.2.1; omega) dAT_tick_40 ⟨(by refine Eq.symm ?_; refine (op_some n_3).trans ?_; refine (if_neg c_4).trans ?_; refine (if_neg c_5).trans ?_; refine (if_pos c_6).trans ?_; rfl), (by refine Eq.symm ?_; refine (op_some n_3).trans ?_; refine (if_neg c_4).trans ?_; refine (if_neg c_5).trans ?_; refine (if_pos c_6).trans ?_; rfl)⟩
