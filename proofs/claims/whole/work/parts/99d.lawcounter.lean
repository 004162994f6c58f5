-- THE LAW'S FIRST CALL: COUNTER
theorem RO_tz {M : AM} {x : Nat} {T : Nat → Nat → Bool} {n kt h0 t0 j : Nat} {S : HS} {σ : MS} (hj : j ≤ 6) (h : RO M x T n kt h0 t0 (shz S (hz S + 1) (tz S + 6)) σ) : RO M x T n kt h0 t0 (shz S (hz S + 1) (tz S + j)) σ := by
  obtain ⟨r1, r2, r3, r4, r5, r6⟩ := h
  refine ⟨r1, r2, r3, r4, r5, r6.1, ?_⟩
  have h6 : tz S + 6 + psi S x ≤ t0 + 12 * n := r6.2
  show tz S + j + psi S x ≤ t0 + 12 * n
  omega
theorem RO_sal {M : AM} {x : Nat} {T : Nat → Nat → Bool} {n kt h0 t0 a i : Nat} {v : Int64} {S : HS} {σ : MS} (h : RO M x T n kt h0 t0 S σ) : RO M x T n kt h0 t0 (sal S a i v) σ := by
  obtain ⟨r1, r2, r3, r4, r5, r6⟩ := h
  exact ⟨r1, r2, r3, r4, r5, r6⟩
set_option maxRecDepth 20000 in
theorem law_counter {p : Program} {l : Launch} {e : Env} {s : State} {m : MethodId} {below : List Frame} {meth : Method} {c : Code} {H : Heap} {locs : List Loc} {ls : Array Slot} {b L n x o ow h0 t0 kt : Nat} {xs : Nat → Int32} {D : va_G} {AC : Nat → ClassId} {S : HS} {σ : MS} {M : AM} {T : Nat → Nat → Bool} {sa : Nat} (hl0 : l.stackTraces = false) (hTh : ThW sa #[.ref b] s) (C : LX p s m c #[.ref b] b L xs) (P : P2 D AC s o H locs S σ) (hR : RO M x T n kt h0 t0 S σ) (ko : kd S ow = 12) (no : an S ow = 1) (hl : lv_has ls 7 (LV b x o ow n)) (hi : 7 * n + 6 < L) (kk : KK p l e s m below meth c b x o ow h0 t0 n D AC) : W p l e room_1 s m #[.ref b] below meth c H locs (36 + 24 * n) (14407 + 12012 * n) (lw_Z below #[.ref b] s) (F0 m 104 ls []) := by
  obtain ⟨hx, hb, hml, hown, hts, -, -, hL⟩ := id C
  have l0 : ls[0]? = some (.val (.ref b)) := lv_at hl 4 rfl
  have l4 : ls[4]? = some (.val (.int (nI (7 * n)))) := lv_at hl 0 rfl
  have hn5 : n < 512 := by omega
  have hI := hR.1.1.1
  have hO := hR.2.2.2.2.1.1.1
  refine lv_aload_n hx hb dLaw_law_104 rfl (lv_at hl 3 rfl) ?_
  refine s_L (k := 1) (k' := 2) C P.1.wS l0 l4 (by decide) (by decide) (by omega) (by omega) ⟨dLaw_law_105, dLaw_law_106, dLaw_law_108, dLaw_law_109, dLaw_law_110⟩ ⟨dLaw_law_115, dLaw_law_116, dLaw_law_118, dLaw_law_119, dLaw_law_120⟩ ⟨dLaw_law_111, dLaw_law_112, dLaw_law_114, dLaw_law_121, dLaw_law_122, dLaw_law_125, dLaw_law_126⟩ ?_
  refine s_L (k := 3) (k' := 4) C P.1.wS l0 l4 (by decide) (by decide) (by omega) (by omega) ⟨dLaw_law_127, dLaw_law_128, dLaw_law_130, dLaw_law_131, dLaw_law_132⟩ ⟨dLaw_law_137, dLaw_law_138, dLaw_law_140, dLaw_law_141, dLaw_law_142⟩ ⟨dLaw_law_133, dLaw_law_134, dLaw_law_136, dLaw_law_143, dLaw_law_144, dLaw_law_147, dLaw_law_148⟩ ?_
  refine lv_aload_n hx hb dLaw_law_149 rfl (lv_at hl 1 rfl) ?_
  refine k_SWi (As := [.ref x, .long (lw2 (xs (7 * n + 1)) (xs (7 * n + 2))), .long (lw2 (xs (7 * n + 3)) (xs (7 * n + 4))), .ref ow]) (rest := []) (c_LawCounter l hl0 D AC S x ow (lw2 (xs (7 * n + 1)) (xs (7 * n + 2))) (lw2 (xs (7 * n + 3)) (xs (7 * n + 4))) sa hI.2.1 ko no hI.2.2.1 hR.2.1.2.1) CLaw_21 hx hb hml hown hts P.1 CPreL.blind (fun U hU hw => ⟨P.1.pre _ U hU hw, ThW.ride hw (fun q hq => by rw [hU]; exact P.1.wS.2.1 q hq (Nat.not_le.mpr hq)) hTh⟩) hl.1 rfl rfl (Nat.le_of_ble_eq_true rfl) (rm_ok hn5 (by omega) (by omega) (Nat.le_of_ble_eq_true rfl) (Nat.le_of_ble_eq_true rfl)) dLaw_law_150 (fun r1 S1 H1 locs1 e1 hW1 m1 F1 => ?_)
  have P1 := P.cl hW1 F1
  refine lv_istore hx hb dLaw_law_153 hl (Nat.le_of_ble_eq_true rfl) rfl (fun ls hl => ?_)
  have hl : lv_has ls 7 ((5, .int r1) :: LV b x o ow n) := hl
  have l0 : ls[0]? = some (.val (.ref b)) := lv_at hl 5 rfl
  have l4 : ls[4]? = some (.val (.int (nI (7 * n)))) := lv_at hl 1 rfl
  refine lv_aload_n hx hb dLaw_law_155 rfl (lv_at hl 3 rfl) ?_
  refine s_L (k := 1) (k' := 2) C P1.1.wS l0 l4 (by decide) (by decide) (by omega) (by omega) ⟨dLaw_law_156, dLaw_law_157, dLaw_law_159, dLaw_law_160, dLaw_law_161⟩ ⟨dLaw_law_166, dLaw_law_167, dLaw_law_169, dLaw_law_170, dLaw_law_171⟩ ⟨dLaw_law_162, dLaw_law_163, dLaw_law_165, dLaw_law_172, dLaw_law_173, dLaw_law_176, dLaw_law_177⟩ ?_
  refine s_L (k := 3) (k' := 4) C P1.1.wS l0 l4 (by decide) (by decide) (by omega) (by omega) ⟨dLaw_law_178, dLaw_law_179, dLaw_law_181, dLaw_law_182, dLaw_law_183⟩ ⟨dLaw_law_188, dLaw_law_189, dLaw_law_191, dLaw_law_192, dLaw_law_193⟩ ⟨dLaw_law_184, dLaw_law_185, dLaw_law_187, dLaw_law_194, dLaw_law_195, dLaw_law_198, dLaw_law_199⟩ ?_
  refine k_Vi (K := 9) (As := [.long (lw2 (xs (7 * n + 1)) (xs (7 * n + 2))), .long (lw2 (xs (7 * n + 3)) (xs (7 * n + 4)))]) (rest := []) (c_Mcounter l D AC o _ _ σ (lw2 (xs (7 * n + 1)) (xs (7 * n + 2))) (lw2 (xs (7 * n + 3)) (xs (7 * n + 4))) hO) CLaw_26 ⟨by decide, by decide, _, rfl, rfl⟩ hx hb hml hown hts P1.2.1 hsM_k hl.1 rfl rfl (Nat.le_of_ble_eq_true rfl) (rm_ok2 (mc := 1) (ms := 12) hn5 (by omega) (by omega) (Nat.le_of_ble_eq_true rfl) (Nat.le_of_ble_eq_true rfl)) dLaw_law_200 (fun r2 S2 H2 locs2 e2 hW2 m2 F2 => ?_)
  obtain ⟨rfl, rfl⟩ := e2
  have P3 := P1.mo hW2 F2
  refine lv_istore hx hb dLaw_law_203 hl (Nat.le_of_ble_eq_true rfl) rfl (fun ls hl => ?_)
  have hl : lv_has ls 7 ((6, .int (Mcounter_R σ (lw2 (xs (7 * n + 1)) (xs (7 * n + 2))) (lw2 (xs (7 * n + 3)) (xs (7 * n + 4))))) :: (5, .int r1) :: LV b x o ow n) := hl
  refine lv_aload_n hx hb dLaw_law_205 rfl (lv_at hl 4 rfl) ?_
  refine k_Vi (K := 9) (As := []) (rest := []) (c_Mthrown l D AC o _ _ (Mcounter_S σ (lw2 (xs (7 * n + 1)) (xs (7 * n + 2))) (lw2 (xs (7 * n + 3)) (xs (7 * n + 4))))) CLaw_27 ⟨by decide, by decide, _, rfl, rfl⟩ hx hb hml hown hts P3.2.1 hsM_k hl.1 rfl rfl (Nat.le_of_ble_eq_true rfl) (rm_ok2 (mc := 1) (ms := 12) hn5 (by omega) (by omega) (Nat.le_of_ble_eq_true rfl) (Nat.le_of_ble_eq_true rfl)) dLaw_law_206 (fun r3 S3 H3 locs3 e3 hW3 m3 F3 => ?_)
  obtain ⟨rfl, rfl⟩ := e3
  have P4 := P3.mo hW3 F3
  refine lv_iload hx hb dLaw_law_209 (lv_at hl 1 rfl) ?_
  by_cases ht : thr S x (lw2 (xs (7 * n + 1)) (xs (7 * n + 2))) (lw2 (xs (7 * n + 3)) (xs (7 * n + 4)))
  · obtain ⟨rfl, j, hj, rfl⟩ := e1.1 ht
    obtain ⟨q1, q2, q3, q4, q5, q6⟩ := id ht
    obtain ⟨t1, hR3⟩ := o_cntX hR q1 q2 q3 q4 q5 q6
    refine lv_icmp_eq (tgt := 216) hx hb dLaw_law_211 (by decide) (fun _ => ?_) (fun z => absurd t1 z)
    refine lv_iload hx hb dLaw_law_216 (lv_at hl 1 rfl) ?_
    refine lv_if_ne (tgt := 233) hx hb dLaw_law_218 (by decide) (fun _ => ?_) (fun z => absurd z (by decide))
    refine lv_goto (tgt := 910) hx hb dLaw_law_233 (by decide) ?_
    exact W.widen (by omega) (by omega) (kk _ _ _ _ _ _ _ _ P4 (RO_tz hj hR3) (m1.k ko (by decide)) (m1.n ko (by decide) no) (lv_sub hl [2, 3, 4, 5, 6] rfl))
  · obtain ⟨rfl, rfl⟩ := e1.2 ht
    obtain ⟨eR, t1, M3, hR3⟩ := o_cnt hR (lw2 (xs (7 * n + 1)) (xs (7 * n + 2))) (lw2 (xs (7 * n + 3)) (xs (7 * n + 4))) (fun a1 a2 a3 a4 a5 a6 => ht ⟨a1, a2, a3, a4, a5, a6⟩)
    have ko1 := m1.k ko (by decide)
    have no1 := m1.n ko (by decide) no
    refine lv_icmp_eq (tgt := 216) hx hb dLaw_law_211 (by decide) (fun _ => ?_) (fun z => absurd t1 z)
    refine lv_iload hx hb dLaw_law_216 (lv_at hl 1 rfl) ?_
    refine lv_if_ne (tgt := 233) hx hb dLaw_law_218 (by decide) (fun z => absurd rfl z) (fun _ => ?_)
    refine lv_aload_n hx hb dLaw_law_221 rfl (lv_at hl 3 rfl) ?_
    refine lv_iconst (v := (0 : Int32)) hx hb dLaw_law_222 (by decide) ?_
    refine a_ll (K := 12) (t0 := 1) ⟨by decide, rfl⟩ rfl hx hb P4.1 ko1 (by rw [no1]; exact nI_in (c := 0) (by decide) (by decide)) dLaw_law_223 ?_
    rw [show al (sal (counter_S S x (lw2 (xs (7 * n + 1)) (xs (7 * n + 2))) (lw2 (xs (7 * n + 3)) (xs (7 * n + 4)))) ow 0 (counter_R S x (lw2 (xs (7 * n + 1)) (xs (7 * n + 2))) (lw2 (xs (7 * n + 3)) (xs (7 * n + 4)))).toInt64) ow (0 : Int32).toNatClampNeg = (counter_R S x (lw2 (xs (7 * n + 1)) (xs (7 * n + 2))) (lw2 (xs (7 * n + 3)) (xs (7 * n + 4)))).toInt64 from up2_self _ _ _ _]
    refine lv_iload hx hb dLaw_law_224 (lv_at hl 0 rfl) ?_
    refine lv_i2l (v := (Mcounter_R σ (lw2 (xs (7 * n + 1)) (xs (7 * n + 2))) (lw2 (xs (7 * n + 3)) (xs (7 * n + 4)))).toInt64) hx hb dLaw_law_226 rfl ?_
    refine ll_eq (tgt := 233) hx hb dLaw_law_227 dLaw_law_228 (by decide) (fun _ => ?_) (fun z => absurd (by rw [eR]) z)
    refine lv_goto (tgt := 910) hx hb dLaw_law_233 (by decide) ?_
    exact W.widen (by omega) (by omega) (kk _ _ _ _ _ _ _ _ P4 (RO_sal hR3) ko1 no1 (lv_sub hl [2, 3, 4, 5, 6] rfl))
