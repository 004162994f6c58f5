-- CANCEL, START, SYNC
theorem sma_same {σ : MS} {j i : Nat} {v : Int32} (h : ma σ j i = v) : sma σ j i v = σ := by
  refine Prod.ext rfl (Prod.ext (funext fun j' => funext fun i' => ?_) rfl)
  show up2 (ma σ) j i v j' i' = ma σ j' i'
  unfold up2
  split
  · rename_i q
    rw [q.1, q.2, h]
  · rfl
theorem o_cancel {M : AM} {x : Nat} {T : Nat → Nat → Bool} {n kt h0 t0 : Nat} {S : HS} {σ : MS} (h : RO M x T n kt h0 t0 S σ) (a : Int32) : cancel_R S x a = Mcancel_R σ a ∧ RO M x T (n + 1) kt h0 t0 (cancel_S S x a) (Mcancel_S σ a) := by
  have hO := h.2.2.2.2.1.1.1
  have h14 : RO M x T n kt h0 t0 S (smi σ 14 0) := RO_m h eqm_14
  have e14 : MnoAlarm_R (smi σ 14 0) a = MnoAlarm_R σ a := rfl
  have m9 : ma σ 9 = ma (smi σ 14 0) 9 := rfl
  unfold cancel_R Mcancel_R cancel_S Mcancel_S
  rw [e14]
  rcases fA h.2.1 hO a with ⟨b, b1, b2, b3, b4, b5⟩ | ⟨b4, b5⟩
  · have hA : b ≤ 100 := Nat.le_trans b2 h.2.2.2.2.1.2.1.1.1.2.2.1
    rw [op_some b4, op_some b4, if_pos b5, if_pos b5, b3, nI_clamp (by omega), (h.1.1.2.2.2.1 b b1 b2).1, m9]
    have b2' : b ≤ nA (smi σ 14 0) := b2
    generalize smi σ 14 0 = τ at h14 b2'
    by_cases q : ma τ 9 b = 0
    · repeat rw [if_pos q]
      rw [sma_same q]
      exact ⟨rfl, RO_n h14⟩
    · repeat rw [if_neg q]
      refine ⟨rfl, ?_⟩
      have hz := h14.2.2.2.2.1.1.2.2.1
      have hw := h14.2.2.2.2.1.2.1
      have hst : stc τ (sma τ 9 b 0) := stc_9
      refine RO_dyn h14 ⟨Sm_cancel h14.1.1 b1 b2', fun y y1 y2 => ?_⟩ (Sc_sfi (by decide)) (sRel_sfi (by decide) h14.1.1.1) hst (MI_dyn h14.2.2.2.2.1 hst h14.2.2.2.2.1.1.1 (fun c hc => (hz.1 c hc).2) (fun c hc => ?_) (fun t ht => (hz.2.2 t ht).2.2.2) rfl rfl hw.2.2.2.1 hw.2.2.2.2.1 hw.2.2.2.2.2)
      · exact WkP_fr (h14.1.2 y y1 y2) hst rfl (fun a _ _ _ => ⟨rfl, fun q => by
          show up2 (ma τ) 9 b 0 9 a = 0
          by_cases e : a = b
          · subst e; exact up2_self _ _ _ _
          · rw [up2_a _ _ _ _ e]; exact q⟩) (fun t _ _ _ => ⟨rfl, rfl⟩)
      · rw [ra_n (by omega)]
        exact (hz.2.1 c hc).2.1
  · rw [op_none b4, op_none b4, b5, if_neg (by decide), if_neg (by decide)]
    exact ⟨rfl, RO_n h14⟩
theorem Sm_sync {M : AM} {x : Nat} {S : HS} {σ : MS} {u : Nat} {v : Int64} (h : Sm M x nE S σ) (u1 : 1 ≤ u) (u2 : u ≤ nT σ) : Sm M x nE (sfl S 11 (tA M u) v) (sml σ 18 u v) := by
  obtain ⟨hI, hR, hc, ha, ht, hn, hk⟩ := h
  refine ⟨(sRel_sfl hI).1, RS_stc stc_18 (RS_Sc hR (Sc_sfl (by decide))), hc, ha, fun t t1 t2 => ?_, hn, hk⟩
  obtain ⟨q1, q2, q3, q4⟩ := ht t t1 t2
  refine ⟨q1, ?_, q3, q4⟩
  show up2 (fl S) 11 (tA M u) v 11 (tA M t) = up2 (ml σ) 18 u v 18 t
  by_cases e : t = u
  · subst e; rw [up2_self, up2_self]
  · rw [up2_a _ _ _ _ (tA_ne hR u1 u2 t1 t2 e), up2_a _ _ _ _ e]; exact q2
theorem o_sync {M : AM} {x : Nat} {T : Nat → Nat → Bool} {n kt h0 t0 : Nat} {S : HS} {σ : MS} (h : RO M x T n kt h0 t0 S σ) (t : Int32) (y : Int64) : sync_R S x t y = Msync_R σ t y ∧ RO M x T (n + 1) kt h0 t0 (sync_S S x t y) (Msync_S σ t y) := by
  have hO := h.2.2.2.2.1.1.1
  have h14 : RO M x T n kt h0 t0 S (smi σ 14 0) := RO_m h eqm_14
  have m19 : ma σ 19 = ma (smi σ 14 0) 19 := rfl
  have l18 : ml σ 18 = ml (smi σ 14 0) 18 := rfl
  unfold sync_R Msync_R sync_S Msync_S
  rw [MnoTable_e]
  rcases fT h.2.1 hO t with ⟨b, b1, b2, b3, b4, b5⟩ | ⟨b4, b5⟩
  · have hT : b ≤ 20 := Nat.le_trans b2 h.2.2.2.2.1.2.1.1.1.2.2.2
    obtain ⟨d1, d2, -, -⟩ := h.1.1.2.2.2.2.1 b b1 b2
    rw [op_some b4, op_some b4, if_pos b5, if_pos b5, b3, nI_clamp (by omega), d1, d2, m19, l18]
    have b2' : b ≤ nT (smi σ 14 0) := b2
    generalize smi σ 14 0 = τ at h14 b2'
    have hz := h14.2.2.2.2.1.1.2.2.1
    have hw := h14.2.2.2.2.1.2.1
    have hd := hw.2.2.2.2.2 b b1 b2'
    have em2 : (-2000 : Int64).toInt = -2000 := rfl
    have e2 : (2000 : Int64).toInt = 2000 := rfl
    have em1 : (-1000 : Int64).toInt = -1000 := rfl
    have e1 : (1000 : Int64).toInt = 1000 := rfl
    have s1 : ((-1000 : Int64) - ml τ 18 b).toInt = -1000 - (ml τ 18 b).toInt := by rw [i64_sub (by rw [em1]; omega) (by rw [em1]; omega), em1]
    have s2 : ((1000 : Int64) - ml τ 18 b).toInt = 1000 - (ml τ 18 b).toInt := by rw [i64_sub (by rw [e1]; omega) (by rw [e1]; omega), e1]
    by_cases q1 : y < (-2000 : Int64)
    · have p1 : y < (-1000 : Int64) - ml τ 18 b := by
        rw [Int64.lt_iff_toInt_lt] at q1 ⊢
        omega
      repeat rw [if_pos p1]
      repeat rw [if_pos q1]
      exact ⟨rfl, RO_n h14⟩
    · repeat rw [if_neg q1]
      by_cases q2 : (2000 : Int64) < y
      · have p1 : ¬ y < (-1000 : Int64) - ml τ 18 b := by
          rw [Int64.lt_iff_toInt_lt] at q2 ⊢
          omega
        have p2 : (1000 : Int64) - ml τ 18 b < y := by
          rw [Int64.lt_iff_toInt_lt] at q2 ⊢
          omega
        repeat rw [if_neg p1]
        repeat rw [if_pos p2]
        repeat rw [if_pos q2]
        exact ⟨rfl, RO_n h14⟩
      · repeat rw [if_neg q2]
        rw [Int64.lt_iff_toInt_lt] at q1 q2
        have sy : (ml τ 18 b + y).toInt = (ml τ 18 b).toInt + y.toInt := i64_add (by omega) (by omega)
        by_cases q3 : y < (-1000 : Int64) - ml τ 18 b
        · have p3 : ml τ 18 b + y < (-1000 : Int64) := by
            rw [Int64.lt_iff_toInt_lt] at q3 ⊢
            omega
          repeat rw [if_pos q3]
          repeat rw [if_pos p3]
          exact ⟨rfl, RO_n h14⟩
        · have p3 : ¬ ml τ 18 b + y < (-1000 : Int64) := by
            rw [Int64.lt_iff_toInt_lt] at q3 ⊢
            omega
          repeat rw [if_neg q3]
          repeat rw [if_neg p3]
          by_cases q4 : (1000 : Int64) - ml τ 18 b < y
          · have p4 : (1000 : Int64) < ml τ 18 b + y := by
              rw [Int64.lt_iff_toInt_lt] at q4 ⊢
              omega
            repeat rw [if_pos q4]
            repeat rw [if_pos p4]
            exact ⟨rfl, RO_n h14⟩
          · have p4 : ¬ (1000 : Int64) < ml τ 18 b + y := by
              rw [Int64.lt_iff_toInt_lt] at q4 ⊢
              omega
            repeat rw [if_neg q4]
            repeat rw [if_neg p4]
            by_cases q5 : ma τ 19 b = 0
            · repeat rw [if_pos q5]
              exact ⟨rfl, RO_n h14⟩
            · repeat rw [if_neg q5]
              refine ⟨rfl, ?_⟩
              rw [Int64.lt_iff_toInt_lt] at p3 p4
              have hst : stc τ (sml τ 18 b (ml τ 18 b + y)) := stc_18
              refine RO_dyn h14 ⟨Sm_sync h14.1.1 b1 b2', fun y y1 y2 => ?_⟩ (Sc_sfl (by decide)) (sRel_sfl h14.1.1.1) hst (MI_dyn h14.2.2.2.2.1 hst h14.2.2.2.2.1.1.1 (fun c hc => (hz.1 c hc).2) (fun c hc => (hz.2.1 c hc).2.1) (fun t ht => ?_) rfl rfl hw.2.2.2.1 hw.2.2.2.2.1 (fun t t1 t2 => ?_))
              · exact WkP_fr (h14.1.2 y y1 y2) hst rfl (fun a _ _ _ => ⟨rfl, id⟩) (fun t _ _ _ => ⟨rfl, rfl⟩)
              · rw [rl_n (by omega)]
                exact (hz.2.2 t ht).2.2.2
              · by_cases e : t = b
                · subst e
                  rw [rl_s]
                  omega
                · rw [rl_n e]
                  exact hw.2.2.2.2.2 t t1 t2
  · rw [op_none b4, op_none b4, b5, if_neg (by decide), if_neg (by decide)]
    exact ⟨rfl, RO_n h14⟩
/-- a table that is to begin -/
theorem RC_start {M : AM} {x : Nat} {S : HS} {σ : MS} {n c : Nat} {w : Int64} (h : RC M x S σ) (n1 : 1 ≤ n) (n2 : n ≤ nT σ) (c1 : 1 ≤ c) (c2 : c ≤ nC σ) (hC : nC σ ≤ 20) (hon : ma σ 12 n = nI c) : RC M x (wakeAt_S (runFrom_S (sfl S 11 (tA M n) 0) (tA M n) w) (cA M c) w) (sml (sma (sml (sma σ 19 n 1) 18 n 0) 21 n (-1)) 20 n w) := by
  obtain ⟨⟨hI, hR, hc, ha, ht, hn, hk⟩, hw⟩ := h
  have ec : (nI c).toNatClampNeg = c := nI_clamp (by omega)
  have hs : stc σ (sml (sma (sml (sma σ 19 n 1) 18 n 0) 21 n (-1)) 20 n w) := ((stc_19.tr stc_18).tr stc_21).tr stc_20
  have scX : Sc S (runFrom_S (sfl S 11 (tA M n) 0) (tA M n) w) := (((Sc_sfl (by decide)).tr (Sc_sfi (by decide))).tr (Sc_sfi (by decide))).tr (Sc_sfl (by decide))
  have R8 : ∀ a, fi (runFrom_S (sfl S 11 (tA M n) 0) (tA M n) w) 8 a = if a = tA M n then 1 else fi S 8 a := fun a => by
    show up2 (up2 (fi S) 8 (tA M n) 1) 9 (tA M n) 0 8 a = _
    rw [up2_k _ _ _ _ (by decide)]
    by_cases e : a = tA M n
    · rw [if_pos e, e, up2_self]
    · rw [if_neg e, up2_a _ _ _ _ e]
  have R9 : ∀ a, fi (runFrom_S (sfl S 11 (tA M n) 0) (tA M n) w) 9 a = if a = tA M n then 0 else fi S 9 a := fun a => by
    show up2 (up2 (fi S) 8 (tA M n) 1) 9 (tA M n) 0 9 a = _
    by_cases e : a = tA M n
    · rw [if_pos e, e, up2_self]
    · rw [if_neg e, up2_a _ _ _ _ e, up2_a _ _ _ _ e]
  have Rk : ∀ k a, k ≠ 8 → k ≠ 9 → fi (runFrom_S (sfl S 11 (tA M n) 0) (tA M n) w) k a = fi S k a := fun k a q8 q9 => by
    show up2 (up2 (fi S) 8 (tA M n) 1) 9 (tA M n) 0 k a = _
    rw [up2_k _ _ _ _ q9, up2_k _ _ _ _ q8]
  have Ll : ∀ k a, a ≠ tA M n → fl (runFrom_S (sfl S 11 (tA M n) 0) (tA M n) w) k a = fl S k a := fun k a e => by
    show up2 (up2 (fl S) 11 (tA M n) 0) 10 (tA M n) w k a = _
    rw [up2_a _ _ _ _ e, up2_a _ _ _ _ e]
  have Lk : ∀ k a, k ≠ 10 → k ≠ 11 → fl (runFrom_S (sfl S 11 (tA M n) 0) (tA M n) w) k a = fl S k a := fun k a q1 q2 => by
    show up2 (up2 (fl S) 11 (tA M n) 0) 10 (tA M n) w k a = _
    rw [up2_k _ _ _ _ q1, up2_k _ _ _ _ q2]
  have L11 : fl (runFrom_S (sfl S 11 (tA M n) 0) (tA M n) w) 11 (tA M n) = 0 := by
    show up2 (up2 (fl S) 11 (tA M n) 0) 10 (tA M n) w 11 (tA M n) = _
    rw [up2_k _ _ _ _ (by decide), up2_self]
  have L10 : fl (runFrom_S (sfl S 11 (tA M n) 0) (tA M n) w) 10 (tA M n) = w := up2_self _ _ _ _
  have Rr : fr (runFrom_S (sfl S 11 (tA M n) 0) (tA M n) w) = fr S := rfl
  have Ra : ar (runFrom_S (sfl S 11 (tA M n) 0) (tA M n) w) = ar S := rfl
  have Ri : ai (runFrom_S (sfl S 11 (tA M n) 0) (tA M n) w) = ai S := rfl
  have hI2 := (sRel_runFrom (a := tA M n) (d := w) (sRel_sfl (k := 11) (a := tA M n) (v := 0) hI).1).1
  have m19 : ma (sml (sma (sml (sma σ 19 n 1) 18 n 0) 21 n (-1)) 20 n w) 19 n = 1 := ra_l.trans ((ra_a (by decide)).trans (ra_l.trans ra_s))
  have m21 : ma (sml (sma (sml (sma σ 19 n 1) 18 n 0) 21 n (-1)) 20 n w) 21 n = -1 := ra_l.trans ra_s
  have m18 : ml (sml (sma (sml (sma σ 19 n 1) 18 n 0) 21 n (-1)) 20 n w) 18 n = 0 := (rl_l (by decide)).trans (rl_a.trans rl_s)
  have m20 : ml (sml (sma (sml (sma σ 19 n 1) 18 n 0) 21 n (-1)) 20 n w) 20 n = w := rl_s
  have ma_ne : ∀ j t, t ≠ n → ma (sml (sma (sml (sma σ 19 n 1) 18 n 0) 21 n (-1)) 20 n w) j t = ma σ j t := fun j t e => ra_l.trans ((ra_n e).trans (ra_l.trans (ra_n e)))
  have ml_ne : ∀ j t, t ≠ n → ml (sml (sma (sml (sma σ 19 n 1) 18 n 0) 21 n (-1)) 20 n w) j t = ml σ j t := fun j t e => (rl_n e).trans (rl_a.trans ((rl_n e).trans rl_a))
  have ma_j : ∀ j, j ≠ 19 → j ≠ 21 → ma (sml (sma (sml (sma σ 19 n 1) 18 n 0) 21 n (-1)) 20 n w) j = ma σ j := fun j q1 q2 => funext fun t => ra_l.trans ((ra_a q2).trans (ra_l.trans (ra_a q1)))
  have ml_j : ∀ j, j ≠ 18 → j ≠ 20 → ml (sml (sma (sml (sma σ 19 n 1) 18 n 0) 21 n (-1)) 20 n w) j = ml σ j := fun j q1 q2 => funext fun t => (rl_l q2).trans (rl_a.trans ((rl_l q1).trans rl_a))
  have mi_k : mi (sml (sma (sml (sma σ 19 n 1) 18 n 0) 21 n (-1)) 20 n w) = mi σ := rfl
  generalize sml (sma (sml (sma σ 19 n 1) 18 n 0) 21 n (-1)) 20 n w = τ at hs m19 m21 m18 m20 ma_ne ml_ne ma_j ml_j mi_k
  generalize runFrom_S (sfl S 11 (tA M n) 0) (tA M n) w = Z at scX R8 R9 Rk Ll Lk L11 L10 Rr Ra Ri hI2
  have eC := nC_stc hs
  have eA := nA_stc hs
  have eT := nT_stc hs
  have hM : Sm M x nE Z τ := by
    refine ⟨hI2, RS_stc hs (RS_Sc hR scX), fun d d1 d2 => ?_, fun a a1 a2 => ?_, fun t t1 t2 => ?_, ?_, ?_⟩
    · rw [Lk 6 _ (by decide) (by decide), Lk 5 _ (by decide) (by decide), ml_j 3 (by decide) (by decide), ml_j 0 (by decide) (by decide)]
      exact hc d d1 (by omega)
    · rw [Rk 1 _ (by decide) (by decide), Lk 0 _ (by decide) (by decide), ma_j 9 (by decide) (by decide), ml_j 10 (by decide) (by decide)]
      exact ha a a1 (by omega)
    · obtain ⟨q1, q2, q3, q4⟩ := ht t t1 (by omega)
      by_cases e : t = n
      · subst e
        exact ⟨by rw [R8, if_pos rfl, m19], by rw [L11, m18], fun z => z.elim, fun _ => ⟨by rw [R9, if_pos rfl, m21]; rfl, fun z => absurd m21 z, fun z => z.elim, fun _ => by rw [L10, m20]⟩⟩
      · have e2 := tA_ne hR n1 n2 t1 (by omega) e
        refine ⟨by rw [R8, if_neg e2, ma_ne 19 t e]; exact q1, by rw [Ll 11 _ e2, ml_ne 18 t e]; exact q2, fun z => z.elim, fun z => ?_⟩
        rw [ma_ne 19 t e] at z
        obtain ⟨j1, j2, j3, j4⟩ := q4 z
        refine ⟨by rw [R9, if_neg e2, ma_ne 21 t e]; exact j1, ?_, fun y => y.elim, fun y => ?_⟩
        · rw [ma_ne 21 t e, Rr, ptO_cg (ma_j 14 (by decide) (by decide))]
          exact j2
        · rw [Ll 10 _ e2, ml_ne 20 t e]
          exact j4 y
    · have hn' : Dn x Z σ := by
        have g4 : fi Z 4 = fi S 4 := funext fun a => Rk 4 a (by decide) (by decide)
        have g5 : fi Z 5 = fi S 5 := funext fun a => Rk 5 a (by decide) (by decide)
        unfold Dn clA pgA kpN ntA
        rw [Rr, g4, g5, Ra, Ri]
        exact hn
      exact Dn_M hn' (by rw [mi_k]) (fun j _ _ => ma_j j (by omega) (by omega))
    · rw [Rk 13 _ (by decide) (by decide), mi_k]
      exact hk
  refine ⟨Sm_wake hM, fun y y1 y2 => ?_⟩
  rw [eA, eT]
  have h7 : ∀ z, fl Z 7 z = fl S 7 z := fun z => Lk 7 _ (by decide) (by decide)
  have hal : ∀ a, 1 ≤ a → a ≤ nA σ → ma σ 6 a = nI y → ml τ 10 a = ml σ 10 a ∧ (ma σ 9 a = 0 → ma τ 9 a = 0) := fun a _ _ _ => ⟨by rw [ml_j 10 (by decide) (by decide)], fun q => by rw [ma_j 9 (by decide) (by decide)]; exact q⟩
  by_cases ey : y = c
  · subst ey
    refine WkP_E (hw y y1 (by omega)) hs (by rw [wakeAt_7, ← h7]; exact mn_le.1) hal (fun t t1 t2 t3 t4 t5 => ?_)
    by_cases e : t = n
    · subst e
      left
      rw [wakeAt_7, m20]
      exact mn_le.2
    · exact Or.inr ⟨by rw [← ma_ne 19 t e]; exact t4, t5, ml_ne 20 t e⟩
  · have hn7 : fl (wakeAt_S Z (cA M c) w) 7 (cA M y) = fl S 7 (cA M y) := (up2_a _ _ _ _ (cA_ne hR c1 c2 y1 (by omega) ey)).trans (h7 _)
    refine WkP_E (hw y y1 (by omega)) hs (by rw [hn7]; exact Int.le_refl _) hal (fun t t1 t2 t3 t4 t5 => Or.inr ?_)
    have e : t ≠ n := fun e => ey (nI_inj (by omega) (by omega) (by rw [← t3, e]; exact hon))
    exact ⟨by rw [← ma_ne 19 t e]; exact t4, t5, ml_ne 20 t e⟩
theorem o_start {M : AM} {x : Nat} {T : Nat → Nat → Bool} {n kt h0 t0 : Nat} {S : HS} {σ : MS} (h : RO M x T n kt h0 t0 S σ) (t : Int32) (y : Int64) : start_R S x t y = Mstart_R σ t y ∧ RO M x T (n + 1) kt h0 t0 (start_S S x t y) (Mstart_S σ t y) := by
  have hO := h.2.2.2.2.1.1.1
  have h14 : RO M x T n kt h0 t0 S (smi σ 14 0) := RO_m h eqm_14
  have m19 : ma σ 19 = ma (smi σ 14 0) 19 := rfl
  unfold start_R Mstart_R start_S Mstart_S
  rw [MnoTable_e]
  rcases fT h.2.1 hO t with ⟨b, b1, b2, b3, b4, b5⟩ | ⟨b4, b5⟩
  · have hT : b ≤ 20 := Nat.le_trans b2 h.2.2.2.2.1.2.1.1.1.2.2.2
    obtain ⟨d1, -, -, -⟩ := h.1.1.2.2.2.2.1 b b1 b2
    rw [op_some b4, op_some b4, if_pos b5, if_pos b5, b3, nI_clamp (by omega), d1, m19]
    have b2' : b ≤ nT (smi σ 14 0) := b2
    generalize smi σ 14 0 = τ at h14 b2'
    by_cases q1 : ma τ 19 b = 0
    · repeat rw [if_pos q1]
      by_cases q2 : y < (1 : Int64)
      · repeat rw [if_pos q2]
        exact ⟨rfl, RO_n h14⟩
      · repeat rw [if_neg q2]
        by_cases q3 : (1000000 : Int64) < y
        · repeat rw [if_pos q3]
          exact ⟨rfl, RO_n h14⟩
        · repeat rw [if_neg q3]
          refine ⟨rfl, ?_⟩
          have hz := h14.2.2.2.2.1.1.2.2.1
          have hw := h14.2.2.2.2.1.2.1
          have hin := (Cf_t hw.1 b1 b2').1
          have hC := hw.1.1.2.1
          obtain ⟨e12, bc⟩ := rg_cl (hi := nC τ) (hin.wk (by decide) (Int.le_refl _)) (by omega)
          have c1 : 1 ≤ (ma τ 12 b).toNatClampNeg := by
            have := hin.1
            rw [e12, nI_toInt (by omega)] at this
            omega
          have e13 : fr S 13 (tA M b) = some (cA M (ma τ 12 b).toNatClampNeg) := (h14.1.1.2.1.2.2.2.2.1 b b1 b2').2.2.1
          have e6 : fl S 6 (cA M (ma τ 12 b).toNatClampNeg) = ml τ 3 (ma τ 12 b).toNatClampNeg := (h14.1.1.2.2.1 _ c1 bc).1
          generalize (ma τ 12 b).toNatClampNeg = c at e12 bc c1 e13 e6
          have eS : wakeAt_S (runFrom_S (sfl S 11 (tA M b) 0) (tA M b) (fl S 6 (gd (fr S 13 (tA M b))) + y)) (gd (fr (runFrom_S (sfl S 11 (tA M b) 0) (tA M b) (fl S 6 (gd (fr S 13 (tA M b))) + y)) 13 (tA M b))) (fl (runFrom_S (sfl S 11 (tA M b) 0) (tA M b) (fl S 6 (gd (fr S 13 (tA M b))) + y)) 10 (tA M b)) = wakeAt_S (runFrom_S (sfl S 11 (tA M b) 0) (tA M b) (ml τ 3 c + y)) (cA M c) (ml τ 3 c + y) := by
            have r10 : ∀ w, fl (runFrom_S (sfl S 11 (tA M b) 0) (tA M b) w) 10 (tA M b) = w := fun w => up2_self _ _ _ _
            have r13 : ∀ w, fr (runFrom_S (sfl S 11 (tA M b) 0) (tA M b) w) 13 (tA M b) = fr S 13 (tA M b) := fun w => rfl
            rw [r10, r13, e13]
            show wakeAt_S (runFrom_S (sfl S 11 (tA M b) 0) (tA M b) (fl S 6 (cA M c) + y)) (cA M c) (fl S 6 (cA M c) + y) = _
            rw [e6]
          rw [eS]
          have hst : stc τ (sml (sma (sml (sma τ 19 b 1) 18 b 0) 21 b (-1)) 20 b (ml τ 3 c + y)) := ((stc_19.tr stc_18).tr stc_21).tr stc_20
          refine RO_dyn h14 (RC_start h14.1 b1 b2' c1 bc hC e12) (((((Sc_sfl (by decide)).tr (Sc_sfi (by decide))).tr (Sc_sfi (by decide))).tr (Sc_sfl (by decide))).tr (Sc_sfl (by decide))) ?_ hst (MI_dyn h14.2.2.2.2.1 hst (mOk_w21 (σ := sml (sma τ 19 b 1) 18 b 0) h14.2.2.2.2.1.1.1 ⟨by decide, by decide⟩) (fun c hc => ?_) (fun c hc => ?_) (fun t ht => ?_) rfl rfl (fun c => ?_) (fun t t1 t2 => ?_) (fun t t1 t2 => ?_))
          · have s1 := sRel_sfl (k := 11) (a := tA M b) (v := 0) h14.1.1.1
            have s2 := s1.tr (sRel_runFrom (a := tA M b) (d := ml τ 3 c + y) s1.1)
            exact s2.tr (sRel_wakeAt s2.1)
          · exact ((rl_l (by decide)).trans (rl_a.trans ((rl_l (by decide)).trans rl_a))).trans (hz.1 c hc).2
          · exact (ra_l.trans ((ra_a (by decide)).trans (ra_l.trans (ra_a (by decide))))).trans (hz.2.1 c hc).2.1
          · have e : t ≠ b := by omega
            have z := (hz.2.2 t ht).2.2.2
            exact ⟨(ra_l.trans ((ra_n e).trans (ra_l.trans (ra_n e)))).trans z.1, (ra_l.trans ((ra_n e).trans (ra_l.trans (ra_n e)))).trans z.2.1, ((rl_n e).trans (rl_a.trans ((rl_n e).trans rl_a))).trans z.2.2⟩
          · rw [show ml (sml (sma (sml (sma τ 19 b 1) 18 b 0) 21 b (-1)) 20 b _) 3 c = ml τ 3 c from (rl_l (by decide)).trans (rl_a.trans ((rl_l (by decide)).trans rl_a))]
            exact hw.2.2.2.1 c
          · by_cases e : t = b
            · subst e
              have : ma (sml (sma (sml (sma τ 19 t 1) 18 t 0) 21 t (-1)) 20 t (ml τ 3 c + y)) 21 t = -1 := ra_l.trans ra_s
              rw [this]
              exact ⟨by decide, by have : (-1 : Int32).toInt = -1 := rfl; omega⟩
            · have : ma (sml (sma (sml (sma τ 19 b 1) 18 b 0) 21 b (-1)) 20 b (ml τ 3 c + y)) 21 t = ma τ 21 t := ra_l.trans ((ra_n e).trans (ra_l.trans (ra_n e)))
              rw [this]
              exact hw.2.2.2.2.1 t t1 t2
          · by_cases e : t = b
            · subst e
              have : ml (sml (sma (sml (sma τ 19 t 1) 18 t 0) 21 t (-1)) 20 t (ml τ 3 c + y)) 18 t = 0 := (rl_l (by decide)).trans (rl_a.trans rl_s)
              rw [this]
              exact ⟨by decide, by decide⟩
            · have : ml (sml (sma (sml (sma τ 19 b 1) 18 b 0) 21 b (-1)) 20 b (ml τ 3 c + y)) 18 t = ml τ 18 t := (rl_n e).trans (rl_a.trans ((rl_n e).trans rl_a))
              rw [this]
              exact hw.2.2.2.2.2 t t1 t2
    · repeat rw [if_neg q1]
      exact ⟨rfl, RO_n h14⟩
  · rw [op_none b4, op_none b4, b5, if_neg (by decide), if_neg (by decide)]
    exact ⟨rfl, RO_n h14⟩
