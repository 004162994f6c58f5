-- SET, NEXT
theorem RS_cyc {M : AM} {S : HS} {σ : MS} {a : Nat} {v : Int64} (h : RS M S σ) (a1 : 1 ≤ a) (a2 : a ≤ nA σ) : RS M (sfl S 1 (aA M a) v) (sml σ 11 a v) := by
  obtain ⟨rb, ri, rc, ra, rt, rp⟩ := h
  refine ⟨rb, ri, fun c c1 c2 => ?_, fun b b1 b2 => ?_, rt, rp⟩
  · obtain ⟨k1, k2, k3, k3b, k4, k5⟩ := rc c c1 c2
    refine ⟨k1, k2, k3, k3b, ?_, ?_⟩
    · rw [aLs_cg (σ := σ) (σ' := sml σ 11 a v) rfl]; exact k4
    · rw [tLs_cg (σ := σ) (σ' := sml σ 11 a v) rfl]; exact k5
  · obtain ⟨k1, k2, k3, k4, k5, k6⟩ := ra b b1 b2
    refine ⟨k1, k2, k3, ?_, k5, k6⟩
    show up2 (fl S) 1 (aA M a) v 1 (aA M b) = up2 (ml σ) 11 a v 11 b
    by_cases e : b = a
    · subst e; rw [up2_self, up2_self]
    · rw [up2_a _ _ _ _ (fun q => e (ri.2.1 b a b1 b2 a1 a2 q)), up2_a _ _ _ _ e]; exact k4
theorem RC_set {M : AM} {x : Nat} {S : HS} {σ : MS} {a c : Nat} {v w : Int64} (h : RC M x S σ) (a1 : 1 ≤ a) (a2 : a ≤ nA σ) (c1 : 1 ≤ c) (c2 : c ≤ nC σ) (hC : nC σ ≤ 20) (hon : ma σ 6 a = nI c) : RC M x (wakeAt_S (sfl (sfl (sfi S 1 (aA M a) 1) 1 (aA M a) v) 0 (aA M a) w) (cA M c) w) (sml (sml (sma σ 9 a 1) 11 a v) 10 a w) := by
  obtain ⟨⟨hI, hR, hc, ha, ht, hn, hk⟩, hw⟩ := h
  have hR1 : RS M (sfl (sfi S 1 (aA M a) 1) 1 (aA M a) v) (sml (sma σ 9 a 1) 11 a v) := RS_cyc (RS_stc stc_9 (RS_Sc hR (Sc_sfi (by decide)))) a1 a2
  have hR2 : RS M (sfl (sfl (sfi S 1 (aA M a) 1) 1 (aA M a) v) 0 (aA M a) w) (sml (sml (sma σ 9 a 1) 11 a v) 10 a w) := RS_stc stc_10 (RS_Sc hR1 (Sc_sfl (by decide)))
  have hM : Sm M x nE (sfl (sfl (sfi S 1 (aA M a) 1) 1 (aA M a) v) 0 (aA M a) w) (sml (sml (sma σ 9 a 1) 11 a v) 10 a w) := by
    refine ⟨(sRel_sfl (sRel_sfl (sRel_sfi (by decide) hI).1).1).1, hR2, hc, fun b b1 b2 => ?_, ht, Dn_M (S := sfl (sfl (sfi S 1 (aA M a) 1) 1 (aA M a) v) 0 (aA M a) w) (σ := σ) hn rfl (fun j _ _ => funext fun _ => ra_l.trans (ra_l.trans (ra_a (by omega)))), hk⟩
    have hb := ha b b1 b2
    show up2 (fi S) 1 (aA M a) 1 1 (aA M b) = up2 (ma σ) 9 a 1 9 b ∧ (up2 (ma σ) 9 a 1 9 b = 0 ∨ up2 (ma σ) 9 a 1 9 b = 1) ∧ (¬ up2 (ma σ) 9 a 1 9 b = 0 → up2 (up2 (fl S) 1 (aA M a) v) 0 (aA M a) w 0 (aA M b) = up2 (up2 (ml σ) 11 a v) 10 a w 10 b)
    by_cases e : b = a
    · subst e
      rw [up2_self, up2_self, up2_self, up2_self]
      exact ⟨rfl, Or.inr rfl, fun _ => rfl⟩
    · have e2 : aA M b ≠ aA M a := fun q => e (hR.2.1.2.1 b a b1 b2 a1 a2 q)
      rw [up2_a _ _ _ _ e2, up2_a _ _ _ _ e, up2_a _ _ _ _ e2, up2_a _ _ _ _ e2, up2_a _ _ _ _ e, up2_a _ _ _ _ e]
      exact hb
  have h7 : ∀ z, fl (sfl (sfl (sfi S 1 (aA M a) 1) 1 (aA M a) v) 0 (aA M a) w) 7 z = fl S 7 z := fun z => rfl
  have e9 : ∀ b, b ≠ a → ma (sml (sml (sma σ 9 a 1) 11 a v) 10 a w) 9 b = ma σ 9 b := fun b e => ra_l.trans (ra_l.trans (ra_n e))
  have e10 : ∀ b, b ≠ a → ml (sml (sml (sma σ 9 a 1) 11 a v) 10 a w) 10 b = ml σ 10 b := fun b e => (rl_n e).trans ((rl_n e).trans rl_a)
  have e10s : ml (sml (sml (sma σ 9 a 1) 11 a v) 10 a w) 10 a = w := rl_s
  have e6 : ma (sml (sml (sma σ 9 a 1) 11 a v) 10 a w) 6 = ma σ 6 := rfl
  have e12 : ma (sml (sml (sma σ 9 a 1) 11 a v) 10 a w) 12 = ma σ 12 := rfl
  have e19 : ma (sml (sml (sma σ 9 a 1) 11 a v) 10 a w) 19 = ma σ 19 := rfl
  have e20 : ml (sml (sml (sma σ 9 a 1) 11 a v) 10 a w) 20 = ml σ 20 := rfl
  have eC : nC (sml (sml (sma σ 9 a 1) 11 a v) 10 a w) = nC σ := rfl
  have eA : nA (sml (sml (sma σ 9 a 1) 11 a v) 10 a w) = nA σ := rfl
  have eT : nT (sml (sml (sma σ 9 a 1) 11 a v) 10 a w) = nT σ := rfl
  generalize sml (sml (sma σ 9 a 1) 11 a v) 10 a w = τ at hM e9 e10 e10s e6 e12 e19 e20 eC eA eT
  generalize sfl (sfl (sfi S 1 (aA M a) 1) 1 (aA M a) v) 0 (aA M a) w = Z at hM h7
  refine ⟨Sm_wake hM, fun y y1 y2 => ?_⟩
  have hwy := hw y y1 (by omega)
  by_cases ey : y = c
  · subst ey
    have hmn := mn_le (d := w) (w := fl Z 7 (cA M y))
    refine ⟨fun b q1 q2 q3 q4 q5 => ?_, fun t q1 q2 q3 q4 q5 q6 => ?_⟩
    · rw [wakeAt_7]
      by_cases e : b = a
      · subst e
        rw [e10s]
        exact hmn.2
      · rw [e9 b e] at q5
        rw [e6] at q4
        rw [e10 b e]
        have := hwy.1 b q1 (by omega) (by omega) q4 q5
        rw [← h7] at this
        omega
    · rw [wakeAt_7, e20]
      rw [e12] at q4
      rw [e19] at q5
      have := hwy.2 t q1 (by omega) (by omega) q4 q5 q6
      rw [← h7] at this
      omega
  · have hn7 : fl (wakeAt_S Z (cA M c) w) 7 (cA M y) = fl S 7 (cA M y) := (up2_a _ _ _ _ (cA_ne hR c1 c2 y1 (by omega) ey)).trans (h7 _)
    refine ⟨fun b q1 q2 q3 q4 q5 => ?_, fun t q1 q2 q3 q4 q5 q6 => ?_⟩
    · rw [e6] at q4
      have e : b ≠ a := fun e => ey (nI_inj (by omega) (by omega) (by rw [← q4, e]; exact hon))
      rw [e9 b e] at q5
      rw [hn7, e10 b e]
      exact hwy.1 b q1 (by omega) (by omega) q4 q5
    · rw [hn7, e20]
      rw [e12] at q4
      rw [e19] at q5
      exact hwy.2 t q1 (by omega) (by omega) q4 q5 q6
/-- an alarm is set -/
theorem RO_set {M : AM} {x : Nat} {T : Nat → Nat → Bool} {n kt h0 t0 : Nat} {S : HS} {σ : MS} {a c : Nat} {v w : Int64} (h : RO M x T n kt h0 t0 S σ) (a1 : 1 ≤ a) (a2 : a ≤ nA σ) (c1 : 1 ≤ c) (c2 : c ≤ nC σ) (hon : ma σ 6 a = nI c) (hv : 0 ≤ v.toInt ∧ v.toInt ≤ 1000000000) : RO M x T (n + 1) kt h0 t0 (wakeAt_S (sfl (sfl (sfi S 1 (aA M a) 1) 1 (aA M a) v) 0 (aA M a) w) (cA M c) w) (sml (sml (sma σ 9 a 1) 11 a v) 10 a w) := by
  obtain ⟨r1, r2, r3, r4, r5, r6⟩ := h
  have hC := r5.2.1.1.1.2.1
  have s1 := sRel_sfi (k := 1) (a := aA M a) (v := 1) (by decide) r1.1.1
  have s2 := s1.tr (sRel_sfl (k := 1) (a := aA M a) (v := v) s1.1)
  have s3 := s2.tr (sRel_sfl (k := 0) (a := aA M a) (v := w) s2.1)
  have s4 := s3.tr (sRel_wakeAt (a := cA M c) (d := w) s3.1)
  have hcA : RC M x (wakeAt_S (sfl (sfl (sfi S 1 (aA M a) 1) 1 (aA M a) v) 0 (aA M a) w) (cA M c) w) (sml (sml (sma σ 9 a 1) 11 a v) 10 a w) := RC_set r1 a1 a2 c1 c2 hC hon
  refine ⟨hcA, ?_, ?_, ?_, MI_n ?_, RH_n (RH_sr r6 s4)⟩
  · obtain ⟨q1, q2, q3⟩ := r2
    exact ⟨q1, atOk_sfl (atOk_sfl (atOk_sfl (atOk_sfi (k := 1) (a := aA M a) (v := 1) q2 (by decide)))), q3⟩
  · obtain ⟨q1, q2, q3⟩ := r3
    refine ⟨fun d d1 d2 => ?_, q2, q3⟩
    rw [aLs_cg (σ := σ) (σ' := sml (sml (sma σ 9 a 1) 11 a v) 10 a w) rfl, tLs_cg (σ := σ) (σ' := sml (sml (sma σ 9 a 1) 11 a v) 10 a w) rfl]
    exact q1 d d1 d2
  · exact r4
  · obtain ⟨⟨g1, g2, g3, g4⟩, ⟨w1, w2, w3, w4, w5, w6⟩, gr, gx, gk⟩ := r5
    refine ⟨⟨g1, g2, ⟨g3.1, fun b hb => ?_, g3.2.2⟩, g4⟩, ⟨⟨w1.1, fun b b1 b2 => ?_, w1.2.2⟩, w2, w3, w4, w5, w6⟩, gr, gx, gk⟩
    · have hb : nA σ < b := hb
      have e : b ≠ a := by omega
      obtain ⟨z1, z2, z3⟩ := g3.2.1 b hb
      exact ⟨z1, (ra_l.trans (ra_l.trans (ra_n e))).trans z2, ((rl_n e).trans ((rl_n e).trans rl_a)).trans z3⟩
    · obtain ⟨k1, k2, k3, k4⟩ := w1.2.1 b b1 b2
      refine ⟨k1, k2, ?_⟩
      have e11 : ml (sml (sml (sma σ 9 a 1) 11 a v) 10 a w) 11 b = if b = a then v else ml σ 11 b := by
        refine (rl_l (by decide)).trans ?_
        by_cases e : b = a
        · subst e; rw [if_pos rfl]; exact rl_s
        · rw [if_neg e]; exact rl_n e
      rw [e11]
      split
      · exact hv
      · exact ⟨k3, k4⟩
theorem o_set {M : AM} {x : Nat} {T : Nat → Nat → Bool} {n kt h0 t0 : Nat} {S : HS} {σ : MS} (h : RO M x T n kt h0 t0 S σ) (hn5 : n ≤ 512) (a : Int32) (at_ cy : Int64) (ab : Int32) : set_R S x a at_ cy ab = Mset_R σ a at_ cy ab ∧ RO M x T (n + 1) kt h0 t0 (set_S S x a at_ cy ab) (Mset_S σ a at_ cy ab) := by
  have hO := h.2.2.2.2.1.1.1
  have h14 : RO M x T n kt h0 t0 S (smi σ 14 0) := RO_m h eqm_14
  have e14 : MnoAlarm_R (smi σ 14 0) a = MnoAlarm_R σ a := rfl
  have i1 : ((1 : Int32).toInt64) = (1 : Int64) := rfl
  have i0 : ((0 : Int32).toInt64) = (0 : Int64) := rfl
  unfold set_R Mset_R set_S Mset_S
  rw [e14, i1, i0]
  rcases fA h.2.1 hO a with ⟨b, b1, b2, b3, b4, b5⟩ | ⟨b4, b5⟩
  · have hA : b ≤ 100 := Nat.le_trans b2 h.2.2.2.2.1.2.1.1.1.2.2.1
    have hw := h14.2.2.2.2.1.2.1
    have hC : nC σ ≤ 20 := hw.1.1.2.1
    have hin : inC σ (ma σ 6 b) := (hw.1.2.1 b b1 b2).1
    obtain ⟨e6, bc⟩ := rg_cl (hi := nC σ) (hin.wk (by decide) (Int.le_refl _)) (by omega)
    have c1 : 1 ≤ (ma σ 6 b).toNatClampNeg := by
      have := hin.1
      rw [e6, nI_toInt (by omega)] at this
      omega
    have e2 : gd (fr S 2 (aA M b)) = cA M (ma σ 6 b).toNatClampNeg := by rw [(h.1.1.2.1.2.2.2.1 b b1 b2).2.2.1]; rfl
    rw [op_some b4, op_some b4, if_pos b5, if_pos b5, b3, nI_clamp (by omega), (h.1.1.2.2.2.1 b b1 b2).1, e2]
    have g2 : fl S 2 (cA M (ma σ 6 b).toNatClampNeg) = ml σ 0 (ma σ 6 b).toNatClampNeg := (h.1.1.2.1.2.2.1 _ c1 bc).2.1
    have g5 : fl S 5 (cA M (ma σ 6 b).toNatClampNeg) = mdl (ml σ 3 (ma σ 6 b).toNatClampNeg) (ml σ 0 (ma σ 6 b).toNatClampNeg) := (h.1.1.2.2.1 _ c1 bc).2
    have g6 : fl S 6 (cA M (ma σ 6 b).toNatClampNeg) = ml σ 3 (ma σ 6 b).toNatClampNeg := (h.1.1.2.2.1 _ c1 bc).1
    have hbs := (h.1.1.2.1.1 _ c1 bc).1
    have hst := hw.2.2.2.1 (ma σ 6 b).toNatClampNeg
    have hst : 0 ≤ (ml σ 3 (ma σ 6 b).toNatClampNeg).toInt ∧ (ml σ 3 (ma σ 6 b).toNatClampNeg).toInt ≤ 25000 * (n : Int) := hst
    generalize (ma σ 6 b).toNatClampNeg = c at *
    rw [g2]
    have ebd : ∀ d, becomeDue_S (sfl (sfi S 1 (aA M b) 1) 1 (aA M b) cy) (aA M b) d = wakeAt_S (sfl (sfl (sfi S 1 (aA M b) 1) 1 (aA M b) cy) 0 (aA M b) (ml σ 3 c + d)) (cA M c) (ml σ 3 c + d) := fun d => by
      have q13 : gd (fr (sfl (sfi S 1 (aA M b) 1) 1 (aA M b) cy) 2 (aA M b)) = cA M c := e2
      have q6 : fl (sfl (sfi S 1 (aA M b) 1) 1 (aA M b) cy) 6 (cA M c) = ml σ 3 c := g6
      unfold becomeDue_S
      rw [q13, q6]
    have esu : stepsUntil_R (sfl (sfi S 1 (aA M b) 1) 1 (aA M b) cy) (cA M c) at_ = if (0 : Int64) < at_ - mdl (ml σ 3 c) (ml σ 0 c) then at_ - mdl (ml σ 3 c) (ml σ 0 c) else at_ - mdl (ml σ 3 c) (ml σ 0 c) + ml σ 0 c := by
      have q5 : fl (sfl (sfi S 1 (aA M b) 1) 1 (aA M b) cy) 5 (cA M c) = mdl (ml σ 3 c) (ml σ 0 c) := g5
      have q2 : fl (sfl (sfi S 1 (aA M b) 1) 1 (aA M b) cy) 2 (cA M c) = ml σ 0 c := g2
      unfold stepsUntil_R
      rw [q5, q2]
    rw [ebd, ebd, esu]
    have emd : ml σ 3 c - ml σ 3 c / ml σ 0 c * ml σ 0 c = mdl (ml σ 3 c) (ml σ 0 c) := rfl
    rw [emd]
    have hmv := mdl_int (s := ml σ 3 c) (b := ml σ 0 c) hst.1 (by omega) hbs.1 hbs.2
    have hm0 := Int.emod_nonneg (ml σ 3 c).toInt (show (ml σ 0 c).toInt ≠ 0 by omega)
    have hm1 := Int.emod_lt_of_pos (ml σ 3 c).toInt (show 0 < (ml σ 0 c).toInt by omega)
    have z0 : (0 : Int64).toInt = 0 := rfl
    have z1 : (1 : Int64).toInt = 1 := rfl
    have z2 : (2 : Int64).toInt = 2 := rfl
    have eb1 : (ml σ 0 c - 1).toInt = (ml σ 0 c).toInt - 1 := by rw [i64_sub (by rw [z1]; omega) (by rw [z1]; omega), z1]
    have hlt : (ml σ 0 c - 1 < at_) ↔ ¬ at_ < ml σ 0 c := by rw [Int64.lt_iff_toInt_lt, Int64.lt_iff_toInt_lt, eb1]; omega
    have key : ∀ d, (cy = 0 ∨ (¬ cy < (2 : Int64) ∧ ¬ ml σ 0 c < cy)) → RO M x T (n + 1) kt h0 t0 (wakeAt_S (sfl (sfl (sfi S 1 (aA M b) 1) 1 (aA M b) cy) 0 (aA M b) (ml σ 3 c + d)) (cA M c) (ml σ 3 c + d)) (sml (sml (sma (smi σ 14 0) 9 b 1) 11 b cy) 10 b (ml σ 3 c + d)) := fun d hcy => RO_set h14 b1 b2 c1 bc e6 (by
      rcases hcy with e | ⟨e1, e2⟩
      · rw [e]; exact ⟨by decide, by decide⟩
      · rw [Int64.lt_iff_toInt_lt] at e1 e2
        omega)
    have hcond : ¬ at_ < (0 : Int64) → at_ < ml σ 0 c → ((0 : Int64) < at_ - mdl (ml σ 3 c) (ml σ 0 c) ↔ mdl (ml σ 3 c) (ml σ 0 c) < at_) := fun q1 q2 => by
      rw [Int64.lt_iff_toInt_lt] at q1 q2
      rw [Int64.lt_iff_toInt_lt, Int64.lt_iff_toInt_lt, i64_sub (by omega) (by omega)]
      omega
    generalize mdl (ml σ 3 c) (ml σ 0 c) = vv at *
    by_cases q0 : ma σ 9 b = 0
    · repeat rw [if_pos q0]
      by_cases qa : ab = 0
      · repeat rw [if_pos qa]
        by_cases q1 : at_ < (1 : Int64)
        · repeat rw [if_pos q1]
          exact ⟨rfl, RO_n h14⟩
        · repeat rw [if_neg q1]
          by_cases q2 : at_ < ml σ 0 c
          · have q2' : ¬ ml σ 0 c - 1 < at_ := fun z => hlt.mp z q2
            repeat rw [if_pos q2]
            repeat rw [if_neg q2']
            by_cases q3 : cy = 0
            · repeat rw [if_pos q3]
              exact ⟨rfl, key _ (Or.inl q3)⟩
            · repeat rw [if_neg q3]
              by_cases q4 : cy < (2 : Int64)
              · repeat rw [if_pos q4]
                exact ⟨rfl, RO_n h14⟩
              · repeat rw [if_neg q4]
                by_cases q5 : ml σ 0 c < cy
                · repeat rw [if_pos q5]
                  exact ⟨rfl, RO_n h14⟩
                · repeat rw [if_neg q5]
                  exact ⟨rfl, key _ (Or.inr ⟨q4, q5⟩)⟩
          · have q2' : ml σ 0 c - 1 < at_ := hlt.mpr q2
            repeat rw [if_neg q2]
            repeat rw [if_pos q2']
            exact ⟨rfl, RO_n h14⟩
      · repeat rw [if_neg qa]
        by_cases q1 : at_ < (0 : Int64)
        · repeat rw [if_pos q1]
          exact ⟨rfl, RO_n h14⟩
        · repeat rw [if_neg q1]
          by_cases q2 : at_ < ml σ 0 c
          · have q2' : ¬ ml σ 0 c - 1 < at_ := fun z => hlt.mp z q2
            have hcd := hcond q1 q2
            have fin : (cy = 0 ∨ (¬ cy < (2 : Int64) ∧ ¬ ml σ 0 c < cy)) → (1 : Int32) = (if vv < at_ then (1 : Int32) else 1) ∧ RO M x T (n + 1) kt h0 t0 (wakeAt_S (sfl (sfl (sfi S 1 (aA M b) 1) 1 (aA M b) cy) 0 (aA M b) (ml σ 3 c + (if (0 : Int64) < at_ - vv then at_ - vv else at_ - vv + ml σ 0 c))) (cA M c) (ml σ 3 c + (if (0 : Int64) < at_ - vv then at_ - vv else at_ - vv + ml σ 0 c))) (if vv < at_ then sml (sml (sma (smi σ 14 0) 9 b 1) 11 b cy) 10 b (ml σ 3 c + (at_ - vv)) else sml (sml (sma (smi σ 14 0) 9 b 1) 11 b cy) 10 b (ml σ 3 c + (at_ - vv + ml σ 0 c))) := fun hcy => by
              by_cases q6 : vv < at_
              · rw [if_pos q6, if_pos (hcd.mpr q6), if_pos q6]
                exact ⟨rfl, key _ hcy⟩
              · rw [if_neg q6, if_neg (fun z => q6 (hcd.mp z)), if_neg q6]
                exact ⟨rfl, key _ hcy⟩
            repeat rw [if_pos q2]
            repeat rw [if_neg q2']
            by_cases q3 : cy = 0
            · repeat rw [if_pos q3]
              exact fin (Or.inl q3)
            · repeat rw [if_neg q3]
              by_cases q4 : cy < (2 : Int64)
              · repeat rw [if_pos q4]
                exact ⟨rfl, RO_n h14⟩
              · repeat rw [if_neg q4]
                by_cases q5 : ml σ 0 c < cy
                · repeat rw [if_pos q5]
                  exact ⟨rfl, RO_n h14⟩
                · repeat rw [if_neg q5]
                  exact fin (Or.inr ⟨q4, q5⟩)
          · have q2' : ml σ 0 c - 1 < at_ := hlt.mpr q2
            repeat rw [if_neg q2]
            repeat rw [if_pos q2']
            exact ⟨rfl, RO_n h14⟩
    · repeat rw [if_neg q0]
      exact ⟨rfl, RO_n h14⟩
  · rw [op_none b4, op_none b4, b5, if_neg (by decide), if_neg (by decide)]
    exact ⟨rfl, RO_n h14⟩
-- next
theorem sRel_16 {t : Nat} {S : HS} {a : Nat} {v : Option Nat} (h : sInv S t) (hv : ∀ b, v = some b → kd S b = 7) : sInv (sfr S 16 a v) t ∧ phi (sfr S 16 a v) t = phi S t ∧ psi (sfr S 16 a v) t = psi S t := by
  have e : ∀ k, k ≠ 16 → fr (sfr S 16 a v) k = fr S k := fun k hk => funext fun x => up2_k _ _ _ _ hk
  obtain ⟨h1, h2, h3, h4, h5, h9, h10⟩ := h
  refine ⟨⟨⟨h1.1.sfr _ _ _ hv, h1.2⟩, h2, nn_sfr h3 (Or.inl rfl), ?_, ?_, ?_, ?_⟩, ?_, ?_⟩
  · intro b hb
    rw [e 10 (by decide)]
    exact h4 b hb
  · unfold kpOk pgA kpN ntA
    rw [e 21 (by decide), e 9 (by decide)]
    exact h5
  · intro c hc
    rw [e 5 (by decide), e 4 (by decide)]
    exact h9 c hc
  · intro c hc
    rw [e 7 (by decide), e 17 (by decide)]
    exact h10 c hc
  · unfold phi kpN ntA
    rw [e 21 (by decide)]
    rfl
  · unfold psi kpN ntA
    rw [e 21 (by decide)]
    rfl
theorem RO_next {M : AM} {x : Nat} {T : Nat → Nat → Bool} {n kt h0 t0 : Nat} {S : HS} {σ : MS} {u : Nat} {v : Int32} (h : RO M x T n kt h0 t0 S σ) (u1 : 1 ≤ u) (u2 : u ≤ nT σ) (hv : rg 0 (nT σ) v) (hon : v ≠ 0 → ma σ 12 v.toNatClampNeg = ma σ 12 u) : RO M x T (n + 1) kt h0 t0 (sfr S 16 (tA M u) (if v = 0 then none else some (tA M v.toNatClampNeg))) (sma σ 17 u v) := by
  obtain ⟨⟨⟨hI, hR, hc, ha, ht, hn, hk⟩, hw⟩, r2, r3, r4, r5, r6⟩ := h
  have hT := r5.2.1.1.1.2.2.2
  have hvb : v ≠ 0 → 1 ≤ v.toNatClampNeg ∧ v.toNatClampNeg ≤ nT σ := fun z => by
    obtain ⟨e, b⟩ := rg_cl (hi := nT σ) hv (by omega)
    refine ⟨?_, b⟩
    rcases Nat.eq_zero_or_pos v.toNatClampNeg with q | q
    · exact absurd (by rw [e, q]; rfl) z
    · exact q
  have hkd : ∀ b, (if v = 0 then none else some (tA M v.toNatClampNeg)) = some b → kd S b = 7 := fun b hb => by
    by_cases z : v = 0
    · rw [if_pos z] at hb; cases hb
    · rw [if_neg z] at hb
      cases hb
      exact (hR.2.2.2.2.1 _ (hvb z).1 (hvb z).2).1
  obtain ⟨s1, s2, s3⟩ := sRel_16 (a := tA M u) hI hkd
  generalize hvo : (if v = 0 then none else some (tA M v.toNatClampNeg)) = vo at hkd s1 s2 s3
  have er : ∀ k, k ≠ 16 → fr (sfr S 16 (tA M u) vo) k = fr S k := fun k hk => funext fun a => up2_k _ _ _ _ hk
  have em : ∀ j, j ≠ 17 → ma (sma σ 17 u v) j = ma σ j := fun j hj => funext fun a => ra_a hj
  have hR2 : RS M (sfr S 16 (tA M u) vo) (sma σ 17 u v) := by
    obtain ⟨rb, ri, rc, ra, rt, rp⟩ := hR
    refine ⟨rb, ri, fun c c1 c2 => ?_, ra, fun t t1 t2 => ?_, rp⟩
    · rw [aLs_cg (em 6 (by decide)), tLs_cg (em 12 (by decide))]
      exact rc c c1 c2
    · obtain ⟨k1, k2, k3, k4, k5, k6⟩ := rt t t1 t2
      refine ⟨k1, k2, k3, k4, ?_, k6⟩
      by_cases e : t = u
      · subst e
        rw [show ma (sma σ 17 t v) 17 t = v from ra_s, hvo]
        exact up2_self _ _ _ _
      · rw [show ma (sma σ 17 u v) 17 t = ma σ 17 t from ra_n e, ← k5]
        exact up2_a _ _ _ _ (tA_ne ⟨rb, ri, rc, ra, rt, rp⟩ u1 u2 t1 t2 e)
  refine ⟨⟨⟨s1, hR2, hc, ha, ht, Dn_M (S := sfr S 16 (tA M u) vo) (σ := σ) hn rfl (fun j _ _ => em j (by omega)), hk⟩, fun y y1 y2 => hw y y1 y2⟩, ?_, ?_, r4, MI_n ?_, RH_n ⟨by rw [s2]; exact r6.1, by rw [s3]; exact r6.2⟩⟩
  · obtain ⟨q1, q2, q3⟩ := r2
    exact ⟨q1, atOk_sfr q2 (by decide), q3⟩
  · obtain ⟨q1, q2, q3⟩ := r3
    refine ⟨fun c c1 c2 => ?_, q2, q3⟩
    rw [aLs_cg (em 6 (by decide)), tLs_cg (em 12 (by decide))]
    exact q1 c c1 c2
  · obtain ⟨⟨g1, g2, g3, g4⟩, ⟨w1, w2, w3, w4, w5, w6⟩, gr, gx, gk⟩ := r5
    refine ⟨⟨mOk_w17 g1 (hv.wk (Int.le_refl _) (by omega)), g2, ⟨g3.1, g3.2.1, fun t ht => ?_⟩, g4⟩, ⟨⟨w1.1, w1.2.1, fun t t1 t2 => ?_⟩, w2, w3, w4, w5, w6⟩, gr, gx, gk⟩
    · have ht : nT σ < t := ht
      obtain ⟨z1, z2, z3, z4⟩ := g3.2.2 t ht
      exact ⟨z1, z2, (ra_n (by omega)).trans z3, z4⟩
    · obtain ⟨k1, ⟨k2, k3⟩, k4⟩ := w1.2.2 t t1 t2
      refine ⟨k1, ?_, k4⟩
      by_cases e : t = u
      · subst e
        rw [show ma (sma σ 17 t v) 17 t = v from ra_s]
        exact ⟨hv, hon⟩
      · rw [show ma (sma σ 17 u v) 17 t = ma σ 17 t from ra_n e]
        exact ⟨k2, k3⟩
theorem o_next {M : AM} {x : Nat} {T : Nat → Nat → Bool} {n kt h0 t0 : Nat} {S : HS} {σ : MS} (h : RO M x T n kt h0 t0 S σ) (t o : Int32) : next_R S x t o = Mnext_R σ t o ∧ RO M x T (n + 1) kt h0 t0 (next_S S x t o) (Mnext_S σ t o) := by
  have hO := h.2.2.2.2.1.1.1
  have h14 : RO M x T n kt h0 t0 S (smi σ 14 0) := RO_m h eqm_14
  have f1 : MnoTable_R σ t = MnoTable_R (smi σ 14 0) t := rfl
  unfold next_R Mnext_R next_S Mnext_S
  rw [MnoTable_e, f1]
  generalize smi σ 14 0 = τ at h14
  have hOτ := h14.2.2.2.2.1.1.1
  rcases fT h14.2.1 hOτ t with ⟨b, b1, b2, b3, b4, b5⟩ | ⟨b4, b5⟩
  · have hT := h14.2.2.2.2.1.2.1.1.1.2.2.2
    have hC := h14.2.2.2.2.1.2.1.1.1.2.1
    have h17 : mi τ 17 = nI (nT τ) := (cnt_eq (N := 20) hOτ.2.2.1 (by decide)).1
    have k13b := (h14.1.1.2.1.2.2.2.2.1 b b1 b2).2.2.1
    rw [op_some b4, op_some b4, if_pos b5, if_pos b5, b3, nI_clamp (by omega), k13b]
    rcases fT h14.2.1 hOτ o with ⟨d, d1, d2, d3, d4, d5⟩ | ⟨d4, d5⟩
    · have o0 : ¬ o = 0 := fun z => by rw [z] at d3; have := congrArg Int32.toNatClampNeg d3; rw [nI_clamp (by omega)] at this; have e : (0 : Int32).toNatClampNeg = 0 := rfl; omega
      have o1 : ¬ o < 0 := by rw [d3, show (0 : Int32) = nI 0 from rfl, nI_ltI (by omega) (by decide)]; omega
      have o2 : o ≤ mi τ 17 := by rw [d3, h17, nI_leI (by omega) (by omega)]; exact d2
      have o3 : ¬ o ≤ 0 := by rw [d3]; exact nI_npos d1 (by omega)
      have k13d := (h14.1.1.2.1.2.2.2.2.1 d d1 d2).2.2.1
      have eod : o.toNatClampNeg = d := by rw [d3, nI_clamp (by omega)]
      repeat rw [if_neg o0]
      repeat rw [if_neg o1]
      repeat rw [if_pos o2]
      repeat rw [if_neg o3]
      rw [op_some d4, op_some d4, k13d, eod]
      have hi1 := (Cf_t h14.2.2.2.2.1.2.1.1 b1 b2).1
      have hi2 := (Cf_t h14.2.2.2.2.1.2.1.1 d1 d2).1
      obtain ⟨e1, v1⟩ := rg_cl (hi := nC τ) (hi1.wk (by decide) (Int.le_refl _)) (by omega)
      obtain ⟨e2, v2⟩ := rg_cl (hi := nC τ) (hi2.wk (by decide) (Int.le_refl _)) (by omega)
      have p1 : 1 ≤ (ma τ 12 b).toNatClampNeg := by
        have := hi1.1
        rw [e1, nI_toInt (by omega)] at this
        omega
      have p2 : 1 ≤ (ma τ 12 d).toNatClampNeg := by
        have := hi2.1
        rw [e2, nI_toInt (by omega)] at this
        omega
      have hiff : (some (cA M (ma τ 12 d).toNatClampNeg) = some (cA M (ma τ 12 b).toNatClampNeg)) ↔ ma τ 12 d = ma τ 12 b := ⟨fun z => by rw [e1, e2, h14.1.1.2.1.2.1.1 _ _ p2 v2 p1 v1 (Option.some.inj z)], fun z => by rw [z]⟩
      by_cases q : ma τ 12 d = ma τ 12 b
      · have q' := hiff.mpr q
        repeat rw [if_pos q]
        repeat rw [if_pos q']
        refine ⟨rfl, ?_⟩
        have := RO_next (v := o) h14 b1 b2 (by rw [d3]; exact rg_nI0 d2 (by omega)) (fun _ => by rw [eod]; exact q)
        rw [if_neg o0, eod] at this
        exact this
      · have q' : ¬ some (cA M (ma τ 12 d).toNatClampNeg) = some (cA M (ma τ 12 b).toNatClampNeg) := fun z => q (hiff.mp z)
        repeat rw [if_neg q]
        repeat rw [if_neg q']
        exact ⟨rfl, RO_n h14⟩
    · by_cases o0 : o = 0
      · subst o0
        have hz : (0 : Int32) ≤ mi τ 17 := by rw [h17, show (0 : Int32) = nI 0 from rfl, nI_leI (by decide) (by omega)]; omega
        have w1 : ¬ (0 : Int32) < 0 := by decide
        have w2 : (0 : Int32) ≤ 0 := by decide
        have w3 : (0 : Int32) = 0 := rfl
        repeat rw [if_pos w3]
        rw [op_none d4, op_none d4]
        repeat rw [if_neg w1]
        repeat rw [if_pos hz]
        repeat rw [if_pos w2]
        rw [d4]
        refine ⟨rfl, ?_⟩
        have := RO_next (v := 0) h14 b1 b2 ⟨by decide, by have : (0 : Int32).toInt = 0 := rfl; omega⟩ (fun z => absurd rfl z)
        rw [if_pos rfl] at this
        exact this
      · repeat rw [if_neg o0]
        rw [op_none d4, op_none d4]
        by_cases q1 : o < 0
        · repeat rw [if_pos q1]
          exact ⟨rfl, RO_n h14⟩
        · repeat rw [if_neg q1]
          have q2 : ¬ o ≤ mi τ 17 := fun z => by
            unfold MnoTable_R at d5
            have z1 : ¬ o < (1 : Int32) := fun y => by
              rw [Int32.lt_iff_toInt_lt] at y q1
              have w1 : (1 : Int32).toInt = 1 := rfl
              have w0 : (0 : Int32).toInt = 0 := rfl
              exact o0 (Int32.toInt_inj.mp (by rw [w0]; omega))
            rw [if_neg z1, if_pos z] at d5
            exact absurd d5 (by decide)
          repeat rw [if_neg q2]
          exact ⟨rfl, RO_n h14⟩
  · rw [op_none b4, op_none b4, b5, if_neg (by decide), if_neg (by decide)]
    exact ⟨rfl, RO_n h14⟩
