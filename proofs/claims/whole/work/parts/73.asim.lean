-- AN ALARM'S TURN
def SimR (rk : Nat → Nat) (M : AM) (x : Nat) (Bm : Int) (k : Nat) (rc : HS → Nat → HS) (rm : MS → Int32 → MS) : Prop := ∀ (B : Int) (E : Nat → Prop) (S : HS) (σ : MS) (c : Nat), Iv rk B σ → B + 1 ≤ Bm → 1 ≤ c → c ≤ nC σ → rk c < k → pot σ + wN σ < 2 ^ 31 → (∀ t, 1 ≤ t → t ≤ nT σ → E t → rk c < rk ((ma σ 12 t).toNatClampNeg)) → Ps rk M x E c (nA σ + 1) (nT σ + 1) S σ → Ps rk M x E c (nA σ + 1) (nT σ + 1) (rc S (cA M c)) (rm σ (nI c)) ∧ Ou rk M c σ S (rc S (cA M c))
theorem pf_none {S : HS} {x q : Nat} {dp : Int32} {rc : HS → Nat → HS} (h1 : fr S 1 q = none) (h0 : fr S 0 q = none) : perform_S S x q dp rc = S := (op_none h1).trans (op_none h0)
theorem pf_cancel {S : HS} {x q b : Nat} {dp : Int32} {rc : HS → Nat → HS} (h1 : fr S 1 q = some b) (h0 : fr S 0 q = none) : perform_S S x q dp rc = sfi S 1 b 0 := (op_some h1).trans (op_none h0)
theorem pf_step {S : HS} {x q b : Nat} {dp : Int32} {rc : HS → Nat → HS} (h1 : fr S 1 q = none) (h0 : fr S 0 q = some b) : perform_S S x q dp rc = if (20000 : Int32) ≤ fi S 13 x then S else if (20 : Int32) ≤ dp then S else rc (sfi S 13 x (fi S 13 x + 1)) b := (op_none h1).trans (op_some h0)
theorem Ps.wk {rk : Nat → Nat} {M : AM} {x : Nat} {E : Nat → Prop} {c a0 t0 : Nat} {S : HS} {σ : MS} (h : Ps rk M x E c a0 t0 S σ) : WkP M E c a0 t0 S σ := h.2.2
theorem by_sim {rk : Nat → Nat} {M : AM} {x : Nat} {Bm B : Int} {k : Nat} {rc : HS → Nat → HS} {rm : MS → Int32 → MS} (hS : SimR rk M x Bm k rc rm) (hR : RecOk rk k Bm rm) {E : Nat → Prop} {S : HS} {σ : MS} {c y a0 t0 : Nat} {dp : Int32} (hP : Ps rk M x E c a0 t0 S σ) (hI : Iv rk B σ) (hB : B ≤ Bm) (c2 : c ≤ nC σ) (y1 : 1 ≤ y) (y2 : y ≤ nC σ) (hy : rk y < rk c) (hk : rk c ≤ k) (hdp : k ≠ 0 → ¬ (20 : Int32) ≤ dp) (hb : pot σ < 2 ^ 31) (hE : ∀ t, 1 ≤ t → t ≤ nT σ → E t → rk c ≤ rk ((ma σ 12 t).toNatClampNeg)) :
    Ps rk M x E c a0 t0 (if (20000 : Int32) ≤ fi S 13 x then S else if (20 : Int32) ≤ dp then S else rc (sfi S 13 x (fi S 13 x + 1)) (cA M y)) (spBy rm σ (nI y)) ∧ Ou rk M c σ S (if (20000 : Int32) ≤ fi S 13 x then S else if (20 : Int32) ≤ dp then S else rc (sfi S 13 x (fi S 13 x + 1)) (cA M y)) := by
  have e13 : fi S 13 x = mi σ 19 := hP.1.2.2.2.2.2.2
  have hC := hI.1.1.2.1
  unfold spBy
  by_cases q : mi σ 19 = (20000 : Int32)
  · rw [if_pos (by rw [e13, q]; decide), if_pos q]
    exact ⟨hP, Ou.rf S⟩
  · have hl := act_lt hI.2.1 q
    rw [if_neg (by rw [e13, hI.2.1.1, show (20000 : Int32) = nI 20000 from rfl, nI_leI (by decide) (by omega)]; omega), if_neg (hdp (by omega)), if_neg q]
    obtain ⟨i1, i2⟩ := act_up hI q
    rw [e13]
    have hs1 : stc σ (smi σ 19 (mi σ 19 + 1)) := stc_smi (by decide) (by decide) (by decide)
    have hF1 : Fm rk (rk y) σ (smi σ 19 (mi σ 19 + 1)) := Fm_act
    have hM1 : Sm M x E (sfi S 13 x (mi σ 19 + 1)) (smi σ 19 (mi σ 19 + 1)) := Sm_act hP.1
    have hW1 : ∀ z a1 t1, WkP M E z a1 t1 S σ → WkP M E z a1 t1 (sfi S 13 x (mi σ 19 + 1)) (smi σ 19 (mi σ 19 + 1)) := fun z a1 t1 h => WkP_fr h hs1 rfl (fun _ _ _ _ => ⟨rfl, id⟩) (fun _ _ _ _ => ⟨rfl, rfl⟩)
    have hO1 : Sc S (sfi S 13 x (mi σ 19 + 1)) := Sc_sfi (by decide)
    have h71 : ∀ z, fl (sfi S 13 x (mi σ 19 + 1)) 7 z = fl S 7 z := fun _ => rfl
    have e12 : ma (smi σ 19 (mi σ 19 + 1)) 12 = ma σ 12 := rfl
    have eC : nC (smi σ 19 (mi σ 19 + 1)) = nC σ := rfl
    have eA : nA (smi σ 19 (mi σ 19 + 1)) = nA σ := rfl
    have eT : nT (smi σ 19 (mi σ 19 + 1)) = nT σ := rfl
    have ew : wN (smi σ 19 (mi σ 19 + 1)) = wN σ := rfl
    generalize smi σ 19 (mi σ 19 + 1) = τ at i1 i2 hs1 hF1 hM1 hW1 e12 eC eA eT ew
    generalize sfi S 13 x (mi σ 19 + 1) = Z at hM1 hW1 hO1 h71
    have hPy : Ps rk M x E y (nA τ + 1) (nT τ + 1) Z τ := by
      refine ⟨hM1, fun z z1 z2 z3 z4 => ?_, ?_⟩
      · rw [eA, eT]
        exact hW1 _ _ _ (hP.2.1 z z1 (by omega) (fun e => by subst e; omega) (by omega))
      · rw [eA, eT]
        exact hW1 _ _ _ (hP.2.1 y y1 y2 (fun e => by subst e; omega) (by omega))
    obtain ⟨r1, r2⟩ := hS (B - 1) E Z τ y i1 (by omega) y1 (by omega) (by omega) (by omega) (fun t t1 t2 t3 => by
      have := hE t t1 (by omega) t3
      rw [e12]
      omega) hPy
    have r3 := hR (B - 1) τ (nI y) i1 (by omega) (by show rg 1 (nC τ) (nI y); rw [eC]; exact rg_nI y1 y2 (by omega)) (by rw [nI_clamp (by omega)]; omega) (by omega)
    rw [nI_clamp (by omega)] at r3
    have hF := hF1.tr r3.2.1
    have hs2 := r3.2.1.1
    have eA2 := nA_stc hs2
    have eT2 := nT_stc hs2
    have eC2 := nC_stc hs2
    generalize rm τ (nI y) = τ2 at r1 r3 hF hs2 eA2 eT2 eC2
    generalize rc Z (cA M y) = Z2 at r1 r2
    have h72 : ∀ z, 1 ≤ z → z ≤ nC σ → rk y < rk z → fl Z2 7 (cA M z) = fl S 7 (cA M z) := fun z z1 z2 z3 => (r2.2 z z1 (by omega) z3).trans (h71 _)
    refine ⟨⟨r1.1, fun z z1 z2 z3 z4 => ?_, ?_⟩, hO1.tr r2.1, fun z z1 z2 z3 => h72 z z1 z2 (by omega)⟩
    · rw [eA2, eT2]
      by_cases e : z = y
      · subst e
        exact r1.2.2
      · by_cases e2 : rk z ≤ rk y
        · have := r1.2.1 z z1 z2 e e2
          rw [eA2, eT2] at this
          exact this
        · have := WkP_Fm (hP.2.1 z z1 (by omega) z3 z4) (by omega) hF (by omega) (h72 z z1 (by omega) (by omega))
          rw [eA, eT]
          exact this
    · rcases Nat.eq_zero_or_pos c with c0 | c0
      · subst c0
        have h7 : fl Z2 7 (cA M 0) = fl S 7 (cA M 0) ∨ True := Or.inr trivial
        refine ⟨fun a a1 a2 a3 a4 a5 => ?_, fun t t1 t2 t3 t4 t5 t6 => ?_⟩
        · rw [eA2, eA] at a3
          rw [hF.1.2.1 6 (by decide)] at a4
          have := (hI.1.2.1 a a1 a3).1.1
          rw [a4] at this
          exact absurd this (by decide)
        · rw [eT2, eT] at t3
          rw [hF.1.2.1 12 (by decide)] at t4
          have := (hI.1.2.2 t t1 t3).1.1
          rw [t4] at this
          exact absurd this (by decide)
      · exact WkP_Fm hP.2.2 (by omega) hF (by omega) (h72 c c0 c2 hy)
theorem cA_ne {M : AM} {S : HS} {σ : MS} (h : RS M S σ) {c d : Nat} (c1 : 1 ≤ c) (c2 : c ≤ nC σ) (d1 : 1 ≤ d) (d2 : d ≤ nC σ) (e : d ≠ c) : cA M d ≠ cA M c := fun q => e (h.2.1.1 d c d1 d2 c1 c2 q)
theorem Ps_wake {rk : Nat → Nat} {M : AM} {x : Nat} {E : Nat → Prop} {c a0 t0 : Nat} {S : HS} {σ : MS} {v : Int64} (h : Ps rk M x E c a0 t0 S σ) (c1 : 1 ≤ c) (c2 : c ≤ nC σ) (hv : v.toInt ≤ (fl S 7 (cA M c)).toInt) : Ps rk M x E c a0 t0 (sfl S 7 (cA M c) v) σ ∧ Ou rk M c σ S (sfl S 7 (cA M c) v) := by
  obtain ⟨h1, h2, h3⟩ := h
  have hn : ∀ z, 1 ≤ z → z ≤ nC σ → z ≠ c → fl (sfl S 7 (cA M c) v) 7 (cA M z) = fl S 7 (cA M z) := fun z z1 z2 z3 => up2_a _ _ _ _ (cA_ne h1.2.1 c1 c2 z1 z2 z3)
  have hs : fl (sfl S 7 (cA M c) v) 7 (cA M c) = v := up2_self _ _ _ _
  refine ⟨⟨Sm_wake h1, fun z z1 z2 z3 z4 => WkP_S (h2 z z1 z2 z3 z4) (hn z z1 z2 z3), fun a q1 q2 q3 q4 q5 => ?_, fun t q1 q2 q3 q4 q5 q6 => ?_⟩, Sc_sfl (by decide), fun z z1 z2 z3 => hn z z1 z2 (fun e => by subst e; omega)⟩
  · rw [hs]
    have := h3.1 a q1 q2 q3 q4 q5
    omega
  · rw [hs]
    have := h3.2 t q1 q2 q3 q4 q5 q6
    omega
theorem mn_le {d w : Int64} : (if d < w then d else w).toInt ≤ w.toInt ∧ (if d < w then d else w).toInt ≤ d.toInt := by
  split
  · rename_i h
    rw [Int64.lt_iff_toInt_lt] at h
    omega
  · rename_i h
    rw [Int64.lt_iff_toInt_lt] at h
    omega
theorem wakeAt_7 {S : HS} {b : Nat} {d : Int64} : fl (wakeAt_S S b d) 7 b = if d < fl S 7 b then d else fl S 7 b := up2_self _ _ _ _
theorem Ps_a {rk : Nat → Nat} {M : AM} {x : Nat} {E : Nat → Prop} {c a t0 : Nat} {S : HS} {σ : MS} (h : Ps rk M x E c a t0 S σ) (hn : ma σ 6 a = nI c → ¬ ma σ 9 a = 0 → (fl S 7 (cA M c)).toInt ≤ (ml σ 10 a).toInt) : Ps rk M x E c (a + 1) t0 S σ := by
  obtain ⟨h1, h2, h3⟩ := h
  refine ⟨h1, h2, fun b q1 q2 q3 q4 q5 => ?_, h3.2⟩
  by_cases e : b = a
  · subst e; exact hn q4 q5
  · exact h3.1 b q1 (by omega) q3 q4 q5
theorem Ps_note {rk : Nat → Nat} {M : AM} {x : Nat} {E : Nat → Prop} {c a0 t0 : Nat} {S : HS} {σ : MS} {kn nb : Int32} {of_ : Int64} (h : Ps rk M x E c a0 t0 S σ) (he : mi σ 18 = nI (exN σ)) (hb : exN σ + 1 < 2 ^ 31) (c1 : 1 ≤ c) (c2 : c ≤ nC σ) (c3 : c < 2 ^ 31) : Ps rk M x E c a0 t0 (add_S S (ntA S x) kn nb of_ (fl S 5 (cA M c))) (Mnote_S σ kn nb of_ (nI c)) ∧ Ou rk M c σ S (add_S S (ntA S x) kn nb of_ (fl S 5 (cA M c))) := by
  obtain ⟨h1, h2, h3⟩ := h
  have hM := Sm_note (kn := kn) (nb := nb) (of_ := of_) h1 he hb c1 c2 c3
  have hs : stc σ (Mnote_S σ kn nb of_ (nI c)) := stc_note
  have h7 : ∀ z, 1 ≤ z → z ≤ nC σ → fl (add_S S (ntA S x) kn nb of_ (fl S 5 (cA M c))) 7 (cA M z) = fl S 7 (cA M z) := fun z z1 z2 => (add_live h1.1 (by rw [(h1.2.1.2.2.1 z z1 z2).1]; decide)).2.1 7
  have hW : ∀ z a1 t1, 1 ≤ z → z ≤ nC σ → WkP M E z a1 t1 S σ → WkP M E z a1 t1 (add_S S (ntA S x) kn nb of_ (fl S 5 (cA M c))) (Mnote_S σ kn nb of_ (nI c)) := fun z a1 t1 z1 z2 h => WkP_fr h hs (h7 z z1 z2) (fun a _ _ _ => ⟨by rw [Mnote_ml], fun q => by rw [Mnote_ma (by decide)]; exact q⟩) (fun t _ _ _ => ⟨by rw [Mnote_ma (by decide)], by rw [Mnote_ml]⟩)
  refine ⟨⟨hM, fun z z1 z2 z3 z4 => ?_, hW c _ _ c1 c2 h3⟩, Sc_add h1.1, fun z z1 z2 _ => h7 z z1 z2⟩
  rw [nC_stc hs] at z2
  rw [nA_stc hs, nT_stc hs]
  exact hW z _ _ z1 z2 (h2 z z1 z2 z3 z4)
theorem Ps_cancel {rk : Nat → Nat} {M : AM} {x : Nat} {E : Nat → Prop} {c a0 t0 b : Nat} {S : HS} {σ : MS} (h : Ps rk M x E c a0 t0 S σ) (b1 : 1 ≤ b) (b2 : b ≤ nA σ) : Ps rk M x E c a0 t0 (sfi S 1 (aA M b) 0) (sma σ 9 b 0) ∧ Ou rk M c σ S (sfi S 1 (aA M b) 0) := by
  obtain ⟨h1, h2, h3⟩ := h
  have hW : ∀ z a1 t1, WkP M E z a1 t1 S σ → WkP M E z a1 t1 (sfi S 1 (aA M b) 0) (sma σ 9 b 0) := fun z a1 t1 h => WkP_fr h stc_9 rfl (fun a _ _ _ => ⟨rfl, fun q => by
    show up2 (ma σ) 9 b 0 9 a = 0
    by_cases e : a = b
    · subst e; exact up2_self _ _ _ _
    · rw [up2_a _ _ _ _ e]; exact q⟩) (fun t _ _ _ => ⟨rfl, rfl⟩)
  exact ⟨⟨Sm_cancel h1 b1 b2, fun z z1 z2 z3 z4 => hW _ _ _ (h2 z z1 z2 z3 z4), hW _ _ _ h3⟩, Sc_sfi (by decide), fun _ _ _ _ => rfl⟩
theorem Sm_fire1 {M : AM} {x : Nat} {E : Nat → Prop} {S : HS} {σ : MS} {a : Nat} {w : Int64} (h : Sm M x E S σ) (a1 : 1 ≤ a) (a2 : a ≤ nA σ) (hv : ma σ 9 a = 1) : Sm M x E (sfl S 0 (aA M a) w) (sml (sma σ 9 a 1) 10 a w) := by
  obtain ⟨hI, hR, hc, ha, ht, hn, hk⟩ := h
  refine ⟨(sRel_sfl hI).1, RS_stc (stc_9.tr stc_10) (RS_Sc hR (Sc_sfl (Or.inl rfl))), hc, fun b b1 b2 => ?_, ht, Dn_M (S := sfl S 0 (aA M a) w) (σ := σ) hn rfl (fun j _ _ => funext fun _ => ra_l.trans (ra_a (by omega))), hk⟩
  have hb := ha b b1 b2
  show fi S 1 (aA M b) = up2 (ma σ) 9 a 1 9 b ∧ (up2 (ma σ) 9 a 1 9 b = 0 ∨ up2 (ma σ) 9 a 1 9 b = 1) ∧ (¬ up2 (ma σ) 9 a 1 9 b = 0 → up2 (fl S) 0 (aA M a) w 0 (aA M b) = up2 (ml σ) 10 a w 10 b)
  by_cases e : b = a
  · subst e
    rw [up2_self, up2_self, up2_self]
    exact ⟨hb.1.trans hv, Or.inr rfl, fun _ => rfl⟩
  · have e2 : aA M b ≠ aA M a := fun q => e (hR.2.1.2.1 b a b1 b2 a1 a2 q)
    rw [up2_a _ _ _ _ e, up2_a _ _ _ _ e2, up2_a _ _ _ _ e]
    exact hb
/-- the model's alarm a of counter c is set anew: the others stay -/
theorem WkP_al {M : AM} {E : Nat → Prop} {z c a a1 t1 : Nat} {S S' : HS} {σ : MS} {v : Int32} {w : Int64} (h : WkP M E z a1 t1 S σ) (hz : z < 2 ^ 31) (hc : c < 2 ^ 31) (hzc : z ≠ c) (ha : ma σ 6 a = nI c) (h7 : fl S' 7 (cA M z) = fl S 7 (cA M z)) : WkP M E z a1 t1 S' (sml (sma σ 9 a v) 10 a w) := by
  refine WkP_fr h (stc_9.tr stc_10) h7 (fun b _ _ e => ?_) (fun t _ _ _ => ⟨rfl, rfl⟩)
  have eb : b ≠ a := fun q => hzc (nI_inj hz hc (by rw [← e, q]; exact ha))
  exact ⟨rl_n eb, fun q => ra_l.trans ((ra_n eb).trans q)⟩
theorem Ps_fire0 {rk : Nat → Nat} {M : AM} {x : Nat} {E : Nat → Prop} {c a t0 : Nat} {S : HS} {σ : MS} {w : Int64} (h : Ps rk M x E c a t0 S σ) (c2 : c ≤ nC σ) (hC : nC σ ≤ 20) (a1 : 1 ≤ a) (a2 : a ≤ nA σ) (ha : ma σ 6 a = nI c) : Ps rk M x E c (a + 1) t0 (sfi S 1 (aA M a) 0) (sml (sma σ 9 a 0) 10 a w) ∧ Ou rk M c σ S (sfi S 1 (aA M a) 0) := by
  obtain ⟨h1, h2, h3⟩ := h
  refine ⟨⟨Sm_off h1 a1 a2, fun z z1 z2 z3 z4 => WkP_al (h2 z z1 z2 z3 z4) (by have : z ≤ nC σ := z2; omega) (by omega) z3 ha rfl, fun b q1 q2 q3 q4 q5 => ?_, h3.2⟩, Sc_sfi (by decide), fun _ _ _ _ => rfl⟩
  have eb : b ≠ a := fun e => q5 (by subst e; exact ra_l.trans ra_s)
  rw [rl_n eb]
  exact h3.1 b q1 (by omega) q3 q4 (fun z => q5 (ra_l.trans ((ra_n eb).trans z)))
theorem Ps_fire1 {rk : Nat → Nat} {M : AM} {x : Nat} {E : Nat → Prop} {c a t0 : Nat} {S : HS} {σ : MS} {w : Int64} (h : Ps rk M x E c a t0 S σ) (c1 : 1 ≤ c) (c2 : c ≤ nC σ) (hC : nC σ ≤ 20) (a1 : 1 ≤ a) (a2 : a ≤ nA σ) (ha : ma σ 6 a = nI c) (hv : ma σ 9 a = 1) : Ps rk M x E c (a + 1) t0 (wakeAt_S (sfl S 0 (aA M a) w) (cA M c) w) (sml (sma σ 9 a 1) 10 a w) ∧ Ou rk M c σ S (wakeAt_S (sfl S 0 (aA M a) w) (cA M c) w) := by
  obtain ⟨h1, h2, h3⟩ := h
  have hP : Ps rk M x E c a t0 (sfl S 0 (aA M a) w) (sml (sma σ 9 a 1) 10 a w) := by
    refine ⟨Sm_fire1 h1 a1 a2 hv, fun z z1 z2 z3 z4 => WkP_al (h2 z z1 z2 z3 z4) (by have : z ≤ nC σ := z2; omega) (by omega) z3 ha rfl, fun b q1 q2 q3 q4 q5 => ?_, h3.2⟩
    have eb : b ≠ a := by omega
    rw [rl_n eb]
    exact h3.1 b q1 (by omega) q3 q4 (fun z => q5 (ra_l.trans ((ra_n eb).trans z)))
  obtain ⟨p1, p2⟩ := Ps_wake (v := if w < fl (sfl S 0 (aA M a) w) 7 (cA M c) then w else fl (sfl S 0 (aA M a) w) 7 (cA M c)) hP c1 c2 mn_le.1
  refine ⟨Ps_a p1 (fun _ _ => ?_), (show Sc S (sfl S 0 (aA M a) w) from Sc_sfl (by decide)).tr p2.1, fun z z1 z2 z3 => p2.2 z z1 z2 z3⟩
  rw [wakeAt_7, rl_s]
  exact mn_le.2
