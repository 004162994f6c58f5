-- PAIRS OF WRITES
theorem exN_note {σ : MS} {k0 n0 c0 : Int32} {o0 : Int64} (he : mi σ 18 = nI (exN σ)) (hb : exN σ + 1 < 2 ^ 31) : mi (Mnote_S σ k0 n0 o0 c0) 18 = mi σ 18 + 1 ∧ exN (Mnote_S σ k0 n0 o0 c0) = exN σ + 1 := by
  have h1 : mi (Mnote_S σ k0 n0 o0 c0) 18 = mi σ 18 + 1 := by
    unfold Mnote_S
    split <;> exact ri_s
  refine ⟨h1, ?_⟩
  show (mi (Mnote_S σ k0 n0 o0 c0) 18).toNatClampNeg = _
  rw [h1, he, nI_1]
  exact nI_clamp hb
theorem note_at {σ : MS} {k0 n0 c0 : Int32} {o0 : Int64} (he : mi σ 18 = nI (exN σ)) (hk : exN σ < 3000) (i : Nat) : ma (Mnote_S σ k0 n0 o0 c0) 22 i = (if i = exN σ then k0 else ma σ 22 i) ∧ ma (Mnote_S σ k0 n0 o0 c0) 23 i = (if i = exN σ then n0 else ma σ 23 i) ∧ ma (Mnote_S σ k0 n0 o0 c0) 24 i = (if i = exN σ then o0.toInt32 else ma σ 24 i) ∧ ma (Mnote_S σ k0 n0 o0 c0) 25 i = (if i = exN σ then (mdl (ml σ 3 c0.toNatClampNeg) (ml σ 0 c0.toNatClampNeg)).toInt32 else ma σ 25 i) := by
  have c : ¬ (3000 : Int32) ≤ mi σ 18 := by
    rw [he, show (3000 : Int32) = nI 3000 from rfl, nI_leI (by decide) (by omega)]
    omega
  have e : (mi σ 18).toNatClampNeg = exN σ := rfl
  unfold Mnote_S
  rw [if_neg c, e]
  generalize exN σ = n
  by_cases q : i = n
  · subst q
    rw [if_pos rfl, if_pos rfl, if_pos rfl, if_pos rfl]
    refine ⟨?_, ?_, ?_, ?_⟩
    · exact ra_i.trans ((ra_a (by decide)).trans ((ra_a (by decide)).trans ((ra_a (by decide)).trans ra_s)))
    · exact ra_i.trans ((ra_a (by decide)).trans ((ra_a (by decide)).trans ra_s))
    · exact ra_i.trans ((ra_a (by decide)).trans ra_s)
    · exact ra_i.trans ra_s
  · rw [if_neg q, if_neg q, if_neg q, if_neg q]
    refine ⟨?_, ?_, ?_, ?_⟩ <;> exact ra_i.trans ((ra_n q).trans ((ra_n q).trans ((ra_n q).trans (ra_n q))))
theorem Dn_note {M : AM} {x : Nat} {E : Nat → Prop} {S : HS} {σ : MS} {kn nb : Int32} {of_ : Int64} {c : Nat} (h : Sm M x E S σ) (he : mi σ 18 = nI (exN σ)) (hb : exN σ + 1 < 2 ^ 31) (c1 : 1 ≤ c) (c2 : c ≤ nC σ) (c3 : c < 2 ^ 31) : Dn x (add_S S (ntA S x) kn nb of_ (fl S 5 (cA M c))) (Mnote_S σ kn nb of_ (nI c)) := by
  obtain ⟨hI, hR, hc, ha, ht, ⟨d1, d2, d3, d4⟩, hk⟩ := h
  obtain ⟨f1, f2⟩ := exN_note (k0 := kn) (n0 := nb) (o0 := of_) (c0 := nI c) he hb
  have hI2 := hI
  obtain ⟨⟨g1, g1b⟩, g2, g3, g4, ⟨g5, g6, g7, g8⟩, g9, g10⟩ := hI
  have lx := add_live (kn := kn) (nb := nb) (of_ := of_) (vl := fl S 5 (cA M c)) hI2 (a := x) (by rw [g2]; decide)
  have ent : ntA (add_S S (ntA S x) kn nb of_ (fl S 5 (cA M c))) x = ntA S x := by show gd (fr _ 21 x) = _; rw [lx.2.2.1 21]
  have ekp : kpN (add_S S (ntA S x) kn nb of_ (fl S 5 (cA M c))) x = (fi (add_S S (ntA S x) kn nb of_ (fl S 5 (cA M c))) 4 (ntA S x)).toNatClampNeg := by show (fi _ 4 (ntA _ x)).toNatClampNeg = _; rw [ent]
  by_cases q : kpN S x < 3000
  · obtain ⟨a1, a2, a3, a4, a5⟩ := add_eff (kn := kn) (nb := nb) (of_ := of_) (vl := fl S 5 (cA M c)) hI2 q d4
    rw [a2, nI_clamp (by omega)] at ekp
    have hex : exN σ = kpN S x := by omega
    refine ⟨?_, ?_, fun i hi w hw => ?_, ?_⟩
    · rw [ent, a1, d1, f1]
    · rw [ekp, f2]; omega
    · rw [ekp] at hi
      have nat := note_at (k0 := kn) (n0 := nb) (o0 := of_) (c0 := nI c) he (by omega) i
      rw [hex, nI_clamp c3, ← (hc c c1 c2).2] at nat
      rw [a5 (i / 250) (by omega)]
      have hw : w = 0 ∨ w = 1 ∨ w = 2 ∨ w = 3 := by omega
      by_cases qi : i = kpN S x
      · subst qi
        rw [if_pos rfl]
        simp only [if_true] at nat
        rcases hw with rfl | rfl | rfl | rfl
        · rw [if_pos (by omega)]; exact nat.1.symm
        · rw [if_neg (by omega), if_pos (by omega)]; exact nat.2.1.symm
        · rw [if_neg (by omega), if_neg (by omega), if_pos (by omega)]; exact nat.2.2.1.symm
        · rw [if_neg (by omega), if_neg (by omega), if_neg (by omega), if_pos (by omega)]; exact nat.2.2.2.symm
      · simp only [if_neg qi] at nat
        have hm : ma (Mnote_S σ kn nb of_ (nI c)) (22 + w) i = ma σ (22 + w) i := by
          rcases hw with rfl | rfl | rfl | rfl
          · exact nat.1
          · exact nat.2.1
          · exact nat.2.2.1
          · exact nat.2.2.2
        rw [hm, ← d3 i (by omega) w (by omega)]
        by_cases qp : i / 250 = kpN S x / 250
        · rw [if_pos qp, if_neg (by omega), if_neg (by omega), if_neg (by omega), if_neg (by omega), if_pos (by omega)]
        · rw [if_neg qp]
    · rw [ekp]; exact a4
  · have q3 : kpN S x = 3000 := by omega
    have c : ¬ fi S 4 (ntA S x) < (3000 : Int32) := by
      rw [g5, show (3000 : Int32) = nI 3000 from rfl, nI_ltI (by omega) (by decide)]
      omega
    have e1 : ∀ v, add_S S (ntA S x) kn nb of_ v = sfi S 5 (ntA S x) (fi S 5 (ntA S x) + 1) := fun v => by unfold add_S; rw [if_neg c]
    have hn : (3000 : Int32) ≤ mi σ 18 := by
      rw [he, show (3000 : Int32) = nI 3000 from rfl, nI_leI (by decide) (by omega)]
      omega
    have e2 : ∀ v, Mnote_S σ kn nb of_ v = smi σ 18 (mi σ 18 + 1) := fun v => by unfold Mnote_S; rw [if_pos hn]
    rw [e1, e2]
    rw [e2] at f2
    refine ⟨?_, ?_, d3, d4⟩
    · show up2 (fi S) 5 (ntA S x) (fi S 5 (ntA S x) + 1) 5 (ntA S x) = _
      rw [up2_self, d1]
      exact ri_s.symm
    · rw [f2]
      show kpN S x = _
      omega
theorem Sm_note {M : AM} {x : Nat} {E : Nat → Prop} {S : HS} {σ : MS} {kn nb : Int32} {of_ : Int64} {c : Nat} (h : Sm M x E S σ) (he : mi σ 18 = nI (exN σ)) (hb : exN σ + 1 < 2 ^ 31) (c1 : 1 ≤ c) (c2 : c ≤ nC σ) (c3 : c < 2 ^ 31) : Sm M x E (add_S S (ntA S x) kn nb of_ (fl S 5 (cA M c))) (Mnote_S σ kn nb of_ (nI c)) := by
  have hN := Dn_note (kn := kn) (nb := nb) (of_ := of_) h he hb c1 c2 c3
  obtain ⟨hI, hR, hc, ha, ht, hn, hk⟩ := h
  have lv := fun a z => add_live (kn := kn) (nb := nb) (of_ := of_) (vl := fl S 5 (cA M c)) hI (a := a) z
  have hs : stc σ (Mnote_S σ kn nb of_ (nI c)) := stc_note
  have e9 : ma (Mnote_S σ kn nb of_ (nI c)) 9 = ma σ 9 := Mnote_ma (by decide)
  have e19 : ma (Mnote_S σ kn nb of_ (nI c)) 19 = ma σ 19 := Mnote_ma (by decide)
  have e21 : ma (Mnote_S σ kn nb of_ (nI c)) 21 = ma σ 21 := Mnote_ma (by decide)
  have e12 : ma (Mnote_S σ kn nb of_ (nI c)) 12 = ma σ 12 := Mnote_ma (by decide)
  have e14 : ma (Mnote_S σ kn nb of_ (nI c)) 14 = ma σ 14 := Mnote_ma (by decide)
  have el : ml (Mnote_S σ kn nb of_ (nI c)) = ml σ := Mnote_ml
  have e19i : mi (Mnote_S σ kn nb of_ (nI c)) 19 = mi σ 19 := Mnote_mi (by decide)
  have hs1 := (sRel_add (kn := kn) (nb := nb) (of_ := of_) (vl := fl S 5 (cA M c)) hI).1
  have hR1 := RS_stc hs (RS_Sc hR (Sc_add (kn := kn) (nb := nb) (of_ := of_) (vl := fl S 5 (cA M c)) hI))
  generalize Mnote_S σ kn nb of_ (nI c) = τ at hN hs e9 e19 e21 e12 e14 el e19i hR1
  generalize add_S S (ntA S x) kn nb of_ (fl S 5 (cA M c)) = Z at hN lv hs1 hR1
  refine ⟨hs1, hR1, fun d d1 d2 => ?_, fun a a1 a2 => ?_, fun t t1 t2 => ?_, hN, ?_⟩
  · rw [nC_stc hs] at d2
    have l := lv (cA M d) (by rw [(hR.2.2.1 d d1 d2).1]; decide)
    rw [l.2.1, l.2.1, el]
    exact hc d d1 d2
  · rw [nA_stc hs] at a2
    have l := lv (aA M a) (by rw [(hR.2.2.2.1 a a1 a2).1]; decide)
    rw [l.2.1, l.2.2.2.1 1 (by decide) (by decide), el, e9]
    exact ha a a1 a2
  · rw [nT_stc hs] at t2
    have l := lv (tA M t) (by rw [(hR.2.2.2.2.1 t t1 t2).1]; decide)
    unfold DtR
    rw [l.2.1, l.2.1, l.2.2.1, l.2.2.2.1 8 (by decide) (by decide), l.2.2.2.1 9 (by decide) (by decide), el, e19, e21, e12, ptO_cg e14]
    exact ht t t1 t2
  · rw [(lv x (by rw [hI.2.1]; decide)).2.2.2.1 13 (by decide) (by decide), e19i]
    exact hk
theorem Dn_M {x : Nat} {S : HS} {σ σ' : MS} (h : Dn x S σ) (h18 : mi σ' 18 = mi σ 18) (hw : ∀ j, 22 ≤ j → j < 26 → ma σ' j = ma σ j) : Dn x S σ' := by
  obtain ⟨d1, d2, d3, d4⟩ := h
  refine ⟨d1.trans h18.symm, ?_, fun i hi w h4 => ?_, d4⟩
  · rw [d2]; show min 3000 (mi σ 18).toNatClampNeg = min 3000 (mi σ' 18).toNatClampNeg; rw [h18]
  · rw [hw (22 + w) (by omega) (by omega)]; exact d3 i hi w h4
theorem Sm_cancel {M : AM} {x : Nat} {E : Nat → Prop} {S : HS} {σ : MS} {b : Nat} (h : Sm M x E S σ) (b1 : 1 ≤ b) (b2 : b ≤ nA σ) : Sm M x E (sfi S 1 (aA M b) 0) (sma σ 9 b 0) := by
  obtain ⟨hI, hR, hc, ha, ht, hn, hk⟩ := h
  refine ⟨(sRel_sfi (by decide) hI).1, RS_stc stc_9 (RS_Sc hR (Sc_sfi (Or.inl rfl))), hc, fun a a1 a2 => ?_, ht, Dn_M (S := sfi S 1 (aA M b) 0) (σ := σ) hn rfl (fun j _ _ => funext fun _ => ra_a (by omega)), hk⟩
  have ha := ha a a1 a2
  by_cases e : a = b
  · subst e
    refine ⟨?_, Or.inl (up2_self _ _ _ _), fun q => absurd (up2_self _ _ _ _) q⟩
    show up2 (fi S) 1 (aA M a) 0 1 (aA M a) = up2 (ma σ) 9 a 0 9 a
    rw [up2_self, up2_self]
  · have e2 : aA M a ≠ aA M b := fun q => e (hR.2.1.2.1 a b a1 a2 b1 b2 q)
    show up2 (fi S) 1 (aA M b) 0 1 (aA M a) = up2 (ma σ) 9 b 0 9 a ∧ (up2 (ma σ) 9 b 0 9 a = 0 ∨ up2 (ma σ) 9 b 0 9 a = 1) ∧ (¬ up2 (ma σ) 9 b 0 9 a = 0 → fl S 0 (aA M a) = ml σ 10 a)
    rw [up2_a _ _ _ _ e2, up2_a _ _ _ _ e]
    exact ha
theorem Sm_act {M : AM} {x : Nat} {E : Nat → Prop} {S : HS} {σ : MS} {v : Int32} (h : Sm M x E S σ) : Sm M x E (sfi S 13 x v) (smi σ 19 v) := by
  obtain ⟨hI, hR, hc, ha, ht, hn, hk⟩ := h
  exact ⟨(sRel_sfi (by decide) hI).1, RS_stc (stc_smi (by decide) (by decide) (by decide)) (RS_Sc hR (Sc_sfi (by decide))), hc, ha, ht, hn, (up2_self _ _ _ _).trans ri_s.symm⟩
theorem Sm_wake {M : AM} {x : Nat} {E : Nat → Prop} {S : HS} {σ : MS} {a : Nat} {v : Int64} (h : Sm M x E S σ) : Sm M x E (sfl S 7 a v) σ := by
  obtain ⟨hI, hR, hc, ha, ht, hn, hk⟩ := h
  exact ⟨(sRel_sfl hI).1, RS_Sc hR (Sc_sfl (by decide)), hc, ha, ht, hn, hk⟩
/-- an alarm's turn, its note made: it is set no more, or due again -/
theorem Sm_fire {M : AM} {x : Nat} {E : Nat → Prop} {S : HS} {σ : MS} {a : Nat} {w : Int64} {v : Int32} (h : Sm M x E S σ) (a1 : 1 ≤ a) (a2 : a ≤ nA σ) (hv : v = 0 ∨ v = 1) : Sm M x E (sfl (sfi S 1 (aA M a) v) 0 (aA M a) w) (sml (sma σ 9 a v) 10 a w) := by
  obtain ⟨hI, hR, hc, ha, ht, hn, hk⟩ := h
  refine ⟨(sRel_sfl (sRel_sfi (by decide) hI).1).1, RS_stc (stc_9.tr stc_10) (RS_Sc hR ((Sc_sfi (Or.inl rfl)).tr (Sc_sfl (Or.inl rfl)))), hc, fun b b1 b2 => ?_, ht, Dn_M (S := sfl (sfi S 1 (aA M a) v) 0 (aA M a) w) (σ := σ) hn rfl (fun j _ _ => funext fun _ => ra_l.trans (ra_a (by omega))), hk⟩
  have ha := ha b b1 b2
  show up2 (fi S) 1 (aA M a) v 1 (aA M b) = up2 (ma σ) 9 a v 9 b ∧ (up2 (ma σ) 9 a v 9 b = 0 ∨ up2 (ma σ) 9 a v 9 b = 1) ∧ (¬ up2 (ma σ) 9 a v 9 b = 0 → up2 (fl S) 0 (aA M a) w 0 (aA M b) = up2 (ml σ) 10 a w 10 b)
  by_cases e : b = a
  · subst e
    rw [up2_self, up2_self, up2_self, up2_self]
    exact ⟨rfl, hv, fun _ => rfl⟩
  · have e2 : aA M b ≠ aA M a := fun q => e (hR.2.1.2.1 b a b1 b2 a1 a2 q)
    rw [up2_a _ _ _ _ e2, up2_a _ _ _ _ e, up2_a _ _ _ _ e2, up2_a _ _ _ _ e]
    exact ha
theorem Sm_off {M : AM} {x : Nat} {E : Nat → Prop} {S : HS} {σ : MS} {a : Nat} {w : Int64} (h : Sm M x E S σ) (a1 : 1 ≤ a) (a2 : a ≤ nA σ) : Sm M x E (sfi S 1 (aA M a) 0) (sml (sma σ 9 a 0) 10 a w) := by
  have h1 := Sm_cancel h a1 a2
  obtain ⟨hI, hR, hc, ha, ht, hn, hk⟩ := h1
  refine ⟨hI, RS_stc stc_10 hR, hc, fun b b1 b2 => ?_, ht, hn, hk⟩
  obtain ⟨k1, k2, k3⟩ := ha b b1 b2
  refine ⟨k1, k2, fun q => ?_⟩
  show fl S 0 (aA M b) = up2 (ml σ) 10 a w 10 b
  have e : b ≠ a := fun e => q (by subst e; exact up2_self _ _ _ _)
  rw [up2_a _ _ _ _ e]
  exact k3 q
theorem adv_6 {S : HS} {a b : Nat} : fl (advance_S S a) 6 b = up2 (fl S) 6 a (fl S 6 a + 1) 6 b := by
  unfold advance_S
  split <;> rfl
theorem adv_5 {S : HS} {a b : Nat} : fl (advance_S S a) 5 b = if b = a then (if fl S 5 a + 1 < fl S 2 a then fl S 5 a + 1 else 0) else fl S 5 b := by
  unfold advance_S
  by_cases e : b = a
  · subst e
    rw [if_pos rfl]
    split
    · exact up2_self _ _ _ _
    · exact up2_self _ _ _ _
  · rw [if_neg e]
    split
    · show up2 (up2 (fl S) 6 a (fl S 6 a + 1)) 5 a (fl S 5 a + 1) 5 b = _
      rw [up2_a _ _ _ _ e, up2_a _ _ _ _ e]
    · show up2 (up2 (up2 (fl S) 6 a (fl S 6 a + 1)) 5 a (fl S 5 a + 1)) 5 a 0 5 b = _
      rw [up2_a _ _ _ _ e, up2_a _ _ _ _ e, up2_a _ _ _ _ e]
theorem adv_k {S : HS} {a b k : Nat} (h5 : k ≠ 5) (h6 : k ≠ 6) : fl (advance_S S a) k b = fl S k b := by
  unfold advance_S
  split
  · exact (up2_k _ _ _ _ h5).trans (up2_k _ _ _ _ h6)
  · exact (up2_k _ _ _ _ h5).trans ((up2_k _ _ _ _ h5).trans (up2_k _ _ _ _ h6))
theorem adv_fi {S : HS} {a : Nat} : fi (advance_S S a) = fi S := by unfold advance_S; split <;> rfl
theorem adv_fr {S : HS} {a : Nat} : fr (advance_S S a) = fr S := by unfold advance_S; split <;> rfl
theorem adv_ar {S : HS} {a : Nat} : ar (advance_S S a) = ar S := by unfold advance_S; split <;> rfl
theorem adv_ai {S : HS} {a : Nat} : ai (advance_S S a) = ai S := by unfold advance_S; split <;> rfl
theorem Sc_adv {S : HS} {a : Nat} : Sc S (advance_S S a) := by
  unfold advance_S
  split
  · exact (Sc_sfl (by decide)).tr (Sc_sfl (by decide))
  · exact ((Sc_sfl (by decide)).tr (Sc_sfl (by decide))).tr (Sc_sfl (by decide))
theorem Sm_adv {M : AM} {x : Nat} {E : Nat → Prop} {S : HS} {σ : MS} {c : Nat} (h : Sm M x E S σ) (c1 : 1 ≤ c) (c2 : c ≤ nC σ) (hs0 : 0 ≤ (ml σ 3 c).toInt) (hs1 : (ml σ 3 c).toInt < 2 ^ 60) (hE : ∀ t, 1 ≤ t → t ≤ nT σ → E t → (ma σ 12 t).toNatClampNeg ≠ c) : Sm M x E (advance_S S (cA M c)) (sml σ 3 c (ml σ 3 c + 1)) := by
  obtain ⟨hI, hR, hc, ha, ht, hn, hk⟩ := h
  refine ⟨(sRel_advance hI).1, RS_stc stc_3 (RS_Sc hR Sc_adv), fun d d1 d2 => ?_, fun a a1 a2 => ?_, fun t t1 t2 => ?_, ?_, ?_⟩
  · have hd := hc d d1 d2
    have hcc := hc c c1 c2
    have hbb := (hR.1 c c1 c2).1
    have e2 := (hR.2.2.1 c c1 c2).2.1
    rw [adv_6, adv_5]
    show _ = up2 (ml σ) 3 c (ml σ 3 c + 1) 3 d ∧ _ = mdl (up2 (ml σ) 3 c (ml σ 3 c + 1) 3 d) (ml σ 0 d)
    by_cases e : d = c
    · subst e
      rw [up2_self, up2_self, if_pos rfl, hcc.1, hcc.2, e2, mdl_up hs0 hs1 hbb.1 hbb.2]
      exact ⟨rfl, rfl⟩
    · have e3 : cA M d ≠ cA M c := fun q => e (hR.2.1.1 d c d1 d2 c1 c2 q)
      rw [up2_a _ _ _ _ e3, up2_a _ _ _ _ e, if_neg e3]
      exact hd
  · rw [adv_fi, adv_k (by decide) (by decide)]
    exact ha a a1 a2
  · have ht := ht t t1 t2
    obtain ⟨k1, k2, k3, k4⟩ := ht
    refine ⟨?_, ?_, k3, fun q => ?_⟩
    · rw [adv_fi]; exact k1
    · rw [adv_k (by decide) (by decide)]; exact k2
    · obtain ⟨j1, j2, j3, j4⟩ := k4 q
      refine ⟨?_, ?_, fun z => ?_, fun z => ?_⟩
      · rw [adv_fi]; exact j1
      · rw [adv_fr]; exact j2
      · rw [adv_k (by decide) (by decide)]
        show _ = up2 (ml σ) 3 c (ml σ 3 c + 1) 3 (ma σ 12 t).toNatClampNeg
        rw [up2_a _ _ _ _ (hE t t1 t2 z)]
        exact j3 z
      · rw [adv_k (by decide) (by decide)]
        exact j4 z
  · unfold Dn clA pgA kpN ntA
    rw [adv_fi, adv_fr, adv_ar, adv_ai]
    exact hn
  · rw [adv_fi]; exact hk
