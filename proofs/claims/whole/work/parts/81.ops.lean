-- WHAT HOLDS BETWEEN CALLS IS KEPT
def eqm (σ σ' : MS) : Prop := (∀ k, k ≠ 14 → mi σ' k = mi σ k) ∧ ml σ' = ml σ ∧ ∀ j, j ≠ 5 → ma σ' j = ma σ j
theorem eqm.rf (σ : MS) : eqm σ σ := ⟨fun _ _ => rfl, rfl, fun _ _ => rfl⟩
theorem eqm.tr {σ σ' σ'' : MS} (h : eqm σ σ') (h' : eqm σ' σ'') : eqm σ σ'' := ⟨fun k hk => (h'.1 k hk).trans (h.1 k hk), h'.2.1.trans h.2.1, fun j hj => (h'.2.2 j hj).trans (h.2.2 j hj)⟩
theorem eqm_14 {σ : MS} {v : Int32} : eqm σ (smi σ 14 v) := ⟨fun _ hk => ri_i hk, rfl, fun _ _ => rfl⟩
theorem eqm_5 {σ σ' : MS} (h : eq5 σ σ') : eqm σ σ' := ⟨fun _ _ => by rw [h.1], h.2.1, h.2.2⟩
theorem eqm.stc {σ σ' : MS} (e : eqm σ σ') : stc σ σ' := ⟨⟨e.1 15 (by decide), e.1 16 (by decide), e.1 17 (by decide)⟩, fun j hj => e.2.2 j (by omega), fun j _ => by rw [e.2.1]⟩
theorem RC_m {M : AM} {x : Nat} {S : HS} {σ σ' : MS} (h : RC M x S σ) (e : eqm σ σ') : RC M x S σ' := by
  obtain ⟨⟨hI, hR, hc, ha, ht, hn, hk⟩, hw⟩ := h
  have hs := e.stc
  have eC := nC_stc hs
  have eA := nA_stc hs
  have eT := nT_stc hs
  have m9 := e.2.2 9 (by decide)
  have m19 := e.2.2 19 (by decide)
  have m21 := e.2.2 21 (by decide)
  have m12 := e.2.2 12 (by decide)
  have m14 := e.2.2 14 (by decide)
  refine ⟨⟨hI, RS_stc hs hR, fun c c1 c2 => ?_, fun a a1 a2 => ?_, fun t t1 t2 => ?_, Dn_M hn (e.1 18 (by decide)) (fun j _ _ => e.2.2 j (by omega)), hk.trans (e.1 19 (by decide)).symm⟩, fun y y1 y2 => ?_⟩
  · rw [e.2.1]; exact hc c c1 (by omega)
  · rw [e.2.1, m9]; exact ha a a1 (by omega)
  · unfold DtR
    rw [e.2.1, m19, m21, m12, ptO_cg m14]
    exact ht t t1 (by omega)
  · rw [eA, eT]
    exact WkP_fr (hw y y1 (by omega)) hs rfl (fun a _ _ _ => ⟨by rw [e.2.1], fun q => by rw [m9]; exact q⟩) (fun t _ _ _ => ⟨by rw [m19], by rw [e.2.1]⟩)
theorem mOk_m {σ σ' : MS} (h : mOk σ) (e : eqm σ σ') : mOk σ' := by
  unfold mOk
  rw [e.1 15 (by decide), e.1 16 (by decide), e.1 17 (by decide), e.2.2 6 (by decide), e.2.2 8 (by decide), e.2.2 12 (by decide), e.2.2 14 (by decide), e.2.2 16 (by decide), e.2.2 17 (by decide), e.2.2 21 (by decide), e.2.2 26 (by decide), e.2.2 27 (by decide)]
  exact h
theorem Tr_4 {n : Nat} {σ σ' : MS} {T : Nat → Nat → Bool} (h : Tr n σ T) (e : ma σ' 4 = ma σ 4) : Tr n σ' T := by
  unfold Tr ld
  rw [e]
  exact h
theorem Zr_of {σ σ' : MS} (h : Zr σ) (hs : stc σ σ') (z3 : ∀ c, nC σ < c → ml σ' 3 c = 0) (z9 : ∀ a, nA σ < a → ma σ' 9 a = 0) (zt : ∀ t, nT σ < t → ma σ' 19 t = 0 ∧ ma σ' 21 t = 0 ∧ ml σ' 18 t = 0) : Zr σ' := by
  obtain ⟨h1, h2, h3⟩ := h
  refine ⟨fun c hc => ?_, fun a ha => ?_, fun t ht => ?_⟩
  · rw [nC_stc hs] at hc
    rw [hs.2.2 2 (by decide)]
    exact ⟨(h1 c hc).1, z3 c hc⟩
  · rw [nA_stc hs] at ha
    rw [hs.2.1 6 (by decide), hs.2.2 11 (by decide)]
    exact ⟨(h2 a ha).1, z9 a ha, (h2 a ha).2.2⟩
  · rw [nT_stc hs] at ht
    rw [hs.2.1 12 (by decide), hs.2.1 14 (by decide), hs.2.1 17 (by decide)]
    exact ⟨(h3 t ht).1, (h3 t ht).2.1, (h3 t ht).2.2.1, zt t ht⟩
/-- the model's own side, where only what a step may touch has changed -/
theorem MI_dyn {n kt : Nat} {σ σ' : MS} {T : Nat → Nat → Bool} (h : MI n kt σ T) (hs : stc σ σ') (hO : mOk σ') (z3 : ∀ c, nC σ < c → ml σ' 3 c = 0) (z9 : ∀ a, nA σ < a → ma σ' 9 a = 0) (zt : ∀ t, nT σ < t → ma σ' 19 t = 0 ∧ ma σ' 21 t = 0 ∧ ml σ' 18 t = 0) (i1 : mi σ' 19 = mi σ 19) (i2 : mi σ' 18 = mi σ 18) (i3 : ∀ c, 0 ≤ (ml σ' 3 c).toInt ∧ (ml σ' 3 c).toInt ≤ 25000 * (n : Int)) (i4 : ∀ t, 1 ≤ t → t ≤ nT σ → rg (-1) ((ma σ 14 t).toNatClampNeg) (ma σ' 21 t)) (i5 : ∀ t, 1 ≤ t → t ≤ nT σ → -1000 ≤ (ml σ' 18 t).toInt ∧ (ml σ' 18 t).toInt ≤ 1000) : MI n kt σ' T := by
  obtain ⟨⟨g1, g2, g3, g4⟩, ⟨w1, w2, w3, w4, w5, w6⟩, gr, gx, gk⟩ := h
  have eC := nC_stc hs
  have eA := nA_stc hs
  have eT := nT_stc hs
  refine ⟨⟨hO, mAc_stc (hs.2.1 7 (by decide)) (hs.2.1 8 (by decide)) g2, Zr_of g3 hs z3 z9 zt, ?_⟩, ⟨?_, ?_, ?_, i3, fun t t1 t2 => ?_, fun t t1 t2 => i5 t t1 (by omega)⟩, fun c c1 c2 => ?_, ?_, by omega⟩
  · rw [eC]; exact Tr_4 g4 (hs.2.1 4 (by decide))
  · rw [eC]; exact Cf_stc hs w1
  · unfold acN; rw [i1]; exact w2
  · unfold exN; rw [i2]; exact w3
  · rw [hs.2.1 14 (by decide)]; exact i4 t t1 (by omega)
  · rw [hs.2.2 2 (by decide)]; exact gr c c1 (by omega)
  · unfold exN; rw [i2, wN_stc hs]; exact gx
theorem MI_m {n kt : Nat} {σ σ' : MS} {T : Nat → Nat → Bool} (h : MI n kt σ T) (e : eqm σ σ') : MI n kt σ' T := by
  have hz := h.1.2.2.1
  have hw := h.2.1
  refine MI_dyn h e.stc (mOk_m h.1.1 e) (fun c hc => by rw [e.2.1]; exact (hz.1 c hc).2) (fun a ha => by rw [e.2.2 9 (by decide)]; exact (hz.2.1 a ha).2.1) (fun t ht => ?_) (e.1 19 (by decide)) (e.1 18 (by decide)) (fun c => by rw [e.2.1]; exact hw.2.2.2.1 c) (fun t t1 t2 => by rw [e.2.2 21 (by decide)]; exact hw.2.2.2.2.1 t t1 t2) (fun t t1 t2 => by rw [e.2.1]; exact hw.2.2.2.2.2 t t1 t2)
  rw [e.2.2 19 (by decide), e.2.2 21 (by decide), e.2.1]
  exact (hz.2.2 t ht).2.2.2
theorem MI_n {n kt : Nat} {σ : MS} {T : Nat → Nat → Bool} (h : MI n kt σ T) : MI (n + 1) kt σ T := by
  obtain ⟨g1, ⟨w1, w2, w3, w4, w5, w6⟩, gr, gx, gk⟩ := h
  exact ⟨g1, ⟨w1, w2, w3, fun c => by have := w4 c; omega, w5, w6⟩, gr, gx, by omega⟩
theorem RA_stc {M : AM} {x : Nat} {S : HS} {σ σ' : MS} (h : RA M x S σ) (hs : stc σ σ') : RA M x S σ' := by
  unfold RA
  rw [hs.1.1, hs.1.2.1, hs.1.2.2, nC_stc hs, nA_stc hs, nT_stc hs]
  exact h
theorem RZ_stc {M : AM} {S : HS} {σ σ' : MS} (h : RZ M S σ) (hs : stc σ σ') : RZ M S σ' := by
  unfold RZ npT
  simp only [nC_stc hs, nA_stc hs, nT_stc hs, aLs_cg (hs.2.1 6 (by decide)), tLs_cg (hs.2.1 12 (by decide)), hs.2.1 14 (by decide)]
  exact h
theorem RL_stc {M : AM} {S : HS} {σ σ' : MS} {T : Nat → Nat → Bool} (h : RL M S σ T) (hs : stc σ σ') : RL M S σ' T := by
  unfold RL Lk npT ld
  rw [nC_stc hs, nA_stc hs, nT_stc hs, hs.2.1 4 (by decide), hs.2.1 6 (by decide), hs.2.1 7 (by decide), hs.2.1 8 (by decide), hs.2.1 12 (by decide), hs.2.1 14 (by decide), hs.2.1 16 (by decide)]
  exact h
theorem atOk_Sc {x : Nat} {S S' : HS} (h : atOk S x) (hi : sInv S x) (sc : Sc S S') (mo : mono S S') : atOk S' x := by
  obtain ⟨⟨g1, g1b⟩, g2, g3, -⟩ := hi
  obtain ⟨e1, e2, e3, e4, e5⟩ := sc.1 x (by rw [g2]; decide)
  have key : ∀ k, nnk k = true → k ≠ 15 → rO k = 8 → rT k ≠ 0 → an S' (gd (fr S' k x)) = an S (gd (fr S k x)) := fun k hk h15 h8 hT => by
    rw [e4 k h15]
    have hs := gd_some (g3 k x hk (g2.trans h8.symm))
    have hkd := g1.2.1 k x _ (g2.trans h8.symm) hs
    exact (mo _ (by rw [hkd]; exact hT)).2
  unfold atOk
  rw [e2 10 (by decide) (by decide) (by decide) (by decide) (by decide) (by decide), e2 11 (by decide) (by decide) (by decide) (by decide) (by decide) (by decide), e2 12 (by decide) (by decide) (by decide) (by decide) (by decide) (by decide), key 18 rfl (by decide) rfl (by decide), key 19 rfl (by decide) rfl (by decide), key 20 rfl (by decide) rfl (by decide)]
  exact h
theorem RA_Sc {M : AM} {x : Nat} {S S' : HS} {σ : MS} (h : RA M x S σ) (hi : sInv S x) (sc : Sc S S') (mo : mono S S') : RA M x S' σ := by
  have hat := atOk_Sc h.2.1 hi sc mo
  obtain ⟨⟨g1, g1b⟩, g2, g3, -⟩ := hi
  obtain ⟨e1, e2, e3, e4, e5⟩ := sc.1 x (by rw [g2]; decide)
  have key : ∀ k, nnk k = true → k ≠ 15 → rO k = 8 → rT k ≠ 0 → rT k ≠ 17 → ar S' (gd (fr S' k x)) = ar S (gd (fr S k x)) := fun k hk h15 h8 hT h17 => by
    rw [e4 k h15]
    have hs := gd_some (g3 k x hk (g2.trans h8.symm))
    have hkd := g1.2.1 k x _ (g2.trans h8.symm) hs
    exact (sc.1 _ (by rw [hkd]; exact hT)).2.2.2.2 (by rw [hkd]; exact h17)
  unfold RA
  rw [e2 10 (by decide) (by decide) (by decide) (by decide) (by decide) (by decide), e2 11 (by decide) (by decide) (by decide) (by decide) (by decide) (by decide), e2 12 (by decide) (by decide) (by decide) (by decide) (by decide) (by decide), key 18 rfl (by decide) rfl (by decide) (by decide), key 19 rfl (by decide) rfl (by decide) (by decide), key 20 rfl (by decide) rfl (by decide) (by decide)]
  exact ⟨h.1, hat, h.2.2.1, h.2.2.2.1, h.2.2.2.2.1, fun b hb => h.2.2.2.2.2.1 b ((sc.2 b (Or.inl hb)).trans hb), fun b hb => h.2.2.2.2.2.2 b ((sc.2 b (Or.inr hb)).trans hb)⟩
theorem RZ_Sc {M : AM} {S S' : HS} {σ : MS} (h : RZ M S σ) (hR : RS M S σ) (sc : Sc S S') : RZ M S' σ := by
  refine ⟨fun c c1 c2 => ?_, fun t t1 t2 => ?_, h.2.2⟩
  · obtain ⟨-, -, -, e4, -⟩ := sc.1 (cA M c) (by rw [(hR.2.2.1 c c1 c2).1]; decide)
    rw [e4 6 (by decide), e4 8 (by decide)]
    exact h.1 c c1 c2
  · obtain ⟨-, e2, -, -, -⟩ := sc.1 (tA M t) (by rw [(hR.2.2.2.2.1 t t1 t2).1]; decide)
    rw [e2 7 (by decide) (by decide) (by decide) (by decide) (by decide) (by decide)]
    exact h.2.1 t t1 t2
theorem RL_Sc {M : AM} {S S' : HS} {σ : MS} {T : Nat → Nat → Bool} (h : RL M S σ T) (hR : RS M S σ) (sc : Sc S S') : RL M S' σ T := by
  refine ⟨fun c c1 c2 => ?_, h.2⟩
  obtain ⟨-, e2, -, -, -⟩ := sc.1 (cA M c) (by rw [(hR.2.2.1 c c1 c2).1]; decide)
  rw [e2 2 (by decide) (by decide) (by decide) (by decide) (by decide) (by decide), e2 3 (by decide) (by decide) (by decide) (by decide) (by decide) (by decide)]
  exact h.1 c c1 c2
theorem RH_sr {x h0 t0 n : Nat} {S S' : HS} (h : RH x h0 t0 n S) (sr : sRel x S S') : RH x h0 t0 n S' := by
  unfold RH
  rw [sr.2.1.1, sr.2.1.2]
  exact h
theorem RH_n {x h0 t0 n : Nat} {S : HS} (h : RH x h0 t0 n S) : RH x h0 t0 (n + 1) S := ⟨by have := h.1; omega, by have := h.2; omega⟩
theorem RO_m {M : AM} {x : Nat} {T : Nat → Nat → Bool} {n kt h0 t0 : Nat} {S : HS} {σ σ' : MS} (h : RO M x T n kt h0 t0 S σ) (e : eqm σ σ') : RO M x T n kt h0 t0 S σ' := ⟨RC_m h.1 e, RA_stc h.2.1 e.stc, RZ_stc h.2.2.1 e.stc, RL_stc h.2.2.2.1 e.stc, MI_m h.2.2.2.2.1 e, h.2.2.2.2.2⟩
theorem RO_n {M : AM} {x : Nat} {T : Nat → Nat → Bool} {n kt h0 t0 : Nat} {S : HS} {σ : MS} (h : RO M x T n kt h0 t0 S σ) : RO M x T (n + 1) kt h0 t0 S σ := ⟨h.1, h.2.1, h.2.2.1, h.2.2.2.1, MI_n h.2.2.2.2.1, RH_n h.2.2.2.2.2⟩
/-- a call that refuses -/
theorem RO_r {M : AM} {x : Nat} {T : Nat → Nat → Bool} {n kt h0 t0 : Nat} {S : HS} {σ σ' : MS} (h : RO M x T n kt h0 t0 S σ) (e : eqm σ σ') : RO M x T (n + 1) kt h0 t0 S σ' := RO_n (RO_m h e)
theorem RO_dyn {M : AM} {x : Nat} {T : Nat → Nat → Bool} {n kt h0 t0 : Nat} {S S' : HS} {σ σ' : MS} (h : RO M x T n kt h0 t0 S σ) (hC : RC M x S' σ') (sc : Sc S S') (sr : sRel x S S') (hs : stc σ σ') (hM : MI n kt σ' T) : RO M x T (n + 1) kt h0 t0 S' σ' := by
  obtain ⟨r1, r2, r3, r4, r5, r6⟩ := h
  exact ⟨hC, RA_Sc (RA_stc r2 hs) r1.1.1 sc sr.2.2.2.2, RZ_Sc (RZ_stc r3 hs) (RS_stc hs r1.1.2.1) sc, RL_Sc (RL_stc r4 hs) (RS_stc hs r1.1.2.1) sc, MI_n hM, RH_n (RH_sr r6 sr)⟩
theorem Mno_e {σ : MS} {c0 : Int32} : eqm σ (Mno_S σ c0) := by rw [Mno_Se]; exact eqm_14
theorem MnoTable_e {σ : MS} {c0 : Int32} : MnoTable_S σ c0 = smi σ 14 0 := by
  unfold MnoTable_S
  split
  · rfl
  · split <;> rfl
-- expired, deviation
theorem o_dev {M : AM} {x : Nat} {T : Nat → Nat → Bool} {n kt h0 t0 : Nat} {S : HS} {σ : MS} (h : RO M x T n kt h0 t0 S σ) (t : Int32) : deviation_R S x t = Mdeviation_R σ t ∧ RO M x T (n + 1) kt h0 t0 S (Mdeviation_S σ t) := by
  obtain ⟨hC, hA, hrest⟩ := id h
  have hO := h.2.2.2.2.1.1.1
  refine ⟨?_, RO_r h ?_⟩
  · unfold deviation_R Mdeviation_R
    rcases fT hA hO t with ⟨c, c1, c2, c3, c4, c5⟩ | ⟨c4, c5⟩
    · have ht : c ≤ 20 := Nat.le_trans c2 h.2.2.2.2.1.2.1.1.1.2.2.2
      rw [op_some c4, if_pos c5, MnoTable_e, c3, nI_clamp (by omega)]
      exact (hC.1.2.2.2.2.1 c c1 c2).2.1
    · rw [op_none c4, c5]
      rfl
  · unfold Mdeviation_S
    rw [MnoTable_e]
    first | exact eqm_14 | (split <;> exact eqm_14)
theorem o_exp {M : AM} {x : Nat} {T : Nat → Nat → Bool} {n kt h0 t0 : Nat} {S : HS} {σ : MS} (h : RO M x T n kt h0 t0 S σ) (hx : exN σ < 2 ^ 31) (i w : Int32) : expired_R S x i w = Mexpired_R σ i w ∧ RO M x T (n + 1) kt h0 t0 S (Mexpired_S σ i w) := by
  refine ⟨?_, RO_r h ?_⟩
  · obtain ⟨d1, d2, d3, d4⟩ := h.1.1.2.2.2.2.2.1
    obtain ⟨g1, g2, g3, g4, ⟨g5, g6, g7, g8⟩, -⟩ := h.1.1.1
    have he : mi σ 18 = nI (exN σ) := h.2.2.2.2.1.2.1.2.2.1
    have e0 : (0 : Int32) = nI 0 := rfl
    have hm1 : (-1 : Int32) < 0 := by decide
    -- an index that is there
    have core : (if has_R S (ntA S x) i = 0 then (-1 : Int32) else if w < 0 then -2 else if w < (4 : Int32) then read_R S (ntA S x) i w else -2) = (if i < 0 then (-1 : Int32) else if mi σ 18 ≤ i then -1 else if i ≤ (2999 : Int32) then (if w < 0 then -2 else if w ≤ (3 : Int32) then (if w = 0 then ma σ 22 i.toNatClampNeg else if w = (1 : Int32) then ma σ 23 i.toNatClampNeg else if w = (2 : Int32) then ma σ 24 i.toNatClampNeg else ma σ 25 i.toNatClampNeg) else -2) else -1) := by
      unfold has_R
      by_cases q1 : i < 0
      · rw [if_pos q1, if_pos rfl, if_pos q1]
      · rw [if_neg q1, if_neg q1]
        have r1 := q1
        rw [Int32.lt_iff_toInt_lt] at r1
        have z0 : (0 : Int32).toInt = 0 := rfl
        have hin : i.toNatClampNeg = i.toInt.toNat := rfl
        have hi : i = nI i.toNatClampNeg := by
          have := (rg_cl (hi := 2 ^ 31 - 1) (x := i) ⟨by omega, by have := i.toInt_lt; omega⟩ (by omega)).1
          exact this
        have hib : i.toNatClampNeg < 2 ^ 31 := by have := i.toInt_lt; omega
        generalize i.toNatClampNeg = j at hi hib
        subst hi
        rw [g5, he]
        by_cases q2 : nI (kpN S x) ≤ nI j
        · rw [if_pos q2, if_pos rfl]
          rw [nI_leI (by omega) hib] at q2
          by_cases q3 : nI (exN σ) ≤ nI j
          · rw [if_pos q3]
          · rw [if_neg q3]
            rw [nI_leI hx hib] at q3
            rw [if_neg]
            rw [show (2999 : Int32) = nI 2999 from rfl, nI_leI hib (by decide)]
            omega
        · rw [if_neg q2, if_neg (by decide)]
          rw [nI_leI (by omega) hib] at q2
          rw [if_neg (show ¬ nI (exN σ) ≤ nI j by rw [nI_leI hx hib]; omega), if_pos (show nI j ≤ (2999 : Int32) by rw [show (2999 : Int32) = nI 2999 from rfl, nI_leI hib (by decide)]; omega)]
          by_cases q4 : w < 0
          · rw [if_pos q4, if_pos q4]
          · rw [if_neg q4, if_neg q4]
            by_cases q5 : w < (4 : Int32)
            · have r4 := q4
              have r5 := q5
              rw [Int32.lt_iff_toInt_lt] at r4 r5
              have z4 : (4 : Int32).toInt = 4 := rfl
              rw [if_pos q5, if_pos (by rw [Int32.le_iff_toInt_le]; have : (3 : Int32).toInt = 3 := rfl; omega)]
              have hw : w = nI w.toNatClampNeg ∧ w.toNatClampNeg ≤ 3 := rg_cl (hi := 3) (x := w) ⟨by omega, by omega⟩ (by decide)
              obtain ⟨hw1, hw2⟩ := hw
              generalize w.toNatClampNeg = v at hw1 hw2
              subst hw1
              have hr : read_R S (ntA S x) (nI j) (nI v) = ma σ (22 + v) j := by
                unfold read_R
                have e1 : (nI j / (250 : Int32)).toNatClampNeg = j / 250 := by rw [show nI j / 250 = nI (j / 250) from pk_div (by omega) (by decide) (by decide), nI_clamp (by omega)]
                have e2 : (nI j - nI j / 250 * 250) * 4 = nI (j % 250 * 4) := by
                  rw [show nI j - nI j / 250 * 250 = nI (j % 250) from pk_rem (by omega) (by decide) (by decide)]
                  exact pk_mul _ 4
                rw [e1, e2, nI_add, nI_clamp (by omega)]
                cases hp : ar S (gd (fr S 9 (ntA S x))) (j / 250) with
                | none => exact absurd ((g8 (j / 250) (by omega)).mp hp) (by omega)
                | some b =>
                  rw [op_some rfl]
                  have := d3 j (by omega) v (by omega)
                  rw [← this]
                  show ai S (gd (fr S 10 b)) _ = ai S (gd (fr S 10 (gd (ar S (gd (fr S 9 (ntA S x))) (j / 250))))) _
                  rw [hp]
                  rfl
              rw [hr]
              rcases (show v = 0 ∨ v = 1 ∨ v = 2 ∨ v = 3 by omega) with e | e | e | e <;> subst e <;> rfl
            · rw [if_neg q5, if_neg]
              rw [Int32.le_iff_toInt_le]
              rw [Int32.lt_iff_toInt_lt] at q5
              have z4 : (4 : Int32).toInt = 4 := rfl
              have z3 : (3 : Int32).toInt = 3 := rfl
              omega
    unfold expired_R Mexpired_R
    by_cases q : i = (-1 : Int32)
    · rw [if_pos q, if_pos q]
      by_cases q2 : w = 0
      · rw [if_pos q2, if_pos q2]
        exact d1
      · rw [if_neg q2, if_neg q2]
        refine core.trans ?_
        rw [if_pos (by rw [q]; decide), if_pos (by rw [q]; decide)]
    · rw [if_neg q, if_neg q]
      exact core
  · unfold Mexpired_S
    repeat' split
    all_goals exact eqm_14
