-- A TABLE GOES ON, OR GIVES OVER
theorem goOn_sim {rk : Nat → Nat} {M : AM} {x : Nat} {E : Nat → Prop} {S : HS} {σ : MS} {u p c a0 t0 : Nat} {B : Int} {f : Int64} (hP : Ps rk M x (EU E u) c a0 t0 (sfr S 15 (tA M u) (ptO M σ u p)) σ) (hI : Iv rk B σ) (u1 : 1 ≤ u) (u2 : u ≤ nT σ) (c1 : 1 ≤ c) (c2 : c ≤ nC σ) (hE : ¬ E u) (hu : ma σ 12 u = nI c) (h21 : ma σ 21 u = nI p) (hp : p ≤ npT σ u) (hf : 0 ≤ f.toInt ∧ f.toInt ≤ (goTo σ (nI u)).toInt) :
    ((goTo σ (nI u) - f = 0 ∧ MgoOn_S σ (nI u) f = σ ∧ Ps rk M x (EU E u) c a0 t0 (goOn_S S (tA M u) f (ptO M σ u p)) σ) ∨ (¬ goTo σ (nI u) - f = 0 ∧ Ps rk M x E c a0 t0 (goOn_S S (tA M u) f (ptO M σ u p)) (MgoOn_S σ (nI u) f))) ∧ Ou rk M c σ (sfr S 15 (tA M u) (ptO M σ u p)) (goOn_S S (tA M u) f (ptO M σ u p)) := by
  have hC := hI.1.1.2.1
  have hT := hI.1.1.2.2.2
  have ec : (nI c).toNatClampNeg = c := nI_clamp (by omega)
  have eu : (nI u).toNatClampNeg = u := nI_clamp (by omega)
  obtain ⟨b1, b2, b3, b4⟩ := goTo_in hI.1 u1 u2 h21 hp
  obtain ⟨k1, k2, k3, k4, k5, k6⟩ := hP.1.2.1.2.2.2.2.1 u u1 u2
  have e13 : gd (fr S 13 (tA M u)) = cA M c := by
    have : fr S 13 (tA M u) = some (cA M (ma σ 12 u).toNatClampNeg) := (up2_k (fr S) (tA M u) (tA M u) (ptO M σ u p) (show 13 ≠ 15 by decide)).symm.trans k3
    rw [this, hu, ec]
    rfl
  have e6 : fl S 6 (cA M c) = ml σ 3 c := (hP.1.2.2.1 c c1 c2).1
  have e11 : fl S 11 (tA M u) = ml σ 18 u := (hP.1.2.2.2.2.1 u u1 u2).2.1
  have hL : opc (ptO M σ u p) (fl S 9 (tA M u)) (fun b => fl S 8 b) = goTo σ (nI u) := by
    by_cases q : p < npT σ u
    · have : ptO M σ u p = some (pA M u p) := if_pos q
      rw [op_some this, b4 q]
      exact (hP.1.2.1.2.2.2.2.2 u p u1 u2 q).2.1
    · have : ptO M σ u p = none := if_neg q
      rw [op_none this, b3 (by have h1 : p ≤ (ma σ 14 u).toNatClampNeg := hp; have h2 : ¬ p < (ma σ 14 u).toNatClampNeg := q; omega)]
      exact k4
  rw [goOn_cl hL, e13, e6, e11]
  have ed : (goTo σ (nI u) - f).toInt = (goTo σ (nI u)).toInt - f.toInt := i64_sub (by omega) (by omega)
  have e0 : (0 : Int64).toInt = 0 := rfl
  by_cases q : goTo σ (nI u) - f = 0
  · rw [if_neg (by rw [q]; decide)]
    have e1 : MgoOn_S σ (nI u) f = σ := by rw [MgoOn_eq, if_pos q]
    obtain ⟨r1, r2⟩ := Ps_go0 hP u1 u2 (by rw [hu, ec])
    exact ⟨Or.inl ⟨q, e1, r1⟩, r2⟩
  · have d1 := i64_pos (by rw [ed]; omega) q
    rw [if_pos (by rw [Int64.lt_iff_toInt_lt, e0]; omega)]
    rw [dC_eq ⟨d1, by rw [ed]; omega⟩]
    have e1 : MgoOn_S σ (nI u) f = sml (sml σ 18 u (ml σ 18 u - drw (ml σ 18 u) (goTo σ (nI u) - f))) 20 u (ml σ 3 c + ((goTo σ (nI u) - f) + drw (ml σ 18 u) (goTo σ (nI u) - f))) := by
      rw [MgoOn_eq, if_neg q, eu, hu, ec, Int64.add_assoc]
    rw [e1]
    obtain ⟨r1, r2⟩ := Ps_go1 (st := ml σ 3 c) (v := ml σ 18 u - drw (ml σ 18 u) (goTo σ (nI u) - f)) (w := ml σ 3 c + ((goTo σ (nI u) - f) + drw (ml σ 18 u) (goTo σ (nI u) - f))) hP u1 u2 c1 c2 hC hE hu
    exact ⟨Or.inr ⟨q, r1⟩, r2⟩
theorem Ps_stop {rk : Nat → Nat} {M : AM} {x : Nat} {E : Nat → Prop} {S : HS} {σ : MS} {u c a0 t0 : Nat} (h : Ps rk M x (EU E u) c a0 t0 S σ) (u1 : 1 ≤ u) (u2 : u ≤ nT σ) (hE : ¬ E u) : Ps rk M x E c a0 t0 (sfi S 8 (tA M u) 0) (sma σ 19 u 0) ∧ Ou rk M c σ S (sfi S 8 (tA M u) 0) := by
  obtain ⟨⟨hI, hR, hc, ha, ht, hn, hk⟩, h2, h3⟩ := h
  have hW : ∀ z a1 t1, WkP M (EU E u) z a1 t1 S σ → WkP M E z a1 t1 (sfi S 8 (tA M u) 0) (sma σ 19 u 0) := fun z a1 t1 h => WkP_E h stc_19 (Int.le_refl _) (fun _ _ _ _ => ⟨rfl, id⟩) (fun t q1 q2 q3 q4 q5 => Or.inr (by
    have e : t ≠ u := fun e => q4 (by subst e; exact ra_s)
    have e19 : ma (sma σ 19 u 0) 19 t = ma σ 19 t := ra_n e
    rw [e19] at q4
    exact ⟨q4, fun z => q5 ((EU_ne e).mp z), rfl⟩))
  refine ⟨⟨⟨(sRel_sfi (by decide) hI).1, RS_stc stc_19 (RS_Sc hR (Sc_sfi (by decide))), hc, ha, fun t t1 t2 => ?_, Dn_M (S := sfi S 8 (tA M u) 0) (σ := σ) hn rfl (fun j _ _ => funext fun _ => ra_a (by omega)), hk⟩, fun z z1 z2 z3 z4 => hW _ _ _ (h2 z z1 z2 z3 z4), hW _ _ _ h3⟩, Sc_sfi (by decide), fun _ _ _ _ => rfl⟩
  obtain ⟨q1, q2, q3, q4⟩ := ht t t1 t2
  by_cases e : t = u
  · subst e
    have e19 : ma (sma σ 19 t 0) 19 t = 0 := ra_s
    exact ⟨(up2_self _ _ _ _).trans e19.symm, q2, fun z => absurd z hE, fun z => absurd e19 z⟩
  · have e2 := tA_ne hR u1 u2 t1 t2 e
    have e19 : ma (sma σ 19 u 0) 19 t = ma σ 19 t := ra_n e
    have e8 : fi (sfi S 8 (tA M u) 0) 8 (tA M t) = fi S 8 (tA M t) := up2_a _ _ _ _ e2
    rw [e19, e8]
    refine ⟨q1, q2, fun z => q3 (Or.inl z), fun z => ?_⟩
    obtain ⟨j1, j2, j3, j4⟩ := q4 z
    exact ⟨j1, j2, fun z => j3 (Or.inl z), fun z => j4 (fun z2 => z ((EU_ne e).mp z2))⟩
theorem Ps_run {rk : Nat → Nat} {M : AM} {x : Nat} {E : Nat → Prop} {S X : HS} {σ : MS} {n c a0 t0 : Nat} {v w : Int64} (h : Ps rk M x E c a0 t0 S σ) (n1 : 1 ≤ n) (n2 : n ≤ nT σ) (hC : nC σ ≤ 20) (c2 : c ≤ nC σ) (hon : ma σ 12 n = nI c) (hr : ma σ 19 n = 0) (i' : sInv X x) (sc : Sc S X) (el : ∀ k a, k ≠ 11 ∨ a ≠ tA M n → fl X k a = fl S k a) (e11 : fl X 11 (tA M n) = v) (er : fr X = fr S) (ea : ar X = ar S) (ei : ai X = ai S) (ef : fi X = fi S) : Ps rk M x (EU E n) c a0 t0 (runFrom_S X (tA M n) (ml σ 3 c)) (sml (sma (sma (sml σ 18 n v) 19 n 1) 21 n (-1)) 20 n w) ∧ Ou rk M c σ S (runFrom_S X (tA M n) (ml σ 3 c)) := by
  obtain ⟨⟨hI, hR, hc, ha, ht, hn, hk⟩, h2, h3⟩ := h
  have ec : (nI c).toNatClampNeg = c := nI_clamp (by omega)
  have hs : stc σ (sml (sma (sma (sml σ 18 n v) 19 n 1) 21 n (-1)) 20 n w) := ((stc_18.tr stc_19).tr stc_21).tr stc_20
  have scX : Sc X (runFrom_S X (tA M n) (ml σ 3 c)) := ((Sc_sfi (by decide)).tr (Sc_sfi (by decide))).tr (Sc_sfl (by decide))
  have R8 : ∀ a, fi (runFrom_S X (tA M n) (ml σ 3 c)) 8 a = if a = tA M n then 1 else fi S 8 a := fun a => by
    show up2 (up2 (fi X) 8 (tA M n) 1) 9 (tA M n) 0 8 a = _
    rw [up2_k _ _ _ _ (by decide), ef]
    by_cases e : a = tA M n
    · rw [if_pos e, e, up2_self]
    · rw [if_neg e, up2_a _ _ _ _ e]
  have R9 : ∀ a, fi (runFrom_S X (tA M n) (ml σ 3 c)) 9 a = if a = tA M n then 0 else fi S 9 a := fun a => by
    show up2 (up2 (fi X) 8 (tA M n) 1) 9 (tA M n) 0 9 a = _
    by_cases e : a = tA M n
    · rw [if_pos e, e, up2_self]
    · rw [if_neg e, up2_a _ _ _ _ e, up2_a _ _ _ _ e, ef]
  have Rk : ∀ k a, k ≠ 8 → k ≠ 9 → fi (runFrom_S X (tA M n) (ml σ 3 c)) k a = fi S k a := fun k a q8 q9 => by
    show up2 (up2 (fi X) 8 (tA M n) 1) 9 (tA M n) 0 k a = _
    rw [up2_k _ _ _ _ q9, up2_k _ _ _ _ q8, ef]
  have Ll : ∀ k a, a ≠ tA M n → fl (runFrom_S X (tA M n) (ml σ 3 c)) k a = fl S k a := fun k a e => by
    show up2 (fl X) 10 (tA M n) (ml σ 3 c) k a = _
    rw [up2_a _ _ _ _ e, el k a (Or.inr e)]
  have Lk : ∀ k a, k ≠ 10 → k ≠ 11 → fl (runFrom_S X (tA M n) (ml σ 3 c)) k a = fl S k a := fun k a q1 q2 => by
    show up2 (fl X) 10 (tA M n) (ml σ 3 c) k a = _
    rw [up2_k _ _ _ _ q1, el k a (Or.inl q2)]
  have L11 : fl (runFrom_S X (tA M n) (ml σ 3 c)) 11 (tA M n) = v := by
    show up2 (fl X) 10 (tA M n) (ml σ 3 c) 11 (tA M n) = _
    rw [up2_k _ _ _ _ (by decide), e11]
  have L10 : fl (runFrom_S X (tA M n) (ml σ 3 c)) 10 (tA M n) = ml σ 3 c := up2_self _ _ _ _
  have Rr : fr (runFrom_S X (tA M n) (ml σ 3 c)) = fr S := er
  have Ra : ar (runFrom_S X (tA M n) (ml σ 3 c)) = ar S := ea
  have Ri : ai (runFrom_S X (tA M n) (ml σ 3 c)) = ai S := ei
  have hI2 := (sRel_runFrom (a := tA M n) (d := ml σ 3 c) i').1
  have m19 : ma (sml (sma (sma (sml σ 18 n v) 19 n 1) 21 n (-1)) 20 n w) 19 n = 1 := ra_l.trans ((ra_a (by decide)).trans ra_s)
  have m21 : ma (sml (sma (sma (sml σ 18 n v) 19 n 1) 21 n (-1)) 20 n w) 21 n = -1 := ra_l.trans ra_s
  have m18 : ml (sml (sma (sma (sml σ 18 n v) 19 n 1) 21 n (-1)) 20 n w) 18 n = v := (rl_l (by decide)).trans (rl_a.trans (rl_a.trans rl_s))
  have ma_ne : ∀ j t, t ≠ n → ma (sml (sma (sma (sml σ 18 n v) 19 n 1) 21 n (-1)) 20 n w) j t = ma σ j t := fun j t e => ra_l.trans ((ra_n e).trans ((ra_n e).trans ra_l))
  have ml_ne : ∀ j t, t ≠ n → ml (sml (sma (sma (sml σ 18 n v) 19 n 1) 21 n (-1)) 20 n w) j t = ml σ j t := fun j t e => (rl_n e).trans (rl_a.trans (rl_a.trans (rl_n e)))
  have ma_j : ∀ j, j ≠ 19 → j ≠ 21 → ma (sml (sma (sma (sml σ 18 n v) 19 n 1) 21 n (-1)) 20 n w) j = ma σ j := fun j q1 q2 => funext fun t => ra_l.trans ((ra_a q2).trans ((ra_a q1).trans ra_l))
  have ml_j : ∀ j, j ≠ 18 → j ≠ 20 → ml (sml (sma (sma (sml σ 18 n v) 19 n 1) 21 n (-1)) 20 n w) j = ml σ j := fun j q1 q2 => funext fun t => (rl_l q2).trans (rl_a.trans (rl_a.trans (rl_l q1)))
  have mi_k : mi (sml (sma (sma (sml σ 18 n v) 19 n 1) 21 n (-1)) 20 n w) = mi σ := rfl
  generalize sml (sma (sma (sml σ 18 n v) 19 n 1) 21 n (-1)) 20 n w = τ at hs m19 m21 m18 ma_ne ml_ne ma_j ml_j mi_k
  generalize runFrom_S X (tA M n) (ml σ 3 c) = Z at scX R8 R9 Rk Ll Lk L11 L10 Rr Ra Ri hI2
  have sZ := sc.tr scX
  have hW : ∀ z a1 t1, WkP M E z a1 t1 S σ → WkP M (EU E n) z a1 t1 Z τ := fun z a1 t1 h => WkP_E h hs (by rw [Lk 7 _ (by decide) (by decide)]; exact Int.le_refl _) (fun a _ _ _ => ⟨by rw [ml_j 10 (by decide) (by decide)], fun q => by rw [ma_j 9 (by decide) (by decide)]; exact q⟩) (fun t q1 q2 q3 q4 q5 => Or.inr (by
    have e : t ≠ n := fun e => q5 (Or.inr e)
    rw [ma_ne 19 t e] at q4
    exact ⟨q4, fun z => q5 (Or.inl z), ml_ne 20 t e⟩))
  have eC := nC_stc hs
  have eA := nA_stc hs
  have eT := nT_stc hs
  refine ⟨⟨⟨hI2, RS_stc hs (RS_Sc hR sZ), fun d d1 d2 => ?_, fun a a1 a2 => ?_, fun t t1 t2 => ?_, ?_, ?_⟩, fun z z1 z2 z3 z4 => ?_, hW _ _ _ h3⟩, sZ, fun z z1 z2 z3 => Lk 7 _ (by decide) (by decide)⟩
  · rw [Lk 6 _ (by decide) (by decide), Lk 5 _ (by decide) (by decide), ml_j 3 (by decide) (by decide), ml_j 0 (by decide) (by decide)]
    exact hc d d1 (by omega)
  · rw [Rk 1 _ (by decide) (by decide), Lk 0 _ (by decide) (by decide), ma_j 9 (by decide) (by decide), ml_j 10 (by decide) (by decide)]
    exact ha a a1 (by omega)
  · obtain ⟨q1, q2, q3, q4⟩ := ht t t1 (by omega)
    by_cases e : t = n
    · subst e
      refine ⟨by rw [R8, if_pos rfl, m19], by rw [L11, m18], fun _ => by rw [m19]; decide, fun _ => ⟨by rw [R9, if_pos rfl, m21]; rfl, fun z => absurd m21 z, fun _ => ?_, fun z => absurd (Or.inr rfl) z⟩⟩
      rw [L10, ml_j 3 (by decide) (by decide), ma_j 12 (by decide) (by decide), hon, ec]
    · have e2 := tA_ne hR n1 n2 t1 (by omega) e
      refine ⟨by rw [R8, if_neg e2, ma_ne 19 t e]; exact q1, by rw [Ll 11 _ e2, ml_ne 18 t e]; exact q2, fun z => by rw [ma_ne 19 t e]; exact q3 ((EU_ne e).mp z), fun z => ?_⟩
      rw [ma_ne 19 t e] at z
      obtain ⟨j1, j2, j3, j4⟩ := q4 z
      refine ⟨by rw [R9, if_neg e2, ma_ne 21 t e]; exact j1, ?_, fun y => ?_, fun y => ?_⟩
      · rw [ma_ne 21 t e, Rr, ptO_cg (ma_j 14 (by decide) (by decide))]
        exact j2
      · rw [Ll 10 _ e2, ml_j 3 (by decide) (by decide), ma_j 12 (by decide) (by decide)]
        exact j3 ((EU_ne e).mp y)
      · rw [Ll 10 _ e2, ml_ne 20 t e]
        exact j4 (fun y2 => y (Or.inl y2))
  · have hn' : Dn x Z σ := by
      have g4 : fi Z 4 = fi S 4 := funext fun a => Rk 4 a (by decide) (by decide)
      have g5 : fi Z 5 = fi S 5 := funext fun a => Rk 5 a (by decide) (by decide)
      unfold Dn clA pgA kpN ntA
      rw [Rr, g4, g5, Ra, Ri]
      exact hn
    exact Dn_M hn' (by rw [mi_k]) (fun j _ _ => ma_j j (by omega) (by omega))
  · rw [Rk 13 _ (by decide) (by decide), mi_k]
    exact hk
  · rw [eA, eT]
    exact hW _ _ _ (h2 z z1 (by omega) z3 z4)
theorem gO_S {S Z : HS} {x a n : Nat} {nb : Int32} {vl : Int64} (hn : fi S 6 a = nb) (hv : fl S 5 (gd (fr S 13 a)) = vl) (hZ : add_S S (gd (fr S 21 x)) 2 nb 0 vl = Z) : (fr Z 16 a = none → giveOver_S S x a = sfi Z 8 a 0 ∧ giveOver_R S x a = none) ∧ (fr Z 16 a = some n → (¬ fi (sfi Z 8 a 0) 8 n = 0 → giveOver_S S x a = sfi Z 8 a 0 ∧ giveOver_R S x a = none) ∧ (fi (sfi Z 8 a 0) 8 n = 0 → giveOver_R S x a = some n ∧ giveOver_S S x a = runFrom_S (if n = a then sfi Z 8 a 0 else sfl (sfi Z 8 a 0) 11 n 0) n (fl Z 6 (gd (fr Z 13 a))))) := by
  unfold giveOver_S giveOver_R
  rw [hn, hv, hZ]
  refine ⟨fun h => ⟨op_none h, op_none h⟩, fun h => ⟨fun q => ⟨(op_some h).trans (if_neg q), (op_some h).trans (if_neg q)⟩, fun q => ⟨(op_some h).trans ?_, (op_some h).trans ?_⟩⟩⟩
  · rw [if_pos q, h]
    split <;> rfl
  · rw [if_pos q]
    by_cases e : n = a
    · subst e
      rw [if_pos rfl, if_pos rfl]
    · rw [if_neg (fun z => e (Option.some.inj z)), if_neg e]
theorem gv_sim {rk : Nat → Nat} {M : AM} {x : Nat} {E : Nat → Prop} {S : HS} {σ : MS} {u c a0 t0 : Nat} {B : Int} (hP : Ps rk M x (EU E u) c a0 t0 S σ) (hI : Iv rk B σ) (u1 : 1 ≤ u) (u2 : u ≤ nT σ) (c1 : 1 ≤ c) (c2 : c ≤ nC σ) (hE : ¬ E u) (hu : ma σ 12 u = nI c) (hb : pot σ + 1 < 2 ^ 31) :
    ((tgR σ (nI u) = 0 ∧ giveOver_R S x (tA M u) = none ∧ Ps rk M x E c a0 t0 (giveOver_S S x (tA M u)) (tgE σ (nI u))) ∨ (∃ n, 1 ≤ n ∧ n ≤ nT σ ∧ tgR σ (nI u) = nI n ∧ ma σ 12 n = nI c ∧ giveOver_R S x (tA M u) = some (tA M n) ∧ Ps rk M x (EU E n) c a0 t0 (giveOver_S S x (tA M u)) (tgE σ (nI u)))) ∧ Ou rk M c σ S (giveOver_S S x (tA M u)) := by
  have hC := hI.1.1.2.1
  have hT := hI.1.1.2.2.2
  have ec : (nI c).toNatClampNeg = c := nI_clamp (by omega)
  have eu : (nI u).toNatClampNeg = u := nI_clamp (by omega)
  obtain ⟨k1, k2, k3, k4, k5, k6⟩ := hP.1.2.1.2.2.2.2.1 u u1 u2
  have e13 : gd (fr S 13 (tA M u)) = cA M c := by rw [k3, hu, ec]; rfl
  obtain ⟨n1, n2⟩ := Ps_note (kn := 2) (nb := nI u) (of_ := 0) hP hI.2.2.1 (by have := ex_le (σ := σ); omega) c1 c2 (by omega)
  have hs : stc σ (Mnote_S σ 2 (nI u) 0 (nI c)) := stc_note
  have el : ml (Mnote_S σ 2 (nI u) 0 (nI c)) = ml σ := Mnote_ml
  have e19 : ma (Mnote_S σ 2 (nI u) 0 (nI c)) 19 = ma σ 19 := Mnote_ma (by decide)
  obtain ⟨j1, ⟨j2, j2b⟩, j3, -⟩ := Cf_t hI.1 u1 u2
  unfold tgR tgE
  rw [eu, hu]
  have hZ : add_S S (gd (fr S 21 x)) 2 (nI u) 0 (fl S 5 (cA M c)) = add_S S (ntA S x) 2 (nI u) 0 (fl S 5 (cA M c)) := rfl
  have G := fun n => gO_S (n := n) k2 (by rw [e13]) hZ
  generalize add_S S (ntA S x) 2 (nI u) 0 (fl S 5 (cA M c)) = Z at n1 n2 hZ G
  generalize Mnote_S σ 2 (nI u) 0 (nI c) = τ at n1 hs el e19
  have eT := nT_stc hs
  have eC := nC_stc hs
  have e17 := hs.2.1 17 (by decide)
  have e12 := hs.2.1 12 (by decide)
  obtain ⟨m1, m2, m3, m4, m5, m6⟩ := n1.1.2.1.2.2.2.2.1 u u1 (by omega)
  rw [e17] at m5
  rw [e12, hu, ec] at m3
  obtain ⟨s1, s2⟩ := Ps_stop n1 u1 (by omega) hE
  have eL : ml (sma τ 19 u 0) = ml σ := el
  have eU : ∀ i, up2 (ma σ) 19 u 0 19 i = ma (sma τ 19 u 0) 19 i := fun i => by
    show _ = up2 (ma τ) 19 u 0 19 i
    unfold up2
    rw [e19]
  have e12b : ma (sma τ 19 u 0) 12 = ma σ 12 := e12
  have eTb : nT (sma τ 19 u 0) = nT σ := eT
  have eCb : nC (sma τ 19 u 0) = nC σ := eC
  by_cases q0 : ma σ 17 u = 0
  · rw [if_pos q0] at m5
    rw [if_pos q0, if_pos q0]
    obtain ⟨g1, g2⟩ := (G 0).1 m5
    rw [g1, g2]
    exact ⟨Or.inl ⟨rfl, rfl, s1⟩, n2.tr (s2.cg eC.symm)⟩
  · rw [if_neg q0] at m5
    rw [if_neg q0, if_neg q0, eU]
    obtain ⟨en, bn⟩ := rg_cl (hi := nT σ) j2 (by omega)
    have n0 : 1 ≤ (ma σ 17 u).toNatClampNeg := by
      rcases Nat.eq_zero_or_pos (ma σ 17 u).toNatClampNeg with z | z
      · exact absurd (by rw [en, z]; rfl) q0
      · exact z
    have hon := j2b q0
    have G := (G (tA M (ma σ 17 u).toNatClampNeg)).2 m5
    have d8 : fi (sfi Z 8 (tA M u) 0) 8 (tA M (ma σ 17 u).toNatClampNeg) = ma (sma τ 19 u 0) 19 (ma σ 17 u).toNatClampNeg := (s1.1.2.2.2.2.1 _ n0 (by rw [eTb]; exact bn)).1
    have d11 : fl (sfi Z 8 (tA M u) 0) 11 (tA M (ma σ 17 u).toNatClampNeg) = ml σ 18 (ma σ 17 u).toNatClampNeg := (s1.1.2.2.2.2.1 _ n0 (by rw [eTb]; exact bn)).2.1.trans (by rw [eL])
    rw [d8] at G
    have hz6 : fl Z 6 (gd (fr Z 13 (tA M u))) = ml (sma τ 19 u 0) 3 c := by
      rw [m3]
      show fl Z 6 (cA M c) = _
      rw [(n1.1.2.2.1 c c1 (by omega)).1]
      rfl
    rw [hz6] at G
    rw [hon, hu, ec]
    have huu : tA M (ma σ 17 u).toNatClampNeg = tA M u ↔ (ma σ 17 u).toNatClampNeg = u := ⟨fun z => Classical.byContradiction fun y => tA_ne hP.1.2.1 u1 u2 n0 bn y z, fun z => by rw [z]⟩
    have hvu : (ma σ 17 u = nI u) ↔ (ma σ 17 u).toNatClampNeg = u := ⟨fun z => by rw [z, eu], fun z => by rw [en, z]⟩
    generalize (ma σ 17 u).toNatClampNeg = n at en bn n0 hon G d8 d11 huu hvu
    by_cases q1 : ma (sma τ 19 u 0) 19 n = 0
    · rw [if_pos q1, if_pos q1]
      obtain ⟨g1, g2⟩ := G.2 q1
      rw [g1, g2]
      have key := fun X v => Ps_run (X := X) (v := v) (w := ml σ 3 c) s1 n0 (by rw [eTb]; exact bn) (by rw [eCb]; exact hC) (by rw [eCb]; exact c2) (by rw [e12b, hon]; exact hu) q1
      by_cases qe : n = u
      · rw [if_pos (huu.mpr qe), if_pos (hvu.mpr qe)]
        obtain ⟨r1, r2⟩ := key (sfi Z 8 (tA M u) 0) (ml σ 18 n) s1.1.1 (Sc.rf _) (fun _ _ _ => rfl) d11 rfl rfl rfl rfl
        exact ⟨Or.inr ⟨n, n0, bn, en, hon.trans hu, rfl, r1⟩, (n2.tr (s2.cg eC.symm)).tr (r2.cg eCb.symm)⟩
      · rw [if_neg (fun z => qe (huu.mp z)), if_neg (fun z => qe (hvu.mp z))]
        obtain ⟨r1, r2⟩ := key (sfl (sfi Z 8 (tA M u) 0) 11 (tA M n) 0) 0 (sRel_sfl s1.1.1).1 (Sc_sfl (by decide)) (fun k a z => by
          rcases z with z | z
          · exact up2_k _ _ _ _ z
          · exact up2_a _ _ _ _ z) (up2_self _ _ _ _) rfl rfl rfl rfl
        exact ⟨Or.inr ⟨n, n0, bn, en, hon.trans hu, rfl, r1⟩, (n2.tr (s2.cg eC.symm)).tr (r2.cg eCb.symm)⟩
    · rw [if_neg q1, if_neg q1]
      obtain ⟨g1, g2⟩ := G.1 q1
      rw [g1, g2]
      exact ⟨Or.inl ⟨rfl, rfl, s1⟩, n2.tr (s2.cg eC.symm)⟩
