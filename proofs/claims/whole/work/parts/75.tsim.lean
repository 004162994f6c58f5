-- A TABLE'S TURN
def EU (E : Nat → Prop) (u : Nat) : Nat → Prop := fun z => E z ∨ z = u
def clC (v : Int64) : Int64 := if (-2 : Int64) < (if (2 : Int64) < v then (2 : Int64) else v) then (if (2 : Int64) < v then (2 : Int64) else v) else (-2 : Int64)
def dC (v d : Int64) : Int64 := if (1 : Int64) - d < clC v then clC v else (1 : Int64) - d
theorem goOn_cl {S : HS} {t : Nat} {fm L : Int64} {to_ : Option Nat} (hL : opc to_ (fl S 9 t) (fun b => fl S 8 b) = L) : goOn_S S t fm to_ = if (0 : Int64) < L - fm then wakeAt_S (sfl (sfl (sfl (sfr S 15 t to_) 10 t (fl S 6 (gd (fr S 13 t)))) 11 t (fl S 11 t - dC (fl S 11 t) (L - fm))) 10 t (fl S 6 (gd (fr S 13 t)) + ((L - fm) + dC (fl S 11 t) (L - fm)))) (gd (fr S 13 t)) (fl S 6 (gd (fr S 13 t)) + ((L - fm) + dC (fl S 11 t) (L - fm))) else sfl (sfr S 15 t to_) 10 t (fl S 6 (gd (fr S 13 t))) := by
  cases to_ with
  | none =>
    have hL : fl S 9 t = L := hL
    subst hL
    rfl
  | some b =>
    have hL : fl S 8 b = L := hL
    subst hL
    rfl
theorem clC_eq (v : Int64) : clC v = if (2 : Int64) < v then 2 else if v < (-2 : Int64) then -2 else v := by
  unfold clC
  have em : (-2 : Int64).toInt = -2 := rfl
  by_cases q : (2 : Int64) < v
  · rw [if_pos q, if_pos q, if_pos (by decide)]
  · rw [if_neg q, if_neg q]
    by_cases q2 : v < (-2 : Int64)
    · rw [if_pos q2]
      have := q2
      rw [Int64.lt_iff_toInt_lt, em] at q2
      exact if_neg (fun z => by rw [Int64.lt_iff_toInt_lt, em] at z; omega)
    · rw [if_neg q2]
      rw [Int64.lt_iff_toInt_lt, em] at q2
      by_cases q3 : (-2 : Int64) < v
      · rw [if_pos q3]
      · rw [if_neg q3]
        rw [Int64.lt_iff_toInt_lt, em] at q3
        exact Int64.toInt_inj.mp (by rw [em]; omega)
theorem dC_eq {v d : Int64} (hd : 1 ≤ d.toInt ∧ d.toInt ≤ 2000000) : dC v d = drw v d := by
  unfold dC drw
  rw [clC_eq]
  have hc : ∀ c : Int64, c = (if (2 : Int64) < v then 2 else if v < (-2 : Int64) then -2 else v) → -2 ≤ c.toInt ∧ c.toInt ≤ 2 := fun c h => by
    subst h
    have em : (-2 : Int64).toInt = -2 := rfl
    have e2 : (2 : Int64).toInt = 2 := rfl
    split
    · exact ⟨by decide, by decide⟩
    · rename_i q
      rw [Int64.lt_iff_toInt_lt, e2] at q
      split
      · exact ⟨by decide, by decide⟩
      · rename_i q2
        rw [Int64.lt_iff_toInt_lt, em] at q2
        omega
  dsimp only
  generalize hcc : (if (2 : Int64) < v then (2 : Int64) else if v < (-2 : Int64) then -2 else v) = c
  have hc := hc c hcc.symm
  have e1 : (1 : Int64).toInt = 1 := rfl
  have es : (d + c).toInt = d.toInt + c.toInt := i64_add (by omega) (by omega)
  have ed : (1 - d).toInt = 1 - d.toInt := by rw [i64_sub (by rw [e1]; omega) (by rw [e1]; omega), e1]
  by_cases q : (1 : Int64) - d < c
  · rw [if_pos q]
    rw [Int64.lt_iff_toInt_lt, ed] at q
    rw [if_neg (fun z => by rw [Int64.lt_iff_toInt_lt, es, e1] at z; omega)]
  · rw [if_neg q]
    rw [Int64.lt_iff_toInt_lt, ed] at q
    by_cases q2 : d + c < (1 : Int64)
    · rw [if_pos q2]
    · rw [if_neg q2]
      rw [Int64.lt_iff_toInt_lt, es, e1] at q2
      exact Int64.toInt_inj.mp (by rw [ed]; omega)
theorem WkP_E {M : AM} {E E' : Nat → Prop} {y a0 t0 : Nat} {S S' : HS} {σ σ' : MS} (h : WkP M E y a0 t0 S σ) (hs : stc σ σ') (h7 : (fl S' 7 (cA M y)).toInt ≤ (fl S 7 (cA M y)).toInt) (ha : ∀ a, 1 ≤ a → a ≤ nA σ → ma σ 6 a = nI y → ml σ' 10 a = ml σ 10 a ∧ (ma σ 9 a = 0 → ma σ' 9 a = 0)) (ht : ∀ t, 1 ≤ t → t ≤ nT σ → ma σ 12 t = nI y → ¬ ma σ' 19 t = 0 → ¬ E' t → (fl S' 7 (cA M y)).toInt ≤ (ml σ' 20 t).toInt ∨ (¬ ma σ 19 t = 0 ∧ ¬ E t ∧ ml σ' 20 t = ml σ 20 t)) : WkP M E' y a0 t0 S' σ' := by
  have e6 := hs.2.1 6 (by decide)
  have e12 := hs.2.1 12 (by decide)
  refine ⟨fun a q1 q2 q3 q4 q5 => ?_, fun t q1 q2 q3 q4 q5 q6 => ?_⟩
  · rw [nA_stc hs] at q3
    rw [e6] at q4
    obtain ⟨e1, e2⟩ := ha a q1 q3 q4
    rw [e1]
    have := h.1 a q1 q2 q3 q4 (fun z => q5 (e2 z))
    omega
  · rw [nT_stc hs] at q3
    rw [e12] at q4
    rcases ht t q1 q3 q4 q5 q6 with z | ⟨z1, z2, z3⟩
    · exact z
    · rw [z3]
      have := h.2 t q1 q2 q3 q4 z1 z2
      omega
theorem tA_ne {M : AM} {S : HS} {σ : MS} (h : RS M S σ) {c d : Nat} (c1 : 1 ≤ c) (c2 : c ≤ nT σ) (d1 : 1 ≤ d) (d2 : d ≤ nT σ) (e : d ≠ c) : tA M d ≠ tA M c := fun q => e (h.2.1.2.2 d c d1 d2 c1 c2 q)
theorem EU_ne {E : Nat → Prop} {u t : Nat} (e : t ≠ u) : EU E u t ↔ E t := ⟨fun h => h.resolve_right e, Or.inl⟩
/-- a table's place is told anew -/
theorem Sm_place {M : AM} {x : Nat} {E : Nat → Prop} {S S' : HS} {σ : MS} {u p : Nat} (h : Sm M x (EU E u) S σ) (u1 : 1 ≤ u) (u2 : u ≤ nT σ) (hp : p < 2 ^ 31) (i' : sInv S' x) (sc : Sc S S') (el : fl S' = fl S) (er : fr S' = fr S) (ea : ar S' = ar S) (ei : ai S' = ai S) (ef : ∀ k a, k ≠ 9 ∨ a ≠ tA M u → fi S' k a = fi S k a) (e9 : fi S' 9 (tA M u) = 1) : Sm M x (EU E u) (sfr S' 15 (tA M u) (ptO M σ u p)) (sma σ 21 u (nI p)) := by
  obtain ⟨hI, hR, hc, ha, ht, hn, hk⟩ := h
  have hR' : RS M S' σ := RS_Sc hR sc
  have hv : ∀ b, ptO M σ u p = some b → kd S' b = rT 15 := fun b hb => by
    unfold ptO at hb
    split at hb
    · rename_i q
      cases hb
      exact (hR'.2.2.2.2.2 u p u1 u2 q).1
    · cases hb
  have f8 : ∀ a, fi S' 8 a = fi S 8 a := fun a => ef 8 a (Or.inl (by decide))
  have f1 : ∀ a, fi S' 1 a = fi S 1 a := fun a => ef 1 a (Or.inl (by decide))
  have f4 : fi S' 4 = fi S 4 := funext fun a => ef 4 a (Or.inl (by decide))
  have f5 : fi S' 5 = fi S 5 := funext fun a => ef 5 a (Or.inl (by decide))
  have f13 : ∀ a, fi S' 13 a = fi S 13 a := fun a => ef 13 a (Or.inl (by decide))
  refine ⟨(sRel_sfr i' hv).1, RS_stc stc_21 (RS_Sc hR' Sc_sfr), fun d d1 d2 => ?_, fun a a1 a2 => ?_, fun t t1 t2 => ?_, ?_, ?_⟩
  · show fl S' 6 (cA M d) = ml σ 3 d ∧ fl S' 5 (cA M d) = _
    rw [el]
    exact hc d d1 d2
  · show fi S' 1 (aA M a) = ma σ 9 a ∧ _ ∧ (_ → fl S' 0 (aA M a) = _)
    rw [el, f1]
    exact ha a a1 a2
  · obtain ⟨q1, q2, q3, q4⟩ := ht t t1 t2
    refine ⟨(f8 _).trans q1, (by show fl S' 11 (tA M t) = _; rw [el]; exact q2), q3, fun q => ?_⟩
    obtain ⟨j1, j2, j3, j4⟩ := q4 q
    by_cases e : t = u
    · subst e
      have m1 : ¬ nI p = -1 := fun z => by
        have := congrArg Int32.toInt z
        rw [nI_toInt hp] at this
        have e : (-1 : Int32).toInt = -1 := rfl
        omega
      have e21 : ma (sma σ 21 t (nI p)) 21 t = nI p := ra_s
      refine ⟨?_, fun _ => ?_, ?_, ?_⟩
      · rw [e21, if_neg m1]
        exact e9
      · rw [e21, nI_clamp hp]
        exact up2_self _ _ _ _
      · show _ → fl S' 10 (tA M t) = _
        rw [el]
        exact j3
      · show _ → fl S' 10 (tA M t) = _
        rw [el]
        exact j4
    · have e2 := tA_ne hR u1 u2 t1 t2 e
      have e21 : ma (sma σ 21 u (nI p)) 21 t = ma σ 21 t := ra_n e
      have e15 : fr (sfr S' 15 (tA M u) (ptO M σ u p)) 15 (tA M t) = fr S' 15 (tA M t) := up2_a _ _ _ _ e2
      refine ⟨?_, ?_, ?_, ?_⟩
      · rw [e21]
        exact (ef 9 (tA M t) (Or.inr e2)).trans j1
      · rw [e21, e15, er]
        exact j2
      · show _ → fl S' 10 (tA M t) = _
        rw [el]
        exact j3
      · show _ → fl S' 10 (tA M t) = _
        rw [el]
        exact j4
  · have hn' : Dn x (sfr S' 15 (tA M u) (ptO M σ u p)) σ := by
      have er : ∀ k, k ≠ 15 → fr (sfr S' 15 (tA M u) (ptO M σ u p)) k = fr S k := fun k hk => funext fun a => (up2_k _ _ _ _ hk).trans (by rw [er])
      have r10 := er 10 (by decide)
      have r9 := er 9 (by decide)
      have r21 := er 21 (by decide)
      have g4 : fi (sfr S' 15 (tA M u) (ptO M σ u p)) 4 = fi S 4 := f4
      have g5 : fi (sfr S' 15 (tA M u) (ptO M σ u p)) 5 = fi S 5 := f5
      have ga : ar (sfr S' 15 (tA M u) (ptO M σ u p)) = ar S := ea
      have gi : ai (sfr S' 15 (tA M u) (ptO M σ u p)) = ai S := ei
      unfold Dn clA pgA kpN ntA
      rw [r10, r9, r21, g4, g5, ga, gi]
      exact hn
    exact Dn_M hn' rfl (fun j _ _ => funext fun _ => ra_a (by omega))
  · exact (f13 x).trans hk
theorem Ps_place {rk : Nat → Nat} {M : AM} {x : Nat} {E : Nat → Prop} {S S' : HS} {σ : MS} {u p c a0 t0 : Nat} (h : Ps rk M x (EU E u) c a0 t0 S σ) (u1 : 1 ≤ u) (u2 : u ≤ nT σ) (hp : p < 2 ^ 31) (i' : sInv S' x) (sc : Sc S S') (el : fl S' = fl S) (er : fr S' = fr S) (ea : ar S' = ar S) (ei : ai S' = ai S) (ef : ∀ k a, k ≠ 9 ∨ a ≠ tA M u → fi S' k a = fi S k a) (e9 : fi S' 9 (tA M u) = 1) : Ps rk M x (EU E u) c a0 t0 (sfr S' 15 (tA M u) (ptO M σ u p)) (sma σ 21 u (nI p)) ∧ Ou rk M c σ S (sfr S' 15 (tA M u) (ptO M σ u p)) := by
  obtain ⟨h1, h2, h3⟩ := h
  have h7 : ∀ z, fl (sfr S' 15 (tA M u) (ptO M σ u p)) 7 z = fl S 7 z := fun z => by show fl S' 7 z = _; rw [el]
  have hW : ∀ z a1 t1, WkP M (EU E u) z a1 t1 S σ → WkP M (EU E u) z a1 t1 (sfr S' 15 (tA M u) (ptO M σ u p)) (sma σ 21 u (nI p)) := fun z a1 t1 h => WkP_fr h stc_21 (h7 _) (fun _ _ _ _ => ⟨rfl, id⟩) (fun _ _ _ _ => ⟨rfl, rfl⟩)
  exact ⟨⟨Sm_place h1 u1 u2 hp i' sc el er ea ei ef e9, fun z z1 z2 z3 z4 => hW _ _ _ (h2 z z1 z2 z3 z4), hW _ _ _ h3⟩, sc.tr Sc_sfr, fun _ _ _ _ => h7 _⟩
/-- a table that goes on at once -/
theorem Ps_go0 {rk : Nat → Nat} {M : AM} {x : Nat} {E : Nat → Prop} {S : HS} {σ : MS} {u c a0 t0 : Nat} (h : Ps rk M x (EU E u) c a0 t0 S σ) (u1 : 1 ≤ u) (u2 : u ≤ nT σ) (hu : (ma σ 12 u).toNatClampNeg = c) : Ps rk M x (EU E u) c a0 t0 (sfl S 10 (tA M u) (ml σ 3 c)) σ ∧ Ou rk M c σ S (sfl S 10 (tA M u) (ml σ 3 c)) := by
  obtain ⟨⟨hI, hR, hc, ha, ht, hn, hk⟩, h2, h3⟩ := h
  refine ⟨⟨⟨(sRel_sfl hI).1, RS_Sc hR (Sc_sfl (by decide)), hc, ha, fun t t1 t2 => ?_, hn, hk⟩, fun z z1 z2 z3 z4 => WkP_S (h2 z z1 z2 z3 z4) rfl, WkP_S h3 rfl⟩, Sc_sfl (by decide), fun _ _ _ _ => rfl⟩
  obtain ⟨q1, q2, q3, q4⟩ := ht t t1 t2
  refine ⟨q1, q2, q3, fun q => ?_⟩
  obtain ⟨j1, j2, j3, j4⟩ := q4 q
  by_cases e : t = u
  · subst e
    refine ⟨j1, j2, fun _ => ?_, fun z => absurd (Or.inr rfl) z⟩
    rw [hu]
    exact up2_self _ _ _ _
  · have e2 := tA_ne hR u1 u2 t1 t2 e
    have e10 : fl (sfl S 10 (tA M u) (ml σ 3 c)) 10 (tA M t) = fl S 10 (tA M t) := up2_a _ _ _ _ e2
    exact ⟨j1, j2, fun z => e10.trans (j3 z), fun z => e10.trans (j4 z)⟩
theorem Sm_due {M : AM} {x : Nat} {E : Nat → Prop} {S : HS} {σ : MS} {u : Nat} {st v w : Int64} (h : Sm M x (EU E u) S σ) (u1 : 1 ≤ u) (u2 : u ≤ nT σ) (hE : ¬ E u) : Sm M x E (sfl (sfl (sfl S 10 (tA M u) st) 11 (tA M u) v) 10 (tA M u) w) (sml (sml σ 18 u v) 20 u w) := by
  obtain ⟨hI, hR, hc, ha, ht, hn, hk⟩ := h
  refine ⟨(sRel_sfl (sRel_sfl (sRel_sfl hI).1).1).1, RS_stc (stc_18.tr stc_20) (RS_Sc hR (((Sc_sfl (by decide)).tr (Sc_sfl (by decide))).tr (Sc_sfl (by decide)))), hc, ha, fun t t1 t2 => ?_, hn, hk⟩
  obtain ⟨q1, q2, q3, q4⟩ := ht t t1 t2
  by_cases e : t = u
  · subst e
    refine ⟨q1, ?_, fun z => absurd z hE, fun q => ?_⟩
    · show up2 (up2 (up2 (fl S) 10 (tA M t) st) 11 (tA M t) v) 10 (tA M t) w 11 (tA M t) = up2 (up2 (ml σ) 18 t v) 20 t w 18 t
      rw [up2_k _ _ _ _ (by decide), up2_self, up2_k _ _ _ _ (by decide), up2_self]
    · obtain ⟨j1, j2, j3, j4⟩ := q4 q
      refine ⟨j1, j2, fun z => absurd z hE, fun z => ?_⟩
      show up2 (up2 (up2 (fl S) 10 (tA M t) st) 11 (tA M t) v) 10 (tA M t) w 10 (tA M t) = up2 (up2 (ml σ) 18 t v) 20 t w 20 t
      rw [up2_self, up2_self]
  · have e2 := tA_ne hR u1 u2 t1 t2 e
    have el : ∀ k, fl (sfl (sfl (sfl S 10 (tA M u) st) 11 (tA M u) v) 10 (tA M u) w) k (tA M t) = fl S k (tA M t) := fun k => by
      show up2 (up2 (up2 (fl S) 10 (tA M u) st) 11 (tA M u) v) 10 (tA M u) w k (tA M t) = _
      rw [up2_a _ _ _ _ e2, up2_a _ _ _ _ e2, up2_a _ _ _ _ e2]
    have em : ∀ k, ml (sml (sml σ 18 u v) 20 u w) k t = ml σ k t := fun k => (rl_n e).trans (rl_n e)
    refine ⟨q1, ?_, fun z => q3 (Or.inl z), fun q => ?_⟩
    · rw [el, em]; exact q2
    · obtain ⟨j1, j2, j3, j4⟩ := q4 q
      refine ⟨j1, j2, fun z => ?_, fun z => ?_⟩
      · rw [el]
        exact (j3 (Or.inl z)).trans ((rl_l (by decide)).trans (rl_l (by decide))).symm
      · rw [el, em]
        exact j4 (fun z2 => z ((EU_ne e).mp z2))
theorem Ps_go1 {rk : Nat → Nat} {M : AM} {x : Nat} {E : Nat → Prop} {S : HS} {σ : MS} {u c a0 t0 : Nat} {st v w : Int64} (h : Ps rk M x (EU E u) c a0 t0 S σ) (u1 : 1 ≤ u) (u2 : u ≤ nT σ) (c1 : 1 ≤ c) (c2 : c ≤ nC σ) (hC : nC σ ≤ 20) (hE : ¬ E u) (hu : ma σ 12 u = nI c) : Ps rk M x E c a0 t0 (wakeAt_S (sfl (sfl (sfl S 10 (tA M u) st) 11 (tA M u) v) 10 (tA M u) w) (cA M c) w) (sml (sml σ 18 u v) 20 u w) ∧ Ou rk M c σ S (wakeAt_S (sfl (sfl (sfl S 10 (tA M u) st) 11 (tA M u) v) 10 (tA M u) w) (cA M c) w) := by
  obtain ⟨h1, h2, h3⟩ := h
  have hM := Sm_due (st := st) (v := v) (w := w) h1 u1 u2 hE
  have hs : stc σ (sml (sml σ 18 u v) 20 u w) := stc_18.tr stc_20
  have h7 : ∀ z, fl (sfl (sfl (sfl S 10 (tA M u) st) 11 (tA M u) v) 10 (tA M u) w) 7 z = fl S 7 z := fun z => rfl
  have sc : Sc S (sfl (sfl (sfl S 10 (tA M u) st) 11 (tA M u) v) 10 (tA M u) w) := ((Sc_sfl (by decide)).tr (Sc_sfl (by decide))).tr (Sc_sfl (by decide))
  have e20 : ∀ t, t ≠ u → ml (sml (sml σ 18 u v) 20 u w) 20 t = ml σ 20 t := fun t e => (rl_n e).trans (rl_n e)
  have e20u : ml (sml (sml σ 18 u v) 20 u w) 20 u = w := rl_s
  have e10 : ∀ a, ml (sml (sml σ 18 u v) 20 u w) 10 a = ml σ 10 a := fun a => (rl_l (by decide)).trans (rl_l (by decide))
  have e9 : ma (sml (sml σ 18 u v) 20 u w) 9 = ma σ 9 := rfl
  have e19 : ma (sml (sml σ 18 u v) 20 u w) 19 = ma σ 19 := rfl
  have eC : nC (sml (sml σ 18 u v) 20 u w) = nC σ := rfl
  have eA : nA (sml (sml σ 18 u v) 20 u w) = nA σ := rfl
  have eT : nT (sml (sml σ 18 u v) 20 u w) = nT σ := rfl
  generalize sml (sml σ 18 u v) 20 u w = τ at hM hs e20 e20u e10 e9 e19 eC eA eT
  generalize sfl (sfl (sfl S 10 (tA M u) st) 11 (tA M u) v) 10 (tA M u) w = Z at hM h7 sc
  have hn : ∀ z, 1 ≤ z → z ≤ nC σ → z ≠ c → fl (wakeAt_S Z (cA M c) w) 7 (cA M z) = fl S 7 (cA M z) := fun z z1 z2 z3 => (up2_a _ _ _ _ (cA_ne h1.2.1 c1 c2 z1 z2 z3)).trans (h7 _)
  refine ⟨⟨Sm_wake hM, fun z z1 z2 z3 z4 => ?_, ?_⟩, sc.tr (Sc_sfl (by decide)), fun z z1 z2 z3 => hn z z1 z2 (fun e => by subst e; omega)⟩
  · rw [eA, eT]
    refine WkP_E (h2 z z1 (by omega) z3 z4) hs (by rw [hn z z1 (by omega) z3]; exact Int.le_refl _) (fun a _ _ _ => ⟨e10 a, fun q => by rw [e9]; exact q⟩) (fun t t1 t2 t3 t4 t5 => Or.inr ?_)
    have e : t ≠ u := fun e => z3 (nI_inj (by omega) (by omega) (by rw [← t3, e]; exact hu))
    exact ⟨by rw [← e19]; exact t4, fun q => t5 ((EU_ne e).mp q), e20 t e⟩
  · refine WkP_E h3 hs (by rw [wakeAt_7, ← h7]; exact mn_le.1) (fun a _ _ _ => ⟨e10 a, fun q => by rw [e9]; exact q⟩) (fun t t1 t2 t3 t4 t5 => ?_)
    by_cases e : t = u
    · subst e
      left
      rw [wakeAt_7, e20u]
      exact mn_le.2
    · exact Or.inr ⟨by rw [← e19]; exact t4, fun q => t5 ((EU_ne e).mp q), e20 t e⟩
