-- A TABLE'S TURNS IN ONE STEP
/-- how many turns may be left -/
def lev (σ : MS) (t : Nat) : Nat := if ma σ 21 t = -1 then 2 else if ma σ 14 t ≤ ma σ 21 t then 3 else if (if ma σ 14 t ≤ ma σ 21 t + 1 then ml σ 13 t else ml σ 15 (((20 : Int32) * nI t) + (ma σ 21 t + 1)).toNatClampNeg) - ml σ 15 (((20 : Int32) * nI t) + (ma σ 21 t)).toNatClampNeg = 0 then 4 else 1
theorem lev_congr {σ σ' : MS} {t : Nat} (h : stc σ σ') (h21 : ma σ' 21 t = ma σ 21 t) : lev σ' t = lev σ t := by
  unfold lev
  rw [h21, h.2.1 14 (by decide), h.2.2 13 (by decide), h.2.2 15 (by decide)]
theorem lev_pos {σ : MS} {t : Nat} : 1 ≤ lev σ t ∧ lev σ t ≤ 4 := by
  unfold lev
  repeat' split
  all_goals omega
theorem goTo_tgP {σ : MS} {t : Nat} (ht : t < 2 ^ 31) : goTo (tgP σ (nI t)) (nI t) = if ma σ 14 t ≤ ma σ 21 t + 1 then ml σ 13 t else ml σ 15 (((20 : Int32) * nI t) + (ma σ 21 t + 1)).toNatClampNeg := by
  have et : (nI t).toNatClampNeg = t := nI_clamp ht
  have e21 : ma (tgP σ (nI t)) 21 t = ma σ 21 t + 1 := by
    unfold tgP
    rw [et]
    exact ra_s
  have e14 : ma (tgP σ (nI t)) 14 = ma σ 14 := by
    unfold tgP
    funext i
    exact (ra_a (by decide)).trans (by rw [Mnote_ma (by decide)])
  have el : ml (tgP σ (nI t)) = ml σ := by
    unfold tgP
    show ml (Mnote_S σ 1 (nI t) _ _) = ml σ
    exact Mnote_ml
  unfold goTo
  rw [et, e21, e14, el]
theorem goOn_due {rk : Nat → Nat} {B : Int} {σ : MS} {t p : Nat} {f : Int64} {c : Int32} (h : Iv rk B σ) (h1 : 1 ≤ t) (h2 : t ≤ nT σ) (h21 : ma σ 21 t = nI p) (hp : p ≤ (ma σ 14 t).toNatClampNeg) (hf : 0 ≤ f.toInt ∧ f.toInt ≤ (goTo σ (nI t)).toInt) (hc : ma σ 12 t = c) (hd : ¬ goTo σ (nI t) - f = 0) : ¬ ml (MgoOn_S σ (nI t) f) 20 t = ml σ 3 c.toNatClampNeg := by
  have ht : t ≤ 20 := Nat.le_trans h2 h.1.1.2.2.2
  have et : (nI t).toNatClampNeg = t := nI_clamp (by omega)
  obtain ⟨b1, b2, -, -⟩ := goTo_in h.1 h1 h2 h21 hp
  rw [MgoOn_eq, if_neg hd, et]
  have ed : (goTo σ (nI t) - f).toInt = (goTo σ (nI t)).toInt - f.toInt := i64_sub (by omega) (by omega)
  have d1 := i64_pos (by rw [ed]; omega) hd
  have hdv := h.2.2.2.2.2 t h1 h2
  obtain ⟨⟨w1, w2⟩, w3, w4, w5⟩ := drw_ok hdv (d := goTo σ (nI t) - f) ⟨d1, by rw [ed]; omega⟩
  generalize drw (ml σ 18 t) (goTo σ (nI t) - f) = dr at w1 w2 w3 w4 w5
  rw [rl_s, hc]
  generalize goTo σ (nI t) - f = d at d1 ed w3
  intro e
  rw [Int64.add_assoc] at e
  have e0 := i64_self e
  have es : (d + dr).toInt = d.toInt + dr.toInt := i64_add (by omega) (by omega)
  rw [e0] at es
  have : (0 : Int64).toInt = 0 := rfl
  omega
theorem nI_inj {a b : Nat} (ha : a < 2 ^ 31) (hb : b < 2 ^ 31) (h : nI a = nI b) : a = b := (nI_eq ha hb).mp h
/-- behind a turn of t: the steps stand, others than t and the one that goes on are as they were, t itself is not due unless it goes on -/
theorem tb_due {rk : Nat → Nat} {B : Int} {σ : MS} {t w : Nat} {c : Int32} (h : Iv rk B σ) (h1 : 1 ≤ t) (h2 : t ≤ nT σ) (hc : ma σ 12 t = c) (hw : w < 2 ^ 31) (hR : ¬ MtableGoes_R σ (nI t) = nI w) (hn : w ≠ t → ¬ dueT σ c w) : ¬ dueT (MtableGoes_S σ (nI t)) c w := by
  have ht : t ≤ 20 := Nat.le_trans h2 h.1.1.2.2.2
  have et : (nI t).toNatClampNeg = t := nI_clamp (by omega)
  obtain ⟨k1, ⟨k2, k2b⟩, k3, k4, k5⟩ := Cf_t h.1 h1 h2
  obtain ⟨e14, b14⟩ := rg_cl (hi := 20) k3 (by decide)
  have hpl := h.2.2.2.2.1 t h1 h2
  have e3 : ml (MtableGoes_S σ (nI t)) 3 = ml σ 3 := MtableGoes_ml (by decide) (by decide)
  have e12 : ma (MtableGoes_S σ (nI t)) 12 = ma σ 12 := MtableGoes_ma (by decide) (by decide) (by decide)
  by_cases ew : w = t
  · subst ew
    rintro ⟨d1, d2, d3⟩
    rw [e3] at d3
    rw [MtableGoes_Req, et] at hR
    rw [MtableGoes_eq, et] at d1 d3
    by_cases c1 : ma σ 21 w = -1
    · rw [if_pos c1] at hR d1 d3
      have hg : ¬ goTo (sma σ 21 w 0) (nI w) - 0 = 0 := fun z => hR (by rw [if_pos z])
      have hP : Rl rk (rk (ma σ 12 w).toNatClampNeg) B 0 σ (sma σ 21 w 0) := Rl_place h h1 h2 (Nat.le_refl _) ⟨by decide, by have : (0 : Int32).toInt = 0 := rfl; omega⟩
      have h21 : ma (sma σ 21 w 0) 21 w = nI 0 := up2_self _ _ _ _
      have hgi := goTo_in hP.1.1 h1 h2 h21 (Nat.zero_le _)
      exact goOn_due (f := 0) hP.1 h1 h2 h21 (Nat.zero_le _) ⟨by decide, hgi.1⟩ hc hg d3
    · rw [if_neg c1] at hR d1 d3
      obtain ⟨p, hp, e21⟩ := rg_m1n hpl (by omega) c1
      by_cases c2 : ma σ 14 w ≤ ma σ 21 w
      · rw [if_pos c2] at hR d1 d3
        unfold tgR at hR
        unfold tgE at d1
        rw [et] at hR d1
        have k0 : ma (sma (Mnote_S σ 2 (nI w) 0 (ma σ 12 w)) 19 w 0) 19 w = 0 := ra_s
        by_cases c3 : ma σ 17 w = 0
        · rw [if_pos c3] at d1
          exact d1 k0
        · rw [if_neg c3] at hR d1
          by_cases c4 : up2 (ma σ) 19 w 0 19 (ma σ 17 w).toNatClampNeg = 0
          · rw [if_pos c4] at hR d1
            obtain ⟨e17n, b17⟩ := rg_cl (hi := nT σ) k2 (by have := h.1.1.2.2.2; omega)
            have hne : w ≠ (ma σ 17 w).toNatClampNeg := fun e => hR (by rw [e17n, ← e])
            have : ma (sml (sma (sma (sml (sma (Mnote_S σ 2 (nI w) 0 (ma σ 12 w)) 19 w 0) 18 (ma σ 17 w).toNatClampNeg (if ma σ 17 w = nI w then ml σ 18 (ma σ 17 w).toNatClampNeg else 0)) 19 (ma σ 17 w).toNatClampNeg 1) 21 (ma σ 17 w).toNatClampNeg (-1)) 20 (ma σ 17 w).toNatClampNeg (ml σ 3 (ma σ 12 (ma σ 17 w).toNatClampNeg).toNatClampNeg)) 19 w = 0 := ra_l.trans ((ra_a (by decide)).trans ((ra_n hne).trans (ra_l.trans k0)))
            exact d1 this
          · rw [if_neg c4] at d1
            exact d1 k0
      · rw [if_neg c2] at hR d1 d3
        have hg : ¬ goTo (tgP σ (nI w)) (nI w) - tgO σ (nI w) = 0 := fun z => hR (by rw [if_pos z])
        have hlt : p < (ma σ 14 w).toNatClampNeg := by
          rcases Nat.lt_or_ge p (ma σ 14 w).toNatClampNeg with z | z
          · exact z
          · exact absurd (by rw [e14, e21, nI_leI (by omega) (by omega)]; exact z) c2
        have hO : tgO σ (nI w) = ml σ 15 (20 * w + p) := by
          show ml σ 15 (((20 : Int32) * (nI w)) + (ma σ 21 (nI w).toNatClampNeg)).toNatClampNeg = _
          rw [et, e21, ofs_nI (by omega) (by omega)]
        have hs : stc σ (tgP σ (nI w)) := stc_note.tr stc_21
        have x21 : ma (tgP σ (nI w)) 21 w = nI (p + 1) := by
          unfold tgP
          rw [et, e21, nI_1]
          exact ra_s
        have x14 : ma (tgP σ (nI w)) 14 = ma σ 14 := hs.2.1 14 (by decide)
        have xl : ml (tgP σ (nI w)) = ml σ := by
          unfold tgP
          show ml (Mnote_S σ 1 (nI w) _ _) = ml σ
          exact Mnote_ml
        have x2 : w ≤ nT (tgP σ (nI w)) := by rw [nT_stc hs]; exact h2
        have hle : p + 1 ≤ (ma (tgP σ (nI w)) 14 w).toNatClampNeg := by rw [x14]; exact hlt
        have hCf := Cf_stc hs h.1
        have hgi := goTo_in hCf h1 x2 x21 hle
        have hf := k5 p hlt
        have hfle : (ml σ 15 (20 * w + p)).toInt ≤ (goTo (tgP σ (nI w)) (nI w)).toInt := by
          rw [x14, xl] at hgi
          rcases Nat.lt_or_ge (p + 1) (ma σ 14 w).toNatClampNeg with z | z
          · rw [hgi.2.2.2 z]
            have := (k5 (p + 1) z).2.1 p (by omega)
            omega
          · rw [hgi.2.2.1 (by omega)]
            exact hf.1.2
        -- the due of goOn needs the deviation alone of what holds
        have hdv := h.2.2.2.2.2 w h1 h2
        rw [MgoOn_eq, if_neg hg, et, rl_s, xl, hs.2.1 12 (by decide), hc] at d3
        have ed : (goTo (tgP σ (nI w)) (nI w) - tgO σ (nI w)).toInt = (goTo (tgP σ (nI w)) (nI w)).toInt - (tgO σ (nI w)).toInt := i64_sub (by rw [hO]; omega) (by rw [hO]; omega)
        have dp := i64_pos (by rw [ed, hO]; omega) hg
        obtain ⟨⟨w1, w2⟩, w3, w4, w5⟩ := drw_ok hdv (d := goTo (tgP σ (nI w)) (nI w) - tgO σ (nI w)) ⟨dp, by rw [ed, hO]; omega⟩
        generalize drw (ml σ 18 w) (goTo (tgP σ (nI w)) (nI w) - tgO σ (nI w)) = dr at w1 w2 w3 w4 w5 d3
        have hsm : (goTo (tgP σ (nI w)) (nI w) - tgO σ (nI w)).toInt ≤ 1000000 := by rw [ed, hO]; omega
        generalize goTo (tgP σ (nI w)) (nI w) - tgO σ (nI w) = d at dp w3 d3 hsm
        rw [Int64.add_assoc] at d3
        have e0 := i64_self d3
        have es : (d + dr).toInt = d.toInt + dr.toInt := i64_add (by omega) (by omega)
        rw [e0] at es
        have : (0 : Int64).toInt = 0 := rfl
        omega
  · -- another table
    rintro ⟨d1, d2, d3⟩
    rw [e3] at d3
    rw [e12] at d2
    have key : ma (MtableGoes_S σ (nI t)) 19 w = ma σ 19 w ∧ ml (MtableGoes_S σ (nI t)) 20 w = ml σ 20 w := by
      rw [MtableGoes_Req, et] at hR
      rw [MtableGoes_eq, et]
      by_cases c1 : ma σ 21 t = -1
      · rw [if_pos c1, MgoOn_ma, MgoOn_ml (Or.inr (by rw [et]; exact ew))]
        exact ⟨ra_a (by decide), rl_a⟩
      · rw [if_neg c1] at hR ⊢
        by_cases c2 : ma σ 14 t ≤ ma σ 21 t
        · rw [if_pos c2] at hR ⊢
          unfold tgR at hR
          unfold tgE
          rw [et] at hR ⊢
          have q1 : ma (sma (Mnote_S σ 2 (nI t) 0 (ma σ 12 t)) 19 t 0) 19 w = ma σ 19 w := (ra_n ew).trans (by rw [Mnote_ma (by decide)])
          have q2 : ml (sma (Mnote_S σ 2 (nI t) 0 (ma σ 12 t)) 19 t 0) 20 w = ml σ 20 w := rl_a.trans (by rw [Mnote_ml])
          generalize sma (Mnote_S σ 2 (nI t) 0 (ma σ 12 t)) 19 t 0 = Z at q1 q2
          by_cases c3 : ma σ 17 t = 0
          · rw [if_pos c3]
            exact ⟨q1, q2⟩
          · rw [if_neg c3] at hR ⊢
            by_cases c4 : up2 (ma σ) 19 t 0 19 (ma σ 17 t).toNatClampNeg = 0
            · rw [if_pos c4] at hR ⊢
              obtain ⟨e17n, b17⟩ := rg_cl (hi := nT σ) k2 (by have := h.1.1.2.2.2; omega)
              have hne : w ≠ (ma σ 17 t).toNatClampNeg := fun e => hR (by rw [e17n, ← e])
              exact ⟨ra_l.trans ((ra_a (by decide)).trans ((ra_n hne).trans (ra_l.trans q1))), (rl_n hne).trans (rl_a.trans (rl_a.trans ((rl_n hne).trans q2)))⟩
            · rw [if_neg c4]
              exact ⟨q1, q2⟩
        · rw [if_neg c2, MgoOn_ma, MgoOn_ml (Or.inr (by rw [et]; exact ew))]
          unfold tgP
          rw [et]
          exact ⟨(ra_a (by decide)).trans (by rw [Mnote_ma (by decide)]), rl_a.trans (by rw [Mnote_ml])⟩
    rw [key.1] at d1
    rw [key.2] at d3
    exact hn ew ⟨d1, d2, d3⟩
/-- a turn that goes on comes nearer to its end -/
theorem lev_dec {rk : Nat → Nat} {B : Int} {σ : MS} {t u : Nat} (h : Iv rk B σ) (h1 : 1 ≤ t) (h2 : t ≤ nT σ) (hu1 : 1 ≤ u) (hu2 : u ≤ 20) (hR : MtableGoes_R σ (nI t) = nI u) : lev (MtableGoes_S σ (nI t)) u < lev σ t := by
  have ht : t ≤ 20 := Nat.le_trans h2 h.1.1.2.2.2
  have et : (nI t).toNatClampNeg = t := nI_clamp (by omega)
  obtain ⟨k1, ⟨k2, k2b⟩, k3, k4, k5⟩ := Cf_t h.1 h1 h2
  obtain ⟨e14, b14⟩ := rg_cl (hi := 20) k3 (by decide)
  have hpl := h.2.2.2.2.1 t h1 h2
  have h0u : ¬ (0 : Int32) = nI u := fun e => by
    have := nI_inj (a := 0) (b := u) (by decide) (by omega) e
    omega
  rw [MtableGoes_Req, et] at hR
  rw [MtableGoes_eq, et]
  by_cases c1 : ma σ 21 t = -1
  · rw [if_pos c1] at hR ⊢
    have hl : lev σ t = 2 := by unfold lev; rw [if_pos c1]
    by_cases cg : goTo (sma σ 21 t 0) (nI t) - 0 = 0
    · rw [if_pos cg] at hR
      have eu := nI_inj (by omega) (by omega) hR
      subst eu
      rw [MgoOn_eq, if_pos cg, hl]
      have x21 : ma (sma σ 21 t 0) 21 t = nI 0 := ra_s
      have hCf : Cf rk (sma σ 21 t 0) := Cf_stc stc_21 h.1
      have hgi := goTo_in hCf h1 h2 x21 (Nat.zero_le _)
      have x14 : ma (sma σ 21 t 0) 14 t = ma σ 14 t := ra_a (by decide)
      rw [x14] at hgi
      have hz : (goTo (sma σ 21 t 0) (nI t)).toInt = 0 := by
        have : (goTo (sma σ 21 t 0) (nI t) - 0).toInt = (goTo (sma σ 21 t 0) (nI t)).toInt - 0 := i64_sub (by have : (0 : Int64).toInt = 0 := rfl; omega) (by have : (0 : Int64).toInt = 0 := rfl; omega)
        rw [cg] at this
        have z0 : (0 : Int64).toInt = 0 := rfl
        omega
      have hq : 0 < (ma σ 14 t).toNatClampNeg := by
        rcases Nat.eq_zero_or_pos (ma σ 14 t).toNatClampNeg with z | z
        · have := hgi.2.2.1 z.symm
          rw [this] at hz
          have : ml (sma σ 21 t 0) 13 t = ml σ 13 t := rl_a
          rw [this] at hz
          omega
        · exact z
      have hoff : (ml σ 15 (20 * t + 0)).toInt = 0 := by
        have := hgi.2.2.2 hq
        rw [this] at hz
        exact hz
      unfold lev
      rw [x21, x14, if_neg (by decide)]
      have n1 : ¬ ma σ 14 t ≤ nI 0 := by
        rw [e14, nI_leI (by omega) (by decide)]
        omega
      rw [if_neg n1]
      have x13 : ml (sma σ 21 t 0) = ml σ := rfl
      rw [x13, show nI 0 + 1 = nI 1 from rfl, ofs_nI (by omega) (by decide), ofs_nI (by omega) (by decide)]
      rw [if_neg]
      · decide
      · intro z
        have hb : (if ma σ 14 t ≤ nI 1 then ml σ 13 t else ml σ 15 (20 * t + 1)).toInt ≥ 1 ∧ (if ma σ 14 t ≤ nI 1 then ml σ 13 t else ml σ 15 (20 * t + 1)).toInt ≤ 1000000 := by
          by_cases c : ma σ 14 t ≤ nI 1
          · rw [if_pos c]; omega
          · rw [if_neg c]
            rw [e14, nI_leI (by omega) (by decide)] at c
            have := k5 1 (by omega)
            have := this.2.1 0 (by omega)
            omega
        have es := i64_sub (x := if ma σ 14 t ≤ nI 1 then ml σ 13 t else ml σ 15 (20 * t + 1)) (y := ml σ 15 (20 * t + 0)) (by omega) (by omega)
        rw [z] at es
        have z0 : (0 : Int64).toInt = 0 := rfl
        omega
    · rw [if_neg cg] at hR
      exact absurd hR h0u
  · rw [if_neg c1] at hR ⊢
    obtain ⟨p, hp, e21⟩ := rg_m1n hpl (by omega) c1
    by_cases c2 : ma σ 14 t ≤ ma σ 21 t
    · rw [if_pos c2] at hR ⊢
      have hl : lev σ t = 3 := by unfold lev; rw [if_neg c1, if_pos c2]
      unfold tgR at hR
      unfold tgE
      rw [et] at hR ⊢
      by_cases c3 : ma σ 17 t = 0
      · rw [if_pos c3] at hR
        exact absurd hR h0u
      · rw [if_neg c3] at hR ⊢
        by_cases c4 : up2 (ma σ) 19 t 0 19 (ma σ 17 t).toNatClampNeg = 0
        · rw [if_pos c4] at hR ⊢
          rw [hl]
          have eu : (ma σ 17 t).toNatClampNeg = u := by rw [hR]; exact nI_clamp (by omega)
          rw [eu]
          have : ∀ (Y : MS) (w : Int64), lev (sml (sma Y 21 u (-1)) 20 u w) u = 2 := fun Y w => by
            unfold lev
            rw [if_pos (ra_l.trans ra_s)]
          rw [this]
          decide
        · rw [if_neg c4] at hR
          exact absurd hR h0u
    · rw [if_neg c2] at hR ⊢
      have hlt : p < (ma σ 14 t).toNatClampNeg := by
        rcases Nat.lt_or_ge p (ma σ 14 t).toNatClampNeg with z | z
        · exact z
        · exact absurd (by rw [e14, e21, nI_leI (by omega) (by omega)]; exact z) c2
      by_cases cg : goTo (tgP σ (nI t)) (nI t) - tgO σ (nI t) = 0
      · rw [if_pos cg] at hR
        have eu := nI_inj (by omega) (by omega) hR
        subst eu
        rw [MgoOn_eq, if_pos cg]
        have hO : tgO σ (nI t) = ml σ 15 (20 * t + p) := by
          show ml σ 15 (((20 : Int32) * (nI t)) + (ma σ 21 (nI t).toNatClampNeg)).toNatClampNeg = _
          rw [et, e21, ofs_nI (by omega) (by omega)]
        have hl : lev σ t = 4 := by
          unfold lev
          rw [if_neg c1, if_neg c2]
          rw [goTo_tgP (by omega)] at cg
          have hO2 : tgO σ (nI t) = ml σ 15 (((20 : Int32) * nI t) + (ma σ 21 t)).toNatClampNeg := by
            show ml σ 15 (((20 : Int32) * (nI t)) + (ma σ 21 (nI t).toNatClampNeg)).toNatClampNeg = _
            rw [et]
          rw [hO2] at cg
          rw [if_pos cg]
        rw [hl]
        have x21 : ma (tgP σ (nI t)) 21 t = nI (p + 1) := by
          unfold tgP
          rw [et, e21, nI_1]
          exact ra_s
        have x14 : ma (tgP σ (nI t)) 14 t = ma σ 14 t := by
          unfold tgP
          exact (ra_a (by decide)).trans (by rw [Mnote_ma (by decide)])
        have hend : (ma σ 14 t).toNatClampNeg ≤ p + 1 := by
          rcases Nat.lt_or_ge (p + 1) (ma σ 14 t).toNatClampNeg with z | z
          · exfalso
            rw [goTo_tgP (by omega), hO, e21, nI_1, if_neg (by rw [e14, nI_leI (by omega) (by omega)]; omega), ofs_nI (by omega) (by omega)] at cg
            have a1 := k5 (p + 1) z
            have a2 := a1.2.1 p (by omega)
            have a3 := k5 p hlt
            have es := i64_sub (x := ml σ 15 (20 * t + (p + 1))) (y := ml σ 15 (20 * t + p)) (by omega) (by omega)
            rw [cg] at es
            have z0 : (0 : Int64).toInt = 0 := rfl
            omega
          · exact z
        unfold lev
        rw [x21, x14, if_neg, if_pos]
        · decide
        · rw [e14, nI_leI (by omega) (by omega)]
          exact hend
        · intro e
          have : (nI (p + 1)).toInt = -1 := by rw [e]; rfl
          rw [nI_toInt (by omega)] at this
          omega
      · rw [if_neg cg] at hR
        exact absurd hR h0u
