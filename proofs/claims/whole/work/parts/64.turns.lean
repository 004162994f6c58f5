-- A TABLE'S TURN
theorem ofs_nI {t p : Nat} (ht : t ≤ 100) (hp : p ≤ 1000) : (((20 : Int32) * nI t) + nI p).toNatClampNeg = 20 * t + p := by
  rw [show (20 : Int32) * nI t = nI (20 * t) from (Int32.ofNat_mul 20 t).symm, nI_add]
  exact nI_clamp (by omega)
theorem rg_m1n {x : Int32} {n : Nat} (h : rg (-1) n x) (hn : n < 2 ^ 31) (q : ¬ x = -1) : ∃ p, p ≤ n ∧ x = nI p := by
  have h1 : rg 0 n x := rg_m1 h q
  obtain ⟨e, e2⟩ := rg_cl (hi := n) h1 hn
  exact ⟨_, e2, e⟩
theorem goTo_eq {σ : MS} {t p q : Nat} (ht : t ≤ 100) (hp : p ≤ 1000) (hq : q ≤ 1000) (h21 : ma σ 21 t = nI p) (h14 : ma σ 14 t = nI q) : goTo σ (nI t) = if q ≤ p then ml σ 13 t else ml σ 15 (20 * t + p) := by
  unfold goTo
  rw [nI_clamp (by omega), h21, h14, ofs_nI ht hp]
  by_cases c : q ≤ p
  · rw [if_pos c, if_pos ((nI_leI (by omega) (by omega)).mpr c)]
  · rw [if_neg c, if_neg (fun z => c ((nI_leI (by omega) (by omega)).mp z))]
theorem Cf_t {rk : Nat → Nat} {σ : MS} (h : Cf rk σ) {t : Nat} (h1 : 1 ≤ t) (h2 : t ≤ nT σ) : inC σ (ma σ 12 t) ∧ (rg 0 (nT σ) (ma σ 17 t) ∧ (ma σ 17 t ≠ 0 → ma σ 12 ((ma σ 17 t).toNatClampNeg) = ma σ 12 t)) ∧ rg 0 20 (ma σ 14 t) ∧ (1 ≤ (ml σ 13 t).toInt ∧ (ml σ 13 t).toInt ≤ 1000000) ∧
    (∀ p, p < (ma σ 14 t).toNatClampNeg → (0 ≤ (ml σ 15 (20 * t + p)).toInt ∧ (ml σ 15 (20 * t + p)).toInt ≤ (ml σ 13 t).toInt) ∧ (∀ p', p' < p → (ml σ 15 (20 * t + p')).toInt < (ml σ 15 (20 * t + p)).toInt) ∧ (¬ ma σ 16 (20 * t + p) ≤ 0 → inC σ (ma σ 16 (20 * t + p)) ∧ rk ((ma σ 16 (20 * t + p)).toNatClampNeg) < rk ((ma σ 12 t).toNatClampNeg))) := h.2.2 t h1 h2
/-- where a table that stands at a place goes on to, in ints -/
theorem goTo_in {rk : Nat → Nat} {σ : MS} (h : Cf rk σ) {t p : Nat} (h1 : 1 ≤ t) (h2 : t ≤ nT σ) (h21 : ma σ 21 t = nI p) (hp : p ≤ (ma σ 14 t).toNatClampNeg) : 0 ≤ (goTo σ (nI t)).toInt ∧ (goTo σ (nI t)).toInt ≤ 1000000 ∧ (p = (ma σ 14 t).toNatClampNeg → goTo σ (nI t) = ml σ 13 t) ∧ (p < (ma σ 14 t).toNatClampNeg → goTo σ (nI t) = ml σ 15 (20 * t + p)) := by
  obtain ⟨k1, k2, k3, k4, k5⟩ := Cf_t h h1 h2
  obtain ⟨e14, b14⟩ := rg_cl (hi := 20) k3 (by decide)
  have ht : t ≤ 20 := Nat.le_trans h2 h.1.2.2.2
  have e := goTo_eq (σ := σ) (t := t) (p := p) (q := (ma σ 14 t).toNatClampNeg) (by omega) (by omega) (by omega) h21 e14
  rw [e]
  by_cases c : (ma σ 14 t).toNatClampNeg ≤ p
  · rw [if_pos c]
    exact ⟨by omega, by omega, fun _ => rfl, fun q => by omega⟩
  · rw [if_neg c]
    have := k5 p (by omega)
    exact ⟨by omega, by omega, fun q => by omega, fun _ => rfl⟩
theorem i64_sub {x y : Int64} (h1 : -2 ^ 62 ≤ x.toInt - y.toInt) (h2 : x.toInt - y.toInt < 2 ^ 62) : (x - y).toInt = x.toInt - y.toInt := by
  rw [Int64.toInt_sub]
  exact Int.bmod_eq_of_le (by omega) (by omega)
theorem i64_add {x y : Int64} (h1 : -2 ^ 62 ≤ x.toInt + y.toInt) (h2 : x.toInt + y.toInt < 2 ^ 62) : (x + y).toInt = x.toInt + y.toInt := by
  rw [Int64.toInt_add]
  exact Int.bmod_eq_of_le (by omega) (by omega)
theorem i64_pos {d : Int64} (h : 0 ≤ d.toInt) (q : ¬ d = 0) : 1 ≤ d.toInt := by
  have : d.toInt ≠ 0 := fun e => q (Int64.toInt_inj.mp (e.trans rfl))
  omega
theorem Rl_goOn {rk : Nat → Nat} {r : Nat} {B : Int} {σ : MS} {t p : Nat} {f : Int64} (h : Iv rk B σ) (h1 : 1 ≤ t) (h2 : t ≤ nT σ) (hr : rk ((ma σ 12 t).toNatClampNeg) ≤ r) (h21 : ma σ 21 t = nI p) (hp : p ≤ (ma σ 14 t).toNatClampNeg) (hf : 0 ≤ f.toInt ∧ f.toInt ≤ (goTo σ (nI t)).toInt) : Rl rk r B 0 σ (MgoOn_S σ (nI t) f) := by
  have ht : t ≤ 20 := Nat.le_trans h2 h.1.1.2.2.2
  have et : (nI t).toNatClampNeg = t := nI_clamp (by omega)
  obtain ⟨b1, b2, -, -⟩ := goTo_in h.1 h1 h2 h21 hp
  rw [MgoOn_eq]
  by_cases c : goTo σ (nI t) - f = 0
  · rw [if_pos c]
    exact Rl.rf h
  · rw [if_neg c]
    have ed : (goTo σ (nI t) - f).toInt = (goTo σ (nI t)).toInt - f.toInt := i64_sub (by omega) (by omega)
    have d1 := i64_pos (by rw [ed]; omega) c
    have hdv := h.2.2.2.2.2 t h1 h2
    obtain ⟨⟨w1, w2⟩, w3, w4, w5⟩ := drw_ok hdv (d := goTo σ (nI t) - f) ⟨d1, by rw [ed]; omega⟩
    rw [et]
    generalize drw (ml σ 18 t) (goTo σ (nI t) - f) = dr at w1 w2 w3 w4 w5
    generalize hX : ml σ 3 (ma σ 12 t).toNatClampNeg + (goTo σ (nI t) - f) + dr = X
    have hs : stc σ (sml (sml σ 18 t (ml σ 18 t - dr)) 20 t X) := stc_18.tr stc_20
    obtain ⟨g1, g2, g3, g4, g5, g6⟩ := h
    refine ⟨⟨Cf_stc hs g1, g2, g3, g4, g5, fun u u1 u2 => ?_⟩, ⟨hs, fun _ _ => rfl, fun _ _ => ⟨rfl, id⟩, fun u hu => ?_⟩, Nat.le_refl _⟩
    · show -1000 ≤ (up2 (up2 (ml σ) 18 t (ml σ 18 t - dr)) 20 t X 18 u).toInt ∧ (up2 (up2 (ml σ) 18 t (ml σ 18 t - dr)) 20 t X 18 u).toInt ≤ 1000
      rw [up2_k _ _ _ _ (by decide)]
      by_cases e : u = t
      · subst e
        rw [up2_self, i64_sub (by omega) (by omega)]
        omega
      · rw [up2_a _ _ _ _ e]
        exact g6 u u1 u2
    · have e : u ≠ t := fun e => by subst e; omega
      refine ⟨rfl, rfl, ?_, ?_⟩
      · exact (rl_n e).trans (rl_n e)
      · exact (rl_n e).trans (rl_n e)
theorem Rl_place {rk : Nat → Nat} {r : Nat} {B : Int} {σ : MS} {t : Nat} {v : Int32} (h : Iv rk B σ) (h1 : 1 ≤ t) (h2 : t ≤ nT σ) (hr : rk ((ma σ 12 t).toNatClampNeg) ≤ r) (hv : rg (-1) ((ma σ 14 t).toNatClampNeg) v) : Rl rk r B 0 σ (sma σ 21 t v) := by
  obtain ⟨g1, g2, g3, g4, g5, g6⟩ := h
  have hs : stc σ (sma σ 21 t v) := stc_21
  refine ⟨⟨Cf_stc hs g1, g2, g3, g4, fun u u1 u2 => ?_, g6⟩, ⟨hs, fun _ _ => rfl, fun _ _ => ⟨rfl, id⟩, fun u hu => ?_⟩, Nat.le_refl _⟩
  · show rg (-1) ((ma σ 14 u).toNatClampNeg) (up2 (ma σ) 21 t v 21 u)
    by_cases e : u = t
    · subst e; rw [up2_self]; exact hv
    · rw [up2_a _ _ _ _ e]; exact g5 u u1 u2
  · have e : u ≠ t := fun e => by subst e; omega
    exact ⟨rfl, up2_a _ _ _ _ e, rfl, rfl⟩
theorem Rl_tgE {rk : Nat → Nat} {r : Nat} {B : Int} {σ : MS} {t : Nat} (h : Iv rk B σ) (hb : pot σ + 1 < 2 ^ 31) (h1 : 1 ≤ t) (h2 : t ≤ nT σ) (hr : rk ((ma σ 12 t).toNatClampNeg) ≤ r) : Rl rk r B 1 σ (tgE σ (nI t)) := by
  have ht : t ≤ 20 := Nat.le_trans h2 h.1.1.2.2.2
  have et : (nI t).toNatClampNeg = t := nI_clamp (by omega)
  obtain ⟨k1, ⟨k2, k2b⟩, k3, k4, k5⟩ := Cf_t h.1 h1 h2
  have hN : Rl rk r B 1 σ (Mnote_S σ 2 (nI t) 0 (ma σ 12 t)) := Rl_note h hb
  have e17 : ma (Mnote_S σ 2 (nI t) 0 (ma σ 12 t)) 17 = ma σ 17 := Mnote_ma (by decide)
  have eml : ml (Mnote_S σ 2 (nI t) 0 (ma σ 12 t)) = ml σ := Mnote_ml
  have e12 : ma (Mnote_S σ 2 (nI t) 0 (ma σ 12 t)) 12 = ma σ 12 := Mnote_ma (by decide)
  have eT : nT (Mnote_S σ 2 (nI t) 0 (ma σ 12 t)) = nT σ := nT_stc stc_note
  unfold tgE
  rw [et]
  generalize Mnote_S σ 2 (nI t) 0 (ma σ 12 t) = Y at hN e17 eml e12 eT
  have hR : Rl rk r B 0 Y (sma Y 19 t 0) := by
    obtain ⟨q1, q2⟩ := Iv_keep (σ' := sma Y 19 t 0) hN.1 stc_19 rfl rfl rfl (fun _ _ _ => rfl) (fun _ _ _ => rfl)
    refine ⟨q1, ⟨stc_19, fun _ _ => rfl, fun _ _ => ⟨rfl, id⟩, fun u hu => ?_⟩, by rw [q2]; exact Nat.le_refl _⟩
    rw [e12] at hu
    have e : u ≠ t := fun e => by subst e; omega
    exact ⟨up2_a _ _ _ _ e, rfl, rfl, rfl⟩
  have hZ := hN.tr hR
  have z12 : ma (sma Y 19 t 0) 12 = ma σ 12 := e12
  have zT : nT (sma Y 19 t 0) = nT σ := eT
  have zml : ml (sma Y 19 t 0) = ml σ := eml
  generalize sma Y 19 t 0 = Z at hZ z12 zT zml
  by_cases c3 : ma σ 17 t = 0
  · rw [if_pos c3]
    exact hZ
  · rw [if_neg c3]
    by_cases c4 : up2 (ma σ) 19 t 0 19 (ma σ 17 t).toNatClampNeg = 0
    · rw [if_pos c4]
      obtain ⟨e17n, b17⟩ := rg_cl (hi := nT σ) k2 (by have := h.1.1.2.2.2; omega)
      have hn0 : 1 ≤ (ma σ 17 t).toNatClampNeg := by
        rcases Nat.eq_zero_or_pos ((ma σ 17 t).toNatClampNeg) with z | z
        · exact absurd (by rw [e17n, show (ma σ 17 t).toNatClampNeg = 0 from z]; rfl) c3
        · exact z
      have hon := k2b c3
      generalize hn : (ma σ 17 t).toNatClampNeg = n at hn0 b17 hon
      have hv : -1000 ≤ (if ma σ 17 t = nI t then ml σ 18 n else 0 : Int64).toInt ∧ (if ma σ 17 t = nI t then ml σ 18 n else 0 : Int64).toInt ≤ 1000 := by
        split
        · exact h.2.2.2.2.2 n hn0 b17
        · exact ⟨by decide, by decide⟩
      generalize (if ma σ 17 t = nI t then ml σ 18 n else 0 : Int64) = v at hv
      generalize ml σ 3 (ma σ 12 n).toNatClampNeg = w
      obtain ⟨⟨g1, g2, g3, g4, g5, g6⟩, hF, hP⟩ := hZ
      have hs : stc Z (sml (sma (sma (sml Z 18 n v) 19 n 1) 21 n (-1)) 20 n w) := ((stc_18.tr stc_19).tr stc_21).tr stc_20
      have hn12 : rk ((ma Z 12 n).toNatClampNeg) ≤ r := by rw [z12, hon]; exact hr
      refine ⟨⟨Cf_stc hs g1, g2, g3, g4, fun u u1 u2 => ?_, fun u u1 u2 => ?_⟩, hF.tr ⟨hs, fun _ _ => rfl, fun _ _ => ⟨rfl, id⟩, fun u hu => ?_⟩, hP⟩
      · show rg (-1) ((ma Z 14 u).toNatClampNeg) (up2 (up2 (ma Z) 19 n 1) 21 n (-1) 21 u)
        by_cases e : u = n
        · subst e
          rw [up2_self]
          exact ⟨by decide, by have : (-1 : Int32).toInt = -1 := rfl; omega⟩
        · rw [up2_a _ _ _ _ e, up2_k _ _ _ _ (by decide)]
          exact g5 u u1 u2
      · show -1000 ≤ (up2 (up2 (ml Z) 18 n v) 20 n w 18 u).toInt ∧ (up2 (up2 (ml Z) 18 n v) 20 n w 18 u).toInt ≤ 1000
        rw [up2_k _ _ _ _ (by decide)]
        by_cases e : u = n
        · subst e; rw [up2_self]; exact hv
        · rw [up2_a _ _ _ _ e]; exact g6 u u1 u2
      · have e : u ≠ n := fun e => by subst e; omega
        refine ⟨?_, ?_, ?_, ?_⟩
        · exact ra_l.trans ((ra_n e).trans ((ra_n e).trans ra_l))
        · exact ra_l.trans ((ra_n e).trans ((ra_n e).trans ra_l))
        · exact (rl_n e).trans (rl_a.trans (rl_a.trans (rl_n e)))
        · exact (rl_n e).trans (rl_a.trans (rl_a.trans (rl_n e)))
    · rw [if_neg c4]
      exact hZ
theorem Rl_tableGoes {rk : Nat → Nat} {r : Nat} {B : Int} {σ : MS} {t : Nat} (h : Iv rk B σ) (hb : pot σ + 1 < 2 ^ 31) (h1 : 1 ≤ t) (h2 : t ≤ nT σ) (hr : rk ((ma σ 12 t).toNatClampNeg) ≤ r) : Rl rk r B 1 σ (MtableGoes_S σ (nI t)) := by
  have ht : t ≤ 20 := Nat.le_trans h2 h.1.1.2.2.2
  have et : (nI t).toNatClampNeg = t := nI_clamp (by omega)
  obtain ⟨k1, ⟨k2, k2b⟩, k3, k4, k5⟩ := Cf_t h.1 h1 h2
  obtain ⟨e14, b14⟩ := rg_cl (hi := 20) k3 (by decide)
  have hpl := h.2.2.2.2.1 t h1 h2
  rw [MtableGoes_eq, et]
  by_cases c1 : ma σ 21 t = -1
  · rw [if_pos c1]
    have hP : Rl rk r B 0 σ (sma σ 21 t 0) := Rl_place h h1 h2 hr ⟨by decide, by have : (0 : Int32).toInt = 0 := rfl; omega⟩
    have h21 : ma (sma σ 21 t 0) 21 t = nI 0 := up2_self _ _ _ _
    have hg := goTo_in hP.1.1 h1 h2 h21 (Nat.zero_le _)
    have hG : Rl rk r B 0 (sma σ 21 t 0) (MgoOn_S (sma σ 21 t 0) (nI t) 0) := Rl_goOn hP.1 h1 h2 hr h21 (Nat.zero_le _) ⟨by decide, hg.1⟩
    exact (hP.tr hG).wk (Nat.le_refl _) (by omega)
  · rw [if_neg c1]
    obtain ⟨p, hp, e21⟩ := rg_m1n hpl (by omega) c1
    by_cases c2 : ma σ 14 t ≤ ma σ 21 t
    · rw [if_pos c2]
      exact Rl_tgE h hb h1 h2 hr
    · rw [if_neg c2]
      have hlt : p < (ma σ 14 t).toNatClampNeg := by
        rcases Nat.lt_or_ge p ((ma σ 14 t).toNatClampNeg) with z | z
        · exact z
        · exact absurd (by rw [e14, e21, nI_leI (by omega) (by omega)]; exact z) c2
      have hO : tgO σ (nI t) = ml σ 15 (20 * t + p) := by
        show ml σ 15 (((20 : Int32) * (nI t)) + (ma σ 21 (nI t).toNatClampNeg)).toNatClampNeg = _
        rw [et, e21, ofs_nI (by omega) (by omega)]
      have hN : Rl rk r B 1 σ (Mnote_S σ 1 (nI t) (ml σ 15 (20 * t + p)) (ma σ 12 t)) := Rl_note h hb
      have hs : stc σ (Mnote_S σ 1 (nI t) (ml σ 15 (20 * t + p)) (ma σ 12 t)) := stc_note
      have htP : tgP σ (nI t) = sma (Mnote_S σ 1 (nI t) (ml σ 15 (20 * t + p)) (ma σ 12 t)) 21 t (nI (p + 1)) := by
        unfold tgP
        rw [hO, et, e21, nI_1]
      rw [htP, hO]
      have eml : ml (Mnote_S σ 1 (nI t) (ml σ 15 (20 * t + p)) (ma σ 12 t)) = ml σ := Mnote_ml
      generalize Mnote_S σ 1 (nI t) (ml σ 15 (20 * t + p)) (ma σ 12 t) = Y at hN hs eml
      have y14 : ma Y 14 = ma σ 14 := hs.2.1 14 (by decide)
      have y12 : ma Y 12 = ma σ 12 := hs.2.1 12 (by decide)
      have y2 : t ≤ nT Y := by rw [nT_stc hs]; exact h2
      have hP : Rl rk r B 0 Y (sma Y 21 t (nI (p + 1))) := Rl_place hN.1 h1 y2 (by rw [y12]; exact hr) (by
        rw [y14]
        exact ⟨by rw [nI_toInt (by omega)]; omega, by rw [nI_toInt (by omega)]; omega⟩)
      have h21 : ma (sma Y 21 t (nI (p + 1))) 21 t = nI (p + 1) := up2_self _ _ _ _
      have z14 : ma (sma Y 21 t (nI (p + 1))) 14 = ma σ 14 := y14
      have z12 : ma (sma Y 21 t (nI (p + 1))) 12 = ma σ 12 := y12
      have z2 : t ≤ nT (sma Y 21 t (nI (p + 1))) := y2
      have zl : ml (sma Y 21 t (nI (p + 1))) = ml σ := eml
      have hle : p + 1 ≤ (ma (sma Y 21 t (nI (p + 1))) 14 t).toNatClampNeg := by rw [z14]; exact hlt
      have hg := goTo_in hP.1.1 h1 z2 h21 hle
      have hf := k5 p hlt
      have hfle : (ml σ 15 (20 * t + p)).toInt ≤ (goTo (sma Y 21 t (nI (p + 1))) (nI t)).toInt := by
        rw [z14, zl] at hg
        rcases Nat.lt_or_ge (p + 1) ((ma σ 14 t).toNatClampNeg) with z | z
        · rw [hg.2.2.2 z]
          have := (k5 (p + 1) z).2.1 p (by omega)
          omega
        · rw [hg.2.2.1 (by omega)]
          exact hf.1.2
      have hG : Rl rk r B 0 (sma Y 21 t (nI (p + 1))) (MgoOn_S (sma Y 21 t (nI (p + 1))) (nI t) (ml σ 15 (20 * t + p))) := Rl_goOn hP.1 h1 z2 (by rw [z12]; exact hr) h21 hle ⟨hf.1.1, hfle⟩
      exact ((hN.tr hP).tr hG).wk (Nat.le_refl _) (by omega)
