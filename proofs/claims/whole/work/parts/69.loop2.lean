theorem Lv_sml {σb σ τ : MS} {d j i : Nat} {c g : Int32} {v : Int64} (h : Lv σb d c g σ τ) : Lv σb d c g (sml σ j i v) (sml τ j i v) := by
  obtain ⟨h1, h2, h3, h4, h5, h6, h7⟩ := h
  subst h1
  exact ⟨rfl, h2, h3, h4, h5, h6, h7⟩
theorem tb_run {rk : Nat → Nat} {Bm B : Int} {k : Nat} (ih : L2at rk Bm k) {σb X τ : MS} {d u : Nat} {c g : Int32} (h : Lv σb d c g X τ) (hI : Iv rk B τ) (hB : B ≤ Bm) (h1 : 1 ≤ u) (h2 : u ≤ nT τ) (hu : ma τ 12 u = c) (hk : rk c.toNatClampNeg ≤ k) (hd : d + rk c.toNatClampNeg ≤ 22) (hb : pot τ + 1 < 2 ^ 31) : ∃ σ', Gs (MgoTable_S X (nI d) (nI u)) σ' ∧ Lv σb d c (MtableGoes_R τ (nI u)) σ' (spTb (spSt k) τ (nI u)) := by
  have ht : u ≤ 20 := Nat.le_trans h2 hI.1.1.2.2.2
  have ed : (nI d).toNatClampNeg = d := nI_clamp (by omega)
  have hrg : rg 1 20 (nI u) := rg_nI (N := 20) h1 (by omega) (by decide)
  have hR : Rl rk (rk c.toNatClampNeg) B 1 τ (MtableGoes_S τ (nI u)) := Rl_tableGoes hI hb h1 h2 (by rw [hu]; exact Nat.le_refl _)
  have eR : MtableGoes_R X (nI u) = MtableGoes_R τ (nI u) := by rw [← h.1, MtableGoes_m]
  have eT : tAct X (nI u) = tAct τ (nI u) := by rw [← h.1, tAct_m]
  have hL : Lv σb d c (MtableGoes_R τ (nI u)) (sma (MtableGoes_S X (nI u)) 27 d (MtableGoes_R τ (nI u))) (MtableGoes_S τ (nI u)) := by
    obtain ⟨g1, g2, g3, g4, g5, g6, g7⟩ := h
    have e26 : ma (MtableGoes_S X (nI u)) 26 = ma X 26 := MtableGoes_ma (by decide) (by decide) (by decide)
    have e27 : ma (MtableGoes_S X (nI u)) 27 = ma X 27 := MtableGoes_ma (by decide) (by decide) (by decide)
    have e7 : ma (MtableGoes_S X (nI u)) 7 = ma X 7 := MtableGoes_ma (by decide) (by decide) (by decide)
    have e8 : ma (MtableGoes_S X (nI u)) 8 = ma X 8 := MtableGoes_ma (by decide) (by decide) (by decide)
    refine ⟨?_, ?_, ?_, ra_s, ?_, ?_, fun i hi => ?_⟩
    · rw [msk_st (Or.inr rfl), msk_tableGoes, g1]
    · exact ri_a.trans ((MtableGoes_mi (by decide)).trans g2)
    · exact (ra_a (by decide)).trans (by rw [e26]; exact g3)
    · exact mOk_w27 (mOk_tableGoes g5 hrg) (by rw [← eR]; exact MtableGoes_rg g5 hrg)
    · exact mAc_stc (funext fun _ => (ra_a (by decide)).trans (by rw [e7])) (funext fun _ => (ra_a (by decide)).trans (by rw [e8])) g6
    · exact ⟨(ra_a (by decide)).trans (by rw [e26]; exact (g7 i hi).1), (ra_n (by omega)).trans (by rw [e27]; exact (g7 i hi).2)⟩
  rw [MgoTable_eq]
  dsimp only
  rw [ed, eR, eT]
  unfold spTb
  by_cases c1 : tAct τ (nI u) ≤ 0
  · rw [if_pos c1, if_pos c1]
    by_cases c2 : 0 ≤ tAct τ (nI u)
    · rw [if_pos c2, if_pos c2]
      exact ⟨_, Gs.rf _, hL⟩
    · rw [if_neg c2, if_neg c2]
      exact ⟨_, Gs.rf _, Lv_sma hL rfl⟩
  · rw [if_neg c1, if_neg c1]
    obtain ⟨q4, q5⟩ := tAct_pos hI h1 h2 c1
    rw [hu] at q5
    exact by_run ih hL hR.1 hB (inC_stc stc_tableGoes q4) (by omega) (by omega) (by have := hR.2.2; omega)
/-- what holds of the tables behind the turn itself holds behind its act -/
theorem tb_act {rk : Nat → Nat} {Bm B : Int} {k : Nat} (hBm : Bm < 2 ^ 60) {τ : MS} {u : Nat} {c : Int32} (hI : Iv rk B τ) (hB : B ≤ Bm) (h1 : 1 ≤ u) (h2 : u ≤ nT τ) (hu : ma τ 12 u = c) (hk : rk c.toNatClampNeg ≤ k) (hb : pot τ + 1 < 2 ^ 31) : spTb (spSt k) τ (nI u) = MtableGoes_S τ (nI u) ∨ (∃ x, spTb (spSt k) τ (nI u) = sma (MtableGoes_S τ (nI u)) 9 x 0) ∨ ∃ r, r < rk c.toNatClampNeg ∧ Fm rk r (MtableGoes_S τ (nI u)) (spTb (spSt k) τ (nI u)) := by
  have hR : Rl rk (rk c.toNatClampNeg) B 1 τ (MtableGoes_S τ (nI u)) := Rl_tableGoes hI hb h1 h2 (by rw [hu]; exact Nat.le_refl _)
  unfold spTb
  by_cases c1 : tAct τ (nI u) ≤ 0
  · rw [if_pos c1]
    by_cases c2 : 0 ≤ tAct τ (nI u)
    · rw [if_pos c2]; exact Or.inl rfl
    · rw [if_neg c2]; exact Or.inr (Or.inl ⟨_, rfl⟩)
  · rw [if_neg c1]
    obtain ⟨q4, q5⟩ := tAct_pos hI h1 h2 c1
    rw [hu] at q5
    exact Or.inr (Or.inr ⟨_, q5, (Rl_by (RecOk_St rk Bm hBm k) hR.1 hB (inC_stc stc_tableGoes q4) (by omega) (Nat.le_refl _) (by have := hR.2.2; omega)).2.1⟩)
theorem tb_dueA {rk : Nat → Nat} {Bm B : Int} {k : Nat} (hBm : Bm < 2 ^ 60) {τ : MS} {u b : Nat} {c : Int32} (hI : Iv rk B τ) (hB : B ≤ Bm) (h1 : 1 ≤ u) (h2 : u ≤ nT τ) (hu : ma τ 12 u = c) (hk : rk c.toNatClampNeg ≤ k) (hb : pot τ + 1 < 2 ^ 31) (hn : ¬ dueA τ c b) : ¬ dueA (spTb (spSt k) τ (nI u)) c b := by
  have h0 : ¬ dueA (MtableGoes_S τ (nI u)) c b := by
    rintro ⟨d1, d2, d3⟩
    rw [MtableGoes_ma (by decide) (by decide) (by decide)] at d1 d2
    rw [MtableGoes_ml (by decide) (by decide), MtableGoes_ml (by decide) (by decide)] at d3
    exact hn ⟨d1, d2, d3⟩
  rcases tb_act (k := k) hBm hI hB h1 h2 hu hk hb with e | ⟨x, e⟩ | ⟨r, r1, r2⟩
  · rw [e]; exact h0
  · rw [e]; exact cancel_dueA h0
  · exact Fm_dueA r2 r1 h0
theorem tb_dueT {rk : Nat → Nat} {Bm B : Int} {k : Nat} (hBm : Bm < 2 ^ 60) {τ : MS} {u w : Nat} {c : Int32} (hI : Iv rk B τ) (hB : B ≤ Bm) (h1 : 1 ≤ u) (h2 : u ≤ nT τ) (hu : ma τ 12 u = c) (hk : rk c.toNatClampNeg ≤ k) (hb : pot τ + 1 < 2 ^ 31) (hw : w < 2 ^ 31) (hR : ¬ MtableGoes_R τ (nI u) = nI w) (hn : w ≠ u → ¬ dueT τ c w) : ¬ dueT (spTb (spSt k) τ (nI u)) c w := by
  have h0 : ¬ dueT (MtableGoes_S τ (nI u)) c w := tb_due hI h1 h2 hu hw hR hn
  rcases tb_act (k := k) hBm hI hB h1 h2 hu hk hb with e | ⟨x, e⟩ | ⟨r, r1, r2⟩
  · rw [e]; exact h0
  · rw [e]; exact cancel_dueT h0
  · exact Fm_dueT r2 r1 h0
theorem tb_lev {rk : Nat → Nat} {Bm B : Int} {k : Nat} (hBm : Bm < 2 ^ 60) {τ : MS} {u w : Nat} {c : Int32} (hI : Iv rk B τ) (hB : B ≤ Bm) (h1 : 1 ≤ u) (h2 : u ≤ nT τ) (hu : ma τ 12 u = c) (hk : rk c.toNatClampNeg ≤ k) (hb : pot τ + 1 < 2 ^ 31) (hw1 : 1 ≤ w) (hw2 : w ≤ 20) (hw : ma τ 12 w = c) (hR : MtableGoes_R τ (nI u) = nI w) : lev (spTb (spSt k) τ (nI u)) w < lev τ u := by
  have h0 := lev_dec hI h1 h2 hw1 hw2 hR
  rcases tb_act (k := k) hBm hI hB h1 h2 hu hk hb with e | ⟨x, e⟩ | ⟨r, r1, r2⟩
  · rw [e]; exact h0
  · rw [e, lev_congr stc_9 (ra_a (by decide))]; exact h0
  · rw [lev_congr r2.1 (r2.2.2.2 w (by rw [MtableGoes_ma (by decide) (by decide) (by decide), hw]; exact r1)).2.1]; exact h0
theorem spLp_0 {rec : MS → Int32 → MS} {σ : MS} : ∀ n, spLp rec n σ 0 = σ
  | 0 => rfl
  | n + 1 => by unfold spLp; rw [if_pos (by decide)]
theorem Lp_run {rk : Nat → Nat} {Bm B : Int} {k : Nat} (hBm : Bm < 2 ^ 60) (ih : L2at rk Bm k) {σb : MS} {d m : Nat} {c : Int32} (hB : B ≤ Bm) (hk : rk c.toNatClampNeg ≤ k) (hd : d + rk c.toNatClampNeg ≤ 22) (hm : m < 2 ^ 31) : ∀ (n u : Nat) (σ τ : MS), Lv σb d c (nI u) σ τ → Iv rk B τ → inC τ c → 1 ≤ u → u ≤ nT τ → ma τ 12 u = c → lev τ u ≤ n → pot τ + n < 2 ^ 31 → (∀ b, 1 ≤ b → b ≤ nA τ → ¬ dueA τ c b) → (∀ w, 1 ≤ w → w < m → w ≠ u → ¬ dueT τ c w) →
    ∃ σ', Gs σ σ' ∧ Lv σb d c 0 σ' (spLp (spSt k) n τ (nI u)) ∧ (∀ b, 1 ≤ b → b ≤ nA τ → ¬ dueA (spLp (spSt k) n τ (nI u)) c b) ∧ (∀ w, 1 ≤ w → w < m → ¬ dueT (spLp (spSt k) n τ (nI u)) c w)
  | 0, u, σ, τ, _, _, _, _, _, _, hl, _, _, _ => by have := (lev_pos (σ := τ) (t := u)).1; omega
  | n + 1, u, σ, τ, h, hI, hc, h1, h2, hu, hl, hb, hA, hT => by
    have ht : u ≤ 20 := Nat.le_trans h2 hI.1.1.2.2.2
    obtain ⟨o1, o2⟩ := Lv_ok h hI (by omega) hc (Or.inr ⟨u, h1, h2, rfl, hu⟩)
    obtain ⟨a1, a2, a3⟩ := Lv_at h (by omega)
    have hg : Mgo_S σ = MgoTable_S σ (nI d) (nI u) := by
      unfold Mgo_S
      rw [a3, if_neg (nI_npos h1 (by omega)), a1]
    obtain ⟨σ1, r1, r2⟩ := tb_run ih h hI hB h1 h2 hu hk hd (by omega)
    have hR : Rl rk (rk c.toNatClampNeg) B 1 τ (spTb (spSt k) τ (nI u)) := Rl_tb (RecOk_St rk Bm hBm k) hI hB h1 h2 (by rw [hu]; exact Nat.le_refl _) hk (by omega)
    have hs := hR.2.1.1
    have hA1 : ∀ b, 1 ≤ b → b ≤ nA τ → ¬ dueA (spTb (spSt k) τ (nI u)) c b := fun b b1 b2 => tb_dueA hBm hI hB h1 h2 hu hk (by omega) (hA b b1 b2)
    have e0 : spLp (spSt k) (n + 1) τ (nI u) = spLp (spSt k) n (spTb (spSt k) τ (nI u)) (MtableGoes_R τ (nI u)) := by
      show (if nI u ≤ 0 then τ else spLp (spSt k) n (spTb (spSt k) τ (nI u)) (MtableGoes_R τ (nI u))) = _
      rw [if_neg (nI_npos h1 (by omega))]
    rw [e0]
    rcases tbR_in hI h1 h2 with e | ⟨w, w1, w2, e, e12⟩
    · rw [e] at r2 ⊢
      rw [spLp_0]
      refine ⟨σ1, (Gs.one o1 o2).tr (by rw [hg]; exact r1), r2, hA1, fun w w1 w2 => tb_dueT hBm hI hB h1 h2 hu hk (by omega) (by omega) ?_ (fun q => hT w w1 w2 q)⟩
      rw [e]
      intro z
      have := nI_inj (a := 0) (b := w) (by decide) (by omega) z
      omega
    · rw [e] at r2 ⊢
      rw [hu] at e12
      have w20 : w ≤ 20 := Nat.le_trans w2 hI.1.1.2.2.2
      have hl1 := tb_lev (k := k) hBm hI hB h1 h2 hu hk (by omega) w1 w20 e12 e
      obtain ⟨σ', s1, s2, s3, s4⟩ := Lp_run hBm ih hB hk hd hm n w σ1 (spTb (spSt k) τ (nI u)) r2 hR.1 (inC_stc hs hc) w1 (by rw [nT_stc hs]; exact w2) (by rw [hs.2.1 12 (by decide)]; exact e12) (by omega) (by have := hR.2.2; omega) (fun b b1 b2 => hA1 b b1 (by rw [nA_stc hs] at b2; exact b2)) (fun x x1 x2 x3 => tb_dueT hBm hI hB h1 h2 hu hk (by omega) (by omega) (fun z => by rw [e] at z; exact x3 (nI_inj (by omega) (by omega) z).symm) (fun q => hT x x1 x2 q))
      exact ⟨σ', ((Gs.one o1 o2).tr (by rw [hg]; exact r1)).tr s1, s2, fun b b1 b2 => s3 b b1 (by rw [nA_stc hs]; exact b2), s4⟩
theorem Ts_run {rk : Nat → Nat} {Bm B : Int} {k : Nat} (hBm : Bm < 2 ^ 60) (ih : L2at rk Bm k) {σb : MS} {d : Nat} {c : Int32} (hB : B ≤ Bm) (hk : rk c.toNatClampNeg ≤ k) (hd : d + rk c.toNatClampNeg ≤ 22) : ∀ (n t : Nat) (σ τ : MS), Lv σb d c 0 σ τ → Iv rk B τ → inC τ c → 1 ≤ t → t + n = nT τ + 1 → pot τ + 4 * n < 2 ^ 31 → (∀ b, 1 ≤ b → b ≤ nA τ → ¬ dueA τ c b) → (∀ w, 1 ≤ w → w < t → ¬ dueT τ c w) →
    ∃ σ', Gs σ σ' ∧ Lv σb d c 0 σ' (spTs (spSt k) c n t τ) ∧ (∀ b, 1 ≤ b → b ≤ nA τ → ¬ dueA (spTs (spSt k) c n t τ) c b) ∧ (∀ w, 1 ≤ w → w < t + n → ¬ dueT (spTs (spSt k) c n t τ) c w)
  | 0, t, σ, τ, h, hI, hc, h1, h2, hb, hA, hT => ⟨σ, Gs.rf σ, h, hA, fun w w1 w2 => hT w w1 (by omega)⟩
  | n + 1, t, σ, τ, h, hI, hc, h1, h2, hb, hA, hT => by
    have hT20 : nT τ ≤ 20 := hI.1.1.2.2.2
    have hA100 : nA τ ≤ 100 := hI.1.1.2.2.1
    have hR : Rl rk (rk c.toNatClampNeg) B 4 τ (spT1 (spSt k) c t τ) := Rl_T1 (RecOk_St rk Bm hBm k) hI hB h1 (by omega) (Nat.le_refl _) hk (by omega)
    have step : ∃ σ1, Gs σ σ1 ∧ Lv σb d c 0 σ1 (spT1 (spSt k) c t τ) ∧ (∀ b, 1 ≤ b → b ≤ nA τ → ¬ dueA (spT1 (spSt k) c t τ) c b) ∧ (∀ w, 1 ≤ w → w < t + 1 → ¬ dueT (spT1 (spSt k) c t τ) c w) := by
      by_cases hdue : dueT τ c t
      · have hu := hdue.2.1
        have hτ := h.1
        obtain ⟨o1, o2⟩ := Lv_ok h hI (by omega) hc (Or.inl rfl)
        obtain ⟨a1, a2, a3⟩ := Lv_at h (by omega)
        have eA : (mi σ 16).toNatClampNeg = nA τ := by rw [← hτ]; show _ = (mi (msk σ) 16).toNatClampNeg; rw [msk_mi (by decide)]
        have eT : (mi σ 17).toNatClampNeg = nT τ := by rw [← hτ]; show _ = (mi (msk σ) 17).toNatClampNeg; rw [msk_mi (by decide)]
        have hg : Mgo_S σ = MgoTable_S (sml σ 20 t (-1)) (nI d) (nI t) := by
          unfold Mgo_S
          rw [a3, if_pos (by decide), a2, eA, goAl_none (nA τ) 1 (by omega) (fun w w1 w2 z => hA w w1 (by omega) (by rw [← hτ]; exact dueA_m.mpr z)), eT, a1]
          exact goT_hit (dueT_m.mp (by rw [hτ]; exact hdue)) (by omega) (nT τ) 1 h1 (by omega) (fun w w1 w2 z => hT w w1 w2 (by rw [← hτ]; exact dueT_m.mpr z))
        have hX : Lv σb d c 0 (sml σ 20 t (-1)) (sml τ 20 t (-1)) := Lv_sml h
        have hD : Rl rk (rk c.toNatClampNeg) B 0 τ (sml τ 20 t (-1)) := Rl_due hI (by rw [hu]; exact Nat.le_refl _)
        have hAX : ∀ b, 1 ≤ b → b ≤ nA τ → ¬ dueA (sml τ 20 t (-1)) c b := fun b b1 b2 => by
          rintro ⟨d1, d2, d3⟩
          rw [rl_l (by decide), rl_l (by decide)] at d3
          exact hA b b1 b2 ⟨d1, d2, d3⟩
        have hTX : ∀ w, 1 ≤ w → w < t + 1 → w ≠ t → ¬ dueT (sml τ 20 t (-1)) c w := fun w w1 w2 w3 => by
          rintro ⟨d1, d2, d3⟩
          rw [rl_n w3, rl_l (by decide)] at d3
          exact hT w w1 (by omega) ⟨d1, d2, d3⟩
        have e1 : spT1 (spSt k) c t τ = spLp (spSt k) 4 (sml τ 20 t (-1)) (nI t) := by
          unfold spT1
          rw [if_neg hdue.1, if_pos hdue.2.1, if_pos hdue.2.2]
        have e0 : spLp (spSt k) 4 (sml τ 20 t (-1)) (nI t) = spLp (spSt k) 3 (spTb (spSt k) (sml τ 20 t (-1)) (nI t)) (MtableGoes_R (sml τ 20 t (-1)) (nI t)) := by
          show (if nI t ≤ 0 then sml τ 20 t (-1) else spLp (spSt k) 3 (spTb (spSt k) (sml τ 20 t (-1)) (nI t)) (MtableGoes_R (sml τ 20 t (-1)) (nI t))) = _
          rw [if_neg (nI_npos h1 (by omega))]
        rw [e1, e0]
        have hI2 := hD.1
        have hp2 : pot (sml τ 20 t (-1)) + 4 < 2 ^ 31 := by have := hD.2.2; omega
        have t2 : t ≤ nT (sml τ 20 t (-1)) := show t ≤ nT τ by omega
        have hu2 : ma (sml τ 20 t (-1)) 12 t = c := hu
        have eA2 : nA (sml τ 20 t (-1)) = nA τ := rfl
        have hc2 : inC (sml τ 20 t (-1)) c := hc
        generalize sml τ 20 t (-1) = τX at hX hD hAX hTX hI2 hp2 t2 hu2 eA2 hc2
        obtain ⟨σ1, r1, r2⟩ := tb_run ih hX hI2 hB h1 t2 hu2 hk hd (by omega)
        have hR2 : Rl rk (rk c.toNatClampNeg) B 1 τX (spTb (spSt k) τX (nI t)) := Rl_tb (RecOk_St rk Bm hBm k) hI2 hB h1 t2 (by rw [hu2]; exact Nat.le_refl _) hk (by omega)
        have hs := hR2.2.1.1
        have hA1 : ∀ b, 1 ≤ b → b ≤ nA τ → ¬ dueA (spTb (spSt k) τX (nI t)) c b := fun b b1 b2 => tb_dueA hBm hI2 hB h1 t2 hu2 hk (by omega) (hAX b b1 b2)
        rcases tbR_in hI2 h1 t2 with e | ⟨w, w1, w2, e, e12⟩
        · rw [e] at r2 ⊢
          rw [spLp_0]
          refine ⟨σ1, (Gs.one o1 o2).tr (by rw [hg]; exact r1), r2, hA1, fun w w1 w2 => tb_dueT hBm hI2 hB h1 t2 hu2 hk (by omega) (by omega) ?_ (fun q => hTX w w1 w2 q)⟩
          rw [e]
          intro z
          have := nI_inj (a := 0) (b := w) (by decide) (by omega) z
          omega
        · rw [e] at r2 ⊢
          rw [hu2] at e12
          have w20 : w ≤ 20 := Nat.le_trans w2 hI2.1.1.2.2.2
          have hl1 := tb_lev (k := k) hBm hI2 hB h1 t2 hu2 hk (by omega) w1 w20 e12 e
          have hl4 := (lev_pos (σ := τX) (t := t)).2
          obtain ⟨σ', s1, s2, s3, s4⟩ := Lp_run (m := t + 1) hBm ih hB hk hd (by omega) 3 w σ1 (spTb (spSt k) τX (nI t)) r2 hR2.1 (inC_stc hs hc2) w1 (by rw [nT_stc hs]; exact w2) (by rw [hs.2.1 12 (by decide)]; exact e12) (by omega) (by have := hR2.2.2; omega) (fun b b1 b2 => hA1 b b1 (by rw [nA_stc hs, eA2] at b2; exact b2)) (fun x x1 x2 x3 => tb_dueT hBm hI2 hB h1 t2 hu2 hk (by omega) (by omega) (fun z => by rw [e] at z; exact x3 (nI_inj (by omega) (by omega) z).symm) (fun q => hTX x x1 x2 q))
          exact ⟨σ', ((Gs.one o1 o2).tr (by rw [hg]; exact r1)).tr s1, s2, fun b b1 b2 => s3 b b1 (by rw [nA_stc hs, eA2]; exact b2), s4⟩
      · have e1 : spT1 (spSt k) c t τ = τ := by
          unfold spT1
          by_cases c1 : ma τ 19 t = 0
          · rw [if_pos c1]
          · rw [if_neg c1]
            by_cases c2 : ma τ 12 t = c
            · rw [if_pos c2]
              by_cases c3 : ml τ 20 t = ml τ 3 c.toNatClampNeg
              · exact absurd ⟨c1, c2, c3⟩ hdue
              · rw [if_neg c3]
            · rw [if_neg c2]
        rw [e1]
        refine ⟨σ, Gs.rf σ, h, hA, fun w w1 w2 => ?_⟩
        by_cases e : w = t
        · subst e; exact hdue
        · exact hT w w1 (by omega)
    obtain ⟨σ1, r1, r2, r3, r4⟩ := step
    have hs := hR.2.1.1
    obtain ⟨σ', s1, s2, s3, s4⟩ := Ts_run hBm ih hB hk hd n (t + 1) σ1 (spT1 (spSt k) c t τ) r2 hR.1 (inC_stc hs hc) (by omega) (by rw [nT_stc hs]; omega) (by have := hR.2.2; omega) (fun b b1 b2 => r3 b b1 (by rw [nA_stc hs] at b2; exact b2)) r4
    exact ⟨σ', r1.tr s1, s2, fun b b1 b2 => s3 b b1 (by rw [nA_stc hs]; exact b2), fun w w1 w2 => s4 w w1 (by omega)⟩
theorem L2 (rk : Nat → Nat) (Bm : Int) (hBm : Bm < 2 ^ 60) : ∀ k, L2at rk Bm k
  | 0 => fun B σ c d _ _ _ _ _ hk _ _ _ => absurd hk (Nat.not_lt_zero _)
  | k + 1 => fun B σ c d hO hA hI hB hc hk hd hdp hb => by
    have ih := L2 rk Bm hBm k
    have cd : (nI d).toNatClampNeg = d := nI_clamp (by omega)
    have hrc : rg 0 20 c := hc.wk (by decide) (by have := hI.1.1.2.1; omega)
    have h0 : Lv (MmakeStep_S σ c) d c 0 (MmakeStep_S σ c) (sml (msk σ) 3 c.toNatClampNeg (ml σ 3 c.toNatClampNeg + 1)) := by
      refine ⟨?_, ?_, ?_, ?_, mOk_makeStep hO hrc, ?_, fun _ _ => ⟨rfl, rfl⟩⟩
      · unfold MmakeStep_S
        rw [msk_20, msk_st (Or.inr rfl), msk_st (Or.inl rfl)]
        rfl
      · unfold MmakeStep_S
        rw [hdp]
        exact ri_s.trans (nI_1 d)
      · unfold MmakeStep_S
        rw [hdp, cd]
        exact ra_i.trans ((ra_a (by decide)).trans ra_s)
      · unfold MmakeStep_S
        rw [hdp, cd]
        exact ra_i.trans ra_s
      · unfold MmakeStep_S
        exact mAc_stc (funext fun _ => ra_i.trans ((ra_a (by decide)).trans ((ra_a (by decide)).trans ra_l))) (funext fun _ => ra_i.trans ((ra_a (by decide)).trans ((ra_a (by decide)).trans ra_l))) hA
    have hR0 : Rl rk (rk c.toNatClampNeg) (B + 1) 0 (msk σ) (sml (msk σ) 3 c.toNatClampNeg (ml σ 3 c.toNatClampNeg + 1)) := Rl_own hI (by omega) (Nat.le_refl _)
    have eA : nA (sml (msk σ) 3 c.toNatClampNeg (ml σ 3 c.toNatClampNeg + 1)) = nA (msk σ) := rfl
    have eT : nT (sml (msk σ) 3 c.toNatClampNeg (ml σ 3 c.toNatClampNeg + 1)) = nT (msk σ) := rfl
    have e0 : spSt (k + 1) (msk σ) c = spTs (spSt k) c (nT (msk σ)) 1 (spAs (spSt k) c (nA (msk σ)) 1 (sml (msk σ) 3 c.toNatClampNeg (ml σ 3 c.toNatClampNeg + 1))) := rfl
    rw [e0]
    generalize sml (msk σ) 3 c.toNatClampNeg (ml σ 3 c.toNatClampNeg + 1) = τ at h0 hR0 eA eT
    have hs0 := hR0.2.1.1
    have hw : wN (msk σ) = nA (msk σ) + 4 * nT (msk σ) := rfl
    obtain ⟨σ1, r1, r2, r3⟩ := As_run hBm ih hB (by omega) (by omega) (nA (msk σ)) 1 (MmakeStep_S σ c) τ h0 hR0.1 (inC_stc hs0 hc) (Nat.le_refl _) (by rw [eA]; omega) (by have := hR0.2.2; omega) (fun b b1 b2 => by omega)
    have hR1 : Rl rk (rk c.toNatClampNeg) (B + 1) (nA (msk σ)) τ (spAs (spSt k) c (nA (msk σ)) 1 τ) := Rl_As (RecOk_St rk Bm hBm k) hB (by omega) (Nat.le_refl _) (nA (msk σ)) 1 τ hR0.1 (Nat.le_refl _) (by rw [eA]; omega) (by have := hR0.2.2; omega)
    have hs1 := hR1.2.1.1
    generalize spAs (spSt k) c (nA (msk σ)) 1 τ = τ1 at r2 r3 hR1 hs1
    have eA1 : nA τ1 = nA (msk σ) := (nA_stc hs1).trans eA
    have eT1 : nT τ1 = nT (msk σ) := (nT_stc hs1).trans eT
    have hp1 := hR0.2.2
    have hp2 := hR1.2.2
    obtain ⟨σ2, s1, s2, s3, s4⟩ := Ts_run hBm ih hB (by omega) (by omega) (nT (msk σ)) 1 σ1 τ1 r2 hR1.1 (inC_stc hs1 (inC_stc hs0 hc)) (Nat.le_refl _) (by rw [eT1]; omega) (by omega) (fun b b1 b2 => r3 b b1 (by omega)) (fun w w1 w2 => by omega)
    have hR2 : Rl rk (rk c.toNatClampNeg) (B + 1) (4 * nT (msk σ)) τ1 (spTs (spSt k) c (nT (msk σ)) 1 τ1) := Rl_Ts (RecOk_St rk Bm hBm k) hB (by omega) (Nat.le_refl _) (nT (msk σ)) 1 τ1 hR1.1 (Nat.le_refl _) (by rw [eT1]; omega) (by omega)
    have hs2 := hR2.2.1.1
    generalize spTs (spSt k) c (nT (msk σ)) 1 τ1 = τ2 at s2 s3 s4 hR2 hs2
    have eA2 : nA τ2 = nA (msk σ) := (nA_stc hs2).trans eA1
    have eT2 : nT τ2 = nT (msk σ) := (nT_stc hs2).trans eT1
    have hc2 : inC τ2 c := inC_stc hs2 (inC_stc hs1 (inC_stc hs0 hc))
    obtain ⟨o1, o2⟩ := Lv_ok s2 hR2.1 (by omega) hc2 (Or.inl rfl)
    obtain ⟨a1, a2, a3⟩ := Lv_at s2 (by omega)
    have hτ := s2.1
    have fA : (mi σ2 16).toNatClampNeg = nA τ2 := by rw [← hτ]; show _ = (mi (msk σ2) 16).toNatClampNeg; rw [msk_mi (by decide)]
    have fT : (mi σ2 17).toNatClampNeg = nT τ2 := by rw [← hτ]; show _ = (mi (msk σ2) 17).toNatClampNeg; rw [msk_mi (by decide)]
    have bA : nA τ2 ≤ 100 := hR2.1.1.1.2.2.1
    have bT : nT τ2 ≤ 20 := hR2.1.1.1.2.2.2
    have hg : Mgo_S σ2 = smi σ2 20 (nI d) := by
      unfold Mgo_S
      rw [a3, if_pos (by decide), a2, fA, goAl_none (nA τ2) 1 (by omega) (fun w w1 w2 z => s3 w w1 (by omega) (by rw [← hτ]; exact dueA_m.mpr z)), fT, goT_none (nT τ2) 1 (by omega) (fun w w1 w2 z => s4 w w1 (by omega) (by rw [← hτ]; exact dueT_m.mpr z)), s2.2.1]
      exact congrArg (smi σ2 20) (nI_pred d)
    refine ⟨smi σ2 20 (nI d), (r1.tr s1).tr (by rw [← hg]; exact Gs.one o1 o2), by rw [msk_20]; exact hτ, ri_s, fun i hi => ?_, s2.2.2.2.2.1, s2.2.2.2.2.2.1⟩
    have hst := s2.2.2.2.2.2.2 i hi
    refine ⟨hst.1.trans ?_, hst.2.trans ?_⟩
    · unfold MmakeStep_S
      rw [hdp, cd]
      exact ra_i.trans ((ra_a (by decide)).trans ((ra_n (by omega)).trans ra_l))
    · unfold MmakeStep_S
      rw [hdp, cd]
      exact ra_i.trans ((ra_n (by omega)).trans ((ra_a (by decide)).trans ra_l))
