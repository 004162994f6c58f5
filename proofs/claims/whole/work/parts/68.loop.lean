-- THE MODEL'S LOOP DOES WHAT A STEP DOES
/-- the loop stands at level d, with counter c and the table g that goes on; below it the stack is that of σb -/
def Lv (σb : MS) (d : Nat) (c g : Int32) (σ τ : MS) : Prop := msk σ = τ ∧ mi σ 20 = nI (d + 1) ∧ ma σ 26 d = c ∧ ma σ 27 d = g ∧ mOk σ ∧ mAc σ ∧ (∀ i, i < d → ma σ 26 i = ma σb 26 i ∧ ma σ 27 i = ma σb 27 i)
theorem Lv_at {σb σ τ : MS} {d : Nat} {c g : Int32} (h : Lv σb d c g σ τ) (hd : d < 2 ^ 30) : atI σ = nI d ∧ stC σ = c ∧ gOn σ = g := by
  have e : atI σ = nI d := by
    show mi σ 20 - 1 = nI d
    rw [h.2.1]
    exact nI_pred d
  have e2 : (atI σ).toNatClampNeg = d := by rw [e]; exact nI_clamp (by omega)
  refine ⟨e, ?_, ?_⟩
  · show ma σ 26 (atI σ).toNatClampNeg = c
    rw [e2]; exact h.2.2.1
  · show ma σ 27 (atI σ).toNatClampNeg = g
    rw [e2]; exact h.2.2.2.1
theorem mAc_stc {σ σ' : MS} (h : ma σ' 7 = ma σ 7) (h2 : ma σ' 8 = ma σ 8) (hc : mAc σ) : mAc σ' := by
  intro a ha
  rw [h] at ha
  rw [h2]
  exact hc a ha
/-- what the loop's turn asks for, out of what holds -/
theorem Lv_ok {rk : Nat → Nat} {B : Int} {σb σ τ : MS} {d : Nat} {c g : Int32} (h : Lv σb d c g σ τ) (hI : Iv rk B τ) (hd : d ≤ 22) (hc : inC τ c) (hg : g = 0 ∨ ∃ u, 1 ≤ u ∧ u ≤ nT τ ∧ g = nI u ∧ ma τ 12 u = c) : goOk σ ∧ ¬ mi σ 20 ≤ 0 := by
  obtain ⟨e1, e2, e3⟩ := Lv_at h (by omega)
  obtain ⟨h1, h2, h3, h4, h5, h6, h7⟩ := h
  subst h1
  have hb : ¬ ml σ 0 c.toNatClampNeg = 0 := by
    obtain ⟨k1, k2⟩ := rg_cl (hi := nC (msk σ)) (hc.wk (by decide) (Int.le_refl _)) (by have := hI.1.1.2.1; omega)
    have : 1 ≤ c.toNatClampNeg := by
      have hc1 := hc.1
      rw [k1, nI_toInt (by have := hI.1.1.2.1; omega)] at hc1
      omega
    exact hI.1.1.1 _ this k2
  refine ⟨⟨h5, h6, ?_, ?_, ?_, ?_⟩, ?_⟩
  · rw [h2]
    exact ⟨by rw [nI_toInt (by omega)]; omega, by rw [nI_toInt (by omega)]; omega⟩
  · have : mi σ 18 = mi (msk σ) 18 := (msk_mi (by decide)).symm
    rw [this, hI.2.2.1]
    refine nI_pos ?_
    show (mi (msk σ) 18).toNatClampNeg < 2 ^ 31
    have := Int32.toInt_lt (mi (msk σ) 18)
    have e : (mi (msk σ) 18).toNatClampNeg = (mi (msk σ) 18).toInt.toNat := rfl
    rw [e]
    omega
  · rw [e2]; exact hb
  · intro q
    rw [e3] at q ⊢
    rcases hg with rfl | ⟨u, u1, u2, rfl, u4⟩
    · exact absurd (by decide) q
    · rw [nI_clamp (by have := hI.1.1.2.2.2; omega)]
      have : ma σ 12 u = c := by rw [← u4, msk_ma (by decide) (by decide)]
      rw [this]
      exact hb
  · rw [h2]
    exact nI_npos (by omega) (by omega)
/-- an act's step at level d + 1, by the induction's hypothesis -/
def L2at (rk : Nat → Nat) (Bm : Int) (k : Nat) : Prop := ∀ (B : Int) (σ : MS) (c : Int32) (d : Nat), mOk σ → mAc σ → Iv rk B (msk σ) → B + 1 ≤ Bm → inC (msk σ) c → rk c.toNatClampNeg < k → d + rk c.toNatClampNeg ≤ 22 → mi σ 20 = nI d → pot (msk σ) + wN (msk σ) < 2 ^ 31 →
  ∃ σ', Gs (MmakeStep_S σ c) σ' ∧ msk σ' = spSt k (msk σ) c ∧ mi σ' 20 = nI d ∧ (∀ i, i < d → ma σ' 26 i = ma σ 26 i ∧ ma σ' 27 i = ma σ 27 i) ∧ mOk σ' ∧ mAc σ'
theorem by_run {rk : Nat → Nat} {Bm B : Int} {k : Nat} (ih : L2at rk Bm k) {σb σ τ : MS} {d : Nat} {c g x : Int32} (h : Lv σb d c g σ τ) (hI : Iv rk B τ) (hB : B ≤ Bm) (hx : inC τ x) (hk : rk x.toNatClampNeg < k) (hd : d + 1 + rk x.toNatClampNeg ≤ 22) (hb : pot τ < 2 ^ 31) : ∃ σ', Gs (MbyAct_S σ x) σ' ∧ Lv σb d c g σ' (spBy (spSt k) τ x) := by
  obtain ⟨h1, h2, h3, h4, h5, h6, h7⟩ := h
  subst h1
  have e19 : mi (msk σ) 19 = mi σ 19 := msk_mi (by decide)
  unfold MbyAct_S spBy
  rw [e19]
  by_cases c1 : mi σ 19 = (20000 : Int32)
  · rw [if_pos c1, if_pos c1]
    exact ⟨σ, Gs.rf σ, rfl, h2, h3, h4, h5, h6, h7⟩
  · rw [if_neg c1, if_neg c1]
    obtain ⟨g1, g2⟩ := act_up hI (by rw [e19]; exact c1)
    rw [e19] at g1 g2
    have em : msk (smi σ 19 (mi σ 19 + 1)) = smi (msk σ) 19 (mi σ 19 + 1) := msk_smi (by decide)
    have hs : stc (msk σ) (smi (msk σ) 19 (mi σ 19 + 1)) := stc_smi (by decide) (by decide) (by decide)
    obtain ⟨σ', r1, r2, r3, r4, r5, r6⟩ := ih (B - 1) (smi σ 19 (mi σ 19 + 1)) x (d + 1) h5 h6 (by rw [em]; exact g1) (by omega) (by rw [em]; exact inC_stc hs hx) hk hd ((ri_i (by decide)).trans h2) (by rw [em, wN_stc hs, g2]; exact hb)
    rw [em] at r2
    exact ⟨σ', r1, r2, r3, (r4 d (by omega)).1.trans h3, (r4 d (by omega)).2.trans h4, r5, r6, fun i hi => ⟨(r4 i (by omega)).1.trans (h7 i hi).1, (r4 i (by omega)).2.trans (h7 i hi).2⟩⟩
theorem Lv_sma {σb σ τ : MS} {d j i : Nat} {c g v : Int32} (h : Lv σb d c g σ τ) (hj : j = 9) : Lv σb d c g (sma σ j i v) (sma τ j i v) := by
  subst hj
  obtain ⟨h1, h2, h3, h4, h5, h6, h7⟩ := h
  subst h1
  exact ⟨msk_sma (by decide) (by decide), h2, (ra_a (by decide)).trans h3, (ra_a (by decide)).trans h4, h5, mAc_stc (funext fun _ => ra_a (by decide)) (funext fun _ => ra_a (by decide)) h6, fun i hi => ⟨(ra_a (by decide)).trans (h7 i hi).1, (ra_a (by decide)).trans (h7 i hi).2⟩⟩
theorem Lv_gaPre {σb σ τ : MS} {d : Nat} {c g a : Int32} (h : Lv σb d c g σ τ) : Lv σb d c g (gaPre σ a) (gaPre τ a) := by
  obtain ⟨h1, h2, h3, h4, h5, h6, h7⟩ := h
  subst h1
  have k : ∀ j, j ≠ 9 → (j < 22 ∨ 25 < j) → ma (gaPre σ a) j = ma σ j := fun j hj hj2 => funext fun i => (ra_l.trans (ra_a hj)).trans (by rw [Mnote_ma hj2])
  refine ⟨msk_gaPre, ?_, ?_, ?_, ?_, ?_, fun i hi => ?_⟩
  · exact (ri_l.trans ri_a).trans ((Mnote_mi (by decide)).trans h2)
  · rw [k 26 (by decide) (by decide)]; exact h3
  · rw [k 27 (by decide) (by decide)]; exact h4
  · exact mOk_note (σ := σ) h5
  · exact mAc_stc (k 7 (by decide) (by decide)) (k 8 (by decide) (by decide)) h6
  · rw [k 26 (by decide) (by decide), k 27 (by decide) (by decide)]; exact h7 i hi
theorem al_run {rk : Nat → Nat} {Bm B : Int} {k : Nat} (ih : L2at rk Bm k) {σb σ τ : MS} {d a : Nat} {c : Int32} (h : Lv σb d c 0 σ τ) (hI : Iv rk B τ) (hB : B ≤ Bm) (h1 : 1 ≤ a) (h2 : a ≤ nA τ) (ha : ma τ 6 a = c) (hk : rk c.toNatClampNeg ≤ k) (hd : d + rk c.toNatClampNeg ≤ 22) (hb : pot τ + 1 < 2 ^ 31) : ∃ σ', Gs (MgoAlarm_S σ (nI a)) σ' ∧ Lv σb d c 0 σ' (spAl (spSt k) τ (nI a)) := by
  have ht : a ≤ 100 := Nat.le_trans h2 hI.1.1.2.2.1
  have et : (nI a).toNatClampNeg = a := nI_clamp (by omega)
  obtain ⟨q1, q2, q3⟩ := hI.1.2.1 a h1 h2
  have hP := Lv_gaPre (a := nI a) h
  have hR : Rl rk (rk c.toNatClampNeg) B 1 τ (gaPre τ (nI a)) := Rl_gaPre hI hb (by rw [et, ha]; exact Nat.le_refl _)
  have e7 : ma σ 7 = ma τ 7 := by rw [← h.1, msk_ma (by decide) (by decide)]
  have e8 : ma σ 8 = ma τ 8 := by rw [← h.1, msk_ma (by decide) (by decide)]
  rw [MgoAlarm_eq]
  unfold spAl
  rw [et, e7, e8]
  by_cases c1 : ma τ 7 a = 1
  · rw [if_pos c1, if_pos c1]
    obtain ⟨q4, q5⟩ := q2 c1
    rw [ha] at q5
    exact by_run ih hP hR.1 hB (inC_stc stc_gaPre q4) (by omega) (by omega) (by have := hR.2.2; omega)
  · rw [if_neg c1, if_neg c1]
    by_cases c2 : ma τ 7 a = 2
    · rw [if_pos c2, if_pos c2]
      exact ⟨_, Gs.rf _, Lv_sma hP rfl⟩
    · rw [if_neg c2, if_neg c2]
      exact ⟨_, Gs.rf _, hP⟩
theorem al_not {rk : Nat → Nat} {Bm B : Int} {k : Nat} (hBm : Bm < 2 ^ 60) {τ : MS} {a b : Nat} {c : Int32} (hI : Iv rk B τ) (hB : B ≤ Bm) (h1 : 1 ≤ a) (h2 : a ≤ nA τ) (ha : ma τ 6 a = c) (hk : rk c.toNatClampNeg ≤ k) (hb : pot τ + 1 < 2 ^ 31) (hn : b ≠ a → ¬ dueA τ c b) : ¬ dueA (spAl (spSt k) τ (nI a)) c b := by
  have ht : a ≤ 100 := Nat.le_trans h2 hI.1.1.2.2.1
  have et : (nI a).toNatClampNeg = a := nI_clamp (by omega)
  obtain ⟨q1, q2, q3, q3'⟩ := hI.1.2.1 a h1 h2
  have hR : Rl rk (rk c.toNatClampNeg) B 1 τ (gaPre τ (nI a)) := Rl_gaPre hI hb (by rw [et, ha]; exact Nat.le_refl _)
  have hD := gaPre_dueA (σ := τ) (c := c) (a := a) (b := b) (by omega) ha hn q3
  unfold spAl
  rw [et]
  by_cases c1 : ma τ 7 a = 1
  · rw [if_pos c1]
    obtain ⟨q4, q5⟩ := q2 c1
    rw [ha] at q5
    have hF := (Rl_by (RecOk_St rk Bm hBm k) hR.1 hB (inC_stc stc_gaPre q4) (by omega) (Nat.le_refl _) (by have := hR.2.2; omega)).2.1
    exact Fm_dueA hF q5 hD
  · rw [if_neg c1]
    by_cases c2 : ma τ 7 a = 2
    · rw [if_pos c2]
      exact cancel_dueA hD
    · rw [if_neg c2]
      exact hD
theorem As_run {rk : Nat → Nat} {Bm B : Int} {k : Nat} (hBm : Bm < 2 ^ 60) (ih : L2at rk Bm k) {σb : MS} {d : Nat} {c : Int32} (hB : B ≤ Bm) (hk : rk c.toNatClampNeg ≤ k) (hd : d + rk c.toNatClampNeg ≤ 22) : ∀ (n a : Nat) (σ τ : MS), Lv σb d c 0 σ τ → Iv rk B τ → inC τ c → 1 ≤ a → a + n = nA τ + 1 → pot τ + n < 2 ^ 31 → (∀ b, 1 ≤ b → b < a → ¬ dueA τ c b) →
    ∃ σ', Gs σ σ' ∧ Lv σb d c 0 σ' (spAs (spSt k) c n a τ) ∧ (∀ b, 1 ≤ b → b < a + n → ¬ dueA (spAs (spSt k) c n a τ) c b)
  | 0, a, σ, τ, h, hI, hc, h1, h2, hb, hn => ⟨σ, Gs.rf σ, h, fun b b1 b2 => hn b b1 (by omega)⟩
  | n + 1, a, σ, τ, h, hI, hc, h1, h2, hb, hn => by
    have hA : nA τ ≤ 100 := hI.1.1.2.2.1
    have hR : Rl rk (rk c.toNatClampNeg) B 1 τ (spA1 (spSt k) c a τ) := Rl_A1 (RecOk_St rk Bm hBm k) hI hB h1 (by omega) (Nat.le_refl _) hk (by omega)
    have step : ∃ σ1, Gs σ σ1 ∧ Lv σb d c 0 σ1 (spA1 (spSt k) c a τ) ∧ (∀ b, 1 ≤ b → b < a + 1 → ¬ dueA (spA1 (spSt k) c a τ) c b) := by
      by_cases hdue : dueA τ c a
      · have e1 : spA1 (spSt k) c a τ = spAl (spSt k) τ (nI a) := by
          unfold spA1
          rw [if_neg hdue.1, if_pos hdue.2.1, if_pos hdue.2.2]
        obtain ⟨o1, o2⟩ := Lv_ok h hI (by omega) hc (Or.inl rfl)
        obtain ⟨a1, a2, a3⟩ := Lv_at h (by omega)
        have hτ := h.1
        have eA : (mi σ 16).toNatClampNeg = nA τ := by rw [← hτ]; show _ = (mi (msk σ) 16).toNatClampNeg; rw [msk_mi (by decide)]
        have hg : Mgo_S σ = MgoAlarm_S σ (nI a) := by
          unfold Mgo_S
          rw [a3, if_pos (by decide), a2, eA]
          refine goAl_hit ((dueA_m).mp (by rw [hτ]; exact hdue)) (by omega) (nA τ) 1 h1 (by omega) (fun w w1 w2 => ?_)
          intro z
          exact hn w w1 w2 (by rw [← hτ]; exact (dueA_m).mpr z)
        obtain ⟨σ1, r1, r2⟩ := al_run ih h hI hB h1 (by omega) hdue.2.1 hk hd (by omega)
        rw [e1]
        refine ⟨σ1, (Gs.one o1 o2).tr (by rw [hg]; exact r1), r2, fun b b1 b2 => al_not hBm hI hB h1 (by omega) hdue.2.1 hk (by omega) (fun q => hn b b1 (by omega))⟩
      · have e1 : spA1 (spSt k) c a τ = τ := by
          unfold spA1
          by_cases c1 : ma τ 9 a = 0
          · rw [if_pos c1]
          · rw [if_neg c1]
            by_cases c2 : ma τ 6 a = c
            · rw [if_pos c2]
              by_cases c3 : ml τ 10 a = ml τ 3 c.toNatClampNeg
              · exact absurd ⟨c1, c2, c3⟩ hdue
              · rw [if_neg c3]
            · rw [if_neg c2]
        rw [e1]
        refine ⟨σ, Gs.rf σ, h, fun b b1 b2 => ?_⟩
        by_cases e : b = a
        · subst e; exact hdue
        · exact hn b b1 (by omega)
    obtain ⟨σ1, r1, r2, r3⟩ := step
    have hs := hR.2.1.1
    obtain ⟨σ', s1, s2, s3⟩ := As_run hBm ih hB hk hd n (a + 1) σ1 (spA1 (spSt k) c a τ) r2 hR.1 (inC_stc hs hc) (by omega) (by rw [nA_stc hs]; omega) (by have := hR.2.2; omega) r3
    exact ⟨σ', r1.tr s1, s2, fun b b1 b2 => s3 b b1 (by omega)⟩
