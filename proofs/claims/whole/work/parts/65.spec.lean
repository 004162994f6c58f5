-- A STEP KEEPS WHAT HOLDS
def RecOk (rk : Nat → Nat) (k : Nat) (Bm : Int) (rec : MS → Int32 → MS) : Prop := ∀ (B : Int) (σ : MS) (x : Int32), Iv rk B σ → B + 1 ≤ Bm → inC σ x → rk (x.toNatClampNeg) < k → pot σ + wN σ < 2 ^ 31 → Rl rk (rk (x.toNatClampNeg)) (B + 1) (wN σ) σ (rec σ x)
theorem act_lt {σ : MS} (h : mi σ 19 = nI (acN σ) ∧ acN σ ≤ 20000) (c : ¬ mi σ 19 = (20000 : Int32)) : acN σ < 20000 := by
  rcases Nat.lt_or_ge (acN σ) 20000 with z | z
  · exact z
  · exact absurd (h.1.trans (by rw [show acN σ = 20000 by omega]; rfl)) c
theorem act_up {rk : Nat → Nat} {B : Int} {σ : MS} (h : Iv rk B σ) (c : ¬ mi σ 19 = (20000 : Int32)) : Iv rk (B - 1) (smi σ 19 (mi σ 19 + 1)) ∧ pot (smi σ 19 (mi σ 19 + 1)) + wN σ = pot σ := by
  have hl := act_lt h.2.1 c
  obtain ⟨g1, g2, g3, g4, g5, g6⟩ := h
  have e19 : mi σ 19 + 1 = nI (acN σ + 1) := by rw [← nI_1, ← g2.1]
  have em : mi (smi σ 19 (mi σ 19 + 1)) 19 = nI (acN σ + 1) := ri_s.trans e19
  have ea : acN (smi σ 19 (mi σ 19 + 1)) = acN σ + 1 := by
    show (mi (smi σ 19 (mi σ 19 + 1)) 19).toNatClampNeg = _
    rw [em]
    exact nI_clamp (by omega)
  have hs : stc σ (smi σ 19 (mi σ 19 + 1)) := stc_smi (by decide) (by decide) (by decide)
  refine ⟨⟨Cf_stc hs g1, ⟨by rw [ea]; exact em, by rw [ea]; omega⟩, g3, fun c => ?_, g5, g6⟩, ?_⟩
  · rw [ea]
    have := g4 c
    show 0 ≤ (ml σ 3 c).toInt ∧ (ml σ 3 c).toInt + (20000 - ((acN σ + 1 : Nat) : Int)) ≤ B - 1
    omega
  · unfold pot
    rw [ea, wN_stc hs]
    show exN σ + wN σ * (20000 - (acN σ + 1)) + wN σ = exN σ + wN σ * (20000 - acN σ)
    rw [show 20000 - acN σ = (20000 - (acN σ + 1)) + 1 by omega, Nat.mul_add, Nat.mul_one]
    omega
theorem Rl_by {rk : Nat → Nat} {k r : Nat} {Bm B : Int} {rec : MS → Int32 → MS} (hR : RecOk rk k Bm rec) {σ : MS} {x : Int32} (h : Iv rk B σ) (hB : B ≤ Bm) (hx : inC σ x) (hk : rk (x.toNatClampNeg) < k) (hr : rk (x.toNatClampNeg) ≤ r) (hb : pot σ < 2 ^ 31) : Rl rk r B 0 σ (spBy rec σ x) := by
  unfold spBy
  by_cases c : mi σ 19 = (20000 : Int32)
  · rw [if_pos c]
    exact Rl.rf h
  · rw [if_neg c]
    obtain ⟨h1, h2⟩ := act_up h c
    have hs : stc σ (smi σ 19 (mi σ 19 + 1)) := stc_smi (by decide) (by decide) (by decide)
    have e := hR (B - 1) (smi σ 19 (mi σ 19 + 1)) x h1 (by omega) (inC_stc hs hx) hk (by rw [wN_stc hs, h2]; exact hb)
    rw [show B - 1 + 1 = B by omega, wN_stc hs] at e
    exact ⟨e.1, Fm_act.tr (e.2.1.wk hr), by have := e.2.2; omega⟩
theorem Rl_al {rk : Nat → Nat} {k r : Nat} {Bm B : Int} {rec : MS → Int32 → MS} (hR : RecOk rk k Bm rec) {σ : MS} {a : Nat} (h : Iv rk B σ) (hB : B ≤ Bm) (h1 : 1 ≤ a) (h2 : a ≤ nA σ) (hr : rk ((ma σ 6 a).toNatClampNeg) ≤ r) (hk : r ≤ k) (hb : pot σ + 1 < 2 ^ 31) : Rl rk r B 1 σ (spAl rec σ (nI a)) := by
  have ht : a ≤ 100 := Nat.le_trans h2 h.1.1.2.2.1
  have et : (nI a).toNatClampNeg = a := nI_clamp (by omega)
  obtain ⟨q1, q2, q3⟩ := h.1.2.1 a h1 h2
  have hP : Rl rk r B 1 σ (gaPre σ (nI a)) := Rl_gaPre h hb (by rw [et]; exact hr)
  unfold spAl
  rw [et]
  by_cases c1 : ma σ 7 a = 1
  · rw [if_pos c1]
    obtain ⟨q4, q5⟩ := q2 c1
    exact hP.tr (Rl_by hR hP.1 hB (inC_stc stc_gaPre q4) (by omega) (by omega) (by have := hP.2.2; omega))
  · rw [if_neg c1]
    by_cases c2 : ma σ 7 a = 2
    · rw [if_pos c2]
      exact hP.tr (Rl_cancel hP.1)
    · rw [if_neg c2]
      exact hP
theorem tAct_pos {rk : Nat → Nat} {B : Int} {σ : MS} {t : Nat} (h : Iv rk B σ) (h1 : 1 ≤ t) (h2 : t ≤ nT σ) (c : ¬ tAct σ (nI t) ≤ 0) : inC σ (tAct σ (nI t)) ∧ rk ((tAct σ (nI t)).toNatClampNeg) < rk ((ma σ 12 t).toNatClampNeg) := by
  have ht : t ≤ 20 := Nat.le_trans h2 h.1.1.2.2.2
  have et : (nI t).toNatClampNeg = t := nI_clamp (by omega)
  obtain ⟨k1, ⟨k2, k2b⟩, k3, k4, k5⟩ := Cf_t h.1 h1 h2
  obtain ⟨e14, b14⟩ := rg_cl (hi := 20) k3 (by decide)
  have hpl := h.2.2.2.2.1 t h1 h2
  unfold tAct at c ⊢
  rw [et] at c ⊢
  by_cases c1 : ma σ 21 t < 0
  · rw [if_pos c1] at c
    exact absurd (by decide) c
  · rw [if_neg c1] at c ⊢
    by_cases c2 : ma σ 21 t < ma σ 14 t
    · rw [if_pos c2] at c ⊢
      obtain ⟨p, hp, e21⟩ := rg_m1n hpl (by omega) (fun e => c1 (by rw [e]; decide))
      rw [e21, e14, nI_ltI (by omega) (by omega)] at c2
      rw [e21, ofs_nI (by omega) (by omega)] at c ⊢
      exact (k5 p c2).2.2 c
    · rw [if_neg c2] at c
      exact absurd (by decide) c
theorem Rl_tb {rk : Nat → Nat} {k r : Nat} {Bm B : Int} {rec : MS → Int32 → MS} (hR : RecOk rk k Bm rec) {σ : MS} {t : Nat} (h : Iv rk B σ) (hB : B ≤ Bm) (h1 : 1 ≤ t) (h2 : t ≤ nT σ) (hr : rk ((ma σ 12 t).toNatClampNeg) ≤ r) (hk : r ≤ k) (hb : pot σ + 1 < 2 ^ 31) : Rl rk r B 1 σ (spTb rec σ (nI t)) := by
  have hP : Rl rk r B 1 σ (MtableGoes_S σ (nI t)) := Rl_tableGoes h hb h1 h2 hr
  unfold spTb
  by_cases c1 : tAct σ (nI t) ≤ 0
  · rw [if_pos c1]
    split
    · exact hP
    · exact hP.tr (Rl_cancel hP.1)
  · rw [if_neg c1]
    obtain ⟨q4, q5⟩ := tAct_pos h h1 h2 c1
    exact hP.tr (Rl_by hR hP.1 hB (inC_stc stc_tableGoes q4) (by omega) (by omega) (by have := hP.2.2; omega))
/-- the table that goes on is on the same counter -/
theorem tbR_in {rk : Nat → Nat} {B : Int} {σ : MS} {t : Nat} (h : Iv rk B σ) (h1 : 1 ≤ t) (h2 : t ≤ nT σ) : MtableGoes_R σ (nI t) = 0 ∨ ∃ u, 1 ≤ u ∧ u ≤ nT σ ∧ MtableGoes_R σ (nI t) = nI u ∧ ma σ 12 u = ma σ 12 t := by
  have ht : t ≤ 20 := Nat.le_trans h2 h.1.1.2.2.2
  have et : (nI t).toNatClampNeg = t := nI_clamp (by omega)
  obtain ⟨k1, ⟨k2, k2b⟩, k3, k4, k5⟩ := Cf_t h.1 h1 h2
  have self : ∀ c : Prop, ∀ [Decidable c], (if c then nI t else 0) = 0 ∨ ∃ u, 1 ≤ u ∧ u ≤ nT σ ∧ (if c then nI t else 0) = nI u ∧ ma σ 12 u = ma σ 12 t := fun c _ => by
    by_cases q : c
    · rw [if_pos q]; exact Or.inr ⟨t, h1, h2, rfl, rfl⟩
    · rw [if_neg q]; exact Or.inl rfl
  rw [MtableGoes_Req]
  split
  · exact self _
  · split
    · unfold tgR
      rw [et]
      by_cases c3 : ma σ 17 t = 0
      · rw [if_pos c3]; exact Or.inl rfl
      · rw [if_neg c3]
        obtain ⟨e17n, b17⟩ := rg_cl (hi := nT σ) k2 (by have := h.1.1.2.2.2; omega)
        split
        · refine Or.inr ⟨_, ?_, b17, e17n, k2b c3⟩
          rcases Nat.eq_zero_or_pos (ma σ 17 t).toNatClampNeg with z | z
          · exact absurd (by rw [e17n, z]; rfl) c3
          · exact z
        · exact Or.inl rfl
    · exact self _
theorem nI_npos {u : Nat} (h1 : 1 ≤ u) (h2 : u < 2 ^ 31) : ¬ nI u ≤ 0 := by
  rw [show (0 : Int32) = nI 0 from rfl, nI_leI h2 (by decide)]
  omega
theorem Rl_lp {rk : Nat → Nat} {k r : Nat} {Bm B : Int} {rec : MS → Int32 → MS} (hR : RecOk rk k Bm rec) (hB : B ≤ Bm) (hk : r ≤ k) : ∀ (n : Nat) (σ : MS) (t : Nat), Iv rk B σ → 1 ≤ t → t ≤ nT σ → rk ((ma σ 12 t).toNatClampNeg) ≤ r → pot σ + n < 2 ^ 31 → Rl rk r B n σ (spLp rec n σ (nI t))
  | 0, σ, t, h, h1, h2, hr, hb => Rl.rf h
  | n + 1, σ, t, h, h1, h2, hr, hb => by
    have ht : t ≤ 20 := Nat.le_trans h2 h.1.1.2.2.2
    have hP : Rl rk r B 1 σ (spTb rec σ (nI t)) := Rl_tb hR h hB h1 h2 hr hk (by omega)
    unfold spLp
    rw [if_neg (nI_npos h1 (by omega))]
    have hs := hP.2.1.1
    rcases tbR_in h h1 h2 with e | ⟨u, u1, u2, e, e12⟩
    · rw [e]
      have : spLp rec n (spTb rec σ (nI t)) 0 = spTb rec σ (nI t) := by
        cases n with
        | zero => rfl
        | succ n => unfold spLp; rw [if_pos (by decide)]
      rw [this]
      exact hP.wk (Nat.le_refl _) (by omega)
    · rw [e]
      have := hP.tr (Rl_lp hR hB hk n (spTb rec σ (nI t)) u hP.1 u1 (by rw [nT_stc hs]; exact u2) (by rw [hs.2.1 12 (by decide), e12]; exact hr) (by have := hP.2.2; omega))
      exact this.wk (Nat.le_refl _) (by omega)
theorem Rl_due {rk : Nat → Nat} {r : Nat} {B : Int} {σ : MS} {t : Nat} {v : Int64} (h : Iv rk B σ) (hr : rk ((ma σ 12 t).toNatClampNeg) ≤ r) : Rl rk r B 0 σ (sml σ 20 t v) := by
  obtain ⟨k1, k2⟩ := Iv_keep (σ' := sml σ 20 t v) h stc_20 rfl rfl rfl (fun _ _ _ => rfl) (fun _ _ _ => rfl)
  refine ⟨k1, ⟨stc_20, fun _ _ => rfl, fun _ _ => ⟨rfl, id⟩, fun u hu => ?_⟩, by rw [k2]; exact Nat.le_refl _⟩
  have e : u ≠ t := fun e => by subst e; omega
  exact ⟨rfl, rfl, up2_a _ _ _ _ e, rfl⟩
theorem Rl_A1 {rk : Nat → Nat} {k r : Nat} {Bm B : Int} {rec : MS → Int32 → MS} (hR : RecOk rk k Bm rec) {σ : MS} {a : Nat} {c : Int32} (h : Iv rk B σ) (hB : B ≤ Bm) (h1 : 1 ≤ a) (h2 : a ≤ nA σ) (hr : rk (c.toNatClampNeg) ≤ r) (hk : r ≤ k) (hb : pot σ + 1 < 2 ^ 31) : Rl rk r B 1 σ (spA1 rec c a σ) := by
  unfold spA1
  split
  · exact Rl.rf h
  · split
    · rename_i _ e
      split
      · exact Rl_al hR h hB h1 h2 (by rw [e]; exact hr) hk hb
      · exact Rl.rf h
    · exact Rl.rf h
theorem Rl_T1 {rk : Nat → Nat} {k r : Nat} {Bm B : Int} {rec : MS → Int32 → MS} (hR : RecOk rk k Bm rec) {σ : MS} {t : Nat} {c : Int32} (h : Iv rk B σ) (hB : B ≤ Bm) (h1 : 1 ≤ t) (h2 : t ≤ nT σ) (hr : rk (c.toNatClampNeg) ≤ r) (hk : r ≤ k) (hb : pot σ + 4 < 2 ^ 31) : Rl rk r B 4 σ (spT1 rec c t σ) := by
  unfold spT1
  split
  · exact Rl.rf h
  · split
    · rename_i _ e
      split
      · have hr' : rk ((ma σ 12 t).toNatClampNeg) ≤ r := by rw [e]; exact hr
        have hD : Rl rk r B 0 σ (sml σ 20 t (-1)) := Rl_due h hr'
        exact (hD.tr (Rl_lp hR hB hk 4 (sml σ 20 t (-1)) t hD.1 h1 h2 hr' (by have := hD.2.2; omega))).wk (Nat.le_refl _) (by omega)
      · exact Rl.rf h
    · exact Rl.rf h
theorem Rl_As {rk : Nat → Nat} {k r : Nat} {Bm B : Int} {rec : MS → Int32 → MS} (hR : RecOk rk k Bm rec) (hB : B ≤ Bm) (hk : r ≤ k) {c : Int32} (hr : rk (c.toNatClampNeg) ≤ r) : ∀ (n a : Nat) (σ : MS), Iv rk B σ → 1 ≤ a → a + n ≤ nA σ + 1 → pot σ + n < 2 ^ 31 → Rl rk r B n σ (spAs rec c n a σ)
  | 0, _, σ, h, _, _, _ => Rl.rf h
  | n + 1, a, σ, h, h1, h2, hb => by
    have hP : Rl rk r B 1 σ (spA1 rec c a σ) := Rl_A1 hR h hB h1 (by omega) hr hk (by omega)
    have := hP.tr (Rl_As hR hB hk hr n (a + 1) _ hP.1 (by omega) (by rw [nA_stc hP.2.1.1]; omega) (by have := hP.2.2; omega))
    exact this.wk (Nat.le_refl _) (by omega)
theorem Rl_Ts {rk : Nat → Nat} {k r : Nat} {Bm B : Int} {rec : MS → Int32 → MS} (hR : RecOk rk k Bm rec) (hB : B ≤ Bm) (hk : r ≤ k) {c : Int32} (hr : rk (c.toNatClampNeg) ≤ r) : ∀ (n a : Nat) (σ : MS), Iv rk B σ → 1 ≤ a → a + n ≤ nT σ + 1 → pot σ + 4 * n < 2 ^ 31 → Rl rk r B (4 * n) σ (spTs rec c n a σ)
  | 0, _, σ, h, _, _, _ => Rl.rf h
  | n + 1, a, σ, h, h1, h2, hb => by
    have hP : Rl rk r B 4 σ (spT1 rec c a σ) := Rl_T1 hR h hB h1 (by omega) hr hk (by omega)
    have := hP.tr (Rl_Ts hR hB hk hr n (a + 1) _ hP.1 (by omega) (by rw [nT_stc hP.2.1.1]; omega) (by have := hP.2.2; omega))
    exact this.wk (Nat.le_refl _) (by omega)
theorem Rl_own {rk : Nat → Nat} {r : Nat} {B : Int} {σ : MS} {c : Int32} (h : Iv rk B σ) (hB : B < 2 ^ 60) (hr : rk (c.toNatClampNeg) ≤ r) : Rl rk r (B + 1) 0 σ (sml σ 3 c.toNatClampNeg (ml σ 3 c.toNatClampNeg + 1)) := by
  obtain ⟨g1, g2, g3, g4, g5, g6⟩ := h
  have hs : stc σ (sml σ 3 c.toNatClampNeg (ml σ 3 c.toNatClampNeg + 1)) := stc_3
  refine ⟨⟨Cf_stc hs g1, g2, g3, fun y => ?_, g5, g6⟩, Fm_step hr, Nat.le_refl _⟩
  show 0 ≤ (up2 (ml σ) 3 c.toNatClampNeg (ml σ 3 c.toNatClampNeg + 1) 3 y).toInt ∧ (up2 (ml σ) 3 c.toNatClampNeg (ml σ 3 c.toNatClampNeg + 1) 3 y).toInt + (20000 - (acN σ : Int)) ≤ B + 1
  have ha := g2.2
  by_cases e : y = c.toNatClampNeg
  · subst e
    have := g4 (c.toNatClampNeg)
    have e1 : (1 : Int64).toInt = 1 := rfl
    rw [up2_self, i64_add (by rw [e1]; omega) (by rw [e1]; omega), e1]
    omega
  · rw [up2_a _ _ _ _ e]
    have := g4 y
    omega
theorem RecOk_St (rk : Nat → Nat) (Bm : Int) (hBm : Bm < 2 ^ 60) : ∀ k, RecOk rk k Bm (spSt k)
  | 0 => fun B σ x _ _ _ hk _ => absurd hk (Nat.not_lt_zero _)
  | k + 1 => fun B σ x h hB hx hk hb => by
    have h0 : Rl rk (rk (x.toNatClampNeg)) (B + 1) 0 σ (sml σ 3 x.toNatClampNeg (ml σ 3 x.toNatClampNeg + 1)) := Rl_own h (by omega) (Nat.le_refl _)
    unfold spSt
    have eA : nA (sml σ 3 x.toNatClampNeg (ml σ 3 x.toNatClampNeg + 1)) = nA σ := rfl
    have eT : nT (sml σ 3 x.toNatClampNeg (ml σ 3 x.toNatClampNeg + 1)) = nT σ := rfl
    generalize sml σ 3 x.toNatClampNeg (ml σ 3 x.toNatClampNeg + 1) = Y at h0 eA eT
    have hw : wN σ = nA σ + 4 * nT σ := rfl
    have h1 : Rl rk (rk (x.toNatClampNeg)) (B + 1) (nA σ) Y (spAs (spSt k) x (nA σ) 1 Y) := Rl_As (RecOk_St rk Bm hBm k) hB (by omega) (Nat.le_refl _) (nA σ) 1 Y h0.1 (Nat.le_refl _) (by rw [eA]; omega) (by have := h0.2.2; omega)
    have h2 := h0.tr h1
    have h3 : Rl rk (rk (x.toNatClampNeg)) (B + 1) (4 * nT σ) (spAs (spSt k) x (nA σ) 1 Y) (spTs (spSt k) x (nT σ) 1 (spAs (spSt k) x (nA σ) 1 Y)) := Rl_Ts (RecOk_St rk Bm hBm k) hB (by omega) (Nat.le_refl _) (nT σ) 1 _ h1.1 (Nat.le_refl _) (by rw [nT_stc h1.2.1.1, eT]; omega) (by have := h2.2.2; omega)
    exact (h2.tr h3).wk (Nat.le_refl _) (by omega)
