-- A STEP OF THE CLASS IS A STEP OF THE MODEL
theorem ttL_end {x : Nat} {dp : Int32} {rc : HS → Nat → HS} {S : HS} {o : Option Nat} (h : o = none ∨ ∃ b, o = some b ∧ ¬ fl S 10 b = fl S 6 (gd (fr S 13 b))) : ∀ m, ttL x dp rc m S o = S
  | 0 => rfl
  | m + 1 => by
    unfold ttL
    rcases h with h | ⟨b, h, q⟩
    · exact op_none h
    · exact (op_some h).trans (if_neg q)
theorem Lp_sim {rk : Nat → Nat} {M : AM} {x : Nat} {Bm B : Int} {k : Nat} (hBm : Bm < 2 ^ 60) {rc : HS → Nat → HS} (hS : SimR rk M x Bm k rc (spSt k)) {E : Nat → Prop} {c a0 t0 : Nat} {dp : Int32} (hB : B ≤ Bm) (c1 : 1 ≤ c) (hk : rk c ≤ k) (hdp : k ≠ 0 → ¬ (20 : Int32) ≤ dp) : ∀ (n m u : Nat) (S : HS) (σ : MS), Ps rk M x (EU E u) c a0 t0 S σ → Iv rk B σ → c ≤ nC σ → 1 ≤ u → u ≤ nT σ → ma σ 12 u = nI c → lev σ u ≤ n → n ≤ m → pot σ + n < 2 ^ 31 → (∀ t, 1 ≤ t → t ≤ nT σ → E t → rk c < rk ((ma σ 12 t).toNatClampNeg)) →
    Ps rk M x E c a0 t0 (ttL x dp rc m S (some (tA M u))) (spLp (spSt k) n σ (nI u)) ∧ Ou rk M c σ S (ttL x dp rc m S (some (tA M u)))
  | 0, _, u, S, σ, _, _, _, _, _, _, hl, _, _, _ => by have := (lev_pos (σ := σ) (t := u)).1; omega
  | n + 1, 0, _, _, _, _, _, _, _, _, _, _, hm, _, _ => by omega
  | n + 1, m + 1, u, S, σ, hP, hI, c2, u1, u2, hu, hl, hm, hb, hE => by
    have hC := hI.1.1.2.1
    have hT := hI.1.1.2.2.2
    have ec : (nI c).toNatClampNeg = c := nI_clamp (by omega)
    have hd : fl S 10 (tA M u) = fl S 6 (gd (fr S 13 (tA M u))) := by
      have e13 : gd (fr S 13 (tA M u)) = cA M c := by rw [(hP.1.2.1.2.2.2.2.1 u u1 u2).2.2.1, hu, ec]; rfl
      obtain ⟨-, -, d3, d4⟩ := hP.1.2.2.2.2.1 u u1 u2
      rw [e13, (hP.1.2.2.1 c c1 c2).1, (d4 (d3 (Or.inr rfl))).2.2.1 (Or.inr rfl), hu, ec]
    have e1 : ttL x dp rc (m + 1) S (some (tA M u)) = ttL x dp rc m (goThrough_S S x (tA M u) dp rc) (goThrough_R S x (tA M u) dp rc) := if_pos hd
    have e2 : spLp (spSt k) (n + 1) σ (nI u) = spLp (spSt k) n (spTb (spSt k) σ (nI u)) (MtableGoes_R σ (nI u)) := if_neg (nI_npos u1 (by omega))
    obtain ⟨g1, g2⟩ := go_sim hBm hS (dp := dp) hP hI hB c1 c2 u1 u2 hu hk hdp (by omega) hE
    have hRl := Rl_tb (RecOk_St rk Bm hBm k) (r := rk c) hI hB u1 u2 (by rw [hu, ec]; exact Nat.le_refl _) hk (by omega)
    have hst := hRl.2.1.1
    have hpt := hRl.2.2
    rw [e1, e2]
    rcases g1 with ⟨z1, z2, z3⟩ | ⟨w, w1, w2, w3, w4, w5, w6⟩
    · rw [z1, spLp_0, ttL_end z3]
      exact ⟨z2, g2⟩
    · have hlv := tb_lev hBm hI hB u1 u2 hu (by rw [ec]; exact hk) (by omega) w1 (by omega) w4 w3
      rw [w3, w5]
      obtain ⟨r1, r2⟩ := Lp_sim hBm hS hB c1 hk hdp n m w (goThrough_S S x (tA M u) dp rc) (spTb (spSt k) σ (nI u)) w6 hRl.1 (by rw [nC_stc hst]; exact c2) w1 (by rw [nT_stc hst]; exact w2) (by rw [hst.2.1 12 (by decide)]; exact w4) (by omega) (by omega) (by omega) (fun t t1 t2 t3 => by rw [hst.2.1 12 (by decide)]; exact hE t t1 (by rw [← nT_stc hst]; exact t2) t3)
      exact ⟨r1, g2.tr (r2.cg (nC_stc hst).symm)⟩
theorem Ps_t {rk : Nat → Nat} {M : AM} {x : Nat} {E : Nat → Prop} {c a0 t : Nat} {S : HS} {σ : MS} (h : Ps rk M x E c a0 t S σ) (hn : ma σ 12 t = nI c → ¬ ma σ 19 t = 0 → ¬ E t → (fl S 7 (cA M c)).toInt ≤ (ml σ 20 t).toInt) : Ps rk M x E c a0 (t + 1) S σ := by
  obtain ⟨h1, h2, h3⟩ := h
  refine ⟨h1, h2, h3.1, fun b q1 q2 q3 q4 q5 q6 => ?_⟩
  by_cases e : b = t
  · subst e; exact hn q4 q5 q6
  · exact h3.2 b q1 (by omega) q3 q4 q5 q6
/-- a table that is due begins its turn -/
theorem Ps_turn {rk : Nat → Nat} {M : AM} {x : Nat} {E : Nat → Prop} {c a0 t : Nat} {S : HS} {σ : MS} (h : Ps rk M x E c a0 t S σ) (c2 : c ≤ nC σ) (hC : nC σ ≤ 20) (t1 : 1 ≤ t) (t2 : t ≤ nT σ) (hon : ma σ 12 t = nI c) (hr : ¬ ma σ 19 t = 0) (hE : ¬ E t) (hd : ml σ 20 t = ml σ 3 c) : Ps rk M x (EU E t) c a0 (t + 1) S (sml σ 20 t (-1)) := by
  obtain ⟨⟨hI, hR, hc, ha, ht, hn, hk⟩, h2, h3⟩ := h
  have ec : (nI c).toNatClampNeg = c := nI_clamp (by omega)
  have e20 : ∀ b, b ≠ t → ml (sml σ 20 t (-1)) 20 b = ml σ 20 b := fun b e => rl_n e
  refine ⟨⟨hI, RS_stc stc_20 hR, hc, ha, fun b b1 b2 => ?_, hn, hk⟩, fun z z1 z2 z3 z4 => ?_, h3.1, fun b q1 q2 q3 q4 q5 q6 => ?_⟩
  · obtain ⟨q1, q2, q3, q4⟩ := ht b b1 b2
    by_cases e : b = t
    · subst e
      obtain ⟨j1, j2, j3, j4⟩ := q4 hr
      refine ⟨q1, q2, fun _ => hr, fun _ => ⟨j1, j2, fun _ => ?_, fun z => absurd (Or.inr rfl) z⟩⟩
      rw [j4 hE, hd]
      show ml σ 3 c = ml σ 3 (ma σ 12 b).toNatClampNeg
      rw [hon, ec]
    · refine ⟨q1, q2, fun z => q3 ((EU_ne e).mp z), fun z => ?_⟩
      obtain ⟨j1, j2, j3, j4⟩ := q4 z
      exact ⟨j1, j2, fun y => j3 ((EU_ne e).mp y), fun y => (j4 (fun w => y (Or.inl w))).trans (e20 b e).symm⟩
  · refine WkP_E (h2 z z1 z2 z3 z4) stc_20 (Int.le_refl _) (fun _ _ _ _ => ⟨rfl, id⟩) (fun b b1 b2 b3 b4 b5 => Or.inr ?_)
    have e : b ≠ t := fun e => b5 (Or.inr e)
    exact ⟨b4, fun y => b5 (Or.inl y), e20 b e⟩
  · have e : b ≠ t := fun e => q6 (Or.inr e)
    rw [e20 b e]
    exact h3.2 b q1 (by omega) q3 q4 q5 (fun y => q6 (Or.inl y))
theorem tb_sim {rk : Nat → Nat} {M : AM} {x : Nat} {Bm B : Int} {k : Nat} (hBm : Bm < 2 ^ 60) {rc : HS → Nat → HS} (hS : SimR rk M x Bm k rc (spSt k)) {E : Nat → Prop} {S : HS} {σ : MS} {c t a0 : Nat} {dp : Int32} (hP : Ps rk M x E c a0 t S σ) (hI : Iv rk B σ) (hB : B ≤ Bm) (c1 : 1 ≤ c) (c2 : c ≤ nC σ) (t1 : 1 ≤ t) (t2 : t ≤ nT σ) (hon : ma σ 12 t = nI c) (hk : rk c ≤ k) (hdp : k ≠ 0 → ¬ (20 : Int32) ≤ dp) (hb : pot σ + 4 < 2 ^ 31) (hE : ∀ t, 1 ≤ t → t ≤ nT σ → E t → rk c < rk ((ma σ 12 t).toNatClampNeg)) :
    Ps rk M x E c a0 (t + 1) (takeTableTurn_S S x (tA M t) dp rc) (spT1 (spSt k) (nI c) t σ) ∧ Ou rk M c σ S (takeTableTurn_S S x (tA M t) dp rc) := by
  have hC := hI.1.1.2.1
  have hT := hI.1.1.2.2.2
  have ec : (nI c).toNatClampNeg = c := nI_clamp (by omega)
  obtain ⟨k1, k2, k3, -⟩ := hP.1.2.1.2.2.2.2.1 t t1 t2
  obtain ⟨d1, d2, d3, d4⟩ := hP.1.2.2.2.2.1 t t1 t2
  have hEt : ¬ E t := fun z => by have := hE t t1 t2 z; rw [hon, ec] at this; omega
  have e13 : gd (fr S 13 (tA M t)) = cA M c := by rw [k3, hon, ec]; rfl
  have e6 : fl S 6 (cA M c) = ml σ 3 c := (hP.1.2.2.1 c c1 c2).1
  unfold takeTableTurn_S spT1
  rw [d1, e13, e6, ec]
  by_cases q : ma σ 19 t = 0
  · rw [if_pos q, if_pos q]
    exact ⟨Ps_t hP (fun _ z => absurd q z), Ou.rf S⟩
  · obtain ⟨j1, j2, j3, j4⟩ := d4 q
    rw [if_neg q, if_neg q, if_pos hon, j4 hEt]
    by_cases d : ml σ 20 t = ml σ 3 c
    · rw [if_pos d, if_pos d]
      have h1 := Ps_turn hP c2 hC t1 t2 hon q hEt d
      have hD : Rl rk (rk c) B 0 σ (sml σ 20 t (-1)) := Rl_due hI (by rw [hon, ec]; exact Nat.le_refl _)
      obtain ⟨r1, r2⟩ := Lp_sim hBm hS (dp := dp) hB c1 hk hdp 4 8 t S (sml σ 20 t (-1)) h1 hD.1 c2 t1 t2 hon lev_pos.2 (by decide) (by have := hD.2.2; omega) hE
      exact ⟨r1, r2⟩
    · rw [if_neg d, if_neg d]
      obtain ⟨p1, p2⟩ := Ps_wake (v := if ml σ 20 t < fl S 7 (cA M c) then ml σ 20 t else fl S 7 (cA M c)) hP c1 c2 mn_le.1
      refine ⟨Ps_t p1 (fun _ _ _ => ?_), p2⟩
      rw [show fl (wakeAt_S S (cA M c) (ml σ 20 t)) 7 (cA M c) = _ from wakeAt_7]
      exact mn_le.2
theorem Ts_sim {rk : Nat → Nat} {M : AM} {x : Nat} {Bm B : Int} {k : Nat} (hBm : Bm < 2 ^ 60) {rc : HS → Nat → HS} (hS : SimR rk M x Bm k rc (spSt k)) {E : Nat → Prop} {c a0 : Nat} {dp : Int32} (hB : B ≤ Bm) (c1 : 1 ≤ c) (hk : rk c ≤ k) (hdp : k ≠ 0 → ¬ (20 : Int32) ≤ dp) : ∀ (n t : Nat) (S : HS) (σ : MS), Ps rk M x E c a0 t S σ → Iv rk B σ → c ≤ nC σ → 1 ≤ t → t + n ≤ nT σ + 1 → pot σ + 4 * n < 2 ^ 31 → (∀ t, 1 ≤ t → t ≤ nT σ → E t → rk c < rk ((ma σ 12 t).toNatClampNeg)) →
    Ps rk M x E c a0 (t + n) (tLp x dp rc (tLs M σ c n t) S) (spTs (spSt k) (nI c) n t σ) ∧ Ou rk M c σ S (tLp x dp rc (tLs M σ c n t) S)
  | 0, t, S, σ, hP, _, _, _, _, _, _ => ⟨hP, Ou.rf S⟩
  | n + 1, t, S, σ, hP, hI, c2, a1, a2, hb, hE => by
    have hC := hI.1.1.2.1
    have hr := Rl_T1 (RecOk_St rk Bm hBm k) (t := t) (c := nI c) (r := rk c) hI hB a1 (by omega) (by rw [nI_clamp (by omega)]; exact Nat.le_refl _) hk (by omega)
    have hs := hr.2.1.1
    have hp2 := hr.2.2
    unfold spTs
    by_cases e : ma σ 12 t = nI c
    · obtain ⟨p1, p2⟩ := tb_sim hBm hS (dp := dp) hP hI hB c1 c2 a1 (by omega) e hk hdp (by omega) hE
      have el : tLs M σ c (n + 1) t = tA M t :: tLs M σ c n (t + 1) := if_pos e
      rw [el]
      show Ps rk M x E c a0 (t + (n + 1)) (tLp x dp rc (tLs M σ c n (t + 1)) (takeTableTurn_S S x (tA M t) dp rc)) _ ∧ Ou rk M c σ S (tLp x dp rc (tLs M σ c n (t + 1)) (takeTableTurn_S S x (tA M t) dp rc))
      generalize spT1 (spSt k) (nI c) t σ = τ at p1 hr hs hp2
      generalize takeTableTurn_S S x (tA M t) dp rc = Z at p1 p2
      rw [← tLs_cg (M := M) (c := c) (hs.2.1 12 (by decide)) n (t + 1)]
      obtain ⟨r1, r2⟩ := Ts_sim hBm hS hB c1 hk hdp n (t + 1) Z τ p1 hr.1 (by rw [nC_stc hs]; exact c2) (by omega) (by rw [nT_stc hs]; omega) (by omega) (fun t t1 t2 t3 => by rw [hs.2.1 12 (by decide)]; exact hE t t1 (by rw [← nT_stc hs]; exact t2) t3)
      rw [show t + (n + 1) = t + 1 + n by omega]
      exact ⟨r1, p2.tr (r2.cg (nC_stc hs).symm)⟩
    · have el : tLs M σ c (n + 1) t = tLs M σ c n (t + 1) := if_neg e
      have e1 : spT1 (spSt k) (nI c) t σ = σ := by
        unfold spT1
        rw [if_neg e]
        split <;> rfl
      rw [el, e1, show t + (n + 1) = t + 1 + n by omega]
      exact Ts_sim hBm hS hB c1 hk hdp n (t + 1) S σ (Ps_t hP (fun z => absurd z e)) hI c2 (by omega) (by omega) (by omega) hE
theorem spAs_none {rm : MS → Int32 → MS} {c : Int32} {σ : MS} : ∀ (n a : Nat), (∀ b, a ≤ b → b < a + n → ¬ dueA σ c b) → spAs rm c n a σ = σ
  | 0, _, _ => rfl
  | n + 1, a, h => by
    have e : spA1 rm c a σ = σ := by
      have := h a (Nat.le_refl _) (by omega)
      unfold spA1
      split
      · rfl
      · rename_i q1
        split
        · rename_i q2
          split
          · rename_i q3
            exact absurd ⟨q1, q2, q3⟩ this
          · rfl
        · rfl
    unfold spAs
    rw [e]
    exact spAs_none n (a + 1) (fun b b1 b2 => h b (by omega) (by omega))
theorem spTs_none {rm : MS → Int32 → MS} {c : Int32} {σ : MS} : ∀ (n a : Nat), (∀ b, a ≤ b → b < a + n → ¬ dueT σ c b) → spTs rm c n a σ = σ
  | 0, _, _ => rfl
  | n + 1, a, h => by
    have e : spT1 rm c a σ = σ := by
      have := h a (Nat.le_refl _) (by omega)
      unfold spT1
      split
      · rfl
      · rename_i q1
        split
        · rename_i q2
          split
          · rename_i q3
            exact absurd ⟨q1, q2, q3⟩ this
          · rfl
        · rfl
    unfold spTs
    rw [e]
    exact spTs_none n (a + 1) (fun b b1 b2 => h b (by omega) (by omega))
theorem SimR_St (rk : Nat → Nat) (M : AM) (x : Nat) (Bm : Int) (hBm : Bm < 2 ^ 60) : ∀ k, k ≤ 20 → SimR rk M x Bm k (stF x k) (spSt k)
  | 0, _ => fun B E S σ c _ _ _ _ hk _ _ _ => absurd hk (Nat.not_lt_zero _)
  | k + 1, hk20 => fun B E S σ c hI hB c1 c2 hk hb hE hP => by
    have hS := SimR_St rk M x Bm hBm k (by omega)
    have hR := RecOk_St rk Bm hBm k
    have hC := hI.1.1.2.1
    have ec : (nI c).toNatClampNeg = c := nI_clamp (by omega)
    have hw : wN σ = nA σ + 4 * nT σ := rfl
    have hs0 := hI.2.2.2.1 c
    have hac := hI.2.1.2
    have hA0 : Sm M x E (advance_S S (cA M c)) (sml σ 3 c (ml σ 3 c + 1)) := Sm_adv hP.1 c1 c2 hs0.1 (by omega) (fun t t1 t2 t3 z => by have := hE t t1 t2 t3; rw [z] at this; omega)
    have h0 : Rl rk (rk c) (B + 1) 0 σ (sml σ 3 c (ml σ 3 c + 1)) := by
      have := Rl_own (r := rk c) (c := nI c) hI (by omega) (by rw [ec]; exact Nat.le_refl _)
      rw [ec] at this
      exact this
    have eS : spSt (k + 1) σ (nI c) = spTs (spSt k) (nI c) (nT σ) 1 (spAs (spSt k) (nI c) (nA σ) 1 (sml σ 3 c (ml σ 3 c + 1))) := by
      show spTs (spSt k) (nI c) (nT σ) 1 (spAs (spSt k) (nI c) (nA σ) 1 (sml σ 3 (nI c).toNatClampNeg (ml σ 3 (nI c).toNatClampNeg + 1))) = _
      rw [ec]
    have eF : stF x (k + 1) S (cA M c) = makeStep_S S x (cA M c) (nI (20 - k)) (stF x k) := rfl
    have hdp : k ≠ 0 → ¬ (20 : Int32) ≤ nI (20 - k) := fun z => by rw [show (20 : Int32) = nI 20 from rfl, nI_leI (by decide) (by omega)]; omega
    rw [eS, eF]
    unfold makeStep_S
    have a7 : ∀ z, fl (advance_S S (cA M c)) 7 z = fl S 7 z := fun z => adv_k (by decide) (by decide)
    have a6 : fl (advance_S S (cA M c)) 6 (cA M c) = ml σ 3 c + 1 := (hA0.2.2.1 c c1 c2).1.trans rl_s
    have sc0 : Sc S (advance_S S (cA M c)) := Sc_adv
    have m9 : ma (sml σ 3 c (ml σ 3 c + 1)) = ma σ := rfl
    have m10 : ∀ j, j ≠ 3 → ml (sml σ 3 c (ml σ 3 c + 1)) j = ml σ j := fun j hj => funext fun _ => rl_l hj
    have m3 : ml (sml σ 3 c (ml σ 3 c + 1)) 3 c = ml σ 3 c + 1 := rl_s
    have hs3 : stc σ (sml σ 3 c (ml σ 3 c + 1)) := stc_3
    have eC : nC (sml σ 3 c (ml σ 3 c + 1)) = nC σ := rfl
    have eA : nA (sml σ 3 c (ml σ 3 c + 1)) = nA σ := rfl
    have eT : nT (sml σ 3 c (ml σ 3 c + 1)) = nT σ := rfl
    generalize sml σ 3 c (ml σ 3 c + 1) = τ at hA0 h0 m9 m10 m3 hs3 eC eA eT
    generalize advance_S S (cA M c) = Z at hA0 a7 a6 sc0
    have hW : ∀ z a1 t1 Z', fl Z' 7 (cA M z) = fl S 7 (cA M z) → WkP M E z a1 t1 S σ → WkP M E z a1 t1 Z' τ := fun z a1 t1 Z' h7 h => WkP_fr h hs3 h7 (fun a _ _ _ => ⟨by rw [m10 10 (by decide)], fun q => by rw [m9]; exact q⟩) (fun t _ _ _ => ⟨by rw [m9], by rw [m10 20 (by decide)]⟩)
    by_cases q : fl Z 6 (cA M c) < fl Z 7 (cA M c)
    · rw [if_pos q]
      rw [a6, a7, Int64.lt_iff_toInt_lt] at q
      have hnA : ∀ b, 1 ≤ b → b < 1 + nA σ → ¬ dueA τ (nI c) b := fun b b1 b2 z => by
        obtain ⟨z1, z2, z3⟩ := z
        rw [m9] at z1 z2
        rw [ec, m3, m10 10 (by decide)] at z3
        have := hP.2.2.1 b b1 (by omega) (by omega) z2 z1
        rw [z3] at this
        omega
      have hnT : ∀ b, 1 ≤ b → b < 1 + nT σ → ¬ dueT τ (nI c) b := fun b b1 b2 z => by
        obtain ⟨z1, z2, z3⟩ := z
        rw [m9] at z1 z2
        rw [ec, m3, m10 20 (by decide)] at z3
        have := hP.2.2.2 b b1 (by omega) (by omega) z2 z1 (fun y => by have := hE b b1 (by omega) y; rw [z2, ec] at this; omega)
        rw [z3] at this
        omega
      rw [spAs_none _ _ hnA, spTs_none _ _ hnT]
      refine ⟨⟨hA0, fun z z1 z2 z3 z4 => ?_, hW _ _ _ _ (a7 _) hP.2.2⟩, sc0, fun z _ _ _ => a7 _⟩
      rw [eA, eT]
      exact hW _ _ _ _ (a7 _) (hP.2.1 z z1 (by omega) z3 z4)
    · rw [if_neg q]
      have hP1 : Ps rk M x E c 1 1 (sfl Z 7 (cA M c) 9223372036854775807) τ := by
        refine ⟨Sm_wake hA0, fun z z1 z2 z3 z4 => ?_, fun a _ _ _ _ _ => by omega, fun t _ _ _ _ _ _ => by omega⟩
        rw [eA, eT]
        exact hW _ _ _ _ ((up2_a _ _ _ _ (cA_ne hP.1.2.1 c1 c2 z1 (by omega) z3)).trans (a7 _)) (hP.2.1 z z1 (by omega) z3 z4)
      have hO1 : Ou rk M c σ S (sfl Z 7 (cA M c) 9223372036854775807) := ⟨sc0.tr (Sc_sfl (by decide)), fun z z1 z2 z3 => (up2_a _ _ _ _ (cA_ne hP.1.2.1 c1 c2 z1 z2 (fun e => by subst e; omega))).trans (a7 _)⟩
      generalize sfl Z 7 (cA M c) 9223372036854775807 = Y at hP1 hO1
      have hEt : ∀ t, 1 ≤ t → t ≤ nT τ → E t → rk c < rk ((ma τ 12 t).toNatClampNeg) := fun t t1 t2 t3 => by rw [m9]; exact hE t t1 (by omega) t3
      obtain ⟨r1, r2⟩ := As_sim hS hR (dp := nI (20 - k)) (B := B + 1) hB c1 (by omega) hdp (nA σ) 1 Y τ hP1 h0.1 (by omega) (Nat.le_refl _) (by omega) (by have := h0.2.2; omega) (fun t t1 t2 t3 => Nat.le_of_lt (hEt t t1 t2 t3))
      have hRA := Rl_As hR (r := rk c) (c := nI c) (B := B + 1) hB (by omega) (by rw [ec]; exact Nat.le_refl _) (nA σ) 1 τ h0.1 (Nat.le_refl _) (by omega) (by have := h0.2.2; omega)
      have eMA : mkA x (cA M c) (nI (20 - k)) (stF x k) Y = aLp x (nI (20 - k)) (stF x k) (aLs M τ c (nA σ) 1) Y := by
        unfold mkA
        have := (hP1.1.2.1.2.2.1 c c1 (by omega)).2.2.2.2.1
        rw [eA] at this
        rw [cho_eq this]
      rw [eMA]
      have hsA := hRA.2.1.1
      have hpA := hRA.2.2
      generalize aLp x (nI (20 - k)) (stF x k) (aLs M τ c (nA σ) 1) Y = Y2 at r1 r2
      generalize spAs (spSt k) (nI c) (nA σ) 1 τ = τ2 at r1 hRA hsA hpA
      have eA2 := nA_stc hsA
      have eT2 := nT_stc hsA
      have eC2 := nC_stc hsA
      obtain ⟨v1, v2⟩ := Ts_sim hBm hS (dp := nI (20 - k)) (B := B + 1) hB c1 (by omega) hdp (nT σ) 1 Y2 τ2 r1 hRA.1 (by omega) (Nat.le_refl _) (by omega) (by have := h0.2.2; omega) (fun t t1 t2 t3 => by rw [hsA.2.1 12 (by decide)]; exact hEt t t1 (by omega) t3)
      have eMT : mkT x (cA M c) (nI (20 - k)) (stF x k) Y2 = tLp x (nI (20 - k)) (stF x k) (tLs M τ2 c (nT σ) 1) Y2 := by
        unfold mkT
        have := (r1.1.2.1.2.2.1 c c1 (by omega)).2.2.2.2.2
        rw [eT2, eT] at this
        rw [cho_eq this]
      rw [eMT]
      rw [show 1 + nT σ = nT σ + 1 by omega, show 1 + nA σ = nA σ + 1 by omega] at v1
      exact ⟨v1, (hO1.tr (r2.cg eC.symm)).tr (v2.cg (by omega))⟩
