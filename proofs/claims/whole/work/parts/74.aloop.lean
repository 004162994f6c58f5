-- ALL ALARMS OF A COUNTER
/-- what an alarm's act does -/
def spAc (rm : MS → Int32 → MS) (σ : MS) (a : Nat) : MS := if ma σ 7 a = 1 then spBy rm σ (ma σ 8 a) else if ma σ 7 a = 2 then sma σ 9 (ma σ 8 a).toNatClampNeg 0 else σ
theorem act_al {rk : Nat → Nat} {M : AM} {x : Nat} {Bm B : Int} {k : Nat} {rc : HS → Nat → HS} {rm : MS → Int32 → MS} (hS : SimR rk M x Bm k rc rm) (hR : RecOk rk k Bm rm) {E : Nat → Prop} {S : HS} {σ : MS} {c a a0 t0 : Nat} {dp : Int32} (hP : Ps rk M x E c a0 t0 S σ) (hI : Iv rk B σ) (hB : B ≤ Bm) (c2 : c ≤ nC σ) (a1 : 1 ≤ a) (a2 : a ≤ nA σ) (ha : ma σ 6 a = nI c) (hk : rk c ≤ k) (hdp : k ≠ 0 → ¬ (20 : Int32) ≤ dp) (hb : pot σ < 2 ^ 31) (hE : ∀ t, 1 ≤ t → t ≤ nT σ → E t → rk c ≤ rk ((ma σ 12 t).toNatClampNeg)) :
    Ps rk M x E c a0 t0 (perform_S S x (gd (fr S 3 (aA M a))) dp rc) (spAc rm σ a) ∧ Ou rk M c σ S (perform_S S x (gd (fr S 3 (aA M a))) dp rc) := by
  obtain ⟨k1, k2, k3, k4, k5, q, k6, k7, k8, k9⟩ := hP.1.2.1.2.2.2.1 a a1 a2
  have hC := hI.1.1.2.1
  have hA := hI.1.1.2.2.1
  have ec : (nI c).toNatClampNeg = c := nI_clamp (by omega)
  rw [k6]
  show Ps rk M x E c a0 t0 (perform_S S x q dp rc) (spAc rm σ a) ∧ Ou rk M c σ S (perform_S S x q dp rc)
  unfold spAc
  by_cases q1 : ma σ 7 a = 1
  · rw [if_pos q1] at k8
    rw [if_neg (by rw [q1]; decide)] at k9
    rw [if_pos q1, pf_step k9 k8]
    obtain ⟨i1, i2⟩ := (hI.1.2.1 a a1 a2).2.1 q1
    obtain ⟨e8, b8⟩ := rg_cl (hi := nC σ) (i1.wk (by decide) (Int.le_refl _)) (by omega)
    have h18 : 1 ≤ (ma σ 8 a).toNatClampNeg := by
      have := i1.1
      rw [e8, nI_toInt (by omega)] at this
      omega
    rw [ha, ec] at i2
    rw [e8, nI_clamp (by omega)]
    exact by_sim hS hR hP hI hB c2 h18 b8 i2 hk hdp hb hE
  · rw [if_neg q1] at k8
    rw [if_neg q1]
    by_cases q2 : ma σ 7 a = 2
    · rw [if_pos q2] at k9
      rw [if_pos q2, pf_cancel k9 k8]
      have i1 := k5 q2
      obtain ⟨e8, b8⟩ := rg_cl (hi := nA σ) (i1.wk (by decide) (Int.le_refl _)) (by omega)
      have h18 : 1 ≤ (ma σ 8 a).toNatClampNeg := by
        have := i1.1
        rw [e8, nI_toInt (by omega)] at this
        omega
      exact Ps_cancel hP h18 b8
    · rw [if_neg q2] at k9
      rw [if_neg q2, pf_none k9 k8]
      exact ⟨hP, Ou.rf S⟩
theorem gaPre_eq {σ : MS} {a c : Nat} (ha : ma σ 6 a = nI c) (ha3 : a < 2 ^ 31) (hc3 : c < 2 ^ 31) : gaPre σ (nI a) = sml (sma (Mnote_S σ 0 (nI a) 0 (nI c)) 9 a (if (0 : Int64) < ml σ 11 a then 1 else 0)) 10 a (ml σ 3 c + ml σ 11 a) := by
  unfold gaPre
  rw [nI_clamp ha3, ha, nI_clamp hc3]
theorem spAl_eq {rm : MS → Int32 → MS} {σ : MS} {a : Nat} (ha3 : a < 2 ^ 31) : spAl rm σ (nI a) = spAc rm (gaPre σ (nI a)) a := by
  have hs : stc σ (gaPre σ (nI a)) := stc_gaPre
  unfold spAl spAc
  rw [nI_clamp ha3, hs.2.1 7 (by decide), hs.2.1 8 (by decide)]
theorem al_sim {rk : Nat → Nat} {M : AM} {x : Nat} {Bm B : Int} {k : Nat} {rc : HS → Nat → HS} {rm : MS → Int32 → MS} (hS : SimR rk M x Bm k rc rm) (hR : RecOk rk k Bm rm) {E : Nat → Prop} {S : HS} {σ : MS} {c a t0 : Nat} {dp : Int32} (hP : Ps rk M x E c a t0 S σ) (hI : Iv rk B σ) (hB : B ≤ Bm) (c1 : 1 ≤ c) (c2 : c ≤ nC σ) (a1 : 1 ≤ a) (a2 : a ≤ nA σ) (ha : ma σ 6 a = nI c) (hk : rk c ≤ k) (hdp : k ≠ 0 → ¬ (20 : Int32) ≤ dp) (hb : pot σ + 1 < 2 ^ 31) (hE : ∀ t, 1 ≤ t → t ≤ nT σ → E t → rk c ≤ rk ((ma σ 12 t).toNatClampNeg)) :
    Ps rk M x E c (a + 1) t0 (takeAlarmTurn_S S x (aA M a) dp rc) (spA1 rm (nI c) a σ) ∧ Ou rk M c σ S (takeAlarmTurn_S S x (aA M a) dp rc) := by
  obtain ⟨k1, k2, k3, k4, k5, -⟩ := hP.1.2.1.2.2.2.1 a a1 a2
  obtain ⟨d1, d2, d3⟩ := hP.1.2.2.2.1 a a1 a2
  have hC := hI.1.1.2.1
  have hA := hI.1.1.2.2.1
  have ec : (nI c).toNatClampNeg = c := nI_clamp (by omega)
  have e2 : gd (fr S 2 (aA M a)) = cA M c := by rw [k3, ha, ec]; rfl
  have e6 : fl S 6 (cA M c) = ml σ 3 c := (hP.1.2.2.1 c c1 c2).1
  unfold takeAlarmTurn_S spA1
  rw [e2, d1, k2]
  by_cases q : ma σ 9 a = 0
  · rw [if_pos q, if_pos q]
    exact ⟨Ps_a hP (fun _ z => absurd q z), Ou.rf S⟩
  · rw [if_neg q, if_neg q, if_pos ha, ec, d3 q, e6]
    by_cases d : ml σ 10 a = ml σ 3 c
    · rw [if_pos d, if_pos d, spAl_eq (by omega), gaPre_eq ha (by omega) (by omega)]
      have hgp : Rl rk (rk c) B 1 σ (gaPre σ (nI a)) := Rl_gaPre hI hb (by rw [nI_clamp (by omega), ha, ec]; exact Nat.le_refl _)
      rw [gaPre_eq ha (by omega) (by omega)] at hgp
      obtain ⟨n1, n2⟩ := Ps_note (kn := 0) (nb := nI a) (of_ := 0) hP hI.2.2.1 (by have := ex_le (σ := σ); omega) c1 c2 (by omega)
      have hs : stc σ (Mnote_S σ 0 (nI a) 0 (nI c)) := stc_note
      have el : ml (Mnote_S σ 0 (nI a) 0 (nI c)) = ml σ := Mnote_ml
      have e9 : ma (Mnote_S σ 0 (nI a) 0 (nI c)) 9 = ma σ 9 := Mnote_ma (by decide)
      have eA := nA_stc hs
      have eC := nC_stc hs
      have eT := nT_stc hs
      have e6m := hs.2.1 6 (by decide)
      generalize Mnote_S σ 0 (nI a) 0 (nI c) = τ at hgp n1 hs el e9 eA eC eT e6m ⊢
      generalize add_S S (gd (fr S 21 x)) 0 (nI a) 0 (fl S 5 (cA M c)) = Z at n1 n2 ⊢
      obtain ⟨j1, j2, j3, j4, j5, -⟩ := n1.1.2.1.2.2.2.1 a a1 (by omega)
      rw [e6m, ha, ec] at j3
      have z6 : fl Z 6 (cA M c) = ml σ 3 c := by rw [(n1.1.2.2.1 c c1 (by omega)).1, el]
      rw [j4, el]
      by_cases cy : ml σ 11 a = 0
      · rw [if_pos cy]
        have hv : (if (0 : Int64) < ml σ 11 a then (1 : Int32) else 0) = 0 := by rw [cy]; decide
        rw [hv] at hgp ⊢
        obtain ⟨p1, p2⟩ := Ps_fire0 (w := ml σ 3 c + ml σ 11 a) n1 (by omega) (by omega) a1 (by omega) (by rw [e6m]; exact ha)
        have h3 : fr Z 3 (aA M a) = fr (sfi Z 1 (aA M a) 0) 3 (aA M a) := rfl
        rw [h3]
        have hs2 : stc τ (sml (sma τ 9 a 0) 10 a (ml σ 3 c + ml σ 11 a)) := stc_9.tr stc_10
        generalize sfi Z 1 (aA M a) 0 = Y at p1 p2
        generalize sml (sma τ 9 a 0) 10 a (ml σ 3 c + ml σ 11 a) = υ at p1 hgp hs2
        have hst := hs.tr hs2
        obtain ⟨r1, r2⟩ := act_al hS hR (dp := dp) p1 hgp.1 hB (by rw [nC_stc hst]; exact c2) a1 (by rw [nA_stc hst]; exact a2) (by rw [hst.2.1 6 (by decide)]; exact ha) hk hdp (by have := hgp.2.2; omega) (fun t t1 t2 t3 => by rw [hst.2.1 12 (by decide)]; exact hE t t1 (by rw [← nT_stc hst]; exact t2) t3)
        exact ⟨r1, (n2.tr (p2.cg eC.symm)).tr (r2.cg (nC_stc hst).symm)⟩
      · rw [if_neg cy]
        have h0 := (hI.1.2.1 a a1 a2).2.2
        have hv : (if (0 : Int64) < ml σ 11 a then (1 : Int32) else 0) = 1 := if_pos (by
          have := i64_pos h0.1 cy
          rw [Int64.lt_iff_toInt_lt]
          have : (0 : Int64).toInt = 0 := rfl
          omega)
        rw [hv] at hgp ⊢
        have hb1 : becomeDue_S Z (aA M a) (ml σ 11 a) = wakeAt_S (sfl Z 0 (aA M a) (ml σ 3 c + ml σ 11 a)) (cA M c) (ml σ 3 c + ml σ 11 a) := by
          unfold becomeDue_S
          rw [j3]
          show wakeAt_S (sfl Z 0 (aA M a) (fl Z 6 (cA M c) + ml σ 11 a)) (cA M c) (fl Z 6 (cA M c) + ml σ 11 a) = _
          rw [z6]
        rw [hb1]
        obtain ⟨p1, p2⟩ := Ps_fire1 (w := ml σ 3 c + ml σ 11 a) n1 c1 (by omega) (by omega) a1 (by omega) (by rw [e6m]; exact ha) (by rw [e9]; exact d2.resolve_left q)
        have hs2 : stc τ (sml (sma τ 9 a 1) 10 a (ml σ 3 c + ml σ 11 a)) := stc_9.tr stc_10
        generalize wakeAt_S (sfl Z 0 (aA M a) (ml σ 3 c + ml σ 11 a)) (cA M c) (ml σ 3 c + ml σ 11 a) = Y at p1 p2
        generalize sml (sma τ 9 a 1) 10 a (ml σ 3 c + ml σ 11 a) = υ at p1 hgp hs2
        have hst := hs.tr hs2
        obtain ⟨r1, r2⟩ := act_al hS hR (dp := dp) p1 hgp.1 hB (by rw [nC_stc hst]; exact c2) a1 (by rw [nA_stc hst]; exact a2) (by rw [hst.2.1 6 (by decide)]; exact ha) hk hdp (by have := hgp.2.2; omega) (fun t t1 t2 t3 => by rw [hst.2.1 12 (by decide)]; exact hE t t1 (by rw [← nT_stc hst]; exact t2) t3)
        exact ⟨r1, (n2.tr (p2.cg eC.symm)).tr (r2.cg (nC_stc hst).symm)⟩
    · rw [if_neg d, if_neg d]
      obtain ⟨p1, p2⟩ := Ps_wake (v := if ml σ 10 a < fl S 7 (cA M c) then ml σ 10 a else fl S 7 (cA M c)) hP c1 c2 mn_le.1
      refine ⟨Ps_a p1 (fun _ _ => ?_), p2⟩
      rw [show fl (wakeAt_S S (cA M c) (ml σ 10 a)) 7 (cA M c) = _ from wakeAt_7]
      exact mn_le.2
theorem As_sim {rk : Nat → Nat} {M : AM} {x : Nat} {Bm B : Int} {k : Nat} {rc : HS → Nat → HS} {rm : MS → Int32 → MS} (hS : SimR rk M x Bm k rc rm) (hR : RecOk rk k Bm rm) {E : Nat → Prop} {c t0 : Nat} {dp : Int32} (hB : B ≤ Bm) (c1 : 1 ≤ c) (hk : rk c ≤ k) (hdp : k ≠ 0 → ¬ (20 : Int32) ≤ dp) : ∀ (n a : Nat) (S : HS) (σ : MS), Ps rk M x E c a t0 S σ → Iv rk B σ → c ≤ nC σ → 1 ≤ a → a + n ≤ nA σ + 1 → pot σ + n < 2 ^ 31 → (∀ t, 1 ≤ t → t ≤ nT σ → E t → rk c ≤ rk ((ma σ 12 t).toNatClampNeg)) →
    Ps rk M x E c (a + n) t0 (aLp x dp rc (aLs M σ c n a) S) (spAs rm (nI c) n a σ) ∧ Ou rk M c σ S (aLp x dp rc (aLs M σ c n a) S)
  | 0, a, S, σ, hP, _, _, _, _, _, _ => ⟨hP, Ou.rf S⟩
  | n + 1, a, S, σ, hP, hI, c2, a1, a2, hb, hE => by
    have hC := hI.1.1.2.1
    have hr := Rl_A1 hR (a := a) (c := nI c) (r := rk c) hI hB a1 (by omega) (by rw [nI_clamp (by omega)]; exact Nat.le_refl _) hk (by omega)
    have hs := hr.2.1.1
    have hp2 := hr.2.2
    unfold spAs
    by_cases e : ma σ 6 a = nI c
    · obtain ⟨p1, p2⟩ := al_sim hS hR (dp := dp) hP hI hB c1 c2 a1 (by omega) e hk hdp (by omega) hE
      have el : aLs M σ c (n + 1) a = aA M a :: aLs M σ c n (a + 1) := if_pos e
      rw [el]
      show Ps rk M x E c (a + (n + 1)) t0 (aLp x dp rc (aLs M σ c n (a + 1)) (takeAlarmTurn_S S x (aA M a) dp rc)) _ ∧ Ou rk M c σ S (aLp x dp rc (aLs M σ c n (a + 1)) (takeAlarmTurn_S S x (aA M a) dp rc))
      generalize spA1 rm (nI c) a σ = τ at p1 hr hs hp2
      generalize takeAlarmTurn_S S x (aA M a) dp rc = Z at p1 p2
      rw [← aLs_cg (M := M) (c := c) (hs.2.1 6 (by decide)) n (a + 1)]
      obtain ⟨r1, r2⟩ := As_sim hS hR hB c1 hk hdp n (a + 1) Z τ p1 hr.1 (by rw [nC_stc hs]; exact c2) (by omega) (by rw [nA_stc hs]; omega) (by omega) (fun t t1 t2 t3 => by rw [hs.2.1 12 (by decide)]; exact hE t t1 (by rw [← nT_stc hs]; exact t2) t3)
      rw [show a + (n + 1) = a + 1 + n by omega]
      exact ⟨r1, p2.tr (r2.cg (nC_stc hs).symm)⟩
    · have el : aLs M σ c (n + 1) a = aLs M σ c n (a + 1) := if_neg e
      have e1 : spA1 rm (nI c) a σ = σ := by
        unfold spA1
        rw [if_neg e]
        split <;> rfl
      rw [el, e1, show a + (n + 1) = a + 1 + n by omega]
      exact As_sim hS hR hB c1 hk hdp n (a + 1) S σ (Ps_a hP (fun z => absurd z e)) hI c2 (by omega) (by omega) (by omega) hE
