-- ALL TABLES OF A COUNTER
def spPc (rm : MS → Int32 → MS) (σ : MS) (a : Int32) : MS := if a ≤ 0 then (if 0 ≤ a then σ else sma σ 9 (-a).toNatClampNeg 0) else spBy rm σ a
theorem act_pt {rk : Nat → Nat} {M : AM} {x : Nat} {Bm B : Int} {k : Nat} {rc : HS → Nat → HS} {rm : MS → Int32 → MS} (hS : SimR rk M x Bm k rc rm) (hR : RecOk rk k Bm rm) {E : Nat → Prop} {S : HS} {σ : MS} {c u p a0 t0 : Nat} {dp : Int32} (hP : Ps rk M x E c a0 t0 S σ) (hI : Iv rk B σ) (hB : B ≤ Bm) (c2 : c ≤ nC σ) (u1 : 1 ≤ u) (u2 : u ≤ nT σ) (hp : p < npT σ u) (hu : ma σ 12 u = nI c) (hk : rk c ≤ k) (hdp : k ≠ 0 → ¬ (20 : Int32) ≤ dp) (hb : pot σ < 2 ^ 31) (hE : ∀ t, 1 ≤ t → t ≤ nT σ → E t → rk c ≤ rk ((ma σ 12 t).toNatClampNeg)) :
    Ps rk M x E c a0 t0 (perform_S S x (gd (fr S 11 (pA M u p))) dp rc) (spPc rm σ (ma σ 16 (20 * u + p))) ∧ Ou rk M c σ S (perform_S S x (gd (fr S 11 (pA M u p))) dp rc) := by
  obtain ⟨k1, k2, k3, k5, q, k6, k7, k8, k9⟩ := hP.1.2.1.2.2.2.2.2 u p u1 u2 hp
  have hC := hI.1.1.2.1
  have hA := hI.1.1.2.2.1
  have ec : (nI c).toNatClampNeg = c := nI_clamp (by omega)
  have hcf := ((Cf_t hI.1 u1 u2).2.2.2.2 p hp).2.2
  rw [hu, ec] at hcf
  rw [k6]
  show Ps rk M x E c a0 t0 (perform_S S x q dp rc) _ ∧ Ou rk M c σ S (perform_S S x q dp rc)
  unfold spPc
  generalize ma σ 16 (20 * u + p) = av at k5 k8 k9 hcf
  by_cases q1 : av ≤ 0
  · rw [if_pos q1]
    rw [if_neg (fun z => Int32.not_le.mpr z q1)] at k8
    by_cases q2 : 0 ≤ av
    · rw [if_pos q2]
      rw [if_neg (fun z => Int32.not_le.mpr z q2)] at k9
      rw [pf_none k9 k8]
      exact ⟨hP, Ou.rf S⟩
    · rw [if_neg q2]
      have q3 : av < 0 := Int32.not_le.mp q2
      rw [if_pos q3] at k9
      rw [pf_cancel k9 k8]
      have i1 := k5 q3
      obtain ⟨e8, b8⟩ := rg_cl (hi := nA σ) (i1.wk (by decide) (Int.le_refl _)) (by omega)
      have h18 : 1 ≤ (-av).toNatClampNeg := by
        have := i1.1
        rw [e8, nI_toInt (by omega)] at this
        omega
      exact Ps_cancel hP h18 b8
  · rw [if_neg q1]
    have q3 : 0 < av := Int32.not_le.mp q1
    rw [if_pos q3] at k8
    rw [if_neg (fun z => q1 (Int32.le_of_lt z))] at k9
    rw [pf_step k9 k8]
    obtain ⟨i1, i2⟩ := hcf q1
    obtain ⟨e8, b8⟩ := rg_cl (hi := nC σ) (i1.wk (by decide) (Int.le_refl _)) (by omega)
    have h18 : 1 ≤ av.toNatClampNeg := by
      have := i1.1
      rw [e8, nI_toInt (by omega)] at this
      omega
    have := by_sim hS hR (dp := dp) hP hI hB c2 h18 b8 i2 hk hdp hb hE
    rw [← e8] at this
    exact this
theorem spTb_eq {rm : MS → Int32 → MS} {σ : MS} {u : Nat} : spTb rm σ (nI u) = spPc rm (MtableGoes_S σ (nI u)) (tAct σ (nI u)) := rfl
def GoC (rk : Nat → Nat) (M : AM) (x : Nat) (E : Nat → Prop) (c a0 t0 : Nat) (σ : MS) (w : Int32) (R' : Option Nat) (S' : HS) (σ' : MS) : Prop := (w = 0 ∧ Ps rk M x E c a0 t0 S' σ' ∧ (R' = none ∨ ∃ b, R' = some b ∧ ¬ fl S' 10 b = fl S' 6 (gd (fr S' 13 b)))) ∨ (∃ n, 1 ≤ n ∧ n ≤ nT σ ∧ w = nI n ∧ ma σ 12 n = nI c ∧ R' = some (tA M n) ∧ Ps rk M x (EU E n) c a0 t0 S' σ')
/-- a table that runs and is not due -/
theorem not_due {rk : Nat → Nat} {M : AM} {x : Nat} {E : Nat → Prop} {c u a0 t0 : Nat} {S : HS} {σ : MS} (h : Ps rk M x E c a0 t0 S σ) (c1 : 1 ≤ c) (c2 : c ≤ nC σ) (c3 : c < 2 ^ 31) (u1 : 1 ≤ u) (u2 : u ≤ nT σ) (hE : ¬ E u) (hu : ma σ 12 u = nI c) (hr : ¬ ma σ 19 u = 0) (hd : ¬ dueT σ (nI c) u) : ¬ fl S 10 (tA M u) = fl S 6 (gd (fr S 13 (tA M u))) := by
  have ec : (nI c).toNatClampNeg = c := nI_clamp c3
  have e13 : gd (fr S 13 (tA M u)) = cA M c := by rw [(h.1.2.1.2.2.2.2.1 u u1 u2).2.2.1, hu, ec]; rfl
  rw [e13, (h.1.2.2.1 c c1 c2).1, ((h.1.2.2.2.2.1 u u1 u2).2.2.2 hr).2.2.2 hE]
  intro z
  exact hd ⟨hr, hu, by rw [ec]; exact z⟩
theorem go_sim {rk : Nat → Nat} {M : AM} {x : Nat} {Bm B : Int} {k : Nat} (hBm : Bm < 2 ^ 60) {rc : HS → Nat → HS} (hS : SimR rk M x Bm k rc (spSt k)) {E : Nat → Prop} {S : HS} {σ : MS} {c u a0 t0 : Nat} {dp : Int32} (hP : Ps rk M x (EU E u) c a0 t0 S σ) (hI : Iv rk B σ) (hB : B ≤ Bm) (c1 : 1 ≤ c) (c2 : c ≤ nC σ) (u1 : 1 ≤ u) (u2 : u ≤ nT σ) (hu : ma σ 12 u = nI c) (hk : rk c ≤ k) (hdp : k ≠ 0 → ¬ (20 : Int32) ≤ dp) (hb : pot σ + 1 < 2 ^ 31) (hE : ∀ t, 1 ≤ t → t ≤ nT σ → E t → rk c < rk ((ma σ 12 t).toNatClampNeg)) :
    GoC rk M x E c a0 t0 σ (MtableGoes_R σ (nI u)) (goThrough_R S x (tA M u) dp rc) (goThrough_S S x (tA M u) dp rc) (spTb (spSt k) σ (nI u)) ∧ Ou rk M c σ S (goThrough_S S x (tA M u) dp rc) := by
  have hR := RecOk_St rk Bm hBm k
  have hC := hI.1.1.2.1
  have hT := hI.1.1.2.2.2
  have ec : (nI c).toNatClampNeg = c := nI_clamp (by omega)
  have eu : (nI u).toNatClampNeg = u := nI_clamp (by omega)
  have hEu : ¬ E u := fun z => by have := hE u u1 u2 z; rw [hu, ec] at this; omega
  have hE' : ∀ v, v = u → ∀ t, 1 ≤ t → t ≤ nT σ → EU E v t → rk c ≤ rk ((ma σ 12 t).toNatClampNeg) := fun v hv t t1 t2 z => by
    rcases z with z | z
    · exact Nat.le_of_lt (hE t t1 t2 z)
    · rw [z, hv, hu, ec]; exact Nat.le_refl _
  obtain ⟨k1, k2, k3, k4, k5, k6⟩ := hP.1.2.1.2.2.2.2.1 u u1 u2
  obtain ⟨d1, d2, d3, d4⟩ := hP.1.2.2.2.2.1 u u1 u2
  have hrun := d3 (Or.inr rfl)
  obtain ⟨j1, j2, j3, j4⟩ := d4 hrun
  obtain ⟨f1, ⟨f2, f2b⟩, f3, f4, f5⟩ := Cf_t hI.1 u1 u2
  obtain ⟨e14, b14⟩ := rg_cl (hi := 20) f3 (by decide)
  have hpl := hI.2.2.2.2.1 u u1 u2
  have hnd : ∀ w, MtableGoes_R σ (nI u) = w → w = 0 → ¬ dueT (spTb (spSt k) σ (nI u)) (nI c) u := fun w hw h0 => tb_dueT hBm hI hB u1 u2 hu (by rw [ec]; exact hk) hb (by omega) (by rw [hw, h0]; intro z; have := congrArg Int32.toNatClampNeg z; rw [eu] at this; have e : (0 : Int32).toNatClampNeg = 0 := rfl; omega) (fun z => absurd rfl z)
  have hst : stc σ (spTb (spSt k) σ (nI u)) := (Rl_tb hR (r := rk c) hI hB u1 u2 (by rw [hu, ec]; exact Nat.le_refl _) hk hb).2.1.1
  have hrn : ma (MtableGoes_S σ (nI u)) 19 u = ma σ 19 u → ¬ ma (spTb (spSt k) σ (nI u)) 19 u = 0 := fun z => by
    rcases tb_act (k := k) hBm hI hB u1 u2 hu (by rw [ec]; exact hk) hb with e | ⟨y, e⟩ | ⟨r, r1, r2⟩
    · rw [e, z]; exact hrun
    · rw [e, ra_a (by decide), z]; exact hrun
    · rw [ec] at r1
      rw [(r2.2.2.2 u (by rw [MtableGoes_ma (by decide) (by decide) (by decide), hu, ec]; exact r1)).1, z]
      exact hrun
  have hRt : Rl rk (rk c) B 1 σ (MtableGoes_S σ (nI u)) := Rl_tableGoes hI hb u1 u2 (by rw [hu, ec]; exact Nat.le_refl _)
  unfold goThrough_R goThrough_S
  rw [j1]
  by_cases q1 : ma σ 21 u = -1
  · -- it begins
    rw [if_pos q1, if_pos rfl, if_pos rfl]
    have eS : MtableGoes_S σ (nI u) = MgoOn_S (sma σ 21 u (nI 0)) (nI u) 0 := by rw [MtableGoes_eq, eu, if_pos q1]; rfl
    have eR : MtableGoes_R σ (nI u) = if goTo (sma σ 21 u (nI 0)) (nI u) - 0 = 0 then nI u else 0 := by rw [MtableGoes_Req, eu, if_pos q1]; rfl
    have eA : tAct σ (nI u) = 0 := by unfold tAct; rw [eu, q1]; rfl
    have eB : spTb (spSt k) σ (nI u) = MtableGoes_S σ (nI u) := by rw [spTb_eq, eA]; rfl
    have hrn := hrn (by rw [eS, MgoOn_ma]; exact ra_a (by decide))
    rw [k6]
    obtain ⟨p1, p2⟩ := Ps_place (p := 0) (S' := sfi S 9 (tA M u) 1) hP u1 u2 (by decide) (sRel_sfi (by decide) hP.1.1).1 (Sc_sfi (by decide)) rfl rfl rfl rfl (fun k a z => by
      rcases z with z | z
      · exact up2_k _ _ _ _ z
      · exact up2_a _ _ _ _ z) (up2_self _ _ _ _)
    have hpl0 : Rl rk (rk c) B 0 σ (sma σ 21 u 0) := Rl_place hI u1 u2 (by rw [hu, ec]; exact Nat.le_refl _) ⟨by decide, by have : (0 : Int32).toInt = 0 := rfl; omega⟩
    have h21 : ma (sma σ 21 u 0) 21 u = nI 0 := ra_s
    have hg := goTo_in hpl0.1.1 u1 u2 h21 (Nat.zero_le _)
    have ep : ptO M (sma σ 21 u (nI 0)) u 0 = ptO M σ u 0 := ptO_cg rfl
    have p1' : Ps rk M x (EU E u) c a0 t0 (sfr (sfi S 9 (tA M u) 1) 15 (tA M u) (ptO M (sma σ 21 u (nI 0)) u 0)) (sma σ 21 u (nI 0)) := by rw [ep]; exact p1
    obtain ⟨g1, g2⟩ := goOn_sim (f := 0) p1' hpl0.1 u1 u2 c1 c2 hEu hu h21 (Nat.zero_le _) ⟨by decide, hg.1⟩
    rw [ep] at g1 g2
    have hOu : Ou rk M c σ S (goOn_S (sfi S 9 (tA M u) 1) (tA M u) 0 (ptO M σ u 0)) := p2.tr g2
    refine ⟨?_, hOu⟩
    rcases g1 with ⟨z1, z2, z3⟩ | ⟨z1, z3⟩
    · right
      refine ⟨u, u1, u2, ?_, hu, rfl, ?_⟩
      · rw [eR, if_pos z1]
      · rw [eB, eS, z2]
        exact z3
    · left
      have w0 : MtableGoes_R σ (nI u) = 0 := by rw [eR, if_neg z1]
      refine ⟨w0, ?_, Or.inr ⟨_, rfl, ?_⟩⟩
      · rw [eB, eS]
        exact z3
      · have hnd := hnd _ w0 rfl
        rw [eB, eS] at hnd hrn hst
        exact not_due z3 c1 (by rw [nC_stc hst]; exact c2) (by omega) u1 (by rw [nT_stc hst]; exact u2) hEu (by rw [hst.2.1 12 (by decide)]; exact hu) hrn hnd
  · rw [if_neg q1, if_neg (by decide), if_neg (by decide)]
    obtain ⟨p, hp, e21⟩ := rg_m1n hpl (by omega) q1
    have j2 := j2 q1
    rw [e21, nI_clamp (by omega)] at j2
    by_cases q2 : p < npT σ u
    · -- a point
      have hlt : p < (ma σ 14 u).toNatClampNeg := q2
      have hn2 : ¬ ma σ 14 u ≤ ma σ 21 u := by rw [e14, e21, nI_leI (by omega) (by omega)]; omega
      have e15 : fr S 15 (tA M u) = some (pA M u p) := j2.trans (if_pos q2)
      rw [op_some e15, op_some e15]
      obtain ⟨r1, r2, r3, -⟩ := hP.1.2.1.2.2.2.2.2 u p u1 u2 q2
      have e13 : gd (fr S 13 (tA M u)) = cA M c := by rw [k3, hu, ec]; rfl
      have hO : tgO σ (nI u) = ml σ 15 (20 * u + p) := by
        show ml σ 15 (((20 : Int32) * (nI u)) + (ma σ 21 (nI u).toNatClampNeg)).toNatClampNeg = _
        rw [eu, e21, ofs_nI (by omega) (by omega)]
      have htP : tgP σ (nI u) = sma (Mnote_S σ 1 (nI u) (ml σ 15 (20 * u + p)) (nI c)) 21 u (nI (p + 1)) := by
        unfold tgP
        rw [hO, eu, hu, e21, nI_1]
      have eS : MtableGoes_S σ (nI u) = MgoOn_S (sma (Mnote_S σ 1 (nI u) (ml σ 15 (20 * u + p)) (nI c)) 21 u (nI (p + 1))) (nI u) (ml σ 15 (20 * u + p)) := by rw [MtableGoes_eq, eu, if_neg q1, if_neg hn2, htP, hO]
      have eR : MtableGoes_R σ (nI u) = if goTo (sma (Mnote_S σ 1 (nI u) (ml σ 15 (20 * u + p)) (nI c)) 21 u (nI (p + 1))) (nI u) - ml σ 15 (20 * u + p) = 0 then nI u else 0 := by rw [MtableGoes_Req, eu, if_neg q1, if_neg hn2, htP, hO]
      have eA : tAct σ (nI u) = ma σ 16 (20 * u + p) := by
        unfold tAct
        rw [eu, e21, e14, if_neg (by rw [show (0 : Int32) = nI 0 from rfl, nI_ltI (by omega) (by decide)]; omega), if_pos ((nI_ltI (by omega) (by omega)).mpr hlt), ofs_nI (by omega) (by omega)]
      rw [k2, r2, e13]
      obtain ⟨n1, n2⟩ := Ps_note (kn := 1) (nb := nI u) (of_ := ml σ 15 (20 * u + p)) hP hI.2.2.1 (by have := ex_le (σ := σ); omega) c1 c2 (by omega)
      have hN : Rl rk (rk c) B 1 σ (Mnote_S σ 1 (nI u) (ml σ 15 (20 * u + p)) (nI c)) := Rl_note hI hb
      have hs : stc σ (Mnote_S σ 1 (nI u) (ml σ 15 (20 * u + p)) (nI c)) := stc_note
      have e21m : ma (Mnote_S σ 1 (nI u) (ml σ 15 (20 * u + p)) (nI c)) 21 = ma σ 21 := Mnote_ma (by decide)
      have e19m : ma (Mnote_S σ 1 (nI u) (ml σ 15 (20 * u + p)) (nI c)) 19 = ma σ 19 := Mnote_ma (by decide)
      generalize Mnote_S σ 1 (nI u) (ml σ 15 (20 * u + p)) (nI c) = τ at eS eR n1 hN hs e21m e19m
      generalize add_S S (gd (fr S 21 x)) 1 (nI u) (ml σ 15 (20 * u + p)) (fl S 5 (cA M c)) = Z at n1 n2 ⊢
      have t12 := hs.2.1 12 (by decide)
      have t14 := hs.2.1 14 (by decide)
      have tT := nT_stc hs
      have tC := nC_stc hs
      have hq2 : p < npT τ u := by unfold npT; rw [t14]; exact hlt
      obtain ⟨m1, m2, m3, -⟩ := n1.1.2.1.2.2.2.2.2 u p u1 (by omega) hq2
      rw [m2, m3, hs.2.2 15 (by decide)]
      have hp1 : (p + 1) ≤ (ma τ 14 u).toNatClampNeg := by rw [t14]; exact hlt
      have hrgp : rg (-1) ((ma τ 14 u).toNatClampNeg) (nI (p + 1)) := ⟨by rw [nI_toInt (by omega)]; omega, by rw [nI_toInt (by omega)]; omega⟩
      have hpl0 : Rl rk (rk c) B 0 τ (sma τ 21 u (nI (p + 1))) := Rl_place hN.1 u1 (by omega) (by rw [t12, hu, ec]; exact Nat.le_refl _) hrgp
      have z9 : fi Z 9 (tA M u) = 1 := by
        have := ((n1.1.2.2.2.2.1 u u1 (by omega)).2.2.2 (by rw [e19m]; exact hrun)).1
        rw [e21m, if_neg q1] at this
        exact this
      obtain ⟨p1, p2⟩ := Ps_place (p := p + 1) (S' := Z) n1 u1 (by omega) (by omega) n1.1.1 (Sc.rf Z) rfl rfl rfl rfl (fun _ _ _ => rfl) z9
      have h21 : ma (sma τ 21 u (nI (p + 1))) 21 u = nI (p + 1) := ra_s
      have hg := goTo_in hpl0.1.1 u1 (by show u ≤ nT τ; omega) h21 hp1
      have ep : ptO M (sma τ 21 u (nI (p + 1))) u (p + 1) = ptO M τ u (p + 1) := ptO_cg rfl
      have hf := f5 p hlt
      have hfle : (ml σ 15 (20 * u + p)).toInt ≤ (goTo (sma τ 21 u (nI (p + 1))) (nI u)).toInt := by
        have z14 : ma (sma τ 21 u (nI (p + 1))) 14 = ma σ 14 := t14
        have zl13 : ml (sma τ 21 u (nI (p + 1))) 13 = ml σ 13 := hs.2.2 13 (by decide)
        have zl15 : ml (sma τ 21 u (nI (p + 1))) 15 = ml σ 15 := hs.2.2 15 (by decide)
        rw [z14, zl13, zl15] at hg
        rcases Nat.lt_or_ge (p + 1) ((ma σ 14 u).toNatClampNeg) with z | z
        · rw [hg.2.2.2 z]
          have := (f5 (p + 1) z).2.1 p (by omega)
          omega
        · rw [hg.2.2.1 (by omega)]
          exact hf.1.2
      have p1' : Ps rk M x (EU E u) c a0 t0 (sfr Z 15 (tA M u) (ptO M (sma τ 21 u (nI (p + 1))) u (p + 1))) (sma τ 21 u (nI (p + 1))) := by rw [ep]; exact p1
      obtain ⟨g1, g2⟩ := goOn_sim (f := ml σ 15 (20 * u + p)) p1' hpl0.1 u1 (by show u ≤ nT τ; omega) c1 (by show c ≤ nC τ; omega) hEu (by show ma τ 12 u = nI c; rw [t12]; exact hu) h21 hp1 ⟨hf.1.1, hfle⟩
      rw [ep] at g1 g2
      have hO3 : Ou rk M c σ S (goOn_S Z (tA M u) (ml σ 15 (20 * u + p)) (ptO M τ u (p + 1))) := (n2.tr (p2.cg tC.symm)).tr (g2.cg tC.symm)
      have hst2 : stc σ (MtableGoes_S σ (nI u)) := stc_tableGoes
      rw [spTb_eq, eA]
      have hrn := hrn (by rw [eS, MgoOn_ma]; exact (ra_a (by decide)).trans (by rw [e19m]))
      rw [spTb_eq, eA] at hrn hnd hst
      generalize goOn_S Z (tA M u) (ml σ 15 (20 * u + p)) (ptO M τ u (p + 1)) = Y at g1 hO3
      have e16 : ma (MtableGoes_S σ (nI u)) 16 (20 * u + p) = ma σ 16 (20 * u + p) := by rw [hst2.2.1 16 (by decide)]
      have key : ∀ E2 : Nat → Prop, (∀ t, 1 ≤ t → t ≤ nT σ → E2 t → rk c ≤ rk ((ma σ 12 t).toNatClampNeg)) → Ps rk M x E2 c a0 t0 Y (MtableGoes_S σ (nI u)) → Ps rk M x E2 c a0 t0 (perform_S Y x (gd (fr Y 11 (pA M u p))) dp rc) (spPc (spSt k) (MtableGoes_S σ (nI u)) (ma σ 16 (20 * u + p))) ∧ Ou rk M c (MtableGoes_S σ (nI u)) Y (perform_S Y x (gd (fr Y 11 (pA M u p))) dp rc) := fun E2 hE2 hP2 => by
        have := act_pt hS hR (dp := dp) (u := u) (p := p) hP2 hRt.1 hB (by rw [nC_stc hst2]; exact c2) u1 (by rw [nT_stc hst2]; exact u2) (by unfold npT; rw [hst2.2.1 14 (by decide)]; exact hlt) (by rw [hst2.2.1 12 (by decide)]; exact hu) hk hdp (by have := hRt.2.2; omega) (fun t t1 t2 t3 => by rw [hst2.2.1 12 (by decide)]; exact hE2 t t1 (by rw [← nT_stc hst2]; exact t2) t3)
        rw [e16] at this
        exact this
      rcases g1 with ⟨z1, z2, z3⟩ | ⟨z1, z3⟩
      · have eM : MtableGoes_S σ (nI u) = sma τ 21 u (nI (p + 1)) := by rw [eS, z2]
        rw [← eM] at z3
        obtain ⟨y1, y2⟩ := key (EU E u) (hE' u rfl) z3
        refine ⟨Or.inr ⟨u, u1, u2, ?_, hu, rfl, y1⟩, hO3.tr (y2.cg (nC_stc hst2).symm)⟩
        rw [eR, if_pos z1]
      · rw [← eS] at z3
        obtain ⟨y1, y2⟩ := key E (fun t t1 t2 t3 => Nat.le_of_lt (hE t t1 t2 t3)) z3
        have w0 : MtableGoes_R σ (nI u) = 0 := by rw [eR, if_neg z1]
        refine ⟨Or.inl ⟨w0, y1, Or.inr ⟨_, rfl, ?_⟩⟩, hO3.tr (y2.cg (nC_stc hst2).symm)⟩
        exact not_due y1 c1 (by rw [nC_stc hst]; exact c2) (by omega) u1 (by rw [nT_stc hst]; exact u2) hEu (by rw [hst.2.1 12 (by decide)]; exact hu) hrn (hnd _ w0 rfl)
    · -- the end
      have hge : ma σ 14 u ≤ ma σ 21 u := by
        have h2 : ¬ p < (ma σ 14 u).toNatClampNeg := q2
        rw [e14, e21, nI_leI (by omega) (by omega)]
        omega
      have e15 : fr S 15 (tA M u) = none := j2.trans (if_neg q2)
      rw [op_none e15, op_none e15]
      have eS : MtableGoes_S σ (nI u) = tgE σ (nI u) := by rw [MtableGoes_eq, eu, if_neg q1, if_pos hge]
      have eR : MtableGoes_R σ (nI u) = tgR σ (nI u) := by rw [MtableGoes_Req, eu, if_neg q1, if_pos hge]
      have eA : tAct σ (nI u) = 0 := by
        have h2 : ¬ p < (ma σ 14 u).toNatClampNeg := q2
        unfold tAct
        rw [eu, e21, e14, if_neg (by rw [show (0 : Int32) = nI 0 from rfl, nI_ltI (by omega) (by decide)]; omega), if_neg (by rw [nI_ltI (by omega) (by omega)]; exact h2)]
      have eB : spTb (spSt k) σ (nI u) = tgE σ (nI u) := by rw [spTb_eq, eA, eS]; rfl
      rw [eB, eR]
      obtain ⟨g1, g2⟩ := gv_sim hP hI u1 u2 c1 c2 hEu hu hb
      refine ⟨?_, g2⟩
      rcases g1 with ⟨z1, z2, z3⟩ | ⟨n, z1, z2, z3, z4, z5, z6⟩
      · exact Or.inl ⟨z1, z3, Or.inl z2⟩
      · exact Or.inr ⟨n, z1, z2, z3, z4, z5, z6⟩
