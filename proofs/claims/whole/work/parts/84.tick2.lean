-- TICK
def eqw (σ σ' : MS) : Prop := (∀ k, k ≠ 14 → k ≠ 20 → mi σ' k = mi σ k) ∧ ml σ' = ml σ ∧ ∀ j, j ≠ 5 → j ≠ 26 → j ≠ 27 → ma σ' j = ma σ j
theorem eqw.stc {σ σ' : MS} (e : eqw σ σ') : stc σ σ' := ⟨⟨e.1 15 (by decide) (by decide), e.1 16 (by decide) (by decide), e.1 17 (by decide) (by decide)⟩, fun j hj => e.2.2 j (by omega) (by omega) (by omega), fun j _ => by rw [e.2.1]⟩
theorem eqw.sy {σ σ' : MS} (e : eqw σ σ') : eqw σ' σ := ⟨fun k h1 h2 => (e.1 k h1 h2).symm, e.2.1.symm, fun j h1 h2 h3 => (e.2.2 j h1 h2 h3).symm⟩
theorem eqw_k (σ : MS) : eqw σ (msk σ) := ⟨fun k _ h => msk_mi h, rfl, fun j _ h1 h2 => msk_ma h1 h2⟩
theorem RC_w {M : AM} {x : Nat} {S : HS} {σ σ' : MS} (h : RC M x S σ) (e : eqw σ σ') : RC M x S σ' := by
  obtain ⟨⟨hI, hR, hc, ha, ht, hn, hk⟩, hw⟩ := h
  have hs := e.stc
  have eC := nC_stc hs
  have eA := nA_stc hs
  have eT := nT_stc hs
  have m9 := e.2.2 9 (by decide) (by decide) (by decide)
  have m19 := e.2.2 19 (by decide) (by decide) (by decide)
  have m21 := e.2.2 21 (by decide) (by decide) (by decide)
  have m12 := e.2.2 12 (by decide) (by decide) (by decide)
  have m14 := e.2.2 14 (by decide) (by decide) (by decide)
  refine ⟨⟨hI, RS_stc hs hR, fun c c1 c2 => ?_, fun a a1 a2 => ?_, fun t t1 t2 => ?_, Dn_M hn (e.1 18 (by decide) (by decide)) (fun j _ _ => e.2.2 j (by omega) (by omega) (by omega)), hk.trans (e.1 19 (by decide) (by decide)).symm⟩, fun y y1 y2 => ?_⟩
  · rw [e.2.1]; exact hc c c1 (by omega)
  · rw [e.2.1, m9]; exact ha a a1 (by omega)
  · unfold DtR
    rw [e.2.1, m19, m21, m12, ptO_cg m14]
    exact ht t t1 (by omega)
  · rw [eA, eT]
    exact WkP_fr (hw y y1 (by omega)) hs rfl (fun a _ _ _ => ⟨by rw [e.2.1], fun q => by rw [m9]; exact q⟩) (fun t _ _ _ => ⟨by rw [m19], by rw [e.2.1]⟩)
theorem Iv_w {rk : Nat → Nat} {B : Int} {σ σ' : MS} (h : Iv rk B σ) (e : eqw σ σ') : Iv rk B σ' ∧ pot σ' = pot σ :=
  Iv_keep h e.stc (e.1 19 (by decide) (by decide)) (e.1 18 (by decide) (by decide)) (by rw [e.2.1]) (fun t _ _ => by rw [e.2.2 21 (by decide) (by decide) (by decide)]) (fun t _ _ => by rw [e.2.1])
theorem Fm_w {rk : Nat → Nat} {r : Nat} {σ σ' : MS} (e : eqw σ σ') : Fm rk r σ σ' := ⟨e.stc, fun y _ => by rw [e.2.1], fun a _ => ⟨by rw [e.2.1], fun q => by rw [e.2.2 9 (by decide) (by decide) (by decide)]; exact q⟩, fun t _ => ⟨by rw [e.2.2 19 (by decide) (by decide) (by decide)], by rw [e.2.2 21 (by decide) (by decide) (by decide)], by rw [e.2.1], by rw [e.2.1]⟩⟩
/-- one step of the call -/
theorem st_sim {rk : Nat → Nat} {M : AM} {x : Nat} {Bm B : Int} (hBm : Bm < 2 ^ 60) {S : HS} {σ : MS} {c : Nat} (h : RC M x S σ) (hO : mOk σ) (hA : mAc σ) (hI : Iv rk B σ) (hB : B + 1 ≤ Bm) (c1 : 1 ≤ c) (c2 : c ≤ nC σ) (hr : rk c < 20) (hb : pot σ + wN σ < 2 ^ 31) :
    ∃ σ', (∃ n, runs n (MmakeStep_S (smi σ 20 0) (nI c))) ∧ goEnd (MmakeStep_S (smi σ 20 0) (nI c)) = σ' ∧ RC M x (stF x 20 S (cA M c)) σ' ∧ Sc S (stF x 20 S (cA M c)) ∧ mOk σ' ∧ mAc σ' ∧ Rl rk (rk c) (B + 1) (wN σ) σ σ' := by
  have hC := hI.1.1.2.1
  have ec : (nI c).toNatClampNeg = c := nI_clamp (by omega)
  have e0 : msk (smi σ 20 0) = msk σ := msk_20
  have ew := eqw_k σ
  obtain ⟨hI2, hp2⟩ := Iv_w hI ew
  have eC2 := nC_stc ew.stc
  have ewN := wN_stc ew.stc
  have hin : inC (msk σ) (nI c) := by show rg 1 (nC (msk σ)) (nI c); rw [eC2]; exact rg_nI c1 c2 (by omega)
  obtain ⟨σ', g1, g2, g3, -, g5, g6⟩ := L2 rk Bm hBm 20 B (smi σ 20 0) (nI c) 0 hO hA (by rw [e0]; exact hI2) hB (by rw [e0]; exact hin) (by rw [ec]; exact hr) (by rw [ec]; omega) ri_s (by rw [e0, hp2, ewN]; exact hb)
  rw [e0] at g2
  obtain ⟨n, n1, n2⟩ := g1.runs (by rw [g3]; decide)
  have hRC := RC_w h ew
  have hPs : Ps rk M x nE c (nA (msk σ) + 1) (nT (msk σ) + 1) S (msk σ) := ⟨hRC.1, fun y y1 y2 _ _ => hRC.2 y y1 y2, hRC.2 c c1 (by omega)⟩
  obtain ⟨s1, s2⟩ := SimR_St rk M x Bm hBm 20 (Nat.le_refl _) B nE S (msk σ) c hI2 hB c1 (by omega) hr (by rw [hp2, ewN]; exact hb) (fun _ _ _ z => z.elim) hPs
  have hRl := RecOk_St rk Bm hBm 20 B (msk σ) (nI c) hI2 hB hin (by rw [ec]; exact hr) (by rw [hp2, ewN]; exact hb)
  rw [ec, ← g2] at hRl
  rw [← g2] at s1
  have hst := hRl.2.1.1
  have ew2 := (eqw_k σ').sy
  have hRC2 : RC M x (stF x 20 S (cA M c)) (msk σ') := by
    refine ⟨s1.1, fun y y1 y2 => ?_⟩
    have eA' := nA_stc hst
    have eT' := nT_stc hst
    have eC' := nC_stc hst
    by_cases e : y = c
    · subst e
      have := s1.2.2
      rw [eA', eT']
      exact this
    · by_cases e2 : rk y ≤ rk c
      · exact s1.2.1 y y1 y2 e e2
      · have := WkP_Fm (hRC.2 y y1 (by omega)) (by omega) hRl.2.1 (by omega) (s2.2 y y1 (by omega) (by omega))
        rw [eA', eT']
        exact this
  obtain ⟨hI3, hp3⟩ := Iv_w hRl.1 ew2
  refine ⟨σ', ⟨n, n1⟩, by rw [goEnd_of n1, n2], RC_w hRC2 ew2, s2.1, g5, g6, hI3, ((Fm_w ew).tr hRl.2.1).tr (Fm_w ew2), ?_⟩
  have := hRl.2.2
  rw [hp3]
  omega
theorem tk_sim {rk : Nat → Nat} {M : AM} {x : Nat} {Bm : Int} (hBm : Bm < 2 ^ 60) {c : Nat} (c1 : 1 ≤ c) (hr : rk c < 20) {tk : Int64} : ∀ (k : Nat) (B : Int) (S : HS) (σ : MS), RC M x S σ → mOk σ → mAc σ → Iv rk B σ → B + (k : Int) ≤ Bm → c ≤ nC σ → ml σ 1 c = tk → pot σ + k * wN σ + wN σ < 2 ^ 31 →
    tkOk (nI c) tk k σ ∧ RC M x (tkL x (cA M c) k S) (tkM (nI c) k σ) ∧ Sc S (tkL x (cA M c) k S) ∧ mOk (tkM (nI c) k σ) ∧ mAc (tkM (nI c) k σ) ∧ Rl rk (rk c) (B + (k : Int)) (k * wN σ) σ (tkM (nI c) k σ)
  | 0, B, S, σ, h, hO, hA, hI, hB, c2, ht, hb => by
    have hC := hI.1.1.2.1
    refine ⟨?_, h, Sc.rf S, hO, hA, ?_⟩
    · show ml σ 1 (nI c).toNatClampNeg = tk
      rw [nI_clamp (by omega)]
      exact ht
    · have : B + ((0 : Nat) : Int) = B := by omega
      rw [this]
      exact Rl.rf hI
  | k + 1, B, S, σ, h, hO, hA, hI, hB, c2, ht, hb => by
    have hC := hI.1.1.2.1
    have hkw : (k + 1) * wN σ = k * wN σ + wN σ := by rw [Nat.add_mul, Nat.one_mul]
    obtain ⟨σ', q1, q2, q3, q4, q5, q6, q7⟩ := st_sim hBm h hO hA hI (by omega) c1 c2 hr (by omega)
    have hst := q7.2.1.1
    have ewN := wN_stc hst
    have hp := q7.2.2
    obtain ⟨r1, r2, r3, r4, r5, r6⟩ := tk_sim (tk := tk) hBm c1 hr k (B + 1) (stF x 20 S (cA M c)) σ' q3 q5 q6 q7.1 (by omega) (by rw [nC_stc hst]; exact c2) (by rw [hst.2.2 1 (by decide)]; exact ht) (by rw [ewN]; omega)
    have e1 : tkM (nI c) (k + 1) σ = tkM (nI c) k σ' := by
      show tkM (nI c) k (goEnd (MmakeStep_S (smi σ 20 0) (nI c))) = _
      rw [q2]
    have e2 : tkL x (cA M c) (k + 1) S = tkL x (cA M c) k (stF x 20 S (cA M c)) := rfl
    rw [e1, e2]
    refine ⟨⟨?_, q1, by rw [q2]; exact r1⟩, r2, q4.tr r3, r4, r5, ?_⟩
    · rw [nI_clamp (by omega)]
      exact ht
    · rw [ewN] at r6
      have := q7.tr r6
      have e3 : B + 1 + (k : Int) = B + ((k + 1 : Nat) : Int) := by omega
      rw [e3] at this
      exact this.wk (Nat.le_refl _) (by omega)
theorem RS_rest {M : AM} {S : HS} {σ : MS} {c : Nat} {v : Int64} (h : RS M S σ) (c1 : 1 ≤ c) (c2 : c ≤ nC σ) : RS M (sfl S 4 (cA M c) v) (sml σ 2 c v) := by
  obtain ⟨rb, ri, rc, ra, rt, rp⟩ := h
  refine ⟨rb, ri, fun d d1 d2 => ?_, ra, rt, rp⟩
  obtain ⟨k1, k2, k3, k3b, k4, k5⟩ := rc d d1 d2
  refine ⟨k1, k2, k3, ?_, ?_, ?_⟩
  · show up2 (fl S) 4 (cA M c) v 4 (cA M d) = up2 (ml σ) 2 c v 2 d
    by_cases e : d = c
    · subst e; rw [up2_self, up2_self]
    · rw [up2_a _ _ _ _ (fun q => e (ri.1 d c d1 d2 c1 c2 q)), up2_a _ _ _ _ e]; exact k3b
  · rw [aLs_cg (σ := σ) (σ' := sml σ 2 c v) rfl]; exact k4
  · rw [tLs_cg (σ := σ) (σ' := sml σ 2 c v) rfl]; exact k5
/-- how many may expire -/
theorem ex_bound {a t k : Nat} (ha : a ≤ 100) (ht : t ≤ 20) (h : k + a + t ≤ 512) : 25000 * (a + 4 * t) * k + (a + 4 * t) < 2 ^ 31 := by
  rcases Nat.lt_or_ge (a + t) 35 with q | q
  · have h1 : a + 4 * t ≤ 94 := by omega
    have h2 : (a + 4 * t) * k ≤ 94 * 512 := Nat.mul_le_mul h1 (by omega)
    rw [Nat.mul_assoc]
    omega
  · have h1 : a + 4 * t ≤ 180 := by omega
    have h2 : (a + 4 * t) * k ≤ 180 * 477 := Nat.mul_le_mul h1 (by omega)
    rw [Nat.mul_assoc]
    omega
theorem ex_lt {M : AM} {x : Nat} {T : Nat → Nat → Bool} {n kt h0 t0 : Nat} {S : HS} {σ : MS} (h : RO M x T n kt h0 t0 S σ) (hn : n ≤ 512) : exN σ < 2 ^ 31 := by
  obtain ⟨-, -, -, -, ⟨-, hw, -, gx, gk⟩, -⟩ := h
  have := ex_bound (a := nA σ) (t := nT σ) (k := kt) hw.1.1.2.2.1 hw.1.1.2.2.2 (by omega)
  have e : wN σ = nA σ + 4 * nT σ := rfl
  rw [e] at gx
  omega
/-- a call of tick, up to its end -/
theorem tk_core {M : AM} {x : Nat} {T : Nat → Nat → Bool} {n kt h0 t0 : Nat} {S : HS} {σ : MS} (h : RO M x T n kt h0 t0 S σ) (hn : n + 1 ≤ 512) {c : Nat} (c1 : 1 ≤ c) (c2 : c ≤ nC σ) {y : Int64} (y0 : ¬ y < (0 : Int64)) (y1 : ¬ (100000 : Int64) < y) (yd : ¬ (5000 : Int64) < MtD σ (nI c) y) :
    tkOk (nI c) (ml σ 1 c) (MtD σ (nI c) y).toNatClampNeg (Mt1 σ (nI c) y) ∧ RO M x T (n + 1) (kt + 1) h0 t0 (tkL x (cA M c) (MtD σ (nI c) y).toNatClampNeg (sfi (sfl S 4 (cA M c) (MtA σ (nI c) y - MtD σ (nI c) y * ml σ 1 c)) 13 x 0)) (tkM (nI c) (MtD σ (nI c) y).toNatClampNeg (Mt1 σ (nI c) y)) := by
  obtain ⟨r1, r2, r3, r4, r5, r6⟩ := h
  obtain ⟨⟨g1, g2, g3, g4⟩, ⟨w1, w2, w3, w4, w5, w6⟩, gr, gx, gk⟩ := r5
  have hC := w1.1.2.1
  have ec : (nI c).toNatClampNeg = c := nI_clamp (by omega)
  have hD : (MtD σ (nI c) y).toNatClampNeg ≤ 5000 := by
    rw [Int64.lt_iff_toInt_lt] at yd
    have e5 : (5000 : Int64).toInt = 5000 := rfl
    show (MtD σ (nI c) y).toInt.toNat ≤ 5000
    omega
  generalize hk : (MtD σ (nI c) y).toNatClampNeg = k at hD
  have hrest : 0 ≤ (mdl (MtA σ (nI c) y) (ml σ 1 c)).toInt ∧ (mdl (MtA σ (nI c) y) (ml σ 1 c)).toInt ≤ 1000 := by
    have hr := gr c c1 c2
    have ht := (r1.1.2.1.1 c c1 c2).2
    rw [Int64.lt_iff_toInt_lt] at y0 y1
    have z0 : (0 : Int64).toInt = 0 := rfl
    have z1 : (100000 : Int64).toInt = 100000 := rfl
    have e1 : (MtA σ (nI c) y).toInt = (ml σ 2 c).toInt + y.toInt := by
      show (ml σ 2 (nI c).toNatClampNeg + y).toInt = _
      rw [ec, i64_add (by omega) (by omega)]
    rw [mdl_int (by omega) (by omega) ht.1 (by omega)]
    have hm0 := Int.emod_nonneg (MtA σ (nI c) y).toInt (show (ml σ 1 c).toInt ≠ 0 by omega)
    have hm1 := Int.emod_lt_of_pos (MtA σ (nI c) y).toInt (show 0 < (ml σ 1 c).toInt by omega)
    omega
  have eM : Mt1 σ (nI c) y = sml (smi (smi σ 14 0) 19 0) 2 c (mdl (MtA σ (nI c) y) (ml σ 1 c)) := by
    unfold Mt1
    rw [Mno_Se, ec]
    rfl
  have eR : MtA σ (nI c) y - MtD σ (nI c) y * ml σ 1 c = mdl (MtA σ (nI c) y) (ml σ 1 c) := by
    show MtA σ (nI c) y - MtA σ (nI c) y / ml σ 1 (nI c).toNatClampNeg * ml σ 1 c = _
    rw [ec]
    rfl
  rw [eM, eR]
  generalize mdl (MtA σ (nI c) y) (ml σ 1 c) = rr at hrest
  -- the stores as the steps begin
  have s1 := sRel_sfl (k := 4) (a := cA M c) (v := rr) r1.1.1
  have s2 := s1.tr (sRel_sfi (k := 13) (a := x) (v := 0) (by decide) s1.1)
  have i14 := RC_m r1 (eqm_14 (v := 0))
  have hRC : RC M x (sfi (sfl S 4 (cA M c) rr) 13 x 0) (sml (smi (smi σ 14 0) 19 0) 2 c rr) := by
    obtain ⟨⟨hI, hR, hc, ha, ht, hn, hk⟩, hw⟩ := i14
    have hR2 : RS M (sfi (sfl S 4 (cA M c) rr) 13 x 0) (sml (smi (smi σ 14 0) 19 0) 2 c rr) := RS_Sc (RS_rest (RS_stc (stc_smi (by decide) (by decide) (by decide)) hR) c1 c2) (Sc_sfi (by decide))
    refine ⟨⟨s2.1, hR2, hc, ha, ht, hn, ?_⟩, fun y y1 y2 => hw y y1 y2⟩
    show up2 (fi S) 13 x 0 13 x = _
    rw [up2_self]
    exact (ri_l.trans ri_s).symm
  have hA2 : RA M x (sfi (sfl S 4 (cA M c) rr) 13 x 0) (sml (smi (smi σ 14 0) 19 0) 2 c rr) := by
    obtain ⟨q1, q2, q3⟩ := r2
    refine ⟨q1, ?_, q3⟩
    exact q2
  have hZ2 : RZ M (sfi (sfl S 4 (cA M c) rr) 13 x 0) (sml (smi (smi σ 14 0) 19 0) 2 c rr) := by
    obtain ⟨q1, q2, q3⟩ := r3
    refine ⟨fun d d1 d2 => ?_, q2, q3⟩
    rw [aLs_cg (σ := σ) (σ' := sml (smi (smi σ 14 0) 19 0) 2 c rr) rfl, tLs_cg (σ := σ) (σ' := sml (smi (smi σ 14 0) 19 0) 2 c rr) rfl]
    exact q1 d d1 d2
  have hL2 : RL M (sfi (sfl S 4 (cA M c) rr) 13 x 0) (sml (smi (smi σ 14 0) 19 0) 2 c rr) T := r4
  have hH2 := RH_sr r6 s2
  have hI2 : Iv (rkT (nC σ) T) (25000 * (n : Int) + 20000) (sml (smi (smi σ 14 0) 19 0) 2 c rr) := by
    have e0 : acN (sml (smi (smi σ 14 0) 19 0) 2 c rr) = 0 := rfl
    refine ⟨w1, ⟨rfl, by rw [e0]; omega⟩, w3, fun d => ?_, w5, w6⟩
    have := w4 d
    rw [e0]
    show 0 ≤ (ml σ 3 d).toInt ∧ (ml σ 3 d).toInt + (20000 - ((0 : Nat) : Int)) ≤ _
    omega
  have hO2 : mOk (sml (smi (smi σ 14 0) 19 0) 2 c rr) := g1
  have hAc2 : mAc (sml (smi (smi σ 14 0) 19 0) 2 c rr) := g2
  have hg2 : ∀ d, 1 ≤ d → d ≤ nC σ → 0 ≤ (ml (sml (smi (smi σ 14 0) 19 0) 2 c rr) 2 d).toInt ∧ (ml (sml (smi (smi σ 14 0) 19 0) 2 c rr) 2 d).toInt ≤ 1000 := fun d d1 d2 => by
    show 0 ≤ (up2 (ml σ) 2 c rr 2 d).toInt ∧ (up2 (ml σ) 2 c rr 2 d).toInt ≤ 1000
    by_cases e : d = c
    · subst e; rw [up2_self]; exact hrest
    · rw [up2_a _ _ _ _ e]; exact gr d d1 d2
  have hz2 : Zr (sml (smi (smi σ 14 0) 19 0) 2 c rr) := by
    refine ⟨fun d hd => ?_, g3.2.1, g3.2.2⟩
    have hd : nC σ < d := hd
    refine ⟨?_, (g3.1 d hd).2⟩
    show up2 (ml σ) 2 c rr 2 d = 0
    rw [up2_a _ _ _ _ (by omega)]
    exact (g3.1 d hd).1
  have hp0 : pot (sml (smi (smi σ 14 0) 19 0) 2 c rr) = exN σ + wN σ * 20000 := rfl
  have ew0 : wN (sml (smi (smi σ 14 0) 19 0) 2 c rr) = wN σ := rfl
  have eC0 : nC (sml (smi (smi σ 14 0) 19 0) 2 c rr) = nC σ := rfl
  have eA0 : nA (sml (smi (smi σ 14 0) 19 0) 2 c rr) = nA σ := rfl
  have eT0 : nT (sml (smi (smi σ 14 0) 19 0) 2 c rr) = nT σ := rfl
  have m40 : ma (sml (smi (smi σ 14 0) 19 0) 2 c rr) 4 = ma σ 4 := rfl
  have l10 : ml (sml (smi (smi σ 14 0) 19 0) 2 c rr) 1 c = ml σ 1 c := rl_l (by decide)
  generalize sml (smi (smi σ 14 0) 19 0) 2 c rr = τ at *
  generalize sfi (sfl S 4 (cA M c) rr) 13 x 0 = Z at *
  have hT' : Tr (nC σ) σ T := g4
  have hrk := rkT_20 hT' hC c1 c2
  have hwn : wN σ = nA σ + 4 * nT σ := rfl
  have hbd := ex_bound (a := nA σ) (t := nT σ) (k := kt + 1) w1.1.2.2.1 w1.1.2.2.2 (by omega)
  have hbd2 : 25000 * wN σ * (kt + 1) = 25000 * wN σ * kt + 25000 * wN σ := by rw [Nat.mul_add, Nat.mul_one]
  rw [← hwn] at hbd
  have hkw : k * wN σ ≤ 5000 * wN σ := Nat.mul_le_mul hD (Nat.le_refl _)
  obtain ⟨q1, q2, q3, q4, q5, q6⟩ := tk_sim (Bm := 25000 * (n : Int) + 20000 + 5000) (by omega) c1 hrk k (25000 * (n : Int) + 20000) Z τ hRC hO2 hAc2 hI2 (by omega) (by omega) l10 (by rw [hp0, ew0]; omega)
  refine ⟨q1, ?_⟩
  rw [ew0] at q6
  generalize tkM (nI c) k τ = τ' at q2 q4 q5 q6
  have hkd3 : kd Z (cA M c) = 3 := (hRC.1.2.1.2.2.1 c c1 (by omega)).1
  have sr := sRel_tkL (c := cA M c) k Z hRC.1.1 hkd3
  generalize tkL x (cA M c) k Z = Z' at q2 q3 sr
  obtain ⟨⟨v1, v2, v3, v4, v5, v6⟩, hF, hP⟩ := q6
  have hst := hF.1
  have rout : ∀ d, ¬ (1 ≤ d ∧ d ≤ nC σ) → rkT (nC σ) T c < rkT (nC σ) T d := fun d hd => by rw [rkT_out hd]; omega
  have z0 : (0 : Int32).toNatClampNeg = 0 := rfl
  refine ⟨q2, RA_Sc (RA_stc hA2 hst) hRC.1.1 q3 sr.2.2.2.2, RZ_Sc (RZ_stc hZ2 hst) (RS_stc hst hRC.1.2.1) q3, RL_Sc (RL_stc hL2 hst) (RS_stc hst hRC.1.2.1) q3, ⟨⟨q4, q5, ?_, ?_⟩, ⟨?_, v2, v3, fun d => ?_, v5, v6⟩, fun d d1 d2 => ?_, ?_, ?_⟩, RH_n (RH_sr hH2 sr)⟩
  · refine Zr_of hz2 hst (fun d hd => ?_) (fun a ha => ?_) (fun t ht => ?_)
    · rw [hF.2.1 d (rout d (by omega))]
      exact (hz2.1 d hd).2
    · exact (hF.2.2.1 a (rout _ (by rw [(hz2.2.1 a ha).1, z0]; omega))).2 (hz2.2.1 a ha).2.1
    · obtain ⟨z1, z2, z3, z4, z5, z6⟩ := hz2.2.2 t ht
      obtain ⟨y1, y2, y3, y4⟩ := hF.2.2.2 t (rout _ (by rw [z1, z0]; omega))
      exact ⟨y1.trans z4, y2.trans z5, y4.trans z6⟩
  · rw [nC_stc hst, eC0]
    exact Tr_4 g4 ((hst.2.1 4 (by decide)).trans m40)
  · rw [nC_stc hst, eC0]
    exact v1
  · have := v4 d
    have := v2.2
    omega
  · rw [nC_stc hst, eC0] at d2
    rw [hst.2.2 2 (by decide)]
    exact hg2 d d1 d2
  · have hx := ex_le (σ := τ')
    rw [wN_stc hst, ew0]
    rw [hp0] at hP
    omega
  · rw [nA_stc hst, nT_stc hst, eA0, eT0]
    omega
theorem o_tick {M : AM} {x : Nat} {T : Nat → Nat → Bool} {n kt h0 t0 : Nat} {S : HS} {σ : MS} (h : RO M x T n kt h0 t0 S σ) (hn : n + 1 ≤ 512) (c0 : Int32) (y : Int64) : tick_R S x c0 y = Mtick_R σ c0 y ∧ (∃ kt', RO M x T (n + 1) kt' h0 t0 (tick_S S x c0 y) (Mtick_S σ c0 y)) ∧ (Mno_R σ c0 = 0 → ¬ ml σ 1 c0.toNatClampNeg = 0) ∧ (Mno_R σ c0 = 0 → ¬ y < (0 : Int64) → ¬ (100000 : Int64) < y → ¬ (5000 : Int64) < MtD σ c0 y → ¬ ml σ 1 c0.toNatClampNeg = 0 ∧ tkOk c0 (ml σ 1 c0.toNatClampNeg) (MtD σ c0 y).toNatClampNeg (Mt1 σ c0 y)) := by
  have hO := h.2.2.2.2.1.1.1
  have h14 : RO M x T n kt h0 t0 S (Mno_S σ c0) := RO_m h Mno_e
  rcases fC h.2.1 hO c0 with ⟨c, c1, c2, c3, c4, c5⟩ | ⟨c4, c5⟩
  · subst c3
    have hC := h.2.2.2.2.1.2.1.1.1.2.1
    have ec : (nI c).toNatClampNeg = c := nI_clamp (by omega)
    have hbt := (h.1.1.2.1.1 c c1 c2).2
    obtain ⟨kc, k2, k3, k4, -⟩ := h.1.1.2.1.2.2.1 c c1 c2
    have ne0 : ¬ ml σ 1 c = 0 := fun z => by
      have : (0 : Int64).toInt = 0 := rfl
      rw [z] at hbt
      omega
    have n1 : ¬ fl S 3 (cA M c) < (1 : Int64) := by
      rw [k3, Int64.lt_iff_toInt_lt]
      have : (1 : Int64).toInt = 1 := rfl
      omega
    have eD : tkD S (cA M c) y = MtD σ (nI c) y := by
      show (fl S 4 (cA M c) + y) / fl S 3 (cA M c) = (ml σ 2 (nI c).toNatClampNeg + y) / ml σ 1 (nI c).toNatClampNeg
      rw [k3, k4, ec]
    have eA : fl S 4 (cA M c) + y = MtA σ (nI c) y := by
      show fl S 4 (cA M c) + y = ml σ 2 (nI c).toNatClampNeg + y
      rw [k4, ec]
    have core : ¬ y < (0 : Int64) → ¬ (100000 : Int64) < y → ¬ (5000 : Int64) < MtD σ (nI c) y → _ := fun a b d => tk_core h hn c1 c2 a b d
    have eS : tick_S S x (nI c) y = if y < (0 : Int64) then S else if (100000 : Int64) < y then S else if (5000 : Int64) < MtD σ (nI c) y then S else tkL x (cA M c) (MtD σ (nI c) y).toNatClampNeg (sfi (sfl S 4 (cA M c) (MtA σ (nI c) y - MtD σ (nI c) y * ml σ 1 c)) 13 x 0) := by
      unfold tick_S
      rw [op_some c4, if_neg n1, eD, eA, k3]
    have eMS : Mtick_S σ (nI c) y = if y < (0 : Int64) then Mno_S σ (nI c) else if (100000 : Int64) < y then Mno_S σ (nI c) else if (5000 : Int64) < MtD σ (nI c) y then Mno_S σ (nI c) else tkM (nI c) (MtD σ (nI c) y).toNatClampNeg (Mt1 σ (nI c) y) := by
      unfold Mtick_S
      rw [if_pos c5]
    refine ⟨?_, ?_, fun _ => by rw [ec]; exact ne0, fun _ a b d => ⟨by rw [ec]; exact ne0, by rw [ec]; exact (core a b d).1⟩⟩
    · unfold tick_R Mtick_R
      rw [op_some c4, if_pos c5, if_neg n1, eD, eS, eMS]
      by_cases q1 : y < (0 : Int64)
      · repeat rw [if_pos q1]
      · repeat rw [if_neg q1]
        by_cases q2 : (100000 : Int64) < y
        · repeat rw [if_pos q2]
        · repeat rw [if_neg q2]
          by_cases q3 : (5000 : Int64) < MtD σ (nI c) y
          · repeat rw [if_pos q3]
          · repeat rw [if_neg q3]
            have e1 := (core q1 q2 q3).2.1.1.2.2.2.2.2.1.1
            have e2 := h14.1.1.2.2.2.2.2.1.1
            rw [← e1, ← e2]
    · rw [eS, eMS]
      by_cases q1 : y < (0 : Int64)
      · repeat rw [if_pos q1]
        exact ⟨kt, RO_n h14⟩
      · repeat rw [if_neg q1]
        by_cases q2 : (100000 : Int64) < y
        · repeat rw [if_pos q2]
          exact ⟨kt, RO_n h14⟩
        · repeat rw [if_neg q2]
          by_cases q3 : (5000 : Int64) < MtD σ (nI c) y
          · repeat rw [if_pos q3]
            exact ⟨kt, RO_n h14⟩
          · repeat rw [if_neg q3]
            exact ⟨kt + 1, (core q1 q2 q3).2⟩
  · have hne : ¬ Mno_R σ c0 = 0 := by rw [c5]; decide
    refine ⟨?_, ⟨kt, ?_⟩, fun z => absurd z hne, fun z => absurd z hne⟩
    · unfold tick_R Mtick_R
      rw [op_none c4, if_neg hne]
    · unfold tick_S Mtick_S
      rw [op_none c4, if_neg hne]
      exact RO_n h14
