-- A NEW POINT
set_option maxHeartbeats 4000000 in
theorem RO_point {M : AM} {x : Nat} {T T' : Nat → Nat → Bool} {n kt h0 t0 : Nat} {S Y : HS} {σ τ : MS} (h : RO M x T n kt h0 t0 S σ) {u q : Nat} (u1 : 1 ≤ u) (u2 : u ≤ nT σ) (hN : npT σ u < 20) {off : Int64} (hq : plc (fun p => ml σ 15 (20 * u + p)) off (npT σ u) q) (hno : ¬ (q < npT σ u ∧ ml σ 15 (20 * u + q) = off)) (hr : ma σ 19 u = 0) (hoff : 0 ≤ off.toInt ∧ off.toInt ≤ (ml σ 13 u).toInt) {ac : Int32} {c0 a0 : Option Nat}
    (hc0 : c0 = if 0 < ac then some (cA M ac.toNatClampNeg) else none) (ha0 : a0 = if ac < 0 then some (aA M (-ac).toNatClampNeg) else none) (ho1 : 0 < ac → inC σ ac) (ho2 : ac < 0 → rg 1 (nA σ) (-ac))
    (he : e3 (inS (ptX S off c0 a0) (tA M u) (hz S) (bfO M u q)) Y)
    (hb : ∀ j, 1 ≤ j → j ≤ nC σ → fi Y 2 (cA M j) = bt j ∧ ∀ e, 1 ≤ e → e ≤ 20 → (T' j e = true ↔ ¬ fi Y 3 (cA M j) &&& bt e = 0))
    (hT : Tr (nC σ) τ T') (hld : ∀ a b, ld σ a b → ld τ a b) (hl1 : 0 < ac → ld τ (ma σ 12 u).toNatClampNeg ac.toNatClampNeg)
    (mie : mi τ = mi σ) (maj : ∀ j, 6 ≤ j → j ≠ 14 → j ≠ 16 → ma τ j = ma σ j) (m14 : ∀ d, d ≠ u → ma τ 14 d = ma σ 14 d) (m14s : ma τ 14 u = nI (npT σ u + 1)) (mlj : ∀ j, j ≠ 15 → ml τ j = ml σ j)
    (pn : ∀ t p, t ≠ u → p < 20 → ml τ 15 (20 * t + p) = ml σ 15 (20 * t + p) ∧ ma τ 16 (20 * t + p) = ma σ 16 (20 * t + p)) (pl : ∀ p, p < q → ml τ 15 (20 * u + p) = ml σ 15 (20 * u + p) ∧ ma τ 16 (20 * u + p) = ma σ 16 (20 * u + p)) (ps : ml τ 15 (20 * u + q) = off ∧ ma τ 16 (20 * u + q) = ac) (pg : ∀ p, q < p → p ≤ npT σ u → ml τ 15 (20 * u + p) = ml σ 15 (20 * u + (p - 1)) ∧ ma τ 16 (20 * u + p) = ma σ 16 (20 * u + (p - 1))) (hmOk : mOk τ) : RO (upP M u q (hz S)) x T' (n + 1) kt h0 t0 Y τ := by
  obtain ⟨⟨⟨hI, hR, hDc, hDa, hDt, hDn, hDk⟩, hW⟩, ⟨⟨a1, a2, a3⟩, aat, acc, aa, atb, as3, as7⟩, rz, ⟨rl, rlk⟩, ⟨⟨g1, g2, g3, g4⟩, ⟨w1, w2, w3, w4, w5, w6⟩, gr, gx, gk⟩, rh⟩ := h
  obtain ⟨⟨o1, o2⟩, kx, hnn, -⟩ := id hI
  obtain ⟨rb, ri, rc, ra, rt, rp⟩ := id hR
  have hC := w1.1.2.1
  have hA100 := w1.1.2.2.1
  have hT20 := w1.1.2.2.2
  have live : ∀ a, kd S a ≠ 0 → a < hz S := fun a ha => o2 a (o1.1 a ha)
  have xq := live x (by rw [kx]; decide)
  have kt7 := (rt u u1 u2).1
  have tq := live (tA M u) (by rw [kt7]; decide)
  obtain ⟨hq1, hq2, hq3⟩ := id hq
  have plive : ∀ t p, 1 ≤ t → t ≤ nT σ → p < npT σ t → pA M t p < hz S := fun t p q1 q2 hp => live _ (by rw [(rp t p q1 q2 hp).1]; decide)
  have hkc : ∀ b, c0 = some b → kd S b = 3 := fun b hb' => by
    rw [hc0] at hb'
    split at hb'
    · rename_i e
      cases hb'
      obtain ⟨-, q1, q2⟩ := inC_20 (ho1 e) hC
      exact (rc _ q1 q2).1
    · cases hb'
  have hka : ∀ b, a0 = some b → kd S b = 2 := fun b hb' => by
    rw [ha0] at hb'
    split at hb'
    · rename_i e
      cases hb'
      have q := ho2 e
      obtain ⟨q1, q2⟩ := rg_cl (hi := nA σ) (rg.wk q (by decide) (Int.le_refl _)) (by omega)
      have q3 := q.1
      rw [q1, nI_toInt (by omega)] at q3
      exact (ra _ (by omega) q2).1
    · cases hb'
  have hbq : ∀ b, bfO M u q = some b → q ≠ 0 ∧ b = pA M u (q - 1) ∧ kd S b = 6 := fun b hb' => by
    unfold bfO at hb'
    split at hb'
    · cases hb'
    · rename_i e
      cases hb'
      exact ⟨e, rfl, (rp u (q - 1) u1 u2 (by omega)).1⟩
  -- the store
  have fkd := ptX_kd (S := S) (off := off) (c0 := c0) (a0 := a0)
  have ffi := ptX_fi (S := S) (off := off) (c0 := c0) (a0 := a0)
  have ffl := ptX_fl (S := S) (off := off) (c0 := c0) (a0 := a0)
  have fl8 := ptX_fl8 (S := S) (off := off) (c0 := c0) (a0 := a0)
  have ffr1 := ptX_fr (S := S) (off := off) (c0 := c0) (a0 := a0)
  have fr11 := ptX_fr11 (S := S) (off := off) (c0 := c0) (a0 := a0)
  have fr0 := ptX_fr0 (S := S) (off := off) (c0 := c0) (a0 := a0)
  have fr1 := ptX_fr1 (S := S) (off := off) (c0 := c0) (a0 := a0)
  obtain ⟨fan, fai, far, fhz, ftz, fhL⟩ := ptX_st (S := S) (off := off) (c0 := c0) (a0 := a0)
  have fok1 := ptX_ok (off := off) o1 o2 hkc hka
  generalize ptX S off c0 a0 = X at he fkd ffi ffl fl8 ffr1 fr11 fr0 fr1 fan fai far fhz ftz fhL fok1
  have kXq : kd X (hz S) = 6 := by rw [fkd, if_neg (by omega), if_pos rfl]
  have kXo : ∀ a, a < hz S → kd X a = kd S a := fun a ha => by rw [fkd, if_neg (by omega), if_neg (by omega)]
  have hnnX : nn X := by
    intro j a hj ha
    by_cases e1 : a = hz S + 1
    · rw [fkd, if_pos e1] at ha
      exact absurd ha.symm (nnk1 hj)
    · by_cases e0 : a = hz S
      · subst e0
        rw [kXq] at ha
        have := nnk6 hj ha.symm
        subst this
        exact ⟨_, fr11⟩
      · rw [fkd, if_neg e1, if_neg e0] at ha
        rw [ffr1 _ _ (live a (by rw [ha]; exact rO_ne j))]
        exact hnn j a hj ha
  have fok := he.ok (inS_ok (bq := bfO M u q) fok1 kXq ((kXo _ tq).trans kt7) (fun b hb' => (kXo b (live b (by rw [(hbq b hb').2.2]; decide))).trans (hbq b hb').2.2))
  have hnnY : nn Y := he.nn (nn_inS hnnX)
  obtain ⟨ykd, yfl, yan, yai, yar, yhz, ytz, yhL⟩ := inS_st (X := X) (tb := tA M u) (w := hz S) (bq := bfO M u q)
  have yfi := inS_fi (X := X) (tb := tA M u) (w := hz S) (bq := bfO M u q)
  have yfr := inS_k (X := X) (tb := tA M u) (w := hz S) (bq := bfO M u q)
  have y12 := inS_12 (X := X) (tb := tA M u) (w := hz S) (bq := bfO M u q)
  have y14 := inS_14 (X := X) (tb := tA M u) (w := hz S) (bq := bfO M u q)
  have y12w : fr (inS X (tA M u) (hz S) (bfO M u q)) 12 (hz S) = ptO M σ u q := by
    by_cases e : q = 0
    · rw [show bfO M u q = none from if_pos e, inS_w0.2, ffr1 _ _ tq, (rt u u1 u2).2.2.2.2.2, e]
    · have hpl := plive u (q - 1) u1 u2 (by omega)
      rw [show bfO M u q = some (pA M u (q - 1)) from if_neg e, (inS_w1 (by omega)).2, ffr1 _ _ hpl, (rp u (q - 1) u1 u2 (by omega)).2.2.1, show q - 1 + 1 = q by omega]
  have y14u : fr (inS X (tA M u) (hz S) (bfO M u q)) 14 (tA M u) = if q = 0 then some (hz S) else fr S 14 (tA M u) := by
    by_cases e : q = 0
    · rw [if_pos e, show bfO M u q = none from if_pos e, inS_w0.1]
    · rw [if_neg e, y14 _ (Or.inr (by rw [show bfO M u q = some (pA M u (q - 1)) from if_neg e]; exact fun z => by cases z)), ffr1 _ _ tq]
  have y12b : q ≠ 0 → fr (inS X (tA M u) (hz S) (bfO M u q)) 12 (pA M u (q - 1)) = some (hz S) := fun e => by
    have hpl := plive u (q - 1) u1 u2 (by omega)
    rw [show bfO M u q = some (pA M u (q - 1)) from if_neg e]
    exact (inS_w1 (by omega)).1
  obtain ⟨z1, z2, z3, z4, z5, z6, z7, z8, z9, z10⟩ := he
  generalize inS X (tA M u) (hz S) (bfO M u q) = Z at ykd yfl yan yai yar yhz ytz yhL yfi yfr y12 y14 y12w y14u y12b z1 z2 z3 z4 z5 z6 z7 z8 z9 z10
  have Ykd : ∀ a, a < hz S → kd Y a = kd S a := fun a q => by rw [z1, ykd]; exact kXo a q
  have Yk0 : kd Y (hz S) = 6 := by rw [z1, ykd]; exact kXq
  have Yk1 : kd Y (hz S + 1) = 1 := by rw [z1, ykd]; exact (fkd _).trans (if_pos rfl)
  have Ykb : ∀ a, kd Y a ≠ 1 → kd Y a ≠ 6 → kd S a = kd Y a := fun a q1 q2 => by
    rw [z1, ykd, fkd] at q1 q2 ⊢
    by_cases e1 : a = hz S + 1
    · rw [if_pos e1] at q1; exact absurd rfl q1
    · by_cases e0 : a = hz S
      · rw [if_neg e1, if_pos e0] at q2; exact absurd rfl q2
      · rw [if_neg e1, if_neg e0]
  have Yfi : ∀ j a, j ≠ 3 → a < hz S → (j ≠ 7 ∨ a ≠ tA M u) → fi Y j a = fi S j a := fun j a q0 q1 q2 => by
    rw [z2 j q0, yfi]
    rcases q2 with q2 | q2
    · rw [up2_k _ _ _ _ q2]; exact ffi j a q1
    · rw [up2_a _ _ _ _ q2]; exact ffi j a q1
  have Yf7 : fi Y 7 (tA M u) = fi S 7 (tA M u) + 1 := by rw [z2 7 (by decide), yfi, up2_self, ffi _ _ tq]
  have Yfl : ∀ j a, a < hz S → fl Y j a = fl S j a := fun j a q1 => by rw [z3, yfl]; exact ffl j a q1
  have Yfr : ∀ j a, a < hz S → j ≠ 12 → j ≠ 14 → fr Y j a = fr S j a := fun j a q1 q2 q3 => by rw [z4]; exact (yfr j a q2 q3).trans (ffr1 j a q1)
  have Yar : ar Y = ar S := by rw [z7, yar, far]
  have Yan : an Y = an S := by rw [z5, yan, fan]
  have Yai : ai Y = ai S := by rw [z6, yai, fai]
  -- the model
  have eC : nC τ = nC σ := by show (mi τ 15).toNatClampNeg = _; rw [mie]
  have eA : nA τ = nA σ := by show (mi τ 16).toNatClampNeg = _; rw [mie]
  have eT : nT τ = nT σ := by show (mi τ 17).toNatClampNeg = _; rw [mie]
  have eEx : exN τ = exN σ := by show (mi τ 18).toNatClampNeg = _; rw [mie]
  have eAc : acN τ = acN σ := by show (mi τ 19).toNatClampNeg = _; rw [mie]
  have hinv : ∀ v, inC σ v → inC τ v := fun v hv => ⟨hv.1, by rw [eC]; exact hv.2⟩
  have eNu : npT τ u = npT σ u + 1 := by show (ma τ 14 u).toNatClampNeg = _; rw [m14s, nI_clamp (by omega)]
  have eNn : ∀ t, t ≠ u → npT τ t = npT σ t := fun t ht => by show (ma τ 14 t).toNatClampNeg = _; rw [m14 t ht]
  have n20 : ∀ t, npT σ t ≤ 20 := fun t => (rg_cl (hi := 20) (g1.2.2.2.2.2.2.1 t) (by decide)).2
  have ptn : ∀ t p, t ≠ u → ptO (upP M u q (hz S)) τ t p = ptO M σ t p := fun t p ht => by unfold ptO; rw [eNn t ht, upP_n ht]
  have ptu : ∀ p, ptO (upP M u q (hz S)) τ u p = if p < q then ptO M σ u p else if p = q then some (hz S) else ptO M σ u (p - 1) := fun p => by
    unfold ptO
    rw [eNu]
    by_cases e1 : p < q
    · rw [if_pos e1, if_pos (by omega), if_pos (by omega), upP_l e1]
    · rw [if_neg e1]
      by_cases e2 : p = q
      · rw [if_pos e2, if_pos (by omega), e2, upP_s]
      · rw [if_neg e2, upP_g (by omega)]
        by_cases e3 : p < npT σ u + 1
        · rw [if_pos e3, if_pos (by omega)]
        · rw [if_neg e3, if_neg (by omega)]
  have als : ∀ d, aLs (upP M u q (hz S)) τ d (nA τ) 1 = aLs M σ d (nA σ) 1 := fun d => by
    rw [eA]
    exact aLs_M _ _ (fun b b1 b2 => ⟨rfl, by rw [maj 6 (by decide) (by decide) (by decide)]⟩)
  have tls : ∀ d, tLs (upP M u q (hz S)) τ d (nT τ) 1 = tLs M σ d (nT σ) 1 := fun d => by
    rw [eT]
    exact tLs_M _ _ (fun b b1 b2 => ⟨rfl, by rw [maj 12 (by decide) (by decide) (by decide)]⟩)
  have hNf : Nf S Y := by
    refine ⟨fun a ha => ?_, fun z hz' => ?_⟩
    · have hq := live a ha
      exact ⟨Ykd a hq, ⟨Yfr _ _ hq (by decide) (by decide), Yfr _ _ hq (by decide) (by decide), Yfr _ _ hq (by decide) (by decide)⟩, ⟨Yfi _ _ (by decide) hq (Or.inl (by decide)), Yfi _ _ (by decide) hq (Or.inl (by decide))⟩, by rw [Yan], fun h17 => by rw [Yar], fun _ => by rw [Yai]⟩
    · exact (Ykb z (by rw [hz']; decide) (by rw [hz']; decide)).trans hz'
  -- one old point, moved or not
  have old : ∀ t p p', 1 ≤ t → t ≤ nT σ → p < npT σ t → pA (upP M u q (hz S)) t p' = pA M t p → ml τ 15 (20 * t + p') = ml σ 15 (20 * t + p) → ma τ 16 (20 * t + p') = ma σ 16 (20 * t + p) → fr Y 12 (pA M t p) = ptO (upP M u q (hz S)) τ t (p' + 1) → kd Y (pA (upP M u q (hz S)) t p') = 6 ∧ fl Y 8 (pA (upP M u q (hz S)) t p') = ml τ 15 (20 * t + p') ∧ fr Y 12 (pA (upP M u q (hz S)) t p') = ptO (upP M u q (hz S)) τ t (p' + 1) ∧ (ma τ 16 (20 * t + p') < 0 → rg 1 (nA τ) (-(ma τ 16 (20 * t + p')))) ∧ ∃ q', fr Y 11 (pA (upP M u q (hz S)) t p') = some q' ∧ acR Y q' (if 0 < ma τ 16 (20 * t + p') then some (cA M (ma τ 16 (20 * t + p')).toNatClampNeg) else none) (if ma τ 16 (20 * t + p') < 0 then some (aA M (-(ma τ 16 (20 * t + p'))).toNatClampNeg) else none) := by
    intro t p p' q1 q2 hp e1 e2 e3 e4
    obtain ⟨k1, k2, k3, k4, w, k6, k7, k8, k9⟩ := rp t p q1 q2 hp
    have hq := live (pA M t p) (by rw [k1]; decide)
    have hq2 := live w (by rw [k7]; decide)
    rw [e1, e2, e3, eA]
    exact ⟨(Ykd _ hq).trans k1, (Yfl _ _ hq).trans k2, e4, k4, w, (Yfr _ _ hq (by decide) (by decide)).trans k6, (Ykd _ hq2).trans k7, (Yfr _ _ hq2 (by decide) (by decide)).trans k8, (Yfr _ _ hq2 (by decide) (by decide)).trans k9⟩
  have Y12 : ∀ t p, 1 ≤ t → t ≤ nT σ → p < npT σ t → ¬ (t = u ∧ q ≠ 0 ∧ p = q - 1) → fr Y 12 (pA M t p) = ptO M σ t (p + 1) := fun t p q1 q2 hp hn' => by
    have hpl := plive t p q1 q2 hp
    rw [z4, y12 _ (by omega) (fun z => by
      obtain ⟨e1, e2, -⟩ := hbq _ z
      obtain ⟨e3, e4⟩ := rz.2.2 t p u (q - 1) q1 q2 u1 u2 hp (by omega) e2
      exact hn' ⟨e3, e1, e4⟩), ffr1 _ _ hpl]
    exact (rp t p q1 q2 hp).2.2.1
  have hRS : RS (upP M u q (hz S)) Y τ := by
    refine ⟨fun d d1 d2 => ?_, ⟨fun c d c1 c2 d1 d2 e => ?_, fun c d c1 c2 d1 d2 e => ?_, fun c d c1 c2 d1 d2 e => ?_⟩, fun d d1 d2 => ?_, fun a q1 q2 => ?_, fun t q1 q2 => ?_, fun t p q1 q2 hp => ?_⟩
    · rw [mlj 0 (by decide), mlj 1 (by decide)]
      exact rb d d1 (by omega)
    · rw [eC] at c2 d2; exact ri.1 c d c1 c2 d1 d2 e
    · rw [eA] at c2 d2; exact ri.2.1 c d c1 c2 d1 d2 e
    · rw [eT] at c2 d2; exact ri.2.2 c d c1 c2 d1 d2 e
    · rw [eC] at d2
      obtain ⟨k1, k2, k3, k3b, k4, k5⟩ := rc d d1 d2
      have hq := live (cA M d) (by rw [k1]; decide)
      rw [als, tls, mlj 0 (by decide), mlj 1 (by decide), mlj 2 (by decide)]
      show kd Y (cA M d) = 3 ∧ fl Y 2 (cA M d) = _ ∧ fl Y 3 (cA M d) = _ ∧ fl Y 4 (cA M d) = _ ∧ chn (fr Y 4) (fr Y 5 (cA M d)) _ ∧ chn (fr Y 17) (fr Y 7 (cA M d)) _
      rw [Ykd _ hq, Yfl _ _ hq, Yfl _ _ hq, Yfl _ _ hq, Yfr 5 _ hq (by decide) (by decide), Yfr 7 _ hq (by decide) (by decide)]
      refine ⟨k1, k2, k3, k3b, chn_congr _ _ (fun z hz' => ?_) k4, chn_congr _ _ (fun z hz' => ?_) k5⟩
      · obtain ⟨e, e1, e2, rfl, -⟩ := aLs_mem _ _ _ hz'
        exact (Yfr _ _ (live _ (by rw [(ra e e1 (by omega)).1]; decide)) (by decide) (by decide)).symm
      · obtain ⟨e, e1, e2, rfl, -⟩ := tLs_mem _ _ _ hz'
        exact (Yfr _ _ (live _ (by rw [(rt e e1 (by omega)).1]; decide)) (by decide) (by decide)).symm
    · rw [eA] at q2
      obtain ⟨k1, k2, k3, k4, k5, w, k6, k7, k8, k9⟩ := ra a q1 q2
      have hq := live (aA M a) (by rw [k1]; decide)
      have hq2 := live w (by rw [k7]; decide)
      show kd Y (aA M a) = 2 ∧ fi Y 0 (aA M a) = nI a ∧ fr Y 2 (aA M a) = some (cA M (ma τ 6 a).toNatClampNeg) ∧ fl Y 1 (aA M a) = ml τ 11 a ∧ (ma τ 7 a = 2 → rg 1 (nA τ) (ma τ 8 a)) ∧ ∃ q, fr Y 3 (aA M a) = some q ∧ acR Y q (if ma τ 7 a = 1 then some (cA M (ma τ 8 a).toNatClampNeg) else none) (if ma τ 7 a = 2 then some (aA M (ma τ 8 a).toNatClampNeg) else none)
      rw [maj 6 (by decide) (by decide) (by decide), maj 7 (by decide) (by decide) (by decide), maj 8 (by decide) (by decide) (by decide), mlj 11 (by decide), eA, Ykd _ hq, Yfi _ _ (by decide) hq (Or.inl (by decide)), Yfr _ _ hq (by decide) (by decide), Yfl _ _ hq]
      exact ⟨k1, k2, k3, k4, k5, w, (Yfr _ _ hq (by decide) (by decide)).trans k6, (Ykd _ hq2).trans k7, (Yfr _ _ hq2 (by decide) (by decide)).trans k8, (Yfr _ _ hq2 (by decide) (by decide)).trans k9⟩
    · rw [eT] at q2
      obtain ⟨k1, k2, k3, k4, k5, k6⟩ := rt t q1 q2
      have hq := live (tA M t) (by rw [k1]; decide)
      show kd Y (tA M t) = 7 ∧ fi Y 6 (tA M t) = nI t ∧ fr Y 13 (tA M t) = some (cA M (ma τ 12 t).toNatClampNeg) ∧ fl Y 9 (tA M t) = ml τ 13 t ∧ fr Y 16 (tA M t) = (if ma τ 17 t = 0 then none else some (tA M (ma τ 17 t).toNatClampNeg)) ∧ fr Y 14 (tA M t) = ptO (upP M u q (hz S)) τ t 0
      rw [maj 12 (by decide) (by decide) (by decide), maj 17 (by decide) (by decide) (by decide), mlj 13 (by decide), Ykd _ hq, Yfi _ _ (by decide) hq (Or.inl (by decide)), Yfr 13 _ hq (by decide) (by decide), Yfr 16 _ hq (by decide) (by decide), Yfl _ _ hq]
      refine ⟨k1, k2, k3, k4, k5, ?_⟩
      rw [z4]
      by_cases e : t = u
      · subst e
        rw [y14u, ptu]
        by_cases e0 : q = 0
        · rw [if_pos e0, if_neg (by omega), if_pos e0.symm]
        · rw [if_neg e0, if_pos (by omega)]
          exact k6
      · rw [y14 _ (Or.inl (fun z => e (ri.2.2 t u q1 q2 u1 u2 z))), ffr1 _ _ hq, ptn t 0 e]
        exact k6
    · rw [eT] at q2
      by_cases e : t = u
      · subst e
        rw [eNu] at hp
        by_cases e1 : p < q
        · refine old t p p q1 q2 (by omega) (upP_l e1) (pl p e1).1 (pl p e1).2 ?_
          rw [ptu]
          by_cases e2 : p + 1 = q
          · rw [if_neg (by omega), if_pos e2, z4]
            have := y12b (by omega)
            rw [show q - 1 = p by omega] at this
            exact this
          · rw [if_pos (by omega)]
            exact Y12 t p q1 q2 (by omega) (fun z => by omega)
        · by_cases e2 : p = q
          · subst e2
            show kd Y (pA (upP M t p (hz S)) t p) = 6 ∧ fl Y 8 (pA (upP M t p (hz S)) t p) = ml τ 15 (20 * t + p) ∧ fr Y 12 (pA (upP M t p (hz S)) t p) = ptO (upP M t p (hz S)) τ t (p + 1) ∧ (ma τ 16 (20 * t + p) < 0 → rg 1 (nA τ) (-(ma τ 16 (20 * t + p)))) ∧ ∃ q', fr Y 11 (pA (upP M t p (hz S)) t p) = some q' ∧ acR Y q' (if 0 < ma τ 16 (20 * t + p) then some (cA M (ma τ 16 (20 * t + p)).toNatClampNeg) else none) (if ma τ 16 (20 * t + p) < 0 then some (aA M (-(ma τ 16 (20 * t + p))).toNatClampNeg) else none)
            rw [upP_s, ps.1, ps.2, eA, ptu]
            refine ⟨Yk0, ?_, ?_, ho2, hz S + 1, ?_, Yk1, ?_, ?_⟩
            · rw [z3, yfl]; exact fl8
            · rw [z4, if_neg (by omega), if_neg (by omega), show p + 1 - 1 = p by omega]
              exact y12w
            · rw [z4]; exact (yfr _ _ (by decide) (by decide)).trans fr11
            · rw [z4]; exact ((yfr _ _ (by decide) (by decide)).trans fr0).trans hc0
            · rw [z4]; exact ((yfr _ _ (by decide) (by decide)).trans fr1).trans ha0
          · refine old t (p - 1) p q1 q2 (by omega) (upP_g (by omega)) (pg p (by omega) (by omega)).1 (pg p (by omega) (by omega)).2 ?_
            rw [ptu, if_neg (by omega), if_neg (by omega), Y12 t (p - 1) q1 q2 (by omega) (fun z => by omega), show p - 1 + 1 = p by omega, show p + 1 - 1 = p by omega]
      · rw [eNn t e] at hp
        have := n20 t
        refine old t p p q1 q2 hp (upP_n e) (pn t p e (by omega)).1 (pn t p e (by omega)).2 ?_
        rw [ptn t _ e]
        exact Y12 t p q1 q2 hp (fun z => e z.1)
  have hs3 : ∀ z, kd Y z = 3 → ∃ c, 1 ≤ c ∧ c ≤ nC τ ∧ z = cA (upP M u q (hz S)) c := fun z hz' => by
    rw [eC]; exact as3 z ((Ykb z (by rw [hz']; decide) (by rw [hz']; decide)).trans hz')
  have hltY : hlt Y := fun a ha => by
    rw [z10, yhL, fhL] at ha
    rw [z8, yhz, fhz]
    rcases List.mem_append.mp ha with ha | ha
    · rcases List.mem_append.mp ha with ha | ha
      · have := o2 a ha; omega
      · rw [List.mem_singleton] at ha; omega
    · rw [List.mem_singleton] at ha; omega
  have hIY := sInv_mk hI hNf ⟨fok, hltY⟩ hnnY hRS hs3
  obtain ⟨-, -, hphi, hpsi⟩ := hNf.kp hI
  have hT' : Tr (nC τ) τ T' := by
    rw [eC]
    exact hT
  -- a point of the model behind is one before, or the new one
  have wh : ∀ t p, p < npT τ t → (∃ p', p' < npT σ t ∧ ml τ 15 (20 * t + p) = ml σ 15 (20 * t + p') ∧ ma τ 16 (20 * t + p) = ma σ 16 (20 * t + p')) ∨ (t = u ∧ p = q) := fun t p hp => by
    by_cases e : t = u
    · subst e
      rw [eNu] at hp
      by_cases e1 : p < q
      · exact Or.inl ⟨p, by omega, (pl p e1).1, (pl p e1).2⟩
      · by_cases e2 : p = q
        · exact Or.inr ⟨rfl, e2⟩
        · exact Or.inl ⟨p - 1, by omega, (pg p (by omega) (by omega)).1, (pg p (by omega) (by omega)).2⟩
    · rw [eNn t e] at hp
      have := n20 t
      exact Or.inl ⟨p, hp, (pn t p e (by omega)).1, (pn t p e (by omega)).2⟩
  have hL' : Lk τ := by
    refine ⟨fun a q1 q2 q3 => ?_, fun t p q1 q2 q3 q4 => ?_⟩
    · rw [maj 7 (by decide) (by decide) (by decide)] at q3
      rw [maj 6 (by decide) (by decide) (by decide), maj 8 (by decide) (by decide) (by decide)]
      exact hld _ _ (rlk.1 a q1 (by omega) q3)
    · rw [maj 12 (by decide) (by decide) (by decide)]
      rcases wh t p q3 with ⟨p', e1, -, e2⟩ | ⟨e1, e2⟩
      · rw [e2] at q4 ⊢
        exact hld _ _ (rlk.2 t p' q1 (by omega) e1 q4)
      · subst e1; subst e2
        rw [ps.2] at q4 ⊢
        exact hl1 q4
  refine ⟨⟨⟨hIY, hRS, fun d d1 d2 => ?_, fun a q1 q2 => ?_, fun t q1 q2 => ?_, Dn_M (hNf.dn hI hDn) (by rw [mie]) (fun j _ _ => maj j (by omega) (by omega) (by omega)), ?_⟩, fun y y1 y2 => ?_⟩, ⟨⟨?_, ?_, ?_⟩, ?_, fun d d1 d2 => ?_, fun a q1 q2 => ?_, fun t q1 q2 => ?_, hs3, fun z hz' => ?_⟩, ⟨fun d d1 d2 => ?_, fun t q1 q2 => ?_, fun t p t' p' q1 q2 q3 q4 q5 q6 q7 => ?_⟩, ⟨fun d d1 d2 => ?_, hL'⟩, ⟨⟨hmOk, ?_, ?_, hT'⟩, ⟨Cf_of ?_ hL' hT', ?_, ?_, fun d => ?_, fun t q1 q2 => ?_, fun t q1 q2 => ?_⟩, fun d d1 d2 => ?_, ?_, ?_⟩, ?_⟩
  · rw [eC] at d2
    have hq := live (cA M d) (by rw [(rc d d1 d2).1]; decide)
    show fl Y 6 (cA M d) = _ ∧ fl Y 5 (cA M d) = _
    rw [Yfl _ _ hq, Yfl _ _ hq, mlj 3 (by decide), mlj 0 (by decide)]
    exact hDc d d1 d2
  · rw [eA] at q2
    have hq := live (aA M a) (by rw [(ra a q1 q2).1]; decide)
    show fi Y 1 (aA M a) = _ ∧ _ ∧ (_ → fl Y 0 (aA M a) = _)
    rw [Yfi _ _ (by decide) hq (Or.inl (by decide)), Yfl _ _ hq, maj 9 (by decide) (by decide) (by decide), mlj 10 (by decide)]
    exact hDa a q1 q2
  · rw [eT] at q2
    have hq := live (tA M t) (by rw [(rt t q1 q2).1]; decide)
    obtain ⟨k1, k2, k3, k4⟩ := hDt t q1 q2
    show fi Y 8 (tA M t) = ma τ 19 t ∧ fl Y 11 (tA M t) = ml τ 18 t ∧ (nE t → ¬ ma τ 19 t = 0) ∧ (¬ ma τ 19 t = 0 → DtR (upP M u q (hz S)) nE Y τ t)
    rw [Yfi _ _ (by decide) hq (Or.inl (by decide)), Yfl _ _ hq, maj 19 (by decide) (by decide) (by decide), mlj 18 (by decide)]
    refine ⟨k1, k2, k3, fun z => ?_⟩
    have e : t ≠ u := fun e => by subst e; exact z hr
    have k5 := k4 z
    unfold DtR at k5 ⊢
    show fi Y 9 (tA M t) = (if ma τ 21 t = -1 then 0 else 1) ∧ (¬ ma τ 21 t = -1 → fr Y 15 (tA M t) = ptO (upP M u q (hz S)) τ t (ma τ 21 t).toNatClampNeg) ∧ (nE t → fl Y 10 (tA M t) = ml τ 3 (ma τ 12 t).toNatClampNeg) ∧ (¬ nE t → fl Y 10 (tA M t) = ml τ 20 t)
    rw [Yfi _ _ (by decide) hq (Or.inl (by decide)), Yfl _ _ hq, Yfr _ _ hq (by decide) (by decide), maj 21 (by decide) (by decide) (by decide), mlj 20 (by decide), mlj 3 (by decide), ptn t _ e, maj 12 (by decide) (by decide) (by decide)]
    exact k5
  · rw [Yfi 13 x (by decide) xq (Or.inl (by decide)), mie]
    exact hDk
  · rw [eC] at y2
    have hq := live (cA M y) (by rw [(rc y y1 y2).1]; decide)
    have hw := hW y y1 y2
    refine ⟨fun a q1 q2 q3 q4 q5 => ?_, fun t q1 q2 q3 q4 q5 q6 => ?_⟩
    · rw [eA] at q3 q2; rw [maj 6 (by decide) (by decide) (by decide)] at q4; rw [maj 9 (by decide) (by decide) (by decide)] at q5
      show (fl Y 7 (cA M y)).toInt ≤ _
      rw [Yfl _ _ hq, mlj 10 (by decide)]
      exact hw.1 a q1 q2 q3 q4 q5
    · rw [eT] at q2 q3; rw [maj 19 (by decide) (by decide) (by decide)] at q5; rw [maj 12 (by decide) (by decide) (by decide)] at q4
      show (fl Y 7 (cA M y)).toInt ≤ _
      rw [Yfl _ _ hq, mlj 20 (by decide)]
      exact hw.2 t q1 q2 q3 q4 q5 q6
  · rw [Yfi 10 x (by decide) xq (Or.inl (by decide)), mie]; exact a1
  · rw [Yfi 11 x (by decide) xq (Or.inl (by decide)), mie]; exact a2
  · rw [Yfi 12 x (by decide) xq (Or.inl (by decide)), mie]; exact a3
  · obtain ⟨v1, v2, v3, v4, v5, v6⟩ := aat
    unfold atOk
    rw [Yfi 10 x (by decide) xq (Or.inl (by decide)), Yfi 11 x (by decide) xq (Or.inl (by decide)), Yfi 12 x (by decide) xq (Or.inl (by decide)), Yfr 18 x xq (by decide) (by decide), Yfr 19 x xq (by decide) (by decide), Yfr 20 x xq (by decide) (by decide), Yan]
    exact ⟨v1, v2, v3, v4, v5, v6⟩
  · rw [eC] at d2
    rw [Yfr 18 x xq (by decide) (by decide), Yar]
    exact acc d d1 d2
  · rw [eA] at q2
    rw [Yfr 19 x xq (by decide) (by decide), Yar]
    exact aa a q1 q2
  · rw [eT] at q2
    rw [Yfr 20 x xq (by decide) (by decide), Yar]
    exact atb t q1 q2
  · rw [eT]
    exact as7 z ((Ykb z (by rw [hz']; decide) (by rw [hz']; decide)).trans hz')
  · rw [eC] at d2
    have hq := live (cA M d) (by rw [(rc d d1 d2).1]; decide)
    rw [als, tls]
    show fr Y 6 (cA M d) = _ ∧ fr Y 8 (cA M d) = _
    rw [Yfr _ _ hq (by decide) (by decide), Yfr _ _ hq (by decide) (by decide)]
    exact rz.1 d d1 d2
  · rw [eT] at q2
    have hq := live (tA M t) (by rw [(rt t q1 q2).1]; decide)
    show fi Y 7 (tA M t) = _
    by_cases e : t = u
    · subst e
      rw [Yf7, m14s, rz.2.1 t q1 q2, (rg_cl (hi := 20) (g1.2.2.2.2.2.2.1 t) (by decide)).1]
      exact nI_1 _
    · rw [Yfi _ _ (by decide) hq (Or.inr (fun z => e (ri.2.2 t u q1 q2 u1 u2 z))), m14 t e]
      exact rz.2.1 t q1 q2
  · rw [eT] at q2 q4
    have key : ∀ t p, 1 ≤ t → t ≤ nT σ → p < npT τ t → (∃ p', p' < npT σ t ∧ pA (upP M u q (hz S)) t p = pA M t p' ∧ (t ≠ u → p = p') ∧ (t = u → p ≠ q ∧ (p = p' ∧ p < q ∨ p = p' + 1 ∧ q ≤ p'))) ∨ (t = u ∧ p = q ∧ pA (upP M u q (hz S)) t p = hz S) := fun t p q1 q2 hp => by
      by_cases e : t = u
      · subst e
        rw [eNu] at hp
        by_cases e1 : p < q
        · exact Or.inl ⟨p, by omega, upP_l e1, fun z => absurd rfl z, fun _ => ⟨by omega, Or.inl ⟨rfl, e1⟩⟩⟩
        · by_cases e2 : p = q
          · exact Or.inr ⟨rfl, e2, by rw [e2]; exact upP_s⟩
          · exact Or.inl ⟨p - 1, by omega, upP_g (by omega), fun z => absurd rfl z, fun _ => ⟨e2, Or.inr ⟨by omega, by omega⟩⟩⟩
      · rw [eNn t e] at hp
        exact Or.inl ⟨p, hp, upP_n e, fun _ => rfl, fun z => absurd z e⟩
    rcases key t p q1 q2 q5 with ⟨b, b1, b2, b3, b4⟩ | ⟨b1, b2, b3⟩
    · rcases key t' p' q3 q4 q6 with ⟨d, d1, d2, d3, d4⟩ | ⟨d1, d2, d3⟩
      · rw [b2, d2] at q7
        obtain ⟨e1, e2⟩ := rz.2.2 t b t' d q1 q2 q3 q4 b1 d1 q7
        refine ⟨e1, ?_⟩
        by_cases e : t = u
        · have := (b4 e).2
          have := (d4 (e1.symm.trans e)).2
          omega
        · rw [b3 e, d3 (fun z => e (e1.trans z))]
          exact e2
      · rw [b2, d3] at q7
        have := plive t b q1 q2 b1
        omega
    · rcases key t' p' q3 q4 q6 with ⟨d, d1, d2, d3, d4⟩ | ⟨d1, d2, d3⟩
      · rw [b3, d2] at q7
        have := plive t' d q3 q4 d1
        omega
      · exact ⟨b1.trans d1.symm, b2.trans d2.symm⟩
  · rw [eC] at d2
    exact hb d d1 d2
  · unfold mAc
    rw [maj 7 (by decide) (by decide) (by decide), maj 8 (by decide) (by decide) (by decide)]
    exact g2
  · refine ⟨fun d hd => ?_, fun a ha => ?_, fun t ht => ?_⟩
    · rw [mlj 2 (by decide), mlj 3 (by decide)]
      exact g3.1 d (by omega)
    · rw [maj 6 (by decide) (by decide) (by decide), maj 9 (by decide) (by decide) (by decide), mlj 11 (by decide)]
      exact g3.2.1 a (by omega)
    · rw [maj 12 (by decide) (by decide) (by decide), m14 t (by omega), maj 17 (by decide) (by decide) (by decide), maj 19 (by decide) (by decide) (by decide), maj 21 (by decide) (by decide) (by decide), mlj 18 (by decide)]
      exact g3.2.2 t (by omega)
  · have hB := Cf_B w1
    refine ⟨⟨fun d d1 d2 => ?_, by omega, by omega, by omega⟩, fun a q1 q2 => ?_, fun t q1 q2 => ?_⟩
    · rw [mlj 0 (by decide)]
      exact hB.1.1 d d1 (by omega)
    · rw [eA] at q2
      obtain ⟨k1, k2, k3⟩ := hB.2.1 a q1 q2
      rw [maj 6 (by decide) (by decide) (by decide), maj 7 (by decide) (by decide) (by decide), maj 8 (by decide) (by decide) (by decide), mlj 11 (by decide)]
      exact ⟨hinv _ k1, fun z => hinv _ (k2 z), k3⟩
    · rw [eT] at q2
      obtain ⟨k1, k2, k3, k4, k5⟩ := hB.2.2 t q1 q2
      rw [maj 12 (by decide) (by decide) (by decide), maj 17 (by decide) (by decide) (by decide), mlj 13 (by decide), eT]
      refine ⟨hinv _ k1, k2, ?_, k4, fun p hp => ?_⟩
      · by_cases e : t = u
        · subst e
          rw [m14s]
          exact rg_nI0 (N := 20) (by omega) (by decide)
        · rw [m14 t e]; exact k3
      · have hp : p < npT τ t := hp
        have k5 : ∀ p, p < npT σ t → _ := k5
        refine ⟨?_, fun p' hp' => ?_, fun z => ?_⟩
        · rcases wh t p hp with ⟨p', e1, e2, -⟩ | ⟨e1, e2⟩
          · rw [e2]; exact (k5 p' e1).1
          · subst e1; subst e2
            rw [ps.1]; exact hoff
        · by_cases e : t = u
          · subst e
            rw [eNu] at hp
            by_cases e1 : p < q
            · rw [(pl p e1).1, (pl p' (by omega)).1]
              exact (k5 p (by omega)).2.1 p' hp'
            · by_cases e2 : p = q
              · rw [e2, ps.1, (pl p' (by omega)).1]
                have := hq2 p' (by omega)
                rw [Int64.lt_iff_toInt_lt] at this
                exact this
              · rw [(pg p (by omega) (by omega)).1]
                by_cases e3 : p' < q
                · rw [(pl p' e3).1]
                  exact (k5 (p - 1) (by omega)).2.1 p' (by omega)
                · by_cases e4 : p' = q
                  · rw [e4, ps.1]
                    have b1 := hq3 q (Nat.le_refl _) (by omega)
                    have b2 : ¬ ml σ 15 (20 * t + q) = off := fun z => hno ⟨by omega, z⟩
                    have b3 : off.toInt < (ml σ 15 (20 * t + q)).toInt := by
                      rw [Int64.lt_iff_toInt_lt] at b1
                      have : (ml σ 15 (20 * t + q)).toInt ≠ off.toInt := fun z => b2 (Int64.toInt_inj.mp z)
                      have b1 : ¬ (ml σ 15 (20 * t + q)).toInt < off.toInt := b1
                      omega
                    by_cases e5 : p - 1 = q
                    · rw [e5]; exact b3
                    · have := (k5 (p - 1) (by omega)).2.1 q (by omega)
                      exact Int.lt_trans b3 this
                  · rw [(pg p' (by omega) (by omega)).1]
                    exact (k5 (p - 1) (by omega)).2.1 (p' - 1) (by omega)
          · rw [eNn t e] at hp
            have := n20 t
            rw [(pn t p e (by omega)).1, (pn t p' e (by omega)).1]
            exact (k5 p hp).2.1 p' hp'
        · rcases wh t p hp with ⟨p', e1, -, e2⟩ | ⟨e1, e2⟩
          · rw [e2] at z ⊢
            exact hinv _ ((k5 p' e1).2.2 z)
          · subst e1; subst e2
            rw [ps.2] at z ⊢
            exact hinv _ (ho1 (Int32.not_le.mp z))
  · rw [eAc, mie]; exact w2
  · rw [eEx, mie]; exact w3
  · rw [mlj 3 (by decide)]
    have := w4 d
    omega
  · rw [eT] at q2
    rw [maj 21 (by decide) (by decide) (by decide)]
    have hw := w5 t q1 q2
    by_cases e : t = u
    · subst e
      have e1 : (ma τ 14 t).toNatClampNeg = (ma σ 14 t).toNatClampNeg + 1 := eNu
      rw [e1]
      exact hw.wk (Int.le_refl _) (by omega)
    · rw [m14 t e]
      exact hw
  · rw [eT] at q2
    rw [mlj 18 (by decide)]
    exact w6 t q1 q2
  · rw [mlj 2 (by decide)]
    exact gr d d1 (by omega)
  · have hw1 : wN τ = wN σ := by show nA τ + 4 * nT τ = nA σ + 4 * nT σ; rw [eA, eT]
    rw [eEx, hw1]
    exact gx
  · rw [eA, eT]; omega
  · unfold RH
    rw [hphi, hpsi, z8, z9, yhz, ytz, fhz, ftz]
    have := rh.1
    have := rh.2
    omega
