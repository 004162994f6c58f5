-- A NEW ALARM
set_option maxHeartbeats 4000000 in
theorem RO_alarm {M : AM} {x : Nat} {T T' : Nat → Nat → Bool} {n kt h0 t0 : Nat} {S Y : HS} {σ τ : MS} (h : RO M x T n kt h0 t0 S σ) (hc : nA σ < 100) {c : Nat} (c1 : 1 ≤ c) (c2 : c ≤ nC σ) {ac of_ : Int32} {c0 a0 : Option Nat}
    (hc0 : c0 = if ac = 1 then some (cA M of_.toNatClampNeg) else none) (ha0 : a0 = if ac = 2 then some (aA M of_.toNatClampNeg) else none) (ho1 : ac = 1 → inC σ of_) (ho2 : ac = 2 → rg 1 (nA σ) of_)
    (he : e3 (apS (nwA S (gd (fr S 19 x)) x (nA σ) (cA M c) c0 a0) 5 6 4 (cA M c) (hz S)) Y)
    (hb : ∀ j, 1 ≤ j → j ≤ nC σ → fi Y 2 (cA M j) = bt j ∧ ∀ e, 1 ≤ e → e ≤ 20 → (T' j e = true ↔ ¬ fi Y 3 (cA M j) &&& bt e = 0))
    (hT : Tr (nC σ) τ T') (hld : ∀ a b, ld σ a b → ld τ a b) (hl1 : ac = 1 → ld τ c of_.toNatClampNeg)
    (m16 : mi τ 16 = nI (nA σ + 1)) (mik : ∀ j, j ≠ 16 → mi τ j = mi σ j) (maj : ∀ j, j ≠ 4 → j ≠ 6 → j ≠ 7 → j ≠ 8 → ma τ j = ma σ j) (man : ∀ d, d ≠ nA σ + 1 → ma τ 6 d = ma σ 6 d ∧ ma τ 7 d = ma σ 7 d ∧ ma τ 8 d = ma σ 8 d)
    (ma6s : ma τ 6 (nA σ + 1) = nI c) (ma7s : ma τ 7 (nA σ + 1) = ac) (ma8s : ma τ 8 (nA σ + 1) = of_) (mle : ml τ = ml σ) (hmOk : mOk τ) : RO (upA M (nA σ + 1) (hz S)) x T' (n + 1) kt h0 t0 Y τ := by
  obtain ⟨⟨⟨hI, hR, hDc, hDa, hDt, hDn, hDk⟩, hW⟩, ⟨⟨a1, a2, a3⟩, aat, acc, aa, atb, as3, as7⟩, rz, ⟨rl, rlk⟩, ⟨⟨g1, g2, g3, g4⟩, ⟨w1, w2, w3, w4, w5, w6⟩, gr, gx, gk⟩, rh⟩ := h
  obtain ⟨⟨o1, o2⟩, kx, hnn, -⟩ := id hI
  obtain ⟨rb, ri, rc, ra, rt, rp⟩ := id hR
  have hC := w1.1.2.1
  have hA100 := w1.1.2.2.1
  have hT20 := w1.1.2.2.2
  have live : ∀ a, kd S a ≠ 0 → a < hz S := fun a ha => o2 a (o1.1 a ha)
  have xq := live x (by rw [kx]; decide)
  have As := gd_some (hnn 19 x rfl kx)
  have kA : kd S (gd (fr S 19 x)) = 15 := o1.2.1 19 x _ kx As
  have kc := (rc c c1 c2).1
  have cq := live (cA M c) (by rw [kc]; decide)
  have ec : (nI c).toNatClampNeg = c := nI_clamp (by omega)
  have hkc : ∀ b, c0 = some b → kd S b = 3 := fun b hb' => by
    rw [hc0] at hb'
    split at hb'
    · rename_i e
      cases hb'
      obtain ⟨-, q1, q2⟩ := inC_20 (ho1 e) hC
      exact (rc _ q1 q2).1
    · cases hb'
  have hka : ∀ b, a0 = some b → kd S b = 2 := fun b hb' => by
    rw [ha0] at hb'
    split at hb'
    · rename_i e
      cases hb'
      have q := ho2 e
      obtain ⟨q1, q2⟩ := rg_cl (hi := nA σ) (rg.wk q (by decide) (Int.le_refl _)) (by omega)
      have q3 := q.1
      rw [q1, nI_toInt (by omega)] at q3
      exact (ra _ (by omega) q2).1
    · cases hb'
  -- the store
  have fkd := nwA_kd (S := S) (A := gd (fr S 19 x)) (x := x) (N := nA σ) (own := cA M c) (c0 := c0) (a0 := a0)
  have ffi := nwA_fi (S := S) (A := gd (fr S 19 x)) (x := x) (N := nA σ) (own := cA M c) (c0 := c0) (a0 := a0)
  have ffx := nwA_x (S := S) (A := gd (fr S 19 x)) (x := x) (N := nA σ) (own := cA M c) (c0 := c0) (a0 := a0)
  have ffq := nwA_q (S := S) (A := gd (fr S 19 x)) (x := x) (N := nA σ) (own := cA M c) (c0 := c0) (a0 := a0) (by omega)
  have ffl := nwA_fl (S := S) (A := gd (fr S 19 x)) (x := x) (N := nA σ) (own := cA M c) (c0 := c0) (a0 := a0)
  have flq := nwA_flq (S := S) (A := gd (fr S 19 x)) (x := x) (N := nA σ) (own := cA M c) (c0 := c0) (a0 := a0)
  have ffr1 := nwA_fr (S := S) (A := gd (fr S 19 x)) (x := x) (N := nA σ) (own := cA M c) (c0 := c0) (a0 := a0)
  have fr2 := nwA_fr2 (S := S) (A := gd (fr S 19 x)) (x := x) (N := nA σ) (own := cA M c) (c0 := c0) (a0 := a0)
  have fr3 := nwA_fr3 (S := S) (A := gd (fr S 19 x)) (x := x) (N := nA σ) (own := cA M c) (c0 := c0) (a0 := a0)
  have fr4 := nwA_fr4 (S := S) (A := gd (fr S 19 x)) (x := x) (N := nA σ) (own := cA M c) (c0 := c0) (a0 := a0)
  have fr0 := nwA_fr0 (S := S) (A := gd (fr S 19 x)) (x := x) (N := nA σ) (own := cA M c) (c0 := c0) (a0 := a0)
  have fr1 := nwA_fr1 (S := S) (A := gd (fr S 19 x)) (x := x) (N := nA σ) (own := cA M c) (c0 := c0) (a0 := a0)
  have far := nwA_ar (S := S) (A := gd (fr S 19 x)) (x := x) (N := nA σ) (own := cA M c) (c0 := c0) (a0 := a0)
  have fan := nwA_an (S := S) (A := gd (fr S 19 x)) (x := x) (N := nA σ) (own := cA M c) (c0 := c0) (a0 := a0)
  have fai := nwA_ai (S := S) (A := gd (fr S 19 x)) (x := x) (N := nA σ) (own := cA M c) (c0 := c0) (a0 := a0)
  have fhz := nwA_hz (S := S) (A := gd (fr S 19 x)) (x := x) (N := nA σ) (own := cA M c) (c0 := c0) (a0 := a0)
  have ftz := nwA_tz (S := S) (A := gd (fr S 19 x)) (x := x) (N := nA σ) (own := cA M c) (c0 := c0) (a0 := a0)
  have fhL := nwA_hL (S := S) (A := gd (fr S 19 x)) (x := x) (N := nA σ) (own := cA M c) (c0 := c0) (a0 := a0)
  have fok1 := nwA_ok (x := x) (N := nA σ) o1 o2 kA kc hkc hka
  generalize nwA S (gd (fr S 19 x)) x (nA σ) (cA M c) c0 a0 = X at he fkd ffi ffx ffq ffl flq ffr1 fr2 fr3 fr4 fr0 fr1 far fan fai fhz ftz fhL fok1
  have kXq : kd X (hz S) = 2 := by rw [fkd, if_neg (by omega), if_pos rfl]
  have hnnX : nn X := by
    intro j a hj ha
    by_cases e1 : a = hz S + 1
    · rw [fkd, if_pos e1] at ha
      exact absurd ha.symm (nnk1 hj)
    · by_cases e0 : a = hz S
      · subst e0
        rw [kXq] at ha
        rcases nnk2 hj ha.symm with e | e
        · subst e; exact ⟨_, fr2⟩
        · subst e; exact ⟨_, fr3⟩
      · rw [fkd, if_neg e1, if_neg e0] at ha
        rw [ffr1 _ _ (live a (by rw [ha]; exact rO_ne j))]
        exact hnn j a hj ha
  -- chains
  have alive : ∀ t, 1 ≤ t → t ≤ nA σ → aA M t < hz S := fun t q1 q2 => live _ (by rw [(ra t q1 q2).1]; decide)
  have al_live : ∀ d z, z ∈ aLs M σ d (nA σ) 1 → z < hz S := fun d z hz' => by
    obtain ⟨t, q1, q2, rfl, -⟩ := aLs_mem _ _ _ hz'
    exact alive t q1 (by omega)
  have clive : ∀ d, 1 ≤ d → d ≤ nC σ → cA M d < hz S := fun d d1 d2 => live _ (by rw [(rc d d1 d2).1]; decide)
  have hX4 : ∀ d, 1 ≤ d → d ≤ nC σ → chn (fr X 4) (fr X 5 (cA M d)) (aLs M σ d (nA σ) 1) := fun d d1 d2 => by
    rw [ffr1 _ _ (clive d d1 d2)]
    exact chn_congr _ _ (fun z hz' => (ffr1 _ _ (al_live d z hz')).symm) (rc d d1 d2).2.2.2.2.1
  have hX6 : ∀ d, 1 ≤ d → d ≤ nC σ → fr X 6 (cA M d) = lsO (aLs M σ d (nA σ) 1) := fun d d1 d2 => by
    rw [ffr1 _ _ (clive d d1 d2)]
    exact (rz.1 d d1 d2).1
  obtain ⟨ch1, ch2⟩ := ch_ap (q := hz S) (by decide) (by decide) (by decide) (hX4 c c1 c2) (hX6 c c1 c2) (aLs_nd _ _ (fun i j h1 h2 h3 h4 e => ri.2.1 i j h1 (by omega) h3 (by omega) e)) fr4 (fun z => Nat.lt_irrefl _ (al_live c _ z))
  have chn' : ∀ d, 1 ≤ d → d ≤ nC σ → d ≠ c → chn (fr (apS X 5 6 4 (cA M c) (hz S)) 4) (fr (apS X 5 6 4 (cA M c) (hz S)) 5 (cA M d)) (aLs M σ d (nA σ) 1) ∧ fr (apS X 5 6 4 (cA M c) (hz S)) 6 (cA M d) = lsO (aLs M σ d (nA σ) 1) := fun d d1 d2 dc => by
    obtain ⟨q1, q2⟩ := ch_ap_ne (q := hz S) (by decide) (by decide) (by decide) (hX6 c c1 c2) (cA_ne hR c1 c2 d1 d2 dc) (hX4 d d1 d2) (fun z hz' hz2 => by
      obtain ⟨t, q1, q2, rfl, e1⟩ := aLs_mem _ _ _ hz'
      obtain ⟨t2, q3, q4, e2, e3⟩ := aLs_mem _ _ _ hz2
      have := ri.2.1 t t2 q1 (by omega) q3 (by omega) e2
      subst this
      exact dc (nI_inj (by omega) (by omega) (e1.symm.trans e3)))
    exact ⟨q1, q2.trans (hX6 d d1 d2)⟩
  obtain ⟨ykd, yfi, yfl, yan, yai, yar, yhz, ytz, yhL⟩ := apS_eq (S := X) (f0 := 5) (l0 := 6) (b0 := 4) (t := cA M c) (a := hz S)
  have yfr : ∀ j z, j ≠ 5 → j ≠ 6 → j ≠ 4 → fr (apS X 5 6 4 (cA M c) (hz S)) j z = fr X j z := fun j z q1 q2 q3 => apS_k q2 q1 q3
  have fok := he.ok (apS_ok (t := cA M c) (a := hz S) (f0 := 5) (l0 := 6) (b0 := 4) fok1 kXq kXq kXq)
  have hnnY : nn Y := he.nn (nn_apS hnnX)
  obtain ⟨z1, z2, z3, z4, z5, z6, z7, z8, z9, z10⟩ := he
  generalize apS X 5 6 4 (cA M c) (hz S) = Z at ch1 ch2 chn' ykd yfi yfl yan yai yar yhz ytz yhL yfr z1 z2 z3 z4 z5 z6 z7 z8 z9 z10
  have Ykd : ∀ a, a < hz S → kd Y a = kd S a := fun a q => by rw [z1, ykd]; rw [fkd, if_neg (by omega), if_neg (by omega)]
  have Yk0 : kd Y (hz S) = 2 := by rw [z1, ykd]; exact kXq
  have Yk1 : kd Y (hz S + 1) = 1 := by rw [z1, ykd]; exact (fkd _).trans (if_pos rfl)
  have Ykb : ∀ a, kd Y a ≠ 1 → kd Y a ≠ 2 → kd S a = kd Y a := fun a q1 q2 => by
    rw [z1, ykd, fkd] at q1 q2 ⊢
    by_cases e1 : a = hz S + 1
    · rw [if_pos e1] at q1; exact absurd rfl q1
    · by_cases e0 : a = hz S
      · rw [if_neg e1, if_pos e0] at q2; exact absurd rfl q2
      · rw [if_neg e1, if_neg e0]
  have Yfi : ∀ j a, j ≠ 3 → a < hz S → (j ≠ 11 ∨ a ≠ x) → fi Y j a = fi S j a := fun j a q0 q1 q2 => by rw [z2 j q0, yfi]; exact ffi j a q1 q2
  have Yfx : fi Y 11 x = nI (nA σ + 1) := by rw [z2 11 (by decide), yfi]; exact ffx
  have Yfl : ∀ j a, a < hz S → fl Y j a = fl S j a := fun j a q1 => by rw [z3, yfl]; exact ffl j a q1
  have Yfr : ∀ j a, a < hz S → j ≠ 5 → j ≠ 6 → j ≠ 4 → fr Y j a = fr S j a := fun j a q1 q2 q3 q4 => by rw [z4]; exact (yfr j a q2 q3 q4).trans (ffr1 j a q1)
  have Yar : ∀ a j, ar Y a j = if a = gd (fr S 19 x) ∧ j = nA σ then some (hz S) else ar S a j := fun a j => by rw [z7, yar]; exact far a j
  have Yan : an Y = an S := by rw [z5, yan, fan]
  have Yai : ai Y = ai S := by rw [z6, yai, fai]
  -- the model
  have eC : nC τ = nC σ := by show (mi τ 15).toNatClampNeg = _; rw [mik 15 (by decide)]
  have eA : nA τ = nA σ + 1 := by show (mi τ 16).toNatClampNeg = _; rw [m16, nI_clamp (by omega)]
  have eT : nT τ = nT σ := by show (mi τ 17).toNatClampNeg = _; rw [mik 17 (by decide)]
  have eEx : exN τ = exN σ := by show (mi τ 18).toNatClampNeg = _; rw [mik 18 (by decide)]
  have eAc : acN τ = acN σ := by show (mi τ 19).toNatClampNeg = _; rw [mik 19 (by decide)]
  have maj' : ∀ j, 9 ≤ j → ma τ j = ma σ j := fun j hj => maj j (by omega) (by omega) (by omega) (by omega)
  have tn : ∀ d, d ≤ nA σ → aA (upA M (nA σ + 1) (hz S)) d = aA M d := fun d hd => upA_n (by omega)
  have zN := g3.2.1 (nA σ + 1) (by omega)
  have hinv : ∀ v, inC σ v → inC τ v := fun v hv => ⟨hv.1, by rw [eC]; exact hv.2⟩
  have als : ∀ d, aLs (upA M (nA σ + 1) (hz S)) τ d (nA σ) 1 = aLs M σ d (nA σ) 1 := fun d => aLs_M _ _ (fun b b1 b2 => ⟨tn b (by omega), (man b (by omega)).1⟩)
  have ale : ∀ d, aLs (upA M (nA σ + 1) (hz S)) τ d (nA τ) 1 = aLs M σ d (nA σ) 1 ++ (if nI c = nI d then [hz S] else []) := fun d => by
    rw [eA, aLs_end, als, show 1 + nA σ = nA σ + 1 by omega, ma6s, upA_s]
  have tls : ∀ d, tLs (upA M (nA σ + 1) (hz S)) τ d (nT τ) 1 = tLs M σ d (nT σ) 1 := fun d => by
    rw [eT]
    exact tLs_M _ _ (fun b b1 b2 => ⟨rfl, by rw [maj' 12 (by decide)]⟩)
  have hNf : Nf S Y := by
    refine ⟨fun a ha => ?_, fun z hz' => ?_⟩
    · have hq := live a ha
      refine ⟨Ykd a hq, ⟨Yfr _ _ hq (by decide) (by decide) (by decide), Yfr _ _ hq (by decide) (by decide) (by decide), Yfr _ _ hq (by decide) (by decide) (by decide)⟩, ⟨Yfi _ _ (by decide) hq (Or.inl (by decide)), Yfi _ _ (by decide) hq (Or.inl (by decide))⟩, by rw [Yan], fun h17 => ?_, fun _ => by rw [Yai]⟩
      funext j
      rw [Yar, if_neg (fun z => by rw [z.1, kA] at h17; cases h17)]
    · exact (Ykb z (by rw [hz']; decide) (by rw [hz']; decide)).trans hz'
  have ptl : ∀ t p, ptO (upA M (nA σ + 1) (hz S)) τ t p = ptO M σ t p := fun t p => by unfold ptO npT; rw [maj' 14 (by decide)]; rfl
  have hAc : ∀ v, rg 1 (nA σ) v → rg 1 (nA τ) v ∧ aA (upA M (nA σ + 1) (hz S)) v.toNatClampNeg = aA M v.toNatClampNeg := fun v hv => by
    refine ⟨hv.wk (Int.le_refl _) (by omega), tn _ (rg_cl (hi := nA σ) (rg.wk hv (by decide) (Int.le_refl _)) (by omega)).2⟩
  have hRS : RS (upA M (nA σ + 1) (hz S)) Y τ := by
    refine ⟨fun d d1 d2 => ?_, ⟨fun c d c1 c2 d1 d2 e => ?_, fun t d c1 c2 d1 d2 e => ?_, fun c d c1 c2 d1 d2 e => ?_⟩, fun d d1 d2 => ?_, fun a q1 q2 => ?_, fun t q1 q2 => ?_, fun t p q1 q2 hp => ?_⟩
    · rw [mle]
      exact rb d d1 (by omega)
    · rw [eC] at c2 d2; exact ri.1 c d c1 c2 d1 d2 e
    · rw [eA] at c2 d2
      by_cases et : t = nA σ + 1
      · by_cases ed : d = nA σ + 1
        · omega
        · rw [et, upA_s, tn d (by omega)] at e
          have := alive d d1 (by omega)
          omega
      · by_cases ed : d = nA σ + 1
        · rw [ed, upA_s, tn t (by omega)] at e
          have := alive t c1 (by omega)
          omega
        · rw [tn t (by omega), tn d (by omega)] at e
          exact ri.2.1 t d c1 (by omega) d1 (by omega) e
    · rw [eT] at c2 d2; exact ri.2.2 c d c1 c2 d1 d2 e
    · rw [eC] at d2
      obtain ⟨k1, k2, k3, k3b, k4, k5⟩ := rc d d1 d2
      have hq := live (cA M d) (by rw [k1]; decide)
      rw [ale, tls, mle]
      show kd Y (cA M d) = 3 ∧ fl Y 2 (cA M d) = _ ∧ fl Y 3 (cA M d) = _ ∧ fl Y 4 (cA M d) = _ ∧ chn (fr Y 4) (fr Y 5 (cA M d)) _ ∧ chn (fr Y 17) (fr Y 7 (cA M d)) _
      rw [Ykd _ hq, Yfl _ _ hq, Yfl _ _ hq, Yfl _ _ hq, Yfr 7 _ hq (by decide) (by decide) (by decide)]
      refine ⟨k1, k2, k3, k3b, ?_, chn_congr _ _ (fun z hz' => ?_) k5⟩
      · rw [z4]
        by_cases e : d = c
        · subst e
          rw [if_pos rfl]
          exact ch1
        · rw [if_neg (fun z => e (nI_inj (by omega) (by omega) z.symm)), List.append_nil]
          exact (chn' d d1 d2 e).1
      · obtain ⟨e, e1, e2, rfl, -⟩ := tLs_mem _ _ _ hz'
        exact (Yfr _ _ (live _ (by rw [(rt e e1 (by omega)).1]; decide)) (by decide) (by decide) (by decide)).symm
    · show kd Y (aA (upA M (nA σ + 1) (hz S)) a) = 2 ∧ fi Y 0 (aA (upA M (nA σ + 1) (hz S)) a) = nI a ∧ fr Y 2 (aA (upA M (nA σ + 1) (hz S)) a) = some (cA M (ma τ 6 a).toNatClampNeg) ∧ fl Y 1 (aA (upA M (nA σ + 1) (hz S)) a) = ml τ 11 a ∧ (ma τ 7 a = 2 → rg 1 (nA τ) (ma τ 8 a)) ∧ ∃ q, fr Y 3 (aA (upA M (nA σ + 1) (hz S)) a) = some q ∧ acR Y q (if ma τ 7 a = 1 then some (cA M (ma τ 8 a).toNatClampNeg) else none) (if ma τ 7 a = 2 then some (aA (upA M (nA σ + 1) (hz S)) (ma τ 8 a).toNatClampNeg) else none)
      by_cases e : a = nA σ + 1
      · subst e
        rw [upA_s, ma6s, ma7s, ma8s, mle, zN.2.2, ec]
        refine ⟨Yk0, ?_, ?_, ?_, fun q => (hAc _ (ho2 q)).1, hz S + 1, ?_, Yk1, ?_, ?_⟩
        · rw [z2 0 (by decide), yfi, ffq]; exact if_pos rfl
        · rw [z4]; exact (yfr _ _ (by decide) (by decide) (by decide)).trans fr2
        · rw [z3, yfl]; exact flq 1
        · rw [z4]; exact (yfr _ _ (by decide) (by decide) (by decide)).trans fr3
        · rw [z4]; exact ((yfr _ _ (by decide) (by decide) (by decide)).trans fr0).trans hc0
        · rw [z4]
          refine ((yfr _ _ (by decide) (by decide) (by decide)).trans fr1).trans (ha0.trans ?_)
          by_cases e2 : ac = 2
          · rw [if_pos e2, if_pos e2, (hAc _ (ho2 e2)).2]
          · rw [if_neg e2, if_neg e2]
      · obtain ⟨k1, k2, k3, k4, k5, q, k6, k7, k8, k9⟩ := ra a q1 (by omega)
        have hq := live (aA M a) (by rw [k1]; decide)
        have hq2 := live q (by rw [k7]; decide)
        rw [(man a e).1, (man a e).2.1, (man a e).2.2, mle, tn a (by omega), Ykd _ hq, Yfi _ _ (by decide) hq (Or.inl (by decide)), Yfr _ _ hq (by decide) (by decide) (by decide), Yfl _ _ hq]
        refine ⟨k1, k2, k3, k4, fun z => (hAc _ (k5 z)).1, q, (Yfr _ _ hq (by decide) (by decide) (by decide)).trans k6, (Ykd q hq2).trans k7, (Yfr _ _ hq2 (by decide) (by decide) (by decide)).trans k8, (Yfr _ _ hq2 (by decide) (by decide) (by decide)).trans (k9.trans ?_)⟩
        by_cases e2 : ma σ 7 a = 2
        · rw [if_pos e2, if_pos e2, (hAc _ (k5 e2)).2]
        · rw [if_neg e2, if_neg e2]
    · rw [eT] at q2
      obtain ⟨k1, k2, k3, k4, k5, k6⟩ := rt t q1 q2
      have hq := live (tA M t) (by rw [k1]; decide)
      show kd Y (tA M t) = 7 ∧ fi Y 6 (tA M t) = nI t ∧ fr Y 13 (tA M t) = some (cA M (ma τ 12 t).toNatClampNeg) ∧ fl Y 9 (tA M t) = ml τ 13 t ∧ fr Y 16 (tA M t) = (if ma τ 17 t = 0 then none else some (tA M (ma τ 17 t).toNatClampNeg)) ∧ fr Y 14 (tA M t) = ptO (upA M (nA σ + 1) (hz S)) τ t 0
      rw [ptl, maj' 12 (by decide), maj' 17 (by decide), mle, Ykd _ hq, Yfi _ _ (by decide) hq (Or.inl (by decide)), Yfr _ _ hq (by decide) (by decide) (by decide), Yfr _ _ hq (by decide) (by decide) (by decide), Yfr _ _ hq (by decide) (by decide) (by decide), Yfl _ _ hq]
      exact ⟨k1, k2, k3, k4, k5, k6⟩
    · rw [eT] at q2
      have hp : p < npT σ t := by unfold npT at hp ⊢; rw [maj' 14 (by decide)] at hp; exact hp
      obtain ⟨k1, k2, k3, k4, q, k6, k7, k8, k9⟩ := rp t p q1 q2 hp
      have hq := live (pA M t p) (by rw [k1]; decide)
      have hq2 := live q (by rw [k7]; decide)
      show kd Y (pA M t p) = 6 ∧ fl Y 8 (pA M t p) = ml τ 15 (20 * t + p) ∧ fr Y 12 (pA M t p) = ptO (upA M (nA σ + 1) (hz S)) τ t (p + 1) ∧ (ma τ 16 (20 * t + p) < 0 → rg 1 (nA τ) (-(ma τ 16 (20 * t + p)))) ∧ ∃ q, fr Y 11 (pA M t p) = some q ∧ acR Y q (if 0 < ma τ 16 (20 * t + p) then some (cA M (ma τ 16 (20 * t + p)).toNatClampNeg) else none) (if ma τ 16 (20 * t + p) < 0 then some (aA (upA M (nA σ + 1) (hz S)) (-(ma τ 16 (20 * t + p))).toNatClampNeg) else none)
      rw [ptl, maj' 16 (by decide), mle, Ykd _ hq, Yfr _ _ hq (by decide) (by decide) (by decide), Yfl _ _ hq]
      refine ⟨k1, k2, k3, fun z => (hAc _ (k4 z)).1, q, (Yfr _ _ hq (by decide) (by decide) (by decide)).trans k6, (Ykd q hq2).trans k7, (Yfr _ _ hq2 (by decide) (by decide) (by decide)).trans k8, (Yfr _ _ hq2 (by decide) (by decide) (by decide)).trans (k9.trans ?_)⟩
      by_cases e2 : ma σ 16 (20 * t + p) < 0
      · rw [if_pos e2, if_pos e2, (hAc _ (k4 e2)).2]
      · rw [if_neg e2, if_neg e2]
  have hs3 : ∀ z, kd Y z = 3 → ∃ c, 1 ≤ c ∧ c ≤ nC τ ∧ z = cA (upA M (nA σ + 1) (hz S)) c := fun z hz' => by
    rw [eC]; exact as3 z ((Ykb z (by rw [hz']; decide) (by rw [hz']; decide)).trans hz')
  have hltY : hlt Y := fun a ha => by
    rw [z10, yhL, fhL] at ha
    rw [z8, yhz, fhz]
    rcases List.mem_append.mp ha with ha | ha
    · rcases List.mem_append.mp ha with ha | ha
      · have := o2 a ha; omega
      · rw [List.mem_singleton] at ha; omega
    · rw [List.mem_singleton] at ha; omega
  have hIY := sInv_mk hI hNf ⟨fok, hltY⟩ hnnY hRS hs3
  obtain ⟨-, -, hphi, hpsi⟩ := hNf.kp hI
  have hT' : Tr (nC τ) τ T' := by
    rw [eC]
    exact hT
  have hL' : Lk τ := by
    refine ⟨fun a q1 q2 q3 => ?_, fun t p q1 q2 q3 q4 => ?_⟩
    · by_cases e : a = nA σ + 1
      · subst e
        rw [ma7s] at q3
        rw [ma6s, ma8s, ec]
        exact hl1 q3
      · rw [(man a e).2.1] at q3
        rw [(man a e).1, (man a e).2.2]
        exact hld _ _ (rlk.1 a q1 (by omega) q3)
    · have hp : p < npT σ t := by unfold npT at q3 ⊢; rw [maj' 14 (by decide)] at q3; exact q3
      rw [maj' 16 (by decide)] at q4 ⊢
      rw [maj' 12 (by decide)]
      exact hld _ _ (rlk.2 t p q1 (by omega) hp q4)
  refine ⟨⟨⟨hIY, hRS, fun d d1 d2 => ?_, fun a q1 q2 => ?_, fun t q1 q2 => ?_, Dn_M (hNf.dn hI hDn) (mik 18 (by decide)) (fun j _ _ => maj' j (by omega)), ?_⟩, fun y y1 y2 => ?_⟩, ⟨⟨?_, ?_, ?_⟩, ?_, fun d d1 d2 => ?_, fun a q1 q2 => ?_, fun t q1 q2 => ?_, hs3, fun z hz' => ?_⟩, ⟨fun d d1 d2 => ?_, fun t q1 q2 => ?_, fun t p t' p' q1 q2 q3 q4 q5 q6 => ?_⟩, ⟨fun d d1 d2 => ?_, hL'⟩, ⟨⟨hmOk, fun a => ?_, ?_, hT'⟩, ⟨Cf_of ?_ hL' hT', ?_, ?_, fun d => ?_, fun t q1 q2 => ?_, fun t q1 q2 => ?_⟩, fun d d1 d2 => ?_, ?_, ?_⟩, ?_⟩
  · rw [eC] at d2
    have hq := clive d d1 d2
    show fl Y 6 (cA M d) = _ ∧ fl Y 5 (cA M d) = _
    rw [Yfl _ _ hq, Yfl _ _ hq, mle]
    exact hDc d d1 d2
  · by_cases e : a = nA σ + 1
    · subst e
      rw [upA_s, maj' 9 (by decide), zN.2.1]
      refine ⟨?_, Or.inl rfl, fun z => absurd rfl z⟩
      rw [z2 1 (by decide), yfi, ffq]; exact if_neg (by decide)
    · have hq := alive a q1 (by omega)
      rw [tn a (by omega), Yfi _ _ (by decide) hq (Or.inl (by decide)), Yfl _ _ hq, maj' 9 (by decide), mle]
      exact hDa a q1 (by omega)
  · rw [eT] at q2
    have hq := live (tA M t) (by rw [(rt t q1 q2).1]; decide)
    unfold DtR
    show fi Y 8 (tA M t) = ma τ 19 t ∧ fl Y 11 (tA M t) = ml τ 18 t ∧ (nE t → ¬ ma τ 19 t = 0) ∧ (¬ ma τ 19 t = 0 → fi Y 9 (tA M t) = (if ma τ 21 t = -1 then 0 else 1) ∧ (¬ ma τ 21 t = -1 → fr Y 15 (tA M t) = ptO (upA M (nA σ + 1) (hz S)) τ t (ma τ 21 t).toNatClampNeg) ∧ (nE t → fl Y 10 (tA M t) = ml τ 3 (ma τ 12 t).toNatClampNeg) ∧ (¬ nE t → fl Y 10 (tA M t) = ml τ 20 t))
    rw [Yfi _ _ (by decide) hq (Or.inl (by decide)), Yfi _ _ (by decide) hq (Or.inl (by decide)), Yfl _ _ hq, Yfl _ _ hq, Yfr _ _ hq (by decide) (by decide) (by decide), maj' 19 (by decide), maj' 21 (by decide), mle, ptl, maj' 12 (by decide)]
    exact hDt t q1 q2
  · rw [Yfi 13 x (by decide) xq (Or.inl (by decide)), mik 19 (by decide)]
    exact hDk
  · rw [eC] at y2
    have hq := clive y y1 y2
    have hw := hW y y1 y2
    refine ⟨fun a q1 q2 q3 q4 q5 => ?_, fun t q1 q2 q3 q4 q5 q6 => ?_⟩
    · rw [maj' 9 (by decide)] at q5
      have e : a ≠ nA σ + 1 := fun e => by subst e; exact q5 zN.2.1
      rw [(man a e).1] at q4
      show (fl Y 7 (cA M y)).toInt ≤ _
      rw [Yfl _ _ hq, mle]
      exact hw.1 a q1 (by omega) (by omega) q4 q5
    · rw [eT] at q2 q3; rw [maj' 19 (by decide)] at q5; rw [maj' 12 (by decide)] at q4
      show (fl Y 7 (cA M y)).toInt ≤ _
      rw [Yfl _ _ hq, mle]
      exact hw.2 t q1 q2 q3 q4 q5 q6
  · rw [Yfi 10 x (by decide) xq (Or.inl (by decide)), mik 15 (by decide)]; exact a1
  · rw [Yfx, m16]
  · rw [Yfi 12 x (by decide) xq (Or.inl (by decide)), mik 17 (by decide)]; exact a3
  · obtain ⟨u1, u2, u3, u4, u5, u6⟩ := aat
    unfold atOk
    rw [Yfi 10 x (by decide) xq (Or.inl (by decide)), Yfx, Yfi 12 x (by decide) xq (Or.inl (by decide)), Yfr 18 x xq (by decide) (by decide) (by decide), Yfr 19 x xq (by decide) (by decide) (by decide), Yfr 20 x xq (by decide) (by decide) (by decide), Yan]
    exact ⟨u1, ⟨nA σ + 1, by omega, rfl⟩, u3, u4, u5, u6⟩
  · rw [eC] at d2
    have kB : kd S (gd (fr S 18 x)) = 14 := o1.2.1 18 x _ kx (gd_some (hnn 18 x rfl kx))
    rw [Yfr 18 x xq (by decide) (by decide) (by decide), Yar, if_neg (fun z => by have := z.1; rw [this, kA] at kB; cases kB)]
    exact acc d d1 d2
  · rw [Yfr 19 x xq (by decide) (by decide) (by decide), Yar]
    by_cases e : a = nA σ + 1
    · subst e
      rw [if_pos ⟨rfl, by omega⟩, upA_s]
    · rw [if_neg (by omega), tn a (by omega)]
      exact aa a q1 (by omega)
  · rw [eT] at q2
    have kB : kd S (gd (fr S 20 x)) = 16 := o1.2.1 20 x _ kx (gd_some (hnn 20 x rfl kx))
    rw [Yfr 20 x xq (by decide) (by decide) (by decide), Yar, if_neg (fun z => by have := z.1; rw [this, kA] at kB; cases kB)]
    exact atb t q1 q2
  · rw [eT]
    exact as7 z ((Ykb z (by rw [hz']; decide) (by rw [hz']; decide)).trans hz')
  · rw [eC] at d2
    have hq := clive d d1 d2
    rw [ale, tls]
    show fr Y 6 (cA M d) = _ ∧ fr Y 8 (cA M d) = _
    refine ⟨?_, (Yfr _ _ hq (by decide) (by decide) (by decide)).trans (rz.1 d d1 d2).2⟩
    rw [z4]
    by_cases e : d = c
    · subst e
      rw [if_pos rfl]
      exact ch2
    · rw [if_neg (fun z => e (nI_inj (by omega) (by omega) z.symm)), List.append_nil]
      exact (chn' d d1 d2 e).2
  · rw [eT] at q2
    have hq := live (tA M t) (by rw [(rt t q1 q2).1]; decide)
    show fi Y 7 (tA M t) = _
    rw [maj' 14 (by decide), Yfi _ _ (by decide) hq (Or.inl (by decide))]
    exact rz.2.1 t q1 q2
  · unfold npT at q5 q6
    rw [maj' 14 (by decide)] at q5 q6
    rw [eT] at q2 q4
    exact rz.2.2 t p t' p' q1 q2 q3 q4 q5 q6
  · rw [eC] at d2
    exact hb d d1 d2
  · intro q
    by_cases e : a = nA σ + 1
    · subst e
      rw [ma7s] at q
      rw [ma8s]
      exact (ho1 q).wk (by decide) (by omega)
    · rw [(man a e).2.1] at q
      rw [(man a e).2.2]
      exact g2 a q
  · refine ⟨fun d hd => ?_, fun a ha => ?_, fun t ht => ?_⟩
    · rw [mle]
      exact g3.1 d (by omega)
    · rw [(man a (by omega)).1, maj' 9 (by decide), mle]
      exact g3.2.1 a (by omega)
    · rw [maj' 12 (by decide), maj' 14 (by decide), maj' 17 (by decide), maj' 19 (by decide), maj' 21 (by decide), mle]
      exact g3.2.2 t (by omega)
  · have hB := Cf_B w1
    refine ⟨⟨fun d d1 d2 => ?_, by omega, by omega, by omega⟩, fun a q1 q2 => ?_, fun t q1 q2 => ?_⟩
    · rw [mle]
      exact hB.1.1 d d1 (by omega)
    · by_cases e : a = nA σ + 1
      · subst e
        rw [ma6s, ma7s, ma8s, mle, zN.2.2]
        exact ⟨hinv _ (rg_nI c1 c2 (by omega)), fun z => hinv _ (ho1 z), by decide, by decide⟩
      · obtain ⟨k1, k2, k3⟩ := hB.2.1 a q1 (by omega)
        rw [(man a e).1, (man a e).2.1, (man a e).2.2, mle]
        exact ⟨hinv _ k1, fun z => hinv _ (k2 z), k3⟩
    · rw [eT] at q2
      obtain ⟨k1, k2, k3, k4, k5⟩ := hB.2.2 t q1 q2
      rw [maj' 12 (by decide), maj' 14 (by decide), maj' 16 (by decide), maj' 17 (by decide), mle, eT]
      exact ⟨hinv _ k1, k2, k3, k4, fun p hp => ⟨(k5 p hp).1, (k5 p hp).2.1, fun z => hinv _ ((k5 p hp).2.2 z)⟩⟩
  · rw [eAc, mik 19 (by decide)]; exact w2
  · rw [eEx, mik 18 (by decide)]; exact w3
  · rw [mle]
    have := w4 d
    omega
  · rw [eT] at q2
    rw [maj' 14 (by decide), maj' 21 (by decide)]
    exact w5 t q1 q2
  · rw [eT] at q2
    rw [mle]
    exact w6 t q1 q2
  · rw [mle]
    exact gr d d1 (by omega)
  · have hw1 : wN τ = (nA σ + 1) + 4 * nT σ := by show nA τ + 4 * nT τ = _; rw [eA, eT]
    have hw2 : wN σ = nA σ + 4 * nT σ := rfl
    rw [eEx, hw1]
    refine Nat.le_trans gx (Nat.mul_le_mul_right _ (Nat.mul_le_mul_left _ ?_))
    rw [hw2]
    omega
  · rw [eA, eT]; omega
  · unfold RH
    rw [hphi, hpsi, z8, z9, yhz, ytz, fhz, ftz]
    have := rh.1
    have := rh.2
    omega
