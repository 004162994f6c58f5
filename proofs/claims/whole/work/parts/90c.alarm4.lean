-- ALARM AS A CALL
theorem alE {M : AM} {x : Nat} {S : HS} {σ : MS} {c : Nat} {c0 a0 : Option Nat} (e11 : fi S 11 x = mi σ 16) (e16 : mi σ 16 = nI (nA σ)) : alarmE_S S x (cA M c) c0 a0 = link_S (apS (nwA S (gd (fr S 19 x)) x (nA σ) (cA M c) c0 a0) 5 6 4 (cA M c) (hz S)) x (cA M c) c0 := by
  have ev : mi σ 16 + 1 = nI (nA σ + 1) := by rw [e16]; exact nI_1 _
  unfold alarmE_S
  rw [e11, ev, ap_alarm]
  exact congrArg (fun X => link_S (apS X 5 6 4 (cA M c) (hz S)) x (cA M c) c0) (show _ = nwA S (gd (fr S 19 x)) x (nA σ) (cA M c) c0 a0 from rfl)
theorem mOk_w7 {σ : MS} {i : Nat} {v : Int32} (h : mOk σ) : mOk (sma σ 7 i v) := by
  obtain ⟨h15, h16, h17, h6, h8, h12, h14, h16a, h17a, h21, h26, h27⟩ := h
  exact ⟨h15, h16, h17, h6, h8, h12, h14, h16a, h17a, h21, h26, h27⟩
theorem mOk_w4 {σ : MS} {i : Nat} {v : Int32} (h : mOk σ) : mOk (sma σ 4 i v) := by
  obtain ⟨h15, h16, h17, h6, h8, h12, h14, h16a, h17a, h21, h26, h27⟩ := h
  exact ⟨h15, h16, h17, h6, h8, h12, h14, h16a, h17a, h21, h26, h27⟩
theorem mOk_i16 {σ : MS} {v : Int32} (h : mOk σ) (hv : rg 0 100 v) : mOk (smi σ 16 v) := by
  obtain ⟨h15, h16, h17, h6, h8, h12, h14, h16a, h17a, h21, h26, h27⟩ := h
  exact ⟨h15, hv, h17, h6, h8, h12, h14, h16a, h17a, h21, h26, h27⟩
/-- the model's own writes of a new alarm -/
def mAl (σ : MS) (k : Nat) (c ac of_ : Int32) : MS := sma (sma (sma (smi σ 16 (nI k)) 6 k c) 7 k ac) 8 k of_
theorem mAl_16 {σ : MS} {k : Nat} {c ac of_ : Int32} : mi (mAl σ k c ac of_) 16 = nI k := ri_a.trans (ri_a.trans (ri_a.trans ri_s))
theorem mAl_i {σ : MS} {k : Nat} {c ac of_ : Int32} (j : Nat) (hj : j ≠ 16) : mi (mAl σ k c ac of_) j = mi σ j := ri_a.trans (ri_a.trans (ri_a.trans (ri_i hj)))
theorem mAl_a {σ : MS} {k : Nat} {c ac of_ : Int32} (j : Nat) (h6 : j ≠ 6) (h7 : j ≠ 7) (h8 : j ≠ 8) : ma (mAl σ k c ac of_) j = ma σ j := funext fun d => (ra_a h8).trans ((ra_a h7).trans ((ra_a h6).trans ra_i))
theorem mAl_n {σ : MS} {k : Nat} {c ac of_ : Int32} (d : Nat) (hd : d ≠ k) : ma (mAl σ k c ac of_) 6 d = ma σ 6 d ∧ ma (mAl σ k c ac of_) 7 d = ma σ 7 d ∧ ma (mAl σ k c ac of_) 8 d = ma σ 8 d := ⟨(ra_n hd).trans ((ra_n hd).trans ((ra_n hd).trans ra_i)), (ra_n hd).trans ((ra_n hd).trans ((ra_n hd).trans ra_i)), (ra_n hd).trans ((ra_n hd).trans ((ra_n hd).trans ra_i))⟩
theorem mAl_6 {σ : MS} {k : Nat} {c ac of_ : Int32} : ma (mAl σ k c ac of_) 6 k = c := (ra_a (by decide)).trans ((ra_a (by decide)).trans ra_s)
theorem mAl_7 {σ : MS} {k : Nat} {c ac of_ : Int32} : ma (mAl σ k c ac of_) 7 k = ac := (ra_a (by decide)).trans ra_s
theorem mAl_8 {σ : MS} {k : Nat} {c ac of_ : Int32} : ma (mAl σ k c ac of_) 8 k = of_ := ra_s
theorem mAl_l {σ : MS} {k : Nat} {c ac of_ : Int32} : ml (mAl σ k c ac of_) = ml σ := rfl
theorem mAl_ok {σ : MS} {k : Nat} {c ac of_ : Int32} (h : mOk σ) (hk : k ≤ 100) (hc : rg 0 20 c) (hof : rg 0 100 of_) : mOk (mAl σ k c ac of_) := mOk_w8 (mOk_w7 (mOk_w6 (mOk_i16 h (rg_nI0 (N := 100) hk (by decide))) hc)) hof
theorem al_n0 {M : AM} {x : Nat} {T : Nat → Nat → Bool} {n kt h0 t0 : Nat} {S : HS} {σ : MS} (h : RO M x T n kt h0 t0 S σ) (hlt : nA σ < 100) {c : Nat} (c1 : 1 ≤ c) (c2 : c ≤ nC σ) {ac of_ : Int32} {a0 : Option Nat} (h1 : ¬ ac = 1) (ha0 : a0 = if ac = 2 then some (aA M of_.toNatClampNeg) else none) (hof : rg 0 100 of_) (ho2 : ac = 2 → rg 1 (nA σ) of_) : alarmE_R S x (cA M c) none a0 = mi σ 16 + 1 ∧ ∃ M' T', RO M' x T' (n + 1) kt h0 t0 (alarmE_S S x (cA M c) none a0) (sma (sma (sma (smi σ 16 (mi σ 16 + 1)) 6 (mi σ 16 + 1).toNatClampNeg (nI c)) 7 (mi σ 16 + 1).toNatClampNeg ac) 8 (mi σ 16 + 1).toNatClampNeg of_) := by
  have hO := h.2.2.2.2.1.1.1
  have hC := h.2.2.2.2.1.2.1.1.1.2.1
  have e16 : mi σ 16 = nI (nA σ) := (cnt_eq (N := 100) hO.2.1 (by decide)).1
  have ev : mi σ 16 + 1 = nI (nA σ + 1) := by rw [e16]; exact nI_1 _
  have e11 : fi S 11 x = mi σ 16 := h.2.1.1.2.1
  have rl := h.2.2.2.1.1
  have hI := h.1.1.1
  have rc := h.1.1.2.1.2.2.1
  have key : RO (upA M (nA σ + 1) (hz S)) x T (n + 1) kt h0 t0 (alarmE_S S x (cA M c) none a0) (mAl σ (nA σ + 1) (nI c) ac of_) := by
    rw [alE e11 e16]
    refine RO_alarm h hlt c1 c2 (ac := ac) (of_ := of_) (c0 := none) (a0 := a0) (if_neg h1).symm ha0 (fun z => absurd z h1) ho2 (e3.rf _) (fun j j1 j2 => ?_) (Tr_4 h.2.2.2.2.1.1.2.2.2 (mAl_a 4 (by decide) (by decide) (by decide))) (fun a b hl => ?_) (fun z => absurd z h1) mAl_16 (fun j hj => mAl_i j hj) (fun j _ h6 h7 h8 => mAl_a j h6 h7 h8) (fun d hd => mAl_n d hd) mAl_6 mAl_7 mAl_8 mAl_l (mAl_ok hO (by omega) (rg_nI0 (N := 20) (by omega) (by decide)) hof)
    · have hq : cA M j < hz S := hI.1.2 _ (hI.1.1.1 _ (by rw [(rc j j1 j2).1]; decide))
      show fi (apS (nwA S (gd (fr S 19 x)) x (nA σ) (cA M c) none a0) 5 6 4 (cA M c) (hz S)) 2 (cA M j) = bt j ∧ ∀ e, 1 ≤ e → e ≤ 20 → (T j e = true ↔ ¬ fi (apS (nwA S (gd (fr S 19 x)) x (nA σ) (cA M c) none a0) 5 6 4 (cA M c) (hz S)) 3 (cA M j) &&& bt e = 0)
      rw [apS_eq.2.1, nwA_fi _ _ hq (Or.inl (by decide)), nwA_fi _ _ hq (Or.inl (by decide))]
      exact rl j j1 j2
    · unfold ld
      rw [mAl_a 4 (by decide) (by decide) (by decide)]
      exact hl
  rw [ev, nI_clamp (by omega)]
  refine ⟨?_, _, _, key⟩
  have e := key.2.1.1.2.1
  rw [mAl_16] at e
  exact e
theorem al_n1 {M : AM} {x : Nat} {T : Nat → Nat → Bool} {n kt h0 t0 : Nat} {S : HS} {σ : MS} (h : RO M x T n kt h0 t0 S σ) (hlt : nA σ < 100) {c d : Nat} (c1 : 1 ≤ c) (c2 : c ≤ nC σ) (d1 : 1 ≤ d) (d2 : d ≤ nC σ) (hcd : ¬ (c = d ∨ T d c = true)) : alarmE_R S x (cA M c) (some (cA M d)) none = mi σ 16 + 1 ∧ ∃ M' T', RO M' x T' (n + 1) kt h0 t0 (alarmE_S S x (cA M c) (some (cA M d)) none) (sma (sma (sma (smi (sma σ 4 (21 * c + d) 1) 16 (mi σ 16 + 1)) 6 (mi σ 16 + 1).toNatClampNeg (nI c)) 7 (mi σ 16 + 1).toNatClampNeg 1) 8 (mi σ 16 + 1).toNatClampNeg (nI d)) := by
  have hO := h.2.2.2.2.1.1.1
  have hC := h.2.2.2.2.1.2.1.1.1.2.1
  have e15 : mi σ 15 = nI (nC σ) := (cnt_eq (N := 20) hO.1 (by decide)).1
  have e16 : mi σ 16 = nI (nA σ) := (cnt_eq (N := 100) hO.2.1 (by decide)).1
  have ev : mi σ 16 + 1 = nI (nA σ + 1) := by rw [e16]; exact nI_1 _
  have e11 : fi S 11 x = mi σ 16 := h.2.1.1.2.1
  have e10 : fi S 10 x = mi σ 15 := h.2.1.1.1
  have rl := h.2.2.2.1.1
  have hI := h.1.1.1
  have rc := h.1.1.2.1.2.2.1
  have ri := h.1.1.2.1.2.1
  have kx : kd S x = 8 := hI.2.1
  have xq : x < hz S := hI.1.2 _ (hI.1.1.1 _ (by rw [kx]; decide))
  have kB : kd S (gd (fr S 18 x)) = 14 := hI.1.1.2.1 18 x _ kx (gd_some (hI.2.2.1 18 x rfl kx))
  have kA : kd S (gd (fr S 19 x)) = 15 := hI.1.1.2.1 19 x _ kx (gd_some (hI.2.2.1 19 x rfl kx))
  have ecd : (nI d).toNatClampNeg = d := nI_clamp (by omega)
  have h4 : ∀ i, ma (mAl (sma σ 4 (21 * c + d) 1) (nA σ + 1) (nI c) 1 (nI d)) 4 i = if i = 21 * c + d then 1 else ma σ 4 i := fun i => by
    rw [mAl_a 4 (by decide) (by decide) (by decide)]
    by_cases e : i = 21 * c + d
    · rw [if_pos e, e]; exact ra_s
    · rw [if_neg e]; exact ra_n e
  have key : RO (upA M (nA σ + 1) (hz S)) x (lkT T c d) (n + 1) kt h0 t0 (alarmE_S S x (cA M c) (some (cA M d)) none) (mAl (sma σ 4 (21 * c + d) 1) (nA σ + 1) (nI c) 1 (nI d)) := by
    rw [alE e11 e16]
    have hlk := link_eff (M := M) (x := x) (X := apS (nwA S (gd (fr S 19 x)) x (nA σ) (cA M c) (some (cA M d)) none) 5 6 4 (cA M c) (hz S)) (σ := σ) (T := T) (c := c) (d := d) (by
        rw [apS_eq.2.1, nwA_fi _ _ xq (Or.inl (by decide)), e10, e15]) (fun j j1 j2 => by
        rw [apS_eq.2.2.2.2.2.1, apS_k (by decide) (by decide) (by decide), nwA_fr _ _ xq, nwA_ar, if_neg (fun z => by have := z.1; rw [this, kA] at kB; cases kB)]
        exact h.2.1.2.2.1 j j1 j2) ri.1 (fun j j1 j2 => by
        have hq : cA M j < hz S := hI.1.2 _ (hI.1.1.1 _ (by rw [(rc j j1 j2).1]; decide))
        rw [apS_eq.2.1, nwA_fi _ _ hq (Or.inl (by decide)), nwA_fi _ _ hq (Or.inl (by decide))]
        exact rl j j1 j2) c1 c2 d1 d2 hC
    refine RO_alarm h hlt c1 c2 (ac := 1) (of_ := nI d) (c0 := some (cA M d)) (a0 := none) (by rw [if_pos rfl, ecd]) (if_neg (by decide)).symm (fun _ => rg_nI d1 d2 (by omega)) (fun z => absurd z (by decide)) hlk.1 hlk.2 (Tr_link h.2.2.2.2.1.1.2.2.2 hC c1 c2 d1 d2 hcd h4) (fun a b hl => ?_) (fun _ => ?_) mAl_16 (fun j hj => (mAl_i j hj).trans ri_a) (fun j h4 h6 h7 h8 => (mAl_a j h6 h7 h8).trans (funext fun _ => ra_a h4)) (fun i hd => ?_) mAl_6 mAl_7 mAl_8 mAl_l (mAl_ok (mOk_w4 hO) (by omega) (rg_nI0 (N := 20) (by omega) (by decide)) (rg_nI0 (N := 100) (by omega) (by decide)))
    · show ¬ ma _ 4 (21 * a + b) = 0
      rw [h4]
      split
      · decide
      · exact hl
    · show ¬ ma _ 4 (21 * c + (nI d).toNatClampNeg) = 0
      rw [h4, ecd, if_pos rfl]
      decide
    · obtain ⟨q1, q2, q3⟩ := mAl_n (σ := sma σ 4 (21 * c + d) 1) (k := nA σ + 1) (c := nI c) (ac := 1) (of_ := nI d) i hd
      exact ⟨q1.trans (ra_a (by decide)), q2.trans (ra_a (by decide)), q3.trans (ra_a (by decide))⟩
  rw [ev, nI_clamp (by omega)]
  refine ⟨?_, _, _, key⟩
  have e := key.2.1.1.2.1
  rw [mAl_16] at e
  exact e
theorem wc_eq {M : AM} {S : HS} {σ : MS} {T : Nat → Nat → Bool} (hR : RS M S σ) (hb : ∀ j, 1 ≤ j → j ≤ nC σ → fi S 2 (cA M j) = bt j ∧ ∀ e, 1 ≤ e → e ≤ 20 → (T j e = true ↔ ¬ fi S 3 (cA M j) &&& bt e = 0)) (hC : nC σ ≤ 20) {c d : Nat} (c1 : 1 ≤ c) (c2 : c ≤ nC σ) (d1 : 1 ≤ d) (d2 : d ≤ nC σ) : wouldCircle_R S (cA M c) (some (cA M d)) = 0 ↔ ¬ (c = d ∨ T d c = true) := by
  show (if some (cA M d) = some (cA M c) then (1 : Int32) else if fi S 3 (cA M d) &&& fi S 2 (cA M c) = 0 then 0 else 1) = 0 ↔ _
  rw [(hb c c1 c2).1, (hb d d1 d2).2 c c1 (by omega)]
  by_cases e : c = d
  · subst e
    rw [if_pos rfl]
    exact ⟨fun z => absurd z (by decide), fun z => absurd (Or.inl rfl) z⟩
  · rw [if_neg (fun z => cA_ne hR c1 c2 d1 d2 (fun y => e y.symm) (Option.some.inj z))]
    by_cases e2 : fi S 3 (cA M d) &&& bt c = 0
    · rw [if_pos e2]
      exact ⟨fun _ z => z.elim e (fun y => y e2), fun _ => rfl⟩
    · rw [if_neg e2]
      exact ⟨fun z => absurd z (by decide), fun z => absurd (Or.inr e2) z⟩
set_option maxHeartbeats 1000000 in
theorem o_alarm {M : AM} {x : Nat} {T : Nat → Nat → Bool} {n kt h0 t0 : Nat} {S : HS} {σ : MS} (h : RO M x T n kt h0 t0 S σ) (c0 ac of_ : Int32) : alarm_R S x c0 ac of_ = Malarm_R σ c0 ac of_ ∧ ∃ M' T', RO M' x T' (n + 1) kt h0 t0 (alarm_S S x c0 ac of_) (Malarm_S σ c0 ac of_) := by
  have h14 : RO M x T n kt h0 t0 S (smi σ 14 0) := RO_m h eqm_14
  have f1 : Mno_R σ c0 = Mno_R (smi σ 14 0) c0 := rfl
  unfold alarm_R Malarm_R alarm_S Malarm_S
  rw [Mno_Se, f1]
  generalize smi σ 14 0 = τ at h14
  have hOτ := h14.2.2.2.2.1.1.1
  have hC := h14.2.2.2.2.1.2.1.1.1.2.1
  have hA100 := h14.2.2.2.2.1.2.1.1.1.2.2.1
  obtain ⟨e16, b16⟩ := cnt_eq (N := 100) hOτ.2.1 (by decide)
  have e11 : fi S 11 x = mi τ 16 := h14.2.1.1.2.1
  have full : (mi τ 16 = (100 : Int32) ∧ ¬ fi S 11 x < (100 : Int32)) ∨ (¬ mi τ 16 = (100 : Int32) ∧ fi S 11 x < (100 : Int32) ∧ nA τ < 100) := by
    by_cases q3 : mi τ 16 = (100 : Int32)
    · exact Or.inl ⟨q3, by rw [e11, q3]; decide⟩
    · have hlt : nA τ < 100 := by
        rcases Nat.lt_or_ge (nA τ) 100 with z | z
        · exact z
        · exact absurd (by rw [e16, show (mi τ 16).toNatClampNeg = 100 from (show nA τ = 100 by have : nA τ ≤ 100 := b16; omega)]; rfl) q3
      refine Or.inr ⟨q3, ?_, hlt⟩
      rw [e11, e16, show (100 : Int32) = nI 100 from rfl]
      exact (nI_ltI (show (mi τ 16).toNatClampNeg < 2 ^ 31 by have : (mi τ 16).toNatClampNeg ≤ 100 := b16; omega) (by decide)).mpr hlt
  rcases fC h14.2.1 hOτ c0 with ⟨c, c1, c2, c3, c4, c5⟩ | ⟨c4, c5⟩
  · rw [op_some c4, op_some c4, c3]
    rw [c3] at c5
    repeat rw [if_pos c5]
    by_cases a0 : ac = 0
    · subst a0
      repeat rw [if_pos (show (0 : Int32) = 0 from rfl)]
      by_cases o0 : of_ = 0
      · subst o0
        have u0 : isUnknownFor_R S x 0 0 = 0 := rfl
        have wn : wouldCircle_R S (cA M c) none = 0 := rfl
        rw [u0, wn]
        repeat rw [if_pos (show (0 : Int32) = 0 from rfl)]
        repeat rw [if_neg (show ¬ (0 : Int32) < 0 by decide)]
        repeat rw [if_pos (show (0 : Int32) ≤ 2 by decide)]
        repeat rw [if_neg (show ¬ (0 : Int32) = 1 by decide)]
        repeat rw [if_pos (show (0 : Int32) = 0 from rfl)]
        repeat rw [if_neg (show ¬ (0 : Int32) = 2 by decide)]
        rcases full with ⟨q3, q3'⟩ | ⟨q3, q3', hlt⟩
        · repeat rw [if_pos q3]
          repeat rw [if_neg q3']
          exact ⟨rfl, M, T, RO_n h14⟩
        · repeat rw [if_neg q3]
          repeat rw [if_pos q3']
          exact al_n0 h14 hlt c1 c2 (by decide) (if_neg (by decide)).symm ⟨by decide, by decide⟩ (fun z => absurd z (by decide))
      · have u0 : isUnknownFor_R S x 0 of_ = 1 := by unfold isUnknownFor_R; rw [if_pos rfl, if_neg o0]
        rw [u0]
        repeat rw [if_neg (show ¬ (1 : Int32) = 0 by decide)]
        repeat rw [if_neg o0]
        exact ⟨rfl, M, T, RO_n h14⟩
    · repeat rw [if_neg a0]
      by_cases a1 : ac = 1
      · subst a1
        repeat rw [if_pos (show (1 : Int32) = 1 from rfl)]
        have e15 := (cnt_eq (N := 20) hOτ.1 (by decide)).1
        rcases fC h14.2.1 hOτ of_ with ⟨d, d1, d2, d3, d4, d5⟩ | ⟨d4, d5⟩
        · subst d3
          have u0 : isUnknownFor_R S x 1 (nI d) = 0 := by unfold isUnknownFor_R; rw [if_neg (show ¬ (1 : Int32) = 0 by decide), if_pos rfl, op_some d4]
          have v1 : ¬ nI d < (1 : Int32) := by
            rw [Int32.lt_iff_toInt_lt, nI_toInt (by omega)]
            have : (1 : Int32).toInt = 1 := rfl
            omega
          have v2 : ¬ mi τ 15 < nI d := by
            have hC15 : (mi τ 15).toNatClampNeg ≤ 20 := hC
            rw [e15, Int32.lt_iff_toInt_lt, nI_toInt (by omega), nI_toInt (by omega)]
            have : d ≤ (mi τ 15).toNatClampNeg := d2
            omega
          have hwc := wc_eq h14.1.1.2.1 h14.2.2.2.1.1 hC c1 c2 d1 d2
          have hld := leads_eq h14.2.2.2.2.1.1.2.2.2 hC d1 d2 (show c ≤ 20 by omega)
          rw [u0, d4]
          repeat rw [if_pos (show (0 : Int32) = 0 from rfl)]
          repeat rw [if_neg (show ¬ (1 : Int32) < 0 by decide)]
          repeat rw [if_pos (show (1 : Int32) ≤ 2 by decide)]
          repeat rw [if_neg (show ¬ (1 : Int32) = 2 by decide)]
          repeat rw [if_neg v1]
          repeat rw [if_neg v2]
          have hL : RO M x T n kt h0 t0 S (MleadsTo_S τ (nI d) (nI c)) := RO_m h14 (eqm_5 eq5_L)
          by_cases hcd : c = d ∨ T d c = true
          · have p1 : ¬ wouldCircle_R S (cA M c) (some (cA M d)) = 0 := fun z => hwc.mp z hcd
            have p2 : ¬ MleadsTo_R τ (nI d) (nI c) = 0 := fun z => hld.mp z hcd
            repeat rw [if_neg p1]
            repeat rw [if_neg p2]
            exact ⟨rfl, M, T, RO_n hL⟩
          · have p1 := hwc.mpr hcd
            have p2 := hld.mpr hcd
            repeat rw [if_pos p1]
            repeat rw [if_pos p2]
            have m16 : mi (MleadsTo_S τ (nI d) (nI c)) 16 = mi τ 16 := (eqm_5 (eq5_L (σ := τ) (a0 := nI d) (b0 := nI c))).1 16 (by decide)
            have nAe : nA (MleadsTo_S τ (nI d) (nI c)) = nA τ := congrArg Int32.toNatClampNeg m16
            have nCe : nC (MleadsTo_S τ (nI d) (nI c)) = nC τ := congrArg Int32.toNatClampNeg ((eqm_5 (eq5_L (σ := τ) (a0 := nI d) (b0 := nI c))).1 15 (by decide))
            rw [o21 (show c ≤ 1000 by omega) (show d ≤ 1000 by omega)]
            rw [← m16] at full
            rw [← nAe] at full
            rw [← nCe] at c2 d2
            generalize MleadsTo_S τ (nI d) (nI c) = υ at hL full c2 d2
            rcases full with ⟨q3, q3'⟩ | ⟨q3, q3', hlt⟩
            · repeat rw [if_pos q3]
              repeat rw [if_neg q3']
              exact ⟨rfl, M, T, RO_n hL⟩
            · repeat rw [if_neg q3]
              repeat rw [if_pos q3']
              exact al_n1 hL hlt c1 c2 d1 d2 hcd
        · have u0 : isUnknownFor_R S x 1 of_ = 1 := by unfold isUnknownFor_R; rw [if_neg (show ¬ (1 : Int32) = 0 by decide), if_pos rfl, op_none d4]
          rw [u0]
          repeat rw [if_neg (show ¬ (1 : Int32) = 0 by decide)]
          by_cases v1 : of_ < (1 : Int32)
          · repeat rw [if_pos v1]
            exact ⟨rfl, M, T, RO_n h14⟩
          · have v2 : mi τ 15 < of_ := by
              unfold Mno_R at d5
              rw [if_neg v1] at d5
              by_cases w : of_ ≤ mi τ 15
              · rw [if_pos w] at d5; exact absurd d5 (by decide)
              · exact Int32.not_le.mp w
            repeat rw [if_neg v1]
            repeat rw [if_pos v2]
            exact ⟨rfl, M, T, RO_n h14⟩
      · repeat rw [if_neg a1]
        have wn : wouldCircle_R S (cA M c) none = 0 := rfl
        rw [wn]
        by_cases a2 : ac = 2
        · subst a2
          repeat rw [if_pos (show (2 : Int32) = 2 from rfl)]
          rcases fA h14.2.1 hOτ of_ with ⟨d, d1, d2, d3, d4, d5⟩ | ⟨d4, d5⟩
          · have u0 : isUnknownFor_R S x 2 of_ = 0 := by unfold isUnknownFor_R; rw [if_neg (show ¬ (2 : Int32) = 0 by decide), if_neg (show ¬ (2 : Int32) = 1 by decide), if_pos rfl, op_some d4]
            rw [u0, d4, d5]
            repeat rw [if_pos (show (0 : Int32) = 0 from rfl)]
            repeat rw [if_neg (show ¬ (2 : Int32) < 0 by decide)]
            repeat rw [if_pos (show (2 : Int32) ≤ 2 by decide)]
            repeat rw [if_pos (show (0 : Int32) = 0 from rfl)]
            rcases full with ⟨q3, q3'⟩ | ⟨q3, q3', hlt⟩
            · repeat rw [if_pos q3]
              repeat rw [if_neg q3']
              exact ⟨rfl, M, T, RO_n h14⟩
            · repeat rw [if_neg q3]
              repeat rw [if_pos q3']
              refine al_n0 h14 hlt c1 c2 (by decide) ?_ ?_ (fun _ => ?_)
              · rw [if_pos rfl, d3, nI_clamp (by omega)]
              · rw [d3]; exact rg_nI0 (N := 100) (by omega) (by decide)
              · rw [d3]; exact rg_nI d1 d2 (by omega)
          · have u0 : isUnknownFor_R S x 2 of_ = 1 := by unfold isUnknownFor_R; rw [if_neg (show ¬ (2 : Int32) = 0 by decide), if_neg (show ¬ (2 : Int32) = 1 by decide), if_pos rfl, op_none d4]
            rw [u0, d5]
            repeat rw [if_neg (show ¬ (1 : Int32) = 0 by decide)]
            exact ⟨rfl, M, T, RO_n h14⟩
        · have u0 : isUnknownFor_R S x ac of_ = 0 := by unfold isUnknownFor_R; rw [if_neg a0, if_neg a1, if_neg a2]
          rw [u0]
          repeat rw [if_pos (show (0 : Int32) = 0 from rfl)]
          repeat rw [if_neg a2]
          by_cases q1 : ac < 0
          · repeat rw [if_pos q1]
            exact ⟨rfl, M, T, RO_n h14⟩
          · repeat rw [if_neg q1]
            have q2 : ¬ ac ≤ (2 : Int32) := fun z => by
              rw [Int32.le_iff_toInt_le] at z
              rw [Int32.lt_iff_toInt_lt] at q1
              have z2 : (2 : Int32).toInt = 2 := rfl
              have z0 : (0 : Int32).toInt = 0 := rfl
              have n0 : ac.toInt ≠ 0 := fun y => a0 (Int32.toInt_inj.mp (y.trans z0.symm))
              have n1 : ac.toInt ≠ 1 := fun y => a1 (Int32.toInt_inj.mp (y.trans (show (1 : Int32).toInt = 1 from rfl).symm))
              have n2 : ac.toInt ≠ 2 := fun y => a2 (Int32.toInt_inj.mp (y.trans z2.symm))
              omega
            repeat rw [if_neg q2]
            exact ⟨rfl, M, T, RO_n h14⟩
  · rw [op_none c4, op_none c4, c5, if_neg (by decide), if_neg (by decide)]
    exact ⟨rfl, M, T, RO_n h14⟩
