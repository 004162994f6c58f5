-- POINT AS A CALL
theorem neg_nI {d : Nat} (h : d ≤ 1000) : (-(nI d)).toInt = -(d : Int) := by
  rw [Int32.toInt_neg, nI_toInt (by omega)]
  exact Int.bmod_eq_of_le (by omega) (by omega)
theorem ofs1_nI {t p : Nat} (ht : t ≤ 100) (hp : p ≤ 1000) : ofs1 (nI t) (p + 1) = 20 * t + p := by
  show ((((20 : Int32) * nI t) + (nI (p + 1))) - (1 : Int32)).toNatClampNeg = _
  rw [← nI_1, ← Int32.add_assoc, Int32.add_sub_cancel]
  exact ofs_nI ht hp
theorem ptS_f {u q : Nat} (hu : u ≤ 20) : ∀ (k : Nat) (σ : MS), q + k ≤ 19 → mi (ptS (nI u) q k σ) = mi σ ∧ (∀ j, j ≠ 16 → ma (ptS (nI u) q k σ) j = ma σ j) ∧ (∀ j, j ≠ 15 → ml (ptS (nI u) q k σ) j = ml σ j) ∧ ∀ i, ml (ptS (nI u) q k σ) 15 i = (if 20 * u + q < i ∧ i ≤ 20 * u + (q + k) then ml σ 15 (i - 1) else ml σ 15 i) ∧ ma (ptS (nI u) q k σ) 16 i = (if 20 * u + q < i ∧ i ≤ 20 * u + (q + k) then ma σ 16 (i - 1) else ma σ 16 i)
  | 0, σ, _ => ⟨rfl, fun _ _ => rfl, fun _ _ => rfl, fun i => ⟨(if_neg (by omega)).symm, (if_neg (by omega)).symm⟩⟩
  | k + 1, σ, h => by
    have e1 : ofs (nI u) (q + (k + 1)) = 20 * u + (q + k + 1) := ofs_nI (by omega) (by omega)
    have e2 : ofs1 (nI u) (q + (k + 1)) = 20 * u + (q + k) := ofs1_nI (t := u) (p := q + k) (by omega) (by omega)
    obtain ⟨h1, h2, h3, h4⟩ := ptS_f (q := q) hu k (sma (sml σ 15 (20 * u + (q + k + 1)) (ml σ 15 (20 * u + (q + k)))) 16 (20 * u + (q + k + 1)) (ma σ 16 (20 * u + (q + k)))) (by omega)
    have hs : ptS (nI u) q (k + 1) σ = ptS (nI u) q k (sma (sml σ 15 (20 * u + (q + k + 1)) (ml σ 15 (20 * u + (q + k)))) 16 (20 * u + (q + k + 1)) (ma σ 16 (20 * u + (q + k)))) := by
      show ptS (nI u) q k (sma (sml σ 15 (ofs (nI u) (q + (k + 1))) (ml σ 15 (ofs1 (nI u) (q + (k + 1))))) 16 (ofs (nI u) (q + (k + 1))) (ma σ 16 (ofs1 (nI u) (q + (k + 1))))) = _
      rw [e1, e2]
    rw [hs]
    refine ⟨h1.trans rfl, fun j hj => (h2 j hj).trans (funext fun i => ra_a hj), fun j hj => (h3 j hj).trans (funext fun i => rl_a.trans (rl_l hj)), fun i => ?_⟩
    obtain ⟨h5, h6⟩ := h4 i
    rw [h5, h6]
    by_cases c1 : 20 * u + q < i ∧ i ≤ 20 * u + (q + k)
    · rw [if_pos c1, if_pos c1, if_pos (by omega), if_pos (by omega)]
      exact ⟨rl_a.trans (rl_n (by omega)), (ra_n (by omega)).trans ra_l⟩
    · rw [if_neg c1, if_neg c1]
      by_cases c2 : i = 20 * u + (q + k + 1)
      · subst c2
        rw [if_pos (by omega), if_pos (by omega)]
        refine ⟨rl_a.trans (rl_s.trans ?_), ra_s.trans ?_⟩
        · rw [show 20 * u + (q + k + 1) - 1 = 20 * u + (q + k) by omega]
        · rw [show 20 * u + (q + k + 1) - 1 = 20 * u + (q + k) by omega]
      · rw [if_neg (by omega), if_neg (by omega)]
        exact ⟨rl_a.trans (rl_n c2), (ra_n c2).trans ra_l⟩
theorem mP3 {σ : MS} {u q N : Nat} {off : Int64} {ac : Int32} (hu : u ≤ 20) (hq : q ≤ N) (hN : N ≤ 19) (e14 : ma σ 14 u = nI N) : mi (Mp3_S σ (nI u) off ac q N) = mi σ ∧ (∀ j, j ≠ 14 → j ≠ 16 → ma (Mp3_S σ (nI u) off ac q N) j = ma σ j) ∧ (∀ d, d ≠ u → ma (Mp3_S σ (nI u) off ac q N) 14 d = ma σ 14 d) ∧ ma (Mp3_S σ (nI u) off ac q N) 14 u = nI (N + 1) ∧ (∀ j, j ≠ 15 → ml (Mp3_S σ (nI u) off ac q N) j = ml σ j) ∧ ∀ i, ml (Mp3_S σ (nI u) off ac q N) 15 i = (if i = 20 * u + q then off else if 20 * u + q < i ∧ i ≤ 20 * u + N then ml σ 15 (i - 1) else ml σ 15 i) ∧ ma (Mp3_S σ (nI u) off ac q N) 16 i = (if i = 20 * u + q then ac else if 20 * u + q < i ∧ i ≤ 20 * u + N then ma σ 16 (i - 1) else ma σ 16 i) := by
  obtain ⟨h1, h2, h3, h4⟩ := ptS_f (u := u) (q := q) hu (N - q) σ (by omega)
  have e0 : (nI u).toNatClampNeg = u := nI_clamp (by omega)
  have e1 : (((20 : Int32) * nI u) + (nI q)).toNatClampNeg = 20 * u + q := ofs_nI (by omega) (by omega)
  unfold Mp3_S Mp4_S
  rw [e0, e1]
  generalize ptS (nI u) q (N - q) σ = υ at h1 h2 h3 h4
  have hv : ma υ 14 u = nI N := by rw [h2 14 (by decide)]; exact e14
  refine ⟨h1, fun j q1 q2 => (funext fun i => (ra_a q1).trans ((ra_a q2).trans ra_l)).trans (h2 j q2), fun d hd => (ra_n hd).trans ((ra_a (by decide)).trans (ra_l.trans (by rw [h2 14 (by decide)]))), ra_s.trans (by rw [hv]; exact nI_1 _), fun j hj => (funext fun i => rl_a.trans (rl_a.trans (rl_l hj))).trans (h3 j hj), fun i => ?_⟩
  obtain ⟨h5, h6⟩ := h4 i
  rw [show q + (N - q) = N by omega] at h5 h6
  by_cases c : i = 20 * u + q
  · subst c
    rw [if_pos rfl, if_pos rfl]
    exact ⟨rl_a.trans (rl_a.trans rl_s), (ra_a (by decide)).trans ra_s⟩
  · rw [if_neg c, if_neg c]
    exact ⟨(rl_a.trans (rl_a.trans (rl_n c))).trans h5, ((ra_a (by decide)).trans ((ra_n c).trans ra_l)).trans h6⟩
theorem ptE {M : AM} {x : Nat} {S : HS} {σ : MS} {u q c : Nat} {off : Int64} {c0 a0 : Option Nat} (hI : sInv S x) (hR : RS M S σ) (u1 : 1 ≤ u) (u2 : u ≤ nT σ) (hc : (ma σ 12 u).toNatClampNeg = c) (hq : plc (fun p => ml σ 15 (20 * u + p)) off (npT σ u) q) : pointE_S S x (tA M u) off c0 a0 = link_S (inS (ptX S off c0 a0) (tA M u) (hz S) (bfO M u q)) x (cA M c) c0 := by
  have live : ∀ a, kd S a ≠ 0 → a < hz S := fun a ha => hI.1.2 a (hI.1.1.1 a ha)
  have hb := pb_eq (M := M) (S := ptX S off c0 a0) (off := off) (u := u) (f := fun p => ml σ 15 (20 * u + p)) (fun p hp => by
    have k := hR.2.2.2.2.2 u p u1 u2 hp
    rw [ptX_fl _ _ (live _ (by rw [k.1]; decide))]
    exact k.2.1) hq (npT σ u) 0 (by omega) (Nat.zero_le _)
  have hb : pbL (ptX S off c0 a0) off none (pLs M u (npT σ u) 0) = bfO M u q := hb
  have kt := hR.2.2.2.2.1 u u1 u2
  have own : gd (fr (inS (ptX S off c0 a0) (tA M u) (hz S) (bfO M u q)) 13 (tA M u)) = cA M c := by
    rw [inS_k _ _ (by decide) (by decide), ptX_fr _ _ (live _ (by rw [kt.1]; decide)), kt.2.2.1, hc]
    rfl
  unfold pointE_S
  rw [cho_pts hR u1 u2]
  show link_S (inS (ptX S off c0 a0) (tA M u) (hz S) (pbL (ptX S off c0 a0) (fl (ptX S off c0 a0) 8 (hz S)) none (pLs M u (npT σ u) 0))) x (gd (fr (inS (ptX S off c0 a0) (tA M u) (hz S) (pbL (ptX S off c0 a0) (fl (ptX S off c0 a0) 8 (hz S)) none (pLs M u (npT σ u) 0))) 13 (tA M u))) c0 = _
  rw [ptX_fl8, hb, own]
theorem pt_new {M : AM} {x : Nat} {T T' : Nat → Nat → Bool} {n kt h0 t0 : Nat} {S : HS} {σ υ : MS} (h : RO M x T n kt h0 t0 S σ) {u q : Nat} (u1 : 1 ≤ u) (u2 : u ≤ nT σ) (hN : npT σ u < 20) {off : Int64} (hq : plc (fun p => ml σ 15 (20 * u + p)) off (npT σ u) q) (hno : ¬ (q < npT σ u ∧ ml σ 15 (20 * u + q) = off)) (hr : ma σ 19 u = 0) (hoff : 0 ≤ off.toInt ∧ off.toInt ≤ (ml σ 13 u).toInt) {ac : Int32} {c0 a0 : Option Nat}
    (hc0 : c0 = if 0 < ac then some (cA M ac.toNatClampNeg) else none) (ha0 : a0 = if ac < 0 then some (aA M (-ac).toNatClampNeg) else none) (ho1 : 0 < ac → inC σ ac) (ho2 : ac < 0 → rg 1 (nA σ) (-ac)) (hac : rg (-100) 20 ac)
    (he : e3 (inS (ptX S off c0 a0) (tA M u) (hz S) (bfO M u q)) (pointE_S S x (tA M u) off c0 a0))
    (hb : ∀ j, 1 ≤ j → j ≤ nC σ → fi (pointE_S S x (tA M u) off c0 a0) 2 (cA M j) = bt j ∧ ∀ e, 1 ≤ e → e ≤ 20 → (T' j e = true ↔ ¬ fi (pointE_S S x (tA M u) off c0 a0) 3 (cA M j) &&& bt e = 0))
    (hT : Tr (nC σ) υ T') (hld : ∀ a b, ld σ a b → ld υ a b) (hl1 : 0 < ac → ld υ (ma σ 12 u).toNatClampNeg ac.toNatClampNeg)
    (mie : mi υ = mi σ) (maj : ∀ j, 6 ≤ j → ma υ j = ma σ j) (mle : ml υ = ml σ) : pointE_R S x (tA M u) off c0 a0 = Mp3_R υ (nI u) off ac q (npT σ u) ∧ ∃ M' T', RO M' x T' (n + 1) kt h0 t0 (pointE_S S x (tA M u) off c0 a0) (Mp3_S υ (nI u) off ac q (npT σ u)) := by
  have hO := h.2.2.2.2.1.1.1
  have hT20 := h.2.2.2.2.1.2.1.1.1.2.2.2
  have e14 : ma υ 14 u = nI (npT σ u) := by
    rw [maj 14 (by decide)]
    exact (rg_cl (hi := 20) (hO.2.2.2.2.2.2.1 u) (by decide)).1
  have hR0 : Mp3_R υ (nI u) off ac q (npT σ u) = ma (Mp3_S υ (nI u) off ac q (npT σ u)) 14 u := by
    have e0 : (nI u).toNatClampNeg = u := nI_clamp (by omega)
    unfold Mp3_R Mp3_S Mp4_R Mp4_S
    rw [e0]
    exact ra_s.symm
  obtain ⟨f1, f2, f3, f4, f5, f6⟩ := mP3 (σ := υ) (off := off) (ac := ac) (show u ≤ 20 by omega) hq.1 (by omega) e14
  rw [hR0]
  generalize Mp3_S υ (nI u) off ac q (npT σ u) = τ at f1 f2 f3 f4 f5 f6
  have hle := hq.1
  have hq19 : npT σ u ≤ 19 := by omega
  have key : RO (upP M u q (hz S)) x T' (n + 1) kt h0 t0 (pointE_S S x (tA M u) off c0 a0) τ := by
    refine RO_point h u1 u2 hN hq hno hr hoff hc0 ha0 ho1 ho2 he hb (Tr_4 hT (f2 4 (by decide) (by decide))) (fun a b hl => ?_) (fun z => ?_) (f1.trans mie) (fun j h4 h14 h16 => (f2 j h14 h16).trans (maj j h4)) (fun d hd => (f3 d hd).trans (by rw [maj 14 (by decide)])) f4 (fun j hj => (f5 j hj).trans (by rw [mle])) (fun t p ht hp => ?_) (fun p hp => ?_) ?_ (fun p hp hp2 => ?_) ?_
    · have := hld a b hl
      unfold ld at this ⊢
      rw [f2 4 (by decide) (by decide)]
      exact this
    · have := hl1 z
      unfold ld at this ⊢
      rw [f2 4 (by decide) (by decide)]
      exact this
    · rw [(f6 _).1, (f6 _).2, if_neg (by omega), if_neg (by omega), if_neg (by omega), if_neg (by omega), mle, maj 16 (by decide)]
      exact ⟨rfl, rfl⟩
    · rw [(f6 _).1, (f6 _).2, if_neg (by omega), if_neg (by omega), if_neg (by omega), if_neg (by omega), mle, maj 16 (by decide)]
      exact ⟨rfl, rfl⟩
    · rw [(f6 _).1, (f6 _).2, if_pos rfl, if_pos rfl]
      exact ⟨rfl, rfl⟩
    · have c1 : ¬ 20 * u + p = 20 * u + q := by omega
      have c2 : 20 * u + q < 20 * u + p ∧ 20 * u + p ≤ 20 * u + npT σ u := ⟨by omega, Nat.add_le_add_left hp2 _⟩
      rw [(f6 _).1, (f6 _).2, if_neg c1, if_pos c2, if_neg c1, if_pos c2, mle, maj 16 (by decide), show 20 * u + p - 1 = 20 * u + (p - 1) by omega]
      exact ⟨rfl, rfl⟩
    · obtain ⟨h15, h16, h17, h6, h8, h12, h14, h16a, h17a, h21, h26, h27⟩ := hO
      have g : ∀ j, 6 ≤ j → j ≠ 14 → j ≠ 16 → ma τ j = ma σ j := fun j q1 q2 q3 => (f2 j q2 q3).trans (maj j q1)
      refine ⟨by rw [f1, mie]; exact h15, by rw [f1, mie]; exact h16, by rw [f1, mie]; exact h17, fun a => ?_, fun a => ?_, fun a => ?_, fun a => ?_, fun a => ?_, fun a => ?_, fun a => ?_, fun a => ?_, fun a => ?_⟩
      · rw [g 6 (by decide) (by decide) (by decide)]; exact h6 a
      · rw [g 8 (by decide) (by decide) (by decide)]; exact h8 a
      · rw [g 12 (by decide) (by decide) (by decide)]; exact h12 a
      · by_cases e : a = u
        · rw [e, f4]; exact rg_nI0 (N := 20) (by omega) (by decide)
        · rw [f3 a e, maj 14 (by decide)]; exact h14 a
      · rw [(f6 a).2, maj 16 (by decide)]
        split
        · exact hac
        · split
          · exact h16a _
          · exact h16a _
      · rw [g 17 (by decide) (by decide) (by decide)]; exact h17a a
      · rw [g 21 (by decide) (by decide) (by decide)]; exact h21 a
      · rw [g 26 (by decide) (by decide) (by decide)]; exact h26 a
      · rw [g 27 (by decide) (by decide) (by decide)]; exact h27 a
  refine ⟨?_, _, _, key⟩
  have := key.2.2.1.2.1 u u1 (by have : nT τ = nT σ := (show (mi τ 17).toNatClampNeg = _ by rw [f1, mie]); omega)
  exact this
/-- the class's tree from the offset on -/
noncomputable def ptI_R (S : HS) (x b : Nat) (off : Int64) (c0 a0 : Option Nat) : Int32 := if off < (0 : Int64) then (-2 : Int32) else if (fl S 9 b) < off then (-2 : Int32) else if (fi S 8 b) = 0 then if (hasPointAt_R S b off (cho (fr S 12) (fr S 14 b))) = 0 then if (wouldCircle_R S (gd (fr S 13 b)) c0) = 0 then if (fi S 7 b) < (20 : Int32) then pointE_R S x b off c0 a0 else (-4 : Int32) else (-3 : Int32) else (-3 : Int32) else (-3 : Int32)
noncomputable def ptI_S (S : HS) (x b : Nat) (off : Int64) (c0 a0 : Option Nat) : HS := if off < (0 : Int64) then S else if (fl S 9 b) < off then S else if (fi S 8 b) = 0 then if (hasPointAt_R S b off (cho (fr S 12) (fr S 14 b))) = 0 then if (wouldCircle_R S (gd (fr S 13 b)) c0) = 0 then if (fi S 7 b) < (20 : Int32) then pointE_S S x b off c0 a0 else S else S else S else S
set_option maxRecDepth 20000 in
set_option maxHeartbeats 1000000 in
theorem pt_in {M : AM} {x : Nat} {T : Nat → Nat → Bool} {n kt h0 t0 : Nat} {S : HS} {σ : MS} (h : RO M x T n kt h0 t0 S σ) {u : Nat} (u1 : 1 ≤ u) (u2 : u ≤ nT σ) (off : Int64) {ac : Int32} {c0 a0 : Option Nat} (hc0 : c0 = if 0 < ac then some (cA M ac.toNatClampNeg) else none) (ha0 : a0 = if ac < 0 then some (aA M (-ac).toNatClampNeg) else none) (ho1 : 0 < ac → inC σ ac) (ho2 : ac < 0 → rg 1 (nA σ) (-ac)) (hac : rg (-100) 20 ac) : ptI_R S x (tA M u) off c0 a0 = (if off < (0 : Int64) then (-2 : Int32) else if (ml σ 13 u) < off then (-2 : Int32) else Mp1_R σ (nI u) off ac) ∧ ∃ M' T', RO M' x T' (n + 1) kt h0 t0 (ptI_S S x (tA M u) off c0 a0) (if off < (0 : Int64) then σ else if (ml σ 13 u) < off then σ else Mp1_S σ (nI u) off ac) := by
  have hO := h.2.2.2.2.1.1.1
  have w1 := h.2.2.2.2.1.2.1.1
  have hC := w1.1.2.1
  have hT20 := w1.1.2.2.2
  have hI := h.1.1.1
  have hR := h.1.1.2.1
  have k := hR.2.2.2.2.1 u u1 u2
  have kd8 := (h.1.1.2.2.2.2.1 u u1 u2).1
  have e0 : (nI u).toNatClampNeg = u := nI_clamp (by omega)
  obtain ⟨ec, c1, c2⟩ := inC_20 (w1.2.2 u u1 u2).1 hC
  obtain ⟨e14, b14⟩ := rg_cl (hi := 20) (hO.2.2.2.2.2.2.1 u) (by decide)
  have asc : ∀ p, p < npT σ u → ∀ p', p' < p → (ml σ 15 (20 * u + p')).toInt < (ml σ 15 (20 * u + p)).toInt := fun p hp => ((w1.2.2 u u1 u2).2.2.2.2 p hp).2.1
  obtain ⟨q, hq⟩ := plc_ex (f := fun p => ml σ 15 (20 * u + p)) (off := off) (npT σ u) asc
  have hQ := ptQ_0 (σ := σ) (t0 := nI u) (f := fun p => ml σ 15 (20 * u + p)) (fun p hp => by
    have hp : p < (ma σ 14 u).toNatClampNeg := hp
    rw [show ofs (nI u) p = 20 * u + p from ofs_nI (by omega) (by omega)]) asc hq
  have hP := hasPt hR u1 u2 hq
  have own : gd (fr S 13 (tA M u)) = cA M (ma σ 12 u).toNatClampNeg := by rw [k.2.2.1]; rfl
  have f7 : fi S 7 (tA M u) = ma σ 14 u := h.2.2.1.2.1 u u1 u2
  have rl := h.2.2.2.1.1
  have live : ∀ a, kd S a ≠ 0 → a < hz S := fun a ha => hI.1.2 a (hI.1.1.1 a ha)
  have full : (ma σ 14 u = (20 : Int32) ∧ ¬ fi S 7 (tA M u) < (20 : Int32)) ∨ (¬ ma σ 14 u = (20 : Int32) ∧ fi S 7 (tA M u) < (20 : Int32) ∧ npT σ u < 20) := by
    by_cases q3 : ma σ 14 u = (20 : Int32)
    · exact Or.inl ⟨q3, by rw [f7, q3]; decide⟩
    · have hlt : (ma σ 14 u).toNatClampNeg < 20 := by
        rcases Nat.lt_or_ge ((ma σ 14 u).toNatClampNeg) 20 with z | z
        · exact z
        · exact absurd (by rw [e14, show (ma σ 14 u).toNatClampNeg = 20 by omega]; rfl) q3
      refine Or.inr ⟨q3, ?_, hlt⟩
      rw [f7, e14, show (20 : Int32) = nI 20 from rfl]
      exact (nI_ltI (by omega) (by decide)).mpr hlt
  unfold ptI_R ptI_S Mp1_R Mp1_S
  rw [show npt σ (nI u) = npT σ u by show (ma σ 14 (nI u).toNatClampNeg).toNatClampNeg = _; rw [e0], hQ, cho_pts hR u1 u2, hP, k.2.2.2.1, kd8, own]
  by_cases p1 : off < (0 : Int64)
  · repeat rw [if_pos p1]
    exact ⟨rfl, M, T, RO_n h⟩
  · repeat rw [if_neg p1]
    by_cases p2 : ml σ 13 u < off
    · repeat rw [if_pos p2]
      exact ⟨rfl, M, T, RO_n h⟩
    · repeat rw [if_neg p2]
      have hoff : 0 ≤ off.toInt ∧ off.toInt ≤ (ml σ 13 u).toInt := by
        rw [Int64.lt_iff_toInt_lt] at p1 p2
        have z0 : (0 : Int64).toInt = 0 := rfl
        omega
      unfold Mp2_R Mp2_S
      rw [e0, show npt σ (nI u) = npT σ u by show (ma σ 14 (nI u).toNatClampNeg).toNatClampNeg = _; rw [e0]]
      dsimp only
      by_cases hno : q < npT σ u ∧ ml σ 15 (20 * u + q) = off
      · have v1 : ¬ (1 : Int32) = 0 := by decide
        repeat rw [if_pos hno]
        repeat rw [if_neg v1]
        by_cases hr : ma σ 19 u = 0
        · repeat rw [if_pos hr]
          exact ⟨rfl, M, T, RO_n h⟩
        · repeat rw [if_neg hr]
          exact ⟨rfl, M, T, RO_n h⟩
      · repeat rw [if_neg hno]
        repeat rw [if_pos (show (0 : Int32) = 0 from rfl)]
        by_cases hr : ma σ 19 u = 0
        · repeat rw [if_pos hr]
          by_cases a1 : ac ≤ 0
          · have a1' : ¬ 0 < ac := fun z => Int32.not_le.mpr z a1
            rw [if_neg a1'] at hc0
            subst hc0
            repeat rw [if_pos a1]
            have wn : wouldCircle_R S (cA M (ma σ 12 u).toNatClampNeg) none = 0 := rfl
            rw [wn]
            repeat rw [if_pos (show (0 : Int32) = 0 from rfl)]
            rcases full with ⟨q3, q3'⟩ | ⟨q3, q3', hlt⟩
            · repeat rw [if_pos q3]
              repeat rw [if_neg q3']
              exact ⟨rfl, M, T, RO_n h⟩
            · repeat rw [if_neg q3]
              repeat rw [if_pos q3']
              have hE := ptE (x := x) (c0 := none) (a0 := a0) hI hR u1 u2 rfl hq
              refine pt_new h u1 u2 hlt hq hno hr hoff (if_neg a1').symm ha0 ho1 ho2 hac ?_ (T' := T) (fun j j1 j2 => ?_) h.2.2.2.2.1.1.2.2.2 (fun _ _ z => z) (fun z => absurd z a1') rfl (fun _ _ => rfl) rfl
              · rw [hE]; exact e3.rf _
              · have hq' := live (cA M j) (by rw [(hR.2.2.1 j j1 j2).1]; decide)
                rw [hE]
                show fi (inS (ptX S off none a0) (tA M u) (hz S) (bfO M u q)) 2 (cA M j) = bt j ∧ ∀ e, 1 ≤ e → e ≤ 20 → (T j e = true ↔ ¬ fi (inS (ptX S off none a0) (tA M u) (hz S) (bfO M u q)) 3 (cA M j) &&& bt e = 0)
                rw [inS_fi, up2_k _ _ _ _ (by decide), up2_k _ _ _ _ (by decide), ptX_fi _ _ hq', ptX_fi _ _ hq']
                exact rl j j1 j2
          · have a1' : 0 < ac := Int32.not_le.mp a1
            rw [if_pos a1'] at hc0
            subst hc0
            repeat rw [if_neg a1]
            obtain ⟨ed, d1, d2⟩ := inC_20 (ho1 a1') hC
            have a2' : ¬ ac < 0 := fun z => a1 (Int32.le_of_lt z)
            rw [if_neg a2'] at ha0
            subst ha0
            have hwc := wc_eq hR rl hC c1 c2 d1 d2
            have hld := leads_eq h.2.2.2.2.1.1.2.2.2 hC d1 d2 (show (ma σ 12 u).toNatClampNeg ≤ 20 by omega)
            rw [← ed, ← ec] at hld
            have hL : RO M x T n kt h0 t0 S (MleadsTo_S σ ac (ma σ 12 u)) := RO_m h (eqm_5 eq5_L)
            by_cases hcd : (ma σ 12 u).toNatClampNeg = ac.toNatClampNeg ∨ T ac.toNatClampNeg (ma σ 12 u).toNatClampNeg = true
            · have y1 : ¬ wouldCircle_R S (cA M (ma σ 12 u).toNatClampNeg) (some (cA M ac.toNatClampNeg)) = 0 := fun z => hwc.mp z hcd
              have y2 : ¬ MleadsTo_R σ ac (ma σ 12 u) = 0 := fun z => hld.mp z hcd
              repeat rw [if_neg y1]
              repeat rw [if_neg y2]
              exact ⟨rfl, M, T, RO_n hL⟩
            · have y1 := hwc.mpr hcd
              have y2 := hld.mpr hcd
              repeat rw [if_pos y1]
              repeat rw [if_pos y2]
              obtain ⟨m1, m2, m3⟩ := eq5_L (σ := σ) (a0 := ac) (b0 := ma σ 12 u)
              have o1 : (((21 : Int32) * (ma σ 12 u)) + ac).toNatClampNeg = 21 * (ma σ 12 u).toNatClampNeg + ac.toNatClampNeg := by
                have := o21 (i := (ma σ 12 u).toNatClampNeg) (d := ac.toNatClampNeg) (by omega) (by omega)
                rw [← ed, ← ec] at this
                exact this
              rw [o1]
              rcases full with ⟨q3, q3'⟩ | ⟨q3, q3', hlt⟩
              · repeat rw [if_pos q3]
                repeat rw [if_neg q3']
                exact ⟨rfl, M, T, RO_n hL⟩
              · repeat rw [if_neg q3]
                repeat rw [if_pos q3']
                have hE := ptE (x := x) (c0 := some (cA M ac.toNatClampNeg)) (a0 := none) hI hR u1 u2 rfl hq
                have kx : kd S x = 8 := hI.2.1
                have xq := live x (by rw [kx]; decide)
                generalize MleadsTo_S σ ac (ma σ 12 u) = υ0 at m1 m2 m3
                have h4 : ∀ i, ma (sma (υ0) 4 (21 * (ma σ 12 u).toNatClampNeg + ac.toNatClampNeg) 1) 4 i = if i = 21 * (ma σ 12 u).toNatClampNeg + ac.toNatClampNeg then 1 else ma σ 4 i := fun i => by
                  by_cases e : i = 21 * (ma σ 12 u).toNatClampNeg + ac.toNatClampNeg
                  · rw [if_pos e, e]; exact ra_s
                  · rw [if_neg e, ← m3 4 (by decide)]; exact ra_n e
                have hlk := link_eff (M := M) (x := x) (X := inS (ptX S off (some (cA M ac.toNatClampNeg)) none) (tA M u) (hz S) (bfO M u q)) (σ := σ) (T := T) (by
                    rw [inS_fi, up2_k _ _ _ _ (by decide), ptX_fi _ _ xq, h.2.1.1.1]
                    exact (cnt_eq (N := 20) hO.1 (by decide)).1) (fun j j1 j2 => by
                    rw [inS_st.2.2.2.2.1, inS_k _ _ (by decide) (by decide), ptX_fr _ _ xq, ptX_st.2.2.1]
                    exact h.2.1.2.2.1 j j1 j2) hR.2.1.1 (fun j j1 j2 => by
                    have hq' := live (cA M j) (by rw [(hR.2.2.1 j j1 j2).1]; decide)
                    rw [inS_fi, up2_k _ _ _ _ (by decide), up2_k _ _ _ _ (by decide), ptX_fi _ _ hq', ptX_fi _ _ hq']
                    exact rl j j1 j2) c1 c2 d1 d2 hC
                refine pt_new (υ := sma (υ0) 4 (21 * (ma σ 12 u).toNatClampNeg + ac.toNatClampNeg) 1) h u1 u2 hlt hq hno hr hoff (if_pos a1').symm (if_neg a2').symm ho1 ho2 hac ?_ (T' := lkT T (ma σ 12 u).toNatClampNeg ac.toNatClampNeg) ?_ (Tr_link h.2.2.2.2.1.1.2.2.2 hC c1 c2 d1 d2 hcd h4) (fun a b hl => ?_) (fun _ => ?_) m1 (fun j hj => ?_) m2
                · rw [hE]; exact hlk.1
                · rw [hE]; exact hlk.2
                · show ¬ ma _ 4 (21 * a + b) = 0
                  rw [h4]
                  split
                  · decide
                  · exact hl
                · show ¬ ma _ 4 (21 * (ma σ 12 u).toNatClampNeg + ac.toNatClampNeg) = 0
                  rw [h4, if_pos rfl]
                  decide
                · exact (funext fun i => ra_a (by omega)).trans (m3 j (by omega))
        · repeat rw [if_neg hr]
          exact ⟨rfl, M, T, RO_n h⟩
set_option maxHeartbeats 1000000 in
theorem o_point {M : AM} {x : Nat} {T : Nat → Nat → Bool} {n kt h0 t0 : Nat} {S : HS} {σ : MS} (h : RO M x T n kt h0 t0 S σ) (t : Int32) (off : Int64) (ac : Int32) : point_R S x t off ac = Mpoint_R σ t off ac ∧ ∃ M' T', RO M' x T' (n + 1) kt h0 t0 (point_S S x t off ac) (Mpoint_S σ t off ac) := by
  have hO := h.2.2.2.2.1.1.1
  have h14 : RO M x T n kt h0 t0 S (smi σ 14 0) := RO_m h eqm_14
  have f1 : MnoTable_R σ t = MnoTable_R (smi σ 14 0) t := rfl
  unfold Mpoint_R Mpoint_S
  rw [MnoTable_e, f1]
  generalize smi σ 14 0 = τ at h14
  have hOτ := h14.2.2.2.2.1.1.1
  have w1 := h14.2.2.2.2.1.2.1.1
  have hC := w1.1.2.1
  have hA100 := w1.1.2.2.1
  have hT20 := w1.1.2.2.2
  obtain ⟨e15, b15⟩ := cnt_eq (N := 20) hOτ.1 (by decide)
  obtain ⟨e16, b16⟩ := cnt_eq (N := 100) hOτ.2.1 (by decide)
  have z0 : (0 : Int32).toInt = 0 := rfl
  have none1 : findTable_R S x t = none → point_R S x t off ac = -1 ∧ point_S S x t off ac = S := fun hn => by
    unfold point_R point_S
    constructor
    · split
      · split
        · exact op_none hn
        · exact op_none hn
      · exact op_none hn
    · split
      · split
        · exact op_none hn
        · exact op_none hn
      · exact op_none hn
  rcases fT h14.2.1 hOτ t with ⟨u, u1, u2, u3, u4, u5⟩ | ⟨u4, u5⟩
  · subst u3
    have e0 : (nI u).toNatClampNeg = u := nI_clamp (by omega)
    rw [u5, e0]
    repeat rw [if_pos (show (0 : Int32) = 0 from rfl)]
    by_cases a0 : ac = 0
    · subst a0
      have r1 : point_R S x (nI u) off 0 = ptI_R S x (tA M u) off none none := by
        unfold point_R
        rw [if_pos (show (0 : Int32) ≤ 0 by decide), if_pos (show (0 : Int32) ≤ 0 by decide), op_some u4, if_pos rfl]
        rfl
      have r2 : point_S S x (nI u) off 0 = ptI_S S x (tA M u) off none none := by
        unfold point_S
        rw [if_pos (show (0 : Int32) ≤ 0 by decide), if_pos (show (0 : Int32) ≤ 0 by decide), op_some u4, if_pos rfl]
        rfl
      have v1 : ¬ mi τ 15 < (0 : Int32) := by
        rw [Int32.lt_iff_toInt_lt, z0]
        have := hOτ.1.1
        omega
      rw [r1, r2]
      repeat rw [if_neg v1]
      repeat rw [if_pos (show (0 : Int32) ≤ 0 by decide)]
      exact pt_in h14 u1 u2 off (if_neg (by decide)).symm (if_neg (by decide)).symm (fun z => absurd z (by decide)) (fun z => absurd z (by decide)) ⟨by decide, by decide⟩
    · by_cases a1 : ac ≤ 0
      · -- cancels an alarm
        have a2 : ac < 0 := by
          rw [Int32.le_iff_toInt_le] at a1
          rw [Int32.lt_iff_toInt_lt]
          have : ac.toInt ≠ 0 := fun y => a0 (Int32.toInt_inj.mp (y.trans z0.symm))
          omega
        have a3 : ¬ 0 ≤ ac := Int32.not_le.mpr a2
        have a4 : ¬ 0 < ac := fun z => Int32.not_le.mpr z a1
        have v1 : ¬ mi τ 15 < ac := by
          rw [Int32.lt_iff_toInt_lt]
          rw [Int32.lt_iff_toInt_lt] at a2
          have := hOτ.1.1
          omega
        repeat rw [if_neg v1]
        repeat rw [if_neg a3]
        rcases fA h14.2.1 hOτ (-ac) with ⟨d, d1, d2, d3, d4, d5⟩ | ⟨d4, d5⟩
        · have r1 : point_R S x (nI u) off ac = ptI_R S x (tA M u) off none (some (aA M d)) := by
            unfold point_R
            rw [if_pos a1, if_neg a3, op_some u4, if_neg a0, op_some d4, d4]
            rfl
          have r2 : point_S S x (nI u) off ac = ptI_S S x (tA M u) off none (some (aA M d)) := by
            unfold point_S
            rw [if_pos a1, if_neg a3, op_some u4, if_neg a0, op_some d4, d4]
            rfl
          have hd : ac.toInt = -(d : Int) := by
            have e1 : ac = -(nI d) := by rw [← d3, Int32.neg_neg]
            rw [e1]
            exact neg_nI (by omega)
          have v2 : ¬ ac < (-100 : Int32) := by
            rw [Int32.lt_iff_toInt_lt, hd]
            have : (-100 : Int32).toInt = -100 := rfl
            omega
          rw [r1, r2, d5]
          repeat rw [if_neg v2]
          repeat rw [if_pos (show (0 : Int32) = 0 from rfl)]
          refine pt_in h14 u1 u2 off (if_neg a4).symm ?_ (fun z => absurd z a4) (fun _ => ?_) ⟨by omega, by omega⟩
          · rw [if_pos a2, d3, nI_clamp (by omega)]
          · rw [d3]; exact rg_nI d1 d2 (by omega)
        · have r1 : point_R S x (nI u) off ac = -1 := by
            unfold point_R
            rw [if_pos a1, if_neg a3, op_some u4, if_neg a0, op_none d4]
          have r2 : point_S S x (nI u) off ac = S := by
            unfold point_S
            rw [if_pos a1, if_neg a3, op_some u4, if_neg a0, op_none d4]
          rw [r1, r2, d5]
          repeat rw [if_neg (show ¬ (1 : Int32) = 0 by decide)]
          by_cases v2 : ac < (-100 : Int32)
          · repeat rw [if_pos v2]
            exact ⟨rfl, M, T, RO_n h14⟩
          · repeat rw [if_neg v2]
            exact ⟨rfl, M, T, RO_n h14⟩
      · -- steps a counter
        have a2 : 0 < ac := Int32.not_le.mp a1
        have a3 : 0 ≤ ac := Int32.le_of_lt a2
        have a4 : ¬ ac < 0 := fun z => a1 (Int32.le_of_lt z)
        have a5 : ¬ ac < (1 : Int32) := by
          rw [Int32.lt_iff_toInt_lt] at a2 ⊢
          have : (1 : Int32).toInt = 1 := rfl
          omega
        rcases fC h14.2.1 hOτ ac with ⟨d, d1, d2, d3, d4, d5⟩ | ⟨d4, d5⟩
        · have r1 : point_R S x (nI u) off ac = ptI_R S x (tA M u) off (some (cA M d)) none := by
            unfold point_R
            rw [if_neg a1, op_some u4, if_neg a0, op_some d4, d4]
            rfl
          have r2 : point_S S x (nI u) off ac = ptI_S S x (tA M u) off (some (cA M d)) none := by
            unfold point_S
            rw [if_neg a1, op_some u4, if_neg a0, op_some d4, d4]
            rfl
          have v1 : ¬ mi τ 15 < ac := by
            have hC15 : (mi τ 15).toNatClampNeg ≤ 20 := hC
            rw [e15, d3, Int32.lt_iff_toInt_lt, nI_toInt (by omega), nI_toInt (by omega)]
            have : d ≤ (mi τ 15).toNatClampNeg := d2
            omega
          have hdi : inC τ ac := by rw [d3]; exact rg_nI d1 d2 (by omega)
          rw [r1, r2]
          repeat rw [if_neg v1]
          repeat rw [if_pos a3]
          refine pt_in h14 u1 u2 off ?_ (if_neg a4).symm (fun _ => hdi) (fun z => absurd z a4) (hdi.wk (by decide) (by omega))
          rw [if_pos a2, d3, nI_clamp (by omega)]
        · have r1 : point_R S x (nI u) off ac = -1 := by
            unfold point_R
            rw [if_neg a1, op_some u4, if_neg a0, op_none d4]
          have r2 : point_S S x (nI u) off ac = S := by
            unfold point_S
            rw [if_neg a1, op_some u4, if_neg a0, op_none d4]
          have v1 : mi τ 15 < ac := by
            unfold Mno_R at d5
            rw [if_neg a5] at d5
            by_cases w : ac ≤ mi τ 15
            · rw [if_pos w] at d5; exact absurd d5 (by decide)
            · exact Int32.not_le.mp w
          rw [r1, r2]
          repeat rw [if_pos v1]
          exact ⟨rfl, M, T, RO_n h14⟩
  · obtain ⟨n1, n2⟩ := none1 u4
    rw [n1, n2, u5, if_neg (by decide), if_neg (by decide)]
    exact ⟨rfl, M, T, RO_n h14⟩
