-- COUNTER
def upC (M : AM) (c q : Nat) : AM := (va_up (cA M) c q, aA M, tA M, pA M)
theorem upC_s {M : AM} {c q : Nat} : cA (upC M c q) c = q := va_up_self _ _ _
theorem upC_n {M : AM} {c q d : Nat} (h : d ≠ c) : cA (upC M c q) d = cA M d := va_up_ne _ _ h
theorem and0 (w : Int32) : (0 : Int32) &&& w = 0 := by
  rw [← Int32.toBitVec_inj, Int32.toBitVec_and, Int32.toBitVec_zero]
  refine BitVec.eq_of_getLsbD_eq (fun i hi => ?_)
  simp only [BitVec.getLsbD_and, BitVec.getLsbD_zero, Bool.false_and]
theorem mdl0 {b : Int64} (hb : 1 ≤ b.toInt) (hb2 : b.toInt ≤ 1000000000) : mdl 0 b = 0 := by
  refine Int64.toInt_inj.mp ?_
  have z0 : (0 : Int64).toInt = 0 := rfl
  rw [mdl_int (by rw [z0]; omega) (by rw [z0]; omega) hb hb2, z0]
  exact Int.zero_emod _
theorem nnk3 {k : Nat} (h : nnk k = true) : rO k ≠ 3 ∧ (rO k = 7 → k = 13) := by
  unfold nnk at h
  split at h <;> first | (refine ⟨by decide, fun q => ?_⟩; first | rfl | (cases q)) | (cases h)
/-- the store with a new counter -/
def nwC (S : HS) (A x N : Nat) (b k : Int64) : HS := sfi (sar (Counter_init_S (newQ S (hz S) 3) (hz S) (nI (N + 1)) b k) A N (some (hz S))) 10 x (nI (N + 1))
theorem nwC_kd {S : HS} {A x N : Nat} {b k : Int64} (a : Nat) : kd (nwC S A x N b k) a = if a = hz S then 3 else kd S a := rfl
theorem nwC_fi {S : HS} {A x N : Nat} {b k : Int64} (j a : Nat) (h1 : a ≠ hz S) (h2 : j ≠ 10 ∨ a ≠ x) : fi (nwC S A x N b k) j a = fi S j a := by
  show up2 (up2 (zr (fi S) (hz S) 0) 2 (hz S) ((1 : Int32) <<< ((nI (N + 1) - (1 : Int32)) &&& 31))) 10 x (nI (N + 1)) j a = fi S j a
  rcases h2 with h2 | h2
  · rw [up2_k _ _ _ _ h2, up2_a _ _ _ _ h1]
    exact if_neg h1
  · rw [up2_a _ _ _ _ h2, up2_a _ _ _ _ h1]
    exact if_neg h1
theorem nwC_x {S : HS} {A x N : Nat} {b k : Int64} : fi (nwC S A x N b k) 10 x = nI (N + 1) := up2_self _ _ _ _
theorem nwC_q2 {S : HS} {A x N : Nat} {b k : Int64} : fi (nwC S A x N b k) 2 (hz S) = bt (N + 1) := by
  show up2 (up2 (zr (fi S) (hz S) 0) 2 (hz S) (bt (N + 1))) 10 x (nI (N + 1)) 2 (hz S) = bt (N + 1)
  rw [up2_k _ _ _ _ (by decide), up2_self]
theorem nwC_q3 {S : HS} {A x N : Nat} {b k : Int64} : fi (nwC S A x N b k) 3 (hz S) = 0 := by
  show up2 (up2 (zr (fi S) (hz S) 0) 2 (hz S) (bt (N + 1))) 10 x (nI (N + 1)) 3 (hz S) = 0
  rw [up2_k _ _ _ _ (by decide), up2_k _ _ _ _ (by decide)]
  exact if_pos rfl
theorem nwC_fl {S : HS} {A x N : Nat} {b k : Int64} (j a : Nat) (h1 : a ≠ hz S) : fl (nwC S A x N b k) j a = fl S j a := by
  show up2 (up2 (up2 (zr (fl S) (hz S) 0) 7 (hz S) 9223372036854775807) 2 (hz S) b) 3 (hz S) k j a = fl S j a
  rw [up2_a _ _ _ _ h1, up2_a _ _ _ _ h1, up2_a _ _ _ _ h1]
  exact if_neg h1
theorem nwC_flq {S : HS} {A x N : Nat} {b k : Int64} (j : Nat) : fl (nwC S A x N b k) j (hz S) = if j = 3 then k else if j = 2 then b else if j = 7 then 9223372036854775807 else 0 := by
  show up2 (up2 (up2 (zr (fl S) (hz S) 0) 7 (hz S) 9223372036854775807) 2 (hz S) b) 3 (hz S) k j (hz S) = _
  by_cases e3 : j = 3
  · subst e3; rw [up2_self, if_pos rfl]
  · rw [if_neg e3, up2_k _ _ _ _ e3]
    by_cases e2 : j = 2
    · subst e2; rw [up2_self, if_pos rfl]
    · rw [if_neg e2, up2_k _ _ _ _ e2]
      by_cases e7 : j = 7
      · subst e7; rw [up2_self, if_pos rfl]
      · rw [if_neg e7, up2_k _ _ _ _ e7]
        exact if_pos rfl
theorem nwC_fr {S : HS} {A x N : Nat} {b k : Int64} (j a : Nat) (h1 : a ≠ hz S) : fr (nwC S A x N b k) j a = fr S j a := if_neg h1
theorem nwC_frq {S : HS} {A x N : Nat} {b k : Int64} (j : Nat) : fr (nwC S A x N b k) j (hz S) = none := if_pos rfl
theorem nwC_ar {S : HS} {A x N : Nat} {b k : Int64} (a j : Nat) : ar (nwC S A x N b k) a j = if a = A ∧ j = N then some (hz S) else ar S a j := rfl
theorem nwC_an {S : HS} {A x N : Nat} {b k : Int64} : an (nwC S A x N b k) = an S := rfl
theorem nwC_ai {S : HS} {A x N : Nat} {b k : Int64} : ai (nwC S A x N b k) = ai S := rfl
theorem nwC_hz {S : HS} {A x N : Nat} {b k : Int64} : hz (nwC S A x N b k) = hz S + 1 := rfl
theorem nwC_tz {S : HS} {A x N : Nat} {b k : Int64} : tz (nwC S A x N b k) = tz S + 12 := rfl
theorem nwC_hL {S : HS} {A x N : Nat} {b k : Int64} : hL (nwC S A x N b k) = hL S ++ [hz S] := rfl
theorem nwC_ok {S : HS} {A x N : Nat} {b k : Int64} (o1 : hOk S) (fresh : hz S ∉ hL S) (kA : kd S A = 14) (hA : A ≠ hz S) : hOk (nwC S A x N b k) := by
  have q1 : hOk (newQ S (hz S) 3) := o1.newQ fresh rfl rO_ne rT_ne rfl
  have q2 : hOk (Counter_init_S (newQ S (hz S) 3) (hz S) (nI (N + 1)) b k) := (((q1.sfl 7 (hz S) 9223372036854775807).sfi 2 (hz S) _).sfl 2 (hz S) b).sfl 3 (hz S) k
  have e1 : kd (Counter_init_S (newQ S (hz S) 3) (hz S) (nI (N + 1)) b k) (hz S) = 3 := if_pos rfl
  have e2 : kd (Counter_init_S (newQ S (hz S) 3) (hz S) (nI (N + 1)) b k) A = 14 := (if_neg hA).trans kA
  have q3 : hOk (sar (Counter_init_S (newQ S (hz S) 3) (hz S) (nI (N + 1)) b k) A N (some (hz S))) := by
    generalize Counter_init_S (newQ S (hz S) 3) (hz S) (nI (N + 1)) b k = X at q2 e1 e2
    refine q2.sar _ _ _ (fun z hz' => ?_)
    cases hz'
    rw [e1, e2]
    rfl
  exact q3.sfi 10 x _
set_option maxHeartbeats 4000000 in
theorem RO_counter {M : AM} {x : Nat} {T : Nat → Nat → Bool} {n kt h0 t0 : Nat} {S : HS} {σ : MS} (h : RO M x T n kt h0 t0 S σ) (hc : nC σ < 20) {b k : Int64} (hb : 1 ≤ b.toInt ∧ b.toInt ≤ 1000000000) (hk : 1 ≤ k.toInt ∧ k.toInt ≤ 1000) : RO (upC M (nC σ + 1) (hz S)) x T (n + 1) kt h0 t0 (nwC S (gd (fr S 18 x)) x (nC σ) b k) (sml (sml (smi σ 15 (mi σ 15 + 1)) 0 (nC σ + 1) b) 1 (nC σ + 1) k) := by
  obtain ⟨⟨⟨hI, hR, hDc, hDa, hDt, hDn, hDk⟩, hW⟩, ⟨⟨a1, a2, a3⟩, aat, ac, aa, atb, as3, as7⟩, rz, ⟨rl, rlk⟩, ⟨⟨g1, g2, g3, g4⟩, ⟨w1, w2, w3, w4, w5, w6⟩, gr, gx, gk⟩, rh⟩ := h
  obtain ⟨⟨o1, o2⟩, kx, hnn, -⟩ := id hI
  have hN15 : mi σ 15 = nI (nC σ) := (cnt_eq (N := 20) g1.1 (by decide)).1
  have live : ∀ a, kd S a ≠ 0 → a ≠ hz S := fun a ha => by have := o2 a (o1.1 a ha); omega
  have fresh : hz S ∉ hL S := fun q => Nat.lt_irrefl _ (o2 _ q)
  have kq : kd S (hz S) = 0 := Classical.byContradiction fun z => fresh (o1.1 _ z)
  have xq : x ≠ hz S := live x (by rw [kx]; decide)
  have As := gd_some (hnn 18 x rfl kx)
  have kA : kd S (gd (fr S 18 x)) = 14 := o1.2.1 18 x _ kx As
  have fkd := nwC_kd (S := S) (A := gd (fr S 18 x)) (x := x) (N := nC σ) (b := b) (k := k)
  have ffi := nwC_fi (S := S) (A := gd (fr S 18 x)) (x := x) (N := nC σ) (b := b) (k := k)
  have ffx := nwC_x (S := S) (A := gd (fr S 18 x)) (x := x) (N := nC σ) (b := b) (k := k)
  have fq2i := nwC_q2 (S := S) (A := gd (fr S 18 x)) (x := x) (N := nC σ) (b := b) (k := k)
  have fq3i := nwC_q3 (S := S) (A := gd (fr S 18 x)) (x := x) (N := nC σ) (b := b) (k := k)
  have ffl := nwC_fl (S := S) (A := gd (fr S 18 x)) (x := x) (N := nC σ) (b := b) (k := k)
  have fq := nwC_flq (S := S) (A := gd (fr S 18 x)) (x := x) (N := nC σ) (b := b) (k := k)
  have ffr := nwC_fr (S := S) (A := gd (fr S 18 x)) (x := x) (N := nC σ) (b := b) (k := k)
  have ffq := nwC_frq (S := S) (A := gd (fr S 18 x)) (x := x) (N := nC σ) (b := b) (k := k)
  have far := nwC_ar (S := S) (A := gd (fr S 18 x)) (x := x) (N := nC σ) (b := b) (k := k)
  have fan := nwC_an (S := S) (A := gd (fr S 18 x)) (x := x) (N := nC σ) (b := b) (k := k)
  have fai := nwC_ai (S := S) (A := gd (fr S 18 x)) (x := x) (N := nC σ) (b := b) (k := k)
  have fhz := nwC_hz (S := S) (A := gd (fr S 18 x)) (x := x) (N := nC σ) (b := b) (k := k)
  have ftz := nwC_tz (S := S) (A := gd (fr S 18 x)) (x := x) (N := nC σ) (b := b) (k := k)
  have fhL := nwC_hL (S := S) (A := gd (fr S 18 x)) (x := x) (N := nC σ) (b := b) (k := k)
  have fok := nwC_ok (x := x) (N := nC σ) (b := b) (k := k) o1 fresh kA (live _ (by rw [kA]; decide))
  generalize nwC S (gd (fr S 18 x)) x (nC σ) b k = Y at fkd ffi ffx fq2i fq3i ffl fq ffr ffq far fan fai fhz ftz fhL fok
  -- the model
  have m15 : mi (sml (sml (smi σ 15 (mi σ 15 + 1)) 0 (nC σ + 1) b) 1 (nC σ + 1) k) 15 = nI (nC σ + 1) := (ri_l.trans (ri_l.trans ri_s)).trans (by rw [hN15]; exact nI_1 _)
  have mik : ∀ j, j ≠ 15 → mi (sml (sml (smi σ 15 (mi σ 15 + 1)) 0 (nC σ + 1) b) 1 (nC σ + 1) k) j = mi σ j := fun j hj => ri_l.trans (ri_l.trans (ri_i hj))
  have mma : ma (sml (sml (smi σ 15 (mi σ 15 + 1)) 0 (nC σ + 1) b) 1 (nC σ + 1) k) = ma σ := rfl
  have ml0 : ∀ d, ml (sml (sml (smi σ 15 (mi σ 15 + 1)) 0 (nC σ + 1) b) 1 (nC σ + 1) k) 0 d = if d = nC σ + 1 then b else ml σ 0 d := fun d => by
    refine (rl_l (by decide)).trans ?_
    by_cases e : d = nC σ + 1
    · rw [if_pos e, e]; exact rl_s
    · rw [if_neg e]; exact (rl_n e).trans rl_i
  have ml1 : ∀ d, ml (sml (sml (smi σ 15 (mi σ 15 + 1)) 0 (nC σ + 1) b) 1 (nC σ + 1) k) 1 d = if d = nC σ + 1 then k else ml σ 1 d := fun d => by
    by_cases e : d = nC σ + 1
    · rw [if_pos e, e]; exact rl_s
    · rw [if_neg e]; exact (rl_n e).trans ((rl_n e).trans rl_i)
  have mlj : ∀ j, j ≠ 0 → j ≠ 1 → ml (sml (sml (smi σ 15 (mi σ 15 + 1)) 0 (nC σ + 1) b) 1 (nC σ + 1) k) j = ml σ j := fun j j0 j1 => funext fun d => (rl_l j1).trans ((rl_l j0).trans rl_i)
  generalize sml (sml (smi σ 15 (mi σ 15 + 1)) 0 (nC σ + 1) b) 1 (nC σ + 1) k = τ at m15 mik mma ml0 ml1 mlj
  have eC : nC τ = nC σ + 1 := by show (mi τ 15).toNatClampNeg = _; rw [m15, nI_clamp (by omega)]
  have eA : nA τ = nA σ := by show (mi τ 16).toNatClampNeg = _; rw [mik 16 (by decide)]
  have eT : nT τ = nT σ := by show (mi τ 17).toNatClampNeg = _; rw [mik 17 (by decide)]
  have ewN : wN τ = wN σ := by show nA τ + 4 * nT τ = _; rw [eA, eT]
  have eEx : exN τ = exN σ := by show (mi τ 18).toNatClampNeg = _; rw [mik 18 (by decide)]
  have eAc : acN τ = acN σ := by show (mi τ 19).toNatClampNeg = _; rw [mik 19 (by decide)]
  have cn : ∀ d, d ≤ nC σ → cA (upC M (nC σ + 1) (hz S)) d = cA M d := fun d hd => upC_n (by omega)
  have cnv : ∀ v, inC σ v → cA (upC M (nC σ + 1) (hz S)) v.toNatClampNeg = cA M v.toNatClampNeg := fun v hv => cn _ (inC_20 hv (by omega)).2.2
  have hCf := w1
  have hin : ∀ v, inC σ v → inC τ v := fun v hv => ⟨hv.1, by have := hv.2; rw [eC]; omega⟩
  have nof : ∀ v, inC σ v → ¬ v = nI (nC σ + 1) := fun v hv z => by
    have := hv.2
    rw [z, nI_toInt (by omega)] at this
    omega
  have hNf : Nf S Y := by
    refine ⟨fun a ha => ?_, fun z hz' => ?_⟩
    · have hq := live a ha
      refine ⟨(fkd a).trans (if_neg hq), ⟨ffr _ _ hq, ffr _ _ hq, ffr _ _ hq⟩, ⟨ffi _ _ hq (Or.inl (by decide)), ffi _ _ hq (Or.inl (by decide))⟩, by rw [fan], fun h17 => ?_, fun _ => by rw [fai]⟩
      funext j
      rw [far, if_neg (fun z => by rw [z.1, kA] at h17; cases h17)]
    · rw [fkd] at hz'
      split at hz'
      · cases hz'
      · exact hz'
  have hRS : RS (upC M (nC σ + 1) (hz S)) Y τ := by
    obtain ⟨rb, ri, rc, ra, rt, rp⟩ := hR
    refine ⟨fun c c1 c2 => ?_, ⟨fun c d c1 c2 d1 d2 e => ?_, fun c d c1 c2 d1 d2 e => ?_, fun c d c1 c2 d1 d2 e => ?_⟩, fun c c1 c2 => ?_, fun a q1 q2 => ?_, fun t q1 q2 => ?_, fun t p q1 q2 hp => ?_⟩
    · rw [ml0, ml1]
      by_cases e : c = nC σ + 1
      · rw [if_pos e, if_pos e]; exact ⟨hb, hk⟩
      · rw [if_neg e, if_neg e]; exact rb c c1 (by omega)
    · rw [eC] at c2 d2
      have lv : ∀ z, 1 ≤ z → z ≤ nC σ → cA M z ≠ hz S := fun z z1 z2 => live _ (by rw [(rc z z1 z2).1]; decide)
      by_cases ec : c = nC σ + 1
      · by_cases ed : d = nC σ + 1
        · omega
        · rw [ec, upC_s, cn d (by omega)] at e
          exact absurd e.symm (lv d d1 (by omega))
      · by_cases ed : d = nC σ + 1
        · rw [ed, upC_s, cn c (by omega)] at e
          exact absurd e (lv c c1 (by omega))
        · rw [cn c (by omega), cn d (by omega)] at e
          exact ri.1 c d c1 (by omega) d1 (by omega) e
    · rw [eA] at c2 d2; exact ri.2.1 c d c1 c2 d1 d2 e
    · rw [eT] at c2 d2; exact ri.2.2 c d c1 c2 d1 d2 e
    · rw [ml0, ml1, mlj 2 (by decide) (by decide), eA, eT, aLs_M (M := M) (M' := upC M (nC σ + 1) (hz S)) (σ := σ) (σ' := τ) _ _ (fun b _ _ => ⟨rfl, by rw [mma]⟩), tLs_M (M := M) (M' := upC M (nC σ + 1) (hz S)) (σ := σ) (σ' := τ) _ _ (fun b _ _ => ⟨rfl, by rw [mma]⟩)]
      by_cases e : c = nC σ + 1
      · subst e
        rw [upC_s, if_pos rfl, if_pos rfl, fkd, if_pos rfl, fq, fq, fq, ffq, ffq, aLs_nil _ _ (fun b b1 b2 => nof _ (hCf.2.1 b b1 (by omega)).1), tLs_nil _ _ (fun b b1 b2 => nof _ (hCf.2.2 b b1 (by omega)).1)]
        exact ⟨rfl, rfl, rfl, (g3.1 _ (by omega)).1.symm, rfl, rfl⟩
      · obtain ⟨k1, k2, k3, k3b, k4, k5⟩ := rc c c1 (by omega)
        have hq := live (cA M c) (by rw [k1]; decide)
        rw [if_neg e, if_neg e, cn c (by omega), fkd, if_neg hq, ffl _ _ hq, ffl _ _ hq, ffl _ _ hq, ffr _ _ hq, ffr _ _ hq]
        refine ⟨k1, k2, k3, k3b, chn_congr _ _ (fun z hz' => ?_) k4, chn_congr _ _ (fun z hz' => ?_) k5⟩
        · obtain ⟨d, d1, d2, rfl, -⟩ := aLs_mem _ _ _ hz'
          exact (ffr _ _ (live _ (by rw [(ra d d1 (by omega)).1]; decide))).symm
        · obtain ⟨d, d1, d2, rfl, -⟩ := tLs_mem _ _ _ hz'
          exact (ffr _ _ (live _ (by rw [(rt d d1 (by omega)).1]; decide))).symm
    · rw [eA] at q2
      obtain ⟨k1, k2, k3, k4, k5, q, k6, k7, k8, k9⟩ := ra a q1 q2
      have hq := live (aA M a) (by rw [k1]; decide)
      have hq2 := live q (by rw [k7]; decide)
      have hcf := hCf.2.1 a q1 q2
      show kd Y (aA M a) = 2 ∧ fi Y 0 (aA M a) = nI a ∧ fr Y 2 (aA M a) = some (cA (upC M (nC σ + 1) (hz S)) (ma τ 6 a).toNatClampNeg) ∧ fl Y 1 (aA M a) = ml τ 11 a ∧ (ma τ 7 a = 2 → rg 1 (nA τ) (ma τ 8 a)) ∧ ∃ q, fr Y 3 (aA M a) = some q ∧ acR Y q (if ma τ 7 a = 1 then some (cA (upC M (nC σ + 1) (hz S)) (ma τ 8 a).toNatClampNeg) else none) (if ma τ 7 a = 2 then some (aA M (ma τ 8 a).toNatClampNeg) else none)
      rw [mma, mlj 11 (by decide) (by decide), eA, cnv _ hcf.1, fkd, if_neg hq, ffi _ _ hq (Or.inl (by decide)), ffr _ _ hq, ffl _ _ hq]
      refine ⟨k1, k2, k3, k4, k5, q, (ffr _ _ hq).trans k6, (fkd q).trans ((if_neg hq2).trans k7), (ffr _ _ hq2).trans (k8.trans ?_), (ffr _ _ hq2).trans k9⟩
      by_cases e : ma σ 7 a = 1
      · rw [if_pos e, if_pos e, cnv _ (hcf.2.1 e).1]
      · rw [if_neg e, if_neg e]
    · rw [eT] at q2
      obtain ⟨k1, k2, k3, k4, k5, k6⟩ := rt t q1 q2
      have hq := live (tA M t) (by rw [k1]; decide)
      have hcf := hCf.2.2 t q1 q2
      show kd Y (tA M t) = 7 ∧ fi Y 6 (tA M t) = nI t ∧ fr Y 13 (tA M t) = some (cA (upC M (nC σ + 1) (hz S)) (ma τ 12 t).toNatClampNeg) ∧ fl Y 9 (tA M t) = ml τ 13 t ∧ fr Y 16 (tA M t) = (if ma τ 17 t = 0 then none else some (tA M (ma τ 17 t).toNatClampNeg)) ∧ fr Y 14 (tA M t) = ptO (upC M (nC σ + 1) (hz S)) τ t 0
      have ep : ptO (upC M (nC σ + 1) (hz S)) τ t 0 = ptO M σ t 0 := by unfold ptO npT; rw [mma]; rfl
      rw [ep, mma, mlj 13 (by decide) (by decide), cnv _ hcf.1, fkd, if_neg hq, ffi _ _ hq (Or.inl (by decide)), ffr _ _ hq, ffr _ _ hq, ffr _ _ hq, ffl _ _ hq]
      exact ⟨k1, k2, k3, k4, k5, k6⟩
    · rw [eT] at q2
      have hp : p < npT σ t := by unfold npT at hp ⊢; rw [mma] at hp; exact hp
      obtain ⟨k1, k2, k3, k4, q, k6, k7, k8, k9⟩ := rp t p q1 q2 hp
      have hq := live (pA M t p) (by rw [k1]; decide)
      have hq2 := live q (by rw [k7]; decide)
      have hcf := (hCf.2.2 t q1 q2).2.2.2.2 p hp
      have ep : ptO (upC M (nC σ + 1) (hz S)) τ t (p + 1) = ptO M σ t (p + 1) := by unfold ptO npT; rw [mma]; rfl
      show kd Y (pA M t p) = 6 ∧ fl Y 8 (pA M t p) = ml τ 15 (20 * t + p) ∧ fr Y 12 (pA M t p) = ptO (upC M (nC σ + 1) (hz S)) τ t (p + 1) ∧ (ma τ 16 (20 * t + p) < 0 → rg 1 (nA τ) (-(ma τ 16 (20 * t + p)))) ∧ ∃ q, fr Y 11 (pA M t p) = some q ∧ acR Y q (if 0 < ma τ 16 (20 * t + p) then some (cA (upC M (nC σ + 1) (hz S)) (ma τ 16 (20 * t + p)).toNatClampNeg) else none) (if ma τ 16 (20 * t + p) < 0 then some (aA M (-(ma τ 16 (20 * t + p))).toNatClampNeg) else none)
      rw [ep, mma, mlj 15 (by decide) (by decide), eA, fkd, if_neg hq, ffr _ _ hq, ffl _ _ hq]
      refine ⟨k1, k2, k3, k4, q, (ffr _ _ hq).trans k6, (fkd q).trans ((if_neg hq2).trans k7), (ffr _ _ hq2).trans (k8.trans ?_), (ffr _ _ hq2).trans k9⟩
      by_cases e : 0 < ma σ 16 (20 * t + p)
      · rw [if_pos e, if_pos e, cnv _ (hcf.2.2 (Int32.not_le.mpr e)).1]
      · rw [if_neg e, if_neg e]
  have hs3 : ∀ z, kd Y z = 3 → ∃ c, 1 ≤ c ∧ c ≤ nC τ ∧ z = cA (upC M (nC σ + 1) (hz S)) c := fun z hz' => by
    by_cases e : z = hz S
    · exact ⟨nC σ + 1, by omega, by omega, by rw [upC_s]; exact e⟩
    · rw [fkd, if_neg e] at hz'
      obtain ⟨c, c1, c2, c3⟩ := as3 z hz'
      exact ⟨c, c1, by omega, by rw [cn c c2]; exact c3⟩
  have hnnY : nn Y := by
    intro j a hj ha
    by_cases e : a = hz S
    · subst e
      rw [fkd, if_pos rfl] at ha
      exact absurd ha.symm (nnk3 hj).1
    · rw [fkd, if_neg e] at ha
      rw [ffr _ _ e]
      exact hnn j a hj ha
  have hltY : hlt Y := fun a ha => by
    rw [fhL] at ha
    rw [fhz]
    rcases List.mem_append.mp ha with ha | ha
    · have := o2 a ha; omega
    · rw [List.mem_singleton] at ha; omega
  have hIY := sInv_mk hI hNf ⟨fok, hltY⟩ hnnY hRS hs3
  obtain ⟨-, -, hphi, hpsi⟩ := hNf.kp hI
  refine ⟨⟨⟨hIY, hRS, fun c c1 c2 => ?_, fun a q1 q2 => ?_, fun t q1 q2 => ?_, Dn_M (hNf.dn hI hDn) (mik 18 (by decide)) (fun j _ _ => by rw [mma]), ?_⟩, fun y y1 y2 => ?_⟩, ⟨⟨by rw [ffx, m15], ?_, ?_⟩, ?_, fun c c1 c2 => ?_, fun a q1 q2 => ?_, fun t q1 q2 => ?_, hs3, fun z hz' => ?_⟩, ⟨fun c c1 c2 => ?_, fun t q1 q2 => ?_, ?_⟩, ⟨fun c c1 c2 => ?_, ?_⟩, MI_n ⟨⟨?_, ?_, ?_, ?_⟩, ⟨?_, ?_, ?_, ?_, ?_, ?_⟩, fun c c1 c2 => ?_, ?_, ?_⟩, ?_⟩
  · -- Dc
    by_cases e : c = nC σ + 1
    · subst e
      rw [upC_s, fq, fq, mlj 3 (by decide) (by decide), ml0, if_pos rfl, (g3.1 _ (by omega)).2, mdl0 hb.1 hb.2]
      exact ⟨rfl, rfl⟩
    · have hq := live (cA M c) (by rw [(hR.2.2.1 c c1 (by omega)).1]; decide)
      rw [cn c (by omega), ffl _ _ hq, ffl _ _ hq, mlj 3 (by decide) (by decide), ml0, if_neg e]
      exact hDc c c1 (by omega)
  · rw [eA] at q2
    have hq := live (aA M a) (by rw [(hR.2.2.2.1 a q1 q2).1]; decide)
    show fi Y 1 (aA M a) = _ ∧ _ ∧ (_ → fl Y 0 (aA M a) = _)
    rw [ffi _ _ hq (Or.inl (by decide)), ffl _ _ hq, mma, mlj 10 (by decide) (by decide)]
    exact hDa a q1 q2
  · rw [eT] at q2
    have hq := live (tA M t) (by rw [(hR.2.2.2.2.1 t q1 q2).1]; decide)
    have ep : ∀ p, ptO (upC M (nC σ + 1) (hz S)) τ t p = ptO M σ t p := fun p => by unfold ptO npT; rw [mma]; rfl
    unfold DtR
    show fi Y 8 (tA M t) = _ ∧ fl Y 11 (tA M t) = _ ∧ _ ∧ (_ → fi Y 9 (tA M t) = _ ∧ (_ → fr Y 15 (tA M t) = _) ∧ (_ → fl Y 10 (tA M t) = _) ∧ (_ → fl Y 10 (tA M t) = _))
    rw [ffi _ _ hq (Or.inl (by decide)), ffi _ _ hq (Or.inl (by decide)), ffl _ _ hq, ffl _ _ hq, ffr _ _ hq, mma, mlj 18 (by decide) (by decide), mlj 20 (by decide) (by decide), mlj 3 (by decide) (by decide), ep]
    exact hDt t q1 q2
  · rw [ffi 13 x xq (Or.inl (by decide)), mik 19 (by decide)]
    exact hDk
  · -- wake
    rw [eA, eT]
    by_cases e : y = nC σ + 1
    · subst e
      refine ⟨fun a q1 _ q3 q4 _ => ?_, fun t q1 _ q3 q4 _ _ => ?_⟩
      · rw [eA] at q3; rw [mma] at q4
        exact absurd q4 (nof _ (hCf.2.1 a q1 q3).1)
      · rw [eT] at q3; rw [mma] at q4
        exact absurd q4 (nof _ (hCf.2.2 t q1 q3).1)
    · have hq := live (cA M y) (by rw [(hR.2.2.1 y y1 (by omega)).1]; decide)
      have hw := hW y y1 (by omega)
      refine ⟨fun a q1 q2 q3 q4 q5 => ?_, fun t q1 q2 q3 q4 q5 q6 => ?_⟩
      · rw [eA] at q3; rw [mma] at q4 q5
        rw [cn y (by omega), ffl _ _ hq, mlj 10 (by decide) (by decide)]
        exact hw.1 a q1 q2 q3 q4 q5
      · rw [eT] at q3; rw [mma] at q4 q5
        rw [cn y (by omega), ffl _ _ hq, mlj 20 (by decide) (by decide)]
        exact hw.2 t q1 q2 q3 q4 q5 q6
  · rw [ffi 11 x xq (Or.inl (by decide)), mik 16 (by decide)]; exact a2
  · rw [ffi 12 x xq (Or.inl (by decide)), mik 17 (by decide)]; exact a3
  · -- atOk
    obtain ⟨u1, u2, u3, u4, u5, u6⟩ := aat
    unfold atOk
    rw [ffx, ffi 11 x xq (Or.inl (by decide)), ffi 12 x xq (Or.inl (by decide)), ffr 18 x xq, ffr 19 x xq, ffr 20 x xq, fan]
    exact ⟨⟨nC σ + 1, by omega, rfl⟩, u2, u3, u4, u5, u6⟩
  · rw [ffr 18 x xq, far]
    by_cases e : c = nC σ + 1
    · subst e
      rw [if_pos ⟨rfl, by omega⟩, upC_s]
    · rw [if_neg (by omega), cn c (by omega)]
      exact ac c c1 (by omega)
  · rw [eA] at q2
    have kB : kd S (gd (fr S 19 x)) = 15 := o1.2.1 19 x _ kx (gd_some (hnn 19 x rfl kx))
    rw [ffr 19 x xq, far, if_neg (fun z => by have := z.1; rw [this, kA] at kB; cases kB)]
    exact aa a q1 q2
  · rw [eT] at q2
    have kB : kd S (gd (fr S 20 x)) = 16 := o1.2.1 20 x _ kx (gd_some (hnn 20 x rfl kx))
    rw [ffr 20 x xq, far, if_neg (fun z => by have := z.1; rw [this, kA] at kB; cases kB)]
    exact atb t q1 q2
  · rw [fkd] at hz'
    split at hz'
    · cases hz'
    · rw [eT]; exact as7 z hz'
  · -- lasts
    rw [eA, eT, aLs_M (M := M) (M' := upC M (nC σ + 1) (hz S)) (σ := σ) (σ' := τ) _ _ (fun b _ _ => ⟨rfl, by rw [mma]⟩), tLs_M (M := M) (M' := upC M (nC σ + 1) (hz S)) (σ := σ) (σ' := τ) _ _ (fun b _ _ => ⟨rfl, by rw [mma]⟩)]
    by_cases e : c = nC σ + 1
    · subst e
      rw [upC_s, ffq, ffq, aLs_nil _ _ (fun b b1 b2 => nof _ (hCf.2.1 b b1 (by omega)).1), tLs_nil _ _ (fun b b1 b2 => nof _ (hCf.2.2 b b1 (by omega)).1)]
      exact ⟨rfl, rfl⟩
    · have hq := live (cA M c) (by rw [(hR.2.2.1 c c1 (by omega)).1]; decide)
      rw [cn c (by omega), ffr _ _ hq, ffr _ _ hq]
      exact rz.1 c c1 (by omega)
  · rw [eT] at q2
    have hq := live (tA M t) (by rw [(hR.2.2.2.2.1 t q1 q2).1]; decide)
    show fi Y 7 (tA M t) = _
    rw [ffi _ _ hq (Or.inl (by decide)), mma]
    exact rz.2.1 t q1 q2
  · unfold npT
    rw [eT, mma]
    exact rz.2.2
  · by_cases e : c = nC σ + 1
    · subst e
      rw [upC_s, fq2i, fq3i]
      refine ⟨rfl, fun d d1 d2 => ⟨fun z => ?_, fun z => absurd (and0 _) z⟩⟩
      have := (g4.1 _ _ z).1.2
      omega
    · have hq := live (cA M c) (by rw [(hR.2.2.1 c c1 (by omega)).1]; decide)
      rw [cn c (by omega), ffi _ _ hq (Or.inl (by decide)), ffi _ _ hq (Or.inl (by decide))]
      exact rl c c1 (by omega)
  · unfold Lk npT ld
    rw [eA, eT, mma]
    exact rlk
  · -- mOk
    obtain ⟨m1, m2, m3, m4⟩ := g1
    refine ⟨?_, ?_, ?_, ?_⟩
    · rw [m15]; exact rg_nI0 (N := 20) (by omega) (by decide)
    · rw [mik 16 (by decide)]; exact m2
    · rw [mik 17 (by decide)]; exact m3
    · rw [mma]; exact m4
  · unfold mAc; rw [mma]; exact g2
  · refine ⟨fun c hc' => ?_, fun a ha => ?_, fun t ht => ?_⟩
    · rw [mlj 2 (by decide) (by decide), mlj 3 (by decide) (by decide)]
      exact g3.1 c (by omega)
    · rw [mma, mlj 11 (by decide) (by decide)]
      exact g3.2.1 a (by omega)
    · rw [mma, mlj 18 (by decide) (by decide)]
      exact g3.2.2 t (by omega)
  · rw [eC]
    obtain ⟨t1, t2⟩ := Tr_4 g4 (by rw [mma] : ma τ 4 = ma σ 4)
    exact ⟨fun c d z => by have := t1 c d z; omega, t2⟩
  · -- Cf
    have hT' : Tr (nC τ) τ T := by
      rw [eC]
      obtain ⟨t1, t2⟩ := Tr_4 g4 (by rw [mma] : ma τ 4 = ma σ 4)
      exact ⟨fun c d z => by have := t1 c d z; omega, t2⟩
    have hL' : Lk τ := by
      unfold Lk npT ld
      rw [eA, eT, mma]
      exact rlk
    refine Cf_of ?_ hL' hT'
    have hB := Cf_B hCf
    refine ⟨⟨fun c c1 c2 => ?_, by omega, by have := hB.1.2.2.1; omega, by have := hB.1.2.2.2; omega⟩, fun a q1 q2 => ?_, fun t q1 q2 => ?_⟩
    · rw [ml0]
      by_cases e : c = nC σ + 1
      · rw [if_pos e]
        intro z
        rw [z] at hb
        have : (0 : Int64).toInt = 0 := rfl
        omega
      · rw [if_neg e]
        exact hB.1.1 c c1 (by omega)
    · rw [eA] at q2
      obtain ⟨k1, k2, k3⟩ := hB.2.1 a q1 q2
      rw [mma, mlj 11 (by decide) (by decide)]
      exact ⟨hin _ k1, fun z => hin _ (k2 z), k3⟩
    · rw [eT] at q2
      obtain ⟨k1, k2, k3, k4, k5⟩ := hB.2.2 t q1 q2
      rw [mma, mlj 13 (by decide) (by decide), mlj 15 (by decide) (by decide), eT]
      exact ⟨hin _ k1, k2, k3, k4, fun p hp => ⟨(k5 p hp).1, (k5 p hp).2.1, fun z => hin _ ((k5 p hp).2.2 z)⟩⟩
  · rw [eAc, mik 19 (by decide)]; exact w2
  · rw [eEx, mik 18 (by decide)]; exact w3
  · intro c
    rw [mlj 3 (by decide) (by decide)]
    exact w4 c
  · intro t q1 q2
    rw [mma]
    exact w5 t q1 (by omega)
  · intro t q1 q2
    rw [mlj 18 (by decide) (by decide)]
    exact w6 t q1 (by omega)
  · rw [mlj 2 (by decide) (by decide)]
    by_cases e : c = nC σ + 1
    · rw [(g3.1 c (by omega)).1]
      exact ⟨by decide, by decide⟩
    · exact gr c c1 (by omega)
  · rw [eEx, ewN]; exact gx
  · rw [eA, eT]; exact gk
  · unfold RH
    rw [hphi, hpsi, fhz, ftz]
    have := rh.1
    have := rh.2
    omega
