-- TABLE
def upT (M : AM) (t q : Nat) : AM := (cA M, aA M, va_up (tA M) t q, pA M)
theorem upT_s {M : AM} {c q : Nat} : tA (upT M c q) c = q := va_up_self _ _ _
theorem upT_n {M : AM} {c q d : Nat} (h : d ≠ c) : tA (upT M c q) d = tA M d := va_up_ne _ _ h
/-- the store with a new table that is in no chain yet -/
def nwT (S : HS) (A x N own : Nat) (k : Int64) : HS := sfi (sar (Table_init_S (newQ S (hz S) 7) (hz S) (nI (N + 1)) own k) A N (some (hz S))) 12 x (nI (N + 1))
theorem nwT_kd {S : HS} {A x N own : Nat} {k : Int64} (a : Nat) : kd (nwT S A x N own k) a = if a = hz S then 7 else kd S a := rfl
theorem nwT_fi {S : HS} {A x N own : Nat} {k : Int64} (j a : Nat) (h1 : a ≠ hz S) (h2 : j ≠ 12 ∨ a ≠ x) : fi (nwT S A x N own k) j a = fi S j a := by
  show up2 (up2 (zr (fi S) (hz S) 0) 6 (hz S) (nI (N + 1))) 12 x (nI (N + 1)) j a = fi S j a
  rcases h2 with h2 | h2
  · rw [up2_k _ _ _ _ h2, up2_a _ _ _ _ h1]
    exact if_neg h1
  · rw [up2_a _ _ _ _ h2, up2_a _ _ _ _ h1]
    exact if_neg h1
theorem nwT_x {S : HS} {A x N own : Nat} {k : Int64} : fi (nwT S A x N own k) 12 x = nI (N + 1) := up2_self _ _ _ _
theorem nwT_q {S : HS} {A x N own : Nat} {k : Int64} (hx : x ≠ hz S) (j : Nat) : fi (nwT S A x N own k) j (hz S) = if j = 6 then nI (N + 1) else 0 := by
  show up2 (up2 (zr (fi S) (hz S) 0) 6 (hz S) (nI (N + 1))) 12 x (nI (N + 1)) j (hz S) = _
  rw [up2_a _ _ _ _ (fun z => hx z.symm)]
  by_cases e : j = 6
  · subst e; rw [up2_self, if_pos rfl]
  · rw [if_neg e, up2_k _ _ _ _ e]; exact if_pos rfl
theorem nwT_fl {S : HS} {A x N own : Nat} {k : Int64} (j a : Nat) (h1 : a ≠ hz S) : fl (nwT S A x N own k) j a = fl S j a := by
  show up2 (zr (fl S) (hz S) 0) 9 (hz S) k j a = fl S j a
  rw [up2_a _ _ _ _ h1]
  exact if_neg h1
theorem nwT_flq {S : HS} {A x N own : Nat} {k : Int64} (j : Nat) : fl (nwT S A x N own k) j (hz S) = if j = 9 then k else 0 := by
  show up2 (zr (fl S) (hz S) 0) 9 (hz S) k j (hz S) = _
  by_cases e : j = 9
  · subst e; rw [up2_self, if_pos rfl]
  · rw [if_neg e, up2_k _ _ _ _ e]; exact if_pos rfl
theorem nwT_fr {S : HS} {A x N own : Nat} {k : Int64} (j a : Nat) (h1 : a ≠ hz S) : fr (nwT S A x N own k) j a = fr S j a := by
  show up2 (zr (fr S) (hz S) none) 13 (hz S) (some own) j a = _
  rw [up2_a _ _ _ _ h1]
  exact if_neg h1
theorem nwT_frq {S : HS} {A x N own : Nat} {k : Int64} (j : Nat) : fr (nwT S A x N own k) j (hz S) = if j = 13 then some own else none := by
  show up2 (zr (fr S) (hz S) none) 13 (hz S) (some own) j (hz S) = _
  by_cases e : j = 13
  · subst e; rw [up2_self, if_pos rfl]
  · rw [if_neg e, up2_k _ _ _ _ e]; exact if_pos rfl
theorem nwT_ar {S : HS} {A x N own : Nat} {k : Int64} (a j : Nat) : ar (nwT S A x N own k) a j = if a = A ∧ j = N then some (hz S) else ar S a j := rfl
theorem nwT_an {S : HS} {A x N own : Nat} {k : Int64} : an (nwT S A x N own k) = an S := rfl
theorem nwT_ai {S : HS} {A x N own : Nat} {k : Int64} : ai (nwT S A x N own k) = ai S := rfl
theorem nwT_hz {S : HS} {A x N own : Nat} {k : Int64} : hz (nwT S A x N own k) = hz S + 1 := rfl
theorem nwT_tz {S : HS} {A x N own : Nat} {k : Int64} : tz (nwT S A x N own k) = tz S + 12 := rfl
theorem nwT_hL {S : HS} {A x N own : Nat} {k : Int64} : hL (nwT S A x N own k) = hL S ++ [hz S] := rfl
theorem nwT_ok {S : HS} {A x N own : Nat} {k : Int64} (o1 : hOk S) (fresh : hz S ∉ hL S) (kA : kd S A = 16) (hA : A ≠ hz S) (ko : kd S own = 3) (ho : own ≠ hz S) : hOk (nwT S A x N own k) := by
  have q1 : hOk (newQ S (hz S) 7) := o1.newQ fresh rfl rO_ne rT_ne rfl
  have eo : kd (newQ S (hz S) 7) own = 3 := (if_neg ho).trans ko
  have q2 : hOk (Table_init_S (newQ S (hz S) 7) (hz S) (nI (N + 1)) own k) := ((q1.sfi 6 (hz S) (nI (N + 1))).sfr 13 (hz S) (some own) (fun b hb => by cases hb; exact eo)).sfl 9 (hz S) k
  have e1 : kd (Table_init_S (newQ S (hz S) 7) (hz S) (nI (N + 1)) own k) (hz S) = 7 := if_pos rfl
  have e2 : kd (Table_init_S (newQ S (hz S) 7) (hz S) (nI (N + 1)) own k) A = 16 := (if_neg hA).trans kA
  have q3 : hOk (sar (Table_init_S (newQ S (hz S) 7) (hz S) (nI (N + 1)) own k) A N (some (hz S))) := by
    generalize Table_init_S (newQ S (hz S) 7) (hz S) (nI (N + 1)) own k = X at q2 e1 e2
    refine q2.sar _ _ _ (fun z hz' => ?_)
    cases hz'
    rw [e1, e2]
    rfl
  exact q3.sfi 12 x _
set_option maxHeartbeats 4000000 in
theorem RO_table {M : AM} {x : Nat} {T : Nat → Nat → Bool} {n kt h0 t0 : Nat} {S : HS} {σ : MS} (h : RO M x T n kt h0 t0 S σ) (hc : nT σ < 20) {c : Nat} (c1 : 1 ≤ c) (c2 : c ≤ nC σ) {k : Int64} (hk : 1 ≤ k.toInt ∧ k.toInt ≤ 1000000) : RO (upT M (nT σ + 1) (hz S)) x T (n + 1) kt h0 t0 (apS (nwT S (gd (fr S 20 x)) x (nT σ) (cA M c) k) 7 8 17 (cA M c) (hz S)) (sml (sma (smi σ 17 (mi σ 17 + 1)) 12 (nT σ + 1) (nI c)) 13 (nT σ + 1) k) := by
  obtain ⟨⟨⟨hI, hR, hDc, hDa, hDt, hDn, hDk⟩, hW⟩, ⟨⟨a1, a2, a3⟩, aat, ac, aa, atb, as3, as7⟩, rz, ⟨rl, rlk⟩, ⟨⟨g1, g2, g3, g4⟩, ⟨w1, w2, w3, w4, w5, w6⟩, gr, gx, gk⟩, rh⟩ := h
  obtain ⟨⟨o1, o2⟩, kx, hnn, -⟩ := id hI
  obtain ⟨rb, ri, rc, ra, rt, rp⟩ := id hR
  have hN17 : mi σ 17 = nI (nT σ) := (cnt_eq (N := 20) g1.2.2.1 (by decide)).1
  have hC := w1.1.2.1
  have hA100 := w1.1.2.2.1
  have live : ∀ a, kd S a ≠ 0 → a ≠ hz S := fun a ha => by have := o2 a (o1.1 a ha); omega
  have fresh : hz S ∉ hL S := fun q => Nat.lt_irrefl _ (o2 _ q)
  have xq : x ≠ hz S := live x (by rw [kx]; decide)
  have As := gd_some (hnn 20 x rfl kx)
  have kA : kd S (gd (fr S 20 x)) = 16 := o1.2.1 20 x _ kx As
  have kc := (rc c c1 c2).1
  have cq : cA M c ≠ hz S := live _ (by rw [kc]; decide)
  have ec : (nI c).toNatClampNeg = c := nI_clamp (by omega)
  -- the store
  have fkd := nwT_kd (S := S) (A := gd (fr S 20 x)) (x := x) (N := nT σ) (own := cA M c) (k := k)
  have ffi := nwT_fi (S := S) (A := gd (fr S 20 x)) (x := x) (N := nT σ) (own := cA M c) (k := k)
  have ffx := nwT_x (S := S) (A := gd (fr S 20 x)) (x := x) (N := nT σ) (own := cA M c) (k := k)
  have ffq := nwT_q (S := S) (A := gd (fr S 20 x)) (x := x) (N := nT σ) (own := cA M c) (k := k) xq
  have ffl := nwT_fl (S := S) (A := gd (fr S 20 x)) (x := x) (N := nT σ) (own := cA M c) (k := k)
  have flq := nwT_flq (S := S) (A := gd (fr S 20 x)) (x := x) (N := nT σ) (own := cA M c) (k := k)
  have ffr1 := nwT_fr (S := S) (A := gd (fr S 20 x)) (x := x) (N := nT σ) (own := cA M c) (k := k)
  have frq1 := nwT_frq (S := S) (A := gd (fr S 20 x)) (x := x) (N := nT σ) (own := cA M c) (k := k)
  have far := nwT_ar (S := S) (A := gd (fr S 20 x)) (x := x) (N := nT σ) (own := cA M c) (k := k)
  have fan := nwT_an (S := S) (A := gd (fr S 20 x)) (x := x) (N := nT σ) (own := cA M c) (k := k)
  have fai := nwT_ai (S := S) (A := gd (fr S 20 x)) (x := x) (N := nT σ) (own := cA M c) (k := k)
  have fhz := nwT_hz (S := S) (A := gd (fr S 20 x)) (x := x) (N := nT σ) (own := cA M c) (k := k)
  have ftz := nwT_tz (S := S) (A := gd (fr S 20 x)) (x := x) (N := nT σ) (own := cA M c) (k := k)
  have fhL := nwT_hL (S := S) (A := gd (fr S 20 x)) (x := x) (N := nT σ) (own := cA M c) (k := k)
  have fok1 := nwT_ok (x := x) (N := nT σ) (k := k) o1 fresh kA (live _ (by rw [kA]; decide)) kc cq
  generalize nwT S (gd (fr S 20 x)) x (nT σ) (cA M c) k = X at fkd ffi ffx ffq ffl flq ffr1 frq1 far fan fai fhz ftz fhL fok1
  have kXq : kd X (hz S) = 7 := (fkd _).trans (if_pos rfl)
  have hnnX : nn X := by
    intro j a hj ha
    by_cases e : a = hz S
    · subst e
      rw [kXq] at ha
      have := (nnk3 hj).2 ha.symm
      subst this
      exact ⟨_, (frq1 13).trans (if_pos rfl)⟩
    · rw [fkd, if_neg e] at ha
      rw [ffr1 _ _ e]
      exact hnn j a hj ha
  -- chains
  have tlive : ∀ t, 1 ≤ t → t ≤ nT σ → tA M t ≠ hz S := fun t q1 q2 => live _ (by rw [(rt t q1 q2).1]; decide)
  have tl_live : ∀ d z, z ∈ tLs M σ d (nT σ) 1 → z ≠ hz S := fun d z hz' => by
    obtain ⟨t, q1, q2, rfl, -⟩ := tLs_mem _ _ _ hz'
    exact tlive t q1 (by omega)
  have hX17 : ∀ d, 1 ≤ d → d ≤ nC σ → chn (fr X 17) (fr X 7 (cA M d)) (tLs M σ d (nT σ) 1) := fun d d1 d2 => by
    rw [ffr1 _ _ (live _ (by rw [(rc d d1 d2).1]; decide))]
    exact chn_congr _ _ (fun z hz' => (ffr1 _ _ (tl_live d z hz')).symm) (rc d d1 d2).2.2.2.2.2
  have hX8 : ∀ d, 1 ≤ d → d ≤ nC σ → fr X 8 (cA M d) = lsO (tLs M σ d (nT σ) 1) := fun d d1 d2 => by
    rw [ffr1 _ _ (live _ (by rw [(rc d d1 d2).1]; decide))]
    exact (rz.1 d d1 d2).2
  obtain ⟨ch1, ch2⟩ := ch_ap (q := hz S) (by decide) (by decide) (by decide) (hX17 c c1 c2) (hX8 c c1 c2) (tLs_nd _ _ (fun i j h1 h2 h3 h4 e => ri.2.2 i j h1 (by omega) h3 (by omega) e)) ((frq1 17).trans (if_neg (by decide))) (fun z => tl_live c _ z rfl)
  have chn' : ∀ d, 1 ≤ d → d ≤ nC σ → d ≠ c → chn (fr (apS X 7 8 17 (cA M c) (hz S)) 17) (fr (apS X 7 8 17 (cA M c) (hz S)) 7 (cA M d)) (tLs M σ d (nT σ) 1) ∧ fr (apS X 7 8 17 (cA M c) (hz S)) 8 (cA M d) = lsO (tLs M σ d (nT σ) 1) := fun d d1 d2 dc => by
    obtain ⟨q1, q2⟩ := ch_ap_ne (q := hz S) (by decide) (by decide) (by decide) (hX8 c c1 c2) (cA_ne hR c1 c2 d1 d2 dc) (hX17 d d1 d2) (fun z hz' hz2 => by
      obtain ⟨t, q1, q2, rfl, e1⟩ := tLs_mem _ _ _ hz'
      obtain ⟨t2, q3, q4, e2, e3⟩ := tLs_mem _ _ _ hz2
      have := ri.2.2 t t2 q1 (by omega) q3 (by omega) e2
      subst this
      exact dc (nI_inj (by omega) (by omega) (e1.symm.trans e3)))
    exact ⟨q1, q2.trans (hX8 d d1 d2)⟩
  obtain ⟨ykd, yfi, yfl, yan, yai, yar, yhz, ytz, yhL⟩ := apS_eq (S := X) (f0 := 7) (l0 := 8) (b0 := 17) (t := cA M c) (a := hz S)
  have yfr : ∀ j z, j ≠ 7 → j ≠ 8 → j ≠ 17 → fr (apS X 7 8 17 (cA M c) (hz S)) j z = fr X j z := fun j z q1 q2 q3 => apS_k q2 q1 q3
  have fok := apS_ok (t := cA M c) (a := hz S) (f0 := 7) (l0 := 8) (b0 := 17) fok1 kXq kXq kXq
  have hnnY : nn (apS X 7 8 17 (cA M c) (hz S)) := nn_apS hnnX
  generalize apS X 7 8 17 (cA M c) (hz S) = Y at ch1 ch2 chn' ykd yfi yfl yan yai yar yhz ytz yhL yfr fok hnnY
  have Ykd : ∀ a, kd Y a = if a = hz S then 7 else kd S a := fun a => by rw [ykd]; exact fkd a
  have Yfi : ∀ j a, a ≠ hz S → (j ≠ 12 ∨ a ≠ x) → fi Y j a = fi S j a := fun j a q1 q2 => by rw [yfi]; exact ffi j a q1 q2
  have Yfl : ∀ j a, a ≠ hz S → fl Y j a = fl S j a := fun j a q1 => by rw [yfl]; exact ffl j a q1
  have Yfr : ∀ j a, a ≠ hz S → j ≠ 7 → j ≠ 8 → j ≠ 17 → fr Y j a = fr S j a := fun j a q1 q2 q3 q4 => (yfr j a q2 q3 q4).trans (ffr1 j a q1)
  have Yar : ∀ a j, ar Y a j = if a = gd (fr S 20 x) ∧ j = nT σ then some (hz S) else ar S a j := fun a j => by rw [yar]; exact far a j
  -- the model
  have m17 : mi (sml (sma (smi σ 17 (mi σ 17 + 1)) 12 (nT σ + 1) (nI c)) 13 (nT σ + 1) k) 17 = nI (nT σ + 1) := (ri_l.trans (ri_a.trans ri_s)).trans (by rw [hN17]; exact nI_1 _)
  have mik : ∀ j, j ≠ 17 → mi (sml (sma (smi σ 17 (mi σ 17 + 1)) 12 (nT σ + 1) (nI c)) 13 (nT σ + 1) k) j = mi σ j := fun j hj => ri_l.trans (ri_a.trans (ri_i hj))
  have maj : ∀ j, j ≠ 12 → ma (sml (sma (smi σ 17 (mi σ 17 + 1)) 12 (nT σ + 1) (nI c)) 13 (nT σ + 1) k) j = ma σ j := fun j hj => funext fun d => ra_l.trans ((ra_a hj).trans ra_i)
  have ma12 : ∀ d, d ≠ nT σ + 1 → ma (sml (sma (smi σ 17 (mi σ 17 + 1)) 12 (nT σ + 1) (nI c)) 13 (nT σ + 1) k) 12 d = ma σ 12 d := fun d e => ra_l.trans ((ra_n e).trans ra_i)
  have ma12s : ma (sml (sma (smi σ 17 (mi σ 17 + 1)) 12 (nT σ + 1) (nI c)) 13 (nT σ + 1) k) 12 (nT σ + 1) = nI c := ra_l.trans ra_s
  have mlj : ∀ j, j ≠ 13 → ml (sml (sma (smi σ 17 (mi σ 17 + 1)) 12 (nT σ + 1) (nI c)) 13 (nT σ + 1) k) j = ml σ j := fun j hj => funext fun d => (rl_l hj).trans (rl_a.trans rl_i)
  have ml13 : ∀ d, d ≠ nT σ + 1 → ml (sml (sma (smi σ 17 (mi σ 17 + 1)) 12 (nT σ + 1) (nI c)) 13 (nT σ + 1) k) 13 d = ml σ 13 d := fun d e => (rl_n e).trans (rl_a.trans rl_i)
  have ml13s : ml (sml (sma (smi σ 17 (mi σ 17 + 1)) 12 (nT σ + 1) (nI c)) 13 (nT σ + 1) k) 13 (nT σ + 1) = k := rl_s
  have hmOk : mOk (sml (sma (smi σ 17 (mi σ 17 + 1)) 12 (nT σ + 1) (nI c)) 13 (nT σ + 1) k) := by
    have q1 : mOk (smi σ 17 (mi σ 17 + 1)) := by
      obtain ⟨m1, m2, m3, m4⟩ := g1
      refine ⟨m1, m2, ?_, m4⟩
      rw [show mi (smi σ 17 (mi σ 17 + 1)) 17 = nI (nT σ + 1) from ri_s.trans (by rw [hN17]; exact nI_1 _)]
      exact rg_nI0 (N := 20) (by omega) (by decide)
    exact mOk_w12 q1 (rg_nI0 (N := 20) (by omega) (by decide))
  generalize sml (sma (smi σ 17 (mi σ 17 + 1)) 12 (nT σ + 1) (nI c)) 13 (nT σ + 1) k = τ at m17 mik maj ma12 ma12s mlj ml13 ml13s hmOk
  have eC : nC τ = nC σ := by show (mi τ 15).toNatClampNeg = _; rw [mik 15 (by decide)]
  have eA : nA τ = nA σ := by show (mi τ 16).toNatClampNeg = _; rw [mik 16 (by decide)]
  have eT : nT τ = nT σ + 1 := by show (mi τ 17).toNatClampNeg = _; rw [m17, nI_clamp (by omega)]
  have eEx : exN τ = exN σ := by show (mi τ 18).toNatClampNeg = _; rw [mik 18 (by decide)]
  have eAc : acN τ = acN σ := by show (mi τ 19).toNatClampNeg = _; rw [mik 19 (by decide)]
  have tn : ∀ d, d ≤ nT σ → tA (upT M (nT σ + 1) (hz S)) d = tA M d := fun d hd => upT_n (by omega)
  have zN := g3.2.2 (nT σ + 1) (by omega)
  have hinv : ∀ v, inC σ v → inC τ v := fun v hv => ⟨hv.1, by rw [eC]; exact hv.2⟩
  have tls : ∀ d, tLs (upT M (nT σ + 1) (hz S)) τ d (nT σ) 1 = tLs M σ d (nT σ) 1 := fun d => tLs_M _ _ (fun b b1 b2 => ⟨tn b (by omega), ma12 b (by omega)⟩)
  have tle : ∀ d, tLs (upT M (nT σ + 1) (hz S)) τ d (nT τ) 1 = tLs M σ d (nT σ) 1 ++ (if nI c = nI d then [hz S] else []) := fun d => by
    rw [eT, tLs_end, tls, show 1 + nT σ = nT σ + 1 by omega, ma12s, upT_s]
  have als : ∀ d, aLs (upT M (nT σ + 1) (hz S)) τ d (nA τ) 1 = aLs M σ d (nA σ) 1 := fun d => by
    rw [eA]
    exact aLs_M _ _ (fun b b1 b2 => ⟨rfl, by rw [maj 6 (by decide)]⟩)
  have hNf : Nf S Y := by
    refine ⟨fun a ha => ?_, fun z hz' => ?_⟩
    · have hq := live a ha
      refine ⟨(Ykd a).trans (if_neg hq), ⟨Yfr _ _ hq (by decide) (by decide) (by decide), Yfr _ _ hq (by decide) (by decide) (by decide), Yfr _ _ hq (by decide) (by decide) (by decide)⟩, ⟨Yfi _ _ hq (Or.inl (by decide)), Yfi _ _ hq (Or.inl (by decide))⟩, by rw [yan, fan], fun h17 => ?_, fun _ => by rw [yai, fai]⟩
      funext j
      rw [Yar, if_neg (fun z => by rw [z.1, kA] at h17; cases h17)]
    · rw [Ykd] at hz'
      split at hz'
      · cases hz'
      · exact hz'
  have ptl : ∀ t p, ptO (upT M (nT σ + 1) (hz S)) τ t p = ptO M σ t p := fun t p => by unfold ptO npT; rw [maj 14 (by decide)]; rfl
  have hRS : RS (upT M (nT σ + 1) (hz S)) Y τ := by
    refine ⟨fun d d1 d2 => ?_, ⟨fun c d c1 c2 d1 d2 e => ?_, fun c d c1 c2 d1 d2 e => ?_, fun t d c1 c2 d1 d2 e => ?_⟩, fun d d1 d2 => ?_, fun a q1 q2 => ?_, fun t q1 q2 => ?_, fun t p q1 q2 hp => ?_⟩
    · rw [mlj 0 (by decide), mlj 1 (by decide)]
      exact rb d d1 (by omega)
    · rw [eC] at c2 d2; exact ri.1 c d c1 c2 d1 d2 e
    · rw [eA] at c2 d2; exact ri.2.1 c d c1 c2 d1 d2 e
    · rw [eT] at c2 d2
      by_cases et : t = nT σ + 1
      · by_cases ed : d = nT σ + 1
        · omega
        · rw [et, upT_s, tn d (by omega)] at e
          exact absurd e.symm (tlive d d1 (by omega))
      · by_cases ed : d = nT σ + 1
        · rw [ed, upT_s, tn t (by omega)] at e
          exact absurd e (tlive t c1 (by omega))
        · rw [tn t (by omega), tn d (by omega)] at e
          exact ri.2.2 t d c1 (by omega) d1 (by omega) e
    · rw [eC] at d2
      obtain ⟨k1, k2, k3, k3b, k4, k5⟩ := rc d d1 d2
      have hq := live (cA M d) (by rw [k1]; decide)
      rw [als, tle, mlj 0 (by decide), mlj 1 (by decide), mlj 2 (by decide)]
      show kd Y (cA M d) = 3 ∧ fl Y 2 (cA M d) = _ ∧ fl Y 3 (cA M d) = _ ∧ fl Y 4 (cA M d) = _ ∧ chn (fr Y 4) (fr Y 5 (cA M d)) _ ∧ chn (fr Y 17) (fr Y 7 (cA M d)) _
      rw [Ykd, if_neg hq, Yfl _ _ hq, Yfl _ _ hq, Yfl _ _ hq, Yfr _ _ hq (by decide) (by decide) (by decide)]
      refine ⟨k1, k2, k3, k3b, chn_congr _ _ (fun z hz' => ?_) k4, ?_⟩
      · obtain ⟨e, e1, e2, rfl, -⟩ := aLs_mem _ _ _ hz'
        exact (Yfr _ _ (live _ (by rw [(ra e e1 (by omega)).1]; decide)) (by decide) (by decide) (by decide)).symm
      · by_cases e : d = c
        · subst e
          rw [if_pos rfl]
          exact ch1
        · rw [if_neg (fun z => e (nI_inj (by omega) (by omega) z.symm)), List.append_nil]
          exact (chn' d d1 d2 e).1
    · rw [eA] at q2
      obtain ⟨k1, k2, k3, k4, k5, q, k6, k7, k8, k9⟩ := ra a q1 q2
      have hq := live (aA M a) (by rw [k1]; decide)
      have hq2 := live q (by rw [k7]; decide)
      show kd Y (aA M a) = 2 ∧ fi Y 0 (aA M a) = nI a ∧ fr Y 2 (aA M a) = some (cA M (ma τ 6 a).toNatClampNeg) ∧ fl Y 1 (aA M a) = ml τ 11 a ∧ (ma τ 7 a = 2 → rg 1 (nA τ) (ma τ 8 a)) ∧ ∃ q, fr Y 3 (aA M a) = some q ∧ acR Y q (if ma τ 7 a = 1 then some (cA M (ma τ 8 a).toNatClampNeg) else none) (if ma τ 7 a = 2 then some (aA M (ma τ 8 a).toNatClampNeg) else none)
      rw [maj 6 (by decide), maj 7 (by decide), maj 8 (by decide), mlj 11 (by decide), eA, Ykd, if_neg hq, Yfi _ _ hq (Or.inl (by decide)), Yfr _ _ hq (by decide) (by decide) (by decide), Yfl _ _ hq]
      exact ⟨k1, k2, k3, k4, k5, q, (Yfr _ _ hq (by decide) (by decide) (by decide)).trans k6, (Ykd q).trans ((if_neg hq2).trans k7), (Yfr _ _ hq2 (by decide) (by decide) (by decide)).trans k8, (Yfr _ _ hq2 (by decide) (by decide) (by decide)).trans k9⟩
    · rw [ptl, maj 17 (by decide)]
      by_cases e : t = nT σ + 1
      · subst e
        rw [upT_s, ma12s, ml13s, zN.2.2.1, ec, Ykd, if_pos rfl, yfi, ffq, yfl, flq, yfr _ _ (by decide) (by decide) (by decide), frq1, yfr _ _ (by decide) (by decide) (by decide), frq1, yfr _ _ (by decide) (by decide) (by decide), frq1]
        refine ⟨rfl, rfl, rfl, rfl, rfl, ?_⟩
        unfold ptO npT
        rw [zN.2.1]
        rfl
      · obtain ⟨k1, k2, k3, k4, k5, k6⟩ := rt t q1 (by omega)
        have hq := live (tA M t) (by rw [k1]; decide)
        have hcf := (w1.2.2 t q1 (by omega)).2.1.1
        have hnx : ¬ ma σ 17 t = 0 → tA (upT M (nT σ + 1) (hz S)) (ma σ 17 t).toNatClampNeg = tA M (ma σ 17 t).toNatClampNeg := fun _ => tn _ (rg_cl (hi := nT σ) hcf (by omega)).2
        rw [tn t (by omega), ma12 t e, ml13 t e, Ykd, if_neg hq, Yfi _ _ hq (Or.inl (by decide)), Yfr _ _ hq (by decide) (by decide) (by decide), Yfr _ _ hq (by decide) (by decide) (by decide), Yfr _ _ hq (by decide) (by decide) (by decide), Yfl _ _ hq]
        refine ⟨k1, k2, k3, k4, k5.trans ?_, k6⟩
        by_cases e0 : ma σ 17 t = 0
        · rw [if_pos e0, if_pos e0]
        · rw [if_neg e0, if_neg e0, hnx e0]
    · have hp : p < npT σ t := by unfold npT at hp ⊢; rw [maj 14 (by decide)] at hp; exact hp
      have e : t ≠ nT σ + 1 := fun e => by subst e; unfold npT at hp; rw [zN.2.1] at hp; exact absurd hp (Nat.not_lt_zero _)
      obtain ⟨k1, k2, k3, k4, q, k6, k7, k8, k9⟩ := rp t p q1 (by omega) hp
      have hq := live (pA M t p) (by rw [k1]; decide)
      have hq2 := live q (by rw [k7]; decide)
      show kd Y (pA M t p) = 6 ∧ fl Y 8 (pA M t p) = ml τ 15 (20 * t + p) ∧ fr Y 12 (pA M t p) = ptO (upT M (nT σ + 1) (hz S)) τ t (p + 1) ∧ (ma τ 16 (20 * t + p) < 0 → rg 1 (nA τ) (-(ma τ 16 (20 * t + p)))) ∧ ∃ q, fr Y 11 (pA M t p) = some q ∧ acR Y q (if 0 < ma τ 16 (20 * t + p) then some (cA M (ma τ 16 (20 * t + p)).toNatClampNeg) else none) (if ma τ 16 (20 * t + p) < 0 then some (aA M (-(ma τ 16 (20 * t + p))).toNatClampNeg) else none)
      rw [ptl, maj 16 (by decide), mlj 15 (by decide), eA, Ykd, if_neg hq, Yfr _ _ hq (by decide) (by decide) (by decide), Yfl _ _ hq]
      exact ⟨k1, k2, k3, k4, q, (Yfr _ _ hq (by decide) (by decide) (by decide)).trans k6, (Ykd q).trans ((if_neg hq2).trans k7), (Yfr _ _ hq2 (by decide) (by decide) (by decide)).trans k8, (Yfr _ _ hq2 (by decide) (by decide) (by decide)).trans k9⟩
  have hs3 : ∀ z, kd Y z = 3 → ∃ c, 1 ≤ c ∧ c ≤ nC τ ∧ z = cA (upT M (nT σ + 1) (hz S)) c := fun z hz' => by
    rw [Ykd] at hz'
    split at hz'
    · cases hz'
    · rw [eC]; exact as3 z hz'
  have hltY : hlt Y := fun a ha => by
    rw [yhL, fhL] at ha
    rw [yhz, fhz]
    rcases List.mem_append.mp ha with ha | ha
    · have := o2 a ha; omega
    · rw [List.mem_singleton] at ha; omega
  have hIY := sInv_mk hI hNf ⟨fok, hltY⟩ hnnY hRS hs3
  obtain ⟨-, -, hphi, hpsi⟩ := hNf.kp hI
  have hT' : Tr (nC τ) τ T := by
    rw [eC]
    exact Tr_4 g4 (maj 4 (by decide))
  have hL' : Lk τ := by
    refine ⟨fun a q1 q2 q3 => ?_, fun t p q1 q2 q3 q4 => ?_⟩
    · rw [maj 7 (by decide)] at q3
      unfold ld
      rw [maj 4 (by decide), maj 6 (by decide), maj 8 (by decide)]
      exact rlk.1 a q1 (by omega) q3
    · have hp : p < npT σ t := by unfold npT at q3 ⊢; rw [maj 14 (by decide)] at q3; exact q3
      have e : t ≠ nT σ + 1 := fun e => by subst e; unfold npT at hp; rw [zN.2.1] at hp; exact absurd hp (Nat.not_lt_zero _)
      rw [maj 16 (by decide)] at q4 ⊢
      unfold ld
      rw [maj 4 (by decide), ma12 t e]
      exact rlk.2 t p q1 (by omega) hp q4
  refine ⟨⟨⟨hIY, hRS, fun d d1 d2 => ?_, fun a q1 q2 => ?_, fun t q1 q2 => ?_, Dn_M (hNf.dn hI hDn) (mik 18 (by decide)) (fun j _ _ => maj j (by omega)), ?_⟩, fun y y1 y2 => ?_⟩, ⟨⟨?_, ?_, ?_⟩, ?_, fun d d1 d2 => ?_, fun a q1 q2 => ?_, fun t q1 q2 => ?_, hs3, fun z hz' => ?_⟩, ⟨fun d d1 d2 => ?_, fun t q1 q2 => ?_, fun t p t' p' q1 q2 q3 q4 q5 q6 => ?_⟩, ⟨fun d d1 d2 => ?_, hL'⟩, ⟨⟨hmOk, ?_, ?_, hT'⟩, ⟨Cf_of ?_ hL' hT', ?_, ?_, fun d => ?_, fun t q1 q2 => ?_, fun t q1 q2 => ?_⟩, fun d d1 d2 => ?_, ?_, ?_⟩, ?_⟩
  · rw [eC] at d2
    have hq := live (cA M d) (by rw [(rc d d1 d2).1]; decide)
    show fl Y 6 (cA M d) = _ ∧ fl Y 5 (cA M d) = _
    rw [Yfl _ _ hq, Yfl _ _ hq, mlj 3 (by decide), mlj 0 (by decide)]
    exact hDc d d1 d2
  · rw [eA] at q2
    have hq := live (aA M a) (by rw [(ra a q1 q2).1]; decide)
    show fi Y 1 (aA M a) = _ ∧ _ ∧ (_ → fl Y 0 (aA M a) = _)
    rw [Yfi _ _ hq (Or.inl (by decide)), Yfl _ _ hq, maj 9 (by decide), mlj 10 (by decide)]
    exact hDa a q1 q2
  · by_cases e : t = nT σ + 1
    · subst e
      rw [upT_s, maj 19 (by decide), mlj 18 (by decide), zN.2.2.2.1, zN.2.2.2.2.2, yfi, ffq, yfl, flq]
      exact ⟨rfl, rfl, fun z => z.elim, fun z => absurd rfl z⟩
    · have hq := live (tA M t) (by rw [(rt t q1 (by omega)).1]; decide)
      unfold DtR
      rw [tn t (by omega), Yfi _ _ hq (Or.inl (by decide)), Yfi _ _ hq (Or.inl (by decide)), Yfl _ _ hq, Yfl _ _ hq, Yfr _ _ hq (by decide) (by decide) (by decide), maj 19 (by decide), maj 21 (by decide), mlj 18 (by decide), mlj 20 (by decide), mlj 3 (by decide), ptl, ma12 t e]
      exact hDt t q1 (by omega)
  · rw [Yfi 13 x xq (Or.inl (by decide)), mik 19 (by decide)]
    exact hDk
  · rw [eC] at y2
    have hq := live (cA M y) (by rw [(rc y y1 y2).1]; decide)
    have hw := hW y y1 y2
    refine ⟨fun a q1 q2 q3 q4 q5 => ?_, fun t q1 q2 q3 q4 q5 q6 => ?_⟩
    · rw [eA] at q3 q2; rw [maj 6 (by decide)] at q4; rw [maj 9 (by decide)] at q5
      show (fl Y 7 (cA M y)).toInt ≤ _
      rw [Yfl _ _ hq, mlj 10 (by decide)]
      exact hw.1 a q1 q2 q3 q4 q5
    · rw [maj 19 (by decide)] at q5
      have e : t ≠ nT σ + 1 := fun e => by subst e; exact q5 zN.2.2.2.1
      rw [ma12 t e] at q4
      show (fl Y 7 (cA M y)).toInt ≤ _
      rw [Yfl _ _ hq, mlj 20 (by decide)]
      exact hw.2 t q1 (by omega) (by omega) q4 q5 q6
  · rw [Yfi 10 x xq (Or.inl (by decide)), mik 15 (by decide)]; exact a1
  · rw [Yfi 11 x xq (Or.inl (by decide)), mik 16 (by decide)]; exact a2
  · rw [yfi, ffx, m17]
  · obtain ⟨u1, u2, u3, u4, u5, u6⟩ := aat
    unfold atOk
    rw [Yfi 10 x xq (Or.inl (by decide)), Yfi 11 x xq (Or.inl (by decide)), yfi, ffx, Yfr 18 x xq (by decide) (by decide) (by decide), Yfr 19 x xq (by decide) (by decide) (by decide), Yfr 20 x xq (by decide) (by decide) (by decide), yan, fan]
    exact ⟨u1, u2, ⟨nT σ + 1, by omega, rfl⟩, u4, u5, u6⟩
  · rw [eC] at d2
    have kB : kd S (gd (fr S 18 x)) = 14 := o1.2.1 18 x _ kx (gd_some (hnn 18 x rfl kx))
    rw [Yfr 18 x xq (by decide) (by decide) (by decide), Yar, if_neg (fun z => by have := z.1; rw [this, kA] at kB; cases kB)]
    exact ac d d1 d2
  · rw [eA] at q2
    have kB : kd S (gd (fr S 19 x)) = 15 := o1.2.1 19 x _ kx (gd_some (hnn 19 x rfl kx))
    rw [Yfr 19 x xq (by decide) (by decide) (by decide), Yar, if_neg (fun z => by have := z.1; rw [this, kA] at kB; cases kB)]
    exact aa a q1 q2
  · rw [Yfr 20 x xq (by decide) (by decide) (by decide), Yar]
    by_cases e : t = nT σ + 1
    · subst e
      rw [if_pos ⟨rfl, by omega⟩, upT_s]
    · rw [if_neg (by omega), tn t (by omega)]
      exact atb t q1 (by omega)
  · by_cases e : z = hz S
    · exact ⟨nT σ + 1, by omega, by omega, by rw [upT_s]; exact e⟩
    · rw [Ykd, if_neg e] at hz'
      obtain ⟨t, q1, q2, q3⟩ := as7 z hz'
      exact ⟨t, q1, by omega, by rw [tn t q2]; exact q3⟩
  · rw [eC] at d2
    have hq := live (cA M d) (by rw [(rc d d1 d2).1]; decide)
    rw [als, tle]
    show fr Y 6 (cA M d) = _ ∧ fr Y 8 (cA M d) = _
    refine ⟨(Yfr _ _ hq (by decide) (by decide) (by decide)).trans (rz.1 d d1 d2).1, ?_⟩
    by_cases e : d = c
    · subst e
      rw [if_pos rfl]
      exact ch2
    · rw [if_neg (fun z => e (nI_inj (by omega) (by omega) z.symm)), List.append_nil]
      exact (chn' d d1 d2 e).2
  · rw [maj 14 (by decide)]
    by_cases e : t = nT σ + 1
    · subst e
      rw [upT_s, yfi, ffq, zN.2.1]
      rfl
    · have hq := live (tA M t) (by rw [(rt t q1 (by omega)).1]; decide)
      rw [tn t (by omega), Yfi _ _ hq (Or.inl (by decide))]
      exact rz.2.1 t q1 (by omega)
  · unfold npT at q5 q6
    rw [maj 14 (by decide)] at q5 q6
    have e : t ≠ nT σ + 1 := fun e => by subst e; rw [zN.2.1] at q5; exact absurd q5 (Nat.not_lt_zero _)
    have e' : t' ≠ nT σ + 1 := fun e => by subst e; rw [zN.2.1] at q6; exact absurd q6 (Nat.not_lt_zero _)
    exact rz.2.2 t p t' p' q1 (by omega) q3 (by omega) q5 q6
  · rw [eC] at d2
    have hq := live (cA M d) (by rw [(rc d d1 d2).1]; decide)
    show fi Y 2 (cA M d) = bt d ∧ ∀ e, 1 ≤ e → e ≤ 20 → (T d e = true ↔ ¬ fi Y 3 (cA M d) &&& bt e = 0)
    rw [Yfi _ _ hq (Or.inl (by decide)), Yfi _ _ hq (Or.inl (by decide))]
    exact rl d d1 d2
  · unfold mAc; rw [maj 7 (by decide), maj 8 (by decide)]; exact g2
  · refine ⟨fun d hd => ?_, fun a ha => ?_, fun t ht => ?_⟩
    · rw [mlj 2 (by decide), mlj 3 (by decide)]
      exact g3.1 d (by omega)
    · rw [maj 6 (by decide), maj 9 (by decide), mlj 11 (by decide)]
      exact g3.2.1 a (by omega)
    · rw [ma12 t (by omega), maj 14 (by decide), maj 17 (by decide), maj 19 (by decide), maj 21 (by decide), mlj 18 (by decide)]
      exact g3.2.2 t (by omega)
  · have hB := Cf_B w1
    refine ⟨⟨fun d d1 d2 => ?_, by omega, by omega, by omega⟩, fun a q1 q2 => ?_, fun t q1 q2 => ?_⟩
    · rw [mlj 0 (by decide)]
      exact hB.1.1 d d1 (by omega)
    · rw [eA] at q2
      obtain ⟨k1, k2, k3⟩ := hB.2.1 a q1 q2
      rw [maj 6 (by decide), maj 7 (by decide), maj 8 (by decide), mlj 11 (by decide)]
      exact ⟨hinv _ k1, fun z => hinv _ (k2 z), k3⟩
    · rw [maj 14 (by decide), maj 16 (by decide), maj 17 (by decide), mlj 15 (by decide), eT]
      by_cases e : t = nT σ + 1
      · subst e
        rw [ma12s, ml13s, zN.2.1, zN.2.2.1]
        have z0 : (0 : Int32).toInt = 0 := rfl
        refine ⟨hinv _ (rg_nI c1 c2 (by omega)), ⟨⟨by rw [z0]; exact Int.le_refl _, by rw [z0]; omega⟩, fun z => absurd rfl z⟩, ⟨by decide, by decide⟩, hk, fun p hp => absurd hp (Nat.not_lt_zero _)⟩
      · obtain ⟨k1, ⟨k2, k2b⟩, k3, k4, k5⟩ := hB.2.2 t q1 (by omega)
        have hb := (rg_cl (hi := nT σ) k2 (by omega)).2
        rw [ma12 t e, ma12 _ (by omega), ml13 t e]
        exact ⟨hinv _ k1, ⟨k2.wk (Int.le_refl _) (by omega), k2b⟩, k3, k4, fun p hp => ⟨(k5 p hp).1, (k5 p hp).2.1, fun z => hinv _ ((k5 p hp).2.2 z)⟩⟩
  · rw [eAc, mik 19 (by decide)]; exact w2
  · rw [eEx, mik 18 (by decide)]; exact w3
  · rw [mlj 3 (by decide)]
    have := w4 d
    omega
  · rw [maj 14 (by decide), maj 21 (by decide)]
    by_cases e : t = nT σ + 1
    · subst e
      rw [zN.2.1, zN.2.2.2.2.1]
      exact ⟨by decide, by decide⟩
    · exact w5 t q1 (by omega)
  · rw [mlj 18 (by decide)]
    by_cases e : t = nT σ + 1
    · subst e
      rw [zN.2.2.2.2.2]
      exact ⟨by decide, by decide⟩
    · exact w6 t q1 (by omega)
  · rw [mlj 2 (by decide)]
    exact gr d d1 (by omega)
  · have hw1 : wN τ = nA σ + 4 * (nT σ + 1) := by show nA τ + 4 * nT τ = _; rw [eA, eT]
    have hw2 : wN σ = nA σ + 4 * nT σ := rfl
    rw [eEx, hw1]
    refine Nat.le_trans gx (Nat.mul_le_mul_right _ (Nat.mul_le_mul_left _ ?_))
    rw [hw2]
    omega
  · rw [eA, eT]; omega
  · unfold RH
    rw [hphi, hpsi, yhz, ytz, fhz, ftz]
    have := rh.1
    have := rh.2
    omega
theorem o_table {M : AM} {x : Nat} {T : Nat → Nat → Bool} {n kt h0 t0 : Nat} {S : HS} {σ : MS} (h : RO M x T n kt h0 t0 S σ) (c0 : Int32) (k : Int64) : table_R S x c0 k = Mtable_R σ c0 k ∧ ∃ M', RO M' x T (n + 1) kt h0 t0 (table_S S x c0 k) (Mtable_S σ c0 k) := by
  have hO := h.2.2.2.2.1.1.1
  have h14 : RO M x T n kt h0 t0 S (smi σ 14 0) := RO_m h eqm_14
  have f1 : Mno_R σ c0 = Mno_R (smi σ 14 0) c0 := rfl
  unfold table_R Mtable_R table_S Mtable_S
  rw [Mno_Se, f1]
  generalize smi σ 14 0 = τ at h14
  have hOτ := h14.2.2.2.2.1.1.1
  have hC := h14.2.2.2.2.1.2.1.1.1.2.1
  obtain ⟨e17, b17⟩ := cnt_eq (N := 20) hOτ.2.2.1 (by decide)
  have e12 : fi S 12 x = mi τ 17 := h14.2.1.1.2.2
  rcases fC h14.2.1 hOτ c0 with ⟨c, c1, c2, c3, c4, c5⟩ | ⟨c4, c5⟩
  · rw [op_some c4, op_some c4]
    repeat rw [if_pos c5]
    by_cases q1 : k < (1 : Int64)
    · repeat rw [if_pos q1]
      exact ⟨rfl, M, RO_n h14⟩
    · repeat rw [if_neg q1]
      by_cases q2 : (1000000 : Int64) < k
      · repeat rw [if_pos q2]
        exact ⟨rfl, M, RO_n h14⟩
      · repeat rw [if_neg q2]
        by_cases q3 : mi τ 17 = (20 : Int32)
        · have q3' : ¬ fi S 12 x < (20 : Int32) := by rw [e12, q3]; decide
          repeat rw [if_pos q3]
          repeat rw [if_neg q3']
          exact ⟨rfl, M, RO_n h14⟩
        · have hlt : nT τ < 20 := by
            rcases Nat.lt_or_ge (nT τ) 20 with z | z
            · exact z
            · exact absurd (by rw [e17, show (mi τ 17).toNatClampNeg = 20 from (show nT τ = 20 by have : nT τ ≤ 20 := b17; omega)]; rfl) q3
          have q3' : fi S 12 x < (20 : Int32) := by
            rw [e12, e17, show (20 : Int32) = nI 20 from rfl]
            exact (nI_ltI (show (mi τ 17).toNatClampNeg < 2 ^ 31 by have : (mi τ 17).toNatClampNeg ≤ 20 := b17; omega) (by decide)).mpr hlt
          repeat rw [if_neg q3]
          repeat rw [if_pos q3']
          have ev : mi τ 17 + 1 = nI (nT τ + 1) := by rw [e17]; exact nI_1 _
          have eS : appendTable_S (sfi (sar (Table_init_S (newQ S (hz S) 7) (hz S) (fi S 12 x + 1) (cA M c) k) (gd (fr S 20 x)) (fi S 12 x).toNatClampNeg (some (hz S))) 12 x (fi S 12 x + 1)) (cA M c) (hz S) = apS (nwT S (gd (fr S 20 x)) x (nT τ) (cA M c) k) 7 8 17 (cA M c) (hz S) := by
            rw [e12, ev]
            rfl
          rw [eS, c3]
          have ec : (mi τ 17 + 1).toNatClampNeg = nT τ + 1 := by rw [ev, nI_clamp (by omega)]
          rw [ec]
          rw [Int64.lt_iff_toInt_lt] at q1 q2
          have z1 : (1 : Int64).toInt = 1 := rfl
          have z2 : (1000000 : Int64).toInt = 1000000 := rfl
          have hR := RO_table h14 hlt c1 c2 (k := k) (by omega)
          refine ⟨?_, _, hR⟩
          have := hR.2.1.1.2.2
          rw [this]
          exact ri_l.trans (ri_a.trans ri_s)
  · rw [op_none c4, op_none c4, c5, if_neg (by decide), if_neg (by decide)]
    exact ⟨rfl, M, RO_n h14⟩
