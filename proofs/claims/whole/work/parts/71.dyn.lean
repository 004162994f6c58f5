-- WHAT CHANGES ALONG A STEP
abbrev clA (S : HS) (x j : Nat) : Nat := gd (fr S 10 (gd (ar S (pgA S x) j)))
def Dc (M : AM) (S : HS) (σ : MS) : Prop := ∀ c, 1 ≤ c → c ≤ nC σ → fl S 6 (cA M c) = ml σ 3 c ∧ fl S 5 (cA M c) = mdl (ml σ 3 c) (ml σ 0 c)
def Da (M : AM) (S : HS) (σ : MS) : Prop := ∀ a, 1 ≤ a → a ≤ nA σ → fi S 1 (aA M a) = ma σ 9 a ∧ (ma σ 9 a = 0 ∨ ma σ 9 a = 1) ∧ (¬ ma σ 9 a = 0 → fl S 0 (aA M a) = ml σ 10 a)
def DtR (M : AM) (E : Nat → Prop) (S : HS) (σ : MS) (t : Nat) : Prop := fi S 9 (tA M t) = (if ma σ 21 t = -1 then 0 else 1) ∧ (¬ ma σ 21 t = -1 → fr S 15 (tA M t) = ptO M σ t (ma σ 21 t).toNatClampNeg) ∧ (E t → fl S 10 (tA M t) = ml σ 3 (ma σ 12 t).toNatClampNeg) ∧ (¬ E t → fl S 10 (tA M t) = ml σ 20 t)
def Dt (M : AM) (E : Nat → Prop) (S : HS) (σ : MS) : Prop := ∀ t, 1 ≤ t → t ≤ nT σ → fi S 8 (tA M t) = ma σ 19 t ∧ fl S 11 (tA M t) = ml σ 18 t ∧ (E t → ¬ ma σ 19 t = 0) ∧ (¬ ma σ 19 t = 0 → DtR M E S σ t)
def Dn (x : Nat) (S : HS) (σ : MS) : Prop := fi S 5 (ntA S x) = mi σ 18 ∧ kpN S x = min 3000 (exN σ) ∧ (∀ i, i < kpN S x → ∀ w, w < 4 → ai S (clA S x (i / 250)) (i % 250 * 4 + w) = ma σ (22 + w) i) ∧ (∀ j j', 250 * j < kpN S x → 250 * j' < kpN S x → clA S x j = clA S x j' → j = j')
def RD (M : AM) (x : Nat) (E : Nat → Prop) (S : HS) (σ : MS) : Prop := Dc M S σ ∧ Da M S σ ∧ Dt M E S σ ∧ Dn x S σ ∧ fi S 13 x = mi σ 19
def Sm (M : AM) (x : Nat) (E : Nat → Prop) (S : HS) (σ : MS) : Prop := sInv S x ∧ RS M S σ ∧ RD M x E S σ
/-- nothing of a counter's alarms below a0 and tables below t0 is due before it wakes -/
def WkP (M : AM) (E : Nat → Prop) (y a0 t0 : Nat) (S : HS) (σ : MS) : Prop := (∀ a, 1 ≤ a → a < a0 → a ≤ nA σ → ma σ 6 a = nI y → ¬ ma σ 9 a = 0 → (fl S 7 (cA M y)).toInt ≤ (ml σ 10 a).toInt) ∧ (∀ t, 1 ≤ t → t < t0 → t ≤ nT σ → ma σ 12 t = nI y → ¬ ma σ 19 t = 0 → ¬ E t → (fl S 7 (cA M y)).toInt ≤ (ml σ 20 t).toInt)
def Ps (rk : Nat → Nat) (M : AM) (x : Nat) (E : Nat → Prop) (c a0 t0 : Nat) (S : HS) (σ : MS) : Prop := Sm M x E S σ ∧ (∀ y, 1 ≤ y → y ≤ nC σ → y ≠ c → rk y ≤ rk c → WkP M E y (nA σ + 1) (nT σ + 1) S σ) ∧ WkP M E c a0 t0 S σ
def Ou (rk : Nat → Nat) (M : AM) (c : Nat) (σ : MS) (S S' : HS) : Prop := Sc S S' ∧ ∀ y, 1 ≤ y → y ≤ nC σ → rk c < rk y → fl S' 7 (cA M y) = fl S 7 (cA M y)
theorem Ou.rf {rk : Nat → Nat} {M : AM} {c : Nat} {σ : MS} (S : HS) : Ou rk M c σ S S := ⟨Sc.rf S, fun _ _ _ _ => rfl⟩
theorem Ou.tr {rk : Nat → Nat} {M : AM} {c : Nat} {σ : MS} {S S' S'' : HS} (h : Ou rk M c σ S S') (h' : Ou rk M c σ S' S'') : Ou rk M c σ S S'' := ⟨h.1.tr h'.1, fun y y1 y2 y3 => (h'.2 y y1 y2 y3).trans (h.2 y y1 y2 y3)⟩
theorem Ou.cg {rk : Nat → Nat} {M : AM} {c : Nat} {σ σ' : MS} {S S' : HS} (h : Ou rk M c σ S S') (e : nC σ' = nC σ) : Ou rk M c σ' S S' := ⟨h.1, fun y y1 y2 y3 => h.2 y y1 (by omega) y3⟩
theorem WkP_fr {M : AM} {E : Nat → Prop} {y a0 t0 : Nat} {S S' : HS} {σ σ' : MS} (h : WkP M E y a0 t0 S σ) (hs : stc σ σ') (h7 : fl S' 7 (cA M y) = fl S 7 (cA M y)) (ha : ∀ a, 1 ≤ a → a ≤ nA σ → ma σ 6 a = nI y → ml σ' 10 a = ml σ 10 a ∧ (ma σ 9 a = 0 → ma σ' 9 a = 0)) (ht : ∀ t, 1 ≤ t → t ≤ nT σ → ma σ 12 t = nI y → ma σ' 19 t = ma σ 19 t ∧ ml σ' 20 t = ml σ 20 t) : WkP M E y a0 t0 S' σ' := by
  have e6 := hs.2.1 6 (by decide)
  have e12 := hs.2.1 12 (by decide)
  refine ⟨fun a q1 q2 q3 q4 q5 => ?_, fun t q1 q2 q3 q4 q5 q6 => ?_⟩
  · rw [nA_stc hs] at q3
    rw [e6] at q4
    obtain ⟨e1, e2⟩ := ha a q1 q3 q4
    rw [h7, e1]
    exact h.1 a q1 q2 q3 q4 (fun z => q5 (e2 z))
  · rw [nT_stc hs] at q3
    rw [e12] at q4
    obtain ⟨e1, e2⟩ := ht t q1 q3 q4
    rw [h7, e2]
    rw [e1] at q5
    exact h.2 t q1 q2 q3 q4 q5 q6
/-- where the model stays -/
theorem WkP_S {M : AM} {E : Nat → Prop} {y a0 t0 : Nat} {S S' : HS} {σ : MS} (h : WkP M E y a0 t0 S σ) (h7 : fl S' 7 (cA M y) = fl S 7 (cA M y)) : WkP M E y a0 t0 S' σ := WkP_fr h (stc.rf σ) h7 (fun _ _ _ _ => ⟨rfl, id⟩) (fun _ _ _ _ => ⟨rfl, rfl⟩)
theorem WkP_Fm {rk : Nat → Nat} {r : Nat} {M : AM} {E : Nat → Prop} {y a0 t0 : Nat} {S S' : HS} {σ σ' : MS} (h : WkP M E y a0 t0 S σ) (hy : y < 2 ^ 31) (hF : Fm rk r σ σ') (hr : r < rk y) (h7 : fl S' 7 (cA M y) = fl S 7 (cA M y)) : WkP M E y a0 t0 S' σ' := by
  have ey : (nI y).toNatClampNeg = y := nI_clamp hy
  refine WkP_fr h hF.1 h7 (fun a _ _ e => hF.2.2.1 a (by rw [e, ey]; exact hr)) (fun t _ _ e => ?_)
  obtain ⟨e1, -, e3, -⟩ := hF.2.2.2 t (by rw [e, ey]; exact hr)
  exact ⟨e1, e3⟩
-- a note
theorem add_live {S : HS} {x : Nat} {kn nb : Int32} {of_ vl : Int64} (h : sInv S x) {a : Nat} (ha : kd S a ≠ 0) : kd (add_S S (ntA S x) kn nb of_ vl) a = kd S a ∧ (∀ k, fl (add_S S (ntA S x) kn nb of_ vl) k a = fl S k a) ∧ (∀ k, fr (add_S S (ntA S x) kn nb of_ vl) k a = fr S k a) ∧ (∀ k, k ≠ 4 → k ≠ 5 → fi (add_S S (ntA S x) kn nb of_ vl) k a = fi S k a) ∧ (kd S a ≠ 17 → ar (add_S S (ntA S x) kn nb of_ vl) a = ar S a) := by
  obtain ⟨⟨g1, g1b⟩, g2, g3, g4, ⟨g5, g6, g7, g8⟩, g9, g10⟩ := h
  have nts := gd_some (g3 21 x rfl g2)
  have ntk : kd S (ntA S x) = 4 := g1.2.1 21 x _ g2 nts
  have pgs := gd_some (g3 9 (ntA S x) rfl ntk)
  have pgk : kd S (pgA S x) = 17 := g1.2.1 9 (ntA S x) _ ntk pgs
  obtain ⟨n1, n2⟩ := mkPg_old g1 g1b ha
  unfold add_S
  split
  · cases hp : ar S (gd (fr S 9 (ntA S x))) (fi S 4 (ntA S x) / (250 : Int32)).toNatClampNeg with
    | none =>
      refine ⟨?_, fun k => ?_, fun k => ?_, fun k k4 k5 => ?_, fun hk => ?_⟩
      · show va_up (va_up (kd S) (hz S) 5) (hz S + 1) 11 a = kd S a
        rw [va_up_ne _ _ n2, va_up_ne _ _ n1]
      · show zr (fl S) (hz S) 0 k a = fl S k a
        exact if_neg n1
      · show up2 (zr (fr S) (hz S) none) 10 (hz S) (some (hz S + 1)) k a = fr S k a
        rw [up2_a _ _ _ _ n1]
        exact if_neg n1
      · show up2 (zr (up2 (fi S) 5 (ntA S x) (fi S 5 (ntA S x) + 1)) (hz S) 0) 4 (ntA S x) _ k a = fi S k a
        rw [up2_k _ _ _ _ k4]
        refine (if_neg n1).trans ?_
        exact up2_k _ _ _ _ k5
      · show up2 (va_up (ar S) (hz S + 1) (fun _ => none)) (pgA S x) _ (some (hz S)) a = ar S a
        rw [up2_row' _ _ _ (fun e => hk (by rw [e]; exact pgk)), va_up_ne _ _ n2]
    | some b =>
      refine ⟨rfl, fun k => rfl, fun k => rfl, fun k k4 k5 => ?_, fun hk => rfl⟩
      show up2 (up2 (fi S) 5 (ntA S x) (fi S 5 (ntA S x) + 1)) 4 (ntA S x) _ k a = fi S k a
      rw [up2_k _ _ _ _ k4, up2_k _ _ _ _ k5]
  · exact ⟨rfl, fun _ => rfl, fun _ => rfl, fun k _ k5 => up2_k _ _ _ _ k5, fun _ => rfl⟩
theorem Sc_add {S : HS} {x : Nat} {kn nb : Int32} {of_ vl : Int64} (h : sInv S x) : Sc S (add_S S (ntA S x) kn nb of_ vl) := by
  refine ⟨fun a ha => ?_, fun b hb => ?_⟩
  case refine_2 =>
    revert hb
    unfold add_S
    split
    · cases ar S (gd (fr S 9 (ntA S x))) (fi S 4 (ntA S x) / (250 : Int32)).toNatClampNeg with
      | none =>
        show va_up (va_up (kd S) (hz S) 5) (hz S + 1) 11 b = 3 ∨ va_up (va_up (kd S) (hz S) 5) (hz S + 1) 11 b = 7 → kd S b = va_up (va_up (kd S) (hz S) 5) (hz S + 1) 11 b
        unfold va_up
        by_cases e1 : b = hz S + 1
        · rw [if_pos e1]; intro q; rcases q with q | q <;> cases q
        · rw [if_neg e1]
          by_cases e2 : b = hz S
          · rw [if_pos e2]; intro q; rcases q with q | q <;> cases q
          · rw [if_neg e2]; exact fun _ => rfl
      | some b2 => exact fun _ => rfl
    · exact fun _ => rfl
  obtain ⟨e1, e2, e3, e4, e5⟩ := add_live (kn := kn) (nb := nb) (of_ := of_) (vl := vl) h ha
  exact ⟨e1, fun k _ q4 q5 _ _ _ => e4 k q4 q5, fun k _ _ _ _ _ _ => e2 k, fun k _ => e3 k, e5⟩
theorem wr_ar {S : HS} {b : Nat} {n kn nb : Int32} {of_ vl : Int64} : ar (write_S S b n kn nb of_ vl) = ar S := rfl
theorem wr_fr {S : HS} {b : Nat} {n kn nb : Int32} {of_ vl : Int64} : fr (write_S S b n kn nb of_ vl) = fr S := rfl
theorem wr_fi {S : HS} {b : Nat} {n kn nb : Int32} {of_ vl : Int64} : fi (write_S S b n kn nb of_ vl) = fi S := rfl
theorem wrt_ai {S : HS} {b n : Nat} {kn nb : Int32} {of_ vl : Int64} (hn : n < 1000) (c i : Nat) : ai (write_S S b (nI n) kn nb of_ vl) c i = if c = gd (fr S 10 b) then (if i = n then kn else if i = n + 1 then nb else if i = n + 2 then of_.toInt32 else if i = n + 3 then vl.toInt32 else ai S c i) else ai S c i := by
  show up2 (up2 (up2 (up2 (ai S) (gd (fr S 10 b)) (nI n).toNatClampNeg kn) (gd (fr S 10 b)) (nI n + (1 : Int32)).toNatClampNeg nb) (gd (fr S 10 b)) (nI n + (2 : Int32)).toNatClampNeg of_.toInt32) (gd (fr S 10 b)) (nI n + (3 : Int32)).toNatClampNeg vl.toInt32 c i = _
  rw [show nI n + (1 : Int32) = nI (n + 1) from nI_add n 1, show nI n + (2 : Int32) = nI (n + 2) from nI_add n 2, show nI n + (3 : Int32) = nI (n + 3) from nI_add n 3, nI_clamp (by omega), nI_clamp (by omega), nI_clamp (by omega), nI_clamp (by omega)]
  unfold up2
  by_cases hc : c = gd (fr S 10 b)
  · rw [if_pos hc]
    by_cases h0 : i = n
    · rw [if_neg (by omega), if_neg (by omega), if_neg (by omega), if_pos ⟨hc, h0⟩, if_pos h0]
    · rw [if_neg h0]
      by_cases h1 : i = n + 1
      · rw [if_neg (by omega), if_neg (by omega), if_pos ⟨hc, h1⟩, if_pos h1]
      · rw [if_neg h1]
        by_cases h2 : i = n + 2
        · rw [if_neg (by omega), if_pos ⟨hc, h2⟩, if_pos h2]
        · rw [if_neg h2]
          by_cases h3 : i = n + 3
          · rw [if_pos ⟨hc, h3⟩, if_pos h3]
          · rw [if_neg h3, if_neg (by omega), if_neg (by omega), if_neg (by omega), if_neg (by omega)]
  · rw [if_neg hc, if_neg (fun q => hc q.1), if_neg (fun q => hc q.1), if_neg (fun q => hc q.1), if_neg (fun q => hc q.1)]
-- what is noted: the list of notes has one more
set_option maxHeartbeats 4000000 in
theorem add_eff {S : HS} {x : Nat} {kn nb : Int32} {of_ vl : Int64} (h : sInv S x) (hk : kpN S x < 3000) (hinj : ∀ j j', 250 * j < kpN S x → 250 * j' < kpN S x → clA S x j = clA S x j' → j = j') :
    fi (add_S S (ntA S x) kn nb of_ vl) 5 (ntA S x) = fi S 5 (ntA S x) + 1 ∧ fi (add_S S (ntA S x) kn nb of_ vl) 4 (ntA S x) = nI (kpN S x + 1) ∧
    (∀ j, 250 * j < kpN S x → clA (add_S S (ntA S x) kn nb of_ vl) x j = clA S x j) ∧
    (∀ j j', 250 * j < kpN S x + 1 → 250 * j' < kpN S x + 1 → clA (add_S S (ntA S x) kn nb of_ vl) x j = clA (add_S S (ntA S x) kn nb of_ vl) x j' → j = j') ∧
    (∀ j, 250 * j < kpN S x + 1 → ∀ i, ai (add_S S (ntA S x) kn nb of_ vl) (clA (add_S S (ntA S x) kn nb of_ vl) x j) i = if j = kpN S x / 250 then (if i = kpN S x % 250 * 4 then kn else if i = kpN S x % 250 * 4 + 1 then nb else if i = kpN S x % 250 * 4 + 2 then of_.toInt32 else if i = kpN S x % 250 * 4 + 3 then vl.toInt32 else if 250 * j < kpN S x then ai S (clA S x j) i else 0) else ai S (clA S x j) i) := by
  have hI := h
  obtain ⟨⟨g1, g1b⟩, g2, g3, g4, ⟨g5, g6, g7, g8⟩, g9, g10⟩ := h
  have nts := gd_some (g3 21 x rfl g2)
  have ntk : kd S (ntA S x) = 4 := g1.2.1 21 x _ g2 nts
  have pgs := gd_some (g3 9 (ntA S x) rfl ntk)
  have pgk : kd S (pgA S x) = 17 := g1.2.1 9 (ntA S x) _ ntk pgs
  have c : fi S 4 (ntA S x) < (3000 : Int32) := by
    rw [g5]
    exact (nI_ltI (b := 3000) (by omega) (by decide)).mpr hk
  have e : (fi S 4 (ntA S x) / (250 : Int32)).toNatClampNeg = kpN S x / 250 := by rw [dv250 g5 g6, nI_clamp (by have : (fi S 4 (ntA S x)).toNatClampNeg ≤ 3000 := g6; omega)]
  have ew : (fi S 4 (ntA S x) - fi S 4 (ntA S x) / 250 * 250) * 4 = nI (kpN S x % 250 * 4) := by
    rw [g5]
    rw [show nI (kpN S x) - nI (kpN S x) / 250 * 250 = nI (kpN S x % 250) from pk_rem (by omega) (by decide) (by decide)]
    exact pk_mul _ 4
  have hw : kpN S x % 250 * 4 < 1000 := by omega
  have live : ∀ j, 250 * j < kpN S x → ∃ b, ar S (pgA S x) j = some b ∧ kd S b = 5 ∧ kd S (clA S x j) = 11 := fun j hj => by
    cases hp : ar S (pgA S x) j with
    | none => exact absurd ((g8 j (by omega)).mp hp) (by omega)
    | some b =>
      have kb : kd S b = 5 := g1.2.2 (pgA S x) j b (by rw [pgk]; decide) hp |>.trans (by rw [pgk]; rfl)
      refine ⟨b, rfl, kb, ?_⟩
      show kd S (gd (fr S 10 (gd (ar S (pgA S x) j)))) = 11
      rw [hp]
      exact g1.2.1 10 b _ kb (gd_some (g3 10 b rfl kb))
  have lv := fun a ha => add_live (kn := kn) (nb := nb) (of_ := of_) (vl := vl) hI (a := a) ha
  have lx := lv x (by rw [g2]; decide)
  have ln := lv (ntA S x) (by rw [ntk]; decide)
  have ent : ntA (add_S S (ntA S x) kn nb of_ vl) x = ntA S x := by show gd (fr _ 21 x) = _; rw [lx.2.2.1 21]
  have epg : pgA (add_S S (ntA S x) kn nb of_ vl) x = pgA S x := by show gd (fr _ 9 (ntA _ x)) = _; rw [ent, ln.2.2.1 9]
  have ecl : ∀ j, clA (add_S S (ntA S x) kn nb of_ vl) x j = gd (fr (add_S S (ntA S x) kn nb of_ vl) 10 (gd (ar (add_S S (ntA S x) kn nb of_ vl) (pgA S x) j))) := fun j => by show gd (fr _ 10 (gd (ar _ (pgA _ x) j))) = _; rw [epg]
  cases hp : ar S (gd (fr S 9 (ntA S x))) (kpN S x / 250) with
  | none =>
    have hm := (g8 (kpN S x / 250) (by omega)).mp hp
    have hm : kpN S x = 250 * (kpN S x / 250) := by omega
    have eq : add_S S (ntA S x) kn nb of_ vl = sfi (write_S (sar (Page_init_S (newQ (sfi S 5 (ntA S x) (fi S 5 (ntA S x) + 1)) (hz S) 5) (hz S)) (pgA S x) (kpN S x / 250) (some (hz S))) (hz S) (nI (kpN S x % 250 * 4)) kn nb of_ vl) 4 (ntA S x) (fi (write_S (sar (Page_init_S (newQ (sfi S 5 (ntA S x) (fi S 5 (ntA S x) + 1)) (hz S) 5) (hz S)) (pgA S x) (kpN S x / 250) (some (hz S))) (hz S) (nI (kpN S x % 250 * 4)) kn nb of_ vl) 4 (ntA S x) + 1) := by
      unfold add_S
      rw [if_pos c, e, ew]
      exact op_none hp
    obtain ⟨n1, n2⟩ := mkPg_old g1 g1b (a := ntA S x) (by rw [ntk]; decide)
    obtain ⟨p1, p2⟩ := mkPg_old g1 g1b (a := pgA S x) (by rw [pgk]; decide)
    have hQ : sar (Page_init_S (newQ (sfi S 5 (ntA S x) (fi S 5 (ntA S x) + 1)) (hz S) 5) (hz S)) (pgA S x) (kpN S x / 250) (some (hz S)) = mkPg (sfi S 5 (ntA S x) (fi S 5 (ntA S x) + 1)) (pgA S x) (kpN S x / 250) := rfl
    rw [hQ] at eq
    have f4 : fi (mkPg (sfi S 5 (ntA S x) (fi S 5 (ntA S x) + 1)) (pgA S x) (kpN S x / 250)) 4 (ntA S x) = fi S 4 (ntA S x) := (mkPg_fi (S := sfi S 5 (ntA S x) (fi S 5 (ntA S x) + 1)) (show ntA S x ≠ hz S from n1)).trans rfl
    have f5 : fi (mkPg (sfi S 5 (ntA S x) (fi S 5 (ntA S x) + 1)) (pgA S x) (kpN S x / 250)) 5 (ntA S x) = fi S 5 (ntA S x) + 1 := (mkPg_fi (S := sfi S 5 (ntA S x) (fi S 5 (ntA S x) + 1)) (show ntA S x ≠ hz S from n1)).trans (up2_self _ _ _ _)
    have fa : ∀ i, ar (mkPg (sfi S 5 (ntA S x) (fi S 5 (ntA S x) + 1)) (pgA S x) (kpN S x / 250)) (pgA S x) i = if i = kpN S x / 250 then some (hz S) else ar S (pgA S x) i := fun i => mkPg_ar (S := sfi S 5 (ntA S x) (fi S 5 (ntA S x) + 1)) (show pgA S x ≠ hz S + 1 from p2)
    have f10 : ∀ a, a ≠ hz S → fr (mkPg (sfi S 5 (ntA S x) (fi S 5 (ntA S x) + 1)) (pgA S x) (kpN S x / 250)) 10 a = fr S 10 a := fun a ha => mkPg_fr (S := sfi S 5 (ntA S x) (fi S 5 (ntA S x) + 1)) (show a ≠ hz S from ha)
    have f10n : fr (mkPg (sfi S 5 (ntA S x) (fi S 5 (ntA S x) + 1)) (pgA S x) (kpN S x / 250)) 10 (hz S) = some (hz S + 1) := up2_self _ _ _ _
    have fai : ∀ a, a ≠ hz S + 1 → ai (mkPg (sfi S 5 (ntA S x) (fi S 5 (ntA S x) + 1)) (pgA S x) (kpN S x / 250)) a = ai S a := fun a ha => va_up_ne _ _ ha
    have fain : ai (mkPg (sfi S 5 (ntA S x) (fi S 5 (ntA S x) + 1)) (pgA S x) (kpN S x / 250)) (hz S + 1) = fun _ => 0 := va_up_self _ _ _
    generalize mkPg (sfi S 5 (ntA S x) (fi S 5 (ntA S x) + 1)) (pgA S x) (kpN S x / 250) = Z at eq f4 f5 fa f10 f10n fai fain
    have ear : ∀ i, ar (add_S S (ntA S x) kn nb of_ vl) (pgA S x) i = if i = kpN S x / 250 then some (hz S) else ar S (pgA S x) i := fun i => by rw [eq, jar_sfi, wr_ar]; exact fa i
    have efr : fr (add_S S (ntA S x) kn nb of_ vl) 10 = fr Z 10 := by rw [eq, jfr_sfi, wr_fr]
    have eai : ∀ a i, ai (add_S S (ntA S x) kn nb of_ vl) a i = ai (write_S Z (hz S) (nI (kpN S x % 250 * 4)) kn nb of_ vl) a i := fun a i => by rw [eq, jai_sfi]
    have cln : clA (add_S S (ntA S x) kn nb of_ vl) x (kpN S x / 250) = hz S + 1 := by rw [ecl, ear, if_pos rfl, efr]; show gd (fr Z 10 (hz S)) = _; rw [f10n]; rfl
    have clo : ∀ j, 250 * j < kpN S x → clA (add_S S (ntA S x) kn nb of_ vl) x j = clA S x j := fun j hj => by
      obtain ⟨b, hb, kb, -⟩ := live j hj
      have nb := (mkPg_old g1 g1b (a := b) (by rw [kb]; decide)).1
      rw [ecl, ear, if_neg (by omega), efr]
      show gd (fr Z 10 (gd (ar S (pgA S x) j))) = gd (fr S 10 (gd (ar S (pgA S x) j)))
      rw [hb]
      show gd (fr Z 10 b) = gd (fr S 10 b)
      rw [f10 b nb]
    have ncl : ∀ j, 250 * j < kpN S x → clA S x j ≠ hz S + 1 := fun j hj => by
      obtain ⟨b, hb, kb, kc⟩ := live j hj
      exact (mkPg_old g1 g1b (a := clA S x j) (by rw [kc]; decide)).2
    refine ⟨?_, ?_, clo, fun j j' hj hj' ee => ?_, fun j hj i => ?_⟩
    · rw [eq, jfi_sfi, up2_k _ _ _ _ (by decide), wr_fi]
      exact f5
    · rw [eq, jfi_sfi, up2_self, wr_fi, f4, g5]
      exact nI_1 _
    · rcases Nat.lt_or_ge (250 * j) (kpN S x) with q | q
      · rcases Nat.lt_or_ge (250 * j') (kpN S x) with q' | q'
        · rw [clo j q, clo j' q'] at ee
          exact hinj j j' q q' ee
        · have : j' = kpN S x / 250 := by omega
          rw [clo j q, this, cln] at ee
          exact absurd ee (ncl j q)
      · have e1 : j = kpN S x / 250 := by omega
        rcases Nat.lt_or_ge (250 * j') (kpN S x) with q' | q'
        · rw [clo j' q', e1, cln] at ee
          exact absurd ee.symm (ncl j' q')
        · omega
    · rw [eai, wrt_ai hw, f10n]
      show (if _ = hz S + 1 then _ else _) = _
      by_cases q : j = kpN S x / 250
      · rw [if_pos q, q, cln, if_pos rfl, fain, if_neg (show ¬ 250 * (kpN S x / 250) < kpN S x by omega)]
      · have hj2 : 250 * j < kpN S x := by omega
        rw [if_neg q, clo j hj2, if_neg (ncl j hj2), fai _ (ncl j hj2)]
  | some b =>
    have hb5 : kd S b = 5 := (g1.2.2 (pgA S x) _ b (by rw [pgk]; decide) hp).trans (by rw [pgk]; rfl)
    have hm : ¬ kpN S x ≤ 250 * (kpN S x / 250) := fun q => by rw [(g8 (kpN S x / 250) (by omega)).mpr q] at hp; cases hp
    have eq : add_S S (ntA S x) kn nb of_ vl = sfi (write_S (sfi S 5 (ntA S x) (fi S 5 (ntA S x) + 1)) b (nI (kpN S x % 250 * 4)) kn nb of_ vl) 4 (ntA S x) (fi (write_S (sfi S 5 (ntA S x) (fi S 5 (ntA S x) + 1)) b (nI (kpN S x % 250 * 4)) kn nb of_ vl) 4 (ntA S x) + 1) := by
      unfold add_S
      rw [if_pos c, e, ew]
      exact op_some hp
    have ear : ∀ i, ar (add_S S (ntA S x) kn nb of_ vl) (pgA S x) i = ar S (pgA S x) i := fun i => by rw [eq, jar_sfi, wr_ar, jar_sfi]
    have efr : fr (add_S S (ntA S x) kn nb of_ vl) 10 = fr S 10 := by rw [eq, jfr_sfi, wr_fr, jfr_sfi]
    have clo : ∀ j, clA (add_S S (ntA S x) kn nb of_ vl) x j = clA S x j := fun j => by rw [ecl, ear, efr]
    have eai : ∀ a i, ai (add_S S (ntA S x) kn nb of_ vl) a i = ai (write_S (sfi S 5 (ntA S x) (fi S 5 (ntA S x) + 1)) b (nI (kpN S x % 250 * 4)) kn nb of_ vl) a i := fun a i => by rw [eq, jai_sfi]
    have clb : clA S x (kpN S x / 250) = gd (fr S 10 b) := by show gd (fr S 10 (gd (ar S (gd (fr S 9 (ntA S x))) (kpN S x / 250)))) = _; rw [hp]; rfl
    refine ⟨?_, ?_, fun j _ => clo j, fun j j' hj hj' ee => ?_, fun j hj i => ?_⟩
    · rw [eq, jfi_sfi, up2_k _ _ _ _ (by decide), wr_fi, jfi_sfi, up2_self]
    · rw [eq, jfi_sfi, up2_self, wr_fi, jfi_sfi, up2_k _ _ _ _ (by decide), g5]
      exact nI_1 _
    · rw [clo, clo] at ee
      exact hinj j j' (by omega) (by omega) ee
    · rw [eai, wrt_ai hw, clo]
      show (if clA S x j = gd (fr S 10 b) then _ else _) = _
      rw [← clb]
      by_cases q : j = kpN S x / 250
      · rw [q, if_pos rfl, if_pos rfl, if_pos (show 250 * (kpN S x / 250) < kpN S x by omega)]
        rfl
      · rw [if_neg q, if_neg (fun ee => q (hinj j _ (by omega) (by omega) ee))]
        rfl
