-- what holds along the steps of a tick
abbrev ntA (S : HS) (t : Nat) : Nat := gd (fr S 21 t)
abbrev kpN (S : HS) (t : Nat) : Nat := (fi S 4 (ntA S t)).toNatClampNeg
abbrev pgA (S : HS) (t : Nat) : Nat := gd (fr S 9 (ntA S t))
def kpOk (S : HS) (t : Nat) : Prop := fi S 4 (ntA S t) = nI (kpN S t) ∧ kpN S t ≤ 3000 ∧ an S (pgA S t) = 12 ∧ (∀ j, j < 12 → (ar S (pgA S t) j = none ↔ kpN S t ≤ 250 * j))
def chOk (S : HS) (f0 b0 : Nat) : Prop := ∀ c, kd S c = 3 → ∃ xs, chn (fr S b0) (fr S f0 c) xs
def hlt (S : HS) : Prop := ∀ a ∈ hL S, a < hz S
def sInv (S : HS) (t : Nat) : Prop := (hOk S ∧ hlt S) ∧ kd S t = 8 ∧ nn S ∧ pgOk S ∧ kpOk S t ∧ chOk S 5 4 ∧ chOk S 7 17
def pgl (n : Nat) : Nat := 12 - (n + 249) / 250
def phi (S : HS) (t : Nat) : Nat := 2 * pgl (kpN S t)
def psi (S : HS) (t : Nat) : Nat := 1001 * pgl (kpN S t)
def sRel (t : Nat) (S S' : HS) : Prop := sInv S' t ∧ (hz S' + phi S' t = hz S + phi S t ∧ tz S' + psi S' t = tz S + psi S t) ∧ (hz S ≤ hz S' ∧ tz S ≤ tz S') ∧ (∀ k a, kd S a ≠ 0 → k ≠ 15 → fr S' k a = fr S k a) ∧ mono S S'
theorem sRel.rf {t : Nat} {S : HS} (h : sInv S t) : sRel t S S := ⟨h, ⟨rfl, rfl⟩, ⟨Nat.le_refl _, Nat.le_refl _⟩, fun _ _ _ _ => rfl, mono.rf S⟩
theorem sRel.tr {t : Nat} {S S' S'' : HS} (h : sRel t S S') (h' : sRel t S' S'') : sRel t S S'' :=
  ⟨h'.1, ⟨h'.2.1.1.trans h.2.1.1, h'.2.1.2.trans h.2.1.2⟩, ⟨Nat.le_trans h.2.2.1.1 h'.2.2.1.1, Nat.le_trans h.2.2.1.2 h'.2.2.1.2⟩,
    fun k a ha hk => (h'.2.2.2.1 k a (by rw [(h.2.2.2.2 a ha).1]; exact ha) hk).trans (h.2.2.2.1 k a ha hk), h.2.2.2.2.tr h'.2.2.2.2⟩
theorem sRel_sfl {t : Nat} {S : HS} {k a : Nat} {v : Int64} (h : sInv S t) : sRel t S (sfl S k a v) := ⟨h, ⟨rfl, rfl⟩, ⟨Nat.le_refl _, Nat.le_refl _⟩, fun _ _ _ _ => rfl, mono_sfl⟩
theorem sRel_sfi {t : Nat} {S : HS} {k a : Nat} {v : Int32} (hk : 4 ≠ k) (h : sInv S t) : sRel t S (sfi S k a v) := by
  have e : fi (sfi S k a v) 4 = fi S 4 := funext fun x => up2_k _ _ _ _ hk
  have e1 : ∀ x, fi (sfi S k a v) 4 x = fi S 4 x := fun x => by rw [e]
  have e2 : kpN (sfi S k a v) t = kpN S t := by show (fi (sfi S k a v) 4 (ntA S t)).toNatClampNeg = _; rw [e1]
  obtain ⟨h1, h2, h3, h4, ⟨h5, h6, h7, h8⟩, h9, h10⟩ := h
  refine ⟨⟨h1, h2, h3, h4, ⟨?_, ?_, h7, ?_⟩, h9, h10⟩, ⟨?_, ?_⟩, ⟨Nat.le_refl _, Nat.le_refl _⟩, fun _ _ _ _ => rfl, mono_sfi⟩
  · show fi (sfi S k a v) 4 (ntA S t) = _
    rw [e1, e2]; exact h5
  · rw [e2]; exact h6
  · rw [e2]; exact h8
  · unfold phi; rw [e2]; rfl
  · unfold psi; rw [e2]; rfl
theorem sRel_sfr {t : Nat} {S : HS} {a : Nat} {v : Option Nat} (h : sInv S t) (hv : ∀ b, v = some b → kd S b = rT 15) : sRel t S (sfr S 15 a v) := by
  have e : ∀ k, k ≠ 15 → fr (sfr S 15 a v) k = fr S k := fun k hk => funext fun x => up2_k _ _ _ _ hk
  obtain ⟨h1, h2, h3, h4, h5, h9, h10⟩ := h
  refine ⟨⟨⟨h1.1.sfr _ _ _ hv, h1.2⟩, h2, nn_sfr h3 (Or.inl rfl), ?_, ?_, ?_, ?_⟩, ⟨?_, ?_⟩, ⟨Nat.le_refl _, Nat.le_refl _⟩, fun k x _ hk => by rw [e k hk], mono_sfr⟩
  · intro b hb
    rw [e 10 (by decide)]
    exact h4 b hb
  · unfold kpOk pgA kpN ntA
    rw [e 21 (by decide), e 9 (by decide)]
    exact h5
  · intro c hc
    rw [e 5 (by decide), e 4 (by decide)]
    exact h9 c hc
  · intro c hc
    rw [e 7 (by decide), e 17 (by decide)]
    exact h10 c hc
  · unfold phi kpN ntA
    rw [e 21 (by decide)]
    rfl
  · unfold psi kpN ntA
    rw [e 21 (by decide)]
    rfl
theorem sRel_wakeAt {t : Nat} {S : HS} {a : Nat} {d : Int64} (h : sInv S t) : sRel t S (wakeAt_S S a d) := sRel_sfl h
theorem sRel_becomeDue {t : Nat} {S : HS} {a : Nat} {d : Int64} (h : sInv S t) : sRel t S (becomeDue_S S a d) := (sRel_sfl h).tr (sRel_sfl (sRel_sfl h).1)
theorem sRel_advance {t : Nat} {S : HS} {a : Nat} (h : sInv S t) : sRel t S (advance_S S a) := by
  unfold advance_S
  exact ite_P (P := sRel t S) ((sRel_sfl h).tr (sRel_sfl (sRel_sfl h).1)) (((sRel_sfl h).tr (sRel_sfl (sRel_sfl h).1)).tr (sRel_sfl ((sRel_sfl h).tr (sRel_sfl (sRel_sfl h).1)).1))
theorem sRel_runFrom {t : Nat} {S : HS} {a : Nat} {d : Int64} (h : sInv S t) : sRel t S (runFrom_S S a d) :=
  have s1 := sRel_sfi (k := 8) (a := a) (v := 1) (by decide) h
  have s2 := s1.tr (sRel_sfi (k := 9) (a := a) (v := 0) (by decide) s1.1)
  s2.tr (sRel_sfl s2.1)
theorem sRel_goOn {t : Nat} {S : HS} {a : Nat} {fm : Int64} {o : Option Nat} (h : sInv S t) (ho : ∀ b, o = some b → kd S b = 6) : sRel t S (goOn_S S a fm o) := by
  have s1 : sRel t S (sfr S 15 a o) := sRel_sfr h ho
  unfold goOn_S
  have key : ∀ (c : Prop) [Decidable c] (v1 v2 v3 : Int64) (w : Nat), sRel t S (if c then wakeAt_S (sfl (sfl (sfl (sfr S 15 a o) 10 a v1) 11 a v2) 10 a v3) w v3 else sfl (sfr S 15 a o) 10 a v1) := by
    intro c _ v1 v2 v3 w
    have s2 := s1.tr (sRel_sfl (k := 10) (a := a) (v := v1) s1.1)
    have s3 := s2.tr (sRel_sfl (k := 11) (a := a) (v := v2) s2.1)
    have s4 := s3.tr (sRel_sfl (k := 10) (a := a) (v := v3) s3.1)
    exact ite_P (P := sRel t S) (s4.tr (sRel_wakeAt s4.1)) s2
  exact opc_P (P := sRel t S) (fun _ => key _ _ _ _ _) (fun _ _ => key _ _ _ _ _)

theorem sRel_sai {t : Nat} {S : HS} {a i : Nat} {v : Int32} (h : sInv S t) : sRel t S (sai S a i v) := ⟨h, ⟨rfl, rfl⟩, ⟨Nat.le_refl _, Nat.le_refl _⟩, fun _ _ _ _ => rfl, mono_sai⟩
theorem chn_kd {S : HS} (h : hOk S) {b0 K : Nat} (hO : rO b0 = K) (hT : rT b0 = K) : ∀ (xs : List Nat) (o : Option Nat), chn (fr S b0) o xs → (∀ b, o = some b → kd S b = K) → ∀ x ∈ xs, kd S x = K
  | [], _, _, _, x, hx => by cases hx
  | y :: ys, o, hc, ho, x, hx => by
    have hy : kd S y = K := ho y hc.1
    rcases List.mem_cons.mp hx with rfl | hx
    · exact hy
    · exact chn_kd h hO hT ys _ hc.2 (fun b hb => (h.2.1 b0 y b (hy.trans hO.symm) hb).trans hT) x hx
theorem chn_congr {f g : Nat → Option Nat} : ∀ (xs : List Nat) (o : Option Nat), (∀ x ∈ xs, f x = g x) → chn f o xs → chn g o xs
  | [], _, _, h => h
  | x :: xs, o, he, h => ⟨h.1, by rw [← he x List.mem_cons_self]; exact chn_congr xs _ (fun y hy => he y (List.mem_cons_of_mem _ hy)) h.2⟩
/-- chains stay where the fields of what was there stay -/
theorem chOk_keep {S S' : HS} {f0 b0 K : Nat} (h : hOk S) (hc : chOk S f0 b0) (hO : rO b0 = K) (hT : rT b0 = K) (hf : rO f0 = 3 ∧ rT f0 = K) (hK : K ≠ 0) (he : ∀ a, kd S a ≠ 0 → fr S' f0 a = fr S f0 a ∧ fr S' b0 a = fr S b0 a) (hk : ∀ c, kd S' c = 3 → kd S c = 3) : chOk S' f0 b0 := by
  intro c hc'
  have hc3 := hk c hc'
  obtain ⟨xs, hx⟩ := hc c hc3
  refine ⟨xs, ?_⟩
  rw [(he c (by rw [hc3]; decide)).1]
  have hkd := chn_kd h hO hT xs _ hx (fun b hb => (h.2.1 f0 c b (hc3.trans hf.1.symm) hb).trans hf.2)
  exact chn_congr xs _ (fun x hx => ((he x (by rw [hkd x hx]; exact hK)).2).symm) hx
/-- a new page in its place -/
def mkQ (S : HS) (q p j : Nat) : HS := sar (Page_init_S (newQ S q 5) q) p j (some q)
abbrev mkPg (S : HS) (p j : Nat) : HS := mkQ S (hz S) p j
theorem mkPg_fr {S : HS} {p j k a : Nat} (ha : a ≠ hz S) : fr (mkPg S p j) k a = fr S k a := by
  show up2 (zr (fr S) (hz S) none) 10 (hz S) (some (hz S + 1)) k a = _
  rw [up2_a _ _ _ _ ha]
  exact if_neg ha
theorem mkPg_kd {S : HS} {p j a : Nat} : kd (mkPg S p j) a = if a = hz S + 1 then 11 else if a = hz S then 5 else kd S a := rfl
theorem mkPg_an {S : HS} {p j a : Nat} : an (mkPg S p j) a = if a = hz S + 1 then 1000 else an S a := rfl
theorem mkPg_ok {S : HS} {p j : Nat} (h : hOk S) (hl : hlt S) (hp : kd S p = 17) : hOk (mkPg S p j) ∧ hlt (mkPg S p j) := by
  have f1 : hz S ∉ hL S := fun q => Nat.lt_irrefl _ (hl _ q)
  have h1 : hOk (newQ S (hz S) 5) := h.newQ f1 rfl rO_ne rT_ne rfl
  have f2 : hz S + 1 ∉ hL (newQ S (hz S) 5) := fun q => by
    rcases List.mem_append.mp q with q | q
    · exact absurd (hl _ q) (by omega)
    · rw [List.mem_singleton] at q; omega
  have h2 : hOk (newB (newQ S (hz S) 5) (hz S + 1) 11 1000) := h1.newB f2 (fun k => rO_obj k 11 (by decide) (by decide)) rO_ne rT_ne
  have hne : p ≠ hz S + 1 := fun q => by have := hl p (h.1 p (by rw [hp]; decide)); omega
  have hne2 : p ≠ hz S := fun q => by have := hl p (h.1 p (by rw [hp]; decide)); omega
  have h3 : hOk (Page_init_S (newQ S (hz S) 5) (hz S)) := h2.sfr _ _ _ (fun b hb => by cases hb; exact va_up_self _ _ _)
  refine ⟨h3.sar _ _ _ (fun b hb => ?_), fun a ha => ?_⟩
  · cases hb
    have e1 : kd (Page_init_S (newQ S (hz S) 5) (hz S)) (hz S) = 5 := by
      show va_up (va_up (kd S) (hz S) 5) (hz S + 1) 11 (hz S) = 5
      rw [va_up_ne _ _ (by omega), va_up_self]
    have e2 : kd (Page_init_S (newQ S (hz S) 5) (hz S)) p = 17 := by
      show va_up (va_up (kd S) (hz S) 5) (hz S + 1) 11 p = 17
      rw [va_up_ne _ _ hne, va_up_ne _ _ hne2, hp]
    rw [e1, e2]
    rfl
  · have ha : a ∈ (hL S ++ [hz S]) ++ [hz S + 1] := ha
    show a < hz S + 1 + 1
    rcases List.mem_append.mp ha with ha | ha
    · rcases List.mem_append.mp ha with ha | ha
      · have := hl a ha; omega
      · rw [List.mem_singleton] at ha; omega
    · rw [List.mem_singleton] at ha; omega
theorem mkPg_old {S : HS} (h : hOk S) (hl : hlt S) {a : Nat} (ha : kd S a ≠ 0) : a ≠ hz S ∧ a ≠ hz S + 1 := by
  have := hl a (h.1 a ha)
  exact ⟨by omega, by omega⟩
theorem mkPg_mono {S : HS} {p j : Nat} (h : hOk S) (hl : hlt S) : mono S (mkPg S p j) := fun a ha => by
  obtain ⟨n1, n2⟩ := mkPg_old h hl ha
  rw [mkPg_kd, mkPg_an, if_neg n2, if_neg n1, if_neg n2]
  exact ⟨rfl, rfl⟩
theorem mkPg_pgOk {S : HS} {p j : Nat} (h : hOk S) (hl : hlt S) (hn : nn S) (hp : pgOk S) : pgOk (mkPg S p j) := by
  intro b hb
  rw [mkPg_kd] at hb
  by_cases h1 : b = hz S + 1
  · rw [if_pos h1] at hb; cases hb
  · rw [if_neg h1] at hb
    by_cases h2 : b = hz S
    · subst h2
      show an (mkPg S p j) (gd (up2 (zr (fr S) (hz S) none) 10 (hz S) (some (hz S + 1)) 10 (hz S))) = 1000
      rw [up2_self, mkPg_an]
      exact if_pos rfl
    · rw [if_neg h2] at hb
      have h3 := gd_some (hn 10 b rfl hb)
      have h4 : kd S (gd (fr S 10 b)) = 11 := h.2.1 10 b _ hb h3
      have h5 := (mkPg_old h hl (a := gd (fr S 10 b)) (by rw [h4]; decide)).2
      rw [mkPg_fr h2, mkPg_an, if_neg h5]
      exact hp b hb

/-- equal but for ints in arrays -/
def eqv (X Y : HS) : Prop := (hz Y = hz X ∧ tz Y = tz X ∧ hL Y = hL X) ∧ kd Y = kd X ∧ fi Y = fi X ∧ fr Y = fr X ∧ an Y = an X ∧ ar Y = ar X
theorem eqv_write {S : HS} {a : Nat} {w kn nb : Int32} {o v : Int64} : eqv S (write_S S a w kn nb o v) := ⟨⟨rfl, rfl, rfl⟩, rfl, rfl, rfl, rfl, rfl⟩
theorem eqv_ok {X Y : HS} (e : eqv X Y) (h : hOk X ∧ hlt X) : hOk Y ∧ hlt Y := by
  obtain ⟨⟨e1, e2, e3⟩, e4, e5, e6, e7, e8⟩ := e
  unfold hOk hlt at *
  rw [e3, e4, e6, e8, e1]
  exact h
theorem eqv_nn {X Y : HS} (e : eqv X Y) (h : nn X) : nn Y := by
  obtain ⟨⟨e1, e2, e3⟩, e4, e5, e6, e7, e8⟩ := e
  unfold nn at *
  rw [e4, e6]
  exact h
theorem eqv_pg {X Y : HS} (e : eqv X Y) (h : pgOk X) : pgOk Y := by
  obtain ⟨⟨e1, e2, e3⟩, e4, e5, e6, e7, e8⟩ := e
  unfold pgOk at *
  rw [e4, e6, e7]
  exact h
theorem eqv_ch {X Y : HS} (e : eqv X Y) {f0 b0 : Nat} (h : chOk X f0 b0) : chOk Y f0 b0 := by
  obtain ⟨⟨e1, e2, e3⟩, e4, e5, e6, e7, e8⟩ := e
  unfold chOk at *
  rw [e4, e6]
  exact h
theorem add_core {S S1 : HS} {t : Nat} (h : sInv S t) (ok1 : hOk S1 ∧ hlt S1) (k1 : kd S1 t = 8) (n1 : nn S1) (p1 : pgOk S1) (c1 : chOk S1 5 4) (c2 : chOk S1 7 17) (f1 : fi S1 4 (ntA S t) = fi S 4 (ntA S t)) (r1 : fr S1 21 t = fr S 21 t) (r2 : fr S1 9 (ntA S t) = fr S 9 (ntA S t)) (a1 : an S1 (pgA S t) = 12)
    (pg1 : ∀ j, j < 12 → (ar S1 (pgA S t) j = none ↔ kpN S t + 1 ≤ 250 * j)) (hk : kpN S t < 3000) (z1 : hz S1 + 2 * pgl (kpN S t + 1) = hz S + phi S t) (z2 : tz S1 + 1001 * pgl (kpN S t + 1) = tz S + psi S t) (z3 : hz S ≤ hz S1 ∧ tz S ≤ tz S1) (fm : ∀ k a, kd S a ≠ 0 → k ≠ 15 → fr S1 k a = fr S k a) (mo : mono S S1) : sRel t S (sfi S1 4 (ntA S t) (fi S1 4 (ntA S t) + 1)) := by
  have e1 : ntA (sfi S1 4 (ntA S t) (fi S1 4 (ntA S t) + 1)) t = ntA S t := by show gd (fr S1 21 t) = _; rw [r1]
  have e2 : fi (sfi S1 4 (ntA S t) (fi S1 4 (ntA S t) + 1)) 4 (ntA S t) = nI (kpN S t + 1) := by
    show up2 (fi S1) 4 (ntA S t) _ 4 (ntA S t) = _
    rw [up2_self, f1, h.2.2.2.2.1.1]
    exact nI_1 _
  have e3 : kpN (sfi S1 4 (ntA S t) (fi S1 4 (ntA S t) + 1)) t = kpN S t + 1 := by
    show (fi (sfi S1 4 (ntA S t) (fi S1 4 (ntA S t) + 1)) 4 (ntA (sfi S1 4 (ntA S t) (fi S1 4 (ntA S t) + 1)) t)).toNatClampNeg = _
    rw [e1, e2]
    exact nI_clamp (by omega)
  have e4 : pgA (sfi S1 4 (ntA S t) (fi S1 4 (ntA S t) + 1)) t = pgA S t := by
    show gd (fr S1 9 (ntA (sfi S1 4 (ntA S t) (fi S1 4 (ntA S t) + 1)) t)) = _
    rw [e1, r2]
  refine ⟨⟨ok1, k1, n1, p1, ⟨?_, ?_, ?_, ?_⟩, c1, c2⟩, ⟨?_, ?_⟩, z3, fm, mo⟩
  · rw [e1, e2, e3]
  · rw [e3]; omega
  · rw [e4]; exact a1
  · rw [e3, e4]; exact pg1
  · unfold phi; rw [e3]; exact z1
  · unfold psi; rw [e3]; exact z2
theorem add_core2 {S S1 Y : HS} {t : Nat} (e : eqv S1 Y) (h : sInv S t) (ok1 : hOk S1 ∧ hlt S1) (k1 : kd S1 t = 8) (n1 : nn S1) (p1 : pgOk S1) (c1 : chOk S1 5 4) (c2 : chOk S1 7 17) (f1 : fi S1 4 (ntA S t) = fi S 4 (ntA S t)) (r1 : fr S1 21 t = fr S 21 t) (r2 : fr S1 9 (ntA S t) = fr S 9 (ntA S t)) (a1 : an S1 (pgA S t) = 12)
    (pg1 : ∀ j, j < 12 → (ar S1 (pgA S t) j = none ↔ kpN S t + 1 ≤ 250 * j)) (hk : kpN S t < 3000) (z1 : hz S1 + 2 * pgl (kpN S t + 1) = hz S + phi S t) (z2 : tz S1 + 1001 * pgl (kpN S t + 1) = tz S + psi S t) (z3 : hz S ≤ hz S1 ∧ tz S ≤ tz S1) (fm : ∀ k a, kd S a ≠ 0 → k ≠ 15 → fr S1 k a = fr S k a) (mo : mono S S1) : sRel t S (sfi Y 4 (ntA S t) (fi Y 4 (ntA S t) + 1)) := by
  have ok2 := eqv_ok e ok1
  have n2 := eqv_nn e n1
  have p2 := eqv_pg e p1
  have c3 := eqv_ch e c1
  have c4 := eqv_ch e c2
  obtain ⟨⟨e1, e2, e3⟩, e4, e5, e6, e7, e8⟩ := e
  refine add_core h ok2 (by rw [e4]; exact k1) n2 p2 c3 c4 (by rw [e5]; exact f1) (by rw [e6]; exact r1) (by rw [e6]; exact r2) (by rw [e7]; exact a1) (by rw [e8]; exact pg1) hk (by rw [e1]; exact z1) (by rw [e2]; exact z2) (by rw [e1, e2]; exact z3) (by rw [e6]; exact fm) ?_
  intro a ha
  rw [e4, e7]
  exact mo a ha
theorem mkPg_fi {S : HS} {p j k a : Nat} (ha : a ≠ hz S) : fi (mkPg S p j) k a = fi S k a := if_neg ha
theorem mkPg_hz {S : HS} {p j : Nat} : hz (mkPg S p j) = hz S + 2 := rfl
theorem mkPg_tz {S : HS} {p j : Nat} : tz (mkPg S p j) = tz S + 1 + 1000 := rfl
theorem mkPg_ar {S : HS} {p j i : Nat} (hp : p ≠ hz S + 1) : ar (mkPg S p j) p i = if i = j then some (hz S) else ar S p i := by
  show up2 (va_up (ar S) (hz S + 1) (fun _ => none)) p j (some (hz S)) p i = _
  by_cases h : i = j
  · subst h; rw [up2_self, if_pos rfl]
  · rw [if_neg h, show up2 (va_up (ar S) (hz S + 1) (fun _ => none)) p j (some (hz S)) p i = va_up (ar S) (hz S + 1) (fun _ => none) p i by simp [up2, h], va_up_ne _ _ hp]
theorem pgl_stay {n : Nat} (h : n % 250 ≠ 0) : pgl (n + 1) = pgl n := by unfold pgl; omega
theorem pgl_less {n : Nat} (h : n % 250 = 0) (hn : n < 3000) : pgl n = pgl (n + 1) + 1 := by unfold pgl; omega
theorem addC_le {S : HS} {t : Nat} (h : sInv S t) : addC S (ntA S t) ≤ phi S t ∧ addM S (ntA S t) ≤ psi S t := by
  obtain ⟨h1, h2, h3, h4, ⟨h5, h6, h7, h8⟩, h9, h10⟩ := h
  unfold addC addM
  by_cases c : fi S 4 (ntA S t) < (3000 : Int32)
  · rw [if_pos c, if_pos c]
    have hk : kpN S t < 3000 := by
      rw [h5] at c
      exact (nI_ltI (b := 3000) (by omega) (by decide)).mp c
    have e : (fi S 4 (ntA S t) / (250 : Int32)).toNatClampNeg = kpN S t / 250 := by rw [dv250 h5 h6, nI_clamp (by have : (fi S 4 (ntA S t)).toNatClampNeg ≤ 3000 := h6; omega)]
    rw [e]
    cases hp : ar S (gd (fr S 9 (ntA S t))) (kpN S t / 250) with
    | none =>
      have hm := (h8 (kpN S t / 250) (by omega)).mp hp
      have hm : kpN S t % 250 = 0 := by omega
      have := pgl_less hm hk
      show 2 ≤ phi S t ∧ 1001 ≤ psi S t
      unfold phi psi
      omega
    | some b => exact ⟨Nat.zero_le _, Nat.zero_le _⟩
  · rw [if_neg c, if_neg c]
    exact ⟨Nat.zero_le _, Nat.zero_le _⟩
theorem sRel_add {S : HS} {t : Nat} {kn nb : Int32} {of_ vl : Int64} (h0 : sInv S t) : sRel t S (add_S S (ntA S t) kn nb of_ vl) := by
  have s1 : sRel t S (sfi S 5 (ntA S t) (fi S 5 (ntA S t) + 1)) := sRel_sfi (by decide) h0
  unfold add_S
  by_cases c : fi S 4 (ntA S t) < (3000 : Int32)
  · rw [if_pos c]
    have h := s1.1
    obtain ⟨g1, g2, g3, g4, ⟨g5, g6, g7, g8⟩, g9, g10⟩ := h0
    have hk : kpN S t < 3000 := by
      rw [g5] at c
      exact (nI_ltI (b := 3000) (by omega) (by decide)).mp c
    have e : (fi S 4 (ntA S t) / (250 : Int32)).toNatClampNeg = kpN S t / 250 := by rw [dv250 g5 g6, nI_clamp (by have : (fi S 4 (ntA S t)).toNatClampNeg ≤ 3000 := g6; omega)]
    rw [e]
    have nts := gd_some (g3 21 t rfl g2)
    have ntk : kd S (ntA S t) = 4 := g1.1.2.1 21 t _ g2 nts
    have pgs := gd_some (g3 9 (ntA S t) rfl ntk)
    have pgk : kd S (pgA S t) = 17 := g1.1.2.1 9 (ntA S t) _ ntk pgs
    cases hp : ar S (gd (fr S 9 (ntA S t))) (kpN S t / 250) with
    | none =>
      have hm := (g8 (kpN S t / 250) (by omega)).mp hp
      have hm : kpN S t % 250 = 0 := by omega
      have hl := pgl_less hm hk
      have hzX : hz (sfi S 5 (ntA S t) (fi S 5 (ntA S t) + 1)) = hz S := rfl
      have hX0 : kd (sfi S 5 (ntA S t) (fi S 5 (ntA S t) + 1)) (hz S) = 0 := Classical.byContradiction fun q => Nat.lt_irrefl _ (g1.2 _ (g1.1.1 _ q))
      have nt1 : ntA S t ≠ hz S := (mkPg_old g1.1 g1.2 (a := ntA S t) (by rw [ntk]; decide)).1
      have t1 : t ≠ hz S := (mkPg_old g1.1 g1.2 (a := t) (by rw [g2]; decide)).1
      have p1 := (mkPg_old g1.1 g1.2 (a := pgA S t) (by rw [pgk]; decide)).2
      show sRel t S (sfi (write_S (mkQ (sfi S 5 (ntA S t) (fi S 5 (ntA S t) + 1)) (hz S) (pgA S t) (kpN S t / 250)) (hz S) _ kn nb of_ vl) 4 (ntA S t) (fi (write_S (mkQ (sfi S 5 (ntA S t) (fi S 5 (ntA S t) + 1)) (hz S) (pgA S t) (kpN S t / 250)) (hz S) _ kn nb of_ vl) 4 (ntA S t) + 1))
      have hzX : hz (sfi S 5 (ntA S t) (fi S 5 (ntA S t) + 1)) = hz S := rfl
      have frX : ∀ k a, fr (sfi S 5 (ntA S t) (fi S 5 (ntA S t) + 1)) k a = fr S k a := fun _ _ => rfl
      have kdX : ∀ a, kd (sfi S 5 (ntA S t) (fi S 5 (ntA S t) + 1)) a = kd S a := fun _ => rfl
      have anX : ∀ a, an (sfi S 5 (ntA S t) (fi S 5 (ntA S t) + 1)) a = an S a := fun _ => rfl
      have arX : ∀ a i, ar (sfi S 5 (ntA S t) (fi S 5 (ntA S t) + 1)) a i = ar S a i := fun _ _ => rfl
      have fiX : fi (sfi S 5 (ntA S t) (fi S 5 (ntA S t) + 1)) 4 (ntA S t) = fi S 4 (ntA S t) := rfl
      have tzX : tz (sfi S 5 (ntA S t) (fi S 5 (ntA S t) + 1)) = tz S := rfl
      have moX : mono S (sfi S 5 (ntA S t) (fi S 5 (ntA S t) + 1)) := mono_sfi
      generalize sfi S 5 (ntA S t) (fi S 5 (ntA S t) + 1) = X at h hzX hX0 frX kdX anX arX fiX tzX moX ⊢
      rw [show mkQ X (hz S) (pgA S t) (kpN S t / 250) = mkPg X (pgA S t) (kpN S t / 250) by rw [← hzX]]
      generalize ((fi S 4 (ntA S t) - fi S 4 (ntA S t) / 250 * 250) * 4) = wq
      obtain ⟨⟨x1, x1b⟩, x2, x3, x4, x5, x6, x7⟩ := h
      have pkX : kd X (pgA S t) = 17 := by rw [kdX]; exact pgk
      have hkd3 : ∀ c, kd (mkPg X (pgA S t) (kpN S t / 250)) c = 3 → kd X c = 3 := fun c hc => by
        rw [mkPg_kd] at hc
        split at hc
        · cases hc
        · split at hc
          · cases hc
          · exact hc
      have hfr : ∀ a, kd X a ≠ 0 → ∀ k, fr (mkPg X (pgA S t) (kpN S t / 250)) k a = fr X k a := fun a ha k => mkPg_fr (mkPg_old x1 x1b ha).1
      have nX : nn (mkPg X (pgA S t) (kpN S t / 250)) := nn_sar (nn_pg rfl x3 (by rw [hzX]; exact hX0))
      have c1X := chOk_keep (S' := mkPg X (pgA S t) (kpN S t / 250)) x1 x6 rfl rfl ⟨rfl, rfl⟩ (by decide) (fun a ha => ⟨hfr a ha _, hfr a ha _⟩) hkd3
      have c2X := chOk_keep (S' := mkPg X (pgA S t) (kpN S t / 250)) x1 x7 rfl rfl ⟨rfl, rfl⟩ (by decide) (fun a ha => ⟨hfr a ha _, hfr a ha _⟩) hkd3
      have mX : mono X (mkPg X (pgA S t) (kpN S t / 250)) := mkPg_mono x1 x1b
      refine add_core2 (S1 := mkPg X (pgA S t) (kpN S t / 250)) eqv_write ⟨g1, g2, g3, g4, ⟨g5, g6, g7, g8⟩, g9, g10⟩ (mkPg_ok x1 x1b pkX) (mX.k x2 (by decide)) nX (mkPg_pgOk x1 x1b x3 x4) c1X c2X ?_ ?_ ?_ ?_ ?_ hk ?_ ?_ ?_ ?_ (moX.tr mX)
      · rw [mkPg_fi (by rw [hzX]; exact nt1)]
        exact fiX
      · exact (hfr t (by rw [x2]; decide) 21).trans (frX 21 t)
      · exact (hfr (ntA S t) (by rw [kdX, ntk]; decide) 9).trans (frX 9 (ntA S t))
      · rw [mkPg_an, hzX, if_neg p1, anX]
        exact g7
      · intro j hj
        rw [mkPg_ar (by rw [hzX]; exact p1)]
        by_cases hjj : j = kpN S t / 250
        · rw [if_pos hjj]
          constructor
          · intro q; cases q
          · intro q; omega
        · rw [if_neg hjj, arX, g8 j hj]
          omega
      · rw [mkPg_hz, hzX]
        unfold phi
        rw [hl]
        omega
      · rw [mkPg_tz, tzX]
        unfold psi
        rw [hl]
        omega
      · rw [mkPg_hz, mkPg_tz, hzX, tzX]
        omega
      · intro k a ha _
        exact (hfr a (by rw [kdX]; exact ha) k).trans (frX _ _)
    | some b =>
      have hm : ¬ kpN S t ≤ 250 * (kpN S t / 250) := fun q => by rw [(g8 (kpN S t / 250) (by omega)).mpr q] at hp; cases hp
      have hm : kpN S t % 250 ≠ 0 := by omega
      have hl := pgl_stay hm
      show sRel t S (sfi (write_S (sfi S 5 (ntA S t) (fi S 5 (ntA S t) + 1)) b _ kn nb of_ vl) 4 (ntA S t) (fi (write_S (sfi S 5 (ntA S t) (fi S 5 (ntA S t) + 1)) b _ kn nb of_ vl) 4 (ntA S t) + 1))
      have frX : ∀ k a, fr (sfi S 5 (ntA S t) (fi S 5 (ntA S t) + 1)) k a = fr S k a := fun _ _ => rfl
      have arX : ∀ a i, ar (sfi S 5 (ntA S t) (fi S 5 (ntA S t) + 1)) a i = ar S a i := fun _ _ => rfl
      have anX : ∀ a, an (sfi S 5 (ntA S t) (fi S 5 (ntA S t) + 1)) a = an S a := fun _ => rfl
      have fiX : fi (sfi S 5 (ntA S t) (fi S 5 (ntA S t) + 1)) 4 (ntA S t) = fi S 4 (ntA S t) := rfl
      have hzX : hz (sfi S 5 (ntA S t) (fi S 5 (ntA S t) + 1)) = hz S := rfl
      have tzX : tz (sfi S 5 (ntA S t) (fi S 5 (ntA S t) + 1)) = tz S := rfl
      have moX : mono S (sfi S 5 (ntA S t) (fi S 5 (ntA S t) + 1)) := mono_sfi
      generalize sfi S 5 (ntA S t) (fi S 5 (ntA S t) + 1) = X at h frX arX anX fiX hzX tzX moX ⊢
      obtain ⟨x1, x2, x3, x4, x5, x6, x7⟩ := h
      refine add_core2 (S1 := X) eqv_write ⟨g1, g2, g3, g4, ⟨g5, g6, g7, g8⟩, g9, g10⟩ x1 x2 x3 x4 x6 x7 fiX (frX _ _) (frX _ _) ((anX _).trans g7) ?_ hk ?_ ?_ ?_ (fun k a _ _ => frX k a) moX
      · intro j hj
        rw [arX, g8 j hj]
        omega
      · rw [hzX, hl]
        rfl
      · rw [tzX, hl]
        rfl
      · rw [hzX, tzX]
        exact ⟨Nat.le_refl _, Nat.le_refl _⟩
  · rw [if_neg c]
    exact s1
