-- what holds along the steps of a tick
abbrev ntA (S : HS) (t : Nat) : Nat := gd (fr S 21 t)
abbrev kpN (S : HS) (t : Nat) : Nat := (fi S 4 (ntA S t)).toNatClampNeg
abbrev pgA (S : HS) (t : Nat) : Nat := gd (fr S 9 (ntA S t))
def kpOk (S : HS) (t : Nat) : Prop := fi S 4 (ntA S t) = nI (kpN S t) ∧ kpN S t ≤ 3000 ∧ an S (pgA S t) = 12 ∧ (kpN S t < 3000 → (ar S (pgA S t) (kpN S t / 250) = none ↔ kpN S t % 250 = 0))
def chOk (S : HS) (f0 b0 : Nat) : Prop := ∀ c, kd S c = 3 → ∃ xs, chn (fr S b0) (fr S f0 c) xs
def sInv (S : HS) (t : Nat) : Prop := hOk S ∧ kd S t = 8 ∧ nn S ∧ pgOk S ∧ kpOk S t ∧ chOk S 5 4 ∧ chOk S 7 17
def pgl (n : Nat) : Nat := 12 - (n + 249) / 250
def phi (S : HS) (t : Nat) : Nat := 2 * pgl (kpN S t)
def psi (S : HS) (t : Nat) : Nat := 1001 * pgl (kpN S t)
def sRel (t : Nat) (S S' : HS) : Prop := sInv S' t ∧ (hz S' + phi S' t = hz S + phi S t ∧ tz S' + psi S' t = tz S + psi S t) ∧ (hz S ≤ hz S' ∧ tz S ≤ tz S') ∧ (∀ k a, kd S a ≠ 0 → k ≠ 15 → fr S' k a = fr S k a) ∧ mono S S'
theorem sRel.rf {t : Nat} {S : HS} (h : sInv S t) : sRel t S S := ⟨h, ⟨rfl, rfl⟩, ⟨Nat.le_refl _, Nat.le_refl _⟩, fun _ _ _ _ => rfl, mono.rf S⟩
theorem sRel.tr {t : Nat} {S S' S'' : HS} (h : sRel t S S') (h' : sRel t S' S'') : sRel t S S'' :=
  ⟨h'.1, ⟨h'.2.1.1.trans h.2.1.1, h'.2.1.2.trans h.2.1.2⟩, ⟨Nat.le_trans h.2.2.1.1 h'.2.2.1.1, Nat.le_trans h.2.2.1.2 h'.2.2.1.2⟩,
    fun k a ha hk => (h'.2.2.2.1 k a (by rw [(h.2.2.2.2 a ha).1]; exact ha) hk).trans (h.2.2.2.1 k a ha hk), h.2.2.2.2.tr h'.2.2.2.2⟩
theorem sRel_sfl {t : Nat} {S : HS} {k a : Nat} {v : Int64} (h : sInv S t) : sRel t S (sfl S k a v) := ⟨h, ⟨rfl, rfl⟩, ⟨Nat.le_refl _, Nat.le_refl _⟩, fun _ _ _ _ => rfl, mono_sfl⟩
theorem sRel_sfi {t : Nat} {S : HS} {k a : Nat} {v : Int32} (hk : 4 ≠ k) (h : sInv S t) : sRel t S (sfi S k a v) := by
  have e : fi (sfi S k a v) 4 = fi S 4 := funext fun x => up2_k _ _ _ _ hk
  have e1 : ∀ x, fi (sfi S k a v) 4 x = fi S 4 x := fun x => by rw [e]
  have e2 : kpN (sfi S k a v) t = kpN S t := by show (fi (sfi S k a v) 4 (ntA S t)).toNatClampNeg = _; rw [e1]
  obtain ⟨h1, h2, h3, h4, ⟨h5, h6, h7, h8⟩, h9, h10⟩ := h
  refine ⟨⟨h1, h2, h3, h4, ⟨?_, ?_, h7, ?_⟩, h9, h10⟩, ⟨?_, ?_⟩, ⟨Nat.le_refl _, Nat.le_refl _⟩, fun _ _ _ _ => rfl, mono_sfi⟩
  · show fi (sfi S k a v) 4 (ntA S t) = _
    rw [e1, e2]; exact h5
  · rw [e2]; exact h6
  · rw [e2]; exact h8
  · unfold phi; rw [e2]; rfl
  · unfold psi; rw [e2]; rfl
theorem sRel_sfr {t : Nat} {S : HS} {a : Nat} {v : Option Nat} (h : sInv S t) (hv : ∀ b, v = some b → kd S b = rT 15) : sRel t S (sfr S 15 a v) := by
  have e : ∀ k, k ≠ 15 → fr (sfr S 15 a v) k = fr S k := fun k hk => funext fun x => up2_k _ _ _ _ hk
  obtain ⟨h1, h2, h3, h4, h5, h9, h10⟩ := h
  refine ⟨⟨h1.sfr _ _ _ hv, h2, nn_sfr h3 (Or.inl rfl), ?_, ?_, ?_, ?_⟩, ⟨?_, ?_⟩, ⟨Nat.le_refl _, Nat.le_refl _⟩, fun k x _ hk => by rw [e k hk], mono_sfr⟩
  · intro b hb
    rw [e 10 (by decide)]
    exact h4 b hb
  · unfold kpOk pgA kpN ntA
    rw [e 21 (by decide), e 9 (by decide)]
    exact h5
  · intro c hc
    rw [e 5 (by decide), e 4 (by decide)]
    exact h9 c hc
  · intro c hc
    rw [e 7 (by decide), e 17 (by decide)]
    exact h10 c hc
  · unfold phi kpN ntA
    rw [e 21 (by decide)]
    rfl
  · unfold psi kpN ntA
    rw [e 21 (by decide)]
    rfl
theorem sRel_wakeAt {t : Nat} {S : HS} {a : Nat} {d : Int64} (h : sInv S t) : sRel t S (wakeAt_S S a d) := sRel_sfl h
theorem sRel_becomeDue {t : Nat} {S : HS} {a : Nat} {d : Int64} (h : sInv S t) : sRel t S (becomeDue_S S a d) := (sRel_sfl h).tr (sRel_sfl (sRel_sfl h).1)
theorem sRel_advance {t : Nat} {S : HS} {a : Nat} (h : sInv S t) : sRel t S (advance_S S a) := by
  unfold advance_S
  exact ite_P (P := sRel t S) ((sRel_sfl h).tr (sRel_sfl (sRel_sfl h).1)) (((sRel_sfl h).tr (sRel_sfl (sRel_sfl h).1)).tr (sRel_sfl ((sRel_sfl h).tr (sRel_sfl (sRel_sfl h).1)).1))
theorem sRel_runFrom {t : Nat} {S : HS} {a : Nat} {d : Int64} (h : sInv S t) : sRel t S (runFrom_S S a d) :=
  have s1 := sRel_sfi (k := 8) (a := a) (v := 1) (by decide) h
  have s2 := s1.tr (sRel_sfi (k := 9) (a := a) (v := 0) (by decide) s1.1)
  s2.tr (sRel_sfl s2.1)
theorem sRel_goOn {t : Nat} {S : HS} {a : Nat} {fm : Int64} {o : Option Nat} (h : sInv S t) (ho : ∀ b, o = some b → kd S b = 6) : sRel t S (goOn_S S a fm o) := by
  have s1 : sRel t S (sfr S 15 a o) := sRel_sfr h ho
  unfold goOn_S
  have key : ∀ (c : Prop) [Decidable c] (v1 v2 v3 : Int64) (w : Nat), sRel t S (if c then wakeAt_S (sfl (sfl (sfl (sfr S 15 a o) 10 a v1) 11 a v2) 10 a v3) w v3 else sfl (sfr S 15 a o) 10 a v1) := by
    intro c _ v1 v2 v3 w
    have s2 := s1.tr (sRel_sfl (k := 10) (a := a) (v := v1) s1.1)
    have s3 := s2.tr (sRel_sfl (k := 11) (a := a) (v := v2) s2.1)
    have s4 := s3.tr (sRel_sfl (k := 10) (a := a) (v := v3) s3.1)
    exact ite_P (P := sRel t S) (s4.tr (sRel_wakeAt s4.1)) s2
  exact opc_P (P := sRel t S) (fun _ => key _ _ _ _ _) (fun _ _ => key _ _ _ _ _)
