theorem ra_n {σ : MS} {j i j' i' : Nat} {v : Int32} (h : i ≠ i') : ma (sma σ j' i' v) j i = ma σ j i := up2_a _ _ _ _ h
theorem rl_n {σ : MS} {j i j' i' : Nat} {v : Int64} (h : i ≠ i') : ml (sml σ j' i' v) j i = ml σ j i := up2_a _ _ _ _ h
-- WHAT STAYS ALONG A STEP
def stc (σ σ' : MS) : Prop := (mi σ' 15 = mi σ 15 ∧ mi σ' 16 = mi σ 16 ∧ mi σ' 17 = mi σ 17) ∧ (∀ j, (j = 4 ∨ j = 6 ∨ j = 7 ∨ j = 8 ∨ j = 12 ∨ j = 14 ∨ j = 16 ∨ j = 17) → ma σ' j = ma σ j) ∧ (∀ j, (j = 0 ∨ j = 1 ∨ j = 2 ∨ j = 11 ∨ j = 13 ∨ j = 15) → ml σ' j = ml σ j)
theorem stc.rf (σ : MS) : stc σ σ := ⟨⟨rfl, rfl, rfl⟩, fun _ _ => rfl, fun _ _ => rfl⟩
theorem stc.tr {σ σ' σ'' : MS} (h : stc σ σ') (h' : stc σ' σ'') : stc σ σ'' :=
  ⟨⟨h'.1.1.trans h.1.1, h'.1.2.1.trans h.1.2.1, h'.1.2.2.trans h.1.2.2⟩, fun j hj => (h'.2.1 j hj).trans (h.2.1 j hj), fun j hj => (h'.2.2 j hj).trans (h.2.2 j hj)⟩
theorem stc_smi {σ : MS} {k : Nat} {v : Int32} (h1 : 15 ≠ k) (h2 : 16 ≠ k) (h3 : 17 ≠ k) : stc σ (smi σ k v) := ⟨⟨va_up_ne _ _ h1, va_up_ne _ _ h2, va_up_ne _ _ h3⟩, fun _ _ => rfl, fun _ _ => rfl⟩
theorem stc_sma {σ : MS} {j i : Nat} {v : Int32} (h : ∀ j', (j' = 4 ∨ j' = 6 ∨ j' = 7 ∨ j' = 8 ∨ j' = 12 ∨ j' = 14 ∨ j' = 16 ∨ j' = 17) → j' ≠ j) : stc σ (sma σ j i v) := ⟨⟨rfl, rfl, rfl⟩, fun j' hj => funext fun _ => up2_k _ _ _ _ (h j' hj), fun _ _ => rfl⟩
theorem stc_sml {σ : MS} {j i : Nat} {v : Int64} (h : ∀ j', (j' = 0 ∨ j' = 1 ∨ j' = 2 ∨ j' = 11 ∨ j' = 13 ∨ j' = 15) → j' ≠ j) : stc σ (sml σ j i v) := ⟨⟨rfl, rfl, rfl⟩, fun _ _ => rfl, fun j' hj => funext fun _ => up2_k _ _ _ _ (h j' hj)⟩
theorem stc_9 {σ : MS} {i : Nat} {v : Int32} : stc σ (sma σ 9 i v) := stc_sma (by omega)
theorem stc_19 {σ : MS} {i : Nat} {v : Int32} : stc σ (sma σ 19 i v) := stc_sma (by omega)
theorem stc_21 {σ : MS} {i : Nat} {v : Int32} : stc σ (sma σ 21 i v) := stc_sma (by omega)
theorem stc_3 {σ : MS} {i : Nat} {v : Int64} : stc σ (sml σ 3 i v) := stc_sml (by omega)
theorem stc_10 {σ : MS} {i : Nat} {v : Int64} : stc σ (sml σ 10 i v) := stc_sml (by omega)
theorem stc_18 {σ : MS} {i : Nat} {v : Int64} : stc σ (sml σ 18 i v) := stc_sml (by omega)
theorem stc_20 {σ : MS} {i : Nat} {v : Int64} : stc σ (sml σ 20 i v) := stc_sml (by omega)
theorem stc_note {σ : MS} {k0 n0 c0 : Int32} {o0 : Int64} : stc σ (Mnote_S σ k0 n0 o0 c0) := ⟨⟨Mnote_mi (by decide), Mnote_mi (by decide), Mnote_mi (by decide)⟩, fun j hj => Mnote_ma (by omega), fun j _ => by rw [Mnote_ml]⟩
theorem stc_gaPre {σ : MS} {a : Int32} : stc σ (gaPre σ a) := (stc_note.tr stc_9).tr stc_10
theorem stc_goOn {σ : MS} {t : Int32} {f : Int64} : stc σ (MgoOn_S σ t f) := MgoOn_S2 (stc σ) (stc.rf σ) (fun _ _ => stc_18.tr stc_20)
theorem stc_tgE {σ : MS} {t : Int32} : stc σ (tgE σ t) := by
  unfold tgE
  split
  · exact stc_note.tr stc_19
  · split
    · exact ((((stc_note.tr stc_19).tr stc_18).tr stc_19).tr stc_21).tr stc_20
    · exact stc_note.tr stc_19
theorem stc_tableGoes {σ : MS} {t : Int32} : stc σ (MtableGoes_S σ t) := by
  rw [MtableGoes_eq]
  split
  · exact stc_21.tr stc_goOn
  · split
    · exact stc_tgE
    · exact (stc_note.tr stc_21).tr stc_goOn
/-- counters, alarms and tables above a rank stay, but that alarms may be cancelled -/
def Fm (rk : Nat → Nat) (r : Nat) (σ σ' : MS) : Prop := stc σ σ' ∧ (∀ y, r < rk y → ml σ' 3 y = ml σ 3 y) ∧ (∀ a, r < rk ((ma σ 6 a).toNatClampNeg) → ml σ' 10 a = ml σ 10 a ∧ (ma σ 9 a = 0 → ma σ' 9 a = 0)) ∧ (∀ t, r < rk ((ma σ 12 t).toNatClampNeg) → ma σ' 19 t = ma σ 19 t ∧ ma σ' 21 t = ma σ 21 t ∧ ml σ' 20 t = ml σ 20 t ∧ ml σ' 18 t = ml σ 18 t)
theorem Fm.rf {rk : Nat → Nat} {r : Nat} (σ : MS) : Fm rk r σ σ := ⟨stc.rf σ, fun _ _ => rfl, fun _ _ => ⟨rfl, id⟩, fun _ _ => ⟨rfl, rfl, rfl, rfl⟩⟩
theorem Fm.tr {rk : Nat → Nat} {r : Nat} {σ σ' σ'' : MS} (h : Fm rk r σ σ') (h' : Fm rk r σ' σ'') : Fm rk r σ σ'' := by
  obtain ⟨a1, a2, a3, a4⟩ := h
  obtain ⟨b1, b2, b3, b4⟩ := h'
  have e6 : ma σ' 6 = ma σ 6 := a1.2.1 6 (by decide)
  have e12 : ma σ' 12 = ma σ 12 := a1.2.1 12 (by decide)
  rw [e6] at b3
  rw [e12] at b4
  refine ⟨a1.tr b1, fun y hy => (b2 y hy).trans (a2 y hy), fun a ha => ⟨(b3 a ha).1.trans (a3 a ha).1, fun q => (b3 a ha).2 ((a3 a ha).2 q)⟩, fun t ht => ?_⟩
  obtain ⟨c1, c2, c3, c4⟩ := a4 t ht
  obtain ⟨d1, d2, d3, d4⟩ := b4 t ht
  exact ⟨d1.trans c1, d2.trans c2, d3.trans c3, d4.trans c4⟩
theorem Fm.wk {rk : Nat → Nat} {r r' : Nat} {σ σ' : MS} (h : Fm rk r σ σ') (hr : r ≤ r') : Fm rk r' σ σ' :=
  ⟨h.1, fun y hy => h.2.1 y (by omega), fun a ha => h.2.2.1 a (by omega), fun t ht => h.2.2.2 t (by omega)⟩
theorem Fm_note {rk : Nat → Nat} {r : Nat} {σ : MS} {k0 n0 c0 : Int32} {o0 : Int64} : Fm rk r σ (Mnote_S σ k0 n0 o0 c0) :=
  ⟨stc_note, fun y _ => by rw [Mnote_ml], fun a _ => ⟨by rw [Mnote_ml], fun q => by rw [Mnote_ma (by decide)]; exact q⟩, fun t _ => ⟨by rw [Mnote_ma (by decide)], by rw [Mnote_ma (by decide)], by rw [Mnote_ml], by rw [Mnote_ml]⟩⟩
theorem Fm_act {rk : Nat → Nat} {r : Nat} {σ : MS} {v : Int32} : Fm rk r σ (smi σ 19 v) := ⟨stc_smi (by decide) (by decide) (by decide), fun _ _ => rfl, fun _ _ => ⟨rfl, id⟩, fun _ _ => ⟨rfl, rfl, rfl, rfl⟩⟩
theorem Fm_cancel {rk : Nat → Nat} {r : Nat} {σ : MS} {x : Nat} : Fm rk r σ (sma σ 9 x 0) := by
  refine ⟨stc_9, fun _ _ => rfl, fun a _ => ⟨rfl, fun q => ?_⟩, fun t _ => ⟨rfl, rfl, rfl, rfl⟩⟩
  show up2 (ma σ) 9 x 0 9 a = 0
  by_cases e : a = x
  · subst e; exact up2_self _ _ _ _
  · rw [up2_a _ _ _ _ e]; exact q
theorem Fm_step {rk : Nat → Nat} {r : Nat} {σ : MS} {c : Nat} {v : Int64} (h : rk c ≤ r) : Fm rk r σ (sml σ 3 c v) :=
  ⟨stc_3, fun y hy => up2_a _ _ _ _ (fun e => by subst e; omega), fun _ _ => ⟨rfl, id⟩, fun _ _ => ⟨rfl, rfl, rfl, rfl⟩⟩
theorem Fm_alarm {rk : Nat → Nat} {r : Nat} {σ : MS} {a : Nat} {v : Int32} {w : Int64} (h : rk ((ma σ 6 a).toNatClampNeg) ≤ r) : Fm rk r σ (sml (sma σ 9 a v) 10 a w) := by
  refine ⟨stc_9.tr stc_10, fun _ _ => rfl, fun b hb => ?_, fun t _ => ⟨rfl, rfl, rfl, rfl⟩⟩
  have e : b ≠ a := fun e => by subst e; omega
  exact ⟨up2_a _ _ _ _ e, fun q => (up2_a (ma σ) 9 9 v e).trans q⟩
theorem Fm_gaPre {rk : Nat → Nat} {r : Nat} {σ : MS} {a : Int32} (h : rk ((ma σ 6 a.toNatClampNeg).toNatClampNeg) ≤ r) : Fm rk r σ (gaPre σ a) := by
  unfold gaPre
  refine Fm_note.tr (Fm_alarm ?_)
  rw [Mnote_ma (by decide)]
  exact h
theorem MgoOn_ml {σ : MS} {t : Int32} {f : Int64} {j u : Nat} (h : (j ≠ 18 ∧ j ≠ 20) ∨ u ≠ t.toNatClampNeg) : ml (MgoOn_S σ t f) j u = ml σ j u := by
  refine MgoOn_S2 (fun z => ml z j u = ml σ j u) rfl (fun v w => ?_)
  show up2 (up2 (ml σ) 18 _ v) 20 _ w j u = ml σ j u
  rcases h with h | h
  · rw [up2_k _ _ _ _ h.2, up2_k _ _ _ _ h.1]
  · rw [up2_a _ _ _ _ h, up2_a _ _ _ _ h]
theorem MtableGoes_off {σ : MS} {t : Int32} {u : Nat} (h1 : u ≠ t.toNatClampNeg) (h2 : ma σ 17 (t.toNatClampNeg) ≠ 0 → u ≠ (ma σ 17 (t.toNatClampNeg)).toNatClampNeg) : ma (MtableGoes_S σ t) 19 u = ma σ 19 u ∧ ma (MtableGoes_S σ t) 21 u = ma σ 21 u ∧ ml (MtableGoes_S σ t) 20 u = ml σ 20 u ∧ ml (MtableGoes_S σ t) 18 u = ml σ 18 u := by
  rw [MtableGoes_eq]
  by_cases c1 : ma σ 21 t.toNatClampNeg = -1
  · rw [if_pos c1, MgoOn_ma, MgoOn_ml (Or.inr h1), MgoOn_ml (Or.inr h1)]
    exact ⟨rfl, up2_a _ _ _ _ h1, rfl, rfl⟩
  · rw [if_neg c1]
    by_cases c2 : ma σ 14 t.toNatClampNeg ≤ ma σ 21 t.toNatClampNeg
    · rw [if_pos c2]
      have e19 : ma (Mnote_S σ 2 t 0 (ma σ 12 t.toNatClampNeg)) 19 = ma σ 19 := Mnote_ma (by decide)
      have e21 : ma (Mnote_S σ 2 t 0 (ma σ 12 t.toNatClampNeg)) 21 = ma σ 21 := Mnote_ma (by decide)
      have el : ml (Mnote_S σ 2 t 0 (ma σ 12 t.toNatClampNeg)) = ml σ := Mnote_ml
      unfold tgE
      generalize Mnote_S σ 2 t 0 (ma σ 12 t.toNatClampNeg) = Y at e19 e21 el
      have k1 : ma (sma Y 19 t.toNatClampNeg 0) 19 u = ma σ 19 u := (up2_a _ _ _ _ h1).trans (by rw [e19])
      have k2 : ma (sma Y 19 t.toNatClampNeg 0) 21 u = ma σ 21 u := (ra_a (show 21 ≠ 19 by decide)).trans (by rw [e21])
      have k3 : ml (sma Y 19 t.toNatClampNeg 0) = ml σ := el
      generalize sma Y 19 t.toNatClampNeg 0 = Z at k1 k2 k3
      split
      · exact ⟨k1, k2, by rw [k3], by rw [k3]⟩
      · rename_i c3
        have h2 := h2 c3
        split
        · refine ⟨?_, ?_, ?_, ?_⟩
          · exact ra_l.trans ((ra_a (by decide)).trans ((ra_n h2).trans (ra_l.trans k1)))
          · exact ra_l.trans ((ra_n h2).trans ((ra_n h2).trans (ra_l.trans k2)))
          · exact (rl_n h2).trans (rl_a.trans (rl_a.trans ((rl_n h2).trans (by rw [k3]))))
          · exact (rl_n h2).trans (rl_a.trans (rl_a.trans ((rl_n h2).trans (by rw [k3]))))
        · exact ⟨k1, k2, by rw [k3], by rw [k3]⟩
    · rw [if_neg c2, MgoOn_ma, MgoOn_ml (Or.inr h1), MgoOn_ml (Or.inr h1)]
      unfold tgP
      refine ⟨?_, ?_, ?_, ?_⟩
      · exact (ra_a (by decide)).trans (by rw [Mnote_ma (by decide)])
      · exact (ra_n h1).trans (by rw [Mnote_ma (by decide)])
      · exact rl_a.trans (by rw [Mnote_ml])
      · exact rl_a.trans (by rw [Mnote_ml])
theorem MtableGoes_ml {σ : MS} {t : Int32} {j : Nat} (h1 : j ≠ 18) (h2 : j ≠ 20) : ml (MtableGoes_S σ t) j = ml σ j := by
  rw [MtableGoes_eq]
  split
  · funext u
    rw [MgoOn_ml (Or.inl ⟨h1, h2⟩)]
    rfl
  · split
    · unfold tgE
      have k1 : ∀ {X : MS} {i : Nat} {v : Int64}, ml (sml X 18 i v) j = ml X j := funext fun _ => up2_k _ _ _ _ h1
      have k2 : ∀ {X : MS} {i : Nat} {v : Int64}, ml (sml X 20 i v) j = ml X j := funext fun _ => up2_k _ _ _ _ h2
      have k3 : ∀ {X : MS} {i j' : Nat} {v : Int32}, ml (sma X j' i v) j = ml X j := rfl
      repeat' split
      all_goals (simp only [k1, k2, k3, Mnote_ml])
    · funext u
      rw [MgoOn_ml (Or.inl ⟨h1, h2⟩)]
      unfold tgP
      exact rl_a.trans (by rw [Mnote_ml])
theorem Fm_table {rk : Nat → Nat} {r : Nat} {σ : MS} {t : Int32} (h : rk ((ma σ 12 (t.toNatClampNeg)).toNatClampNeg) ≤ r) (hn : ma σ 17 (t.toNatClampNeg) ≠ 0 → ma σ 12 ((ma σ 17 (t.toNatClampNeg)).toNatClampNeg) = ma σ 12 (t.toNatClampNeg)) : Fm rk r σ (MtableGoes_S σ t) := by
  refine ⟨stc_tableGoes, fun y _ => by rw [MtableGoes_ml (by decide) (by decide)], fun a _ => ⟨by rw [MtableGoes_ml (by decide) (by decide)], fun q => by rw [MtableGoes_ma (by decide) (by decide) (by decide)]; exact q⟩, fun u hu => MtableGoes_off (fun e => by subst e; omega) (fun q e => ?_)⟩
  subst e
  rw [hn q] at hu
  omega
