-- THE CONFIGURATION, AND WHAT HOLDS ALONG STEPS
abbrev inC (σ : MS) (x : Int32) : Prop := rg 1 (nC σ) x
def Cf (rk : Nat → Nat) (σ : MS) : Prop :=
  ((∀ c, 1 ≤ c → c ≤ nC σ → ¬ ml σ 0 c = 0) ∧ nC σ ≤ 20 ∧ nA σ ≤ 100 ∧ nT σ ≤ 20) ∧
  (∀ a, 1 ≤ a → a ≤ nA σ → inC σ (ma σ 6 a) ∧ (ma σ 7 a = 1 → inC σ (ma σ 8 a) ∧ rk ((ma σ 8 a).toNatClampNeg) < rk ((ma σ 6 a).toNatClampNeg)) ∧ 0 ≤ (ml σ 11 a).toInt ∧ (ml σ 11 a).toInt ≤ 1000000000) ∧
  (∀ t, 1 ≤ t → t ≤ nT σ → inC σ (ma σ 12 t) ∧ (rg 0 (nT σ) (ma σ 17 t) ∧ (ma σ 17 t ≠ 0 → ma σ 12 ((ma σ 17 t).toNatClampNeg) = ma σ 12 t)) ∧ rg 0 20 (ma σ 14 t) ∧ (1 ≤ (ml σ 13 t).toInt ∧ (ml σ 13 t).toInt ≤ 1000000) ∧
    (∀ p, p < (ma σ 14 t).toNatClampNeg → (0 ≤ (ml σ 15 (20 * t + p)).toInt ∧ (ml σ 15 (20 * t + p)).toInt ≤ (ml σ 13 t).toInt) ∧ (∀ p', p' < p → (ml σ 15 (20 * t + p')).toInt < (ml σ 15 (20 * t + p)).toInt) ∧ (¬ ma σ 16 (20 * t + p) ≤ 0 → inC σ (ma σ 16 (20 * t + p)) ∧ rk ((ma σ 16 (20 * t + p)).toNatClampNeg) < rk ((ma σ 12 t).toNatClampNeg))))
theorem Cf_stc {rk : Nat → Nat} {σ σ' : MS} (h : stc σ σ') (hc : Cf rk σ) : Cf rk σ' := by
  obtain ⟨⟨e15, e16, e17⟩, ha, hl⟩ := h
  have a6 := ha 6 (by decide)
  have a7 := ha 7 (by decide)
  have a8 := ha 8 (by decide)
  have a12 := ha 12 (by decide)
  have a14 := ha 14 (by decide)
  have a16 := ha 16 (by decide)
  have a17 := ha 17 (by decide)
  have l0 := hl 0 (by decide)
  have l11 := hl 11 (by decide)
  have l13 := hl 13 (by decide)
  have l15 := hl 15 (by decide)
  simp only [Cf, inC, nC, nA, nT, e15, e16, e17, a6, a7, a8, a12, a14, a16, a17, l0, l11, l13, l15] at hc ⊢
  exact hc
abbrev acN (σ : MS) : Nat := (mi σ 19).toNatClampNeg
abbrev exN (σ : MS) : Nat := (mi σ 18).toNatClampNeg
abbrev wN (σ : MS) : Nat := nA σ + 4 * nT σ
/-- notes that are made, and those that steps of acts may still make -/
def pot (σ : MS) : Nat := exN σ + wN σ * (20000 - acN σ)
def Iv (rk : Nat → Nat) (B : Int) (σ : MS) : Prop := Cf rk σ ∧ (mi σ 19 = nI (acN σ) ∧ acN σ ≤ 20000) ∧ (mi σ 18 = nI (exN σ)) ∧ (∀ c, 0 ≤ (ml σ 3 c).toInt ∧ (ml σ 3 c).toInt + (20000 - (acN σ : Int)) ≤ B) ∧ (∀ t, 1 ≤ t → t ≤ nT σ → rg (-1) ((ma σ 14 t).toNatClampNeg) (ma σ 21 t)) ∧ (∀ t, 1 ≤ t → t ≤ nT σ → -1000 ≤ (ml σ 18 t).toInt ∧ (ml σ 18 t).toInt ≤ 1000)
def Rl (rk : Nat → Nat) (r : Nat) (B : Int) (n : Nat) (σ σ' : MS) : Prop := Iv rk B σ' ∧ Fm rk r σ σ' ∧ pot σ' ≤ pot σ + n
theorem Rl.rf {rk : Nat → Nat} {r : Nat} {B : Int} {n : Nat} {σ : MS} (h : Iv rk B σ) : Rl rk r B n σ σ := ⟨h, Fm.rf σ, Nat.le_add_right _ _⟩
theorem Rl.tr {rk : Nat → Nat} {r n n' : Nat} {B B' : Int} {σ σ' σ'' : MS} (h : Rl rk r B n σ σ') (h' : Rl rk r B' n' σ' σ'') : Rl rk r B' (n + n') σ σ'' :=
  ⟨h'.1, h.2.1.tr h'.2.1, by have := h.2.2; have := h'.2.2; omega⟩
theorem Rl.wk {rk : Nat → Nat} {r r' n n' : Nat} {B : Int} {σ σ' : MS} (h : Rl rk r B n σ σ') (hr : r ≤ r') (hn : n ≤ n') : Rl rk r' B n' σ σ' :=
  ⟨h.1, h.2.1.wk hr, by have := h.2.2; omega⟩
theorem wN_stc {σ σ' : MS} (h : stc σ σ') : wN σ' = wN σ := by
  show (mi σ' 16).toNatClampNeg + 4 * (mi σ' 17).toNatClampNeg = _
  rw [h.1.2.1, h.1.2.2]
theorem nA_stc {σ σ' : MS} (h : stc σ σ') : nA σ' = nA σ := by
  show (mi σ' 16).toNatClampNeg = _
  rw [h.1.2.1]
theorem nT_stc {σ σ' : MS} (h : stc σ σ') : nT σ' = nT σ := by
  show (mi σ' 17).toNatClampNeg = _
  rw [h.1.2.2]
theorem nC_stc {σ σ' : MS} (h : stc σ σ') : nC σ' = nC σ := by
  show (mi σ' 15).toNatClampNeg = _
  rw [h.1.1]
theorem inC_stc {σ σ' : MS} {x : Int32} (h : stc σ σ') (hx : inC σ x) : inC σ' x := by
  show rg 1 (nC σ') x
  rw [nC_stc h]
  exact hx
theorem ex_le {σ : MS} : exN σ ≤ pot σ := Nat.le_add_right _ _
/-- what a write keeps that touches neither steps, places, deviations, the counts of notes nor of acts -/
theorem Iv_keep {rk : Nat → Nat} {B : Int} {σ σ' : MS} (h : Iv rk B σ) (hs : stc σ σ') (h19 : mi σ' 19 = mi σ 19) (h18 : mi σ' 18 = mi σ 18) (h3 : ml σ' 3 = ml σ 3) (hp : ∀ t, 1 ≤ t → t ≤ nT σ → ma σ' 21 t = ma σ 21 t) (hd : ∀ t, 1 ≤ t → t ≤ nT σ → ml σ' 18 t = ml σ 18 t) : Iv rk B σ' ∧ pot σ' = pot σ := by
  obtain ⟨g1, g2, g3, g4, g5, g6⟩ := h
  have eT := nT_stc hs
  have e14 : ma σ' 14 = ma σ 14 := hs.2.1 14 (by decide)
  refine ⟨⟨Cf_stc hs g1, ?_, ?_, ?_, ?_, ?_⟩, ?_⟩
  · unfold acN; rw [h19]; exact g2
  · unfold exN; rw [h18]; exact g3
  · unfold acN; rw [h19, h3]; exact g4
  · intro t h1 h2
    rw [eT] at h2
    rw [hp t h1 h2, e14]
    exact g5 t h1 h2
  · intro t h1 h2
    rw [eT] at h2
    rw [hd t h1 h2]
    exact g6 t h1 h2
  · unfold pot
    rw [wN_stc hs]
    unfold exN acN
    rw [h19, h18]
theorem Rl_note {rk : Nat → Nat} {r : Nat} {B : Int} {σ : MS} {k0 n0 c0 : Int32} {o0 : Int64} (h : Iv rk B σ) (hb : pot σ + 1 < 2 ^ 31) : Rl rk r B 1 σ (Mnote_S σ k0 n0 o0 c0) := by
  have hex := ex_le (σ := σ)
  have e18 : mi (Mnote_S σ k0 n0 o0 c0) 18 = nI (exN σ + 1) := by
    have : mi (Mnote_S σ k0 n0 o0 c0) 18 = mi σ 18 + 1 := by
      unfold Mnote_S
      split <;> exact ri_s
    rw [this, ← nI_1, ← h.2.2.1]
  have ee : exN (Mnote_S σ k0 n0 o0 c0) = exN σ + 1 := by
    show (mi (Mnote_S σ k0 n0 o0 c0) 18).toNatClampNeg = _
    rw [e18]
    exact nI_clamp (by omega)
  have e19 : mi (Mnote_S σ k0 n0 o0 c0) 19 = mi σ 19 := Mnote_mi (by decide)
  have e21 : ma (Mnote_S σ k0 n0 o0 c0) 21 = ma σ 21 := Mnote_ma (by decide)
  obtain ⟨g1, g2, g3, g4, g5, g6⟩ := h
  have hs : stc σ (Mnote_S σ k0 n0 o0 c0) := stc_note
  refine ⟨⟨Cf_stc hs g1, ?_, ?_, ?_, ?_, ?_⟩, Fm_note, ?_⟩
  · unfold acN; rw [e19]; exact g2
  · rw [ee]; exact e18
  · unfold acN; rw [e19, Mnote_ml]; exact g4
  · intro t h1 h2
    rw [nT_stc hs] at h2
    rw [e21, hs.2.1 14 (by decide)]
    exact g5 t h1 h2
  · intro t h1 h2
    rw [nT_stc hs] at h2
    rw [Mnote_ml]
    exact g6 t h1 h2
  · unfold pot
    rw [wN_stc hs, ee]
    unfold acN
    rw [e19]
    omega
theorem Rl_cancel {rk : Nat → Nat} {r : Nat} {B : Int} {σ : MS} {x : Nat} (h : Iv rk B σ) : Rl rk r B 0 σ (sma σ 9 x 0) := by
  obtain ⟨k1, k2⟩ := Iv_keep (σ' := sma σ 9 x 0) h stc_9 rfl rfl rfl (fun _ _ _ => rfl) (fun _ _ _ => rfl)
  exact ⟨k1, Fm_cancel, by rw [k2]; exact Nat.le_refl _⟩
theorem Rl_gaPre {rk : Nat → Nat} {r : Nat} {B : Int} {σ : MS} {a : Int32} (h : Iv rk B σ) (hb : pot σ + 1 < 2 ^ 31) (hr : rk ((ma σ 6 a.toNatClampNeg).toNatClampNeg) ≤ r) : Rl rk r B 1 σ (gaPre σ a) := by
  have h1 : Rl rk r B 1 σ (Mnote_S σ 0 a 0 (ma σ 6 a.toNatClampNeg)) := Rl_note h hb
  obtain ⟨k1, k2⟩ := Iv_keep (σ' := gaPre σ a) h1.1 (stc_9.tr stc_10) rfl rfl rfl (fun _ _ _ => rfl) (fun _ _ _ => rfl)
  exact ⟨k1, Fm_gaPre hr, by rw [k2]; exact h1.2.2⟩
-- the draw
theorem drw_ok {v d : Int64} (hv : -1000 ≤ v.toInt ∧ v.toInt ≤ 1000) (hd : 1 ≤ d.toInt ∧ d.toInt ≤ 2000000) : (-2 ≤ (drw v d).toInt ∧ (drw v d).toInt ≤ 2) ∧ 1 ≤ d.toInt + (drw v d).toInt ∧ -1000 ≤ v.toInt - (drw v d).toInt ∧ v.toInt - (drw v d).toInt ≤ 1000 := by
  have e2 : (2 : Int64).toInt = 2 := rfl
  have em2 : (-2 : Int64).toInt = -2 := rfl
  have e1 : (1 : Int64).toInt = 1 := rfl
  have key : ∀ c : Int64, (-2 ≤ c.toInt ∧ c.toInt ≤ 2) → (-1000 ≤ v.toInt - c.toInt ∧ v.toInt - c.toInt ≤ 1000) → (c.toInt ≤ 0 → v.toInt ≤ c.toInt) → (0 ≤ c.toInt → c.toInt ≤ v.toInt) →
      (-2 ≤ (if d + c < (1 : Int64) then 1 - d else c).toInt ∧ (if d + c < (1 : Int64) then 1 - d else c).toInt ≤ 2) ∧ 1 ≤ d.toInt + (if d + c < (1 : Int64) then 1 - d else c).toInt ∧ -1000 ≤ v.toInt - (if d + c < (1 : Int64) then 1 - d else c).toInt ∧ v.toInt - (if d + c < (1 : Int64) then 1 - d else c).toInt ≤ 1000 := by
    intro c h1 h2 h3 h4
    have es : (d + c).toInt = d.toInt + c.toInt := by
      rw [Int64.toInt_add]
      exact Int.bmod_eq_of_le (by omega) (by omega)
    have ed : (1 - d).toInt = 1 - d.toInt := by
      rw [Int64.toInt_sub, e1]
      exact Int.bmod_eq_of_le (by omega) (by omega)
    by_cases q : d + c < (1 : Int64)
    · rw [if_pos q, ed]
      rw [Int64.lt_iff_toInt_lt, es, e1] at q
      omega
    · rw [if_neg q]
      rw [Int64.lt_iff_toInt_lt, es, e1] at q
      omega
  unfold drw
  by_cases q1 : (2 : Int64) < v
  · simp only [if_pos q1]
    rw [Int64.lt_iff_toInt_lt, e2] at q1
    exact key 2 (by rw [e2]; omega) (by rw [e2]; omega) (by rw [e2]; omega) (by rw [e2]; omega)
  · simp only [if_neg q1]
    by_cases q2 : v < (-2 : Int64)
    · simp only [if_pos q2]
      rw [Int64.lt_iff_toInt_lt, em2] at q2
      exact key (-2) (by rw [em2]; omega) (by rw [em2]; omega) (by rw [em2]; omega) (by rw [em2]; omega)
    · simp only [if_neg q2]
      rw [Int64.lt_iff_toInt_lt, e2] at q1
      rw [Int64.lt_iff_toInt_lt, em2] at q2
      exact key v (by omega) (by omega) (by omega) (by omega)
