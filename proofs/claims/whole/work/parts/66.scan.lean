-- THE MODEL'S LOOP, TURN BY TURN
def gsN : Nat → MS → MS → Prop
  | 0, σ, σ' => σ' = σ
  | n + 1, σ, σ' => goOk σ ∧ ¬ mi σ 20 ≤ 0 ∧ gsN n (Mgo_S σ) σ'
def Gs (σ σ' : MS) : Prop := ∃ n, gsN n σ σ'
theorem Gs.rf (σ : MS) : Gs σ σ := ⟨0, rfl⟩
theorem gsN_tr : ∀ (n : Nat) {m : Nat} {σ σ' σ'' : MS}, gsN n σ σ' → gsN m σ' σ'' → gsN (m + n) σ σ''
  | 0, _, _, _, _, h, h' => by cases h; exact h'
  | n + 1, _, _, _, _, h, h' => ⟨h.1, h.2.1, gsN_tr n h.2.2 h'⟩
theorem Gs.tr {σ σ' σ'' : MS} (h : Gs σ σ') (h' : Gs σ' σ'') : Gs σ σ'' := by
  obtain ⟨n, hn⟩ := h
  obtain ⟨m, hm⟩ := h'
  exact ⟨m + n, gsN_tr n hn hm⟩
theorem Gs.one {σ : MS} (h : goOk σ) (h2 : ¬ mi σ 20 ≤ 0) : Gs σ (Mgo_S σ) := ⟨1, h, h2, rfl⟩
theorem gsN_runs : ∀ (n : Nat) {σ σ' : MS}, gsN n σ σ' → mi σ' 20 ≤ 0 → runs n σ ∧ goIt n σ = σ'
  | 0, _, _, h, h0 => by cases h; exact ⟨h0, rfl⟩
  | n + 1, _, _, h, h0 => by
    obtain ⟨q1, q2⟩ := gsN_runs n h.2.2 h0
    exact ⟨⟨h.2.1, h.1, q1⟩, q2⟩
theorem Gs.runs {σ σ' : MS} (h : Gs σ σ') (h0 : mi σ' 20 ≤ 0) : ∃ n, runs n σ ∧ goIt n σ = σ' := by
  obtain ⟨n, hn⟩ := h
  exact ⟨n, gsN_runs n hn h0⟩
def dueA (σ : MS) (c : Int32) (a : Nat) : Prop := ¬ ma σ 9 a = 0 ∧ ma σ 6 a = c ∧ ml σ 10 a = ml σ 3 c.toNatClampNeg
def dueT (σ : MS) (c : Int32) (t : Nat) : Prop := ¬ ma σ 19 t = 0 ∧ ma σ 12 t = c ∧ ml σ 20 t = ml σ 3 c.toNatClampNeg
theorem goT_hit {σ : MS} {q c : Int32} {t : Nat} (hd : dueT σ c t) (ht : t < 2 ^ 31) : ∀ (k a : Nat), a ≤ t → t < a + k → (∀ w, a ≤ w → w < t → ¬ dueT σ c w) → goT σ q c k a = MgoTable_S (sml σ 20 t (-1)) q (nI t)
  | 0, a, h1, h2, _ => by omega
  | k + 1, a, h1, h2, hn => by
    unfold goT
    rw [nI_clamp (by omega)]
    by_cases e : a = t
    · subst e
      rw [if_neg hd.1, if_pos hd.2.1, if_pos hd.2.2]
    · have hr := goT_hit (q := q) hd ht k (a + 1) (by omega) (by omega) (fun w w1 w2 => hn w (by omega) w2)
      have hna := hn a (Nat.le_refl _) (by omega)
      by_cases c1 : ma σ 19 a = 0
      · rw [if_pos c1]; exact hr
      · rw [if_neg c1]
        by_cases c2 : ma σ 12 a = c
        · rw [if_pos c2]
          by_cases c3 : ml σ 20 a = ml σ 3 c.toNatClampNeg
          · exact absurd ⟨c1, c2, c3⟩ hna
          · rw [if_neg c3]; exact hr
        · rw [if_neg c2]; exact hr
theorem goT_none {σ : MS} {q c : Int32} : ∀ (k a : Nat), a + k < 2 ^ 31 → (∀ w, a ≤ w → w < a + k → ¬ dueT σ c w) → goT σ q c k a = smi σ 20 (mi σ 20 - (1 : Int32))
  | 0, _, _, _ => rfl
  | k + 1, a, hb, hn => by
    have hr := goT_none (q := q) k (a + 1) (by omega) (fun w w1 w2 => hn w (by omega) (by omega))
    have hna := hn a (Nat.le_refl _) (by omega)
    unfold goT
    rw [nI_clamp (by omega)]
    by_cases c1 : ma σ 19 a = 0
    · rw [if_pos c1]; exact hr
    · rw [if_neg c1]
      by_cases c2 : ma σ 12 a = c
      · rw [if_pos c2]
        by_cases c3 : ml σ 20 a = ml σ 3 c.toNatClampNeg
        · exact absurd ⟨c1, c2, c3⟩ hna
        · rw [if_neg c3]; exact hr
      · rw [if_neg c2]; exact hr
theorem goAl_hit {σ : MS} {q c : Int32} {t : Nat} (hd : dueA σ c t) (ht : t < 2 ^ 31) : ∀ (k a : Nat), a ≤ t → t < a + k → (∀ w, a ≤ w → w < t → ¬ dueA σ c w) → goAl σ q c k a = MgoAlarm_S σ (nI t)
  | 0, a, h1, h2, _ => by omega
  | k + 1, a, h1, h2, hn => by
    unfold goAl
    rw [nI_clamp (by omega)]
    by_cases e : a = t
    · subst e
      rw [if_neg hd.1, if_pos hd.2.1, if_pos hd.2.2]
    · have hr := goAl_hit (q := q) hd ht k (a + 1) (by omega) (by omega) (fun w w1 w2 => hn w (by omega) w2)
      have hna := hn a (Nat.le_refl _) (by omega)
      by_cases c1 : ma σ 9 a = 0
      · rw [if_pos c1]; exact hr
      · rw [if_neg c1]
        by_cases c2 : ma σ 6 a = c
        · rw [if_pos c2]
          by_cases c3 : ml σ 10 a = ml σ 3 c.toNatClampNeg
          · exact absurd ⟨c1, c2, c3⟩ hna
          · rw [if_neg c3]; exact hr
        · rw [if_neg c2]; exact hr
theorem goAl_none {σ : MS} {q c : Int32} : ∀ (k a : Nat), a + k < 2 ^ 31 → (∀ w, a ≤ w → w < a + k → ¬ dueA σ c w) → goAl σ q c k a = goT σ q c (mi σ 17).toNatClampNeg 1
  | 0, _, _, _ => rfl
  | k + 1, a, hb, hn => by
    have hr := goAl_none (q := q) k (a + 1) (by omega) (fun w w1 w2 => hn w (by omega) (by omega))
    have hna := hn a (Nat.le_refl _) (by omega)
    unfold goAl
    rw [nI_clamp (by omega)]
    by_cases c1 : ma σ 9 a = 0
    · rw [if_pos c1]; exact hr
    · rw [if_neg c1]
      by_cases c2 : ma σ 6 a = c
      · rw [if_pos c2]
        by_cases c3 : ml σ 10 a = ml σ 3 c.toNatClampNeg
        · exact absurd ⟨c1, c2, c3⟩ hna
        · rw [if_neg c3]; exact hr
      · rw [if_neg c2]; exact hr
-- what is not due stays so
theorem dueA_m {σ : MS} {c : Int32} {a : Nat} : dueA (msk σ) c a ↔ dueA σ c a := by
  unfold dueA
  rw [msk_ma (j := 9) (by decide) (by decide), msk_ma (j := 6) (by decide) (by decide)]
  exact Iff.rfl
theorem dueT_m {σ : MS} {c : Int32} {a : Nat} : dueT (msk σ) c a ↔ dueT σ c a := by
  unfold dueT
  rw [msk_ma (j := 19) (by decide) (by decide), msk_ma (j := 12) (by decide) (by decide)]
  exact Iff.rfl
theorem Fm_dueA {rk : Nat → Nat} {r : Nat} {σ σ' : MS} {c : Int32} {a : Nat} (h : Fm rk r σ σ') (hr : r < rk c.toNatClampNeg) (hn : ¬ dueA σ c a) : ¬ dueA σ' c a := by
  rintro ⟨d1, d2, d3⟩
  rw [h.1.2.1 6 (by decide)] at d2
  have hk : r < rk (ma σ 6 a).toNatClampNeg := by rw [d2]; exact hr
  obtain ⟨k1, k2⟩ := h.2.2.1 a hk
  rw [k1, h.2.1 _ hr] at d3
  exact hn ⟨fun e => d1 (k2 e), d2, d3⟩
theorem Fm_dueT {rk : Nat → Nat} {r : Nat} {σ σ' : MS} {c : Int32} {a : Nat} (h : Fm rk r σ σ') (hr : r < rk c.toNatClampNeg) (hn : ¬ dueT σ c a) : ¬ dueT σ' c a := by
  rintro ⟨d1, d2, d3⟩
  rw [h.1.2.1 12 (by decide)] at d2
  have hk : r < rk (ma σ 12 a).toNatClampNeg := by rw [d2]; exact hr
  obtain ⟨k1, k2, k3, k4⟩ := h.2.2.2 a hk
  rw [k3, h.2.1 _ hr] at d3
  rw [k1] at d1
  exact hn ⟨d1, d2, d3⟩
theorem cancel_dueA {σ : MS} {c : Int32} {a x : Nat} (hn : ¬ dueA σ c a) : ¬ dueA (sma σ 9 x 0) c a := by
  rintro ⟨d1, d2, d3⟩
  refine hn ⟨fun e => d1 ?_, d2, d3⟩
  show up2 (ma σ) 9 x 0 9 a = 0
  by_cases q : a = x
  · subst q; exact up2_self _ _ _ _
  · rw [up2_a _ _ _ _ q]; exact e
theorem cancel_dueT {σ : MS} {c : Int32} {a x : Nat} (hn : ¬ dueT σ c a) : ¬ dueT (sma σ 9 x 0) c a := hn
theorem i64_self {x y : Int64} (h : x + y = x) : y = 0 := by
  have h2 : x + y = x + 0 := h.trans (Int64.add_zero x).symm
  exact (Int64.add_right_inj x).mp h2
theorem gaPre_dueA {σ : MS} {c : Int32} {a b : Nat} (ha : a < 2 ^ 31) (hc : ma σ 6 a = c) (hb : b ≠ a → ¬ dueA σ c b) (h0 : 0 ≤ (ml σ 11 a).toInt) : ¬ dueA (gaPre σ (nI a)) c b := by
  have et : (nI a).toNatClampNeg = a := nI_clamp ha
  unfold gaPre
  rw [et]
  have e9 : ma (Mnote_S σ 0 (nI a) 0 (ma σ 6 a)) 9 = ma σ 9 := Mnote_ma (by decide)
  have e6 : ma (Mnote_S σ 0 (nI a) 0 (ma σ 6 a)) 6 = ma σ 6 := Mnote_ma (by decide)
  have el : ml (Mnote_S σ 0 (nI a) 0 (ma σ 6 a)) = ml σ := Mnote_ml
  generalize Mnote_S σ 0 (nI a) 0 (ma σ 6 a) = Y at e9 e6 el
  rintro ⟨d1, d2, d3⟩
  have x9 : ma (sml (sma Y 9 a (if (0 : Int64) < ml σ 11 a then 1 else 0)) 10 a (ml σ 3 (ma σ 6 a).toNatClampNeg + ml σ 11 a)) 9 b = ma (sma Y 9 a (if (0 : Int64) < ml σ 11 a then 1 else 0)) 9 b := ra_l
  have x10 : ml (sml (sma Y 9 a (if (0 : Int64) < ml σ 11 a then 1 else 0)) 10 a (ml σ 3 (ma σ 6 a).toNatClampNeg + ml σ 11 a)) 3 c.toNatClampNeg = ml σ 3 c.toNatClampNeg := (rl_l (by decide)).trans (rl_a.trans (by rw [el]))
  rw [x9] at d1
  rw [x10] at d3
  by_cases e : b = a
  · subst e
    rw [ra_s] at d1
    rw [rl_s, hc] at d3
    have := i64_self d3
    rw [this, if_neg (by decide)] at d1
    exact d1 rfl
  · rw [ra_n e, e9] at d1
    have d3' : ml σ 10 b = ml σ 3 c.toNatClampNeg := by
      rw [← d3, rl_n e, rl_a, el]
    have d2' : ma σ 6 b = c := by
      rw [← d2, ra_l, ra_a (by decide), e6]
    exact hb e ⟨d1, d2', d3'⟩
