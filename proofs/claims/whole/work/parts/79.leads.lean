-- WHAT LEADS TO WHAT
abbrev ld (σ : MS) (c d : Nat) : Prop := ¬ ma σ 4 (21 * c + d) = 0
def Tr (n : Nat) (σ : MS) (T : Nat → Nat → Bool) : Prop := (∀ c d, T c d = true → (1 ≤ c ∧ c ≤ n) ∧ 1 ≤ d ∧ d ≤ n) ∧ (∀ c d, 1 ≤ c → c ≤ 20 → 1 ≤ d → d ≤ 20 → ld σ c d → T c d = true) ∧ (∀ c d e, T c d = true → T d e = true → T c e = true) ∧ (∀ c e, T c e = true → ld σ c e ∨ ∃ d, T c d = true ∧ ld σ d e) ∧ (∀ c, T c c = false)
def cnt (p : Nat → Bool) : Nat → Nat
  | 0 => 0
  | n + 1 => cnt p n + (if p (n + 1) = true then 1 else 0)
theorem cnt_le {p : Nat → Bool} : ∀ n, cnt p n ≤ n
  | 0 => Nat.le_refl _
  | n + 1 => by
    have := cnt_le (p := p) n
    unfold cnt
    split <;> omega
theorem cnt_mono {p q : Nat → Bool} : ∀ n, (∀ i, 1 ≤ i → i ≤ n → p i = true → q i = true) → cnt p n ≤ cnt q n
  | 0, _ => Nat.le_refl _
  | n + 1, h => by
    have := cnt_mono n (fun i h1 h2 => h i h1 (by omega))
    unfold cnt
    by_cases e : p (n + 1) = true
    · rw [if_pos e, if_pos (h _ (by omega) (by omega) e)]
      omega
    · rw [if_neg e]
      split <;> omega
theorem cnt_lt {p q : Nat → Bool} {j : Nat} (hq : q j = true) (hp : p j = false) (j1 : 1 ≤ j) : ∀ n, j ≤ n → (∀ i, 1 ≤ i → i ≤ n → p i = true → q i = true) → cnt p n < cnt q n
  | 0, h, _ => by omega
  | n + 1, hj, h => by
    have hm := cnt_mono n (fun i h1 h2 => h i h1 (by omega))
    unfold cnt
    by_cases e : j = n + 1
    · subst e
      rw [if_pos hq, if_neg (by rw [hp]; decide)]
      omega
    · have := cnt_lt hq hp j1 n (by omega) (fun i h1 h2 => h i h1 (by omega))
      by_cases e : p (n + 1) = true
      · rw [if_pos e, if_pos (h _ (by omega) (by omega) e)]
        omega
      · rw [if_neg e]
        split <;> omega
def rkT (n : Nat) (T : Nat → Nat → Bool) (y : Nat) : Nat := if 1 ≤ y ∧ y ≤ n then cnt (T y) n else 1000
theorem rkT_lt {n : Nat} {σ : MS} {T : Nat → Nat → Bool} (h : Tr n σ T) {c d : Nat} (hc : T c d = true) : rkT n T d < rkT n T c := by
  obtain ⟨h1, h2, h3, h4, h5⟩ := h
  obtain ⟨a1, a2⟩ := h1 c d hc
  unfold rkT
  rw [if_pos a1, if_pos a2]
  exact cnt_lt hc (h5 d) a2.1 n a2.2 (fun i _ _ q => h3 c d i hc q)
theorem rkT_20 {n : Nat} {σ : MS} {T : Nat → Nat → Bool} (h : Tr n σ T) (hn : n ≤ 20) {c : Nat} (c1 : 1 ≤ c) (c2 : c ≤ n) : rkT n T c < 20 := by
  unfold rkT
  rw [if_pos ⟨c1, c2⟩]
  have h1 := cnt_lt (p := T c) (q := fun _ => true) (j := c) rfl (h.2.2.2.2 c) c1 n c2 (fun _ _ _ _ => rfl)
  have := cnt_le (p := fun _ => true) n
  omega
theorem rkT_out {n : Nat} {T : Nat → Nat → Bool} {c : Nat} (h : ¬ (1 ≤ c ∧ c ≤ n)) : rkT n T c = 1000 := if_neg h
theorem o21 {i d : Nat} (hi : i ≤ 1000) (hd : d ≤ 1000) : (((21 : Int32) * nI i) + nI d).toNatClampNeg = 21 * i + d := by
  rw [show (21 : Int32) * nI i = nI (21 * i) from (Int32.ofNat_mul 21 i).symm, nI_add]
  exact nI_clamp (by omega)
abbrev sn (σ : MS) (j : Nat) : Prop := ¬ ma σ 5 j = 0
theorem sn_w {σ : MS} {i j : Nat} (h : sn σ j) : sn (sma σ 5 i 1) j := by
  show ¬ up2 (ma σ) 5 i 1 5 j = 0
  by_cases e : j = i
  · rw [e, up2_self]; decide
  · rw [up2_a _ _ _ _ e]; exact h
theorem D_mono {i j : Nat} : ∀ (k d : Nat) (σ : MS), sn σ j → sn (ldD i k d σ) j
  | 0, _, _, h => h
  | k + 1, d, σ, h => by
    unfold ldD
    refine D_mono k (d + 1) _ ?_
    split
    · exact h
    · split
      · exact h
      · exact sn_w h
theorem D_hit {i e : Nat} (hi : i ≤ 20) (he : e ≤ 20) : ∀ (k d : Nat) (σ : MS), sn σ i → ld σ i e → d ≤ e → e < d + k → sn (ldD i k d σ) e
  | 0, d, σ, _, _, h1, h2 => by omega
  | k + 1, d, σ, hs, hl, h1, h2 => by
    unfold ldD
    rw [nI_clamp (by omega)]
    by_cases q : e = d
    · subst q
      rw [if_neg hs, o21 (by omega) (by omega), if_neg hl, nI_clamp (by omega)]
      refine D_mono k (e + 1) _ ?_
      show ¬ up2 (ma σ) 5 e 1 5 e = 0
      rw [up2_self]
      decide
    · refine D_hit hi he k (d + 1) _ ?_ ?_ (by omega) (by omega)
      · split
        · exact hs
        · split
          · exact hs
          · exact sn_w hs
      · split
        · exact hl
        · split
          · exact hl
          · exact hl
theorem D_sound {σ0 : MS} {R : Nat → Prop} (hR : ∀ c d, 1 ≤ c → c ≤ 20 → 1 ≤ d → d ≤ 20 → R c → ld σ0 c d → R d) {i : Nat} (i1 : 1 ≤ i) (i2 : i ≤ 20) : ∀ (k d : Nat) (σ : MS), ma σ 4 = ma σ0 4 → 1 ≤ d → d + k ≤ 21 → (∀ j, sn σ j → R j) → ∀ j, sn (ldD i k d σ) j → R j
  | 0, _, _, _, _, _, h => h
  | k + 1, d, σ, h4, d1, d2, h => by
    unfold ldD
    rw [nI_clamp (by omega), o21 (by omega) (by omega), nI_clamp (by omega)]
    by_cases q1 : ma σ 5 i = 0
    · rw [if_pos q1]
      exact D_sound hR i1 i2 k (d + 1) σ h4 (by omega) (by omega) h
    · rw [if_neg q1]
      by_cases q2 : ma σ 4 (21 * i + d) = 0
      · rw [if_pos q2]
        exact D_sound hR i1 i2 k (d + 1) σ h4 (by omega) (by omega) h
      · rw [if_neg q2]
        refine D_sound hR i1 i2 k (d + 1) _ h4 (by omega) (by omega) (fun j hj => ?_)
        by_cases e : j = d
        · subst e
          exact hR i j i1 i2 d1 (by omega) (h i q1) (by rw [h4] at q2; exact q2)
        · exact h j (fun z => hj (by show up2 (ma σ) 5 d 1 5 j = 0; rw [up2_a _ _ _ _ e]; exact z))
theorem C_mono {j : Nat} : ∀ (k i : Nat) (σ : MS), sn σ j → sn (ldC k i σ) j
  | 0, _, _, h => h
  | k + 1, i, σ, h => C_mono k (i + 1) _ (D_mono 20 1 σ h)
theorem C_hit {c e : Nat} (hc : c ≤ 20) (he1 : 1 ≤ e) (he : e ≤ 20) : ∀ (k i : Nat) (σ : MS), sn σ c → ld σ c e → i ≤ c → c < i + k → sn (ldC k i σ) e
  | 0, i, σ, _, _, h1, h2 => by omega
  | k + 1, i, σ, hs, hl, h1, h2 => by
    unfold ldC
    by_cases q : c = i
    · subst q
      exact C_mono k (c + 1) _ (D_hit hc he 20 1 σ hs hl he1 (by omega))
    · refine C_hit hc he1 he k (i + 1) _ (D_mono 20 1 σ hs) ?_ (by omega) (by omega)
      show ¬ ma (ldD i 20 1 σ) 4 _ = 0
      rw [(eq5_D 20 1 σ).2.2 4 (by decide)]
      exact hl
theorem C_sound {σ0 : MS} {R : Nat → Prop} (hR : ∀ c d, 1 ≤ c → c ≤ 20 → 1 ≤ d → d ≤ 20 → R c → ld σ0 c d → R d) : ∀ (k i : Nat) (σ : MS), ma σ 4 = ma σ0 4 → 1 ≤ i → i + k ≤ 21 → (∀ j, sn σ j → R j) → ∀ j, sn (ldC k i σ) j → R j
  | 0, _, _, _, _, _, h => h
  | k + 1, i, σ, h4, i1, i2, h => C_sound hR k (i + 1) _ (((eq5_D 20 1 σ).2.2 4 (by decide)).trans h4) (by omega) (by omega) (D_sound hR i1 (by omega) 20 1 σ h4 (by decide) (by decide) h)
theorem T_sound {σ0 : MS} {R : Nat → Prop} (hR : ∀ c d, 1 ≤ c → c ≤ 20 → 1 ≤ d → d ≤ 20 → R c → ld σ0 c d → R d) : ∀ (k i : Nat) (σ : MS), ma σ 4 = ma σ0 4 → (∀ j, sn σ j → R j) → ∀ j, sn (ldT k i σ) j → R j
  | 0, _, _, _, h => h
  | k + 1, i, σ, h4, h => T_sound hR k (i + 1) _ (((eq5_C 20 1 σ).2.2 4 (by decide)).trans h4) (C_sound hR 20 1 σ h4 (by decide) (by decide) h)
theorem ldT_i : ∀ (k i j : Nat) (σ : MS), ldT k i σ = ldT k j σ
  | 0, _, _, _ => rfl
  | k + 1, i, j, σ => ldT_i k (i + 1) (j + 1) _
theorem ldT_end : ∀ (k i : Nat) (σ : MS), ldT (k + 1) i σ = ldC 20 1 (ldT k i σ)
  | 0, _, _ => rfl
  | k + 1, i, σ => ldT_end k (i + 1) (ldC 20 1 σ)
theorem T_mono {j : Nat} : ∀ (k i : Nat) (σ : MS), sn σ j → sn (ldT k i σ) j
  | 0, _, _, h => h
  | k + 1, i, σ, h => T_mono k (i + 1) _ (C_mono 20 1 σ h)
theorem T_up {j : Nat} {σ : MS} {k : Nat} (h : sn (ldT k 0 σ) j) : ∀ d, sn (ldT (k + d) 0 σ) j
  | 0 => h
  | d + 1 => by
    rw [show k + (d + 1) = k + d + 1 by omega, ldT_end]
    exact C_mono 20 1 _ (T_up h d)
theorem T_reach {n : Nat} {σ : MS} {T : Nat → Nat → Bool} (hT : Tr n σ T) (hn : n ≤ 20) {a : Nat} {σ1 : MS} (h4 : ma σ1 4 = ma σ 4) (ha : sn σ1 a) (a1 : 1 ≤ a) (a2 : a ≤ 20) : ∀ (m b : Nat), (b = a ∨ T a b = true) → rkT n T a - rkT n T b ≤ m → sn (ldT m 0 σ1) b
  | 0, b, hb, hm => by
    rcases hb with e | e
    · rw [e]; exact ha
    · have := rkT_lt hT e
      omega
  | m + 1, b, hb, hm => by
    rcases hb with e | e
    · rw [e]; exact T_mono _ _ _ ha
    · have hin := hT.1 a b e
      rw [ldT_end]
      have e4 : ma (ldT m 0 σ1) 4 = ma σ 4 := ((eq5_T m 0 σ1).2.2 4 (by decide)).trans h4
      have key : ∀ d, (d = a ∨ T a d = true) → 1 ≤ d → d ≤ 20 → rkT n T a - rkT n T d ≤ m → ld σ d b → sn (ldC 20 1 (ldT m 0 σ1)) b := fun d hd d1 d2 hdm hl => C_hit d2 hin.2.1 (by omega) 20 1 _ (T_reach hT hn h4 ha a1 a2 m d hd hdm) (by show ¬ ma (ldT m 0 σ1) 4 _ = 0; rw [e4]; exact hl) d1 (by omega)
      rcases hT.2.2.2.1 a b e with hl | ⟨d, hd, hl⟩
      · exact key a (Or.inl rfl) a1 a2 (by omega) hl
      · have hin2 := hT.1 a d hd
        have hdb := hT.2.1 d b hin2.2.1 (by omega) hin.2.1 (by omega) hl
        have h1 := rkT_lt hT hdb
        have h2 := rkT_lt hT hd
        exact key d (Or.inr hd) hin2.2.1 (by omega) (by omega) hl
theorem I_at {a0 : Int32} : ∀ (k i : Nat) (σ : MS) (j : Nat), i + k < 1000 → ma (ldI a0 k i σ) 5 j = if i ≤ j ∧ j < i + k then (if nI j = a0 then 1 else 0) else ma σ 5 j
  | 0, i, σ, j, _ => by rw [if_neg (by omega)]; rfl
  | k + 1, i, σ, j, hk => by
    unfold ldI
    rw [nI_clamp (by omega), I_at k (i + 1) _ j (by omega)]
    by_cases q : i + 1 ≤ j ∧ j < i + 1 + k
    · rw [if_pos q, if_pos (show i ≤ j ∧ j < i + (k + 1) by omega)]
    · rw [if_neg q]
      by_cases e : j = i
      · subst e
        rw [if_pos (show j ≤ j ∧ j < j + (k + 1) by omega)]
        by_cases e2 : nI j = a0
        · rw [if_pos e2, if_pos e2]; exact ra_s
        · rw [if_neg e2, if_neg e2]; exact ra_s
      · rw [if_neg (show ¬ (i ≤ j ∧ j < i + (k + 1)) by omega)]
        split <;> exact ra_n e
/-- what the model finds is what the marks say -/
theorem leads_eq {n : Nat} {σ : MS} {T : Nat → Nat → Bool} (hT : Tr n σ T) (hn : n ≤ 20) {a b : Nat} (a1 : 1 ≤ a) (a2 : a ≤ n) (b2 : b ≤ 20) : MleadsTo_R σ (nI a) (nI b) = 0 ↔ ¬ (b = a ∨ T a b = true) := by
  have h4 : ma (ldI (nI a) 21 0 σ) 4 = ma σ 4 := (eq5_I 21 0 σ).2.2 4 (by decide)
  unfold MleadsTo_R MleadsTo_S
  rw [nI_clamp (by omega)]
  have hI := fun j => I_at (a0 := nI a) 21 0 σ j (by decide)
  have hia : sn (ldI (nI a) 21 0 σ) a := by
    show ¬ ma (ldI (nI a) 21 0 σ) 5 a = 0
    rw [hI, if_pos (by omega), if_pos rfl]
    decide
  constructor
  · intro h q
    have := T_reach hT hn h4 hia a1 (by omega) (rkT n T a) b q (by omega)
    have hr := rkT_20 hT hn a1 a2
    have := T_up this (20 - rkT n T a)
    rw [show rkT n T a + (20 - rkT n T a) = 20 by omega] at this
    exact this h
  · intro q
    refine Classical.byContradiction fun h => q ?_
    have hR : ∀ c d, 1 ≤ c → c ≤ 20 → 1 ≤ d → d ≤ 20 → (20 < c ∨ c = a ∨ T a c = true) → ld σ c d → (20 < d ∨ d = a ∨ T a d = true) := fun c d c1 c2 d1 d2 hc hl => by
      have hcd := hT.2.1 c d c1 c2 d1 d2 hl
      rcases hc with hc | hc | hc
      · omega
      · rw [hc] at hcd; exact Or.inr (Or.inr hcd)
      · exact Or.inr (Or.inr (hT.2.2.1 a c d hc hcd))
    have := T_sound hR 20 0 _ h4 (fun j hj => by
      by_cases e : j < 21
      · refine Or.inr (Or.inl ?_)
        have hj : ¬ ma (ldI (nI a) 21 0 σ) 5 j = 0 := hj
        rw [hI, if_pos (by omega)] at hj
        refine Classical.byContradiction fun z => hj (if_neg (fun w => z (nI_inj (by omega) (by omega) w)))
      · exact Or.inl (by omega)) b h
    rcases this with z | z
    · omega
    · exact z
