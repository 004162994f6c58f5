-- COUNTER AS A CALL; APPENDING
theorem RO_shz {M : AM} {x : Nat} {T : Nat → Nat → Bool} {n kt h0 t0 : Nat} {S : HS} {σ : MS} (h : RO M x T n kt h0 t0 S σ) : RO M x T (n + 1) kt h0 t0 (shz S (hz S + 1) (tz S + 6)) σ := by
  obtain ⟨⟨⟨hI, hR, hc, ha, ht, hn, hk⟩, hw⟩, r2, r3, r4, r5, r6⟩ := h
  obtain ⟨⟨o1, o2⟩, i2⟩ := hI
  refine ⟨⟨⟨⟨⟨o1, fun a ha => ?_⟩, i2⟩, hR, hc, ha, ht, hn, hk⟩, hw⟩, r2, r3, r4, MI_n r5, ?_, ?_⟩
  · have := o2 a ha
    show a < hz S + 1
    omega
  · have := r6.1
    show hz S + 1 + phi S x ≤ _
    omega
  · have := r6.2
    show tz S + 6 + psi S x ≤ _
    omega
theorem o_cnt {M : AM} {x : Nat} {T : Nat → Nat → Bool} {n kt h0 t0 : Nat} {S : HS} {σ : MS} (h : RO M x T n kt h0 t0 S σ) (b k : Int64) (hnz : ¬ b < (0 : Int64) → ¬ (1000000000 : Int64) < b → ¬ k < (1 : Int64) → ¬ (1000 : Int64) < k → fi S 10 x < (20 : Int32) → ¬ b = (0 : Int64)) : counter_R S x b k = Mcounter_R σ b k ∧ mi (Mcounter_S σ b k) 14 = 0 ∧ ∃ M', RO M' x T (n + 1) kt h0 t0 (counter_S S x b k) (Mcounter_S σ b k) := by
  have h14 : RO M x T n kt h0 t0 S (smi σ 14 0) := RO_m h eqm_14
  have hO := h.2.2.2.2.1.1.1
  obtain ⟨e15, b15⟩ := cnt_eq (N := 20) hO.1 (by decide)
  have e10 : fi S 10 x = mi σ 15 := h.2.1.1.1
  have c14 : mi (smi σ 14 0) 14 = 0 := ri_s
  unfold counter_R Mcounter_R counter_S Mcounter_S
  by_cases q1 : b < (0 : Int64)
  · repeat rw [if_pos q1]
    exact ⟨rfl, c14, M, RO_n h14⟩
  · repeat rw [if_neg q1]
    by_cases q2 : (1000000000 : Int64) < b
    · repeat rw [if_pos q2]
      exact ⟨rfl, c14, M, RO_n h14⟩
    · repeat rw [if_neg q2]
      by_cases q3 : k < (1 : Int64)
      · repeat rw [if_pos q3]
        exact ⟨rfl, c14, M, RO_n h14⟩
      · repeat rw [if_neg q3]
        by_cases q4 : (1000 : Int64) < k
        · repeat rw [if_pos q4]
          exact ⟨rfl, c14, M, RO_n h14⟩
        · repeat rw [if_neg q4]
          by_cases q5 : mi σ 15 = (20 : Int32)
          · have q5' : ¬ fi S 10 x < (20 : Int32) := by rw [e10, q5]; decide
            repeat rw [if_pos q5]
            repeat rw [if_neg q5']
            exact ⟨rfl, c14, M, RO_n h14⟩
          · have hlt : nC σ < 20 := by
              rcases Nat.lt_or_ge (nC σ) 20 with z | z
              · exact z
              · exact absurd (by rw [e15, show (mi σ 15).toNatClampNeg = 20 from (show nC σ = 20 by have : nC σ ≤ 20 := b15; omega)]; rfl) q5
            have q5' : fi S 10 x < (20 : Int32) := by
              rw [e10, e15, show (20 : Int32) = nI 20 from rfl]
              exact (nI_ltI (show (mi σ 15).toNatClampNeg < 2 ^ 31 by have : (mi σ 15).toNatClampNeg ≤ 20 := b15; omega) (by decide)).mpr hlt
            have q6 := hnz q1 q2 q3 q4 q5'
            repeat rw [if_neg q5]
            repeat rw [if_pos q5']
            repeat rw [if_neg q6]
            have hτ : RO M x T n kt h0 t0 S (smi (smi σ 14 0) 14 0) := RO_m h14 eqm_14
            have t14 : mi (smi (smi σ 14 0) 14 0) 14 = 0 := ri_s
            have t15 : mi σ 15 = mi (smi (smi σ 14 0) 14 0) 15 := rfl
            rw [e10, t15]
            have hltτ : nC (smi (smi σ 14 0) 14 0) < 20 := hlt
            generalize smi (smi σ 14 0) 14 0 = τ at hτ t14 hltτ
            have e15τ : mi τ 15 = nI (nC τ) := (cnt_eq (N := 20) hτ.2.2.2.2.1.1.1.1 (by decide)).1
            have ev : mi τ 15 + 1 = nI (nC τ + 1) := by rw [e15τ]; exact nI_1 _
            have ec : (mi τ 15 + 1).toNatClampNeg = nC τ + 1 := by rw [ev, nI_clamp (by omega)]
            rw [ec]
            rw [Int64.lt_iff_toInt_lt] at q1 q2 q3 q4
            have z0 : (0 : Int64).toInt = 0 := rfl
            have z1 : (1 : Int64).toInt = 1 := rfl
            have z2 : (1000000000 : Int64).toInt = 1000000000 := rfl
            have z3 : (1000 : Int64).toInt = 1000 := rfl
            have hb0 : b.toInt ≠ 0 := fun z => q6 (Int64.toInt_inj.mp (z.trans z0.symm))
            have := RO_counter hτ hltτ (b := b) (k := k) (by omega) (by omega)
            refine ⟨rfl, ?_, upC M (nC τ + 1) (hz S), ?_⟩
            · exact ri_l.trans (ri_l.trans ((ri_i (by decide)).trans t14))
            · have e2 : nwC S (gd (fr S 18 x)) x (nC τ) b k = sfi (sar (Counter_init_S (newQ S (hz S) 3) (hz S) (mi τ 15 + 1) b k) (gd (fr S 18 x)) (mi τ 15).toNatClampNeg (some (hz S))) 10 x (mi τ 15 + 1) := by
                unfold nwC
                rw [ev]
              rw [← e2]
              exact this
theorem o_cntX {M : AM} {x : Nat} {T : Nat → Nat → Bool} {n kt h0 t0 : Nat} {S : HS} {σ : MS} (h : RO M x T n kt h0 t0 S σ) {b k : Int64} (q1 : ¬ b < (0 : Int64)) (q2 : ¬ (1000000000 : Int64) < b) (q3 : ¬ k < (1 : Int64)) (q4 : ¬ (1000 : Int64) < k) (q5 : fi S 10 x < (20 : Int32)) (q6 : b = (0 : Int64)) : mi (Mcounter_S σ b k) 14 = 1 ∧ RO M x T (n + 1) kt h0 t0 (shz S (hz S + 1) (tz S + 6)) (Mcounter_S σ b k) := by
  have e10 : fi S 10 x = mi σ 15 := h.2.1.1.1
  have q5' : ¬ mi σ 15 = (20 : Int32) := fun z => by rw [e10, z] at q5; exact absurd q5 (by decide)
  unfold Mcounter_S
  rw [if_neg q1, if_neg q2, if_neg q3, if_neg q4, if_neg q5', if_pos q6]
  exact ⟨ri_s, RO_shz (RO_m (RO_m h eqm_14) eqm_14)⟩
/-- one more behind the last -/
def apS (S : HS) (f0 l0 b0 t a : Nat) : HS := opc (fr S l0 t) (sfr (sfr S f0 t (some a)) l0 t (some a)) (fun b => sfr (sfr S b0 b (some a)) l0 t (some a))
theorem ap_alarm {S : HS} {t a : Nat} : appendAlarm_S S t a = apS S 5 6 4 t a := rfl
theorem ap_table {S : HS} {t a : Nat} : appendTable_S S t a = apS S 7 8 17 t a := rfl
theorem apS_eq {S : HS} {f0 l0 b0 t a : Nat} : kd (apS S f0 l0 b0 t a) = kd S ∧ fi (apS S f0 l0 b0 t a) = fi S ∧ fl (apS S f0 l0 b0 t a) = fl S ∧ an (apS S f0 l0 b0 t a) = an S ∧ ai (apS S f0 l0 b0 t a) = ai S ∧ ar (apS S f0 l0 b0 t a) = ar S ∧ hz (apS S f0 l0 b0 t a) = hz S ∧ tz (apS S f0 l0 b0 t a) = tz S ∧ hL (apS S f0 l0 b0 t a) = hL S := by
  unfold apS
  cases fr S l0 t with
  | none => exact ⟨rfl, rfl, rfl, rfl, rfl, rfl, rfl, rfl, rfl⟩
  | some b => exact ⟨rfl, rfl, rfl, rfl, rfl, rfl, rfl, rfl, rfl⟩
theorem apS_l {S : HS} {f0 l0 b0 t a : Nat} : fr (apS S f0 l0 b0 t a) l0 t = some a := by
  unfold apS
  cases fr S l0 t with
  | none => exact up2_self _ _ _ _
  | some b => exact up2_self _ _ _ _
theorem apS_o {S : HS} {f0 l0 b0 t a j z : Nat} (h1 : ¬ (j = l0 ∧ z = t)) (h2 : ¬ (j = f0 ∧ z = t)) (h3 : ∀ b, fr S l0 t = some b → ¬ (j = b0 ∧ z = b)) : fr (apS S f0 l0 b0 t a) j z = fr S j z := by
  unfold apS
  cases e : fr S l0 t with
  | none =>
    show up2 (up2 (fr S) f0 t (some a)) l0 t (some a) j z = _
    unfold up2
    rw [if_neg h1, if_neg h2]
  | some b =>
    show up2 (up2 (fr S) b0 b (some a)) l0 t (some a) j z = _
    unfold up2
    rw [if_neg h1, if_neg (h3 b e)]
theorem apS_k {S : HS} {f0 l0 b0 t a j z : Nat} (h1 : j ≠ l0) (h2 : j ≠ f0) (h3 : j ≠ b0) : fr (apS S f0 l0 b0 t a) j z = fr S j z := apS_o (fun q => h1 q.1) (fun q => h2 q.1) (fun _ _ q => h3 q.1)
theorem apS_ok {S : HS} {f0 l0 b0 t a : Nat} (h : hOk S) (h1 : kd S a = rT f0) (h2 : kd S a = rT l0) (h3 : kd S a = rT b0) : hOk (apS S f0 l0 b0 t a) := by
  unfold apS
  cases fr S l0 t with
  | none =>
    have := h.sfr f0 t (some a) (fun b hb => by cases hb; exact h1)
    exact this.sfr l0 t (some a) (fun b hb => by cases hb; exact h2)
  | some c =>
    have := h.sfr b0 c (some a) (fun b hb => by cases hb; exact h3)
    exact this.sfr l0 t (some a) (fun b hb => by cases hb; exact h2)
theorem nn_apS {S : HS} {f0 l0 b0 t a : Nat} (h : nn S) : nn (apS S f0 l0 b0 t a) := by
  unfold apS
  exact opc_P (P := nn) (fun _ => nn_sfr (nn_sfr h (Or.inr ⟨a, rfl⟩)) (Or.inr ⟨a, rfl⟩)) (fun _ _ => nn_sfr (nn_sfr h (Or.inr ⟨a, rfl⟩)) (Or.inr ⟨a, rfl⟩))
theorem ch_ap {S : HS} {f0 l0 b0 t q : Nat} {xs : List Nat} (n1 : b0 ≠ f0) (n2 : b0 ≠ l0) (n3 : f0 ≠ l0) (h : chn (fr S b0) (fr S f0 t) xs) (hl : fr S l0 t = lsO xs) (nd : xs.Nodup) (hq : fr S b0 q = none) (qn : q ∉ xs) : chn (fr (apS S f0 l0 b0 t q) b0) (fr (apS S f0 l0 b0 t q) f0 t) (xs ++ [q]) ∧ fr (apS S f0 l0 b0 t q) l0 t = lsO (xs ++ [q]) := by
  refine ⟨?_, by rw [lsO_end, apS_l]⟩
  cases hx : lsO xs with
  | none =>
    have := lsO_none xs hx
    subst this
    have e1 : fr (apS S f0 l0 b0 t q) f0 t = some q := by
      rw [hx] at hl
      have : apS S f0 l0 b0 t q = sfr (sfr S f0 t (some q)) l0 t (some q) := op_none hl
      rw [this]
      show up2 (up2 (fr S) f0 t (some q)) l0 t (some q) f0 t = some q
      rw [up2_k _ _ _ _ n3, up2_self]
    have e2 : fr (apS S f0 l0 b0 t q) b0 q = none := (apS_o (fun z => n2 z.1) (fun z => n1 z.1) (fun b hb => by rw [hl, hx] at hb; cases hb)).trans hq
    exact ⟨e1, e2⟩
  | some y =>
    obtain ⟨ys, rfl⟩ := lsO_mem xs y hx
    rw [hx] at hl
    have nd' := List.nodup_append.mp nd
    have hny : ∀ z ∈ ys, z ≠ y := fun z hz' e => nd'.2.2 z hz' y (List.mem_singleton.mpr rfl) e
    have qy : q ≠ y := fun e => qn (List.mem_append.mpr (Or.inr (List.mem_singleton.mpr e)))
    have e0 : fr (apS S f0 l0 b0 t q) f0 t = fr S f0 t := by
      have : apS S f0 l0 b0 t q = sfr (sfr S b0 y (some q)) l0 t (some q) := op_some hl
      rw [this]
      show up2 (up2 (fr S) b0 y (some q)) l0 t (some q) f0 t = _
      rw [up2_k _ _ _ _ n3, up2_k _ _ _ _ (fun z => n1 z.symm)]
    have ey : fr (apS S f0 l0 b0 t q) b0 y = some q := by
      have : apS S f0 l0 b0 t q = sfr (sfr S b0 y (some q)) l0 t (some q) := op_some hl
      rw [this]
      show up2 (up2 (fr S) b0 y (some q)) l0 t (some q) b0 y = _
      rw [up2_k _ _ _ _ n2, up2_self]
    have eo : ∀ z, z ≠ y → fr (apS S f0 l0 b0 t q) b0 z = fr S b0 z := fun z hz' => apS_o (fun w => n2 w.1) (fun w => n1 w.1) (fun b hb w => by rw [hl] at hb; cases hb; exact hz' w.2)
    have := chn_snoc (f := fr S b0) (g := fr (apS S f0 l0 b0 t q) b0) (y := y) (q := q) ((eo q qy).trans hq) ey ys (fr S f0 t) h (fun z hz' => eo z (hny z hz'))
    rw [e0, List.append_assoc]
    exact this
theorem ch_ap_ne {S : HS} {f0 l0 b0 t t' q : Nat} {xs ys : List Nat} (n1 : b0 ≠ f0) (n2 : b0 ≠ l0) (n3 : f0 ≠ l0) (hl : fr S l0 t = lsO xs) (ht : t' ≠ t) (h : chn (fr S b0) (fr S f0 t') ys) (hd : ∀ z ∈ ys, z ∉ xs) : chn (fr (apS S f0 l0 b0 t q) b0) (fr (apS S f0 l0 b0 t q) f0 t') ys ∧ fr (apS S f0 l0 b0 t q) l0 t' = fr S l0 t' := by
  refine ⟨?_, apS_o (fun w => ht w.2) (fun w => ht w.2) (fun b hb w => n2 w.1.symm)⟩
  rw [apS_o (fun w => ht w.2) (fun w => ht w.2) (fun b hb w => n1 w.1.symm)]
  refine chn_congr _ _ (fun z hz' => ?_) h
  refine (apS_o (fun w => n2 w.1) (fun w => n1 w.1) (fun b hb w => ?_)).symm
  rw [hl] at hb
  obtain ⟨zs, e⟩ := lsO_mem xs b hb
  exact hd z hz' (by rw [e, w.2]; exact List.mem_append.mpr (Or.inr (List.mem_singleton.mpr rfl)))
theorem aLs_nd {M : AM} {σ : MS} {c : Nat} : ∀ (k a : Nat), (∀ i j, a ≤ i → i < a + k → a ≤ j → j < a + k → aA M i = aA M j → i = j) → (aLs M σ c k a).Nodup
  | 0, _, _ => List.nodup_nil
  | k + 1, a, h => by
    have ih := aLs_nd (M := M) (σ := σ) (c := c) k (a + 1) (fun i j h1 h2 h3 h4 => h i j (by omega) (by omega) (by omega) (by omega))
    unfold aLs
    split
    · refine List.nodup_cons.mpr ⟨fun z => ?_, ih⟩
      obtain ⟨b, b1, b2, b3, -⟩ := aLs_mem _ _ _ z
      have := h a b (Nat.le_refl _) (by omega) (by omega) (by omega) b3
      omega
    · exact ih
theorem tLs_nd {M : AM} {σ : MS} {c : Nat} : ∀ (k a : Nat), (∀ i j, a ≤ i → i < a + k → a ≤ j → j < a + k → tA M i = tA M j → i = j) → (tLs M σ c k a).Nodup
  | 0, _, _ => List.nodup_nil
  | k + 1, a, h => by
    have ih := tLs_nd (M := M) (σ := σ) (c := c) k (a + 1) (fun i j h1 h2 h3 h4 => h i j (by omega) (by omega) (by omega) (by omega))
    unfold tLs
    split
    · refine List.nodup_cons.mpr ⟨fun z => ?_, ih⟩
      obtain ⟨b, b1, b2, b3, -⟩ := tLs_mem _ _ _ z
      have := h a b (Nat.le_refl _) (by omega) (by omega) (by omega) b3
      omega
    · exact ih
