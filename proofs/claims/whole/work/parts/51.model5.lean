def ldI (a0 : Int32) : Nat → Nat → MS → MS
  | 0, _, σ => σ
  | k + 1, i, σ => ldI a0 k (i + 1) (if nI i = a0 then sma σ 5 (nI i).toNatClampNeg (1 : Int32) else sma σ 5 (nI i).toNatClampNeg (0 : Int32))
def ldD (i : Nat) : Nat → Nat → MS → MS
  | 0, _, σ => σ
  | k + 1, d, σ => ldD i k (d + 1) (if ma σ 5 (nI i).toNatClampNeg = 0 then σ else if ma σ 4 (((21 : Int32) * (nI i)) + (nI d)).toNatClampNeg = 0 then σ else sma σ 5 (nI d).toNatClampNeg (1 : Int32))
def ldC : Nat → Nat → MS → MS
  | 0, _, σ => σ
  | k + 1, i, σ => ldC k (i + 1) (ldD i 20 1 σ)
def ldT : Nat → Nat → MS → MS
  | 0, _, σ => σ
  | k + 1, i, σ => ldT k (i + 1) (ldC 20 1 σ)
def MleadsTo_S (σ : MS) (a0 b0 : Int32) : MS := ldT 20 0 (ldI a0 21 0 σ)
def MleadsTo_R (σ : MS) (a0 b0 : Int32) : Int32 := ma (MleadsTo_S σ a0 b0) 5 b0.toNatClampNeg
/-- equal but for seen -/
def eq5 (σ σ' : MS) : Prop := mi σ' = mi σ ∧ ml σ' = ml σ ∧ ∀ j, j ≠ 5 → ma σ' j = ma σ j
theorem eq5.rf (σ : MS) : eq5 σ σ := ⟨rfl, rfl, fun _ _ => rfl⟩
theorem eq5.tr {σ σ' σ'' : MS} (h : eq5 σ σ') (h' : eq5 σ' σ'') : eq5 σ σ'' := ⟨h'.1.trans h.1, h'.2.1.trans h.2.1, fun j hj => (h'.2.2 j hj).trans (h.2.2 j hj)⟩
theorem eq5_w {σ : MS} {i : Nat} {v : Int32} : eq5 σ (sma σ 5 i v) := ⟨rfl, rfl, fun _ hj => funext fun _ => up2_k _ _ _ _ hj⟩
theorem eq5_I {a0 : Int32} : ∀ (k i : Nat) (σ : MS), eq5 σ (ldI a0 k i σ)
  | 0, _, σ => eq5.rf σ
  | k + 1, i, σ => by
    unfold ldI
    refine eq5.tr ?_ (eq5_I k (i + 1) _)
    split <;> exact eq5_w
theorem eq5_D {c : Nat} : ∀ (k i : Nat) (σ : MS), eq5 σ (ldD c k i σ)
  | 0, _, σ => eq5.rf σ
  | k + 1, i, σ => by
    unfold ldD
    refine eq5.tr ?_ (eq5_D k (i + 1) _)
    split
    · exact eq5.rf σ
    · split
      · exact eq5.rf σ
      · exact eq5_w
theorem eq5_C : ∀ (k i : Nat) (σ : MS), eq5 σ (ldC k i σ)
  | 0, _, σ => eq5.rf σ
  | k + 1, i, σ => by unfold ldC; exact (eq5_D 20 1 σ).tr (eq5_C k (i + 1) _)
theorem eq5_T : ∀ (k i : Nat) (σ : MS), eq5 σ (ldT k i σ)
  | 0, _, σ => eq5.rf σ
  | k + 1, i, σ => by unfold ldT; exact (eq5_C 20 1 σ).tr (eq5_T k (i + 1) _)
theorem eq5_L {σ : MS} {a0 b0 : Int32} : eq5 σ (MleadsTo_S σ a0 b0) := (eq5_I 21 0 σ).tr (eq5_T 20 0 _)
theorem mOk_5 {σ σ' : MS} (e : eq5 σ σ') (h : mOk σ) : mOk σ' := by
  obtain ⟨e1, e2, e3⟩ := e
  unfold mOk
  rw [e1, e3 6 (by decide), e3 8 (by decide), e3 12 (by decide), e3 14 (by decide), e3 16 (by decide), e3 17 (by decide), e3 21 (by decide), e3 26 (by decide), e3 27 (by decide)]
  exact h
theorem mOk_leadsTo {σ : MS} {a0 b0 : Int32} (h : mOk σ) : mOk (MleadsTo_S σ a0 b0) := mOk_5 eq5_L h
/-- seen holds 0 and 1 -/
def sB (n : Nat) (σ : MS) : Prop := ∀ i, i < n → ma σ 5 i = 0 ∨ ma σ 5 i = 1
theorem sB_w {n i : Nat} {σ : MS} {v : Int32} (h : sB n σ) (hv : v = 0 ∨ v = 1) : sB n (sma σ 5 i v) := fun q hq => by
  show up2 (ma σ) 5 i v 5 q = 0 ∨ up2 (ma σ) 5 i v 5 q = 1
  by_cases e : q = i
  · subst e; rw [up2_self]; exact hv
  · rw [up2_a _ _ _ _ e]; exact h q hq
theorem sB_I {a0 : Int32} : ∀ (k i : Nat) (σ : MS), i + k < 1000 → sB i σ → sB (i + k) (ldI a0 k i σ)
  | 0, _, _, _, h => h
  | k + 1, i, σ, hk, h => by
    unfold ldI
    rw [show i + (k + 1) = i + 1 + k by omega]
    refine sB_I k (i + 1) _ (by omega) ?_
    have key : ∀ v : Int32, (v = 0 ∨ v = 1) → sB (i + 1) (sma σ 5 (nI i).toNatClampNeg v) := fun v hv q hq => by
      show up2 (ma σ) 5 _ v 5 q = 0 ∨ up2 (ma σ) 5 _ v 5 q = 1
      rw [nI_clamp (by omega)]
      by_cases e : q = i
      · subst e; rw [up2_self]; exact hv
      · rw [up2_a _ _ _ _ e]; exact h q (by omega)
    split
    · exact key 1 (Or.inr rfl)
    · exact key 0 (Or.inl rfl)
theorem sB_D {c n : Nat} : ∀ (k i : Nat) (σ : MS), sB n σ → sB n (ldD c k i σ)
  | 0, _, _, h => h
  | k + 1, i, σ, h => by
    unfold ldD
    refine sB_D k (i + 1) _ ?_
    split
    · exact h
    · split
      · exact h
      · exact sB_w h (Or.inr rfl)
theorem sB_C {n : Nat} : ∀ (k i : Nat) (σ : MS), sB n σ → sB n (ldC k i σ)
  | 0, _, _, h => h
  | k + 1, i, σ, h => by unfold ldC; exact sB_C k (i + 1) _ (sB_D 20 1 σ h)
theorem sB_T {n : Nat} : ∀ (k i : Nat) (σ : MS), sB n σ → sB n (ldT k i σ)
  | 0, _, _, h => h
  | k + 1, i, σ, h => by unfold ldT; exact sB_T k (i + 1) _ (sB_C 20 1 σ h)
theorem sB_L {σ : MS} {a0 b0 : Int32} : sB 21 (MleadsTo_S σ a0 b0) := sB_T 20 0 _ (sB_I 21 0 σ (by decide) (fun _ h => absurd h (Nat.not_lt_zero _)))
theorem MleadsTo_z {σ : MS} {a0 b0 : Int32} (h : rg 0 20 b0) : narrow .boolean (.int (MleadsTo_R σ a0 b0)) = .int (MleadsTo_R σ a0 b0) := by
  have h1 := rg_cl (hi := 20) h (by decide)
  have h2 : MleadsTo_R σ a0 b0 = 0 ∨ MleadsTo_R σ a0 b0 = 1 := sB_L _ (by have := h1.2; omega)
  rcases h2 with e | e <;> rw [e] <;> rfl
theorem lt_n {i k N : Nat} (hN : N < 1000) (hk : i + (k + 1) = N) : ¬ nI N ≤ nI i := by
  rw [nI_leI (by omega) (by omega)]
  omega
theorem le_n {i k N : Nat} (hN : N < 1000) (hk : i + k = N) (h0 : k = 0) : nI N ≤ nI i := by
  rw [nI_leI (by omega) (by omega)]
  omega
theorem rg_nI0 {a N : Nat} (h2 : a ≤ N) (h3 : N < 2 ^ 31) : rg 0 N (nI a) := by
  unfold rg
  rw [nI_toInt (by omega)]
  omega

set_option maxRecDepth 20000 in
set_option maxHeartbeats 2000000 in
theorem c_MleadsTo (l : Launch) (D : va_G) (AC : Nat → ClassId) (o z tt : Nat) (σ : MS) (a0 : Int32) (b0 : Int32) (hb0 : rg 0 20 b0) : CtI l yMod_leadsTo (Cond.code yMod_leadsTo cMod_leadsTo 6 (some .boolean) :: wT) 0 0 D AC (hsM o z tt σ) [.ref o, .int a0, .int b0] 0 0 (fun r S' => r = MleadsTo_R σ a0 b0 ∧ S' = hsM o z tt (MleadsTo_S σ a0 b0)) := by
  refine met_of (by decide) (Nat.le_of_ble_eq_true rfl) ?_
  intro p e s m below meth c ls hsz X hW hl
  obtain ⟨hx, hb, hml, hr, hlk, hown, hnm, hts⟩ := X
  have hl : lv_has ls 6 [(0, .ref o), (1, .int a0), (2, .int b0)] := hl
  have L1 : ∀ (k i : Nat) (σ1 : MS), i + k = 21 → (∀ H locs ls, Wd D AC (AS (hL (hsM o z tt σ)) s.heap.size) s s.heap H locs (hsM o z tt (ldI a0 k i σ1)) → lv_has ls 6 [(0, .ref o), (1, .int a0), (2, .int b0)] → W p l e (rmOf 0 0 0 0) s m ([.ref o, .int a0, .int b0] : List Value).toArray below meth c H locs 0 0 (MQ below (va_Qi (fun r S' => r = MleadsTo_R σ a0 b0 ∧ S' = hsM o z tt (MleadsTo_S σ a0 b0)) (CB D AC (hsM o z tt σ)) (AS (hL (hsM o z tt σ)) (hz (hsM o z tt σ)))) ([.ref o, .int a0, .int b0] : List Value).toArray s 0 0 (AS (hL (hsM o z tt σ)) (hz (hsM o z tt σ)))) (F0 m 30 ls [])) → ∀ H locs ls, Wd D AC (AS (hL (hsM o z tt σ)) s.heap.size) s s.heap H locs (hsM o z tt σ1) → lv_has ls 6 [(0, .ref o), (1, .int a0), (2, .int b0), (3, .int (nI i))] → W p l e (rmOf 0 0 0 0) s m ([.ref o, .int a0, .int b0] : List Value).toArray below meth c H locs 0 0 (MQ below (va_Qi (fun r S' => r = MleadsTo_R σ a0 b0 ∧ S' = hsM o z tt (MleadsTo_S σ a0 b0)) (CB D AC (hsM o z tt σ)) (AS (hL (hsM o z tt σ)) (hz (hsM o z tt σ)))) ([.ref o, .int a0, .int b0] : List Value).toArray s 0 0 (AS (hL (hsM o z tt σ)) (hz (hsM o z tt σ)))) (F0 m 2 ls []) := by
    intro k
    induction k with
    | zero =>
      intro i σ1 hk kk H locs ls hW hl
      refine lv_iload_n hx hb dMod_leadsTo_2 rfl (lv_at hl 3 rfl) ?_
      refine lv_bipush (v := (21 : Int32)) hx hb dMod_leadsTo_3 (by decide) ?_
      refine lv_icmp_ge (tgt := 30) hx hb dMod_leadsTo_5 (by decide) (fun c_1 => ?_) (fun c_1 => ?_)
      · exact kk H locs ls hW (lv_sub hl [0, 1, 2] rfl)
      · exact absurd (le_n (N := 21) (by decide) hk rfl) c_1
    | succ k ih =>
      intro i σ1 hk kk H locs ls hW hl
      have hna : rg 0 20 (nI i) := rg_nI0 (N := 20) (by omega) (by decide)
      refine lv_iload_n hx hb dMod_leadsTo_2 rfl (lv_at hl 3 rfl) ?_
      refine lv_bipush (v := (21 : Int32)) hx hb dMod_leadsTo_3 (by decide) ?_
      refine lv_icmp_ge (tgt := 30) hx hb dMod_leadsTo_5 (by decide) (fun c_1 => ?_) (fun c_1 => ?_)
      · exact absurd c_1 (lt_n (N := 21) (by decide) hk)
      · refine lv_aload_n hx hb dMod_leadsTo_8 rfl (lv_at hl 0 rfl) ?_
        refine mg_a FMod_26 5 ⟨rfl, by decide⟩ hx hb hts hown hW dMod_leadsTo_9 ?_
        refine lv_iload_n hx hb dMod_leadsTo_12 rfl (lv_at hl 3 rfl) ?_
        refine lv_iload_n hx hb dMod_leadsTo_13 rfl (lv_at hl 3 rfl) ?_
        refine lv_iload_n hx hb dMod_leadsTo_14 rfl (lv_at hl 1 rfl) ?_
        refine lv_icmp_ne (tgt := 22) hx hb dMod_leadsTo_15 (by decide) (fun c_2 => ?_) (fun c_2 => ?_)
        · refine lv_iconst (v := (0 : Int32)) hx hb dMod_leadsTo_22 (by decide) ?_
          refine m_zs (j := 5) (v := (0 : Int32)) ⟨by decide, rfl⟩ hx hb hW (rg.in hna (by decide) (by decide)) (by decide) dMod_leadsTo_23 (fun H locs hW => ?_)
          refine lv_iinc (v := ((nI i) + (1 : Int32))) (lv' := [(3, .int ((nI i) + (1 : Int32))), (0, .ref o), (1, .int a0), (2, .int b0)]) hx hb dMod_leadsTo_24 hl (k := 3) rfl rfl (by decide) rfl (fun ls hl => ?_)
          refine lv_goto (tgt := 2) hx hb dMod_leadsTo_27 (by decide) ?_
          exact ih (i + 1) (if nI i = a0 then sma σ1 5 (nI i).toNatClampNeg (1 : Int32) else sma σ1 5 (nI i).toNatClampNeg (0 : Int32)) (by omega) kk H locs ls (by rw [if_neg c_2]; exact hW) (by rw [← nI_1]; exact (lv_sub hl [1, 2, 3, 0] rfl))
        · refine lv_iconst (v := (1 : Int32)) hx hb dMod_leadsTo_18 (by decide) ?_
          refine lv_goto (tgt := 23) hx hb dMod_leadsTo_19 (by decide) ?_
          refine m_zs (j := 5) (v := (1 : Int32)) ⟨by decide, rfl⟩ hx hb hW (rg.in hna (by decide) (by decide)) (by decide) dMod_leadsTo_23 (fun H locs hW => ?_)
          refine lv_iinc (v := ((nI i) + (1 : Int32))) (lv' := [(3, .int ((nI i) + (1 : Int32))), (0, .ref o), (1, .int a0), (2, .int b0)]) hx hb dMod_leadsTo_24 hl (k := 3) rfl rfl (by decide) rfl (fun ls hl => ?_)
          refine lv_goto (tgt := 2) hx hb dMod_leadsTo_27 (by decide) ?_
          exact ih (i + 1) (if nI i = a0 then sma σ1 5 (nI i).toNatClampNeg (1 : Int32) else sma σ1 5 (nI i).toNatClampNeg (0 : Int32)) (by omega) kk H locs ls (by rw [if_pos c_2]; exact hW) (by rw [← nI_1]; exact (lv_sub hl [1, 2, 3, 0] rfl))
  have L3 : ∀ (tu : Int32) (cc0 : Nat) (_ : rg 1 20 (nI cc0)) (k i : Nat) (σ1 : MS), 1 ≤ i → i + k = 21 → (∀ H locs ls, Wd D AC (AS (hL (hsM o z tt σ)) s.heap.size) s s.heap H locs (hsM o z tt (ldD cc0 k i σ1)) → lv_has ls 6 [(0, .ref o), (1, .int a0), (2, .int b0), (3, .int tu), (4, .int (nI cc0))] → W p l e (rmOf 0 0 0 0) s m ([.ref o, .int a0, .int b0] : List Value).toArray below meth c H locs 0 0 (MQ below (va_Qi (fun r S' => r = MleadsTo_R σ a0 b0 ∧ S' = hsM o z tt (MleadsTo_S σ a0 b0)) (CB D AC (hsM o z tt σ)) (AS (hL (hsM o z tt σ)) (hz (hsM o z tt σ)))) ([.ref o, .int a0, .int b0] : List Value).toArray s 0 0 (AS (hL (hsM o z tt σ)) (hz (hsM o z tt σ)))) (F0 m 98 ls [])) → ∀ H locs ls, Wd D AC (AS (hL (hsM o z tt σ)) s.heap.size) s s.heap H locs (hsM o z tt σ1) → lv_has ls 6 [(0, .ref o), (1, .int a0), (2, .int b0), (3, .int tu), (4, .int (nI cc0)), (5, .int (nI i))] → W p l e (rmOf 0 0 0 0) s m ([.ref o, .int a0, .int b0] : List Value).toArray below meth c H locs 0 0 (MQ below (va_Qi (fun r S' => r = MleadsTo_R σ a0 b0 ∧ S' = hsM o z tt (MleadsTo_S σ a0 b0)) (CB D AC (hsM o z tt σ)) (AS (hL (hsM o z tt σ)) (hz (hsM o z tt σ)))) ([.ref o, .int a0, .int b0] : List Value).toArray s 0 0 (AS (hL (hsM o z tt σ)) (hz (hsM o z tt σ)))) (F0 m 51 ls []) := by
    intro tu cc0 hcc k
    induction k with
    | zero =>
      intro i σ1 hi1 hk kk H locs ls hW hl
      refine lv_iload hx hb dMod_leadsTo_51 (lv_at hl 5 rfl) ?_
      refine lv_bipush (v := (21 : Int32)) hx hb dMod_leadsTo_53 (by decide) ?_
      refine lv_icmp_ge (tgt := 98) hx hb dMod_leadsTo_55 (by decide) (fun c_1 => ?_) (fun c_1 => ?_)
      · exact kk H locs ls hW (lv_sub hl [0, 1, 2, 3, 4] rfl)
      · exact absurd (le_n (N := 21) (by decide) hk rfl) c_1
    | succ k ih =>
      intro i σ1 hi1 hk kk H locs ls hW hl
      have hna : rg 1 20 (nI i) := rg_nI (N := 20) hi1 (by omega) (by decide)
      refine lv_iload hx hb dMod_leadsTo_51 (lv_at hl 5 rfl) ?_
      refine lv_bipush (v := (21 : Int32)) hx hb dMod_leadsTo_53 (by decide) ?_
      refine lv_icmp_ge (tgt := 98) hx hb dMod_leadsTo_55 (by decide) (fun c_1 => ?_) (fun c_1 => ?_)
      · exact absurd c_1 (lt_n (N := 21) (by decide) hk)
      · refine lv_aload_n hx hb dMod_leadsTo_58 rfl (lv_at hl 0 rfl) ?_
        refine mg_a FMod_26 5 ⟨rfl, by decide⟩ hx hb hts hown hW dMod_leadsTo_59 ?_
        refine lv_iload hx hb dMod_leadsTo_62 (lv_at hl 4 rfl) ?_
        refine m_zl (j := 5) (v := ma σ1 5 (nI cc0).toNatClampNeg) ⟨by decide, rfl⟩ hx hb hW (rg.in hcc (by decide) (by decide)) dMod_leadsTo_64 rfl ?_
        refine lv_if_eq (tgt := 92) hx hb dMod_leadsTo_65 (by decide) (fun c_2 => ?_) (fun c_2 => ?_)
        · refine lv_iinc (v := ((nI i) + (1 : Int32))) (lv' := [(5, .int ((nI i) + (1 : Int32))), (0, .ref o), (1, .int a0), (2, .int b0), (3, .int tu), (4, .int (nI cc0))]) hx hb dMod_leadsTo_92 hl (k := 5) rfl rfl (by decide) rfl (fun ls hl => ?_)
          refine lv_goto (tgt := 51) hx hb dMod_leadsTo_95 (by decide) ?_
          exact ih (i + 1) (if ma σ1 5 (nI cc0).toNatClampNeg = 0 then σ1 else if ma σ1 4 (((21 : Int32) * (nI cc0)) + (nI i)).toNatClampNeg = 0 then σ1 else sma σ1 5 (nI i).toNatClampNeg (1 : Int32)) (by omega) (by omega) kk H locs ls (by rw [if_pos c_2]; exact hW) (by rw [← nI_1]; exact (lv_sub hl [1, 2, 3, 4, 5, 0] rfl))
        · refine lv_aload_n hx hb dMod_leadsTo_68 rfl (lv_at hl 0 rfl) ?_
          refine mg_a FMod_22 4 ⟨rfl, by decide⟩ hx hb hts hown hW dMod_leadsTo_69 ?_
          refine lv_bipush (v := (21 : Int32)) hx hb dMod_leadsTo_72 (by decide) ?_
          refine lv_iload hx hb dMod_leadsTo_74 (lv_at hl 4 rfl) ?_
          refine lv_imul hx hb dMod_leadsTo_76 ?_
          refine lv_iload hx hb dMod_leadsTo_77 (lv_at hl 5 rfl) ?_
          refine lv_iadd hx hb dMod_leadsTo_79 ?_
          refine m_zl (j := 4) (v := ma σ1 4 (((21 : Int32) * (nI cc0)) + (nI i)).toNatClampNeg) ⟨by decide, rfl⟩ hx hb hW (rg.in (rg.add (rg.m21 hcc (by decide) (by decide)) hna (by decide) (by decide)) (by decide) (by decide)) dMod_leadsTo_80 rfl ?_
          refine lv_if_eq (tgt := 92) hx hb dMod_leadsTo_81 (by decide) (fun c_3 => ?_) (fun c_3 => ?_)
          · refine lv_iinc (v := ((nI i) + (1 : Int32))) (lv' := [(5, .int ((nI i) + (1 : Int32))), (0, .ref o), (1, .int a0), (2, .int b0), (3, .int tu), (4, .int (nI cc0))]) hx hb dMod_leadsTo_92 hl (k := 5) rfl rfl (by decide) rfl (fun ls hl => ?_)
            refine lv_goto (tgt := 51) hx hb dMod_leadsTo_95 (by decide) ?_
            exact ih (i + 1) (if ma σ1 5 (nI cc0).toNatClampNeg = 0 then σ1 else if ma σ1 4 (((21 : Int32) * (nI cc0)) + (nI i)).toNatClampNeg = 0 then σ1 else sma σ1 5 (nI i).toNatClampNeg (1 : Int32)) (by omega) (by omega) kk H locs ls (by rw [if_neg c_2]; rw [if_pos c_3]; exact hW) (by rw [← nI_1]; exact (lv_sub hl [1, 2, 3, 4, 5, 0] rfl))
          · refine lv_aload_n hx hb dMod_leadsTo_84 rfl (lv_at hl 0 rfl) ?_
            refine mg_a FMod_26 5 ⟨rfl, by decide⟩ hx hb hts hown hW dMod_leadsTo_85 ?_
            refine lv_iload hx hb dMod_leadsTo_88 (lv_at hl 5 rfl) ?_
            refine lv_iconst (v := (1 : Int32)) hx hb dMod_leadsTo_90 (by decide) ?_
            refine m_zs (j := 5) (v := (1 : Int32)) ⟨by decide, rfl⟩ hx hb hW (rg.in hna (by decide) (by decide)) (by decide) dMod_leadsTo_91 (fun H locs hW => ?_)
            refine lv_iinc (v := ((nI i) + (1 : Int32))) (lv' := [(5, .int ((nI i) + (1 : Int32))), (0, .ref o), (1, .int a0), (2, .int b0), (3, .int tu), (4, .int (nI cc0))]) hx hb dMod_leadsTo_92 hl (k := 5) rfl rfl (by decide) rfl (fun ls hl => ?_)
            refine lv_goto (tgt := 51) hx hb dMod_leadsTo_95 (by decide) ?_
            exact ih (i + 1) (if ma σ1 5 (nI cc0).toNatClampNeg = 0 then σ1 else if ma σ1 4 (((21 : Int32) * (nI cc0)) + (nI i)).toNatClampNeg = 0 then σ1 else sma σ1 5 (nI i).toNatClampNeg (1 : Int32)) (by omega) (by omega) kk H locs ls (by rw [if_neg c_2]; rw [if_neg c_3]; exact hW) (by rw [← nI_1]; exact (lv_sub hl [1, 2, 3, 4, 5, 0] rfl))
  have L2 : ∀ (tu : Int32) (k i : Nat) (σ1 : MS), 1 ≤ i → i + k = 21 → (∀ H locs ls, Wd D AC (AS (hL (hsM o z tt σ)) s.heap.size) s s.heap H locs (hsM o z tt (ldC k i σ1)) → lv_has ls 6 [(0, .ref o), (1, .int a0), (2, .int b0), (3, .int tu)] → W p l e (rmOf 0 0 0 0) s m ([.ref o, .int a0, .int b0] : List Value).toArray below meth c H locs 0 0 (MQ below (va_Qi (fun r S' => r = MleadsTo_R σ a0 b0 ∧ S' = hsM o z tt (MleadsTo_S σ a0 b0)) (CB D AC (hsM o z tt σ)) (AS (hL (hsM o z tt σ)) (hz (hsM o z tt σ)))) ([.ref o, .int a0, .int b0] : List Value).toArray s 0 0 (AS (hL (hsM o z tt σ)) (hz (hsM o z tt σ)))) (F0 m 104 ls [])) → ∀ H locs ls, Wd D AC (AS (hL (hsM o z tt σ)) s.heap.size) s s.heap H locs (hsM o z tt σ1) → lv_has ls 6 [(0, .ref o), (1, .int a0), (2, .int b0), (3, .int tu), (4, .int (nI i))] → W p l e (rmOf 0 0 0 0) s m ([.ref o, .int a0, .int b0] : List Value).toArray below meth c H locs 0 0 (MQ below (va_Qi (fun r S' => r = MleadsTo_R σ a0 b0 ∧ S' = hsM o z tt (MleadsTo_S σ a0 b0)) (CB D AC (hsM o z tt σ)) (AS (hL (hsM o z tt σ)) (hz (hsM o z tt σ)))) ([.ref o, .int a0, .int b0] : List Value).toArray s 0 0 (AS (hL (hsM o z tt σ)) (hz (hsM o z tt σ)))) (F0 m 41 ls []) := by
    intro tu k
    induction k with
    | zero =>
      intro i σ1 hi1 hk kk H locs ls hW hl
      refine lv_iload hx hb dMod_leadsTo_41 (lv_at hl 4 rfl) ?_
      refine lv_bipush (v := (21 : Int32)) hx hb dMod_leadsTo_43 (by decide) ?_
      refine lv_icmp_ge (tgt := 104) hx hb dMod_leadsTo_45 (by decide) (fun c_1 => ?_) (fun c_1 => ?_)
      · exact kk H locs ls hW (lv_sub hl [0, 1, 2, 3] rfl)
      · exact absurd (le_n (N := 21) (by decide) hk rfl) c_1
    | succ k ih =>
      intro i σ1 hi1 hk kk H locs ls hW hl
      have hna : rg 1 20 (nI i) := rg_nI (N := 20) hi1 (by omega) (by decide)
      refine lv_iload hx hb dMod_leadsTo_41 (lv_at hl 4 rfl) ?_
      refine lv_bipush (v := (21 : Int32)) hx hb dMod_leadsTo_43 (by decide) ?_
      refine lv_icmp_ge (tgt := 104) hx hb dMod_leadsTo_45 (by decide) (fun c_1 => ?_) (fun c_1 => ?_)
      · exact absurd c_1 (lt_n (N := 21) (by decide) hk)
      · refine lv_iconst (v := (1 : Int32)) hx hb dMod_leadsTo_48 (by decide) ?_
        refine lv_istore (lv' := [(5, .int (1 : Int32)), (0, .ref o), (1, .int a0), (2, .int b0), (3, .int tu), (4, .int (nI i))]) hx hb dMod_leadsTo_49 hl (by decide) rfl (fun ls hl => ?_)
        refine L3 tu i hna 20 1 σ1 (Nat.le_refl _) rfl ?_ H locs ls hW (lv_sub hl [1, 2, 3, 4, 5, 0] rfl)
        intro H locs ls hW hl
        refine lv_iinc (v := ((nI i) + (1 : Int32))) (lv' := [(4, .int ((nI i) + (1 : Int32))), (0, .ref o), (1, .int a0), (2, .int b0), (3, .int tu)]) hx hb dMod_leadsTo_98 hl (k := 4) rfl rfl (by decide) rfl (fun ls hl => ?_)
        refine lv_goto (tgt := 41) hx hb dMod_leadsTo_101 (by decide) ?_
        exact ih (i + 1) (ldD i 20 1 σ1) (by omega) (by omega) kk H locs ls (by exact hW) (by rw [← nI_1]; exact (lv_sub hl [1, 2, 3, 4, 0] rfl))
  have L0 : ∀ (k i : Nat) (σ1 : MS), i + k = 20 → (∀ H locs ls, Wd D AC (AS (hL (hsM o z tt σ)) s.heap.size) s s.heap H locs (hsM o z tt (ldT k i σ1)) → lv_has ls 6 [(0, .ref o), (1, .int a0), (2, .int b0)] → W p l e (rmOf 0 0 0 0) s m ([.ref o, .int a0, .int b0] : List Value).toArray below meth c H locs 0 0 (MQ below (va_Qi (fun r S' => r = MleadsTo_R σ a0 b0 ∧ S' = hsM o z tt (MleadsTo_S σ a0 b0)) (CB D AC (hsM o z tt σ)) (AS (hL (hsM o z tt σ)) (hz (hsM o z tt σ)))) ([.ref o, .int a0, .int b0] : List Value).toArray s 0 0 (AS (hL (hsM o z tt σ)) (hz (hsM o z tt σ)))) (F0 m 110 ls [])) → ∀ H locs ls, Wd D AC (AS (hL (hsM o z tt σ)) s.heap.size) s s.heap H locs (hsM o z tt σ1) → lv_has ls 6 [(0, .ref o), (1, .int a0), (2, .int b0), (3, .int (nI i))] → W p l e (rmOf 0 0 0 0) s m ([.ref o, .int a0, .int b0] : List Value).toArray below meth c H locs 0 0 (MQ below (va_Qi (fun r S' => r = MleadsTo_R σ a0 b0 ∧ S' = hsM o z tt (MleadsTo_S σ a0 b0)) (CB D AC (hsM o z tt σ)) (AS (hL (hsM o z tt σ)) (hz (hsM o z tt σ)))) ([.ref o, .int a0, .int b0] : List Value).toArray s 0 0 (AS (hL (hsM o z tt σ)) (hz (hsM o z tt σ)))) (F0 m 32 ls []) := by
    intro k
    induction k with
    | zero =>
      intro i σ1 hk kk H locs ls hW hl
      refine lv_iload_n hx hb dMod_leadsTo_32 rfl (lv_at hl 3 rfl) ?_
      refine lv_bipush (v := (20 : Int32)) hx hb dMod_leadsTo_33 (by decide) ?_
      refine lv_icmp_ge (tgt := 110) hx hb dMod_leadsTo_35 (by decide) (fun c_1 => ?_) (fun c_1 => ?_)
      · exact kk H locs ls hW (lv_sub hl [0, 1, 2] rfl)
      · exact absurd (le_n (N := 20) (by decide) hk rfl) c_1
    | succ k ih =>
      intro i σ1 hk kk H locs ls hW hl
      have hna : rg 0 19 (nI i) := rg_nI0 (N := 19) (by omega) (by decide)
      refine lv_iload_n hx hb dMod_leadsTo_32 rfl (lv_at hl 3 rfl) ?_
      refine lv_bipush (v := (20 : Int32)) hx hb dMod_leadsTo_33 (by decide) ?_
      refine lv_icmp_ge (tgt := 110) hx hb dMod_leadsTo_35 (by decide) (fun c_1 => ?_) (fun c_1 => ?_)
      · exact absurd c_1 (lt_n (N := 20) (by decide) hk)
      · refine lv_iconst (v := (1 : Int32)) hx hb dMod_leadsTo_38 (by decide) ?_
        refine lv_istore (lv' := [(4, .int (1 : Int32)), (0, .ref o), (1, .int a0), (2, .int b0), (3, .int (nI i))]) hx hb dMod_leadsTo_39 hl (by decide) rfl (fun ls hl => ?_)
        refine L2 (nI i) 20 1 σ1 (Nat.le_refl _) rfl ?_ H locs ls hW (lv_sub hl [1, 2, 3, 4, 0] rfl)
        intro H locs ls hW hl
        refine lv_iinc (v := ((nI i) + (1 : Int32))) (lv' := [(3, .int ((nI i) + (1 : Int32))), (0, .ref o), (1, .int a0), (2, .int b0)]) hx hb dMod_leadsTo_104 hl (k := 3) rfl rfl (by decide) rfl (fun ls hl => ?_)
        refine lv_goto (tgt := 32) hx hb dMod_leadsTo_107 (by decide) ?_
        exact ih (i + 1) (ldC 20 1 σ1) (by omega) kk H locs ls (by exact hW) (by rw [← nI_1]; exact (lv_sub hl [1, 2, 3, 0] rfl))
  refine lv_iconst (v := (0 : Int32)) hx hb dMod_leadsTo_0 (by decide) ?_
  refine lv_istore_n (i := 3) (lv' := [(3, .int (0 : Int32)), (0, .ref o), (1, .int a0), (2, .int b0)]) hx hb dMod_leadsTo_1 rfl hl (by decide) rfl (fun ls hl => ?_)
  refine L1 21 0 σ rfl ?_ _ _ ls hW (lv_sub hl [1, 2, 3, 0] rfl)
  intro H locs ls hW hl
  refine lv_iconst (v := (0 : Int32)) hx hb dMod_leadsTo_30 (by decide) ?_
  refine lv_istore_n (i := 3) (lv' := [(3, .int (0 : Int32)), (0, .ref o), (1, .int a0), (2, .int b0)]) hx hb dMod_leadsTo_31 rfl hl (by decide) rfl (fun ls hl => ?_)
  refine L0 20 0 _ rfl ?_ H locs ls hW (lv_sub hl [1, 2, 3, 0] rfl)
  intro H locs ls hW hl
  refine lv_aload_n hx hb dMod_leadsTo_110 rfl (lv_at hl 0 rfl) ?_
  refine mg_a FMod_26 5 ⟨rfl, by decide⟩ hx hb hts hown hW dMod_leadsTo_111 ?_
  refine lv_iload_n hx hb dMod_leadsTo_114 rfl (lv_at hl 2 rfl) ?_
  refine m_zl (j := 5) (v := ma (MleadsTo_S σ a0 b0) 5 b0.toNatClampNeg) ⟨by decide, rfl⟩ hx hb hW (rg.in hb0 (by decide) (by decide)) dMod_leadsTo_115 rfl ?_
  exact e_z hsz hx hb hr hlk hW mono_hsM (Nat.le_refl _) (Nat.le_refl _) dMod_leadsTo_116 (MleadsTo_z hb0) ⟨rfl, rfl⟩

theorem Mno_mi {σ : MS} {c0 : Int32} {k : Nat} (hk : k ≠ 14) : mi (Mno_S σ c0) k = mi σ k := by rw [Mno_Se]; exact va_up_ne _ _ hk
theorem rg_of1 {σ : MS} {x : Int32} (h : mOk σ) (h1 : ¬ x < 1) (h2 : ¬ mi σ 15 < x) : rg 1 20 x := by
  rw [Int32.lt_iff_toInt_lt] at h1 h2
  have e : (1 : Int32).toInt = 1 := rfl
  have := h.1.2
  exact ⟨by omega, by omega⟩

def Malarm_R (σ : MS) (c0 : Int32) (ac : Int32) (of_ : Int32) : Int32 :=
  if (Mno_R σ c0) = 0 then
    if ac = 0 then
      if of_ = 0 then
        if ac < 0 then
          (-2 : Int32)
        else
          if ac ≤ (2 : Int32) then
            if (mi (Mno_S σ c0) 16) = (100 : Int32) then
              (-4 : Int32)
            else
              ((mi (Mno_S σ c0) 16) + (1 : Int32))
          else
            (-2 : Int32)
      else
        (-1 : Int32)
    else
      if ac = (1 : Int32) then
        if of_ < (1 : Int32) then
          (-1 : Int32)
        else
          if (mi (Mno_S σ c0) 15) < of_ then
            (-1 : Int32)
          else
            if ac < 0 then
              (-2 : Int32)
            else
              if ac ≤ (2 : Int32) then
                if (MleadsTo_R (Mno_S σ c0) of_ c0) = 0 then
                  if (mi (MleadsTo_S (Mno_S σ c0) of_ c0) 16) = (100 : Int32) then
                    (-4 : Int32)
                  else
                    ((mi (MleadsTo_S (Mno_S σ c0) of_ c0) 16) + (1 : Int32))
                else
                  (-3 : Int32)
              else
                (-2 : Int32)
      else
        if ac = (2 : Int32) then
          if (MnoAlarm_R (Mno_S σ c0) of_) = 0 then
            if ac < 0 then
              (-2 : Int32)
            else
              if ac ≤ (2 : Int32) then
                if (mi (Mno_S σ c0) 16) = (100 : Int32) then
                  (-4 : Int32)
                else
                  ((mi (Mno_S σ c0) 16) + (1 : Int32))
              else
                (-2 : Int32)
          else
            (-1 : Int32)
        else
          if ac < 0 then
            (-2 : Int32)
          else
            if ac ≤ (2 : Int32) then
              if (mi (Mno_S σ c0) 16) = (100 : Int32) then
                (-4 : Int32)
              else
                ((mi (Mno_S σ c0) 16) + (1 : Int32))
            else
              (-2 : Int32)
  else
    (-1 : Int32)
def Malarm_S (σ : MS) (c0 : Int32) (ac : Int32) (of_ : Int32) : MS :=
  if (Mno_R σ c0) = 0 then
    if ac = 0 then
      if of_ = 0 then
        if ac < 0 then
          (Mno_S σ c0)
        else
          if ac ≤ (2 : Int32) then
            if (mi (Mno_S σ c0) 16) = (100 : Int32) then
              (Mno_S σ c0)
            else
              (sma (sma (sma (smi (Mno_S σ c0) 16 ((mi (Mno_S σ c0) 16) + (1 : Int32))) 6 ((mi (Mno_S σ c0) 16) + (1 : Int32)).toNatClampNeg c0) 7 ((mi (Mno_S σ c0) 16) + (1 : Int32)).toNatClampNeg ac) 8 ((mi (Mno_S σ c0) 16) + (1 : Int32)).toNatClampNeg of_)
          else
            (Mno_S σ c0)
      else
        (Mno_S σ c0)
    else
      if ac = (1 : Int32) then
        if of_ < (1 : Int32) then
          (Mno_S σ c0)
        else
          if (mi (Mno_S σ c0) 15) < of_ then
            (Mno_S σ c0)
          else
            if ac < 0 then
              (Mno_S σ c0)
            else
              if ac ≤ (2 : Int32) then
                if (MleadsTo_R (Mno_S σ c0) of_ c0) = 0 then
                  if (mi (MleadsTo_S (Mno_S σ c0) of_ c0) 16) = (100 : Int32) then
                    (MleadsTo_S (Mno_S σ c0) of_ c0)
                  else
                    (sma (sma (sma (smi (sma (MleadsTo_S (Mno_S σ c0) of_ c0) 4 (((21 : Int32) * c0) + of_).toNatClampNeg (1 : Int32)) 16 ((mi (MleadsTo_S (Mno_S σ c0) of_ c0) 16) + (1 : Int32))) 6 ((mi (MleadsTo_S (Mno_S σ c0) of_ c0) 16) + (1 : Int32)).toNatClampNeg c0) 7 ((mi (MleadsTo_S (Mno_S σ c0) of_ c0) 16) + (1 : Int32)).toNatClampNeg ac) 8 ((mi (MleadsTo_S (Mno_S σ c0) of_ c0) 16) + (1 : Int32)).toNatClampNeg of_)
                else
                  (MleadsTo_S (Mno_S σ c0) of_ c0)
              else
                (Mno_S σ c0)
      else
        if ac = (2 : Int32) then
          if (MnoAlarm_R (Mno_S σ c0) of_) = 0 then
            if ac < 0 then
              (Mno_S σ c0)
            else
              if ac ≤ (2 : Int32) then
                if (mi (Mno_S σ c0) 16) = (100 : Int32) then
                  (Mno_S σ c0)
                else
                  (sma (sma (sma (smi (Mno_S σ c0) 16 ((mi (Mno_S σ c0) 16) + (1 : Int32))) 6 ((mi (Mno_S σ c0) 16) + (1 : Int32)).toNatClampNeg c0) 7 ((mi (Mno_S σ c0) 16) + (1 : Int32)).toNatClampNeg ac) 8 ((mi (Mno_S σ c0) 16) + (1 : Int32)).toNatClampNeg of_)
              else
                (Mno_S σ c0)
          else
            (Mno_S σ c0)
        else
          if ac < 0 then
            (Mno_S σ c0)
          else
            if ac ≤ (2 : Int32) then
              if (mi (Mno_S σ c0) 16) = (100 : Int32) then
                (Mno_S σ c0)
              else
                (sma (sma (sma (smi (Mno_S σ c0) 16 ((mi (Mno_S σ c0) 16) + (1 : Int32))) 6 ((mi (Mno_S σ c0) 16) + (1 : Int32)).toNatClampNeg c0) 7 ((mi (Mno_S σ c0) 16) + (1 : Int32)).toNatClampNeg ac) 8 ((mi (Mno_S σ c0) 16) + (1 : Int32)).toNatClampNeg of_)
            else
              (Mno_S σ c0)
  else
    (Mno_S σ c0)
set_option maxRecDepth 20000 in
set_option maxHeartbeats 2000000 in
theorem c_Malarm (l : Launch) (D : va_G) (AC : Nat → ClassId) (o z tt : Nat) (σ : MS) (c0 : Int32) (ac : Int32) (of_ : Int32) (hO : mOk σ) : CtI l yMod_alarm (Cond.code yMod_alarm cMod_alarm 4 (some .int) :: wT) 1 30 D AC (hsM o z tt σ) [.ref o, .int c0, .int ac, .int of_] 0 0 (fun r S' => r = Malarm_R σ c0 ac of_ ∧ S' = hsM o z tt (Malarm_S σ c0 ac of_)) := by
  refine met_of (by decide) (Nat.le_of_ble_eq_true rfl) ?_
  intro p e s m below meth c ls hsz X hW hl
  obtain ⟨hx, hb, hml, hr, hlk, hown, hnm, hts⟩ := X
  have hl : lv_has ls 4 [(0, .ref o), (1, .int c0), (2, .int ac), (3, .int of_)] := hl
  refine lv_aload_n hx hb dMod_alarm_0 rfl (lv_at hl 0 rfl) ?_
  refine lv_iload_n hx hb dMod_alarm_1 rfl (lv_at hl 1 rfl) ?_
  refine k_Vi (K := 9) (As := [.int c0]) (rest := []) (c_Mno l D AC o z tt σ c0) CMod_113 ⟨by decide, by decide, _, rfl, rfl⟩ hx hb hml hown hts hW hsM_k hl.1 rfl rfl (Nat.le_of_ble_eq_true rfl) ⟨⟨Nat.le_of_ble_eq_true rfl, Nat.le_of_ble_eq_true rfl⟩, ⟨Nat.le_of_ble_eq_true rfl, Nat.le_of_ble_eq_true rfl⟩⟩ dMod_alarm_2 (fun r_1 S_1 H locs e_1 hW _ _ => ?_)
  obtain ⟨e1_1, e2_1⟩ := e_1
  rw [e2_1] at hW
  rw [e1_1]
  have hO_2 : mOk (Mno_S σ c0) := mOk_no hO
  refine lv_if_ne (tgt := 47) hx hb dMod_alarm_5 (by decide) (fun c_3 => ?_) (fun c_3 => ?_)
  · refine lv_iconst (v := (-1 : Int32)) hx hb dMod_alarm_47 (by decide) ?_
    exact e_i hsz hx hb hr hlk hW mono_hsM (Nat.le_refl _) (Nat.le_refl _) dMod_alarm_48 ⟨(Eq.symm (by refine (if_neg c_3).trans ?_; rfl)), congrArg (hsM o z tt) (Eq.symm (by refine (if_neg c_3).trans ?_; rfl))⟩
  · refine lv_iload_n hx hb dMod_alarm_8 rfl (lv_at hl 2 rfl) ?_
    refine lv_if_ne (tgt := 16) hx hb dMod_alarm_9 (by decide) (fun c_4 => ?_) (fun c_4 => ?_)
    · refine lv_iload_n hx hb dMod_alarm_16 rfl (lv_at hl 2 rfl) ?_
      refine lv_iconst (v := (1 : Int32)) hx hb dMod_alarm_17 (by decide) ?_
      refine lv_icmp_ne (tgt := 34) hx hb dMod_alarm_18 (by decide) (fun c_5 => ?_) (fun c_5 => ?_)
      · refine lv_iload_n hx hb dMod_alarm_34 rfl (lv_at hl 2 rfl) ?_
        refine lv_iconst (v := (2 : Int32)) hx hb dMod_alarm_35 (by decide) ?_
        refine lv_icmp_ne (tgt := 49) hx hb dMod_alarm_36 (by decide) (fun c_6 => ?_) (fun c_6 => ?_)
        · refine lv_iload_n hx hb dMod_alarm_49 rfl (lv_at hl 2 rfl) ?_
          refine lv_if_lt (tgt := 58) hx hb dMod_alarm_50 (by decide) (fun c_7 => ?_) (fun c_7 => ?_)
          · refine lv_bipush (v := (-2 : Int32)) hx hb dMod_alarm_58 (by decide) ?_
            exact e_i hsz hx hb hr hlk hW mono_hsM (Nat.le_refl _) (Nat.le_refl _) dMod_alarm_60 ⟨(Eq.symm (by refine (if_pos c_3).trans ?_; refine (if_neg c_4).trans ?_; refine (if_neg c_5).trans ?_; refine (if_neg c_6).trans ?_; refine (if_pos c_7).trans ?_; rfl)), congrArg (hsM o z tt) (Eq.symm (by refine (if_pos c_3).trans ?_; refine (if_neg c_4).trans ?_; refine (if_neg c_5).trans ?_; refine (if_neg c_6).trans ?_; refine (if_pos c_7).trans ?_; rfl))⟩
          · refine lv_iload_n hx hb dMod_alarm_53 rfl (lv_at hl 2 rfl) ?_
            refine lv_iconst (v := (2 : Int32)) hx hb dMod_alarm_54 (by decide) ?_
            refine lv_icmp_le (tgt := 61) hx hb dMod_alarm_55 (by decide) (fun c_8 => ?_) (fun c_8 => ?_)
            · refine lv_iload_n hx hb dMod_alarm_61 rfl (lv_at hl 2 rfl) ?_
              refine lv_iconst (v := (1 : Int32)) hx hb dMod_alarm_62 (by decide) ?_
              refine lv_icmp_ne (tgt := 78) hx hb dMod_alarm_63 (by decide) (fun c_9 => ?_) (fun c_9 => ?_)
              · refine lv_aload_n hx hb dMod_alarm_78 rfl (lv_at hl 0 rfl) ?_
                refine mg_i (v := mi (Mno_S σ c0) 16) FMod_103 hx hb hts hown hW dMod_alarm_79 rfl ?_
                refine lv_bipush (v := (100 : Int32)) hx hb dMod_alarm_82 (by decide) ?_
                refine lv_icmp_ne (tgt := 90) hx hb dMod_alarm_84 (by decide) (fun c_10 => ?_) (fun c_10 => ?_)
                · refine lv_iload_n hx hb dMod_alarm_90 rfl (lv_at hl 2 rfl) ?_
                  refine lv_iconst (v := (1 : Int32)) hx hb dMod_alarm_91 (by decide) ?_
                  refine lv_icmp_ne (tgt := 107) hx hb dMod_alarm_92 (by decide) (fun c_11 => ?_) (fun c_11 => ?_)
                  · refine lv_aload_n hx hb dMod_alarm_107 rfl (lv_at hl 0 rfl) ?_
                    refine lv_dup hx hb dMod_alarm_108 rfl ?_
                    refine mg_i (v := mi (Mno_S σ c0) 16) FMod_103 hx hb hts hown hW dMod_alarm_109 rfl ?_
                    refine lv_iconst (v := (1 : Int32)) hx hb dMod_alarm_112 (by decide) ?_
                    refine lv_iadd hx hb dMod_alarm_113 ?_
                    refine mp_i FMod_103 GMod_alarms hx hb hts hown hW rfl rfl dMod_alarm_114 (fun H locs hW => ?_)
                    refine lv_aload_n hx hb dMod_alarm_117 rfl (lv_at hl 0 rfl) ?_
                    refine mg_a FMod_29 6 ⟨rfl, by decide⟩ hx hb hts hown hW dMod_alarm_118 ?_
                    refine lv_aload_n hx hb dMod_alarm_121 rfl (lv_at hl 0 rfl) ?_
                    refine mg_i (v := ((mi (Mno_S σ c0) 16) + (1 : Int32))) FMod_103 hx hb hts hown hW dMod_alarm_122 (ri_s) ?_
                    refine lv_iload_n hx hb dMod_alarm_125 rfl (lv_at hl 1 rfl) ?_
                    refine m_is (j := 6) (v := c0) ⟨by decide, rfl⟩ hx hb hW (rg.in (rg.add (rg_ne hO_2.2.1 rfl c_10) (show rg (1) (1) (1 : Int32) from ⟨by decide, by decide⟩) (by decide) (by decide)) (by decide) (by decide)) dMod_alarm_126 (fun H locs hW => ?_)
                    refine lv_aload_n hx hb dMod_alarm_127 rfl (lv_at hl 0 rfl) ?_
                    refine mg_a FMod_33 7 ⟨rfl, by decide⟩ hx hb hts hown hW dMod_alarm_128 ?_
                    refine lv_aload_n hx hb dMod_alarm_131 rfl (lv_at hl 0 rfl) ?_
                    refine mg_i (v := ((mi (Mno_S σ c0) 16) + (1 : Int32))) FMod_103 hx hb hts hown hW dMod_alarm_132 ((ri_a).trans (ri_s)) ?_
                    refine lv_iload_n hx hb dMod_alarm_135 rfl (lv_at hl 2 rfl) ?_
                    refine m_is (j := 7) (v := ac) ⟨by decide, rfl⟩ hx hb hW (rg.in (rg.add (rg_ne hO_2.2.1 rfl c_10) (show rg (1) (1) (1 : Int32) from ⟨by decide, by decide⟩) (by decide) (by decide)) (by decide) (by decide)) dMod_alarm_136 (fun H locs hW => ?_)
                    refine lv_aload_n hx hb dMod_alarm_137 rfl (lv_at hl 0 rfl) ?_
                    refine mg_a FMod_36 8 ⟨rfl, by decide⟩ hx hb hts hown hW dMod_alarm_138 ?_
                    refine lv_aload_n hx hb dMod_alarm_141 rfl (lv_at hl 0 rfl) ?_
                    refine mg_i (v := ((mi (Mno_S σ c0) 16) + (1 : Int32))) FMod_103 hx hb hts hown hW dMod_alarm_142 ((ri_a).trans ((ri_a).trans (ri_s))) ?_
                    refine lv_iload_n hx hb dMod_alarm_145 rfl (lv_at hl 3 rfl) ?_
                    refine m_is (j := 8) (v := of_) ⟨by decide, rfl⟩ hx hb hW (rg.in (rg.add (rg_ne hO_2.2.1 rfl c_10) (show rg (1) (1) (1 : Int32) from ⟨by decide, by decide⟩) (by decide) (by decide)) (by decide) (by decide)) dMod_alarm_146 (fun H locs hW => ?_)
                    refine lv_aload_n hx hb dMod_alarm_147 rfl (lv_at hl 0 rfl) ?_
                    refine mg_i (v := ((mi (Mno_S σ c0) 16) + (1 : Int32))) FMod_103 hx hb hts hown hW dMod_alarm_148 ((ri_a).trans ((ri_a).trans ((ri_a).trans (ri_s)))) ?_
                    exact e_i hsz hx hb hr hlk hW mono_hsM (Nat.le_refl _) (Nat.le_refl _) dMod_alarm_151 ⟨(Eq.symm (by refine (if_pos c_3).trans ?_; refine (if_neg c_4).trans ?_; refine (if_neg c_5).trans ?_; refine (if_neg c_6).trans ?_; refine (if_neg c_7).trans ?_; refine (if_pos c_8).trans ?_; refine (if_neg c_10).trans ?_; rfl)), congrArg (hsM o z tt) (Eq.symm (by refine (if_pos c_3).trans ?_; refine (if_neg c_4).trans ?_; refine (if_neg c_5).trans ?_; refine (if_neg c_6).trans ?_; refine (if_neg c_7).trans ?_; refine (if_pos c_8).trans ?_; refine (if_neg c_10).trans ?_; rfl))⟩
                  · exact absurd c_11 c_9
                · refine lv_bipush (v := (-4 : Int32)) hx hb dMod_alarm_87 (by decide) ?_
                  exact e_i hsz hx hb hr hlk hW mono_hsM (Nat.le_refl _) (Nat.le_refl _) dMod_alarm_89 ⟨(Eq.symm (by refine (if_pos c_3).trans ?_; refine (if_neg c_4).trans ?_; refine (if_neg c_5).trans ?_; refine (if_neg c_6).trans ?_; refine (if_neg c_7).trans ?_; refine (if_pos c_8).trans ?_; refine (if_pos c_10).trans ?_; rfl)), congrArg (hsM o z tt) (Eq.symm (by refine (if_pos c_3).trans ?_; refine (if_neg c_4).trans ?_; refine (if_neg c_5).trans ?_; refine (if_neg c_6).trans ?_; refine (if_neg c_7).trans ?_; refine (if_pos c_8).trans ?_; refine (if_pos c_10).trans ?_; rfl))⟩
              · exact absurd c_9 c_5
            · refine lv_bipush (v := (-2 : Int32)) hx hb dMod_alarm_58 (by decide) ?_
              exact e_i hsz hx hb hr hlk hW mono_hsM (Nat.le_refl _) (Nat.le_refl _) dMod_alarm_60 ⟨(Eq.symm (by refine (if_pos c_3).trans ?_; refine (if_neg c_4).trans ?_; refine (if_neg c_5).trans ?_; refine (if_neg c_6).trans ?_; refine (if_neg c_7).trans ?_; refine (if_neg c_8).trans ?_; rfl)), congrArg (hsM o z tt) (Eq.symm (by refine (if_pos c_3).trans ?_; refine (if_neg c_4).trans ?_; refine (if_neg c_5).trans ?_; refine (if_neg c_6).trans ?_; refine (if_neg c_7).trans ?_; refine (if_neg c_8).trans ?_; rfl))⟩
        · refine lv_aload_n hx hb dMod_alarm_39 rfl (lv_at hl 0 rfl) ?_
          refine lv_iload_n hx hb dMod_alarm_40 rfl (lv_at hl 3 rfl) ?_
          refine k_Vi (K := 9) (As := [.int of_]) (rest := []) (c_MnoAlarm l D AC o z tt (Mno_S σ c0) of_) CMod_117 ⟨by decide, by decide, _, rfl, rfl⟩ hx hb hml hown hts hW hsM_k hl.1 rfl rfl (Nat.le_of_ble_eq_true rfl) ⟨⟨Nat.le_of_ble_eq_true rfl, Nat.le_of_ble_eq_true rfl⟩, ⟨Nat.le_of_ble_eq_true rfl, Nat.le_of_ble_eq_true rfl⟩⟩ dMod_alarm_41 (fun r_12 S_12 H locs e_12 hW _ _ => ?_)
          obtain ⟨e1_12, e2_12⟩ := e_12
          rw [e2_12] at hW
          rw [e1_12]
          refine lv_if_eq (tgt := 49) hx hb dMod_alarm_44 (by decide) (fun c_13 => ?_) (fun c_13 => ?_)
          · refine lv_iload_n hx hb dMod_alarm_49 rfl (lv_at hl 2 rfl) ?_
            refine lv_if_lt (tgt := 58) hx hb dMod_alarm_50 (by decide) (fun c_14 => ?_) (fun c_14 => ?_)
            · refine lv_bipush (v := (-2 : Int32)) hx hb dMod_alarm_58 (by decide) ?_
              exact e_i hsz hx hb hr hlk hW mono_hsM (Nat.le_refl _) (Nat.le_refl _) dMod_alarm_60 ⟨(Eq.symm (by refine (if_pos c_3).trans ?_; refine (if_neg c_4).trans ?_; refine (if_neg c_5).trans ?_; refine (if_pos c_6).trans ?_; refine (if_pos c_13).trans ?_; refine (if_pos c_14).trans ?_; rfl)), congrArg (hsM o z tt) (Eq.symm (by refine (if_pos c_3).trans ?_; refine (if_neg c_4).trans ?_; refine (if_neg c_5).trans ?_; refine (if_pos c_6).trans ?_; refine (if_pos c_13).trans ?_; refine (if_pos c_14).trans ?_; rfl))⟩
            · refine lv_iload_n hx hb dMod_alarm_53 rfl (lv_at hl 2 rfl) ?_
              refine lv_iconst (v := (2 : Int32)) hx hb dMod_alarm_54 (by decide) ?_
              refine lv_icmp_le (tgt := 61) hx hb dMod_alarm_55 (by decide) (fun c_15 => ?_) (fun c_15 => ?_)
              · refine lv_iload_n hx hb dMod_alarm_61 rfl (lv_at hl 2 rfl) ?_
                refine lv_iconst (v := (1 : Int32)) hx hb dMod_alarm_62 (by decide) ?_
                refine lv_icmp_ne (tgt := 78) hx hb dMod_alarm_63 (by decide) (fun c_16 => ?_) (fun c_16 => ?_)
                · refine lv_aload_n hx hb dMod_alarm_78 rfl (lv_at hl 0 rfl) ?_
                  refine mg_i (v := mi (Mno_S σ c0) 16) FMod_103 hx hb hts hown hW dMod_alarm_79 rfl ?_
                  refine lv_bipush (v := (100 : Int32)) hx hb dMod_alarm_82 (by decide) ?_
                  refine lv_icmp_ne (tgt := 90) hx hb dMod_alarm_84 (by decide) (fun c_17 => ?_) (fun c_17 => ?_)
                  · refine lv_iload_n hx hb dMod_alarm_90 rfl (lv_at hl 2 rfl) ?_
                    refine lv_iconst (v := (1 : Int32)) hx hb dMod_alarm_91 (by decide) ?_
                    refine lv_icmp_ne (tgt := 107) hx hb dMod_alarm_92 (by decide) (fun c_18 => ?_) (fun c_18 => ?_)
                    · refine lv_aload_n hx hb dMod_alarm_107 rfl (lv_at hl 0 rfl) ?_
                      refine lv_dup hx hb dMod_alarm_108 rfl ?_
                      refine mg_i (v := mi (Mno_S σ c0) 16) FMod_103 hx hb hts hown hW dMod_alarm_109 rfl ?_
                      refine lv_iconst (v := (1 : Int32)) hx hb dMod_alarm_112 (by decide) ?_
                      refine lv_iadd hx hb dMod_alarm_113 ?_
                      refine mp_i FMod_103 GMod_alarms hx hb hts hown hW rfl rfl dMod_alarm_114 (fun H locs hW => ?_)
                      refine lv_aload_n hx hb dMod_alarm_117 rfl (lv_at hl 0 rfl) ?_
                      refine mg_a FMod_29 6 ⟨rfl, by decide⟩ hx hb hts hown hW dMod_alarm_118 ?_
                      refine lv_aload_n hx hb dMod_alarm_121 rfl (lv_at hl 0 rfl) ?_
                      refine mg_i (v := ((mi (Mno_S σ c0) 16) + (1 : Int32))) FMod_103 hx hb hts hown hW dMod_alarm_122 (ri_s) ?_
                      refine lv_iload_n hx hb dMod_alarm_125 rfl (lv_at hl 1 rfl) ?_
                      refine m_is (j := 6) (v := c0) ⟨by decide, rfl⟩ hx hb hW (rg.in (rg.add (rg_ne hO_2.2.1 rfl c_17) (show rg (1) (1) (1 : Int32) from ⟨by decide, by decide⟩) (by decide) (by decide)) (by decide) (by decide)) dMod_alarm_126 (fun H locs hW => ?_)
                      refine lv_aload_n hx hb dMod_alarm_127 rfl (lv_at hl 0 rfl) ?_
                      refine mg_a FMod_33 7 ⟨rfl, by decide⟩ hx hb hts hown hW dMod_alarm_128 ?_
                      refine lv_aload_n hx hb dMod_alarm_131 rfl (lv_at hl 0 rfl) ?_
                      refine mg_i (v := ((mi (Mno_S σ c0) 16) + (1 : Int32))) FMod_103 hx hb hts hown hW dMod_alarm_132 ((ri_a).trans (ri_s)) ?_
                      refine lv_iload_n hx hb dMod_alarm_135 rfl (lv_at hl 2 rfl) ?_
                      refine m_is (j := 7) (v := ac) ⟨by decide, rfl⟩ hx hb hW (rg.in (rg.add (rg_ne hO_2.2.1 rfl c_17) (show rg (1) (1) (1 : Int32) from ⟨by decide, by decide⟩) (by decide) (by decide)) (by decide) (by decide)) dMod_alarm_136 (fun H locs hW => ?_)
                      refine lv_aload_n hx hb dMod_alarm_137 rfl (lv_at hl 0 rfl) ?_
                      refine mg_a FMod_36 8 ⟨rfl, by decide⟩ hx hb hts hown hW dMod_alarm_138 ?_
                      refine lv_aload_n hx hb dMod_alarm_141 rfl (lv_at hl 0 rfl) ?_
                      refine mg_i (v := ((mi (Mno_S σ c0) 16) + (1 : Int32))) FMod_103 hx hb hts hown hW dMod_alarm_142 ((ri_a).trans ((ri_a).trans (ri_s))) ?_
                      refine lv_iload_n hx hb dMod_alarm_145 rfl (lv_at hl 3 rfl) ?_
                      refine m_is (j := 8) (v := of_) ⟨by decide, rfl⟩ hx hb hW (rg.in (rg.add (rg_ne hO_2.2.1 rfl c_17) (show rg (1) (1) (1 : Int32) from ⟨by decide, by decide⟩) (by decide) (by decide)) (by decide) (by decide)) dMod_alarm_146 (fun H locs hW => ?_)
                      refine lv_aload_n hx hb dMod_alarm_147 rfl (lv_at hl 0 rfl) ?_
                      refine mg_i (v := ((mi (Mno_S σ c0) 16) + (1 : Int32))) FMod_103 hx hb hts hown hW dMod_alarm_148 ((ri_a).trans ((ri_a).trans ((ri_a).trans (ri_s)))) ?_
                      exact e_i hsz hx hb hr hlk hW mono_hsM (Nat.le_refl _) (Nat.le_refl _) dMod_alarm_151 ⟨(Eq.symm (by refine (if_pos c_3).trans ?_; refine (if_neg c_4).trans ?_; refine (if_neg c_5).trans ?_; refine (if_pos c_6).trans ?_; refine (if_pos c_13).trans ?_; refine (if_neg c_14).trans ?_; refine (if_pos c_15).trans ?_; refine (if_neg c_17).trans ?_; rfl)), congrArg (hsM o z tt) (Eq.symm (by refine (if_pos c_3).trans ?_; refine (if_neg c_4).trans ?_; refine (if_neg c_5).trans ?_; refine (if_pos c_6).trans ?_; refine (if_pos c_13).trans ?_; refine (if_neg c_14).trans ?_; refine (if_pos c_15).trans ?_; refine (if_neg c_17).trans ?_; rfl))⟩
                    · exact absurd c_18 c_16
                  · refine lv_bipush (v := (-4 : Int32)) hx hb dMod_alarm_87 (by decide) ?_
                    exact e_i hsz hx hb hr hlk hW mono_hsM (Nat.le_refl _) (Nat.le_refl _) dMod_alarm_89 ⟨(Eq.symm (by refine (if_pos c_3).trans ?_; refine (if_neg c_4).trans ?_; refine (if_neg c_5).trans ?_; refine (if_pos c_6).trans ?_; refine (if_pos c_13).trans ?_; refine (if_neg c_14).trans ?_; refine (if_pos c_15).trans ?_; refine (if_pos c_17).trans ?_; rfl)), congrArg (hsM o z tt) (Eq.symm (by refine (if_pos c_3).trans ?_; refine (if_neg c_4).trans ?_; refine (if_neg c_5).trans ?_; refine (if_pos c_6).trans ?_; refine (if_pos c_13).trans ?_; refine (if_neg c_14).trans ?_; refine (if_pos c_15).trans ?_; refine (if_pos c_17).trans ?_; rfl))⟩
                · exact absurd c_16 c_5
              · refine lv_bipush (v := (-2 : Int32)) hx hb dMod_alarm_58 (by decide) ?_
                exact e_i hsz hx hb hr hlk hW mono_hsM (Nat.le_refl _) (Nat.le_refl _) dMod_alarm_60 ⟨(Eq.symm (by refine (if_pos c_3).trans ?_; refine (if_neg c_4).trans ?_; refine (if_neg c_5).trans ?_; refine (if_pos c_6).trans ?_; refine (if_pos c_13).trans ?_; refine (if_neg c_14).trans ?_; refine (if_neg c_15).trans ?_; rfl)), congrArg (hsM o z tt) (Eq.symm (by refine (if_pos c_3).trans ?_; refine (if_neg c_4).trans ?_; refine (if_neg c_5).trans ?_; refine (if_pos c_6).trans ?_; refine (if_pos c_13).trans ?_; refine (if_neg c_14).trans ?_; refine (if_neg c_15).trans ?_; rfl))⟩
          · refine lv_iconst (v := (-1 : Int32)) hx hb dMod_alarm_47 (by decide) ?_
            exact e_i hsz hx hb hr hlk hW mono_hsM (Nat.le_refl _) (Nat.le_refl _) dMod_alarm_48 ⟨(Eq.symm (by refine (if_pos c_3).trans ?_; refine (if_neg c_4).trans ?_; refine (if_neg c_5).trans ?_; refine (if_pos c_6).trans ?_; refine (if_neg c_13).trans ?_; rfl)), congrArg (hsM o z tt) (Eq.symm (by refine (if_pos c_3).trans ?_; refine (if_neg c_4).trans ?_; refine (if_neg c_5).trans ?_; refine (if_pos c_6).trans ?_; refine (if_neg c_13).trans ?_; rfl))⟩
      · refine lv_iload_n hx hb dMod_alarm_21 rfl (lv_at hl 3 rfl) ?_
        refine lv_iconst (v := (1 : Int32)) hx hb dMod_alarm_22 (by decide) ?_
        refine lv_icmp_lt (tgt := 47) hx hb dMod_alarm_23 (by decide) (fun c_19 => ?_) (fun c_19 => ?_)
        · refine lv_iconst (v := (-1 : Int32)) hx hb dMod_alarm_47 (by decide) ?_
          exact e_i hsz hx hb hr hlk hW mono_hsM (Nat.le_refl _) (Nat.le_refl _) dMod_alarm_48 ⟨(Eq.symm (by refine (if_pos c_3).trans ?_; refine (if_neg c_4).trans ?_; refine (if_pos c_5).trans ?_; refine (if_pos c_19).trans ?_; rfl)), congrArg (hsM o z tt) (Eq.symm (by refine (if_pos c_3).trans ?_; refine (if_neg c_4).trans ?_; refine (if_pos c_5).trans ?_; refine (if_pos c_19).trans ?_; rfl))⟩
        · refine lv_iload_n hx hb dMod_alarm_26 rfl (lv_at hl 3 rfl) ?_
          refine lv_aload_n hx hb dMod_alarm_27 rfl (lv_at hl 0 rfl) ?_
          refine mg_i (v := mi (Mno_S σ c0) 15) FMod_100 hx hb hts hown hW dMod_alarm_28 rfl ?_
          refine lv_icmp_gt (tgt := 47) hx hb dMod_alarm_31 (by decide) (fun c_20 => ?_) (fun c_20 => ?_)
          · refine lv_iconst (v := (-1 : Int32)) hx hb dMod_alarm_47 (by decide) ?_
            exact e_i hsz hx hb hr hlk hW mono_hsM (Nat.le_refl _) (Nat.le_refl _) dMod_alarm_48 ⟨(Eq.symm (by refine (if_pos c_3).trans ?_; refine (if_neg c_4).trans ?_; refine (if_pos c_5).trans ?_; refine (if_neg c_19).trans ?_; refine (if_pos c_20).trans ?_; rfl)), congrArg (hsM o z tt) (Eq.symm (by refine (if_pos c_3).trans ?_; refine (if_neg c_4).trans ?_; refine (if_pos c_5).trans ?_; refine (if_neg c_19).trans ?_; refine (if_pos c_20).trans ?_; rfl))⟩
          · refine lv_iload_n hx hb dMod_alarm_34 rfl (lv_at hl 2 rfl) ?_
            refine lv_iconst (v := (2 : Int32)) hx hb dMod_alarm_35 (by decide) ?_
            refine lv_icmp_ne (tgt := 49) hx hb dMod_alarm_36 (by decide) (fun c_21 => ?_) (fun c_21 => ?_)
            · refine lv_iload_n hx hb dMod_alarm_49 rfl (lv_at hl 2 rfl) ?_
              refine lv_if_lt (tgt := 58) hx hb dMod_alarm_50 (by decide) (fun c_22 => ?_) (fun c_22 => ?_)
              · refine lv_bipush (v := (-2 : Int32)) hx hb dMod_alarm_58 (by decide) ?_
                exact e_i hsz hx hb hr hlk hW mono_hsM (Nat.le_refl _) (Nat.le_refl _) dMod_alarm_60 ⟨(Eq.symm (by refine (if_pos c_3).trans ?_; refine (if_neg c_4).trans ?_; refine (if_pos c_5).trans ?_; refine (if_neg c_19).trans ?_; refine (if_neg c_20).trans ?_; refine (if_pos c_22).trans ?_; rfl)), congrArg (hsM o z tt) (Eq.symm (by refine (if_pos c_3).trans ?_; refine (if_neg c_4).trans ?_; refine (if_pos c_5).trans ?_; refine (if_neg c_19).trans ?_; refine (if_neg c_20).trans ?_; refine (if_pos c_22).trans ?_; rfl))⟩
              · refine lv_iload_n hx hb dMod_alarm_53 rfl (lv_at hl 2 rfl) ?_
                refine lv_iconst (v := (2 : Int32)) hx hb dMod_alarm_54 (by decide) ?_
                refine lv_icmp_le (tgt := 61) hx hb dMod_alarm_55 (by decide) (fun c_23 => ?_) (fun c_23 => ?_)
                · refine lv_iload_n hx hb dMod_alarm_61 rfl (lv_at hl 2 rfl) ?_
                  refine lv_iconst (v := (1 : Int32)) hx hb dMod_alarm_62 (by decide) ?_
                  refine lv_icmp_ne (tgt := 78) hx hb dMod_alarm_63 (by decide) (fun c_24 => ?_) (fun c_24 => ?_)
                  · exact absurd c_5 c_24
                  · refine lv_aload_n hx hb dMod_alarm_66 rfl (lv_at hl 0 rfl) ?_
                    refine lv_iload_n hx hb dMod_alarm_67 rfl (lv_at hl 3 rfl) ?_
                    refine lv_iload_n hx hb dMod_alarm_68 rfl (lv_at hl 1 rfl) ?_
                    refine k_Vi (K := 9) (As := [.int of_, .int c0]) (rest := []) (c_MleadsTo l D AC o z tt (Mno_S σ c0) of_ c0 ((Mno_rg hO c_3).wk (by decide) (by decide))) CMod_120 ⟨by decide, by decide, _, rfl, rfl⟩ hx hb hml hown hts hW hsM_k hl.1 rfl rfl (Nat.le_of_ble_eq_true rfl) ⟨⟨Nat.le_of_ble_eq_true rfl, Nat.le_of_ble_eq_true rfl⟩, ⟨Nat.le_of_ble_eq_true rfl, Nat.le_of_ble_eq_true rfl⟩⟩ dMod_alarm_69 (fun r_25 S_25 H locs e_25 hW _ _ => ?_)
                    obtain ⟨e1_25, e2_25⟩ := e_25
                    rw [e2_25] at hW
                    rw [e1_25]
                    have hO_26 : mOk (MleadsTo_S (Mno_S σ c0) of_ c0) := mOk_leadsTo hO_2
                    refine lv_if_eq (tgt := 78) hx hb dMod_alarm_72 (by decide) (fun c_27 => ?_) (fun c_27 => ?_)
                    · refine lv_aload_n hx hb dMod_alarm_78 rfl (lv_at hl 0 rfl) ?_
                      refine mg_i (v := mi (MleadsTo_S (Mno_S σ c0) of_ c0) 16) FMod_103 hx hb hts hown hW dMod_alarm_79 rfl ?_
                      refine lv_bipush (v := (100 : Int32)) hx hb dMod_alarm_82 (by decide) ?_
                      refine lv_icmp_ne (tgt := 90) hx hb dMod_alarm_84 (by decide) (fun c_28 => ?_) (fun c_28 => ?_)
                      · refine lv_iload_n hx hb dMod_alarm_90 rfl (lv_at hl 2 rfl) ?_
                        refine lv_iconst (v := (1 : Int32)) hx hb dMod_alarm_91 (by decide) ?_
                        refine lv_icmp_ne (tgt := 107) hx hb dMod_alarm_92 (by decide) (fun c_29 => ?_) (fun c_29 => ?_)
                        · exact absurd c_24 c_29
                        · refine lv_aload_n hx hb dMod_alarm_95 rfl (lv_at hl 0 rfl) ?_
                          refine mg_a FMod_22 4 ⟨rfl, by decide⟩ hx hb hts hown hW dMod_alarm_96 ?_
                          refine lv_bipush (v := (21 : Int32)) hx hb dMod_alarm_99 (by decide) ?_
                          refine lv_iload_n hx hb dMod_alarm_101 rfl (lv_at hl 1 rfl) ?_
                          refine lv_imul hx hb dMod_alarm_102 ?_
                          refine lv_iload_n hx hb dMod_alarm_103 rfl (lv_at hl 3 rfl) ?_
                          refine lv_iadd hx hb dMod_alarm_104 ?_
                          refine lv_iconst (v := (1 : Int32)) hx hb dMod_alarm_105 (by decide) ?_
                          refine m_zs (j := 4) (v := (1 : Int32)) ⟨by decide, rfl⟩ hx hb hW (rg.in (rg.add (rg.m21 (Mno_rg hO c_3) (by decide) (by decide)) (rg_of1 (mOk_no hO) c_19 c_20) (by decide) (by decide)) (by decide) (by decide)) (by decide) dMod_alarm_106 (fun H locs hW => ?_)
                          refine lv_aload_n hx hb dMod_alarm_107 rfl (lv_at hl 0 rfl) ?_
                          refine lv_dup hx hb dMod_alarm_108 rfl ?_
                          refine mg_i (v := mi (MleadsTo_S (Mno_S σ c0) of_ c0) 16) FMod_103 hx hb hts hown hW dMod_alarm_109 (ri_a) ?_
                          refine lv_iconst (v := (1 : Int32)) hx hb dMod_alarm_112 (by decide) ?_
                          refine lv_iadd hx hb dMod_alarm_113 ?_
                          refine mp_i FMod_103 GMod_alarms hx hb hts hown hW rfl rfl dMod_alarm_114 (fun H locs hW => ?_)
                          refine lv_aload_n hx hb dMod_alarm_117 rfl (lv_at hl 0 rfl) ?_
                          refine mg_a FMod_29 6 ⟨rfl, by decide⟩ hx hb hts hown hW dMod_alarm_118 ?_
                          refine lv_aload_n hx hb dMod_alarm_121 rfl (lv_at hl 0 rfl) ?_
                          refine mg_i (v := ((mi (MleadsTo_S (Mno_S σ c0) of_ c0) 16) + (1 : Int32))) FMod_103 hx hb hts hown hW dMod_alarm_122 (ri_s) ?_
                          refine lv_iload_n hx hb dMod_alarm_125 rfl (lv_at hl 1 rfl) ?_
                          refine m_is (j := 6) (v := c0) ⟨by decide, rfl⟩ hx hb hW (rg.in (rg.add (rg_ne hO_26.2.1 rfl c_28) (show rg (1) (1) (1 : Int32) from ⟨by decide, by decide⟩) (by decide) (by decide)) (by decide) (by decide)) dMod_alarm_126 (fun H locs hW => ?_)
                          refine lv_aload_n hx hb dMod_alarm_127 rfl (lv_at hl 0 rfl) ?_
                          refine mg_a FMod_33 7 ⟨rfl, by decide⟩ hx hb hts hown hW dMod_alarm_128 ?_
                          refine lv_aload_n hx hb dMod_alarm_131 rfl (lv_at hl 0 rfl) ?_
                          refine mg_i (v := ((mi (MleadsTo_S (Mno_S σ c0) of_ c0) 16) + (1 : Int32))) FMod_103 hx hb hts hown hW dMod_alarm_132 ((ri_a).trans (ri_s)) ?_
                          refine lv_iload_n hx hb dMod_alarm_135 rfl (lv_at hl 2 rfl) ?_
                          refine m_is (j := 7) (v := ac) ⟨by decide, rfl⟩ hx hb hW (rg.in (rg.add (rg_ne hO_26.2.1 rfl c_28) (show rg (1) (1) (1 : Int32) from ⟨by decide, by decide⟩) (by decide) (by decide)) (by decide) (by decide)) dMod_alarm_136 (fun H locs hW => ?_)
                          refine lv_aload_n hx hb dMod_alarm_137 rfl (lv_at hl 0 rfl) ?_
                          refine mg_a FMod_36 8 ⟨rfl, by decide⟩ hx hb hts hown hW dMod_alarm_138 ?_
                          refine lv_aload_n hx hb dMod_alarm_141 rfl (lv_at hl 0 rfl) ?_
                          refine mg_i (v := ((mi (MleadsTo_S (Mno_S σ c0) of_ c0) 16) + (1 : Int32))) FMod_103 hx hb hts hown hW dMod_alarm_142 ((ri_a).trans ((ri_a).trans (ri_s))) ?_
                          refine lv_iload_n hx hb dMod_alarm_145 rfl (lv_at hl 3 rfl) ?_
                          refine m_is (j := 8) (v := of_) ⟨by decide, rfl⟩ hx hb hW (rg.in (rg.add (rg_ne hO_26.2.1 rfl c_28) (show rg (1) (1) (1 : Int32) from ⟨by decide, by decide⟩) (by decide) (by decide)) (by decide) (by decide)) dMod_alarm_146 (fun H locs hW => ?_)
                          refine lv_aload_n hx hb dMod_alarm_147 rfl (lv_at hl 0 rfl) ?_
                          refine mg_i (v := ((mi (MleadsTo_S (Mno_S σ c0) of_ c0) 16) + (1 : Int32))) FMod_103 hx hb hts hown hW dMod_alarm_148 ((ri_a).trans ((ri_a).trans ((ri_a).trans (ri_s)))) ?_
                          exact e_i hsz hx hb hr hlk hW mono_hsM (Nat.le_refl _) (Nat.le_refl _) dMod_alarm_151 ⟨(Eq.symm (by refine (if_pos c_3).trans ?_; refine (if_neg c_4).trans ?_; refine (if_pos c_5).trans ?_; refine (if_neg c_19).trans ?_; refine (if_neg c_20).trans ?_; refine (if_neg c_22).trans ?_; refine (if_pos c_23).trans ?_; refine (if_pos c_27).trans ?_; refine (if_neg c_28).trans ?_; rfl)), congrArg (hsM o z tt) (Eq.symm (by refine (if_pos c_3).trans ?_; refine (if_neg c_4).trans ?_; refine (if_pos c_5).trans ?_; refine (if_neg c_19).trans ?_; refine (if_neg c_20).trans ?_; refine (if_neg c_22).trans ?_; refine (if_pos c_23).trans ?_; refine (if_pos c_27).trans ?_; refine (if_neg c_28).trans ?_; rfl))⟩
                      · refine lv_bipush (v := (-4 : Int32)) hx hb dMod_alarm_87 (by decide) ?_
                        exact e_i hsz hx hb hr hlk hW mono_hsM (Nat.le_refl _) (Nat.le_refl _) dMod_alarm_89 ⟨(Eq.symm (by refine (if_pos c_3).trans ?_; refine (if_neg c_4).trans ?_; refine (if_pos c_5).trans ?_; refine (if_neg c_19).trans ?_; refine (if_neg c_20).trans ?_; refine (if_neg c_22).trans ?_; refine (if_pos c_23).trans ?_; refine (if_pos c_27).trans ?_; refine (if_pos c_28).trans ?_; rfl)), congrArg (hsM o z tt) (Eq.symm (by refine (if_pos c_3).trans ?_; refine (if_neg c_4).trans ?_; refine (if_pos c_5).trans ?_; refine (if_neg c_19).trans ?_; refine (if_neg c_20).trans ?_; refine (if_neg c_22).trans ?_; refine (if_pos c_23).trans ?_; refine (if_pos c_27).trans ?_; refine (if_pos c_28).trans ?_; rfl))⟩
                    · refine lv_bipush (v := (-3 : Int32)) hx hb dMod_alarm_75 (by decide) ?_
                      exact e_i hsz hx hb hr hlk hW mono_hsM (Nat.le_refl _) (Nat.le_refl _) dMod_alarm_77 ⟨(Eq.symm (by refine (if_pos c_3).trans ?_; refine (if_neg c_4).trans ?_; refine (if_pos c_5).trans ?_; refine (if_neg c_19).trans ?_; refine (if_neg c_20).trans ?_; refine (if_neg c_22).trans ?_; refine (if_pos c_23).trans ?_; refine (if_neg c_27).trans ?_; rfl)), congrArg (hsM o z tt) (Eq.symm (by refine (if_pos c_3).trans ?_; refine (if_neg c_4).trans ?_; refine (if_pos c_5).trans ?_; refine (if_neg c_19).trans ?_; refine (if_neg c_20).trans ?_; refine (if_neg c_22).trans ?_; refine (if_pos c_23).trans ?_; refine (if_neg c_27).trans ?_; rfl))⟩
                · refine lv_bipush (v := (-2 : Int32)) hx hb dMod_alarm_58 (by decide) ?_
                  exact e_i hsz hx hb hr hlk hW mono_hsM (Nat.le_refl _) (Nat.le_refl _) dMod_alarm_60 ⟨(Eq.symm (by refine (if_pos c_3).trans ?_; refine (if_neg c_4).trans ?_; refine (if_pos c_5).trans ?_; refine (if_neg c_19).trans ?_; refine (if_neg c_20).trans ?_; refine (if_neg c_22).trans ?_; refine (if_neg c_23).trans ?_; rfl)), congrArg (hsM o z tt) (Eq.symm (by refine (if_pos c_3).trans ?_; refine (if_neg c_4).trans ?_; refine (if_pos c_5).trans ?_; refine (if_neg c_19).trans ?_; refine (if_neg c_20).trans ?_; refine (if_neg c_22).trans ?_; refine (if_neg c_23).trans ?_; rfl))⟩
            · exact absurd c_21 (fun q => absurd (c_5.symm.trans q) (by decide))
    · refine lv_iload_n hx hb dMod_alarm_12 rfl (lv_at hl 3 rfl) ?_
      refine lv_if_ne (tgt := 47) hx hb dMod_alarm_13 (by decide) (fun c_30 => ?_) (fun c_30 => ?_)
      · refine lv_iconst (v := (-1 : Int32)) hx hb dMod_alarm_47 (by decide) ?_
        exact e_i hsz hx hb hr hlk hW mono_hsM (Nat.le_refl _) (Nat.le_refl _) dMod_alarm_48 ⟨(Eq.symm (by refine (if_pos c_3).trans ?_; refine (if_pos c_4).trans ?_; refine (if_neg c_30).trans ?_; rfl)), congrArg (hsM o z tt) (Eq.symm (by refine (if_pos c_3).trans ?_; refine (if_pos c_4).trans ?_; refine (if_neg c_30).trans ?_; rfl))⟩
      · refine lv_iload_n hx hb dMod_alarm_16 rfl (lv_at hl 2 rfl) ?_
        refine lv_iconst (v := (1 : Int32)) hx hb dMod_alarm_17 (by decide) ?_
        refine lv_icmp_ne (tgt := 34) hx hb dMod_alarm_18 (by decide) (fun c_31 => ?_) (fun c_31 => ?_)
        · refine lv_iload_n hx hb dMod_alarm_34 rfl (lv_at hl 2 rfl) ?_
          refine lv_iconst (v := (2 : Int32)) hx hb dMod_alarm_35 (by decide) ?_
          refine lv_icmp_ne (tgt := 49) hx hb dMod_alarm_36 (by decide) (fun c_32 => ?_) (fun c_32 => ?_)
          · refine lv_iload_n hx hb dMod_alarm_49 rfl (lv_at hl 2 rfl) ?_
            refine lv_if_lt (tgt := 58) hx hb dMod_alarm_50 (by decide) (fun c_33 => ?_) (fun c_33 => ?_)
            · refine lv_bipush (v := (-2 : Int32)) hx hb dMod_alarm_58 (by decide) ?_
              exact e_i hsz hx hb hr hlk hW mono_hsM (Nat.le_refl _) (Nat.le_refl _) dMod_alarm_60 ⟨(Eq.symm (by refine (if_pos c_3).trans ?_; refine (if_pos c_4).trans ?_; refine (if_pos c_30).trans ?_; refine (if_pos c_33).trans ?_; rfl)), congrArg (hsM o z tt) (Eq.symm (by refine (if_pos c_3).trans ?_; refine (if_pos c_4).trans ?_; refine (if_pos c_30).trans ?_; refine (if_pos c_33).trans ?_; rfl))⟩
            · refine lv_iload_n hx hb dMod_alarm_53 rfl (lv_at hl 2 rfl) ?_
              refine lv_iconst (v := (2 : Int32)) hx hb dMod_alarm_54 (by decide) ?_
              refine lv_icmp_le (tgt := 61) hx hb dMod_alarm_55 (by decide) (fun c_34 => ?_) (fun c_34 => ?_)
              · refine lv_iload_n hx hb dMod_alarm_61 rfl (lv_at hl 2 rfl) ?_
                refine lv_iconst (v := (1 : Int32)) hx hb dMod_alarm_62 (by decide) ?_
                refine lv_icmp_ne (tgt := 78) hx hb dMod_alarm_63 (by decide) (fun c_35 => ?_) (fun c_35 => ?_)
                · refine lv_aload_n hx hb dMod_alarm_78 rfl (lv_at hl 0 rfl) ?_
                  refine mg_i (v := mi (Mno_S σ c0) 16) FMod_103 hx hb hts hown hW dMod_alarm_79 rfl ?_
                  refine lv_bipush (v := (100 : Int32)) hx hb dMod_alarm_82 (by decide) ?_
                  refine lv_icmp_ne (tgt := 90) hx hb dMod_alarm_84 (by decide) (fun c_36 => ?_) (fun c_36 => ?_)
                  · refine lv_iload_n hx hb dMod_alarm_90 rfl (lv_at hl 2 rfl) ?_
                    refine lv_iconst (v := (1 : Int32)) hx hb dMod_alarm_91 (by decide) ?_
                    refine lv_icmp_ne (tgt := 107) hx hb dMod_alarm_92 (by decide) (fun c_37 => ?_) (fun c_37 => ?_)
                    · refine lv_aload_n hx hb dMod_alarm_107 rfl (lv_at hl 0 rfl) ?_
                      refine lv_dup hx hb dMod_alarm_108 rfl ?_
                      refine mg_i (v := mi (Mno_S σ c0) 16) FMod_103 hx hb hts hown hW dMod_alarm_109 rfl ?_
                      refine lv_iconst (v := (1 : Int32)) hx hb dMod_alarm_112 (by decide) ?_
                      refine lv_iadd hx hb dMod_alarm_113 ?_
                      refine mp_i FMod_103 GMod_alarms hx hb hts hown hW rfl rfl dMod_alarm_114 (fun H locs hW => ?_)
                      refine lv_aload_n hx hb dMod_alarm_117 rfl (lv_at hl 0 rfl) ?_
                      refine mg_a FMod_29 6 ⟨rfl, by decide⟩ hx hb hts hown hW dMod_alarm_118 ?_
                      refine lv_aload_n hx hb dMod_alarm_121 rfl (lv_at hl 0 rfl) ?_
                      refine mg_i (v := ((mi (Mno_S σ c0) 16) + (1 : Int32))) FMod_103 hx hb hts hown hW dMod_alarm_122 (ri_s) ?_
                      refine lv_iload_n hx hb dMod_alarm_125 rfl (lv_at hl 1 rfl) ?_
                      refine m_is (j := 6) (v := c0) ⟨by decide, rfl⟩ hx hb hW (rg.in (rg.add (rg_ne hO_2.2.1 rfl c_36) (show rg (1) (1) (1 : Int32) from ⟨by decide, by decide⟩) (by decide) (by decide)) (by decide) (by decide)) dMod_alarm_126 (fun H locs hW => ?_)
                      refine lv_aload_n hx hb dMod_alarm_127 rfl (lv_at hl 0 rfl) ?_
                      refine mg_a FMod_33 7 ⟨rfl, by decide⟩ hx hb hts hown hW dMod_alarm_128 ?_
                      refine lv_aload_n hx hb dMod_alarm_131 rfl (lv_at hl 0 rfl) ?_
                      refine mg_i (v := ((mi (Mno_S σ c0) 16) + (1 : Int32))) FMod_103 hx hb hts hown hW dMod_alarm_132 ((ri_a).trans (ri_s)) ?_
                      refine lv_iload_n hx hb dMod_alarm_135 rfl (lv_at hl 2 rfl) ?_
                      refine m_is (j := 7) (v := ac) ⟨by decide, rfl⟩ hx hb hW (rg.in (rg.add (rg_ne hO_2.2.1 rfl c_36) (show rg (1) (1) (1 : Int32) from ⟨by decide, by decide⟩) (by decide) (by decide)) (by decide) (by decide)) dMod_alarm_136 (fun H locs hW => ?_)
                      refine lv_aload_n hx hb dMod_alarm_137 rfl (lv_at hl 0 rfl) ?_
                      refine mg_a FMod_36 8 ⟨rfl, by decide⟩ hx hb hts hown hW dMod_alarm_138 ?_
                      refine lv_aload_n hx hb dMod_alarm_141 rfl (lv_at hl 0 rfl) ?_
                      refine mg_i (v := ((mi (Mno_S σ c0) 16) + (1 : Int32))) FMod_103 hx hb hts hown hW dMod_alarm_142 ((ri_a).trans ((ri_a).trans (ri_s))) ?_
                      refine lv_iload_n hx hb dMod_alarm_145 rfl (lv_at hl 3 rfl) ?_
                      refine m_is (j := 8) (v := of_) ⟨by decide, rfl⟩ hx hb hW (rg.in (rg.add (rg_ne hO_2.2.1 rfl c_36) (show rg (1) (1) (1 : Int32) from ⟨by decide, by decide⟩) (by decide) (by decide)) (by decide) (by decide)) dMod_alarm_146 (fun H locs hW => ?_)
                      refine lv_aload_n hx hb dMod_alarm_147 rfl (lv_at hl 0 rfl) ?_
                      refine mg_i (v := ((mi (Mno_S σ c0) 16) + (1 : Int32))) FMod_103 hx hb hts hown hW dMod_alarm_148 ((ri_a).trans ((ri_a).trans ((ri_a).trans (ri_s)))) ?_
                      exact e_i hsz hx hb hr hlk hW mono_hsM (Nat.le_refl _) (Nat.le_refl _) dMod_alarm_151 ⟨(Eq.symm (by refine (if_pos c_3).trans ?_; refine (if_pos c_4).trans ?_; refine (if_pos c_30).trans ?_; refine (if_neg c_33).trans ?_; refine (if_pos c_34).trans ?_; refine (if_neg c_36).trans ?_; rfl)), congrArg (hsM o z tt) (Eq.symm (by refine (if_pos c_3).trans ?_; refine (if_pos c_4).trans ?_; refine (if_pos c_30).trans ?_; refine (if_neg c_33).trans ?_; refine (if_pos c_34).trans ?_; refine (if_neg c_36).trans ?_; rfl))⟩
                    · exact absurd c_37 c_35
                  · refine lv_bipush (v := (-4 : Int32)) hx hb dMod_alarm_87 (by decide) ?_
                    exact e_i hsz hx hb hr hlk hW mono_hsM (Nat.le_refl _) (Nat.le_refl _) dMod_alarm_89 ⟨(Eq.symm (by refine (if_pos c_3).trans ?_; refine (if_pos c_4).trans ?_; refine (if_pos c_30).trans ?_; refine (if_neg c_33).trans ?_; refine (if_pos c_34).trans ?_; refine (if_pos c_36).trans ?_; rfl)), congrArg (hsM o z tt) (Eq.symm (by refine (if_pos c_3).trans ?_; refine (if_pos c_4).trans ?_; refine (if_pos c_30).trans ?_; refine (if_neg c_33).trans ?_; refine (if_pos c_34).trans ?_; refine (if_pos c_36).trans ?_; rfl))⟩
                · exact absurd c_35 c_31
              · refine lv_bipush (v := (-2 : Int32)) hx hb dMod_alarm_58 (by decide) ?_
                exact e_i hsz hx hb hr hlk hW mono_hsM (Nat.le_refl _) (Nat.le_refl _) dMod_alarm_60 ⟨(Eq.symm (by refine (if_pos c_3).trans ?_; refine (if_pos c_4).trans ?_; refine (if_pos c_30).trans ?_; refine (if_neg c_33).trans ?_; refine (if_neg c_34).trans ?_; rfl)), congrArg (hsM o z tt) (Eq.symm (by refine (if_pos c_3).trans ?_; refine (if_pos c_4).trans ?_; refine (if_pos c_30).trans ?_; refine (if_neg c_33).trans ?_; refine (if_neg c_34).trans ?_; rfl))⟩
          · exact absurd c_32 (fun q => absurd (c_4.symm.trans q) (by decide))
        · exact absurd c_31 (fun q => absurd (c_4.symm.trans q) (by decide))
