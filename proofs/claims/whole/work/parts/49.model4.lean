def goIt : Nat → MS → MS
  | 0, σ => σ
  | n + 1, σ => goIt n (Mgo_S σ)
/-- what a turn of the model's loop asks for -/
def goOk (σ : MS) : Prop := mOk σ ∧ mAc σ ∧ rg 1 23 (mi σ 20) ∧ ¬ mi σ 18 < 0 ∧ ¬ ml σ 0 (stC σ).toNatClampNeg = 0 ∧ (¬ gOn σ ≤ 0 → ¬ ml σ 0 (ma σ 12 (gOn σ).toNatClampNeg).toNatClampNeg = 0)
/-- the loop ends after n turns -/
def runs : Nat → MS → Prop
  | 0, σ => mi σ 20 ≤ 0
  | n + 1, σ => ¬ mi σ 20 ≤ 0 ∧ goOk σ ∧ runs n (Mgo_S σ)
theorem runs_one : ∀ (n n' : Nat) (σ : MS), runs n σ → runs n' σ → n = n'
  | 0, 0, _, _, _ => rfl
  | 0, _ + 1, _, h, h' => absurd h h'.1
  | _ + 1, 0, _, h, h' => absurd h' h.1
  | n + 1, n' + 1, σ, h, h' => congrArg (· + 1) (runs_one n n' _ h.2.2 h'.2.2)
noncomputable def goEnd (σ : MS) : MS := goIt (Classical.epsilon (fun n => runs n σ)) σ
theorem goEnd_of {σ : MS} {n : Nat} (h : runs n σ) : goEnd σ = goIt n σ := by
  unfold goEnd
  rw [runs_one _ _ _ (Classical.epsilon_spec (p := fun n => runs n σ) ⟨n, h⟩) h]
noncomputable def tkM (c0 : Int32) : Nat → MS → MS
  | 0, σ => σ
  | k + 1, σ => tkM c0 k (goEnd (MmakeStep_S (smi σ 20 (0 : Int32)) c0))
def tkOk (c0 : Int32) (tk : Int64) : Nat → MS → Prop
  | 0, σ => ml σ 1 c0.toNatClampNeg = tk
  | k + 1, σ => ml σ 1 c0.toNatClampNeg = tk ∧ (∃ n, runs n (MmakeStep_S (smi σ 20 (0 : Int32)) c0)) ∧ tkOk c0 tk k (goEnd (MmakeStep_S (smi σ 20 (0 : Int32)) c0))
theorem tkOk_t {c0 : Int32} {tk : Int64} : ∀ {k : Nat} {σ : MS}, tkOk c0 tk k σ → ml σ 1 c0.toNatClampNeg = tk
  | 0, _, h => h
  | _ + 1, _, h => h.1

theorem Mno_ml {σ : MS} {c0 : Int32} {j i : Nat} : ml (Mno_S σ c0) j i = ml σ j i := by rw [Mno_Se]; rfl
/-- the steps that a call makes; the model as they begin -/
abbrev MtA (σ : MS) (c0 : Int32) (n0 : Int64) : Int64 := (ml σ 2 c0.toNatClampNeg) + n0
abbrev MtD (σ : MS) (c0 : Int32) (n0 : Int64) : Int64 := (MtA σ c0 n0) / (ml σ 1 c0.toNatClampNeg)
def Mt1 (σ : MS) (c0 : Int32) (n0 : Int64) : MS := sml (smi (Mno_S σ c0) 19 (0 : Int32)) 2 c0.toNatClampNeg ((MtA σ c0 n0) - (MtA σ c0 n0) / (ml σ 1 c0.toNatClampNeg) * (ml σ 1 c0.toNatClampNeg))
noncomputable def Mtick_S (σ : MS) (c0 : Int32) (n0 : Int64) : MS :=
  if Mno_R σ c0 = 0 then (if n0 < (0 : Int64) then Mno_S σ c0 else if (100000 : Int64) < n0 then Mno_S σ c0 else if (5000 : Int64) < MtD σ c0 n0 then Mno_S σ c0 else tkM c0 (MtD σ c0 n0).toNatClampNeg (Mt1 σ c0 n0)) else Mno_S σ c0
noncomputable def Mtick_R (σ : MS) (c0 : Int32) (n0 : Int64) : Int32 :=
  if Mno_R σ c0 = 0 then (if n0 < (0 : Int64) then -2 else if (100000 : Int64) < n0 then -2 else if (5000 : Int64) < MtD σ c0 n0 then -2 else mi (Mtick_S σ c0 n0) 18 - mi (Mno_S σ c0) 18) else -1

set_option maxRecDepth 20000 in
set_option maxHeartbeats 2000000 in
theorem c_Mtick (l : Launch) (D : va_G) (AC : Nat → ClassId) (o z tt : Nat) (σ : MS) (c0 : Int32) (n0 : Int64) (hO : mOk σ) (hT : Mno_R σ c0 = 0 → ¬ ml σ 1 c0.toNatClampNeg = 0) (hrun : Mno_R σ c0 = 0 → ¬ n0 < (0 : Int64) → ¬ (100000 : Int64) < n0 → ¬ (5000 : Int64) < MtD σ c0 n0 → ¬ ml σ 1 c0.toNatClampNeg = 0 ∧ tkOk c0 (ml σ 1 c0.toNatClampNeg) (MtD σ c0 n0).toNatClampNeg (Mt1 σ c0 n0)) : CtI l yMod_tick (Cond.code yMod_tick cMod_tick 9 (some .int) :: wT) 5 180 D AC (hsM o z tt σ) [.ref o, .int c0, .long n0] 0 0 (fun r S' => r = Mtick_R σ c0 n0 ∧ S' = hsM o z tt (Mtick_S σ c0 n0)) := by
  refine met_of (by decide) (Nat.le_of_ble_eq_true rfl) ?_
  intro p e s m below meth c ls hsz X hW hl
  obtain ⟨hx, hb, hml, hr, hlk, hown, hnm, hts⟩ := X
  have hl : lv_has ls 9 [(0, .ref o), (1, .int c0), (2, .long n0)] := hl
  have inner : ∀ (bf : Int32) (al0 kk0 : Int64) (n : Nat) (σ1 : MS), runs n σ1 → (∀ H locs ls, Wd D AC (AS (hL (hsM o z tt σ)) s.heap.size) s s.heap H locs (hsM o z tt (goIt n σ1)) → lv_has ls 9 [(0, .ref o), (1, .int c0), (4, .int bf), (5, .long al0), (7, .long kk0)] → W p l e (rmOf 5 0 0 180) s m ([.ref o, .int c0, .long n0] : List Value).toArray below meth c H locs 0 0 (MQ below (va_Qi (fun r S' => r = Mtick_R σ c0 n0 ∧ S' = hsM o z tt (Mtick_S σ c0 n0)) (CB D AC (hsM o z tt σ)) (AS (hL (hsM o z tt σ)) (hz (hsM o z tt σ)))) ([.ref o, .int c0, .long n0] : List Value).toArray s 0 0 (AS (hL (hsM o z tt σ)) (hz (hsM o z tt σ)))) (F0 m 127 ls [])) → ∀ H locs ls, Wd D AC (AS (hL (hsM o z tt σ)) s.heap.size) s s.heap H locs (hsM o z tt σ1) → lv_has ls 9 [(0, .ref o), (1, .int c0), (4, .int bf), (5, .long al0), (7, .long kk0)] → W p l e (rmOf 5 0 0 180) s m ([.ref o, .int c0, .long n0] : List Value).toArray below meth c H locs 0 0 (MQ below (va_Qi (fun r S' => r = Mtick_R σ c0 n0 ∧ S' = hsM o z tt (Mtick_S σ c0 n0)) (CB D AC (hsM o z tt σ)) (AS (hL (hsM o z tt σ)) (hz (hsM o z tt σ)))) ([.ref o, .int c0, .long n0] : List Value).toArray s 0 0 (AS (hL (hsM o z tt σ)) (hz (hsM o z tt σ)))) (F0 m 113 ls []) := by
    intro bf al0 kk0 n
    induction n with
    | zero =>
      intro σ1 hn kk H locs ls hW hl
      refine lv_aload_n hx hb dMod_tick_113 rfl (lv_at hl 0 rfl) ?_
      refine mg_i (v := mi σ1 20) FMod_140 hx hb hts hown hW dMod_tick_114 rfl ?_
      refine lv_if_le (tgt := 127) hx hb dMod_tick_117 (by decide) (fun c_1 => ?_) (fun c_1 => ?_)
      · exact kk H locs ls hW (lv_sub hl [0, 1, 2, 3, 4] rfl)
      · exact absurd hn c_1
    | succ n ih =>
      intro σ1 hn kk H locs ls hW hl
      refine lv_aload_n hx hb dMod_tick_113 rfl (lv_at hl 0 rfl) ?_
      refine mg_i (v := mi σ1 20) FMod_140 hx hb hts hown hW dMod_tick_114 rfl ?_
      refine lv_if_le (tgt := 127) hx hb dMod_tick_117 (by decide) (fun c_1 => ?_) (fun c_1 => ?_)
      · exact absurd c_1 hn.1
      · refine lv_aload_n hx hb dMod_tick_120 rfl (lv_at hl 0 rfl) ?_
        refine k_Vv (K := 9) (As := []) (rest := []) (c_Mgo l D AC o z tt σ1 hn.2.1.1 hn.2.1.2.1 hn.2.1.2.2.1 hn.2.1.2.2.2.1 hn.2.1.2.2.2.2.1 hn.2.1.2.2.2.2.2) CMod_180 ⟨by decide, by decide, _, rfl, rfl⟩ hx hb hml hown hts hW hsM_k hl.1 rfl rfl (Nat.le_of_ble_eq_true rfl) ⟨⟨Nat.le_of_ble_eq_true rfl, Nat.le_of_ble_eq_true rfl⟩, ⟨Nat.le_of_ble_eq_true rfl, Nat.le_of_ble_eq_true rfl⟩⟩ dMod_tick_121 (fun S_2 H locs e_2 hW _ _ => ?_)
        rw [e_2] at hW
        refine lv_goto (tgt := 113) hx hb dMod_tick_124 (by decide) ?_
        exact ih (Mgo_S σ1) hn.2.2 kk H locs ls hW (lv_sub hl [0, 1, 2, 3, 4] rfl)
  have outer : ∀ (bf : Int32) (al0 : Int64), rg 1 20 c0 → ¬ ml σ 1 c0.toNatClampNeg = 0 → ¬ (5000 : Int64) < al0 / ml σ 1 c0.toNatClampNeg → mi (Mtick_S σ c0 n0) 18 - bf = Mtick_R σ c0 n0 → ∀ (k j : Nat) (σ1 : MS), j + k = (al0 / ml σ 1 c0.toNatClampNeg).toNatClampNeg → tkOk c0 (ml σ 1 c0.toNatClampNeg) k σ1 → tkM c0 k σ1 = Mtick_S σ c0 n0 → ∀ H locs ls, Wd D AC (AS (hL (hsM o z tt σ)) s.heap.size) s s.heap H locs (hsM o z tt σ1) → lv_has ls 9 [(0, .ref o), (1, .int c0), (4, .int bf), (5, .long al0), (7, .long (lN j))] → W p l e (rmOf 5 0 0 180) s m ([.ref o, .int c0, .long n0] : List Value).toArray below meth c H locs 0 0 (MQ below (va_Qi (fun r S' => r = Mtick_R σ c0 n0 ∧ S' = hsM o z tt (Mtick_S σ c0 n0)) (CB D AC (hsM o z tt σ)) (AS (hL (hsM o z tt σ)) (hz (hsM o z tt σ)))) ([.ref o, .int c0, .long n0] : List Value).toArray s 0 0 (AS (hL (hsM o z tt σ)) (hz (hsM o z tt σ)))) (F0 m 88 ls []) := by
    intro bf al0 hc hT0 hd hR k
    induction k with
    | zero =>
      intro j σ1 hj hok hv H locs ls hW hl
      have htk := tkOk_t hok
      refine lv_lload hx hb dMod_tick_88 (lv_at hl 4 rfl) ?_
      refine lv_lload hx hb dMod_tick_90 (lv_at hl 3 rfl) ?_
      refine lv_aload_n hx hb dMod_tick_92 rfl (lv_at hl 0 rfl) ?_
      refine mg_a FMod_13 1 ⟨rfl, by decide⟩ hx hb hts hown hW dMod_tick_93 ?_
      refine lv_iload_n hx hb dMod_tick_96 rfl (lv_at hl 1 rfl) ?_
      refine m_ll (j := 1) (v := (ml σ 1 c0.toNatClampNeg)) ⟨by decide, rfl⟩ hx hb hW (rg.in hc (by decide) (by decide)) dMod_tick_97 htk ?_
      refine lv_ldiv hx hb dMod_tick_98 hT0 ?_
      refine ll_ge (tgt := 136) hx hb dMod_tick_99 dMod_tick_100 (by decide) (fun c_1 => ?_) (fun c_1 => ?_)
      · refine lv_aload_n hx hb dMod_tick_136 rfl (lv_at hl 0 rfl) ?_
        refine mg_i (v := mi σ1 18) FMod_137 hx hb hts hown hW dMod_tick_137 rfl ?_
        refine lv_iload hx hb dMod_tick_140 (lv_at hl 2 rfl) ?_
        refine lv_isub hx hb dMod_tick_142 ?_
        exact e_i hsz hx hb hr hlk hW mono_hsM (Nat.le_refl _) (Nat.le_refl _) dMod_tick_143 ⟨by rw [← hR, ← hv]; rfl, congrArg (hsM o z tt) hv⟩
      · exact absurd c_1 (fun q => by have q := (lN_ltD hd (by omega)).mp q; omega)
    | succ k ih =>
      intro j σ1 hj hok hv H locs ls hW hl
      have htk := tkOk_t hok
      obtain ⟨n, hn⟩ := hok.2.1
      refine lv_lload hx hb dMod_tick_88 (lv_at hl 4 rfl) ?_
      refine lv_lload hx hb dMod_tick_90 (lv_at hl 3 rfl) ?_
      refine lv_aload_n hx hb dMod_tick_92 rfl (lv_at hl 0 rfl) ?_
      refine mg_a FMod_13 1 ⟨rfl, by decide⟩ hx hb hts hown hW dMod_tick_93 ?_
      refine lv_iload_n hx hb dMod_tick_96 rfl (lv_at hl 1 rfl) ?_
      refine m_ll (j := 1) (v := (ml σ 1 c0.toNatClampNeg)) ⟨by decide, rfl⟩ hx hb hW (rg.in hc (by decide) (by decide)) dMod_tick_97 htk ?_
      refine lv_ldiv hx hb dMod_tick_98 hT0 ?_
      refine ll_ge (tgt := 136) hx hb dMod_tick_99 dMod_tick_100 (by decide) (fun c_1 => ?_) (fun c_1 => ?_)
      · exact absurd ((lN_ltD hd (by omega)).mpr (by omega)) c_1
      · refine lv_aload_n hx hb dMod_tick_103 rfl (lv_at hl 0 rfl) ?_
        refine lv_iconst (v := (0 : Int32)) hx hb dMod_tick_104 (by decide) ?_
        refine mp_i FMod_140 GMod_deep hx hb hts hown hW rfl rfl dMod_tick_105 (fun H locs hW => ?_)
        refine lv_aload_n hx hb dMod_tick_108 rfl (lv_at hl 0 rfl) ?_
        refine lv_iload_n hx hb dMod_tick_109 rfl (lv_at hl 1 rfl) ?_
        refine k_Vv (K := 9) (As := [.int c0]) (rest := []) (c_MmakeStep l D AC o z tt (smi σ1 20 (0 : Int32)) c0 (hc.wk (by decide) (by decide)) (show rg 0 23 (0 : Int32) from ⟨by decide, by decide⟩)) CMod_146 ⟨by decide, by decide, _, rfl, rfl⟩ hx hb hml hown hts hW hsM_k hl.1 rfl rfl (Nat.le_of_ble_eq_true rfl) ⟨⟨Nat.le_of_ble_eq_true rfl, Nat.le_of_ble_eq_true rfl⟩, ⟨Nat.le_of_ble_eq_true rfl, Nat.le_of_ble_eq_true rfl⟩⟩ dMod_tick_110 (fun S_2 H locs e_2 hW _ _ => ?_)
        rw [e_2] at hW
        refine inner bf al0 (lN j) n _ hn ?_ H locs ls hW (lv_sub hl [0, 1, 2, 3, 4] rfl)
        intro H locs ls hW hl
        rw [← goEnd_of hn] at hW
        refine lv_lload hx hb dMod_tick_127 (lv_at hl 4 rfl) ?_
        refine lv_lconst (v := (1 : Int64)) hx hb dMod_tick_129 (by decide) ?_
        refine lv_ladd hx hb dMod_tick_130 ?_
        refine lv_lstore (lv' := [(7, .long ((lN j) + (1 : Int64))), (0, .ref o), (1, .int c0), (4, .int bf), (5, .long al0)]) hx hb dMod_tick_131 hl (by decide) rfl (fun ls hl => ?_)
        refine lv_goto (tgt := 88) hx hb dMod_tick_133 (by decide) ?_
        exact ih (j + 1) _ (by omega) hok.2.2 hv H locs ls hW (by rw [← lN_1]; exact (lv_sub hl [1, 2, 3, 4, 0] rfl))
  refine lv_aload_n hx hb dMod_tick_0 rfl (lv_at hl 0 rfl) ?_
  refine lv_iload_n hx hb dMod_tick_1 rfl (lv_at hl 1 rfl) ?_
  refine k_Vi (K := 9) (As := [.int c0]) (rest := []) (c_Mno l D AC o z tt σ c0) CMod_113 ⟨by decide, by decide, _, rfl, rfl⟩ hx hb hml hown hts hW hsM_k hl.1 rfl rfl (Nat.le_of_ble_eq_true rfl) ⟨⟨Nat.le_of_ble_eq_true rfl, Nat.le_of_ble_eq_true rfl⟩, ⟨Nat.le_of_ble_eq_true rfl, Nat.le_of_ble_eq_true rfl⟩⟩ dMod_tick_2 (fun r_1 S_1 H locs e_1 hW _ _ => ?_)
  obtain ⟨e1_1, e2_1⟩ := e_1
  rw [e2_1] at hW
  rw [e1_1]
  have hO_2 : mOk (Mno_S σ c0) := mOk_no hO
  refine lv_if_eq (tgt := 10) hx hb dMod_tick_5 (by decide) (fun c_3 => ?_) (fun c_3 => ?_)
  · refine lv_lload_n hx hb dMod_tick_10 rfl (lv_at hl 2 rfl) ?_
    refine lv_lconst (v := (0 : Int64)) hx hb dMod_tick_11 (by decide) ?_
    refine ll_lt (tgt := 46) hx hb dMod_tick_12 dMod_tick_13 (by decide) (fun c_4 => ?_) (fun c_4 => ?_)
    · refine lv_bipush (v := (-2 : Int32)) hx hb dMod_tick_46 (by decide) ?_
      exact e_i hsz hx hb hr hlk hW mono_hsM (Nat.le_refl _) (Nat.le_refl _) dMod_tick_48 ⟨(Eq.symm (by refine (if_pos c_3).trans ?_; refine (if_pos c_4).trans ?_; rfl)), congrArg (hsM o z tt) (Eq.symm (by refine (if_pos c_3).trans ?_; refine (if_pos c_4).trans ?_; rfl))⟩
    · refine lv_lload_n hx hb dMod_tick_16 rfl (lv_at hl 2 rfl) ?_
      refine lv_ldc2 (v := (100000 : Int64)) hx hb hown (hts _ QMod_176) dMod_tick_17 ?_
      refine ll_gt (tgt := 46) hx hb dMod_tick_20 dMod_tick_21 (by decide) (fun c_5 => ?_) (fun c_5 => ?_)
      · refine lv_bipush (v := (-2 : Int32)) hx hb dMod_tick_46 (by decide) ?_
        exact e_i hsz hx hb hr hlk hW mono_hsM (Nat.le_refl _) (Nat.le_refl _) dMod_tick_48 ⟨(Eq.symm (by refine (if_pos c_3).trans ?_; refine (if_neg c_4).trans ?_; refine (if_pos c_5).trans ?_; rfl)), congrArg (hsM o z tt) (Eq.symm (by refine (if_pos c_3).trans ?_; refine (if_neg c_4).trans ?_; refine (if_pos c_5).trans ?_; rfl))⟩
      · refine lv_aload_n hx hb dMod_tick_24 rfl (lv_at hl 0 rfl) ?_
        refine mg_a FMod_16 2 ⟨rfl, by decide⟩ hx hb hts hown hW dMod_tick_25 ?_
        refine lv_iload_n hx hb dMod_tick_28 rfl (lv_at hl 1 rfl) ?_
        refine m_ll (j := 2) (v := ml σ 2 c0.toNatClampNeg) ⟨by decide, rfl⟩ hx hb hW (rg.in (Mno_rg hO c_3) (by decide) (by decide)) dMod_tick_29 Mno_ml ?_
        refine lv_lload_n hx hb dMod_tick_30 rfl (lv_at hl 2 rfl) ?_
        refine lv_ladd hx hb dMod_tick_31 ?_
        refine lv_aload_n hx hb dMod_tick_32 rfl (lv_at hl 0 rfl) ?_
        refine mg_a FMod_13 1 ⟨rfl, by decide⟩ hx hb hts hown hW dMod_tick_33 ?_
        refine lv_iload_n hx hb dMod_tick_36 rfl (lv_at hl 1 rfl) ?_
        refine m_ll (j := 1) (v := ml σ 1 c0.toNatClampNeg) ⟨by decide, rfl⟩ hx hb hW (rg.in (Mno_rg hO c_3) (by decide) (by decide)) dMod_tick_37 Mno_ml ?_
        refine lv_ldiv hx hb dMod_tick_38 (hT c_3) ?_
        refine lv_ldc2 (v := (5000 : Int64)) hx hb hown (hts _ QMod_178) dMod_tick_39 ?_
        refine ll_le (tgt := 49) hx hb dMod_tick_42 dMod_tick_43 (by decide) (fun c_6 => ?_) (fun c_6 => ?_)
        · refine lv_aload_n hx hb dMod_tick_49 rfl (lv_at hl 0 rfl) ?_
          refine mg_i (v := mi (Mno_S σ c0) 18) FMod_137 hx hb hts hown hW dMod_tick_50 rfl ?_
          refine lv_istore (lv' := [(4, .int (mi (Mno_S σ c0) 18)), (0, .ref o), (1, .int c0), (2, .long n0)]) hx hb dMod_tick_53 hl (by decide) rfl (fun ls hl => ?_)
          refine lv_aload_n hx hb dMod_tick_55 rfl (lv_at hl 1 rfl) ?_
          refine lv_iconst (v := (0 : Int32)) hx hb dMod_tick_56 (by decide) ?_
          refine mp_i FMod_143 GMod_acted hx hb hts hown hW rfl rfl dMod_tick_57 (fun H locs hW => ?_)
          refine lv_aload_n hx hb dMod_tick_60 rfl (lv_at hl 1 rfl) ?_
          refine mg_a FMod_16 2 ⟨rfl, by decide⟩ hx hb hts hown hW dMod_tick_61 ?_
          refine lv_iload_n hx hb dMod_tick_64 rfl (lv_at hl 2 rfl) ?_
          refine m_ll (j := 2) (v := ml σ 2 c0.toNatClampNeg) ⟨by decide, rfl⟩ hx hb hW (rg.in (Mno_rg hO c_3) (by decide) (by decide)) dMod_tick_65 ((rl_i).trans Mno_ml) ?_
          refine lv_lload_n hx hb dMod_tick_66 rfl (lv_at hl 3 rfl) ?_
          refine lv_ladd hx hb dMod_tick_67 ?_
          refine lv_lstore (lv' := [(5, .long ((ml σ 2 c0.toNatClampNeg) + n0)), (4, .int (mi (Mno_S σ c0) 18)), (0, .ref o), (1, .int c0), (2, .long n0)]) hx hb dMod_tick_68 hl (by decide) rfl (fun ls hl => ?_)
          refine lv_aload_n hx hb dMod_tick_70 rfl (lv_at hl 2 rfl) ?_
          refine mg_a FMod_16 2 ⟨rfl, by decide⟩ hx hb hts hown hW dMod_tick_71 ?_
          refine lv_iload_n hx hb dMod_tick_74 rfl (lv_at hl 3 rfl) ?_
          refine lv_lload hx hb dMod_tick_75 (lv_at hl 0 rfl) ?_
          refine lv_aload_n hx hb dMod_tick_77 rfl (lv_at hl 2 rfl) ?_
          refine mg_a FMod_13 1 ⟨rfl, by decide⟩ hx hb hts hown hW dMod_tick_78 ?_
          refine lv_iload_n hx hb dMod_tick_81 rfl (lv_at hl 3 rfl) ?_
          refine m_ll (j := 1) (v := ml σ 1 c0.toNatClampNeg) ⟨by decide, rfl⟩ hx hb hW (rg.in (Mno_rg hO c_3) (by decide) (by decide)) dMod_tick_82 ((rl_i).trans Mno_ml) ?_
          refine lv_lrem hx hb dMod_tick_83 (hT c_3) ?_
          refine m_ls (j := 2) (v := (((ml σ 2 c0.toNatClampNeg) + n0) - ((ml σ 2 c0.toNatClampNeg) + n0) / (ml σ 1 c0.toNatClampNeg) * (ml σ 1 c0.toNatClampNeg))) ⟨by decide, rfl⟩ hx hb hW (rg.in (Mno_rg hO c_3) (by decide) (by decide)) dMod_tick_84 (fun H locs hW => ?_)
          refine lv_lconst (v := (0 : Int64)) hx hb dMod_tick_85 (by decide) ?_
          refine lv_lstore (lv' := [(7, .long (0 : Int64)), (5, .long ((ml σ 2 c0.toNatClampNeg) + n0)), (4, .int (mi (Mno_S σ c0) 18)), (0, .ref o), (1, .int c0), (2, .long n0)]) hx hb dMod_tick_86 hl (by decide) rfl (fun ls hl => ?_)
          exact outer (mi (Mno_S σ c0) 18) ((ml σ 2 c0.toNatClampNeg) + n0) (Mno_rg hO c_3) (hT c_3) c_6 (Eq.symm (by refine (if_pos c_3).trans ?_; refine (if_neg c_4).trans ?_; refine (if_neg c_5).trans ?_; refine (if_neg c_6).trans ?_; rfl)) _ 0 (sml (smi (Mno_S σ c0) 19 (0 : Int32)) 2 c0.toNatClampNeg (((ml σ 2 c0.toNatClampNeg) + n0) - ((ml σ 2 c0.toNatClampNeg) + n0) / (ml σ 1 c0.toNatClampNeg) * (ml σ 1 c0.toNatClampNeg))) (Nat.zero_add _) (hrun c_3 c_4 c_5 c_6).2 (Eq.symm (by refine (if_pos c_3).trans ?_; refine (if_neg c_4).trans ?_; refine (if_neg c_5).trans ?_; refine (if_neg c_6).trans ?_; rfl)) _ _ ls hW (lv_sub hl [3, 4, 2, 1, 0] rfl)
        · refine lv_bipush (v := (-2 : Int32)) hx hb dMod_tick_46 (by decide) ?_
          exact e_i hsz hx hb hr hlk hW mono_hsM (Nat.le_refl _) (Nat.le_refl _) dMod_tick_48 ⟨(Eq.symm (by refine (if_pos c_3).trans ?_; refine (if_neg c_4).trans ?_; refine (if_neg c_5).trans ?_; refine (if_pos c_6).trans ?_; rfl)), congrArg (hsM o z tt) (Eq.symm (by refine (if_pos c_3).trans ?_; refine (if_neg c_4).trans ?_; refine (if_neg c_5).trans ?_; refine (if_pos c_6).trans ?_; rfl))⟩
  · refine lv_iconst (v := (-1 : Int32)) hx hb dMod_tick_8 (by decide) ?_
    exact e_i hsz hx hb hr hlk hW mono_hsM (Nat.le_refl _) (Nat.le_refl _) dMod_tick_9 ⟨(Eq.symm (by refine (if_neg c_3).trans ?_; rfl)), congrArg (hsM o z tt) (Eq.symm (by refine (if_neg c_3).trans ?_; rfl))⟩
