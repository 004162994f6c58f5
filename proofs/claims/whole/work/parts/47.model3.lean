def goT (σ : MS) (at0 c0 : Int32) : Nat → Nat → MS
  | 0, _ => smi σ 20 (mi σ 20 - (1 : Int32))
  | k + 1, a => if ma σ 19 (nI a).toNatClampNeg = 0 then goT σ at0 c0 k (a + 1) else if ma σ 12 (nI a).toNatClampNeg = c0 then (if ml σ 20 (nI a).toNatClampNeg = ml σ 3 c0.toNatClampNeg then MgoTable_S (sml σ 20 (nI a).toNatClampNeg (-1 : Int64)) at0 (nI a) else goT σ at0 c0 k (a + 1)) else goT σ at0 c0 k (a + 1)
def goAl (σ : MS) (at0 c0 : Int32) : Nat → Nat → MS
  | 0, _ => goT σ at0 c0 (mi σ 17).toNatClampNeg 1
  | k + 1, a => if ma σ 9 (nI a).toNatClampNeg = 0 then goAl σ at0 c0 k (a + 1) else if ma σ 6 (nI a).toNatClampNeg = c0 then (if ml σ 10 (nI a).toNatClampNeg = ml σ 3 c0.toNatClampNeg then MgoAlarm_S σ (nI a) else goAl σ at0 c0 k (a + 1)) else goAl σ at0 c0 k (a + 1)
abbrev atI (σ : MS) : Int32 := mi σ 20 - (1 : Int32)
abbrev stC (σ : MS) : Int32 := ma σ 26 (atI σ).toNatClampNeg
abbrev gOn (σ : MS) : Int32 := ma σ 27 (atI σ).toNatClampNeg
def Mgo_S (σ : MS) : MS := if gOn σ ≤ 0 then goAl σ (atI σ) (stC σ) (mi σ 16).toNatClampNeg 1 else MgoTable_S σ (atI σ) (gOn σ)
def mAc (σ : MS) : Prop := ∀ a, ma σ 7 a = 1 → rg 0 20 (ma σ 8 a)
theorem rg_nI {a N : Nat} (h1 : 1 ≤ a) (h2 : a ≤ N) (h3 : N < 2 ^ 31) : rg 1 N (nI a) := by
  unfold rg
  rw [nI_toInt (by omega)]
  omega
theorem rg_cl {hi : Nat} {x : Int32} (h : rg 0 hi x) (h2 : hi < 2 ^ 31) : x = nI x.toNatClampNeg ∧ x.toNatClampNeg ≤ hi := by
  have hx : ¬ x < 0 := by
    rw [Int32.lt_iff_toInt_lt]
    have := h.1
    have e : (0 : Int32).toInt = 0 := rfl
    omega
  obtain ⟨j, hj, rfl⟩ := nI_of hx
  rw [nI_clamp hj]
  refine ⟨rfl, ?_⟩
  have := h.2
  rw [nI_toInt hj] at this
  omega
theorem lt_k0 {x : Int32} {n a k : Nat} (h : x = nI n) (hn : n < 1000) (hk : a + k = n + 1) (h0 : k = 0) : x < nI a := by
  subst h
  rw [nI_ltI (by omega) (by omega)]
  omega
theorem lt_k1 {x : Int32} {n a k : Nat} (h : x = nI n) (hn : n < 1000) (hk : a + (k + 1) = n + 1) : ¬ x < nI a := by
  subst h
  rw [nI_ltI (by omega) (by omega)]
  omega

set_option maxRecDepth 20000 in
set_option maxHeartbeats 2000000 in
theorem c_Mgo (l : Launch) (D : va_G) (AC : Nat → ClassId) (o z tt : Nat) (σ : MS)  (hO : mOk σ) (hAc : mAc σ) (hd1 : rg 1 23 (mi σ 20)) (hE : ¬ mi σ 18 < 0) (hb1 : ¬ ml σ 0 (stC σ).toNatClampNeg = 0) (hb2 : ¬ gOn σ ≤ 0 → ¬ ml σ 0 (ma σ 12 (gOn σ).toNatClampNeg).toNatClampNeg = 0) : CtV l yMod_go (Cond.code yMod_go cMod_go 4 none :: wT) 4 130 D AC (hsM o z tt σ) [.ref o] 0 0 (fun S' => S' = hsM o z tt (Mgo_S σ )) := by
  refine met_of (by decide) (Nat.le_of_ble_eq_true rfl) ?_
  intro p e s m below meth c ls hsz X hW hl
  obtain ⟨hx, hb, hml, hr, hlk, hown, hnm, hts⟩ := X
  have hl : lv_has ls 4 [(0, .ref o)] := hl
  have hd : rg 0 23 (mi σ 20) := hd1.wk (by decide) (by decide)
  have hat : rg 0 22 (atI σ) := hd1.sub (show rg 1 1 1 from ⟨by decide, by decide⟩) (by decide) (by decide)
  have hA := rg_cl (hi := 100) hO.2.1 (by decide)
  have hTt := rg_cl (hi := 20) hO.2.2.1 (by decide)
  have loopT : ∀ (k a : Nat), 1 ≤ a → a + k = (mi σ 17).toNatClampNeg + 1 → goT σ (atI σ) (stC σ) k a = Mgo_S σ → ∀ ls, lv_has ls 4 [(0, .ref o), (1, .int (atI σ)), (2, .int (stC σ)), (3, .int (nI a))] → W p l e (rmOf 4 0 0 130) s m ([.ref o] : List Value).toArray below meth c s.heap [] 0 0 (MQ below (va_Qv (fun S' => S' = hsM o z tt (Mgo_S σ )) (CB D AC (hsM o z tt σ)) (AS (hL (hsM o z tt σ)) (hz (hsM o z tt σ)))) ([.ref o] : List Value).toArray s 0 0 (AS (hL (hsM o z tt σ)) (hz (hsM o z tt σ)))) (F0 m 94 ls []) := by
    intro k
    induction k with
    | zero =>
      intro a ha1 hk hv ls hl
      refine lv_iload_n hx hb dMod_go_94 rfl (lv_at hl 3 rfl) ?_
      refine lv_aload_n hx hb dMod_go_95 rfl (lv_at hl 0 rfl) ?_
      refine mg_i (v := mi σ 17) FMod_106 hx hb hts hown hW dMod_go_96 rfl ?_
      refine lv_icmp_gt (tgt := 159) hx hb dMod_go_99 (by decide) (fun c_1 => ?_) (fun c_1 => ?_)
      · refine lv_aload_n hx hb dMod_go_159 rfl (lv_at hl 0 rfl) ?_
        refine lv_dup hx hb dMod_go_160 rfl ?_
        refine mg_i (v := mi σ 20) FMod_140 hx hb hts hown hW dMod_go_161 rfl ?_
        refine lv_iconst (v := (1 : Int32)) hx hb dMod_go_164 (by decide) ?_
        refine lv_isub hx hb dMod_go_165 ?_
        refine mp_i FMod_140 GMod_deep hx hb hts hown hW rfl rfl dMod_go_166 (fun H locs hW => ?_)
        exact e_v hsz hx hb hr hlk hW mono_hsM (Nat.le_refl _) (Nat.le_refl _) dMod_go_169 (congrArg (hsM o z tt) (by rw [← hv]; exact (Eq.symm (by rfl))))
      · exact absurd (lt_k0 hTt.1 (by have := hTt.2; omega) hk rfl) c_1
    | succ k ih =>
      intro a ha1 hk hv ls hl
      have hna : rg 1 20 (nI a) := rg_nI (N := 20) ha1 (by have := hTt.2; omega) (by decide)
      refine lv_iload_n hx hb dMod_go_94 rfl (lv_at hl 3 rfl) ?_
      refine lv_aload_n hx hb dMod_go_95 rfl (lv_at hl 0 rfl) ?_
      refine mg_i (v := mi σ 17) FMod_106 hx hb hts hown hW dMod_go_96 rfl ?_
      refine lv_icmp_gt (tgt := 159) hx hb dMod_go_99 (by decide) (fun c_1 => ?_) (fun c_1 => ?_)
      · exact absurd c_1 (lt_k1 hTt.1 (by have := hTt.2; omega) hk)
      · refine lv_aload_n hx hb dMod_go_102 rfl (lv_at hl 0 rfl) ?_
        refine mg_a FMod_69 19 ⟨rfl, by decide⟩ hx hb hts hown hW dMod_go_103 ?_
        refine lv_iload_n hx hb dMod_go_106 rfl (lv_at hl 3 rfl) ?_
        refine m_zl (j := 19) (v := ma σ 19 (nI a).toNatClampNeg) ⟨by decide, rfl⟩ hx hb hW (rg.in hna (by decide) (by decide)) dMod_go_107 rfl ?_
        refine lv_if_eq (tgt := 153) hx hb dMod_go_108 (by decide) (fun c_2 => ?_) (fun c_2 => ?_)
        · refine lv_iinc (v := ((nI a) + (1 : Int32))) (lv' := [(3, .int ((nI a) + (1 : Int32))), (0, .ref o), (1, .int (atI σ)), (2, .int (stC σ))]) hx hb dMod_go_153 hl (k := 3) rfl rfl (by decide) rfl (fun ls hl => ?_)
          refine lv_goto (tgt := 94) hx hb dMod_go_156 (by decide) ?_
          exact ih (a + 1) (by omega) (by omega) (by rw [← hv]; exact (Eq.symm (by refine (if_pos c_2).trans ?_; rfl))) ls (by rw [← nI_1]; exact (lv_sub hl [1, 2, 3, 0] rfl))
        · refine lv_aload_n hx hb dMod_go_111 rfl (lv_at hl 0 rfl) ?_
          refine mg_a FMod_48 12 ⟨rfl, by decide⟩ hx hb hts hown hW dMod_go_112 ?_
          refine lv_iload_n hx hb dMod_go_115 rfl (lv_at hl 3 rfl) ?_
          refine m_il (j := 12) (v := ma σ 12 (nI a).toNatClampNeg) ⟨by decide, rfl⟩ hx hb hW (rg.in hna (by decide) (by decide)) dMod_go_116 rfl ?_
          refine lv_iload_n hx hb dMod_go_117 rfl (lv_at hl 2 rfl) ?_
          refine lv_icmp_ne (tgt := 153) hx hb dMod_go_118 (by decide) (fun c_3 => ?_) (fun c_3 => ?_)
          · refine lv_iinc (v := ((nI a) + (1 : Int32))) (lv' := [(3, .int ((nI a) + (1 : Int32))), (0, .ref o), (1, .int (atI σ)), (2, .int (stC σ))]) hx hb dMod_go_153 hl (k := 3) rfl rfl (by decide) rfl (fun ls hl => ?_)
            refine lv_goto (tgt := 94) hx hb dMod_go_156 (by decide) ?_
            exact ih (a + 1) (by omega) (by omega) (by rw [← hv]; exact (Eq.symm (by refine (if_neg c_2).trans ?_; refine (if_neg c_3).trans ?_; rfl))) ls (by rw [← nI_1]; exact (lv_sub hl [1, 2, 3, 0] rfl))
          · refine lv_aload_n hx hb dMod_go_121 rfl (lv_at hl 0 rfl) ?_
            refine mg_a FMod_72 20 ⟨rfl, by decide⟩ hx hb hts hown hW dMod_go_122 ?_
            refine lv_iload_n hx hb dMod_go_125 rfl (lv_at hl 3 rfl) ?_
            refine m_ll (j := 20) (v := ml σ 20 (nI a).toNatClampNeg) ⟨by decide, rfl⟩ hx hb hW (rg.in hna (by decide) (by decide)) dMod_go_126 rfl ?_
            refine lv_aload_n hx hb dMod_go_127 rfl (lv_at hl 0 rfl) ?_
            refine mg_a FMod_19 3 ⟨rfl, by decide⟩ hx hb hts hown hW dMod_go_128 ?_
            refine lv_iload_n hx hb dMod_go_131 rfl (lv_at hl 2 rfl) ?_
            refine m_ll (j := 3) (v := ml σ 3 (stC σ).toNatClampNeg) ⟨by decide, rfl⟩ hx hb hW (rg.in (hO.2.2.2.2.2.2.2.2.2.2.1 _) (by decide) (by decide)) dMod_go_132 rfl ?_
            refine ll_ne (tgt := 153) hx hb dMod_go_133 dMod_go_134 (by decide) (fun c_4 => ?_) (fun c_4 => ?_)
            · refine lv_iinc (v := ((nI a) + (1 : Int32))) (lv' := [(3, .int ((nI a) + (1 : Int32))), (0, .ref o), (1, .int (atI σ)), (2, .int (stC σ))]) hx hb dMod_go_153 hl (k := 3) rfl rfl (by decide) rfl (fun ls hl => ?_)
              refine lv_goto (tgt := 94) hx hb dMod_go_156 (by decide) ?_
              exact ih (a + 1) (by omega) (by omega) (by rw [← hv]; exact (Eq.symm (by refine (if_neg c_2).trans ?_; refine (if_pos c_3).trans ?_; refine (if_neg c_4).trans ?_; rfl))) ls (by rw [← nI_1]; exact (lv_sub hl [1, 2, 3, 0] rfl))
            · refine lv_aload_n hx hb dMod_go_137 rfl (lv_at hl 0 rfl) ?_
              refine mg_a FMod_72 20 ⟨rfl, by decide⟩ hx hb hts hown hW dMod_go_138 ?_
              refine lv_iload_n hx hb dMod_go_141 rfl (lv_at hl 3 rfl) ?_
              refine lv_ldc2 (v := (-1 : Int64)) hx hb hown (hts _ QMod_174) dMod_go_142 ?_
              refine m_ls (j := 20) (v := (-1 : Int64)) ⟨by decide, rfl⟩ hx hb hW (rg.in hna (by decide) (by decide)) dMod_go_145 (fun H locs hW => ?_)
              refine lv_aload_n hx hb dMod_go_146 rfl (lv_at hl 0 rfl) ?_
              refine lv_iload_n hx hb dMod_go_147 rfl (lv_at hl 1 rfl) ?_
              refine lv_iload_n hx hb dMod_go_148 rfl (lv_at hl 3 rfl) ?_
              refine k_Vv (K := 9) (As := [.int (atI σ), .int (nI a)]) (rest := []) (c_MgoTable l D AC o z tt (sml σ 20 (nI a).toNatClampNeg (-1 : Int64)) (atI σ) (nI a) hO (hat.wk (by decide) (by decide)) hna hE (show ¬ ml σ 0 (ma σ 12 (nI a).toNatClampNeg).toNatClampNeg = 0 from (by rw [c_3]; exact hb1)) hd) CMod_167 ⟨by decide, by decide, _, rfl, rfl⟩ hx hb hml hown hts hW hsM_k hl.1 rfl rfl (Nat.le_of_ble_eq_true rfl) ⟨⟨Nat.le_of_ble_eq_true rfl, Nat.le_of_ble_eq_true rfl⟩, ⟨Nat.le_of_ble_eq_true rfl, Nat.le_of_ble_eq_true rfl⟩⟩ dMod_go_149 (fun S_5 H locs e_5 hW _ _ => ?_)
              rw [e_5] at hW
              exact e_v hsz hx hb hr hlk hW mono_hsM (Nat.le_refl _) (Nat.le_refl _) dMod_go_152 (congrArg (hsM o z tt) (by rw [← hv]; exact (Eq.symm (by refine (if_neg c_2).trans ?_; refine (if_pos c_3).trans ?_; refine (if_pos c_4).trans ?_; rfl))))
  have loopA : ∀ (k a : Nat), 1 ≤ a → a + k = (mi σ 16).toNatClampNeg + 1 → goAl σ (atI σ) (stC σ) k a = Mgo_S σ → ∀ ls, lv_has ls 4 [(0, .ref o), (1, .int (atI σ)), (2, .int (stC σ)), (3, .int (nI a))] → W p l e (rmOf 4 0 0 130) s m ([.ref o] : List Value).toArray below meth c s.heap [] 0 0 (MQ below (va_Qv (fun S' => S' = hsM o z tt (Mgo_S σ )) (CB D AC (hsM o z tt σ)) (AS (hL (hsM o z tt σ)) (hz (hsM o z tt σ)))) ([.ref o] : List Value).toArray s 0 0 (AS (hL (hsM o z tt σ)) (hz (hsM o z tt σ)))) (F0 m 37 ls []) := by
    intro k
    induction k with
    | zero =>
      intro a ha1 hk hv ls hl
      refine lv_iload_n hx hb dMod_go_37 rfl (lv_at hl 3 rfl) ?_
      refine lv_aload_n hx hb dMod_go_38 rfl (lv_at hl 0 rfl) ?_
      refine mg_i (v := mi σ 16) FMod_103 hx hb hts hown hW dMod_go_39 rfl ?_
      refine lv_icmp_gt (tgt := 92) hx hb dMod_go_42 (by decide) (fun c_1 => ?_) (fun c_1 => ?_)
      · refine lv_iconst (v := (1 : Int32)) hx hb dMod_go_92 (by decide) ?_
        refine lv_istore_n (i := 3) (lv' := [(3, .int (1 : Int32)), (0, .ref o), (1, .int (atI σ)), (2, .int (stC σ))]) hx hb dMod_go_93 rfl hl (by decide) rfl (fun ls hl => ?_)
        exact loopT _ 1 (Nat.le_refl _) (Nat.add_comm _ _) hv ls (lv_sub hl [1, 2, 3, 0] rfl)
      · exact absurd (lt_k0 hA.1 (by have := hA.2; omega) hk rfl) c_1
    | succ k ih =>
      intro a ha1 hk hv ls hl
      have hna : rg 1 100 (nI a) := rg_nI (N := 100) ha1 (by have := hA.2; omega) (by decide)
      refine lv_iload_n hx hb dMod_go_37 rfl (lv_at hl 3 rfl) ?_
      refine lv_aload_n hx hb dMod_go_38 rfl (lv_at hl 0 rfl) ?_
      refine mg_i (v := mi σ 16) FMod_103 hx hb hts hown hW dMod_go_39 rfl ?_
      refine lv_icmp_gt (tgt := 92) hx hb dMod_go_42 (by decide) (fun c_1 => ?_) (fun c_1 => ?_)
      · exact absurd c_1 (lt_k1 hA.1 (by have := hA.2; omega) hk)
      · refine lv_aload_n hx hb dMod_go_45 rfl (lv_at hl 0 rfl) ?_
        refine mg_a FMod_39 9 ⟨rfl, by decide⟩ hx hb hts hown hW dMod_go_46 ?_
        refine lv_iload_n hx hb dMod_go_49 rfl (lv_at hl 3 rfl) ?_
        refine m_zl (j := 9) (v := ma σ 9 (nI a).toNatClampNeg) ⟨by decide, rfl⟩ hx hb hW (rg.in hna (by decide) (by decide)) dMod_go_50 rfl ?_
        refine lv_if_eq (tgt := 86) hx hb dMod_go_51 (by decide) (fun c_2 => ?_) (fun c_2 => ?_)
        · refine lv_iinc (v := ((nI a) + (1 : Int32))) (lv' := [(3, .int ((nI a) + (1 : Int32))), (0, .ref o), (1, .int (atI σ)), (2, .int (stC σ))]) hx hb dMod_go_86 hl (k := 3) rfl rfl (by decide) rfl (fun ls hl => ?_)
          refine lv_goto (tgt := 37) hx hb dMod_go_89 (by decide) ?_
          exact ih (a + 1) (by omega) (by omega) (by rw [← hv]; exact (Eq.symm (by refine (if_pos c_2).trans ?_; rfl))) ls (by rw [← nI_1]; exact (lv_sub hl [1, 2, 3, 0] rfl))
        · refine lv_aload_n hx hb dMod_go_54 rfl (lv_at hl 0 rfl) ?_
          refine mg_a FMod_29 6 ⟨rfl, by decide⟩ hx hb hts hown hW dMod_go_55 ?_
          refine lv_iload_n hx hb dMod_go_58 rfl (lv_at hl 3 rfl) ?_
          refine m_il (j := 6) (v := ma σ 6 (nI a).toNatClampNeg) ⟨by decide, rfl⟩ hx hb hW (rg.in hna (by decide) (by decide)) dMod_go_59 rfl ?_
          refine lv_iload_n hx hb dMod_go_60 rfl (lv_at hl 2 rfl) ?_
          refine lv_icmp_ne (tgt := 86) hx hb dMod_go_61 (by decide) (fun c_3 => ?_) (fun c_3 => ?_)
          · refine lv_iinc (v := ((nI a) + (1 : Int32))) (lv' := [(3, .int ((nI a) + (1 : Int32))), (0, .ref o), (1, .int (atI σ)), (2, .int (stC σ))]) hx hb dMod_go_86 hl (k := 3) rfl rfl (by decide) rfl (fun ls hl => ?_)
            refine lv_goto (tgt := 37) hx hb dMod_go_89 (by decide) ?_
            exact ih (a + 1) (by omega) (by omega) (by rw [← hv]; exact (Eq.symm (by refine (if_neg c_2).trans ?_; refine (if_neg c_3).trans ?_; rfl))) ls (by rw [← nI_1]; exact (lv_sub hl [1, 2, 3, 0] rfl))
          · refine lv_aload_n hx hb dMod_go_64 rfl (lv_at hl 0 rfl) ?_
            refine mg_a FMod_42 10 ⟨rfl, by decide⟩ hx hb hts hown hW dMod_go_65 ?_
            refine lv_iload_n hx hb dMod_go_68 rfl (lv_at hl 3 rfl) ?_
            refine m_ll (j := 10) (v := ml σ 10 (nI a).toNatClampNeg) ⟨by decide, rfl⟩ hx hb hW (rg.in hna (by decide) (by decide)) dMod_go_69 rfl ?_
            refine lv_aload_n hx hb dMod_go_70 rfl (lv_at hl 0 rfl) ?_
            refine mg_a FMod_19 3 ⟨rfl, by decide⟩ hx hb hts hown hW dMod_go_71 ?_
            refine lv_iload_n hx hb dMod_go_74 rfl (lv_at hl 2 rfl) ?_
            refine m_ll (j := 3) (v := ml σ 3 (stC σ).toNatClampNeg) ⟨by decide, rfl⟩ hx hb hW (rg.in (hO.2.2.2.2.2.2.2.2.2.2.1 _) (by decide) (by decide)) dMod_go_75 rfl ?_
            refine ll_ne (tgt := 86) hx hb dMod_go_76 dMod_go_77 (by decide) (fun c_4 => ?_) (fun c_4 => ?_)
            · refine lv_iinc (v := ((nI a) + (1 : Int32))) (lv' := [(3, .int ((nI a) + (1 : Int32))), (0, .ref o), (1, .int (atI σ)), (2, .int (stC σ))]) hx hb dMod_go_86 hl (k := 3) rfl rfl (by decide) rfl (fun ls hl => ?_)
              refine lv_goto (tgt := 37) hx hb dMod_go_89 (by decide) ?_
              exact ih (a + 1) (by omega) (by omega) (by rw [← hv]; exact (Eq.symm (by refine (if_neg c_2).trans ?_; refine (if_pos c_3).trans ?_; refine (if_neg c_4).trans ?_; rfl))) ls (by rw [← nI_1]; exact (lv_sub hl [1, 2, 3, 0] rfl))
            · refine lv_aload_n hx hb dMod_go_80 rfl (lv_at hl 0 rfl) ?_
              refine lv_iload_n hx hb dMod_go_81 rfl (lv_at hl 3 rfl) ?_
              refine k_Vv (K := 9) (As := [.int (nI a)]) (rest := []) (c_MgoAlarm l D AC o z tt σ (nI a) hO hna (hAc _) hE (by rw [c_3]; exact hb1) hd) CMod_171 ⟨by decide, by decide, _, rfl, rfl⟩ hx hb hml hown hts hW hsM_k hl.1 rfl rfl (Nat.le_of_ble_eq_true rfl) ⟨⟨Nat.le_of_ble_eq_true rfl, Nat.le_of_ble_eq_true rfl⟩, ⟨Nat.le_of_ble_eq_true rfl, Nat.le_of_ble_eq_true rfl⟩⟩ dMod_go_82 (fun S_5 H locs e_5 hW _ _ => ?_)
              rw [e_5] at hW
              exact e_v hsz hx hb hr hlk hW mono_hsM (Nat.le_refl _) (Nat.le_refl _) dMod_go_85 (congrArg (hsM o z tt) (by rw [← hv]; exact (Eq.symm (by refine (if_neg c_2).trans ?_; refine (if_pos c_3).trans ?_; refine (if_pos c_4).trans ?_; rfl))))
  refine lv_aload_n hx hb dMod_go_0 rfl (lv_at hl 0 rfl) ?_
  refine mg_i (v := mi σ 20) FMod_140 hx hb hts hown hW dMod_go_1 rfl ?_
  refine lv_iconst (v := (1 : Int32)) hx hb dMod_go_4 (by decide) ?_
  refine lv_isub hx hb dMod_go_5 ?_
  refine lv_istore_n (i := 1) (lv' := [(1, .int ((mi σ 20) - (1 : Int32))), (0, .ref o)]) hx hb dMod_go_6 rfl hl (by decide) rfl (fun ls hl => ?_)
  refine lv_aload_n hx hb dMod_go_7 rfl (lv_at hl 1 rfl) ?_
  refine mg_a FMod_90 26 ⟨rfl, by decide⟩ hx hb hts hown hW dMod_go_8 ?_
  refine lv_iload_n hx hb dMod_go_11 rfl (lv_at hl 0 rfl) ?_
  refine m_il (j := 26) (v := ma σ 26 ((mi σ 20) - (1 : Int32)).toNatClampNeg) ⟨by decide, rfl⟩ hx hb hW (rg.in hat (by decide) (by decide)) dMod_go_12 rfl ?_
  refine lv_istore_n (i := 2) (lv' := [(2, .int (ma σ 26 ((mi σ 20) - (1 : Int32)).toNatClampNeg)), (1, .int ((mi σ 20) - (1 : Int32))), (0, .ref o)]) hx hb dMod_go_13 rfl hl (by decide) rfl (fun ls hl => ?_)
  refine lv_aload_n hx hb dMod_go_14 rfl (lv_at hl 2 rfl) ?_
  refine mg_a FMod_93 27 ⟨rfl, by decide⟩ hx hb hts hown hW dMod_go_15 ?_
  refine lv_iload_n hx hb dMod_go_18 rfl (lv_at hl 1 rfl) ?_
  refine m_il (j := 27) (v := ma σ 27 ((mi σ 20) - (1 : Int32)).toNatClampNeg) ⟨by decide, rfl⟩ hx hb hW (rg.in hat (by decide) (by decide)) dMod_go_19 rfl ?_
  refine lv_if_le (tgt := 35) hx hb dMod_go_20 (by decide) (fun c_1 => ?_) (fun c_1 => ?_)
  · refine lv_iconst (v := (1 : Int32)) hx hb dMod_go_35 (by decide) ?_
    refine lv_istore_n (i := 3) (lv' := [(3, .int (1 : Int32)), (2, .int (ma σ 26 ((mi σ 20) - (1 : Int32)).toNatClampNeg)), (1, .int ((mi σ 20) - (1 : Int32))), (0, .ref o)]) hx hb dMod_go_36 rfl hl (by decide) rfl (fun ls hl => ?_)
    exact loopA _ 1 (Nat.le_refl _) (Nat.add_comm _ _) (Eq.symm (by refine (if_pos c_1).trans ?_; rfl)) ls (lv_sub hl [3, 2, 1, 0] rfl)
  · refine lv_aload_n hx hb dMod_go_23 rfl (lv_at hl 2 rfl) ?_
    refine lv_iload_n hx hb dMod_go_24 rfl (lv_at hl 1 rfl) ?_
    refine lv_aload_n hx hb dMod_go_25 rfl (lv_at hl 2 rfl) ?_
    refine mg_a FMod_93 27 ⟨rfl, by decide⟩ hx hb hts hown hW dMod_go_26 ?_
    refine lv_iload_n hx hb dMod_go_29 rfl (lv_at hl 1 rfl) ?_
    refine m_il (j := 27) (v := ma σ 27 ((mi σ 20) - (1 : Int32)).toNatClampNeg) ⟨by decide, rfl⟩ hx hb hW (rg.in hat (by decide) (by decide)) dMod_go_30 rfl ?_
    refine k_Vv (K := 9) (As := [.int ((mi σ 20) - (1 : Int32)), .int (ma σ 27 ((mi σ 20) - (1 : Int32)).toNatClampNeg)]) (rest := []) (c_MgoTable l D AC o z tt σ ((mi σ 20) - (1 : Int32)) (ma σ 27 ((mi σ 20) - (1 : Int32)).toNatClampNeg) hO (hat.wk (by decide) (by decide)) (rg_pos2 (hO.2.2.2.2.2.2.2.2.2.2.2 _) c_1) hE (hb2 c_1) hd) CMod_167 ⟨by decide, by decide, _, rfl, rfl⟩ hx hb hml hown hts hW hsM_k hl.1 rfl rfl (Nat.le_of_ble_eq_true rfl) ⟨⟨Nat.le_of_ble_eq_true rfl, Nat.le_of_ble_eq_true rfl⟩, ⟨Nat.le_of_ble_eq_true rfl, Nat.le_of_ble_eq_true rfl⟩⟩ dMod_go_31 (fun S_2 H locs e_2 hW _ _ => ?_)
    rw [e_2] at hW
    exact e_v hsz hx hb hr hlk hW mono_hsM (Nat.le_refl _) (Nat.le_refl _) dMod_go_34 (congrArg (hsM o z tt) (Eq.symm (by refine (if_neg c_1).trans ?_; rfl)))
