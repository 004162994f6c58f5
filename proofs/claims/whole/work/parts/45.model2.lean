theorem mOk_w6 {σ : MS} {i : Nat} {v : Int32} (h : mOk σ) (hv : rg 0 20 v) : mOk (sma σ 6 i v) := by
  obtain ⟨h15, h16, h17, h6, h8, h12, h14, h16a, h17a, h21, h26, h27⟩ := h
  refine ⟨h15, h16, h17, fun a => ?_, h8, h12, h14, h16a, h17a, h21, h26, h27⟩
  show rg 0 20 (up2 (ma σ) 6 i v 6 a)
  unfold up2
  split
  · exact hv
  · exact h6 a
theorem mOk_w8 {σ : MS} {i : Nat} {v : Int32} (h : mOk σ) (hv : rg 0 100 v) : mOk (sma σ 8 i v) := by
  obtain ⟨h15, h16, h17, h6, h8, h12, h14, h16a, h17a, h21, h26, h27⟩ := h
  refine ⟨h15, h16, h17, h6, fun a => ?_, h12, h14, h16a, h17a, h21, h26, h27⟩
  show rg 0 100 (up2 (ma σ) 8 i v 8 a)
  unfold up2
  split
  · exact hv
  · exact h8 a
theorem mOk_w12 {σ : MS} {i : Nat} {v : Int32} (h : mOk σ) (hv : rg 0 20 v) : mOk (sma σ 12 i v) := by
  obtain ⟨h15, h16, h17, h6, h8, h12, h14, h16a, h17a, h21, h26, h27⟩ := h
  refine ⟨h15, h16, h17, h6, h8, fun a => ?_, h14, h16a, h17a, h21, h26, h27⟩
  show rg 0 20 (up2 (ma σ) 12 i v 12 a)
  unfold up2
  split
  · exact hv
  · exact h12 a
theorem mOk_w14 {σ : MS} {i : Nat} {v : Int32} (h : mOk σ) (hv : rg 0 20 v) : mOk (sma σ 14 i v) := by
  obtain ⟨h15, h16, h17, h6, h8, h12, h14, h16a, h17a, h21, h26, h27⟩ := h
  refine ⟨h15, h16, h17, h6, h8, h12, fun a => ?_, h16a, h17a, h21, h26, h27⟩
  show rg 0 20 (up2 (ma σ) 14 i v 14 a)
  unfold up2
  split
  · exact hv
  · exact h14 a
theorem mOk_w16 {σ : MS} {i : Nat} {v : Int32} (h : mOk σ) (hv : rg (-100) 20 v) : mOk (sma σ 16 i v) := by
  obtain ⟨h15, h16, h17, h6, h8, h12, h14, h16a, h17a, h21, h26, h27⟩ := h
  refine ⟨h15, h16, h17, h6, h8, h12, h14, fun a => ?_, h17a, h21, h26, h27⟩
  show rg (-100) 20 (up2 (ma σ) 16 i v 16 a)
  unfold up2
  split
  · exact hv
  · exact h16a a
theorem mOk_w17 {σ : MS} {i : Nat} {v : Int32} (h : mOk σ) (hv : rg 0 20 v) : mOk (sma σ 17 i v) := by
  obtain ⟨h15, h16, h17, h6, h8, h12, h14, h16a, h17a, h21, h26, h27⟩ := h
  refine ⟨h15, h16, h17, h6, h8, h12, h14, h16a, fun a => ?_, h21, h26, h27⟩
  show rg 0 20 (up2 (ma σ) 17 i v 17 a)
  unfold up2
  split
  · exact hv
  · exact h17a a
theorem mOk_w21 {σ : MS} {i : Nat} {v : Int32} (h : mOk σ) (hv : rg (-1) 20 v) : mOk (sma σ 21 i v) := by
  obtain ⟨h15, h16, h17, h6, h8, h12, h14, h16a, h17a, h21, h26, h27⟩ := h
  refine ⟨h15, h16, h17, h6, h8, h12, h14, h16a, h17a, fun a => ?_, h26, h27⟩
  show rg (-1) 20 (up2 (ma σ) 21 i v 21 a)
  unfold up2
  split
  · exact hv
  · exact h21 a
theorem mOk_w26 {σ : MS} {i : Nat} {v : Int32} (h : mOk σ) (hv : rg 0 20 v) : mOk (sma σ 26 i v) := by
  obtain ⟨h15, h16, h17, h6, h8, h12, h14, h16a, h17a, h21, h26, h27⟩ := h
  refine ⟨h15, h16, h17, h6, h8, h12, h14, h16a, h17a, h21, fun a => ?_, h27⟩
  show rg 0 20 (up2 (ma σ) 26 i v 26 a)
  unfold up2
  split
  · exact hv
  · exact h26 a
theorem mOk_w27 {σ : MS} {i : Nat} {v : Int32} (h : mOk σ) (hv : rg 0 20 v) : mOk (sma σ 27 i v) := by
  obtain ⟨h15, h16, h17, h6, h8, h12, h14, h16a, h17a, h21, h26, h27⟩ := h
  refine ⟨h15, h16, h17, h6, h8, h12, h14, h16a, h17a, h21, h26, fun a => ?_⟩
  show rg 0 20 (up2 (ma σ) 27 i v 27 a)
  unfold up2
  split
  · exact hv
  · exact h27 a

theorem rg_lt {lo hi lo' hi' : Int} {x y : Int32} (h : rg lo hi x) (h' : rg lo' hi' y) (q : x < y) : rg lo (hi' - 1) x := by
  rw [Int32.lt_iff_toInt_lt] at q
  have := h'.2
  exact ⟨h.1, by omega⟩
theorem rg_lt3 {x : Int32} (h : ¬ x < 0) (q : ¬ (3000 : Int32) ≤ x) : rg 0 2999 x := by
  rw [Int32.lt_iff_toInt_lt] at h
  rw [Int32.le_iff_toInt_le] at q
  have e : (0 : Int32).toInt = 0 := rfl
  have e2 : (3000 : Int32).toInt = 3000 := rfl
  exact ⟨by omega, by omega⟩
theorem rg_m1 {hi : Int} {x : Int32} (h : rg (-1) hi x) (q : ¬ x = -1) : rg 0 hi x := by
  have : x.toInt ≠ -1 := fun e => q (Int32.toInt_inj.mp (e.trans rfl))
  have := h.1
  exact ⟨by omega, h.2⟩
theorem i32_nle {x y : Int32} (h : ¬ y ≤ x) : x < y := Int32.not_le.mp h
theorem tg_hp {Y : MS} {i : Nat} {v : Int32} (h : rg 0 20 v) : rg 0 20 (ma (sma Y 21 i v) 21 i) := by
  show rg 0 20 (up2 (ma Y) 21 i v 21 i)
  rw [up2_self]
  exact h

def Mnote_S (σ : MS) (k0 : Int32) (n0 : Int32) (o0 : Int64) (c0 : Int32) : MS :=
  if (3000 : Int32) ≤ (mi σ 18) then
    (smi σ 18 ((mi σ 18) + (1 : Int32)))
  else
    (smi (sma (sma (sma (sma σ 22 (mi σ 18).toNatClampNeg k0) 23 (mi σ 18).toNatClampNeg n0) 24 (mi σ 18).toNatClampNeg o0.toInt32) 25 (mi σ 18).toNatClampNeg (((ml σ 3 c0.toNatClampNeg) - (ml σ 3 c0.toNatClampNeg) / (ml σ 0 c0.toNatClampNeg) * (ml σ 0 c0.toNatClampNeg)).toInt32)) 18 ((mi σ 18) + (1 : Int32)))
set_option maxRecDepth 20000 in
set_option maxHeartbeats 2000000 in
theorem c_Mnote (l : Launch) (D : va_G) (AC : Nat → ClassId) (o z tt : Nat) (σ : MS) (k0 : Int32) (n0 : Int32) (o0 : Int64) (c0 : Int32) (hE : ¬ mi σ 18 < 0) (hc : rg 0 20 c0) (hbn : ¬ ml σ 0 c0.toNatClampNeg = 0) : CtV l yMod_note (Cond.code yMod_note cMod_note 6 none :: wT) 0 0 D AC (hsM o z tt σ) [.ref o, .int k0, .int n0, .long o0, .int c0] 0 0 (fun S' => S' = hsM o z tt (Mnote_S σ k0 n0 o0 c0)) := by
  refine met_of (by decide) (Nat.le_of_ble_eq_true rfl) ?_
  intro p e s m below meth c ls hsz X hW hl
  obtain ⟨hx, hb, hml, hr, hlk, hown, hnm, hts⟩ := X
  have hl : lv_has ls 6 [(0, .ref o), (1, .int k0), (2, .int n0), (3, .long o0), (5, .int c0)] := hl
  refine lv_aload_n hx hb dMod_note_0 rfl (lv_at hl 0 rfl) ?_
  refine mg_i (v := mi σ 18) FMod_137 hx hb hts hown hW dMod_note_1 rfl ?_
  refine lv_sipush (v := (3000 : Int32)) hx hb dMod_note_4 (by decide) ?_
  refine lv_icmp_ge (tgt := 66) hx hb dMod_note_7 (by decide) (fun c_1 => ?_) (fun c_1 => ?_)
  · refine lv_aload_n hx hb dMod_note_66 rfl (lv_at hl 0 rfl) ?_
    refine lv_dup hx hb dMod_note_67 rfl ?_
    refine mg_i (v := mi σ 18) FMod_137 hx hb hts hown hW dMod_note_68 rfl ?_
    refine lv_iconst (v := (1 : Int32)) hx hb dMod_note_71 (by decide) ?_
    refine lv_iadd hx hb dMod_note_72 ?_
    refine mp_i FMod_137 GMod_expired hx hb hts hown hW rfl rfl dMod_note_73 (fun H locs hW => ?_)
    exact e_v hsz hx hb hr hlk hW mono_hsM (Nat.le_refl _) (Nat.le_refl _) dMod_note_76 (congrArg (hsM o z tt) (Eq.symm (by refine (if_pos c_1).trans ?_; rfl)))
  · refine lv_aload_n hx hb dMod_note_10 rfl (lv_at hl 0 rfl) ?_
    refine mg_a FMod_78 22 ⟨rfl, by decide⟩ hx hb hts hown hW dMod_note_11 ?_
    refine lv_aload_n hx hb dMod_note_14 rfl (lv_at hl 0 rfl) ?_
    refine mg_i (v := mi σ 18) FMod_137 hx hb hts hown hW dMod_note_15 rfl ?_
    refine lv_iload_n hx hb dMod_note_18 rfl (lv_at hl 1 rfl) ?_
    refine m_is (j := 22) (v := k0) ⟨by decide, rfl⟩ hx hb hW (rg.in (rg_lt3 hE c_1) (by decide) (by decide)) dMod_note_19 (fun H locs hW => ?_)
    refine lv_aload_n hx hb dMod_note_20 rfl (lv_at hl 0 rfl) ?_
    refine mg_a FMod_81 23 ⟨rfl, by decide⟩ hx hb hts hown hW dMod_note_21 ?_
    refine lv_aload_n hx hb dMod_note_24 rfl (lv_at hl 0 rfl) ?_
    refine mg_i (v := mi σ 18) FMod_137 hx hb hts hown hW dMod_note_25 (ri_a) ?_
    refine lv_iload_n hx hb dMod_note_28 rfl (lv_at hl 2 rfl) ?_
    refine m_is (j := 23) (v := n0) ⟨by decide, rfl⟩ hx hb hW (rg.in (rg_lt3 hE c_1) (by decide) (by decide)) dMod_note_29 (fun H locs hW => ?_)
    refine lv_aload_n hx hb dMod_note_30 rfl (lv_at hl 0 rfl) ?_
    refine mg_a FMod_84 24 ⟨rfl, by decide⟩ hx hb hts hown hW dMod_note_31 ?_
    refine lv_aload_n hx hb dMod_note_34 rfl (lv_at hl 0 rfl) ?_
    refine mg_i (v := mi σ 18) FMod_137 hx hb hts hown hW dMod_note_35 ((ri_a).trans (ri_a)) ?_
    refine lv_lload_n hx hb dMod_note_38 rfl (lv_at hl 3 rfl) ?_
    refine lv_l2i hx hb dMod_note_39 rfl ?_
    refine m_is (j := 24) (v := o0.toInt32) ⟨by decide, rfl⟩ hx hb hW (rg.in (rg_lt3 hE c_1) (by decide) (by decide)) dMod_note_40 (fun H locs hW => ?_)
    refine lv_aload_n hx hb dMod_note_41 rfl (lv_at hl 0 rfl) ?_
    refine mg_a FMod_87 25 ⟨rfl, by decide⟩ hx hb hts hown hW dMod_note_42 ?_
    refine lv_aload_n hx hb dMod_note_45 rfl (lv_at hl 0 rfl) ?_
    refine mg_i (v := mi σ 18) FMod_137 hx hb hts hown hW dMod_note_46 ((ri_a).trans ((ri_a).trans (ri_a))) ?_
    refine lv_aload_n hx hb dMod_note_49 rfl (lv_at hl 0 rfl) ?_
    refine mg_a FMod_19 3 ⟨rfl, by decide⟩ hx hb hts hown hW dMod_note_50 ?_
    refine lv_iload hx hb dMod_note_53 (lv_at hl 4 rfl) ?_
    refine m_ll (j := 3) (v := ml σ 3 c0.toNatClampNeg) ⟨by decide, rfl⟩ hx hb hW (rg.in hc (by decide) (by decide)) dMod_note_55 ((rl_a).trans ((rl_a).trans (rl_a))) ?_
    refine lv_aload_n hx hb dMod_note_56 rfl (lv_at hl 0 rfl) ?_
    refine mg_a FMod_7 0 ⟨rfl, by decide⟩ hx hb hts hown hW dMod_note_57 ?_
    refine lv_iload hx hb dMod_note_60 (lv_at hl 4 rfl) ?_
    refine m_ll (j := 0) (v := ml σ 0 c0.toNatClampNeg) ⟨by decide, rfl⟩ hx hb hW (rg.in hc (by decide) (by decide)) dMod_note_62 ((rl_a).trans ((rl_a).trans (rl_a))) ?_
    refine lv_lrem hx hb dMod_note_63 hbn ?_
    refine lv_l2i hx hb dMod_note_64 rfl ?_
    refine m_is (j := 25) (v := (((ml σ 3 c0.toNatClampNeg) - (ml σ 3 c0.toNatClampNeg) / (ml σ 0 c0.toNatClampNeg) * (ml σ 0 c0.toNatClampNeg)).toInt32)) ⟨by decide, rfl⟩ hx hb hW (rg.in (rg_lt3 hE c_1) (by decide) (by decide)) dMod_note_65 (fun H locs hW => ?_)
    refine lv_aload_n hx hb dMod_note_66 rfl (lv_at hl 0 rfl) ?_
    refine lv_dup hx hb dMod_note_67 rfl ?_
    refine mg_i (v := mi σ 18) FMod_137 hx hb hts hown hW dMod_note_68 ((ri_a).trans ((ri_a).trans ((ri_a).trans (ri_a)))) ?_
    refine lv_iconst (v := (1 : Int32)) hx hb dMod_note_71 (by decide) ?_
    refine lv_iadd hx hb dMod_note_72 ?_
    refine mp_i FMod_137 GMod_expired hx hb hts hown hW rfl rfl dMod_note_73 (fun H locs hW => ?_)
    exact e_v hsz hx hb hr hlk hW mono_hsM (Nat.le_refl _) (Nat.le_refl _) dMod_note_76 (congrArg (hsM o z tt) (Eq.symm (by refine (if_neg c_1).trans ?_; rfl)))

theorem mOk_note {σ : MS} {k0 n0 c0 : Int32} {o0 : Int64} (h : mOk σ) : mOk (Mnote_S σ k0 n0 o0 c0) := by
  unfold Mnote_S
  split <;> exact h
/-- a note leaves all but the notes -/
theorem Mnote_mi {σ : MS} {k0 n0 c0 : Int32} {o0 : Int64} {k : Nat} (hk : k ≠ 18) : mi (Mnote_S σ k0 n0 o0 c0) k = mi σ k := by
  unfold Mnote_S
  split <;> exact va_up_ne _ _ hk
theorem Mnote_ma {σ : MS} {k0 n0 c0 : Int32} {o0 : Int64} {j : Nat} (hj : j < 22 ∨ 25 < j) : ma (Mnote_S σ k0 n0 o0 c0) j = ma σ j := by
  unfold Mnote_S
  split
  · rfl
  · funext i
    show up2 (up2 (up2 (up2 (ma σ) 22 _ _) 23 _ _) 24 _ _) 25 _ _ j i = ma σ j i
    rw [up2_k _ _ _ _ (by omega), up2_k _ _ _ _ (by omega), up2_k _ _ _ _ (by omega), up2_k _ _ _ _ (by omega)]
theorem Mnote_ml {σ : MS} {k0 n0 c0 : Int32} {o0 : Int64} : ml (Mnote_S σ k0 n0 o0 c0) = ml σ := by
  unfold Mnote_S
  split <;> rfl

def MmakeStep_S (σ : MS) (c0 : Int32) : MS :=
  (smi (sma (sma (sml σ 3 c0.toNatClampNeg ((ml σ 3 c0.toNatClampNeg) + (1 : Int64))) 26 (mi σ 20).toNatClampNeg c0) 27 (mi σ 20).toNatClampNeg (0 : Int32)) 20 ((mi σ 20) + (1 : Int32)))
set_option maxRecDepth 20000 in
set_option maxHeartbeats 2000000 in
theorem c_MmakeStep (l : Launch) (D : va_G) (AC : Nat → ClassId) (o z tt : Nat) (σ : MS) (c0 : Int32) (hc : rg 0 20 c0) (hd : rg 0 23 (mi σ 20)) : CtV l yMod_makeStep (Cond.code yMod_makeStep cMod_makeStep 2 none :: wT) 0 0 D AC (hsM o z tt σ) [.ref o, .int c0] 0 0 (fun S' => S' = hsM o z tt (MmakeStep_S σ c0)) := by
  refine met_of (by decide) (Nat.le_of_ble_eq_true rfl) ?_
  intro p e s m below meth c ls hsz X hW hl
  obtain ⟨hx, hb, hml, hr, hlk, hown, hnm, hts⟩ := X
  have hl : lv_has ls 2 [(0, .ref o), (1, .int c0)] := hl
  refine lv_aload_n hx hb dMod_makeStep_0 rfl (lv_at hl 0 rfl) ?_
  refine mg_a FMod_19 3 ⟨rfl, by decide⟩ hx hb hts hown hW dMod_makeStep_1 ?_
  refine lv_iload_n hx hb dMod_makeStep_4 rfl (lv_at hl 1 rfl) ?_
  refine lv_dup2_11 hx hb dMod_makeStep_5 rfl rfl ?_
  refine m_ll (j := 3) (v := ml σ 3 c0.toNatClampNeg) ⟨by decide, rfl⟩ hx hb hW (rg.in hc (by decide) (by decide)) dMod_makeStep_6 rfl ?_
  refine lv_lconst (v := (1 : Int64)) hx hb dMod_makeStep_7 (by decide) ?_
  refine lv_ladd hx hb dMod_makeStep_8 ?_
  refine m_ls (j := 3) (v := ((ml σ 3 c0.toNatClampNeg) + (1 : Int64))) ⟨by decide, rfl⟩ hx hb hW (rg.in hc (by decide) (by decide)) dMod_makeStep_9 (fun H locs hW => ?_)
  refine lv_aload_n hx hb dMod_makeStep_10 rfl (lv_at hl 0 rfl) ?_
  refine mg_a FMod_90 26 ⟨rfl, by decide⟩ hx hb hts hown hW dMod_makeStep_11 ?_
  refine lv_aload_n hx hb dMod_makeStep_14 rfl (lv_at hl 0 rfl) ?_
  refine mg_i (v := mi σ 20) FMod_140 hx hb hts hown hW dMod_makeStep_15 (ri_l) ?_
  refine lv_iload_n hx hb dMod_makeStep_18 rfl (lv_at hl 1 rfl) ?_
  refine m_is (j := 26) (v := c0) ⟨by decide, rfl⟩ hx hb hW (rg.in hd (by decide) (by decide)) dMod_makeStep_19 (fun H locs hW => ?_)
  refine lv_aload_n hx hb dMod_makeStep_20 rfl (lv_at hl 0 rfl) ?_
  refine mg_a FMod_93 27 ⟨rfl, by decide⟩ hx hb hts hown hW dMod_makeStep_21 ?_
  refine lv_aload_n hx hb dMod_makeStep_24 rfl (lv_at hl 0 rfl) ?_
  refine mg_i (v := mi σ 20) FMod_140 hx hb hts hown hW dMod_makeStep_25 ((ri_a).trans (ri_l)) ?_
  refine lv_iconst (v := (0 : Int32)) hx hb dMod_makeStep_28 (by decide) ?_
  refine m_is (j := 27) (v := (0 : Int32)) ⟨by decide, rfl⟩ hx hb hW (rg.in hd (by decide) (by decide)) dMod_makeStep_29 (fun H locs hW => ?_)
  refine lv_aload_n hx hb dMod_makeStep_30 rfl (lv_at hl 0 rfl) ?_
  refine lv_dup hx hb dMod_makeStep_31 rfl ?_
  refine mg_i (v := mi σ 20) FMod_140 hx hb hts hown hW dMod_makeStep_32 ((ri_a).trans ((ri_a).trans (ri_l))) ?_
  refine lv_iconst (v := (1 : Int32)) hx hb dMod_makeStep_35 (by decide) ?_
  refine lv_iadd hx hb dMod_makeStep_36 ?_
  refine mp_i FMod_140 GMod_deep hx hb hts hown hW rfl rfl dMod_makeStep_37 (fun H locs hW => ?_)
  exact e_v hsz hx hb hr hlk hW mono_hsM (Nat.le_refl _) (Nat.le_refl _) dMod_makeStep_40 (congrArg (hsM o z tt) rfl)

def MbyAct_S (σ : MS) (c0 : Int32) : MS :=
  if (mi σ 19) = (20000 : Int32) then
    σ
  else
    (MmakeStep_S (smi σ 19 ((mi σ 19) + (1 : Int32))) c0)
set_option maxRecDepth 20000 in
set_option maxHeartbeats 2000000 in
theorem c_MbyAct (l : Launch) (D : va_G) (AC : Nat → ClassId) (o z tt : Nat) (σ : MS) (c0 : Int32) (hc : rg 0 20 c0) (hd : rg 0 23 (mi σ 20)) : CtV l yMod_byAct (Cond.code yMod_byAct cMod_byAct 2 none :: wT) 1 24 D AC (hsM o z tt σ) [.ref o, .int c0] 0 0 (fun S' => S' = hsM o z tt (MbyAct_S σ c0)) := by
  refine met_of (by decide) (Nat.le_of_ble_eq_true rfl) ?_
  intro p e s m below meth c ls hsz X hW hl
  obtain ⟨hx, hb, hml, hr, hlk, hown, hnm, hts⟩ := X
  have hl : lv_has ls 2 [(0, .ref o), (1, .int c0)] := hl
  refine lv_aload_n hx hb dMod_byAct_0 rfl (lv_at hl 0 rfl) ?_
  refine mg_i (v := mi σ 19) FMod_143 hx hb hts hown hW dMod_byAct_1 rfl ?_
  refine lv_sipush (v := (20000 : Int32)) hx hb dMod_byAct_4 (by decide) ?_
  refine lv_icmp_ne (tgt := 11) hx hb dMod_byAct_7 (by decide) (fun c_1 => ?_) (fun c_1 => ?_)
  · refine lv_aload_n hx hb dMod_byAct_11 rfl (lv_at hl 0 rfl) ?_
    refine lv_dup hx hb dMod_byAct_12 rfl ?_
    refine mg_i (v := mi σ 19) FMod_143 hx hb hts hown hW dMod_byAct_13 rfl ?_
    refine lv_iconst (v := (1 : Int32)) hx hb dMod_byAct_16 (by decide) ?_
    refine lv_iadd hx hb dMod_byAct_17 ?_
    refine mp_i FMod_143 GMod_acted hx hb hts hown hW rfl rfl dMod_byAct_18 (fun H locs hW => ?_)
    refine lv_aload_n hx hb dMod_byAct_21 rfl (lv_at hl 0 rfl) ?_
    refine lv_iload_n hx hb dMod_byAct_22 rfl (lv_at hl 1 rfl) ?_
    refine k_Vv (K := 9) (As := [.int c0]) (rest := []) (c_MmakeStep l D AC o z tt (smi σ 19 ((mi σ 19) + (1 : Int32))) c0 hc hd) CMod_146 ⟨by decide, by decide, _, rfl, rfl⟩ hx hb hml hown hts hW hsM_k hl.1 rfl rfl (Nat.le_of_ble_eq_true rfl) ⟨⟨Nat.le_of_ble_eq_true rfl, Nat.le_of_ble_eq_true rfl⟩, ⟨Nat.le_of_ble_eq_true rfl, Nat.le_of_ble_eq_true rfl⟩⟩ dMod_byAct_23 (fun S_2 H locs e_2 hW _ _ => ?_)
    rw [e_2] at hW
    exact e_v hsz hx hb hr hlk hW mono_hsM (Nat.le_refl _) (Nat.le_refl _) dMod_byAct_26 (congrArg (hsM o z tt) (Eq.symm (by refine (if_neg c_1).trans ?_; rfl)))
  · exact e_v hsz hx hb hr hlk hW mono_hsM (Nat.le_refl _) (Nat.le_refl _) dMod_byAct_10 (congrArg (hsM o z tt) (Eq.symm (by refine (if_pos c_1).trans ?_; rfl)))

theorem mOk_makeStep {σ : MS} {c0 : Int32} (h : mOk σ) (hc : rg 0 20 c0) : mOk (MmakeStep_S σ c0) := by
  have h1 := mOk_w26 (i := (mi σ 20).toNatClampNeg) h hc
  have h2 := mOk_w27 (i := (mi σ 20).toNatClampNeg) (v := 0) h1 ⟨by decide, by decide⟩
  exact h2
theorem mOk_byAct {σ : MS} {c0 : Int32} (h : mOk σ) (hc : rg 0 20 c0) : mOk (MbyAct_S σ c0) := by
  unfold MbyAct_S
  split
  · exact h
  · exact mOk_makeStep (σ := smi σ 19 _) h hc
theorem MbyAct_ma {σ : MS} {c0 : Int32} {j : Nat} (hj : j ≠ 26) (hj2 : j ≠ 27) : ma (MbyAct_S σ c0) j = ma σ j := by
  unfold MbyAct_S
  split
  · rfl
  · funext i
    show up2 (up2 (ma σ) 26 _ _) 27 _ _ j i = ma σ j i
    rw [up2_k _ _ _ _ hj2, up2_k _ _ _ _ hj]

def MgoOn_R (σ : MS) (t0 : Int32) (f0 : Int64) : Int32 :=
  if (ma σ 14 t0.toNatClampNeg) ≤ (ma σ 21 t0.toNatClampNeg) then
    if ((ml σ 13 t0.toNatClampNeg) - f0) = (0 : Int64) then
      (1 : Int32)
    else
      if (2 : Int64) < (ml σ 18 t0.toNatClampNeg) then
        if (((ml σ 13 t0.toNatClampNeg) - f0) + (2 : Int64)) < (1 : Int64) then
          (0 : Int32)
        else
          (0 : Int32)
      else
        if (ml σ 18 t0.toNatClampNeg) < (-2 : Int64) then
          if (((ml σ 13 t0.toNatClampNeg) - f0) + (-2 : Int64)) < (1 : Int64) then
            (0 : Int32)
          else
            (0 : Int32)
        else
          if (((ml σ 13 t0.toNatClampNeg) - f0) + (ml σ 18 t0.toNatClampNeg)) < (1 : Int64) then
            (0 : Int32)
          else
            (0 : Int32)
  else
    if ((ml σ 15 (((20 : Int32) * t0) + (ma σ 21 t0.toNatClampNeg)).toNatClampNeg) - f0) = (0 : Int64) then
      (1 : Int32)
    else
      if (2 : Int64) < (ml σ 18 t0.toNatClampNeg) then
        if (((ml σ 15 (((20 : Int32) * t0) + (ma σ 21 t0.toNatClampNeg)).toNatClampNeg) - f0) + (2 : Int64)) < (1 : Int64) then
          (0 : Int32)
        else
          (0 : Int32)
      else
        if (ml σ 18 t0.toNatClampNeg) < (-2 : Int64) then
          if (((ml σ 15 (((20 : Int32) * t0) + (ma σ 21 t0.toNatClampNeg)).toNatClampNeg) - f0) + (-2 : Int64)) < (1 : Int64) then
            (0 : Int32)
          else
            (0 : Int32)
        else
          if (((ml σ 15 (((20 : Int32) * t0) + (ma σ 21 t0.toNatClampNeg)).toNatClampNeg) - f0) + (ml σ 18 t0.toNatClampNeg)) < (1 : Int64) then
            (0 : Int32)
          else
            (0 : Int32)
def MgoOn_S (σ : MS) (t0 : Int32) (f0 : Int64) : MS :=
  if (ma σ 14 t0.toNatClampNeg) ≤ (ma σ 21 t0.toNatClampNeg) then
    if ((ml σ 13 t0.toNatClampNeg) - f0) = (0 : Int64) then
      σ
    else
      if (2 : Int64) < (ml σ 18 t0.toNatClampNeg) then
        if (((ml σ 13 t0.toNatClampNeg) - f0) + (2 : Int64)) < (1 : Int64) then
          (sml (sml σ 18 t0.toNatClampNeg ((ml σ 18 t0.toNatClampNeg) - ((1 : Int64) - ((ml σ 13 t0.toNatClampNeg) - f0)))) 20 t0.toNatClampNeg (((ml σ 3 (ma σ 12 t0.toNatClampNeg).toNatClampNeg) + ((ml σ 13 t0.toNatClampNeg) - f0)) + ((1 : Int64) - ((ml σ 13 t0.toNatClampNeg) - f0))))
        else
          (sml (sml σ 18 t0.toNatClampNeg ((ml σ 18 t0.toNatClampNeg) - (2 : Int64))) 20 t0.toNatClampNeg (((ml σ 3 (ma σ 12 t0.toNatClampNeg).toNatClampNeg) + ((ml σ 13 t0.toNatClampNeg) - f0)) + (2 : Int64)))
      else
        if (ml σ 18 t0.toNatClampNeg) < (-2 : Int64) then
          if (((ml σ 13 t0.toNatClampNeg) - f0) + (-2 : Int64)) < (1 : Int64) then
            (sml (sml σ 18 t0.toNatClampNeg ((ml σ 18 t0.toNatClampNeg) - ((1 : Int64) - ((ml σ 13 t0.toNatClampNeg) - f0)))) 20 t0.toNatClampNeg (((ml σ 3 (ma σ 12 t0.toNatClampNeg).toNatClampNeg) + ((ml σ 13 t0.toNatClampNeg) - f0)) + ((1 : Int64) - ((ml σ 13 t0.toNatClampNeg) - f0))))
          else
            (sml (sml σ 18 t0.toNatClampNeg ((ml σ 18 t0.toNatClampNeg) - (-2 : Int64))) 20 t0.toNatClampNeg (((ml σ 3 (ma σ 12 t0.toNatClampNeg).toNatClampNeg) + ((ml σ 13 t0.toNatClampNeg) - f0)) + (-2 : Int64)))
        else
          if (((ml σ 13 t0.toNatClampNeg) - f0) + (ml σ 18 t0.toNatClampNeg)) < (1 : Int64) then
            (sml (sml σ 18 t0.toNatClampNeg ((ml σ 18 t0.toNatClampNeg) - ((1 : Int64) - ((ml σ 13 t0.toNatClampNeg) - f0)))) 20 t0.toNatClampNeg (((ml σ 3 (ma σ 12 t0.toNatClampNeg).toNatClampNeg) + ((ml σ 13 t0.toNatClampNeg) - f0)) + ((1 : Int64) - ((ml σ 13 t0.toNatClampNeg) - f0))))
          else
            (sml (sml σ 18 t0.toNatClampNeg ((ml σ 18 t0.toNatClampNeg) - (ml σ 18 t0.toNatClampNeg))) 20 t0.toNatClampNeg (((ml σ 3 (ma σ 12 t0.toNatClampNeg).toNatClampNeg) + ((ml σ 13 t0.toNatClampNeg) - f0)) + (ml σ 18 t0.toNatClampNeg)))
  else
    if ((ml σ 15 (((20 : Int32) * t0) + (ma σ 21 t0.toNatClampNeg)).toNatClampNeg) - f0) = (0 : Int64) then
      σ
    else
      if (2 : Int64) < (ml σ 18 t0.toNatClampNeg) then
        if (((ml σ 15 (((20 : Int32) * t0) + (ma σ 21 t0.toNatClampNeg)).toNatClampNeg) - f0) + (2 : Int64)) < (1 : Int64) then
          (sml (sml σ 18 t0.toNatClampNeg ((ml σ 18 t0.toNatClampNeg) - ((1 : Int64) - ((ml σ 15 (((20 : Int32) * t0) + (ma σ 21 t0.toNatClampNeg)).toNatClampNeg) - f0)))) 20 t0.toNatClampNeg (((ml σ 3 (ma σ 12 t0.toNatClampNeg).toNatClampNeg) + ((ml σ 15 (((20 : Int32) * t0) + (ma σ 21 t0.toNatClampNeg)).toNatClampNeg) - f0)) + ((1 : Int64) - ((ml σ 15 (((20 : Int32) * t0) + (ma σ 21 t0.toNatClampNeg)).toNatClampNeg) - f0))))
        else
          (sml (sml σ 18 t0.toNatClampNeg ((ml σ 18 t0.toNatClampNeg) - (2 : Int64))) 20 t0.toNatClampNeg (((ml σ 3 (ma σ 12 t0.toNatClampNeg).toNatClampNeg) + ((ml σ 15 (((20 : Int32) * t0) + (ma σ 21 t0.toNatClampNeg)).toNatClampNeg) - f0)) + (2 : Int64)))
      else
        if (ml σ 18 t0.toNatClampNeg) < (-2 : Int64) then
          if (((ml σ 15 (((20 : Int32) * t0) + (ma σ 21 t0.toNatClampNeg)).toNatClampNeg) - f0) + (-2 : Int64)) < (1 : Int64) then
            (sml (sml σ 18 t0.toNatClampNeg ((ml σ 18 t0.toNatClampNeg) - ((1 : Int64) - ((ml σ 15 (((20 : Int32) * t0) + (ma σ 21 t0.toNatClampNeg)).toNatClampNeg) - f0)))) 20 t0.toNatClampNeg (((ml σ 3 (ma σ 12 t0.toNatClampNeg).toNatClampNeg) + ((ml σ 15 (((20 : Int32) * t0) + (ma σ 21 t0.toNatClampNeg)).toNatClampNeg) - f0)) + ((1 : Int64) - ((ml σ 15 (((20 : Int32) * t0) + (ma σ 21 t0.toNatClampNeg)).toNatClampNeg) - f0))))
          else
            (sml (sml σ 18 t0.toNatClampNeg ((ml σ 18 t0.toNatClampNeg) - (-2 : Int64))) 20 t0.toNatClampNeg (((ml σ 3 (ma σ 12 t0.toNatClampNeg).toNatClampNeg) + ((ml σ 15 (((20 : Int32) * t0) + (ma σ 21 t0.toNatClampNeg)).toNatClampNeg) - f0)) + (-2 : Int64)))
        else
          if (((ml σ 15 (((20 : Int32) * t0) + (ma σ 21 t0.toNatClampNeg)).toNatClampNeg) - f0) + (ml σ 18 t0.toNatClampNeg)) < (1 : Int64) then
            (sml (sml σ 18 t0.toNatClampNeg ((ml σ 18 t0.toNatClampNeg) - ((1 : Int64) - ((ml σ 15 (((20 : Int32) * t0) + (ma σ 21 t0.toNatClampNeg)).toNatClampNeg) - f0)))) 20 t0.toNatClampNeg (((ml σ 3 (ma σ 12 t0.toNatClampNeg).toNatClampNeg) + ((ml σ 15 (((20 : Int32) * t0) + (ma σ 21 t0.toNatClampNeg)).toNatClampNeg) - f0)) + ((1 : Int64) - ((ml σ 15 (((20 : Int32) * t0) + (ma σ 21 t0.toNatClampNeg)).toNatClampNeg) - f0))))
          else
            (sml (sml σ 18 t0.toNatClampNeg ((ml σ 18 t0.toNatClampNeg) - (ml σ 18 t0.toNatClampNeg))) 20 t0.toNatClampNeg (((ml σ 3 (ma σ 12 t0.toNatClampNeg).toNatClampNeg) + ((ml σ 15 (((20 : Int32) * t0) + (ma σ 21 t0.toNatClampNeg)).toNatClampNeg) - f0)) + (ml σ 18 t0.toNatClampNeg)))
set_option maxRecDepth 20000 in
set_option maxHeartbeats 2000000 in
theorem c_MgoOn (l : Launch) (D : va_G) (AC : Nat → ClassId) (o z tt : Nat) (σ : MS) (t0 : Int32) (f0 : Int64) (hO : mOk σ) (ht : rg 1 20 t0) (hp : rg 0 20 (ma σ 21 t0.toNatClampNeg)) : CtI l yMod_goOn (Cond.code yMod_goOn cMod_goOn 10 (some .boolean) :: wT) 0 0 D AC (hsM o z tt σ) [.ref o, .int t0, .long f0] 0 0 (fun r S' => r = MgoOn_R σ t0 f0 ∧ S' = hsM o z tt (MgoOn_S σ t0 f0)) := by
  refine met_of (by decide) (Nat.le_of_ble_eq_true rfl) ?_
  intro p e s m below meth c ls hsz X hW hl
  obtain ⟨hx, hb, hml, hr, hlk, hown, hnm, hts⟩ := X
  have hl : lv_has ls 10 [(0, .ref o), (1, .int t0), (2, .long f0)] := hl
  refine lv_aload_n hx hb dMod_goOn_0 rfl (lv_at hl 0 rfl) ?_
  refine mg_a FMod_75 21 ⟨rfl, by decide⟩ hx hb hts hown hW dMod_goOn_1 ?_
  refine lv_iload_n hx hb dMod_goOn_4 rfl (lv_at hl 1 rfl) ?_
  refine m_il (j := 21) (v := ma σ 21 t0.toNatClampNeg) ⟨by decide, rfl⟩ hx hb hW (rg.in ht (by decide) (by decide)) dMod_goOn_5 rfl ?_
  refine lv_aload_n hx hb dMod_goOn_6 rfl (lv_at hl 0 rfl) ?_
  refine mg_a FMod_54 14 ⟨rfl, by decide⟩ hx hb hts hown hW dMod_goOn_7 ?_
  refine lv_iload_n hx hb dMod_goOn_10 rfl (lv_at hl 1 rfl) ?_
  refine m_il (j := 14) (v := ma σ 14 t0.toNatClampNeg) ⟨by decide, rfl⟩ hx hb hW (rg.in ht (by decide) (by decide)) dMod_goOn_11 rfl ?_
  refine lv_icmp_ge (tgt := 34) hx hb dMod_goOn_12 (by decide) (fun c_1 => ?_) (fun c_1 => ?_)
  · refine lv_aload_n hx hb dMod_goOn_34 rfl (lv_at hl 0 rfl) ?_
    refine mg_a FMod_51 13 ⟨rfl, by decide⟩ hx hb hts hown hW dMod_goOn_35 ?_
    refine lv_iload_n hx hb dMod_goOn_38 rfl (lv_at hl 1 rfl) ?_
    refine m_ll (j := 13) (v := ml σ 13 t0.toNatClampNeg) ⟨by decide, rfl⟩ hx hb hW (rg.in ht (by decide) (by decide)) dMod_goOn_39 rfl ?_
    refine lv_lstore (lv' := [(4, .long (ml σ 13 t0.toNatClampNeg)), (0, .ref o), (1, .int t0), (2, .long f0)]) hx hb dMod_goOn_40 hl (by decide) rfl (fun ls hl => ?_)
    refine lv_lload hx hb dMod_goOn_42 (lv_at hl 0 rfl) ?_
    refine lv_lload_n hx hb dMod_goOn_44 rfl (lv_at hl 3 rfl) ?_
    refine lv_lsub hx hb dMod_goOn_45 ?_
    refine lv_lstore (lv' := [(6, .long ((ml σ 13 t0.toNatClampNeg) - f0)), (4, .long (ml σ 13 t0.toNatClampNeg)), (0, .ref o), (1, .int t0), (2, .long f0)]) hx hb dMod_goOn_46 hl (by decide) rfl (fun ls hl => ?_)
    refine lv_lload hx hb dMod_goOn_48 (lv_at hl 0 rfl) ?_
    refine lv_lconst (v := (0 : Int64)) hx hb dMod_goOn_50 (by decide) ?_
    refine ll_ne (tgt := 57) hx hb dMod_goOn_51 dMod_goOn_52 (by decide) (fun c_2 => ?_) (fun c_2 => ?_)
    · refine lv_aload_n hx hb dMod_goOn_57 rfl (lv_at hl 2 rfl) ?_
      refine mg_a FMod_66 18 ⟨rfl, by decide⟩ hx hb hts hown hW dMod_goOn_58 ?_
      refine lv_iload_n hx hb dMod_goOn_61 rfl (lv_at hl 3 rfl) ?_
      refine m_ll (j := 18) (v := ml σ 18 t0.toNatClampNeg) ⟨by decide, rfl⟩ hx hb hW (rg.in ht (by decide) (by decide)) dMod_goOn_62 rfl ?_
      refine lv_ldc2 (v := (2 : Int64)) hx hb hown (hts _ QMod_124) dMod_goOn_63 ?_
      refine ll_le (tgt := 76) hx hb dMod_goOn_66 dMod_goOn_67 (by decide) (fun c_3 => ?_) (fun c_3 => ?_)
      · refine lv_aload_n hx hb dMod_goOn_76 rfl (lv_at hl 2 rfl) ?_
        refine mg_a FMod_66 18 ⟨rfl, by decide⟩ hx hb hts hown hW dMod_goOn_77 ?_
        refine lv_iload_n hx hb dMod_goOn_80 rfl (lv_at hl 3 rfl) ?_
        refine m_ll (j := 18) (v := ml σ 18 t0.toNatClampNeg) ⟨by decide, rfl⟩ hx hb hW (rg.in ht (by decide) (by decide)) dMod_goOn_81 rfl ?_
        refine lv_ldc2 (v := (-2 : Int64)) hx hb hown (hts _ QMod_150) dMod_goOn_82 ?_
        refine ll_ge (tgt := 95) hx hb dMod_goOn_85 dMod_goOn_86 (by decide) (fun c_4 => ?_) (fun c_4 => ?_)
        · refine lv_aload_n hx hb dMod_goOn_95 rfl (lv_at hl 2 rfl) ?_
          refine mg_a FMod_66 18 ⟨rfl, by decide⟩ hx hb hts hown hW dMod_goOn_96 ?_
          refine lv_iload_n hx hb dMod_goOn_99 rfl (lv_at hl 3 rfl) ?_
          refine m_ll (j := 18) (v := ml σ 18 t0.toNatClampNeg) ⟨by decide, rfl⟩ hx hb hW (rg.in ht (by decide) (by decide)) dMod_goOn_100 rfl ?_
          refine lv_lstore (lv' := [(8, .long (ml σ 18 t0.toNatClampNeg)), (6, .long ((ml σ 13 t0.toNatClampNeg) - f0)), (4, .long (ml σ 13 t0.toNatClampNeg)), (0, .ref o), (1, .int t0), (2, .long f0)]) hx hb dMod_goOn_101 hl (by decide) rfl (fun ls hl => ?_)
          refine lv_lload hx hb dMod_goOn_103 (lv_at hl 1 rfl) ?_
          refine lv_lload hx hb dMod_goOn_105 (lv_at hl 0 rfl) ?_
          refine lv_ladd hx hb dMod_goOn_107 ?_
          refine lv_lconst (v := (1 : Int64)) hx hb dMod_goOn_108 (by decide) ?_
          refine ll_ge (tgt := 120) hx hb dMod_goOn_109 dMod_goOn_110 (by decide) (fun c_5 => ?_) (fun c_5 => ?_)
          · refine lv_lload hx hb dMod_goOn_120 (lv_at hl 0 rfl) ?_
            refine lv_lstore (lv' := [(8, .long (ml σ 18 t0.toNatClampNeg)), (6, .long ((ml σ 13 t0.toNatClampNeg) - f0)), (4, .long (ml σ 13 t0.toNatClampNeg)), (0, .ref o), (1, .int t0), (2, .long f0)]) hx hb dMod_goOn_122 hl (by decide) rfl (fun ls hl => ?_)
            refine lv_aload_n hx hb dMod_goOn_124 rfl (lv_at hl 3 rfl) ?_
            refine mg_a FMod_66 18 ⟨rfl, by decide⟩ hx hb hts hown hW dMod_goOn_125 ?_
            refine lv_iload_n hx hb dMod_goOn_128 rfl (lv_at hl 4 rfl) ?_
            refine lv_aload_n hx hb dMod_goOn_129 rfl (lv_at hl 3 rfl) ?_
            refine mg_a FMod_66 18 ⟨rfl, by decide⟩ hx hb hts hown hW dMod_goOn_130 ?_
            refine lv_iload_n hx hb dMod_goOn_133 rfl (lv_at hl 4 rfl) ?_
            refine m_ll (j := 18) (v := ml σ 18 t0.toNatClampNeg) ⟨by decide, rfl⟩ hx hb hW (rg.in ht (by decide) (by decide)) dMod_goOn_134 rfl ?_
            refine lv_lload hx hb dMod_goOn_135 (lv_at hl 0 rfl) ?_
            refine lv_lsub hx hb dMod_goOn_137 ?_
            refine m_ls (j := 18) (v := ((ml σ 18 t0.toNatClampNeg) - (ml σ 18 t0.toNatClampNeg))) ⟨by decide, rfl⟩ hx hb hW (rg.in ht (by decide) (by decide)) dMod_goOn_138 (fun H locs hW => ?_)
            refine lv_aload_n hx hb dMod_goOn_139 rfl (lv_at hl 3 rfl) ?_
            refine mg_a FMod_72 20 ⟨rfl, by decide⟩ hx hb hts hown hW dMod_goOn_140 ?_
            refine lv_iload_n hx hb dMod_goOn_143 rfl (lv_at hl 4 rfl) ?_
            refine lv_aload_n hx hb dMod_goOn_144 rfl (lv_at hl 3 rfl) ?_
            refine mg_a FMod_19 3 ⟨rfl, by decide⟩ hx hb hts hown hW dMod_goOn_145 ?_
            refine lv_aload_n hx hb dMod_goOn_148 rfl (lv_at hl 3 rfl) ?_
            refine mg_a FMod_48 12 ⟨rfl, by decide⟩ hx hb hts hown hW dMod_goOn_149 ?_
            refine lv_iload_n hx hb dMod_goOn_152 rfl (lv_at hl 4 rfl) ?_
            refine m_il (j := 12) (v := ma σ 12 t0.toNatClampNeg) ⟨by decide, rfl⟩ hx hb hW (rg.in ht (by decide) (by decide)) dMod_goOn_153 (ra_l) ?_
            refine m_ll (j := 3) (v := ml σ 3 (ma σ 12 t0.toNatClampNeg).toNatClampNeg) ⟨by decide, rfl⟩ hx hb hW (rg.in (hO.2.2.2.2.2.1 _) (by decide) (by decide)) dMod_goOn_154 (rl_l (by decide)) ?_
            refine lv_lload hx hb dMod_goOn_155 (lv_at hl 1 rfl) ?_
            refine lv_ladd hx hb dMod_goOn_157 ?_
            refine lv_lload hx hb dMod_goOn_158 (lv_at hl 0 rfl) ?_
            refine lv_ladd hx hb dMod_goOn_160 ?_
            refine m_ls (j := 20) (v := (((ml σ 3 (ma σ 12 t0.toNatClampNeg).toNatClampNeg) + ((ml σ 13 t0.toNatClampNeg) - f0)) + (ml σ 18 t0.toNatClampNeg))) ⟨by decide, rfl⟩ hx hb hW (rg.in ht (by decide) (by decide)) dMod_goOn_161 (fun H locs hW => ?_)
            refine lv_iconst (v := (0 : Int32)) hx hb dMod_goOn_162 (by decide) ?_
            exact e_z hsz hx hb hr hlk hW mono_hsM (Nat.le_refl _) (Nat.le_refl _) dMod_goOn_163 (rfl) ⟨(Eq.symm (by refine (if_pos c_1).trans ?_; refine (if_neg c_2).trans ?_; refine (if_neg c_3).trans ?_; refine (if_neg c_4).trans ?_; refine (if_neg c_5).trans ?_; rfl)), congrArg (hsM o z tt) (Eq.symm (by refine (if_pos c_1).trans ?_; refine (if_neg c_2).trans ?_; refine (if_neg c_3).trans ?_; refine (if_neg c_4).trans ?_; refine (if_neg c_5).trans ?_; rfl))⟩
          · refine lv_lconst (v := (1 : Int64)) hx hb dMod_goOn_113 (by decide) ?_
            refine lv_lload hx hb dMod_goOn_114 (lv_at hl 1 rfl) ?_
            refine lv_lsub hx hb dMod_goOn_116 ?_
            refine lv_goto (tgt := 122) hx hb dMod_goOn_117 (by decide) ?_
            refine lv_lstore (lv' := [(8, .long ((1 : Int64) - ((ml σ 13 t0.toNatClampNeg) - f0))), (6, .long ((ml σ 13 t0.toNatClampNeg) - f0)), (4, .long (ml σ 13 t0.toNatClampNeg)), (0, .ref o), (1, .int t0), (2, .long f0)]) hx hb dMod_goOn_122 hl (by decide) rfl (fun ls hl => ?_)
            refine lv_aload_n hx hb dMod_goOn_124 rfl (lv_at hl 3 rfl) ?_
            refine mg_a FMod_66 18 ⟨rfl, by decide⟩ hx hb hts hown hW dMod_goOn_125 ?_
            refine lv_iload_n hx hb dMod_goOn_128 rfl (lv_at hl 4 rfl) ?_
            refine lv_aload_n hx hb dMod_goOn_129 rfl (lv_at hl 3 rfl) ?_
            refine mg_a FMod_66 18 ⟨rfl, by decide⟩ hx hb hts hown hW dMod_goOn_130 ?_
            refine lv_iload_n hx hb dMod_goOn_133 rfl (lv_at hl 4 rfl) ?_
            refine m_ll (j := 18) (v := ml σ 18 t0.toNatClampNeg) ⟨by decide, rfl⟩ hx hb hW (rg.in ht (by decide) (by decide)) dMod_goOn_134 rfl ?_
            refine lv_lload hx hb dMod_goOn_135 (lv_at hl 0 rfl) ?_
            refine lv_lsub hx hb dMod_goOn_137 ?_
            refine m_ls (j := 18) (v := ((ml σ 18 t0.toNatClampNeg) - ((1 : Int64) - ((ml σ 13 t0.toNatClampNeg) - f0)))) ⟨by decide, rfl⟩ hx hb hW (rg.in ht (by decide) (by decide)) dMod_goOn_138 (fun H locs hW => ?_)
            refine lv_aload_n hx hb dMod_goOn_139 rfl (lv_at hl 3 rfl) ?_
            refine mg_a FMod_72 20 ⟨rfl, by decide⟩ hx hb hts hown hW dMod_goOn_140 ?_
            refine lv_iload_n hx hb dMod_goOn_143 rfl (lv_at hl 4 rfl) ?_
            refine lv_aload_n hx hb dMod_goOn_144 rfl (lv_at hl 3 rfl) ?_
            refine mg_a FMod_19 3 ⟨rfl, by decide⟩ hx hb hts hown hW dMod_goOn_145 ?_
            refine lv_aload_n hx hb dMod_goOn_148 rfl (lv_at hl 3 rfl) ?_
            refine mg_a FMod_48 12 ⟨rfl, by decide⟩ hx hb hts hown hW dMod_goOn_149 ?_
            refine lv_iload_n hx hb dMod_goOn_152 rfl (lv_at hl 4 rfl) ?_
            refine m_il (j := 12) (v := ma σ 12 t0.toNatClampNeg) ⟨by decide, rfl⟩ hx hb hW (rg.in ht (by decide) (by decide)) dMod_goOn_153 (ra_l) ?_
            refine m_ll (j := 3) (v := ml σ 3 (ma σ 12 t0.toNatClampNeg).toNatClampNeg) ⟨by decide, rfl⟩ hx hb hW (rg.in (hO.2.2.2.2.2.1 _) (by decide) (by decide)) dMod_goOn_154 (rl_l (by decide)) ?_
            refine lv_lload hx hb dMod_goOn_155 (lv_at hl 1 rfl) ?_
            refine lv_ladd hx hb dMod_goOn_157 ?_
            refine lv_lload hx hb dMod_goOn_158 (lv_at hl 0 rfl) ?_
            refine lv_ladd hx hb dMod_goOn_160 ?_
            refine m_ls (j := 20) (v := (((ml σ 3 (ma σ 12 t0.toNatClampNeg).toNatClampNeg) + ((ml σ 13 t0.toNatClampNeg) - f0)) + ((1 : Int64) - ((ml σ 13 t0.toNatClampNeg) - f0)))) ⟨by decide, rfl⟩ hx hb hW (rg.in ht (by decide) (by decide)) dMod_goOn_161 (fun H locs hW => ?_)
            refine lv_iconst (v := (0 : Int32)) hx hb dMod_goOn_162 (by decide) ?_
            exact e_z hsz hx hb hr hlk hW mono_hsM (Nat.le_refl _) (Nat.le_refl _) dMod_goOn_163 (rfl) ⟨(Eq.symm (by refine (if_pos c_1).trans ?_; refine (if_neg c_2).trans ?_; refine (if_neg c_3).trans ?_; refine (if_neg c_4).trans ?_; refine (if_pos c_5).trans ?_; rfl)), congrArg (hsM o z tt) (Eq.symm (by refine (if_pos c_1).trans ?_; refine (if_neg c_2).trans ?_; refine (if_neg c_3).trans ?_; refine (if_neg c_4).trans ?_; refine (if_pos c_5).trans ?_; rfl))⟩
        · refine lv_ldc2 (v := (-2 : Int64)) hx hb hown (hts _ QMod_150) dMod_goOn_89 ?_
          refine lv_goto (tgt := 101) hx hb dMod_goOn_92 (by decide) ?_
          refine lv_lstore (lv' := [(8, .long (-2 : Int64)), (6, .long ((ml σ 13 t0.toNatClampNeg) - f0)), (4, .long (ml σ 13 t0.toNatClampNeg)), (0, .ref o), (1, .int t0), (2, .long f0)]) hx hb dMod_goOn_101 hl (by decide) rfl (fun ls hl => ?_)
          refine lv_lload hx hb dMod_goOn_103 (lv_at hl 1 rfl) ?_
          refine lv_lload hx hb dMod_goOn_105 (lv_at hl 0 rfl) ?_
          refine lv_ladd hx hb dMod_goOn_107 ?_
          refine lv_lconst (v := (1 : Int64)) hx hb dMod_goOn_108 (by decide) ?_
          refine ll_ge (tgt := 120) hx hb dMod_goOn_109 dMod_goOn_110 (by decide) (fun c_6 => ?_) (fun c_6 => ?_)
          · refine lv_lload hx hb dMod_goOn_120 (lv_at hl 0 rfl) ?_
            refine lv_lstore (lv' := [(8, .long (-2 : Int64)), (6, .long ((ml σ 13 t0.toNatClampNeg) - f0)), (4, .long (ml σ 13 t0.toNatClampNeg)), (0, .ref o), (1, .int t0), (2, .long f0)]) hx hb dMod_goOn_122 hl (by decide) rfl (fun ls hl => ?_)
            refine lv_aload_n hx hb dMod_goOn_124 rfl (lv_at hl 3 rfl) ?_
            refine mg_a FMod_66 18 ⟨rfl, by decide⟩ hx hb hts hown hW dMod_goOn_125 ?_
            refine lv_iload_n hx hb dMod_goOn_128 rfl (lv_at hl 4 rfl) ?_
            refine lv_aload_n hx hb dMod_goOn_129 rfl (lv_at hl 3 rfl) ?_
            refine mg_a FMod_66 18 ⟨rfl, by decide⟩ hx hb hts hown hW dMod_goOn_130 ?_
            refine lv_iload_n hx hb dMod_goOn_133 rfl (lv_at hl 4 rfl) ?_
            refine m_ll (j := 18) (v := ml σ 18 t0.toNatClampNeg) ⟨by decide, rfl⟩ hx hb hW (rg.in ht (by decide) (by decide)) dMod_goOn_134 rfl ?_
            refine lv_lload hx hb dMod_goOn_135 (lv_at hl 0 rfl) ?_
            refine lv_lsub hx hb dMod_goOn_137 ?_
            refine m_ls (j := 18) (v := ((ml σ 18 t0.toNatClampNeg) - (-2 : Int64))) ⟨by decide, rfl⟩ hx hb hW (rg.in ht (by decide) (by decide)) dMod_goOn_138 (fun H locs hW => ?_)
            refine lv_aload_n hx hb dMod_goOn_139 rfl (lv_at hl 3 rfl) ?_
            refine mg_a FMod_72 20 ⟨rfl, by decide⟩ hx hb hts hown hW dMod_goOn_140 ?_
            refine lv_iload_n hx hb dMod_goOn_143 rfl (lv_at hl 4 rfl) ?_
            refine lv_aload_n hx hb dMod_goOn_144 rfl (lv_at hl 3 rfl) ?_
            refine mg_a FMod_19 3 ⟨rfl, by decide⟩ hx hb hts hown hW dMod_goOn_145 ?_
            refine lv_aload_n hx hb dMod_goOn_148 rfl (lv_at hl 3 rfl) ?_
            refine mg_a FMod_48 12 ⟨rfl, by decide⟩ hx hb hts hown hW dMod_goOn_149 ?_
            refine lv_iload_n hx hb dMod_goOn_152 rfl (lv_at hl 4 rfl) ?_
            refine m_il (j := 12) (v := ma σ 12 t0.toNatClampNeg) ⟨by decide, rfl⟩ hx hb hW (rg.in ht (by decide) (by decide)) dMod_goOn_153 (ra_l) ?_
            refine m_ll (j := 3) (v := ml σ 3 (ma σ 12 t0.toNatClampNeg).toNatClampNeg) ⟨by decide, rfl⟩ hx hb hW (rg.in (hO.2.2.2.2.2.1 _) (by decide) (by decide)) dMod_goOn_154 (rl_l (by decide)) ?_
            refine lv_lload hx hb dMod_goOn_155 (lv_at hl 1 rfl) ?_
            refine lv_ladd hx hb dMod_goOn_157 ?_
            refine lv_lload hx hb dMod_goOn_158 (lv_at hl 0 rfl) ?_
            refine lv_ladd hx hb dMod_goOn_160 ?_
            refine m_ls (j := 20) (v := (((ml σ 3 (ma σ 12 t0.toNatClampNeg).toNatClampNeg) + ((ml σ 13 t0.toNatClampNeg) - f0)) + (-2 : Int64))) ⟨by decide, rfl⟩ hx hb hW (rg.in ht (by decide) (by decide)) dMod_goOn_161 (fun H locs hW => ?_)
            refine lv_iconst (v := (0 : Int32)) hx hb dMod_goOn_162 (by decide) ?_
            exact e_z hsz hx hb hr hlk hW mono_hsM (Nat.le_refl _) (Nat.le_refl _) dMod_goOn_163 (rfl) ⟨(Eq.symm (by refine (if_pos c_1).trans ?_; refine (if_neg c_2).trans ?_; refine (if_neg c_3).trans ?_; refine (if_pos c_4).trans ?_; refine (if_neg c_6).trans ?_; rfl)), congrArg (hsM o z tt) (Eq.symm (by refine (if_pos c_1).trans ?_; refine (if_neg c_2).trans ?_; refine (if_neg c_3).trans ?_; refine (if_pos c_4).trans ?_; refine (if_neg c_6).trans ?_; rfl))⟩
          · refine lv_lconst (v := (1 : Int64)) hx hb dMod_goOn_113 (by decide) ?_
            refine lv_lload hx hb dMod_goOn_114 (lv_at hl 1 rfl) ?_
            refine lv_lsub hx hb dMod_goOn_116 ?_
            refine lv_goto (tgt := 122) hx hb dMod_goOn_117 (by decide) ?_
            refine lv_lstore (lv' := [(8, .long ((1 : Int64) - ((ml σ 13 t0.toNatClampNeg) - f0))), (6, .long ((ml σ 13 t0.toNatClampNeg) - f0)), (4, .long (ml σ 13 t0.toNatClampNeg)), (0, .ref o), (1, .int t0), (2, .long f0)]) hx hb dMod_goOn_122 hl (by decide) rfl (fun ls hl => ?_)
            refine lv_aload_n hx hb dMod_goOn_124 rfl (lv_at hl 3 rfl) ?_
            refine mg_a FMod_66 18 ⟨rfl, by decide⟩ hx hb hts hown hW dMod_goOn_125 ?_
            refine lv_iload_n hx hb dMod_goOn_128 rfl (lv_at hl 4 rfl) ?_
            refine lv_aload_n hx hb dMod_goOn_129 rfl (lv_at hl 3 rfl) ?_
            refine mg_a FMod_66 18 ⟨rfl, by decide⟩ hx hb hts hown hW dMod_goOn_130 ?_
            refine lv_iload_n hx hb dMod_goOn_133 rfl (lv_at hl 4 rfl) ?_
            refine m_ll (j := 18) (v := ml σ 18 t0.toNatClampNeg) ⟨by decide, rfl⟩ hx hb hW (rg.in ht (by decide) (by decide)) dMod_goOn_134 rfl ?_
            refine lv_lload hx hb dMod_goOn_135 (lv_at hl 0 rfl) ?_
            refine lv_lsub hx hb dMod_goOn_137 ?_
            refine m_ls (j := 18) (v := ((ml σ 18 t0.toNatClampNeg) - ((1 : Int64) - ((ml σ 13 t0.toNatClampNeg) - f0)))) ⟨by decide, rfl⟩ hx hb hW (rg.in ht (by decide) (by decide)) dMod_goOn_138 (fun H locs hW => ?_)
            refine lv_aload_n hx hb dMod_goOn_139 rfl (lv_at hl 3 rfl) ?_
            refine mg_a FMod_72 20 ⟨rfl, by decide⟩ hx hb hts hown hW dMod_goOn_140 ?_
            refine lv_iload_n hx hb dMod_goOn_143 rfl (lv_at hl 4 rfl) ?_
            refine lv_aload_n hx hb dMod_goOn_144 rfl (lv_at hl 3 rfl) ?_
            refine mg_a FMod_19 3 ⟨rfl, by decide⟩ hx hb hts hown hW dMod_goOn_145 ?_
            refine lv_aload_n hx hb dMod_goOn_148 rfl (lv_at hl 3 rfl) ?_
            refine mg_a FMod_48 12 ⟨rfl, by decide⟩ hx hb hts hown hW dMod_goOn_149 ?_
            refine lv_iload_n hx hb dMod_goOn_152 rfl (lv_at hl 4 rfl) ?_
            refine m_il (j := 12) (v := ma σ 12 t0.toNatClampNeg) ⟨by decide, rfl⟩ hx hb hW (rg.in ht (by decide) (by decide)) dMod_goOn_153 (ra_l) ?_
            refine m_ll (j := 3) (v := ml σ 3 (ma σ 12 t0.toNatClampNeg).toNatClampNeg) ⟨by decide, rfl⟩ hx hb hW (rg.in (hO.2.2.2.2.2.1 _) (by decide) (by decide)) dMod_goOn_154 (rl_l (by decide)) ?_
            refine lv_lload hx hb dMod_goOn_155 (lv_at hl 1 rfl) ?_
            refine lv_ladd hx hb dMod_goOn_157 ?_
            refine lv_lload hx hb dMod_goOn_158 (lv_at hl 0 rfl) ?_
            refine lv_ladd hx hb dMod_goOn_160 ?_
            refine m_ls (j := 20) (v := (((ml σ 3 (ma σ 12 t0.toNatClampNeg).toNatClampNeg) + ((ml σ 13 t0.toNatClampNeg) - f0)) + ((1 : Int64) - ((ml σ 13 t0.toNatClampNeg) - f0)))) ⟨by decide, rfl⟩ hx hb hW (rg.in ht (by decide) (by decide)) dMod_goOn_161 (fun H locs hW => ?_)
            refine lv_iconst (v := (0 : Int32)) hx hb dMod_goOn_162 (by decide) ?_
            exact e_z hsz hx hb hr hlk hW mono_hsM (Nat.le_refl _) (Nat.le_refl _) dMod_goOn_163 (rfl) ⟨(Eq.symm (by refine (if_pos c_1).trans ?_; refine (if_neg c_2).trans ?_; refine (if_neg c_3).trans ?_; refine (if_pos c_4).trans ?_; refine (if_pos c_6).trans ?_; rfl)), congrArg (hsM o z tt) (Eq.symm (by refine (if_pos c_1).trans ?_; refine (if_neg c_2).trans ?_; refine (if_neg c_3).trans ?_; refine (if_pos c_4).trans ?_; refine (if_pos c_6).trans ?_; rfl))⟩
      · refine lv_ldc2 (v := (2 : Int64)) hx hb hown (hts _ QMod_124) dMod_goOn_70 ?_
        refine lv_goto (tgt := 101) hx hb dMod_goOn_73 (by decide) ?_
        refine lv_lstore (lv' := [(8, .long (2 : Int64)), (6, .long ((ml σ 13 t0.toNatClampNeg) - f0)), (4, .long (ml σ 13 t0.toNatClampNeg)), (0, .ref o), (1, .int t0), (2, .long f0)]) hx hb dMod_goOn_101 hl (by decide) rfl (fun ls hl => ?_)
        refine lv_lload hx hb dMod_goOn_103 (lv_at hl 1 rfl) ?_
        refine lv_lload hx hb dMod_goOn_105 (lv_at hl 0 rfl) ?_
        refine lv_ladd hx hb dMod_goOn_107 ?_
        refine lv_lconst (v := (1 : Int64)) hx hb dMod_goOn_108 (by decide) ?_
        refine ll_ge (tgt := 120) hx hb dMod_goOn_109 dMod_goOn_110 (by decide) (fun c_7 => ?_) (fun c_7 => ?_)
        · refine lv_lload hx hb dMod_goOn_120 (lv_at hl 0 rfl) ?_
          refine lv_lstore (lv' := [(8, .long (2 : Int64)), (6, .long ((ml σ 13 t0.toNatClampNeg) - f0)), (4, .long (ml σ 13 t0.toNatClampNeg)), (0, .ref o), (1, .int t0), (2, .long f0)]) hx hb dMod_goOn_122 hl (by decide) rfl (fun ls hl => ?_)
          refine lv_aload_n hx hb dMod_goOn_124 rfl (lv_at hl 3 rfl) ?_
          refine mg_a FMod_66 18 ⟨rfl, by decide⟩ hx hb hts hown hW dMod_goOn_125 ?_
          refine lv_iload_n hx hb dMod_goOn_128 rfl (lv_at hl 4 rfl) ?_
          refine lv_aload_n hx hb dMod_goOn_129 rfl (lv_at hl 3 rfl) ?_
          refine mg_a FMod_66 18 ⟨rfl, by decide⟩ hx hb hts hown hW dMod_goOn_130 ?_
          refine lv_iload_n hx hb dMod_goOn_133 rfl (lv_at hl 4 rfl) ?_
          refine m_ll (j := 18) (v := ml σ 18 t0.toNatClampNeg) ⟨by decide, rfl⟩ hx hb hW (rg.in ht (by decide) (by decide)) dMod_goOn_134 rfl ?_
          refine lv_lload hx hb dMod_goOn_135 (lv_at hl 0 rfl) ?_
          refine lv_lsub hx hb dMod_goOn_137 ?_
          refine m_ls (j := 18) (v := ((ml σ 18 t0.toNatClampNeg) - (2 : Int64))) ⟨by decide, rfl⟩ hx hb hW (rg.in ht (by decide) (by decide)) dMod_goOn_138 (fun H locs hW => ?_)
          refine lv_aload_n hx hb dMod_goOn_139 rfl (lv_at hl 3 rfl) ?_
          refine mg_a FMod_72 20 ⟨rfl, by decide⟩ hx hb hts hown hW dMod_goOn_140 ?_
          refine lv_iload_n hx hb dMod_goOn_143 rfl (lv_at hl 4 rfl) ?_
          refine lv_aload_n hx hb dMod_goOn_144 rfl (lv_at hl 3 rfl) ?_
          refine mg_a FMod_19 3 ⟨rfl, by decide⟩ hx hb hts hown hW dMod_goOn_145 ?_
          refine lv_aload_n hx hb dMod_goOn_148 rfl (lv_at hl 3 rfl) ?_
          refine mg_a FMod_48 12 ⟨rfl, by decide⟩ hx hb hts hown hW dMod_goOn_149 ?_
          refine lv_iload_n hx hb dMod_goOn_152 rfl (lv_at hl 4 rfl) ?_
          refine m_il (j := 12) (v := ma σ 12 t0.toNatClampNeg) ⟨by decide, rfl⟩ hx hb hW (rg.in ht (by decide) (by decide)) dMod_goOn_153 (ra_l) ?_
          refine m_ll (j := 3) (v := ml σ 3 (ma σ 12 t0.toNatClampNeg).toNatClampNeg) ⟨by decide, rfl⟩ hx hb hW (rg.in (hO.2.2.2.2.2.1 _) (by decide) (by decide)) dMod_goOn_154 (rl_l (by decide)) ?_
          refine lv_lload hx hb dMod_goOn_155 (lv_at hl 1 rfl) ?_
          refine lv_ladd hx hb dMod_goOn_157 ?_
          refine lv_lload hx hb dMod_goOn_158 (lv_at hl 0 rfl) ?_
          refine lv_ladd hx hb dMod_goOn_160 ?_
          refine m_ls (j := 20) (v := (((ml σ 3 (ma σ 12 t0.toNatClampNeg).toNatClampNeg) + ((ml σ 13 t0.toNatClampNeg) - f0)) + (2 : Int64))) ⟨by decide, rfl⟩ hx hb hW (rg.in ht (by decide) (by decide)) dMod_goOn_161 (fun H locs hW => ?_)
          refine lv_iconst (v := (0 : Int32)) hx hb dMod_goOn_162 (by decide) ?_
          exact e_z hsz hx hb hr hlk hW mono_hsM (Nat.le_refl _) (Nat.le_refl _) dMod_goOn_163 (rfl) ⟨(Eq.symm (by refine (if_pos c_1).trans ?_; refine (if_neg c_2).trans ?_; refine (if_pos c_3).trans ?_; refine (if_neg c_7).trans ?_; rfl)), congrArg (hsM o z tt) (Eq.symm (by refine (if_pos c_1).trans ?_; refine (if_neg c_2).trans ?_; refine (if_pos c_3).trans ?_; refine (if_neg c_7).trans ?_; rfl))⟩
        · refine lv_lconst (v := (1 : Int64)) hx hb dMod_goOn_113 (by decide) ?_
          refine lv_lload hx hb dMod_goOn_114 (lv_at hl 1 rfl) ?_
          refine lv_lsub hx hb dMod_goOn_116 ?_
          refine lv_goto (tgt := 122) hx hb dMod_goOn_117 (by decide) ?_
          refine lv_lstore (lv' := [(8, .long ((1 : Int64) - ((ml σ 13 t0.toNatClampNeg) - f0))), (6, .long ((ml σ 13 t0.toNatClampNeg) - f0)), (4, .long (ml σ 13 t0.toNatClampNeg)), (0, .ref o), (1, .int t0), (2, .long f0)]) hx hb dMod_goOn_122 hl (by decide) rfl (fun ls hl => ?_)
          refine lv_aload_n hx hb dMod_goOn_124 rfl (lv_at hl 3 rfl) ?_
          refine mg_a FMod_66 18 ⟨rfl, by decide⟩ hx hb hts hown hW dMod_goOn_125 ?_
          refine lv_iload_n hx hb dMod_goOn_128 rfl (lv_at hl 4 rfl) ?_
          refine lv_aload_n hx hb dMod_goOn_129 rfl (lv_at hl 3 rfl) ?_
          refine mg_a FMod_66 18 ⟨rfl, by decide⟩ hx hb hts hown hW dMod_goOn_130 ?_
          refine lv_iload_n hx hb dMod_goOn_133 rfl (lv_at hl 4 rfl) ?_
          refine m_ll (j := 18) (v := ml σ 18 t0.toNatClampNeg) ⟨by decide, rfl⟩ hx hb hW (rg.in ht (by decide) (by decide)) dMod_goOn_134 rfl ?_
          refine lv_lload hx hb dMod_goOn_135 (lv_at hl 0 rfl) ?_
          refine lv_lsub hx hb dMod_goOn_137 ?_
          refine m_ls (j := 18) (v := ((ml σ 18 t0.toNatClampNeg) - ((1 : Int64) - ((ml σ 13 t0.toNatClampNeg) - f0)))) ⟨by decide, rfl⟩ hx hb hW (rg.in ht (by decide) (by decide)) dMod_goOn_138 (fun H locs hW => ?_)
          refine lv_aload_n hx hb dMod_goOn_139 rfl (lv_at hl 3 rfl) ?_
          refine mg_a FMod_72 20 ⟨rfl, by decide⟩ hx hb hts hown hW dMod_goOn_140 ?_
          refine lv_iload_n hx hb dMod_goOn_143 rfl (lv_at hl 4 rfl) ?_
          refine lv_aload_n hx hb dMod_goOn_144 rfl (lv_at hl 3 rfl) ?_
          refine mg_a FMod_19 3 ⟨rfl, by decide⟩ hx hb hts hown hW dMod_goOn_145 ?_
          refine lv_aload_n hx hb dMod_goOn_148 rfl (lv_at hl 3 rfl) ?_
          refine mg_a FMod_48 12 ⟨rfl, by decide⟩ hx hb hts hown hW dMod_goOn_149 ?_
          refine lv_iload_n hx hb dMod_goOn_152 rfl (lv_at hl 4 rfl) ?_
          refine m_il (j := 12) (v := ma σ 12 t0.toNatClampNeg) ⟨by decide, rfl⟩ hx hb hW (rg.in ht (by decide) (by decide)) dMod_goOn_153 (ra_l) ?_
          refine m_ll (j := 3) (v := ml σ 3 (ma σ 12 t0.toNatClampNeg).toNatClampNeg) ⟨by decide, rfl⟩ hx hb hW (rg.in (hO.2.2.2.2.2.1 _) (by decide) (by decide)) dMod_goOn_154 (rl_l (by decide)) ?_
          refine lv_lload hx hb dMod_goOn_155 (lv_at hl 1 rfl) ?_
          refine lv_ladd hx hb dMod_goOn_157 ?_
          refine lv_lload hx hb dMod_goOn_158 (lv_at hl 0 rfl) ?_
          refine lv_ladd hx hb dMod_goOn_160 ?_
          refine m_ls (j := 20) (v := (((ml σ 3 (ma σ 12 t0.toNatClampNeg).toNatClampNeg) + ((ml σ 13 t0.toNatClampNeg) - f0)) + ((1 : Int64) - ((ml σ 13 t0.toNatClampNeg) - f0)))) ⟨by decide, rfl⟩ hx hb hW (rg.in ht (by decide) (by decide)) dMod_goOn_161 (fun H locs hW => ?_)
          refine lv_iconst (v := (0 : Int32)) hx hb dMod_goOn_162 (by decide) ?_
          exact e_z hsz hx hb hr hlk hW mono_hsM (Nat.le_refl _) (Nat.le_refl _) dMod_goOn_163 (rfl) ⟨(Eq.symm (by refine (if_pos c_1).trans ?_; refine (if_neg c_2).trans ?_; refine (if_pos c_3).trans ?_; refine (if_pos c_7).trans ?_; rfl)), congrArg (hsM o z tt) (Eq.symm (by refine (if_pos c_1).trans ?_; refine (if_neg c_2).trans ?_; refine (if_pos c_3).trans ?_; refine (if_pos c_7).trans ?_; rfl))⟩
    · refine lv_iconst (v := (1 : Int32)) hx hb dMod_goOn_55 (by decide) ?_
      exact e_z hsz hx hb hr hlk hW mono_hsM (Nat.le_refl _) (Nat.le_refl _) dMod_goOn_56 (rfl) ⟨(Eq.symm (by refine (if_pos c_1).trans ?_; refine (if_pos c_2).trans ?_; rfl)), congrArg (hsM o z tt) (Eq.symm (by refine (if_pos c_1).trans ?_; refine (if_pos c_2).trans ?_; rfl))⟩
  · refine lv_aload_n hx hb dMod_goOn_15 rfl (lv_at hl 0 rfl) ?_
    refine mg_a FMod_57 15 ⟨rfl, by decide⟩ hx hb hts hown hW dMod_goOn_16 ?_
    refine lv_bipush (v := (20 : Int32)) hx hb dMod_goOn_19 (by decide) ?_
    refine lv_iload_n hx hb dMod_goOn_21 rfl (lv_at hl 1 rfl) ?_
    refine lv_imul hx hb dMod_goOn_22 ?_
    refine lv_aload_n hx hb dMod_goOn_23 rfl (lv_at hl 0 rfl) ?_
    refine mg_a FMod_75 21 ⟨rfl, by decide⟩ hx hb hts hown hW dMod_goOn_24 ?_
    refine lv_iload_n hx hb dMod_goOn_27 rfl (lv_at hl 1 rfl) ?_
    refine m_il (j := 21) (v := ma σ 21 t0.toNatClampNeg) ⟨by decide, rfl⟩ hx hb hW (rg.in ht (by decide) (by decide)) dMod_goOn_28 rfl ?_
    refine lv_iadd hx hb dMod_goOn_29 ?_
    refine m_ll (j := 15) (v := ml σ 15 (((20 : Int32) * t0) + (ma σ 21 t0.toNatClampNeg)).toNatClampNeg) ⟨by decide, rfl⟩ hx hb hW (rg.in (rg.add (rg.m20 ht (by decide) (by decide)) (rg_lt hp (hO.2.2.2.2.2.2.1 _) (i32_nle c_1)) (by decide) (by decide)) (by decide) (by decide)) dMod_goOn_30 rfl ?_
    refine lv_goto (tgt := 40) hx hb dMod_goOn_31 (by decide) ?_
    refine lv_lstore (lv' := [(4, .long (ml σ 15 (((20 : Int32) * t0) + (ma σ 21 t0.toNatClampNeg)).toNatClampNeg)), (0, .ref o), (1, .int t0), (2, .long f0)]) hx hb dMod_goOn_40 hl (by decide) rfl (fun ls hl => ?_)
    refine lv_lload hx hb dMod_goOn_42 (lv_at hl 0 rfl) ?_
    refine lv_lload_n hx hb dMod_goOn_44 rfl (lv_at hl 3 rfl) ?_
    refine lv_lsub hx hb dMod_goOn_45 ?_
    refine lv_lstore (lv' := [(6, .long ((ml σ 15 (((20 : Int32) * t0) + (ma σ 21 t0.toNatClampNeg)).toNatClampNeg) - f0)), (4, .long (ml σ 15 (((20 : Int32) * t0) + (ma σ 21 t0.toNatClampNeg)).toNatClampNeg)), (0, .ref o), (1, .int t0), (2, .long f0)]) hx hb dMod_goOn_46 hl (by decide) rfl (fun ls hl => ?_)
    refine lv_lload hx hb dMod_goOn_48 (lv_at hl 0 rfl) ?_
    refine lv_lconst (v := (0 : Int64)) hx hb dMod_goOn_50 (by decide) ?_
    refine ll_ne (tgt := 57) hx hb dMod_goOn_51 dMod_goOn_52 (by decide) (fun c_8 => ?_) (fun c_8 => ?_)
    · refine lv_aload_n hx hb dMod_goOn_57 rfl (lv_at hl 2 rfl) ?_
      refine mg_a FMod_66 18 ⟨rfl, by decide⟩ hx hb hts hown hW dMod_goOn_58 ?_
      refine lv_iload_n hx hb dMod_goOn_61 rfl (lv_at hl 3 rfl) ?_
      refine m_ll (j := 18) (v := ml σ 18 t0.toNatClampNeg) ⟨by decide, rfl⟩ hx hb hW (rg.in ht (by decide) (by decide)) dMod_goOn_62 rfl ?_
      refine lv_ldc2 (v := (2 : Int64)) hx hb hown (hts _ QMod_124) dMod_goOn_63 ?_
      refine ll_le (tgt := 76) hx hb dMod_goOn_66 dMod_goOn_67 (by decide) (fun c_9 => ?_) (fun c_9 => ?_)
      · refine lv_aload_n hx hb dMod_goOn_76 rfl (lv_at hl 2 rfl) ?_
        refine mg_a FMod_66 18 ⟨rfl, by decide⟩ hx hb hts hown hW dMod_goOn_77 ?_
        refine lv_iload_n hx hb dMod_goOn_80 rfl (lv_at hl 3 rfl) ?_
        refine m_ll (j := 18) (v := ml σ 18 t0.toNatClampNeg) ⟨by decide, rfl⟩ hx hb hW (rg.in ht (by decide) (by decide)) dMod_goOn_81 rfl ?_
        refine lv_ldc2 (v := (-2 : Int64)) hx hb hown (hts _ QMod_150) dMod_goOn_82 ?_
        refine ll_ge (tgt := 95) hx hb dMod_goOn_85 dMod_goOn_86 (by decide) (fun c_10 => ?_) (fun c_10 => ?_)
        · refine lv_aload_n hx hb dMod_goOn_95 rfl (lv_at hl 2 rfl) ?_
          refine mg_a FMod_66 18 ⟨rfl, by decide⟩ hx hb hts hown hW dMod_goOn_96 ?_
          refine lv_iload_n hx hb dMod_goOn_99 rfl (lv_at hl 3 rfl) ?_
          refine m_ll (j := 18) (v := ml σ 18 t0.toNatClampNeg) ⟨by decide, rfl⟩ hx hb hW (rg.in ht (by decide) (by decide)) dMod_goOn_100 rfl ?_
          refine lv_lstore (lv' := [(8, .long (ml σ 18 t0.toNatClampNeg)), (6, .long ((ml σ 15 (((20 : Int32) * t0) + (ma σ 21 t0.toNatClampNeg)).toNatClampNeg) - f0)), (4, .long (ml σ 15 (((20 : Int32) * t0) + (ma σ 21 t0.toNatClampNeg)).toNatClampNeg)), (0, .ref o), (1, .int t0), (2, .long f0)]) hx hb dMod_goOn_101 hl (by decide) rfl (fun ls hl => ?_)
          refine lv_lload hx hb dMod_goOn_103 (lv_at hl 1 rfl) ?_
          refine lv_lload hx hb dMod_goOn_105 (lv_at hl 0 rfl) ?_
          refine lv_ladd hx hb dMod_goOn_107 ?_
          refine lv_lconst (v := (1 : Int64)) hx hb dMod_goOn_108 (by decide) ?_
          refine ll_ge (tgt := 120) hx hb dMod_goOn_109 dMod_goOn_110 (by decide) (fun c_11 => ?_) (fun c_11 => ?_)
          · refine lv_lload hx hb dMod_goOn_120 (lv_at hl 0 rfl) ?_
            refine lv_lstore (lv' := [(8, .long (ml σ 18 t0.toNatClampNeg)), (6, .long ((ml σ 15 (((20 : Int32) * t0) + (ma σ 21 t0.toNatClampNeg)).toNatClampNeg) - f0)), (4, .long (ml σ 15 (((20 : Int32) * t0) + (ma σ 21 t0.toNatClampNeg)).toNatClampNeg)), (0, .ref o), (1, .int t0), (2, .long f0)]) hx hb dMod_goOn_122 hl (by decide) rfl (fun ls hl => ?_)
            refine lv_aload_n hx hb dMod_goOn_124 rfl (lv_at hl 3 rfl) ?_
            refine mg_a FMod_66 18 ⟨rfl, by decide⟩ hx hb hts hown hW dMod_goOn_125 ?_
            refine lv_iload_n hx hb dMod_goOn_128 rfl (lv_at hl 4 rfl) ?_
            refine lv_aload_n hx hb dMod_goOn_129 rfl (lv_at hl 3 rfl) ?_
            refine mg_a FMod_66 18 ⟨rfl, by decide⟩ hx hb hts hown hW dMod_goOn_130 ?_
            refine lv_iload_n hx hb dMod_goOn_133 rfl (lv_at hl 4 rfl) ?_
            refine m_ll (j := 18) (v := ml σ 18 t0.toNatClampNeg) ⟨by decide, rfl⟩ hx hb hW (rg.in ht (by decide) (by decide)) dMod_goOn_134 rfl ?_
            refine lv_lload hx hb dMod_goOn_135 (lv_at hl 0 rfl) ?_
            refine lv_lsub hx hb dMod_goOn_137 ?_
            refine m_ls (j := 18) (v := ((ml σ 18 t0.toNatClampNeg) - (ml σ 18 t0.toNatClampNeg))) ⟨by decide, rfl⟩ hx hb hW (rg.in ht (by decide) (by decide)) dMod_goOn_138 (fun H locs hW => ?_)
            refine lv_aload_n hx hb dMod_goOn_139 rfl (lv_at hl 3 rfl) ?_
            refine mg_a FMod_72 20 ⟨rfl, by decide⟩ hx hb hts hown hW dMod_goOn_140 ?_
            refine lv_iload_n hx hb dMod_goOn_143 rfl (lv_at hl 4 rfl) ?_
            refine lv_aload_n hx hb dMod_goOn_144 rfl (lv_at hl 3 rfl) ?_
            refine mg_a FMod_19 3 ⟨rfl, by decide⟩ hx hb hts hown hW dMod_goOn_145 ?_
            refine lv_aload_n hx hb dMod_goOn_148 rfl (lv_at hl 3 rfl) ?_
            refine mg_a FMod_48 12 ⟨rfl, by decide⟩ hx hb hts hown hW dMod_goOn_149 ?_
            refine lv_iload_n hx hb dMod_goOn_152 rfl (lv_at hl 4 rfl) ?_
            refine m_il (j := 12) (v := ma σ 12 t0.toNatClampNeg) ⟨by decide, rfl⟩ hx hb hW (rg.in ht (by decide) (by decide)) dMod_goOn_153 (ra_l) ?_
            refine m_ll (j := 3) (v := ml σ 3 (ma σ 12 t0.toNatClampNeg).toNatClampNeg) ⟨by decide, rfl⟩ hx hb hW (rg.in (hO.2.2.2.2.2.1 _) (by decide) (by decide)) dMod_goOn_154 (rl_l (by decide)) ?_
            refine lv_lload hx hb dMod_goOn_155 (lv_at hl 1 rfl) ?_
            refine lv_ladd hx hb dMod_goOn_157 ?_
            refine lv_lload hx hb dMod_goOn_158 (lv_at hl 0 rfl) ?_
            refine lv_ladd hx hb dMod_goOn_160 ?_
            refine m_ls (j := 20) (v := (((ml σ 3 (ma σ 12 t0.toNatClampNeg).toNatClampNeg) + ((ml σ 15 (((20 : Int32) * t0) + (ma σ 21 t0.toNatClampNeg)).toNatClampNeg) - f0)) + (ml σ 18 t0.toNatClampNeg))) ⟨by decide, rfl⟩ hx hb hW (rg.in ht (by decide) (by decide)) dMod_goOn_161 (fun H locs hW => ?_)
            refine lv_iconst (v := (0 : Int32)) hx hb dMod_goOn_162 (by decide) ?_
            exact e_z hsz hx hb hr hlk hW mono_hsM (Nat.le_refl _) (Nat.le_refl _) dMod_goOn_163 (rfl) ⟨(Eq.symm (by refine (if_neg c_1).trans ?_; refine (if_neg c_8).trans ?_; refine (if_neg c_9).trans ?_; refine (if_neg c_10).trans ?_; refine (if_neg c_11).trans ?_; rfl)), congrArg (hsM o z tt) (Eq.symm (by refine (if_neg c_1).trans ?_; refine (if_neg c_8).trans ?_; refine (if_neg c_9).trans ?_; refine (if_neg c_10).trans ?_; refine (if_neg c_11).trans ?_; rfl))⟩
          · refine lv_lconst (v := (1 : Int64)) hx hb dMod_goOn_113 (by decide) ?_
            refine lv_lload hx hb dMod_goOn_114 (lv_at hl 1 rfl) ?_
            refine lv_lsub hx hb dMod_goOn_116 ?_
            refine lv_goto (tgt := 122) hx hb dMod_goOn_117 (by decide) ?_
            refine lv_lstore (lv' := [(8, .long ((1 : Int64) - ((ml σ 15 (((20 : Int32) * t0) + (ma σ 21 t0.toNatClampNeg)).toNatClampNeg) - f0))), (6, .long ((ml σ 15 (((20 : Int32) * t0) + (ma σ 21 t0.toNatClampNeg)).toNatClampNeg) - f0)), (4, .long (ml σ 15 (((20 : Int32) * t0) + (ma σ 21 t0.toNatClampNeg)).toNatClampNeg)), (0, .ref o), (1, .int t0), (2, .long f0)]) hx hb dMod_goOn_122 hl (by decide) rfl (fun ls hl => ?_)
            refine lv_aload_n hx hb dMod_goOn_124 rfl (lv_at hl 3 rfl) ?_
            refine mg_a FMod_66 18 ⟨rfl, by decide⟩ hx hb hts hown hW dMod_goOn_125 ?_
            refine lv_iload_n hx hb dMod_goOn_128 rfl (lv_at hl 4 rfl) ?_
            refine lv_aload_n hx hb dMod_goOn_129 rfl (lv_at hl 3 rfl) ?_
            refine mg_a FMod_66 18 ⟨rfl, by decide⟩ hx hb hts hown hW dMod_goOn_130 ?_
            refine lv_iload_n hx hb dMod_goOn_133 rfl (lv_at hl 4 rfl) ?_
            refine m_ll (j := 18) (v := ml σ 18 t0.toNatClampNeg) ⟨by decide, rfl⟩ hx hb hW (rg.in ht (by decide) (by decide)) dMod_goOn_134 rfl ?_
            refine lv_lload hx hb dMod_goOn_135 (lv_at hl 0 rfl) ?_
            refine lv_lsub hx hb dMod_goOn_137 ?_
            refine m_ls (j := 18) (v := ((ml σ 18 t0.toNatClampNeg) - ((1 : Int64) - ((ml σ 15 (((20 : Int32) * t0) + (ma σ 21 t0.toNatClampNeg)).toNatClampNeg) - f0)))) ⟨by decide, rfl⟩ hx hb hW (rg.in ht (by decide) (by decide)) dMod_goOn_138 (fun H locs hW => ?_)
            refine lv_aload_n hx hb dMod_goOn_139 rfl (lv_at hl 3 rfl) ?_
            refine mg_a FMod_72 20 ⟨rfl, by decide⟩ hx hb hts hown hW dMod_goOn_140 ?_
            refine lv_iload_n hx hb dMod_goOn_143 rfl (lv_at hl 4 rfl) ?_
            refine lv_aload_n hx hb dMod_goOn_144 rfl (lv_at hl 3 rfl) ?_
            refine mg_a FMod_19 3 ⟨rfl, by decide⟩ hx hb hts hown hW dMod_goOn_145 ?_
            refine lv_aload_n hx hb dMod_goOn_148 rfl (lv_at hl 3 rfl) ?_
            refine mg_a FMod_48 12 ⟨rfl, by decide⟩ hx hb hts hown hW dMod_goOn_149 ?_
            refine lv_iload_n hx hb dMod_goOn_152 rfl (lv_at hl 4 rfl) ?_
            refine m_il (j := 12) (v := ma σ 12 t0.toNatClampNeg) ⟨by decide, rfl⟩ hx hb hW (rg.in ht (by decide) (by decide)) dMod_goOn_153 (ra_l) ?_
            refine m_ll (j := 3) (v := ml σ 3 (ma σ 12 t0.toNatClampNeg).toNatClampNeg) ⟨by decide, rfl⟩ hx hb hW (rg.in (hO.2.2.2.2.2.1 _) (by decide) (by decide)) dMod_goOn_154 (rl_l (by decide)) ?_
            refine lv_lload hx hb dMod_goOn_155 (lv_at hl 1 rfl) ?_
            refine lv_ladd hx hb dMod_goOn_157 ?_
            refine lv_lload hx hb dMod_goOn_158 (lv_at hl 0 rfl) ?_
            refine lv_ladd hx hb dMod_goOn_160 ?_
            refine m_ls (j := 20) (v := (((ml σ 3 (ma σ 12 t0.toNatClampNeg).toNatClampNeg) + ((ml σ 15 (((20 : Int32) * t0) + (ma σ 21 t0.toNatClampNeg)).toNatClampNeg) - f0)) + ((1 : Int64) - ((ml σ 15 (((20 : Int32) * t0) + (ma σ 21 t0.toNatClampNeg)).toNatClampNeg) - f0)))) ⟨by decide, rfl⟩ hx hb hW (rg.in ht (by decide) (by decide)) dMod_goOn_161 (fun H locs hW => ?_)
            refine lv_iconst (v := (0 : Int32)) hx hb dMod_goOn_162 (by decide) ?_
            exact e_z hsz hx hb hr hlk hW mono_hsM (Nat.le_refl _) (Nat.le_refl _) dMod_goOn_163 (rfl) ⟨(Eq.symm (by refine (if_neg c_1).trans ?_; refine (if_neg c_8).trans ?_; refine (if_neg c_9).trans ?_; refine (if_neg c_10).trans ?_; refine (if_pos c_11).trans ?_; rfl)), congrArg (hsM o z tt) (Eq.symm (by refine (if_neg c_1).trans ?_; refine (if_neg c_8).trans ?_; refine (if_neg c_9).trans ?_; refine (if_neg c_10).trans ?_; refine (if_pos c_11).trans ?_; rfl))⟩
        · refine lv_ldc2 (v := (-2 : Int64)) hx hb hown (hts _ QMod_150) dMod_goOn_89 ?_
          refine lv_goto (tgt := 101) hx hb dMod_goOn_92 (by decide) ?_
          refine lv_lstore (lv' := [(8, .long (-2 : Int64)), (6, .long ((ml σ 15 (((20 : Int32) * t0) + (ma σ 21 t0.toNatClampNeg)).toNatClampNeg) - f0)), (4, .long (ml σ 15 (((20 : Int32) * t0) + (ma σ 21 t0.toNatClampNeg)).toNatClampNeg)), (0, .ref o), (1, .int t0), (2, .long f0)]) hx hb dMod_goOn_101 hl (by decide) rfl (fun ls hl => ?_)
          refine lv_lload hx hb dMod_goOn_103 (lv_at hl 1 rfl) ?_
          refine lv_lload hx hb dMod_goOn_105 (lv_at hl 0 rfl) ?_
          refine lv_ladd hx hb dMod_goOn_107 ?_
          refine lv_lconst (v := (1 : Int64)) hx hb dMod_goOn_108 (by decide) ?_
          refine ll_ge (tgt := 120) hx hb dMod_goOn_109 dMod_goOn_110 (by decide) (fun c_12 => ?_) (fun c_12 => ?_)
          · refine lv_lload hx hb dMod_goOn_120 (lv_at hl 0 rfl) ?_
            refine lv_lstore (lv' := [(8, .long (-2 : Int64)), (6, .long ((ml σ 15 (((20 : Int32) * t0) + (ma σ 21 t0.toNatClampNeg)).toNatClampNeg) - f0)), (4, .long (ml σ 15 (((20 : Int32) * t0) + (ma σ 21 t0.toNatClampNeg)).toNatClampNeg)), (0, .ref o), (1, .int t0), (2, .long f0)]) hx hb dMod_goOn_122 hl (by decide) rfl (fun ls hl => ?_)
            refine lv_aload_n hx hb dMod_goOn_124 rfl (lv_at hl 3 rfl) ?_
            refine mg_a FMod_66 18 ⟨rfl, by decide⟩ hx hb hts hown hW dMod_goOn_125 ?_
            refine lv_iload_n hx hb dMod_goOn_128 rfl (lv_at hl 4 rfl) ?_
            refine lv_aload_n hx hb dMod_goOn_129 rfl (lv_at hl 3 rfl) ?_
            refine mg_a FMod_66 18 ⟨rfl, by decide⟩ hx hb hts hown hW dMod_goOn_130 ?_
            refine lv_iload_n hx hb dMod_goOn_133 rfl (lv_at hl 4 rfl) ?_
            refine m_ll (j := 18) (v := ml σ 18 t0.toNatClampNeg) ⟨by decide, rfl⟩ hx hb hW (rg.in ht (by decide) (by decide)) dMod_goOn_134 rfl ?_
            refine lv_lload hx hb dMod_goOn_135 (lv_at hl 0 rfl) ?_
            refine lv_lsub hx hb dMod_goOn_137 ?_
            refine m_ls (j := 18) (v := ((ml σ 18 t0.toNatClampNeg) - (-2 : Int64))) ⟨by decide, rfl⟩ hx hb hW (rg.in ht (by decide) (by decide)) dMod_goOn_138 (fun H locs hW => ?_)
            refine lv_aload_n hx hb dMod_goOn_139 rfl (lv_at hl 3 rfl) ?_
            refine mg_a FMod_72 20 ⟨rfl, by decide⟩ hx hb hts hown hW dMod_goOn_140 ?_
            refine lv_iload_n hx hb dMod_goOn_143 rfl (lv_at hl 4 rfl) ?_
            refine lv_aload_n hx hb dMod_goOn_144 rfl (lv_at hl 3 rfl) ?_
            refine mg_a FMod_19 3 ⟨rfl, by decide⟩ hx hb hts hown hW dMod_goOn_145 ?_
            refine lv_aload_n hx hb dMod_goOn_148 rfl (lv_at hl 3 rfl) ?_
            refine mg_a FMod_48 12 ⟨rfl, by decide⟩ hx hb hts hown hW dMod_goOn_149 ?_
            refine lv_iload_n hx hb dMod_goOn_152 rfl (lv_at hl 4 rfl) ?_
            refine m_il (j := 12) (v := ma σ 12 t0.toNatClampNeg) ⟨by decide, rfl⟩ hx hb hW (rg.in ht (by decide) (by decide)) dMod_goOn_153 (ra_l) ?_
            refine m_ll (j := 3) (v := ml σ 3 (ma σ 12 t0.toNatClampNeg).toNatClampNeg) ⟨by decide, rfl⟩ hx hb hW (rg.in (hO.2.2.2.2.2.1 _) (by decide) (by decide)) dMod_goOn_154 (rl_l (by decide)) ?_
            refine lv_lload hx hb dMod_goOn_155 (lv_at hl 1 rfl) ?_
            refine lv_ladd hx hb dMod_goOn_157 ?_
            refine lv_lload hx hb dMod_goOn_158 (lv_at hl 0 rfl) ?_
            refine lv_ladd hx hb dMod_goOn_160 ?_
            refine m_ls (j := 20) (v := (((ml σ 3 (ma σ 12 t0.toNatClampNeg).toNatClampNeg) + ((ml σ 15 (((20 : Int32) * t0) + (ma σ 21 t0.toNatClampNeg)).toNatClampNeg) - f0)) + (-2 : Int64))) ⟨by decide, rfl⟩ hx hb hW (rg.in ht (by decide) (by decide)) dMod_goOn_161 (fun H locs hW => ?_)
            refine lv_iconst (v := (0 : Int32)) hx hb dMod_goOn_162 (by decide) ?_
            exact e_z hsz hx hb hr hlk hW mono_hsM (Nat.le_refl _) (Nat.le_refl _) dMod_goOn_163 (rfl) ⟨(Eq.symm (by refine (if_neg c_1).trans ?_; refine (if_neg c_8).trans ?_; refine (if_neg c_9).trans ?_; refine (if_pos c_10).trans ?_; refine (if_neg c_12).trans ?_; rfl)), congrArg (hsM o z tt) (Eq.symm (by refine (if_neg c_1).trans ?_; refine (if_neg c_8).trans ?_; refine (if_neg c_9).trans ?_; refine (if_pos c_10).trans ?_; refine (if_neg c_12).trans ?_; rfl))⟩
          · refine lv_lconst (v := (1 : Int64)) hx hb dMod_goOn_113 (by decide) ?_
            refine lv_lload hx hb dMod_goOn_114 (lv_at hl 1 rfl) ?_
            refine lv_lsub hx hb dMod_goOn_116 ?_
            refine lv_goto (tgt := 122) hx hb dMod_goOn_117 (by decide) ?_
            refine lv_lstore (lv' := [(8, .long ((1 : Int64) - ((ml σ 15 (((20 : Int32) * t0) + (ma σ 21 t0.toNatClampNeg)).toNatClampNeg) - f0))), (6, .long ((ml σ 15 (((20 : Int32) * t0) + (ma σ 21 t0.toNatClampNeg)).toNatClampNeg) - f0)), (4, .long (ml σ 15 (((20 : Int32) * t0) + (ma σ 21 t0.toNatClampNeg)).toNatClampNeg)), (0, .ref o), (1, .int t0), (2, .long f0)]) hx hb dMod_goOn_122 hl (by decide) rfl (fun ls hl => ?_)
            refine lv_aload_n hx hb dMod_goOn_124 rfl (lv_at hl 3 rfl) ?_
            refine mg_a FMod_66 18 ⟨rfl, by decide⟩ hx hb hts hown hW dMod_goOn_125 ?_
            refine lv_iload_n hx hb dMod_goOn_128 rfl (lv_at hl 4 rfl) ?_
            refine lv_aload_n hx hb dMod_goOn_129 rfl (lv_at hl 3 rfl) ?_
            refine mg_a FMod_66 18 ⟨rfl, by decide⟩ hx hb hts hown hW dMod_goOn_130 ?_
            refine lv_iload_n hx hb dMod_goOn_133 rfl (lv_at hl 4 rfl) ?_
            refine m_ll (j := 18) (v := ml σ 18 t0.toNatClampNeg) ⟨by decide, rfl⟩ hx hb hW (rg.in ht (by decide) (by decide)) dMod_goOn_134 rfl ?_
            refine lv_lload hx hb dMod_goOn_135 (lv_at hl 0 rfl) ?_
            refine lv_lsub hx hb dMod_goOn_137 ?_
            refine m_ls (j := 18) (v := ((ml σ 18 t0.toNatClampNeg) - ((1 : Int64) - ((ml σ 15 (((20 : Int32) * t0) + (ma σ 21 t0.toNatClampNeg)).toNatClampNeg) - f0)))) ⟨by decide, rfl⟩ hx hb hW (rg.in ht (by decide) (by decide)) dMod_goOn_138 (fun H locs hW => ?_)
            refine lv_aload_n hx hb dMod_goOn_139 rfl (lv_at hl 3 rfl) ?_
            refine mg_a FMod_72 20 ⟨rfl, by decide⟩ hx hb hts hown hW dMod_goOn_140 ?_
            refine lv_iload_n hx hb dMod_goOn_143 rfl (lv_at hl 4 rfl) ?_
            refine lv_aload_n hx hb dMod_goOn_144 rfl (lv_at hl 3 rfl) ?_
            refine mg_a FMod_19 3 ⟨rfl, by decide⟩ hx hb hts hown hW dMod_goOn_145 ?_
            refine lv_aload_n hx hb dMod_goOn_148 rfl (lv_at hl 3 rfl) ?_
            refine mg_a FMod_48 12 ⟨rfl, by decide⟩ hx hb hts hown hW dMod_goOn_149 ?_
            refine lv_iload_n hx hb dMod_goOn_152 rfl (lv_at hl 4 rfl) ?_
            refine m_il (j := 12) (v := ma σ 12 t0.toNatClampNeg) ⟨by decide, rfl⟩ hx hb hW (rg.in ht (by decide) (by decide)) dMod_goOn_153 (ra_l) ?_
            refine m_ll (j := 3) (v := ml σ 3 (ma σ 12 t0.toNatClampNeg).toNatClampNeg) ⟨by decide, rfl⟩ hx hb hW (rg.in (hO.2.2.2.2.2.1 _) (by decide) (by decide)) dMod_goOn_154 (rl_l (by decide)) ?_
            refine lv_lload hx hb dMod_goOn_155 (lv_at hl 1 rfl) ?_
            refine lv_ladd hx hb dMod_goOn_157 ?_
            refine lv_lload hx hb dMod_goOn_158 (lv_at hl 0 rfl) ?_
            refine lv_ladd hx hb dMod_goOn_160 ?_
            refine m_ls (j := 20) (v := (((ml σ 3 (ma σ 12 t0.toNatClampNeg).toNatClampNeg) + ((ml σ 15 (((20 : Int32) * t0) + (ma σ 21 t0.toNatClampNeg)).toNatClampNeg) - f0)) + ((1 : Int64) - ((ml σ 15 (((20 : Int32) * t0) + (ma σ 21 t0.toNatClampNeg)).toNatClampNeg) - f0)))) ⟨by decide, rfl⟩ hx hb hW (rg.in ht (by decide) (by decide)) dMod_goOn_161 (fun H locs hW => ?_)
            refine lv_iconst (v := (0 : Int32)) hx hb dMod_goOn_162 (by decide) ?_
            exact e_z hsz hx hb hr hlk hW mono_hsM (Nat.le_refl _) (Nat.le_refl _) dMod_goOn_163 (rfl) ⟨(Eq.symm (by refine (if_neg c_1).trans ?_; refine (if_neg c_8).trans ?_; refine (if_neg c_9).trans ?_; refine (if_pos c_10).trans ?_; refine (if_pos c_12).trans ?_; rfl)), congrArg (hsM o z tt) (Eq.symm (by refine (if_neg c_1).trans ?_; refine (if_neg c_8).trans ?_; refine (if_neg c_9).trans ?_; refine (if_pos c_10).trans ?_; refine (if_pos c_12).trans ?_; rfl))⟩
      · refine lv_ldc2 (v := (2 : Int64)) hx hb hown (hts _ QMod_124) dMod_goOn_70 ?_
        refine lv_goto (tgt := 101) hx hb dMod_goOn_73 (by decide) ?_
        refine lv_lstore (lv' := [(8, .long (2 : Int64)), (6, .long ((ml σ 15 (((20 : Int32) * t0) + (ma σ 21 t0.toNatClampNeg)).toNatClampNeg) - f0)), (4, .long (ml σ 15 (((20 : Int32) * t0) + (ma σ 21 t0.toNatClampNeg)).toNatClampNeg)), (0, .ref o), (1, .int t0), (2, .long f0)]) hx hb dMod_goOn_101 hl (by decide) rfl (fun ls hl => ?_)
        refine lv_lload hx hb dMod_goOn_103 (lv_at hl 1 rfl) ?_
        refine lv_lload hx hb dMod_goOn_105 (lv_at hl 0 rfl) ?_
        refine lv_ladd hx hb dMod_goOn_107 ?_
        refine lv_lconst (v := (1 : Int64)) hx hb dMod_goOn_108 (by decide) ?_
        refine ll_ge (tgt := 120) hx hb dMod_goOn_109 dMod_goOn_110 (by decide) (fun c_13 => ?_) (fun c_13 => ?_)
        · refine lv_lload hx hb dMod_goOn_120 (lv_at hl 0 rfl) ?_
          refine lv_lstore (lv' := [(8, .long (2 : Int64)), (6, .long ((ml σ 15 (((20 : Int32) * t0) + (ma σ 21 t0.toNatClampNeg)).toNatClampNeg) - f0)), (4, .long (ml σ 15 (((20 : Int32) * t0) + (ma σ 21 t0.toNatClampNeg)).toNatClampNeg)), (0, .ref o), (1, .int t0), (2, .long f0)]) hx hb dMod_goOn_122 hl (by decide) rfl (fun ls hl => ?_)
          refine lv_aload_n hx hb dMod_goOn_124 rfl (lv_at hl 3 rfl) ?_
          refine mg_a FMod_66 18 ⟨rfl, by decide⟩ hx hb hts hown hW dMod_goOn_125 ?_
          refine lv_iload_n hx hb dMod_goOn_128 rfl (lv_at hl 4 rfl) ?_
          refine lv_aload_n hx hb dMod_goOn_129 rfl (lv_at hl 3 rfl) ?_
          refine mg_a FMod_66 18 ⟨rfl, by decide⟩ hx hb hts hown hW dMod_goOn_130 ?_
          refine lv_iload_n hx hb dMod_goOn_133 rfl (lv_at hl 4 rfl) ?_
          refine m_ll (j := 18) (v := ml σ 18 t0.toNatClampNeg) ⟨by decide, rfl⟩ hx hb hW (rg.in ht (by decide) (by decide)) dMod_goOn_134 rfl ?_
          refine lv_lload hx hb dMod_goOn_135 (lv_at hl 0 rfl) ?_
          refine lv_lsub hx hb dMod_goOn_137 ?_
          refine m_ls (j := 18) (v := ((ml σ 18 t0.toNatClampNeg) - (2 : Int64))) ⟨by decide, rfl⟩ hx hb hW (rg.in ht (by decide) (by decide)) dMod_goOn_138 (fun H locs hW => ?_)
          refine lv_aload_n hx hb dMod_goOn_139 rfl (lv_at hl 3 rfl) ?_
          refine mg_a FMod_72 20 ⟨rfl, by decide⟩ hx hb hts hown hW dMod_goOn_140 ?_
          refine lv_iload_n hx hb dMod_goOn_143 rfl (lv_at hl 4 rfl) ?_
          refine lv_aload_n hx hb dMod_goOn_144 rfl (lv_at hl 3 rfl) ?_
          refine mg_a FMod_19 3 ⟨rfl, by decide⟩ hx hb hts hown hW dMod_goOn_145 ?_
          refine lv_aload_n hx hb dMod_goOn_148 rfl (lv_at hl 3 rfl) ?_
          refine mg_a FMod_48 12 ⟨rfl, by decide⟩ hx hb hts hown hW dMod_goOn_149 ?_
          refine lv_iload_n hx hb dMod_goOn_152 rfl (lv_at hl 4 rfl) ?_
          refine m_il (j := 12) (v := ma σ 12 t0.toNatClampNeg) ⟨by decide, rfl⟩ hx hb hW (rg.in ht (by decide) (by decide)) dMod_goOn_153 (ra_l) ?_
          refine m_ll (j := 3) (v := ml σ 3 (ma σ 12 t0.toNatClampNeg).toNatClampNeg) ⟨by decide, rfl⟩ hx hb hW (rg.in (hO.2.2.2.2.2.1 _) (by decide) (by decide)) dMod_goOn_154 (rl_l (by decide)) ?_
          refine lv_lload hx hb dMod_goOn_155 (lv_at hl 1 rfl) ?_
          refine lv_ladd hx hb dMod_goOn_157 ?_
          refine lv_lload hx hb dMod_goOn_158 (lv_at hl 0 rfl) ?_
          refine lv_ladd hx hb dMod_goOn_160 ?_
          refine m_ls (j := 20) (v := (((ml σ 3 (ma σ 12 t0.toNatClampNeg).toNatClampNeg) + ((ml σ 15 (((20 : Int32) * t0) + (ma σ 21 t0.toNatClampNeg)).toNatClampNeg) - f0)) + (2 : Int64))) ⟨by decide, rfl⟩ hx hb hW (rg.in ht (by decide) (by decide)) dMod_goOn_161 (fun H locs hW => ?_)
          refine lv_iconst (v := (0 : Int32)) hx hb dMod_goOn_162 (by decide) ?_
          exact e_z hsz hx hb hr hlk hW mono_hsM (Nat.le_refl _) (Nat.le_refl _) dMod_goOn_163 (rfl) ⟨(Eq.symm (by refine (if_neg c_1).trans ?_; refine (if_neg c_8).trans ?_; refine (if_pos c_9).trans ?_; refine (if_neg c_13).trans ?_; rfl)), congrArg (hsM o z tt) (Eq.symm (by refine (if_neg c_1).trans ?_; refine (if_neg c_8).trans ?_; refine (if_pos c_9).trans ?_; refine (if_neg c_13).trans ?_; rfl))⟩
        · refine lv_lconst (v := (1 : Int64)) hx hb dMod_goOn_113 (by decide) ?_
          refine lv_lload hx hb dMod_goOn_114 (lv_at hl 1 rfl) ?_
          refine lv_lsub hx hb dMod_goOn_116 ?_
          refine lv_goto (tgt := 122) hx hb dMod_goOn_117 (by decide) ?_
          refine lv_lstore (lv' := [(8, .long ((1 : Int64) - ((ml σ 15 (((20 : Int32) * t0) + (ma σ 21 t0.toNatClampNeg)).toNatClampNeg) - f0))), (6, .long ((ml σ 15 (((20 : Int32) * t0) + (ma σ 21 t0.toNatClampNeg)).toNatClampNeg) - f0)), (4, .long (ml σ 15 (((20 : Int32) * t0) + (ma σ 21 t0.toNatClampNeg)).toNatClampNeg)), (0, .ref o), (1, .int t0), (2, .long f0)]) hx hb dMod_goOn_122 hl (by decide) rfl (fun ls hl => ?_)
          refine lv_aload_n hx hb dMod_goOn_124 rfl (lv_at hl 3 rfl) ?_
          refine mg_a FMod_66 18 ⟨rfl, by decide⟩ hx hb hts hown hW dMod_goOn_125 ?_
          refine lv_iload_n hx hb dMod_goOn_128 rfl (lv_at hl 4 rfl) ?_
          refine lv_aload_n hx hb dMod_goOn_129 rfl (lv_at hl 3 rfl) ?_
          refine mg_a FMod_66 18 ⟨rfl, by decide⟩ hx hb hts hown hW dMod_goOn_130 ?_
          refine lv_iload_n hx hb dMod_goOn_133 rfl (lv_at hl 4 rfl) ?_
          refine m_ll (j := 18) (v := ml σ 18 t0.toNatClampNeg) ⟨by decide, rfl⟩ hx hb hW (rg.in ht (by decide) (by decide)) dMod_goOn_134 rfl ?_
          refine lv_lload hx hb dMod_goOn_135 (lv_at hl 0 rfl) ?_
          refine lv_lsub hx hb dMod_goOn_137 ?_
          refine m_ls (j := 18) (v := ((ml σ 18 t0.toNatClampNeg) - ((1 : Int64) - ((ml σ 15 (((20 : Int32) * t0) + (ma σ 21 t0.toNatClampNeg)).toNatClampNeg) - f0)))) ⟨by decide, rfl⟩ hx hb hW (rg.in ht (by decide) (by decide)) dMod_goOn_138 (fun H locs hW => ?_)
          refine lv_aload_n hx hb dMod_goOn_139 rfl (lv_at hl 3 rfl) ?_
          refine mg_a FMod_72 20 ⟨rfl, by decide⟩ hx hb hts hown hW dMod_goOn_140 ?_
          refine lv_iload_n hx hb dMod_goOn_143 rfl (lv_at hl 4 rfl) ?_
          refine lv_aload_n hx hb dMod_goOn_144 rfl (lv_at hl 3 rfl) ?_
          refine mg_a FMod_19 3 ⟨rfl, by decide⟩ hx hb hts hown hW dMod_goOn_145 ?_
          refine lv_aload_n hx hb dMod_goOn_148 rfl (lv_at hl 3 rfl) ?_
          refine mg_a FMod_48 12 ⟨rfl, by decide⟩ hx hb hts hown hW dMod_goOn_149 ?_
          refine lv_iload_n hx hb dMod_goOn_152 rfl (lv_at hl 4 rfl) ?_
          refine m_il (j := 12) (v := ma σ 12 t0.toNatClampNeg) ⟨by decide, rfl⟩ hx hb hW (rg.in ht (by decide) (by decide)) dMod_goOn_153 (ra_l) ?_
          refine m_ll (j := 3) (v := ml σ 3 (ma σ 12 t0.toNatClampNeg).toNatClampNeg) ⟨by decide, rfl⟩ hx hb hW (rg.in (hO.2.2.2.2.2.1 _) (by decide) (by decide)) dMod_goOn_154 (rl_l (by decide)) ?_
          refine lv_lload hx hb dMod_goOn_155 (lv_at hl 1 rfl) ?_
          refine lv_ladd hx hb dMod_goOn_157 ?_
          refine lv_lload hx hb dMod_goOn_158 (lv_at hl 0 rfl) ?_
          refine lv_ladd hx hb dMod_goOn_160 ?_
          refine m_ls (j := 20) (v := (((ml σ 3 (ma σ 12 t0.toNatClampNeg).toNatClampNeg) + ((ml σ 15 (((20 : Int32) * t0) + (ma σ 21 t0.toNatClampNeg)).toNatClampNeg) - f0)) + ((1 : Int64) - ((ml σ 15 (((20 : Int32) * t0) + (ma σ 21 t0.toNatClampNeg)).toNatClampNeg) - f0)))) ⟨by decide, rfl⟩ hx hb hW (rg.in ht (by decide) (by decide)) dMod_goOn_161 (fun H locs hW => ?_)
          refine lv_iconst (v := (0 : Int32)) hx hb dMod_goOn_162 (by decide) ?_
          exact e_z hsz hx hb hr hlk hW mono_hsM (Nat.le_refl _) (Nat.le_refl _) dMod_goOn_163 (rfl) ⟨(Eq.symm (by refine (if_neg c_1).trans ?_; refine (if_neg c_8).trans ?_; refine (if_pos c_9).trans ?_; refine (if_pos c_13).trans ?_; rfl)), congrArg (hsM o z tt) (Eq.symm (by refine (if_neg c_1).trans ?_; refine (if_neg c_8).trans ?_; refine (if_pos c_9).trans ?_; refine (if_pos c_13).trans ?_; rfl))⟩
    · refine lv_iconst (v := (1 : Int32)) hx hb dMod_goOn_55 (by decide) ?_
      exact e_z hsz hx hb hr hlk hW mono_hsM (Nat.le_refl _) (Nat.le_refl _) dMod_goOn_56 (rfl) ⟨(Eq.symm (by refine (if_neg c_1).trans ?_; refine (if_pos c_8).trans ?_; rfl)), congrArg (hsM o z tt) (Eq.symm (by refine (if_neg c_1).trans ?_; refine (if_pos c_8).trans ?_; rfl))⟩

theorem MgoOn_S2 {σ : MS} {t0 : Int32} {f0 : Int64} (P : MS → Prop) (h : P σ) (h2 : ∀ v w, P (sml (sml σ 18 t0.toNatClampNeg v) 20 t0.toNatClampNeg w)) : P (MgoOn_S σ t0 f0) := by
  unfold MgoOn_S
  repeat' split
  all_goals first | exact h | exact h2 _ _
theorem mOk_goOn {σ : MS} {t0 : Int32} {f0 : Int64} (h : mOk σ) : mOk (MgoOn_S σ t0 f0) := MgoOn_S2 mOk h (fun _ _ => h)
theorem MgoOn_ma {σ : MS} {t0 : Int32} {f0 : Int64} : ma (MgoOn_S σ t0 f0) = ma σ := MgoOn_S2 (fun z => ma z = ma σ) rfl (fun _ _ => rfl)
theorem MgoOn_mi {σ : MS} {t0 : Int32} {f0 : Int64} : mi (MgoOn_S σ t0 f0) = mi σ := MgoOn_S2 (fun z => mi z = mi σ) rfl (fun _ _ => rfl)

def MtableGoes_R (σ : MS) (t0 : Int32) : Int32 :=
  if (ma σ 21 t0.toNatClampNeg) = (-1 : Int32) then
    if (MgoOn_R (sma σ 21 t0.toNatClampNeg (0 : Int32)) t0 (0 : Int64)) = 0 then
      (0 : Int32)
    else
      t0
  else
    if (ma σ 14 t0.toNatClampNeg) ≤ (ma σ 21 t0.toNatClampNeg) then
      if (ma (Mnote_S σ (2 : Int32) t0 (0 : Int64) (ma σ 12 t0.toNatClampNeg)) 17 t0.toNatClampNeg) = 0 then
        (0 : Int32)
      else
        if (ma (sma (Mnote_S σ (2 : Int32) t0 (0 : Int64) (ma σ 12 t0.toNatClampNeg)) 19 t0.toNatClampNeg (0 : Int32)) 19 (ma (Mnote_S σ (2 : Int32) t0 (0 : Int64) (ma σ 12 t0.toNatClampNeg)) 17 t0.toNatClampNeg).toNatClampNeg) = 0 then
          if (ma (Mnote_S σ (2 : Int32) t0 (0 : Int64) (ma σ 12 t0.toNatClampNeg)) 17 t0.toNatClampNeg) = t0 then
            ma (Mnote_S σ (2 : Int32) t0 (0 : Int64) (ma σ 12 t0.toNatClampNeg)) 17 t0.toNatClampNeg
          else
            ma (Mnote_S σ (2 : Int32) t0 (0 : Int64) (ma σ 12 t0.toNatClampNeg)) 17 t0.toNatClampNeg
        else
          (0 : Int32)
    else
      if (MgoOn_R (sma (Mnote_S σ (1 : Int32) t0 (ml σ 15 (((20 : Int32) * t0) + (ma σ 21 t0.toNatClampNeg)).toNatClampNeg) (ma σ 12 t0.toNatClampNeg)) 21 t0.toNatClampNeg ((ma σ 21 t0.toNatClampNeg) + (1 : Int32))) t0 (ml σ 15 (((20 : Int32) * t0) + (ma σ 21 t0.toNatClampNeg)).toNatClampNeg)) = 0 then
        (0 : Int32)
      else
        t0
def MtableGoes_S (σ : MS) (t0 : Int32) : MS :=
  if (ma σ 21 t0.toNatClampNeg) = (-1 : Int32) then
    if (MgoOn_R (sma σ 21 t0.toNatClampNeg (0 : Int32)) t0 (0 : Int64)) = 0 then
      (MgoOn_S (sma σ 21 t0.toNatClampNeg (0 : Int32)) t0 (0 : Int64))
    else
      (MgoOn_S (sma σ 21 t0.toNatClampNeg (0 : Int32)) t0 (0 : Int64))
  else
    if (ma σ 14 t0.toNatClampNeg) ≤ (ma σ 21 t0.toNatClampNeg) then
      if (ma (Mnote_S σ (2 : Int32) t0 (0 : Int64) (ma σ 12 t0.toNatClampNeg)) 17 t0.toNatClampNeg) = 0 then
        (sma (Mnote_S σ (2 : Int32) t0 (0 : Int64) (ma σ 12 t0.toNatClampNeg)) 19 t0.toNatClampNeg (0 : Int32))
      else
        if (ma (sma (Mnote_S σ (2 : Int32) t0 (0 : Int64) (ma σ 12 t0.toNatClampNeg)) 19 t0.toNatClampNeg (0 : Int32)) 19 (ma (Mnote_S σ (2 : Int32) t0 (0 : Int64) (ma σ 12 t0.toNatClampNeg)) 17 t0.toNatClampNeg).toNatClampNeg) = 0 then
          if (ma (Mnote_S σ (2 : Int32) t0 (0 : Int64) (ma σ 12 t0.toNatClampNeg)) 17 t0.toNatClampNeg) = t0 then
            (sml (sma (sma (sml (sma (Mnote_S σ (2 : Int32) t0 (0 : Int64) (ma σ 12 t0.toNatClampNeg)) 19 t0.toNatClampNeg (0 : Int32)) 18 (ma (Mnote_S σ (2 : Int32) t0 (0 : Int64) (ma σ 12 t0.toNatClampNeg)) 17 t0.toNatClampNeg).toNatClampNeg (ml (Mnote_S σ (2 : Int32) t0 (0 : Int64) (ma σ 12 t0.toNatClampNeg)) 18 (ma (Mnote_S σ (2 : Int32) t0 (0 : Int64) (ma σ 12 t0.toNatClampNeg)) 17 t0.toNatClampNeg).toNatClampNeg)) 19 (ma (Mnote_S σ (2 : Int32) t0 (0 : Int64) (ma σ 12 t0.toNatClampNeg)) 17 t0.toNatClampNeg).toNatClampNeg (1 : Int32)) 21 (ma (Mnote_S σ (2 : Int32) t0 (0 : Int64) (ma σ 12 t0.toNatClampNeg)) 17 t0.toNatClampNeg).toNatClampNeg (-1 : Int32)) 20 (ma (Mnote_S σ (2 : Int32) t0 (0 : Int64) (ma σ 12 t0.toNatClampNeg)) 17 t0.toNatClampNeg).toNatClampNeg (ml (Mnote_S σ (2 : Int32) t0 (0 : Int64) (ma σ 12 t0.toNatClampNeg)) 3 (ma (Mnote_S σ (2 : Int32) t0 (0 : Int64) (ma σ 12 t0.toNatClampNeg)) 12 (ma (Mnote_S σ (2 : Int32) t0 (0 : Int64) (ma σ 12 t0.toNatClampNeg)) 17 t0.toNatClampNeg).toNatClampNeg).toNatClampNeg))
          else
            (sml (sma (sma (sml (sma (Mnote_S σ (2 : Int32) t0 (0 : Int64) (ma σ 12 t0.toNatClampNeg)) 19 t0.toNatClampNeg (0 : Int32)) 18 (ma (Mnote_S σ (2 : Int32) t0 (0 : Int64) (ma σ 12 t0.toNatClampNeg)) 17 t0.toNatClampNeg).toNatClampNeg (0 : Int64)) 19 (ma (Mnote_S σ (2 : Int32) t0 (0 : Int64) (ma σ 12 t0.toNatClampNeg)) 17 t0.toNatClampNeg).toNatClampNeg (1 : Int32)) 21 (ma (Mnote_S σ (2 : Int32) t0 (0 : Int64) (ma σ 12 t0.toNatClampNeg)) 17 t0.toNatClampNeg).toNatClampNeg (-1 : Int32)) 20 (ma (Mnote_S σ (2 : Int32) t0 (0 : Int64) (ma σ 12 t0.toNatClampNeg)) 17 t0.toNatClampNeg).toNatClampNeg (ml (Mnote_S σ (2 : Int32) t0 (0 : Int64) (ma σ 12 t0.toNatClampNeg)) 3 (ma (Mnote_S σ (2 : Int32) t0 (0 : Int64) (ma σ 12 t0.toNatClampNeg)) 12 (ma (Mnote_S σ (2 : Int32) t0 (0 : Int64) (ma σ 12 t0.toNatClampNeg)) 17 t0.toNatClampNeg).toNatClampNeg).toNatClampNeg))
        else
          (sma (Mnote_S σ (2 : Int32) t0 (0 : Int64) (ma σ 12 t0.toNatClampNeg)) 19 t0.toNatClampNeg (0 : Int32))
    else
      if (MgoOn_R (sma (Mnote_S σ (1 : Int32) t0 (ml σ 15 (((20 : Int32) * t0) + (ma σ 21 t0.toNatClampNeg)).toNatClampNeg) (ma σ 12 t0.toNatClampNeg)) 21 t0.toNatClampNeg ((ma σ 21 t0.toNatClampNeg) + (1 : Int32))) t0 (ml σ 15 (((20 : Int32) * t0) + (ma σ 21 t0.toNatClampNeg)).toNatClampNeg)) = 0 then
        (MgoOn_S (sma (Mnote_S σ (1 : Int32) t0 (ml σ 15 (((20 : Int32) * t0) + (ma σ 21 t0.toNatClampNeg)).toNatClampNeg) (ma σ 12 t0.toNatClampNeg)) 21 t0.toNatClampNeg ((ma σ 21 t0.toNatClampNeg) + (1 : Int32))) t0 (ml σ 15 (((20 : Int32) * t0) + (ma σ 21 t0.toNatClampNeg)).toNatClampNeg))
      else
        (MgoOn_S (sma (Mnote_S σ (1 : Int32) t0 (ml σ 15 (((20 : Int32) * t0) + (ma σ 21 t0.toNatClampNeg)).toNatClampNeg) (ma σ 12 t0.toNatClampNeg)) 21 t0.toNatClampNeg ((ma σ 21 t0.toNatClampNeg) + (1 : Int32))) t0 (ml σ 15 (((20 : Int32) * t0) + (ma σ 21 t0.toNatClampNeg)).toNatClampNeg))
set_option maxRecDepth 20000 in
set_option maxHeartbeats 2000000 in
theorem c_MtableGoes (l : Launch) (D : va_G) (AC : Nat → ClassId) (o z tt : Nat) (σ : MS) (t0 : Int32) (hO : mOk σ) (ht : rg 1 20 t0) (hE : ¬ mi σ 18 < 0) (hbt : ¬ ml σ 0 (ma σ 12 t0.toNatClampNeg).toNatClampNeg = 0) : CtI l yMod_tableGoes (Cond.code yMod_tableGoes cMod_tableGoes 5 (some .int) :: wT) 1 40 D AC (hsM o z tt σ) [.ref o, .int t0] 0 0 (fun r S' => r = MtableGoes_R σ t0 ∧ S' = hsM o z tt (MtableGoes_S σ t0)) := by
  refine met_of (by decide) (Nat.le_of_ble_eq_true rfl) ?_
  intro p e s m below meth c ls hsz X hW hl
  obtain ⟨hx, hb, hml, hr, hlk, hown, hnm, hts⟩ := X
  have hl : lv_has ls 5 [(0, .ref o), (1, .int t0)] := hl
  refine lv_aload_n hx hb dMod_tableGoes_0 rfl (lv_at hl 0 rfl) ?_
  refine mg_a FMod_75 21 ⟨rfl, by decide⟩ hx hb hts hown hW dMod_tableGoes_1 ?_
  refine lv_iload_n hx hb dMod_tableGoes_4 rfl (lv_at hl 1 rfl) ?_
  refine m_il (j := 21) (v := ma σ 21 t0.toNatClampNeg) ⟨by decide, rfl⟩ hx hb hW (rg.in ht (by decide) (by decide)) dMod_tableGoes_5 rfl ?_
  refine lv_istore_n (i := 2) (lv' := [(2, .int (ma σ 21 t0.toNatClampNeg)), (0, .ref o), (1, .int t0)]) hx hb dMod_tableGoes_6 rfl hl (by decide) rfl (fun ls hl => ?_)
  refine lv_iload_n hx hb dMod_tableGoes_7 rfl (lv_at hl 0 rfl) ?_
  refine lv_iconst (v := (-1 : Int32)) hx hb dMod_tableGoes_8 (by decide) ?_
  refine lv_icmp_ne (tgt := 34) hx hb dMod_tableGoes_9 (by decide) (fun c_1 => ?_) (fun c_1 => ?_)
  · refine lv_iload_n hx hb dMod_tableGoes_34 rfl (lv_at hl 0 rfl) ?_
    refine lv_aload_n hx hb dMod_tableGoes_35 rfl (lv_at hl 1 rfl) ?_
    refine mg_a FMod_54 14 ⟨rfl, by decide⟩ hx hb hts hown hW dMod_tableGoes_36 ?_
    refine lv_iload_n hx hb dMod_tableGoes_39 rfl (lv_at hl 2 rfl) ?_
    refine m_il (j := 14) (v := ma σ 14 t0.toNatClampNeg) ⟨by decide, rfl⟩ hx hb hW (rg.in ht (by decide) (by decide)) dMod_tableGoes_40 rfl ?_
    refine lv_icmp_ge (tgt := 93) hx hb dMod_tableGoes_41 (by decide) (fun c_2 => ?_) (fun c_2 => ?_)
    · refine lv_aload_n hx hb dMod_tableGoes_93 rfl (lv_at hl 1 rfl) ?_
      refine lv_iconst (v := (2 : Int32)) hx hb dMod_tableGoes_94 (by decide) ?_
      refine lv_iload_n hx hb dMod_tableGoes_95 rfl (lv_at hl 2 rfl) ?_
      refine lv_lconst (v := (0 : Int64)) hx hb dMod_tableGoes_96 (by decide) ?_
      refine lv_aload_n hx hb dMod_tableGoes_97 rfl (lv_at hl 1 rfl) ?_
      refine mg_a FMod_48 12 ⟨rfl, by decide⟩ hx hb hts hown hW dMod_tableGoes_98 ?_
      refine lv_iload_n hx hb dMod_tableGoes_101 rfl (lv_at hl 2 rfl) ?_
      refine m_il (j := 12) (v := ma σ 12 t0.toNatClampNeg) ⟨by decide, rfl⟩ hx hb hW (rg.in ht (by decide) (by decide)) dMod_tableGoes_102 rfl ?_
      refine k_Vv (K := 9) (As := [.int (2 : Int32), .int t0, .long (0 : Int64), .int (ma σ 12 t0.toNatClampNeg)]) (rest := []) (c_Mnote l D AC o z tt σ (2 : Int32) t0 (0 : Int64) (ma σ 12 t0.toNatClampNeg) hE (hO.2.2.2.2.2.1 _) hbt) CMod_156 ⟨by decide, by decide, _, rfl, rfl⟩ hx hb hml hown hts hW hsM_k hl.1 rfl rfl (Nat.le_of_ble_eq_true rfl) ⟨⟨Nat.le_of_ble_eq_true rfl, Nat.le_of_ble_eq_true rfl⟩, ⟨Nat.le_of_ble_eq_true rfl, Nat.le_of_ble_eq_true rfl⟩⟩ dMod_tableGoes_103 (fun S_3 H locs e_3 hW _ _ => ?_)
      rw [e_3] at hW
      have hO_4 : mOk (Mnote_S σ (2 : Int32) t0 (0 : Int64) (ma σ 12 t0.toNatClampNeg)) := mOk_note hO
      refine lv_aload_n hx hb dMod_tableGoes_106 rfl (lv_at hl 1 rfl) ?_
      refine mg_a FMod_69 19 ⟨rfl, by decide⟩ hx hb hts hown hW dMod_tableGoes_107 ?_
      refine lv_iload_n hx hb dMod_tableGoes_110 rfl (lv_at hl 2 rfl) ?_
      refine lv_iconst (v := (0 : Int32)) hx hb dMod_tableGoes_111 (by decide) ?_
      refine m_zs (j := 19) (v := (0 : Int32)) ⟨by decide, rfl⟩ hx hb hW (rg.in ht (by decide) (by decide)) (by decide) dMod_tableGoes_112 (fun H locs hW => ?_)
      refine lv_aload_n hx hb dMod_tableGoes_113 rfl (lv_at hl 1 rfl) ?_
      refine mg_a FMod_63 17 ⟨rfl, by decide⟩ hx hb hts hown hW dMod_tableGoes_114 ?_
      refine lv_iload_n hx hb dMod_tableGoes_117 rfl (lv_at hl 2 rfl) ?_
      refine m_il (j := 17) (v := ma (Mnote_S σ (2 : Int32) t0 (0 : Int64) (ma σ 12 t0.toNatClampNeg)) 17 t0.toNatClampNeg) ⟨by decide, rfl⟩ hx hb hW (rg.in ht (by decide) (by decide)) dMod_tableGoes_118 (ra_a (by decide)) ?_
      refine lv_istore_n (i := 3) (lv' := [(3, .int (ma (Mnote_S σ (2 : Int32) t0 (0 : Int64) (ma σ 12 t0.toNatClampNeg)) 17 t0.toNatClampNeg)), (2, .int (ma σ 21 t0.toNatClampNeg)), (0, .ref o), (1, .int t0)]) hx hb dMod_tableGoes_119 rfl hl (by decide) rfl (fun ls hl => ?_)
      refine lv_iload_n hx hb dMod_tableGoes_120 rfl (lv_at hl 0 rfl) ?_
      refine lv_if_eq (tgt := 133) hx hb dMod_tableGoes_121 (by decide) (fun c_5 => ?_) (fun c_5 => ?_)
      · refine lv_iconst (v := (0 : Int32)) hx hb dMod_tableGoes_133 (by decide) ?_
        exact e_i hsz hx hb hr hlk hW mono_hsM (Nat.le_refl _) (Nat.le_refl _) dMod_tableGoes_134 ⟨(Eq.symm (by refine (if_neg c_1).trans ?_; refine (if_pos c_2).trans ?_; refine (if_pos c_5).trans ?_; rfl)), congrArg (hsM o z tt) (Eq.symm (by refine (if_neg c_1).trans ?_; refine (if_pos c_2).trans ?_; refine (if_pos c_5).trans ?_; rfl))⟩
      · refine lv_aload_n hx hb dMod_tableGoes_124 rfl (lv_at hl 2 rfl) ?_
        refine mg_a FMod_69 19 ⟨rfl, by decide⟩ hx hb hts hown hW dMod_tableGoes_125 ?_
        refine lv_iload_n hx hb dMod_tableGoes_128 rfl (lv_at hl 0 rfl) ?_
        refine m_zl (j := 19) (v := ma (sma (Mnote_S σ (2 : Int32) t0 (0 : Int64) (ma σ 12 t0.toNatClampNeg)) 19 t0.toNatClampNeg (0 : Int32)) 19 (ma (Mnote_S σ (2 : Int32) t0 (0 : Int64) (ma σ 12 t0.toNatClampNeg)) 17 t0.toNatClampNeg).toNatClampNeg) ⟨by decide, rfl⟩ hx hb hW (rg.in (hO_4.2.2.2.2.2.2.2.2.1 _) (by decide) (by decide)) dMod_tableGoes_129 rfl ?_
        refine lv_if_eq (tgt := 135) hx hb dMod_tableGoes_130 (by decide) (fun c_6 => ?_) (fun c_6 => ?_)
        · refine lv_aload_n hx hb dMod_tableGoes_135 rfl (lv_at hl 2 rfl) ?_
          refine mg_a FMod_66 18 ⟨rfl, by decide⟩ hx hb hts hown hW dMod_tableGoes_136 ?_
          refine lv_iload_n hx hb dMod_tableGoes_139 rfl (lv_at hl 0 rfl) ?_
          refine lv_iload_n hx hb dMod_tableGoes_140 rfl (lv_at hl 0 rfl) ?_
          refine lv_iload_n hx hb dMod_tableGoes_141 rfl (lv_at hl 3 rfl) ?_
          refine lv_icmp_ne (tgt := 154) hx hb dMod_tableGoes_142 (by decide) (fun c_7 => ?_) (fun c_7 => ?_)
          · refine lv_lconst (v := (0 : Int64)) hx hb dMod_tableGoes_154 (by decide) ?_
            refine m_ls (j := 18) (v := (0 : Int64)) ⟨by decide, rfl⟩ hx hb hW (rg.in (hO_4.2.2.2.2.2.2.2.2.1 _) (by decide) (by decide)) dMod_tableGoes_155 (fun H locs hW => ?_)
            refine lv_aload_n hx hb dMod_tableGoes_156 rfl (lv_at hl 2 rfl) ?_
            refine mg_a FMod_69 19 ⟨rfl, by decide⟩ hx hb hts hown hW dMod_tableGoes_157 ?_
            refine lv_iload_n hx hb dMod_tableGoes_160 rfl (lv_at hl 0 rfl) ?_
            refine lv_iconst (v := (1 : Int32)) hx hb dMod_tableGoes_161 (by decide) ?_
            refine m_zs (j := 19) (v := (1 : Int32)) ⟨by decide, rfl⟩ hx hb hW (rg.in (hO_4.2.2.2.2.2.2.2.2.1 _) (by decide) (by decide)) (by decide) dMod_tableGoes_162 (fun H locs hW => ?_)
            refine lv_aload_n hx hb dMod_tableGoes_163 rfl (lv_at hl 2 rfl) ?_
            refine mg_a FMod_75 21 ⟨rfl, by decide⟩ hx hb hts hown hW dMod_tableGoes_164 ?_
            refine lv_iload_n hx hb dMod_tableGoes_167 rfl (lv_at hl 0 rfl) ?_
            refine lv_iconst (v := (-1 : Int32)) hx hb dMod_tableGoes_168 (by decide) ?_
            refine m_is (j := 21) (v := (-1 : Int32)) ⟨by decide, rfl⟩ hx hb hW (rg.in (hO_4.2.2.2.2.2.2.2.2.1 _) (by decide) (by decide)) dMod_tableGoes_169 (fun H locs hW => ?_)
            have hO_8 : mOk (sma (sma (sml (sma (Mnote_S σ (2 : Int32) t0 (0 : Int64) (ma σ 12 t0.toNatClampNeg)) 19 t0.toNatClampNeg (0 : Int32)) 18 (ma (Mnote_S σ (2 : Int32) t0 (0 : Int64) (ma σ 12 t0.toNatClampNeg)) 17 t0.toNatClampNeg).toNatClampNeg (0 : Int64)) 19 (ma (Mnote_S σ (2 : Int32) t0 (0 : Int64) (ma σ 12 t0.toNatClampNeg)) 17 t0.toNatClampNeg).toNatClampNeg (1 : Int32)) 21 (ma (Mnote_S σ (2 : Int32) t0 (0 : Int64) (ma σ 12 t0.toNatClampNeg)) 17 t0.toNatClampNeg).toNatClampNeg (-1 : Int32)) := mOk_w21 hO_4 (rg.wk (show rg (-1) (-1) (-1 : Int32) from ⟨by decide, by decide⟩) (by decide) (by decide))
            refine lv_aload_n hx hb dMod_tableGoes_170 rfl (lv_at hl 2 rfl) ?_
            refine mg_a FMod_72 20 ⟨rfl, by decide⟩ hx hb hts hown hW dMod_tableGoes_171 ?_
            refine lv_iload_n hx hb dMod_tableGoes_174 rfl (lv_at hl 0 rfl) ?_
            refine lv_aload_n hx hb dMod_tableGoes_175 rfl (lv_at hl 2 rfl) ?_
            refine mg_a FMod_19 3 ⟨rfl, by decide⟩ hx hb hts hown hW dMod_tableGoes_176 ?_
            refine lv_aload_n hx hb dMod_tableGoes_179 rfl (lv_at hl 2 rfl) ?_
            refine mg_a FMod_48 12 ⟨rfl, by decide⟩ hx hb hts hown hW dMod_tableGoes_180 ?_
            refine lv_iload_n hx hb dMod_tableGoes_183 rfl (lv_at hl 0 rfl) ?_
            refine m_il (j := 12) (v := ma (Mnote_S σ (2 : Int32) t0 (0 : Int64) (ma σ 12 t0.toNatClampNeg)) 12 (ma (Mnote_S σ (2 : Int32) t0 (0 : Int64) (ma σ 12 t0.toNatClampNeg)) 17 t0.toNatClampNeg).toNatClampNeg) ⟨by decide, rfl⟩ hx hb hW (rg.in (hO_4.2.2.2.2.2.2.2.2.1 _) (by decide) (by decide)) dMod_tableGoes_184 ((ra_a (by decide)).trans ((ra_a (by decide)).trans ((ra_l).trans (ra_a (by decide))))) ?_
            refine m_ll (j := 3) (v := ml (Mnote_S σ (2 : Int32) t0 (0 : Int64) (ma σ 12 t0.toNatClampNeg)) 3 (ma (Mnote_S σ (2 : Int32) t0 (0 : Int64) (ma σ 12 t0.toNatClampNeg)) 12 (ma (Mnote_S σ (2 : Int32) t0 (0 : Int64) (ma σ 12 t0.toNatClampNeg)) 17 t0.toNatClampNeg).toNatClampNeg).toNatClampNeg) ⟨by decide, rfl⟩ hx hb hW (rg.in (hO_4.2.2.2.2.2.1 _) (by decide) (by decide)) dMod_tableGoes_185 ((rl_a).trans ((rl_a).trans ((rl_l (by decide)).trans (rl_a)))) ?_
            refine m_ls (j := 20) (v := (ml (Mnote_S σ (2 : Int32) t0 (0 : Int64) (ma σ 12 t0.toNatClampNeg)) 3 (ma (Mnote_S σ (2 : Int32) t0 (0 : Int64) (ma σ 12 t0.toNatClampNeg)) 12 (ma (Mnote_S σ (2 : Int32) t0 (0 : Int64) (ma σ 12 t0.toNatClampNeg)) 17 t0.toNatClampNeg).toNatClampNeg).toNatClampNeg)) ⟨by decide, rfl⟩ hx hb hW (rg.in (hO_4.2.2.2.2.2.2.2.2.1 _) (by decide) (by decide)) dMod_tableGoes_186 (fun H locs hW => ?_)
            refine lv_iload_n hx hb dMod_tableGoes_187 rfl (lv_at hl 0 rfl) ?_
            exact e_i hsz hx hb hr hlk hW mono_hsM (Nat.le_refl _) (Nat.le_refl _) dMod_tableGoes_188 ⟨(Eq.symm (by refine (if_neg c_1).trans ?_; refine (if_pos c_2).trans ?_; refine (if_neg c_5).trans ?_; refine (if_pos c_6).trans ?_; refine (if_neg c_7).trans ?_; rfl)), congrArg (hsM o z tt) (Eq.symm (by refine (if_neg c_1).trans ?_; refine (if_pos c_2).trans ?_; refine (if_neg c_5).trans ?_; refine (if_pos c_6).trans ?_; refine (if_neg c_7).trans ?_; rfl))⟩
          · refine lv_aload_n hx hb dMod_tableGoes_145 rfl (lv_at hl 2 rfl) ?_
            refine mg_a FMod_66 18 ⟨rfl, by decide⟩ hx hb hts hown hW dMod_tableGoes_146 ?_
            refine lv_iload_n hx hb dMod_tableGoes_149 rfl (lv_at hl 0 rfl) ?_
            refine m_ll (j := 18) (v := ml (Mnote_S σ (2 : Int32) t0 (0 : Int64) (ma σ 12 t0.toNatClampNeg)) 18 (ma (Mnote_S σ (2 : Int32) t0 (0 : Int64) (ma σ 12 t0.toNatClampNeg)) 17 t0.toNatClampNeg).toNatClampNeg) ⟨by decide, rfl⟩ hx hb hW (rg.in (hO_4.2.2.2.2.2.2.2.2.1 _) (by decide) (by decide)) dMod_tableGoes_150 (rl_a) ?_
            refine lv_goto (tgt := 155) hx hb dMod_tableGoes_151 (by decide) ?_
            refine m_ls (j := 18) (v := (ml (Mnote_S σ (2 : Int32) t0 (0 : Int64) (ma σ 12 t0.toNatClampNeg)) 18 (ma (Mnote_S σ (2 : Int32) t0 (0 : Int64) (ma σ 12 t0.toNatClampNeg)) 17 t0.toNatClampNeg).toNatClampNeg)) ⟨by decide, rfl⟩ hx hb hW (rg.in (hO_4.2.2.2.2.2.2.2.2.1 _) (by decide) (by decide)) dMod_tableGoes_155 (fun H locs hW => ?_)
            refine lv_aload_n hx hb dMod_tableGoes_156 rfl (lv_at hl 2 rfl) ?_
            refine mg_a FMod_69 19 ⟨rfl, by decide⟩ hx hb hts hown hW dMod_tableGoes_157 ?_
            refine lv_iload_n hx hb dMod_tableGoes_160 rfl (lv_at hl 0 rfl) ?_
            refine lv_iconst (v := (1 : Int32)) hx hb dMod_tableGoes_161 (by decide) ?_
            refine m_zs (j := 19) (v := (1 : Int32)) ⟨by decide, rfl⟩ hx hb hW (rg.in (hO_4.2.2.2.2.2.2.2.2.1 _) (by decide) (by decide)) (by decide) dMod_tableGoes_162 (fun H locs hW => ?_)
            refine lv_aload_n hx hb dMod_tableGoes_163 rfl (lv_at hl 2 rfl) ?_
            refine mg_a FMod_75 21 ⟨rfl, by decide⟩ hx hb hts hown hW dMod_tableGoes_164 ?_
            refine lv_iload_n hx hb dMod_tableGoes_167 rfl (lv_at hl 0 rfl) ?_
            refine lv_iconst (v := (-1 : Int32)) hx hb dMod_tableGoes_168 (by decide) ?_
            refine m_is (j := 21) (v := (-1 : Int32)) ⟨by decide, rfl⟩ hx hb hW (rg.in (hO_4.2.2.2.2.2.2.2.2.1 _) (by decide) (by decide)) dMod_tableGoes_169 (fun H locs hW => ?_)
            have hO_9 : mOk (sma (sma (sml (sma (Mnote_S σ (2 : Int32) t0 (0 : Int64) (ma σ 12 t0.toNatClampNeg)) 19 t0.toNatClampNeg (0 : Int32)) 18 (ma (Mnote_S σ (2 : Int32) t0 (0 : Int64) (ma σ 12 t0.toNatClampNeg)) 17 t0.toNatClampNeg).toNatClampNeg (ml (Mnote_S σ (2 : Int32) t0 (0 : Int64) (ma σ 12 t0.toNatClampNeg)) 18 (ma (Mnote_S σ (2 : Int32) t0 (0 : Int64) (ma σ 12 t0.toNatClampNeg)) 17 t0.toNatClampNeg).toNatClampNeg)) 19 (ma (Mnote_S σ (2 : Int32) t0 (0 : Int64) (ma σ 12 t0.toNatClampNeg)) 17 t0.toNatClampNeg).toNatClampNeg (1 : Int32)) 21 (ma (Mnote_S σ (2 : Int32) t0 (0 : Int64) (ma σ 12 t0.toNatClampNeg)) 17 t0.toNatClampNeg).toNatClampNeg (-1 : Int32)) := mOk_w21 hO_4 (rg.wk (show rg (-1) (-1) (-1 : Int32) from ⟨by decide, by decide⟩) (by decide) (by decide))
            refine lv_aload_n hx hb dMod_tableGoes_170 rfl (lv_at hl 2 rfl) ?_
            refine mg_a FMod_72 20 ⟨rfl, by decide⟩ hx hb hts hown hW dMod_tableGoes_171 ?_
            refine lv_iload_n hx hb dMod_tableGoes_174 rfl (lv_at hl 0 rfl) ?_
            refine lv_aload_n hx hb dMod_tableGoes_175 rfl (lv_at hl 2 rfl) ?_
            refine mg_a FMod_19 3 ⟨rfl, by decide⟩ hx hb hts hown hW dMod_tableGoes_176 ?_
            refine lv_aload_n hx hb dMod_tableGoes_179 rfl (lv_at hl 2 rfl) ?_
            refine mg_a FMod_48 12 ⟨rfl, by decide⟩ hx hb hts hown hW dMod_tableGoes_180 ?_
            refine lv_iload_n hx hb dMod_tableGoes_183 rfl (lv_at hl 0 rfl) ?_
            refine m_il (j := 12) (v := ma (Mnote_S σ (2 : Int32) t0 (0 : Int64) (ma σ 12 t0.toNatClampNeg)) 12 (ma (Mnote_S σ (2 : Int32) t0 (0 : Int64) (ma σ 12 t0.toNatClampNeg)) 17 t0.toNatClampNeg).toNatClampNeg) ⟨by decide, rfl⟩ hx hb hW (rg.in (hO_4.2.2.2.2.2.2.2.2.1 _) (by decide) (by decide)) dMod_tableGoes_184 ((ra_a (by decide)).trans ((ra_a (by decide)).trans ((ra_l).trans (ra_a (by decide))))) ?_
            refine m_ll (j := 3) (v := ml (Mnote_S σ (2 : Int32) t0 (0 : Int64) (ma σ 12 t0.toNatClampNeg)) 3 (ma (Mnote_S σ (2 : Int32) t0 (0 : Int64) (ma σ 12 t0.toNatClampNeg)) 12 (ma (Mnote_S σ (2 : Int32) t0 (0 : Int64) (ma σ 12 t0.toNatClampNeg)) 17 t0.toNatClampNeg).toNatClampNeg).toNatClampNeg) ⟨by decide, rfl⟩ hx hb hW (rg.in (hO_4.2.2.2.2.2.1 _) (by decide) (by decide)) dMod_tableGoes_185 ((rl_a).trans ((rl_a).trans ((rl_l (by decide)).trans (rl_a)))) ?_
            refine m_ls (j := 20) (v := (ml (Mnote_S σ (2 : Int32) t0 (0 : Int64) (ma σ 12 t0.toNatClampNeg)) 3 (ma (Mnote_S σ (2 : Int32) t0 (0 : Int64) (ma σ 12 t0.toNatClampNeg)) 12 (ma (Mnote_S σ (2 : Int32) t0 (0 : Int64) (ma σ 12 t0.toNatClampNeg)) 17 t0.toNatClampNeg).toNatClampNeg).toNatClampNeg)) ⟨by decide, rfl⟩ hx hb hW (rg.in (hO_4.2.2.2.2.2.2.2.2.1 _) (by decide) (by decide)) dMod_tableGoes_186 (fun H locs hW => ?_)
            refine lv_iload_n hx hb dMod_tableGoes_187 rfl (lv_at hl 0 rfl) ?_
            exact e_i hsz hx hb hr hlk hW mono_hsM (Nat.le_refl _) (Nat.le_refl _) dMod_tableGoes_188 ⟨(Eq.symm (by refine (if_neg c_1).trans ?_; refine (if_pos c_2).trans ?_; refine (if_neg c_5).trans ?_; refine (if_pos c_6).trans ?_; refine (if_pos c_7).trans ?_; rfl)), congrArg (hsM o z tt) (Eq.symm (by refine (if_neg c_1).trans ?_; refine (if_pos c_2).trans ?_; refine (if_neg c_5).trans ?_; refine (if_pos c_6).trans ?_; refine (if_pos c_7).trans ?_; rfl))⟩
        · refine lv_iconst (v := (0 : Int32)) hx hb dMod_tableGoes_133 (by decide) ?_
          exact e_i hsz hx hb hr hlk hW mono_hsM (Nat.le_refl _) (Nat.le_refl _) dMod_tableGoes_134 ⟨(Eq.symm (by refine (if_neg c_1).trans ?_; refine (if_pos c_2).trans ?_; refine (if_neg c_5).trans ?_; refine (if_neg c_6).trans ?_; rfl)), congrArg (hsM o z tt) (Eq.symm (by refine (if_neg c_1).trans ?_; refine (if_pos c_2).trans ?_; refine (if_neg c_5).trans ?_; refine (if_neg c_6).trans ?_; rfl))⟩
    · refine lv_aload_n hx hb dMod_tableGoes_44 rfl (lv_at hl 1 rfl) ?_
      refine mg_a FMod_57 15 ⟨rfl, by decide⟩ hx hb hts hown hW dMod_tableGoes_45 ?_
      refine lv_bipush (v := (20 : Int32)) hx hb dMod_tableGoes_48 (by decide) ?_
      refine lv_iload_n hx hb dMod_tableGoes_50 rfl (lv_at hl 2 rfl) ?_
      refine lv_imul hx hb dMod_tableGoes_51 ?_
      refine lv_iload_n hx hb dMod_tableGoes_52 rfl (lv_at hl 0 rfl) ?_
      refine lv_iadd hx hb dMod_tableGoes_53 ?_
      refine m_ll (j := 15) (v := ml σ 15 (((20 : Int32) * t0) + (ma σ 21 t0.toNatClampNeg)).toNatClampNeg) ⟨by decide, rfl⟩ hx hb hW (rg.in (rg.add (rg.m20 ht (by decide) (by decide)) (rg_lt (rg_m1 (hO.2.2.2.2.2.2.2.2.2.1 _) c_1) (hO.2.2.2.2.2.2.1 _) (i32_nle c_2)) (by decide) (by decide)) (by decide) (by decide)) dMod_tableGoes_54 rfl ?_
      refine lv_lstore_n (i := 3) (lv' := [(3, .long (ml σ 15 (((20 : Int32) * t0) + (ma σ 21 t0.toNatClampNeg)).toNatClampNeg)), (2, .int (ma σ 21 t0.toNatClampNeg)), (0, .ref o), (1, .int t0)]) hx hb dMod_tableGoes_55 rfl hl (by decide) rfl (fun ls hl => ?_)
      refine lv_aload_n hx hb dMod_tableGoes_56 rfl (lv_at hl 2 rfl) ?_
      refine lv_iconst (v := (1 : Int32)) hx hb dMod_tableGoes_57 (by decide) ?_
      refine lv_iload_n hx hb dMod_tableGoes_58 rfl (lv_at hl 3 rfl) ?_
      refine lv_lload_n hx hb dMod_tableGoes_59 rfl (lv_at hl 0 rfl) ?_
      refine lv_aload_n hx hb dMod_tableGoes_60 rfl (lv_at hl 2 rfl) ?_
      refine mg_a FMod_48 12 ⟨rfl, by decide⟩ hx hb hts hown hW dMod_tableGoes_61 ?_
      refine lv_iload_n hx hb dMod_tableGoes_64 rfl (lv_at hl 3 rfl) ?_
      refine m_il (j := 12) (v := ma σ 12 t0.toNatClampNeg) ⟨by decide, rfl⟩ hx hb hW (rg.in ht (by decide) (by decide)) dMod_tableGoes_65 rfl ?_
      refine k_Vv (K := 9) (As := [.int (1 : Int32), .int t0, .long (ml σ 15 (((20 : Int32) * t0) + (ma σ 21 t0.toNatClampNeg)).toNatClampNeg), .int (ma σ 12 t0.toNatClampNeg)]) (rest := []) (c_Mnote l D AC o z tt σ (1 : Int32) t0 (ml σ 15 (((20 : Int32) * t0) + (ma σ 21 t0.toNatClampNeg)).toNatClampNeg) (ma σ 12 t0.toNatClampNeg) hE (hO.2.2.2.2.2.1 _) hbt) CMod_156 ⟨by decide, by decide, _, rfl, rfl⟩ hx hb hml hown hts hW hsM_k hl.1 rfl rfl (Nat.le_of_ble_eq_true rfl) ⟨⟨Nat.le_of_ble_eq_true rfl, Nat.le_of_ble_eq_true rfl⟩, ⟨Nat.le_of_ble_eq_true rfl, Nat.le_of_ble_eq_true rfl⟩⟩ dMod_tableGoes_66 (fun S_10 H locs e_10 hW _ _ => ?_)
      rw [e_10] at hW
      have hO_11 : mOk (Mnote_S σ (1 : Int32) t0 (ml σ 15 (((20 : Int32) * t0) + (ma σ 21 t0.toNatClampNeg)).toNatClampNeg) (ma σ 12 t0.toNatClampNeg)) := mOk_note hO
      refine lv_aload_n hx hb dMod_tableGoes_69 rfl (lv_at hl 2 rfl) ?_
      refine mg_a FMod_75 21 ⟨rfl, by decide⟩ hx hb hts hown hW dMod_tableGoes_70 ?_
      refine lv_iload_n hx hb dMod_tableGoes_73 rfl (lv_at hl 3 rfl) ?_
      refine lv_iload_n hx hb dMod_tableGoes_74 rfl (lv_at hl 1 rfl) ?_
      refine lv_iconst (v := (1 : Int32)) hx hb dMod_tableGoes_75 (by decide) ?_
      refine lv_iadd hx hb dMod_tableGoes_76 ?_
      refine m_is (j := 21) (v := ((ma σ 21 t0.toNatClampNeg) + (1 : Int32))) ⟨by decide, rfl⟩ hx hb hW (rg.in ht (by decide) (by decide)) dMod_tableGoes_77 (fun H locs hW => ?_)
      have hO_12 : mOk (sma (Mnote_S σ (1 : Int32) t0 (ml σ 15 (((20 : Int32) * t0) + (ma σ 21 t0.toNatClampNeg)).toNatClampNeg) (ma σ 12 t0.toNatClampNeg)) 21 t0.toNatClampNeg ((ma σ 21 t0.toNatClampNeg) + (1 : Int32))) := mOk_w21 hO_11 (rg.wk (rg.add (rg_lt (rg_m1 (hO.2.2.2.2.2.2.2.2.2.1 _) c_1) (hO.2.2.2.2.2.2.1 _) (i32_nle c_2)) (show rg (1) (1) (1 : Int32) from ⟨by decide, by decide⟩) (by decide) (by decide)) (by decide) (by decide))
      refine lv_aload_n hx hb dMod_tableGoes_78 rfl (lv_at hl 2 rfl) ?_
      refine lv_iload_n hx hb dMod_tableGoes_79 rfl (lv_at hl 3 rfl) ?_
      refine lv_lload_n hx hb dMod_tableGoes_80 rfl (lv_at hl 0 rfl) ?_
      refine k_Vi (K := 9) (As := [.int t0, .long (ml σ 15 (((20 : Int32) * t0) + (ma σ 21 t0.toNatClampNeg)).toNatClampNeg)]) (rest := []) (c_MgoOn l D AC o z tt (sma (Mnote_S σ (1 : Int32) t0 (ml σ 15 (((20 : Int32) * t0) + (ma σ 21 t0.toNatClampNeg)).toNatClampNeg) (ma σ 12 t0.toNatClampNeg)) 21 t0.toNatClampNeg ((ma σ 21 t0.toNatClampNeg) + (1 : Int32))) t0 (ml σ 15 (((20 : Int32) * t0) + (ma σ 21 t0.toNatClampNeg)).toNatClampNeg) hO_12 ht (tg_hp (rg.wk (rg.add (rg_lt (rg_m1 (hO.2.2.2.2.2.2.2.2.2.1 _) c_1) (hO.2.2.2.2.2.2.1 _) (i32_nle c_2)) (show rg (1) (1) (1 : Int32) from ⟨by decide, by decide⟩) (by decide) (by decide)) (by decide) (by decide)))) CMod_152 ⟨by decide, by decide, _, rfl, rfl⟩ hx hb hml hown hts hW hsM_k hl.1 rfl rfl (Nat.le_of_ble_eq_true rfl) ⟨⟨Nat.le_of_ble_eq_true rfl, Nat.le_of_ble_eq_true rfl⟩, ⟨Nat.le_of_ble_eq_true rfl, Nat.le_of_ble_eq_true rfl⟩⟩ dMod_tableGoes_81 (fun r_13 S_13 H locs e_13 hW _ _ => ?_)
      obtain ⟨e1_13, e2_13⟩ := e_13
      rw [e2_13] at hW
      rw [e1_13]
      have hO_14 : mOk (MgoOn_S (sma (Mnote_S σ (1 : Int32) t0 (ml σ 15 (((20 : Int32) * t0) + (ma σ 21 t0.toNatClampNeg)).toNatClampNeg) (ma σ 12 t0.toNatClampNeg)) 21 t0.toNatClampNeg ((ma σ 21 t0.toNatClampNeg) + (1 : Int32))) t0 (ml σ 15 (((20 : Int32) * t0) + (ma σ 21 t0.toNatClampNeg)).toNatClampNeg)) := mOk_goOn hO_12
      refine lv_if_eq (tgt := 91) hx hb dMod_tableGoes_84 (by decide) (fun c_15 => ?_) (fun c_15 => ?_)
      · refine lv_iconst (v := (0 : Int32)) hx hb dMod_tableGoes_91 (by decide) ?_
        exact e_i hsz hx hb hr hlk hW mono_hsM (Nat.le_refl _) (Nat.le_refl _) dMod_tableGoes_92 ⟨(Eq.symm (by refine (if_neg c_1).trans ?_; refine (if_neg c_2).trans ?_; refine (if_pos c_15).trans ?_; rfl)), congrArg (hsM o z tt) (Eq.symm (by refine (if_neg c_1).trans ?_; refine (if_neg c_2).trans ?_; refine (if_pos c_15).trans ?_; rfl))⟩
      · refine lv_iload_n hx hb dMod_tableGoes_87 rfl (lv_at hl 3 rfl) ?_
        refine lv_goto (tgt := 92) hx hb dMod_tableGoes_88 (by decide) ?_
        exact e_i hsz hx hb hr hlk hW mono_hsM (Nat.le_refl _) (Nat.le_refl _) dMod_tableGoes_92 ⟨(Eq.symm (by refine (if_neg c_1).trans ?_; refine (if_neg c_2).trans ?_; refine (if_neg c_15).trans ?_; rfl)), congrArg (hsM o z tt) (Eq.symm (by refine (if_neg c_1).trans ?_; refine (if_neg c_2).trans ?_; refine (if_neg c_15).trans ?_; rfl))⟩
  · refine lv_aload_n hx hb dMod_tableGoes_12 rfl (lv_at hl 1 rfl) ?_
    refine mg_a FMod_75 21 ⟨rfl, by decide⟩ hx hb hts hown hW dMod_tableGoes_13 ?_
    refine lv_iload_n hx hb dMod_tableGoes_16 rfl (lv_at hl 2 rfl) ?_
    refine lv_iconst (v := (0 : Int32)) hx hb dMod_tableGoes_17 (by decide) ?_
    refine m_is (j := 21) (v := (0 : Int32)) ⟨by decide, rfl⟩ hx hb hW (rg.in ht (by decide) (by decide)) dMod_tableGoes_18 (fun H locs hW => ?_)
    have hO_16 : mOk (sma σ 21 t0.toNatClampNeg (0 : Int32)) := mOk_w21 hO (rg.wk (show rg (0) (0) (0 : Int32) from ⟨by decide, by decide⟩) (by decide) (by decide))
    refine lv_aload_n hx hb dMod_tableGoes_19 rfl (lv_at hl 1 rfl) ?_
    refine lv_iload_n hx hb dMod_tableGoes_20 rfl (lv_at hl 2 rfl) ?_
    refine lv_lconst (v := (0 : Int64)) hx hb dMod_tableGoes_21 (by decide) ?_
    refine k_Vi (K := 9) (As := [.int t0, .long (0 : Int64)]) (rest := []) (c_MgoOn l D AC o z tt (sma σ 21 t0.toNatClampNeg (0 : Int32)) t0 (0 : Int64) hO_16 ht (tg_hp (rg.wk (show rg (0) (0) (0 : Int32) from ⟨by decide, by decide⟩) (by decide) (by decide)))) CMod_152 ⟨by decide, by decide, _, rfl, rfl⟩ hx hb hml hown hts hW hsM_k hl.1 rfl rfl (Nat.le_of_ble_eq_true rfl) ⟨⟨Nat.le_of_ble_eq_true rfl, Nat.le_of_ble_eq_true rfl⟩, ⟨Nat.le_of_ble_eq_true rfl, Nat.le_of_ble_eq_true rfl⟩⟩ dMod_tableGoes_22 (fun r_17 S_17 H locs e_17 hW _ _ => ?_)
    obtain ⟨e1_17, e2_17⟩ := e_17
    rw [e2_17] at hW
    rw [e1_17]
    have hO_18 : mOk (MgoOn_S (sma σ 21 t0.toNatClampNeg (0 : Int32)) t0 (0 : Int64)) := mOk_goOn hO_16
    refine lv_if_eq (tgt := 32) hx hb dMod_tableGoes_25 (by decide) (fun c_19 => ?_) (fun c_19 => ?_)
    · refine lv_iconst (v := (0 : Int32)) hx hb dMod_tableGoes_32 (by decide) ?_
      exact e_i hsz hx hb hr hlk hW mono_hsM (Nat.le_refl _) (Nat.le_refl _) dMod_tableGoes_33 ⟨(Eq.symm (by refine (if_pos c_1).trans ?_; refine (if_pos c_19).trans ?_; rfl)), congrArg (hsM o z tt) (Eq.symm (by refine (if_pos c_1).trans ?_; refine (if_pos c_19).trans ?_; rfl))⟩
    · refine lv_iload_n hx hb dMod_tableGoes_28 rfl (lv_at hl 2 rfl) ?_
      refine lv_goto (tgt := 33) hx hb dMod_tableGoes_29 (by decide) ?_
      exact e_i hsz hx hb hr hlk hW mono_hsM (Nat.le_refl _) (Nat.le_refl _) dMod_tableGoes_33 ⟨(Eq.symm (by refine (if_pos c_1).trans ?_; refine (if_neg c_19).trans ?_; rfl)), congrArg (hsM o z tt) (Eq.symm (by refine (if_pos c_1).trans ?_; refine (if_neg c_19).trans ?_; rfl))⟩

theorem MtableGoes_rg {σ : MS} {t0 : Int32} (h : mOk σ) (ht : rg 1 20 t0) : rg 0 20 (MtableGoes_R σ t0) := by
  have h0 : rg 0 20 (0 : Int32) := ⟨by decide, by decide⟩
  have h1 : rg 0 20 t0 := ht.wk (by decide) (by decide)
  have h2 : ∀ a, rg 0 20 (ma (Mnote_S σ (2 : Int32) t0 (0 : Int64) (ma σ 12 t0.toNatClampNeg)) 17 a) := (mOk_note h).2.2.2.2.2.2.2.2.1
  unfold MtableGoes_R
  repeat' split
  all_goals first | exact h0 | exact h1 | exact h2 _
theorem mOk_end {Y : MS} {a b c d e : Nat} {u v : Int32} {x y : Int64} (h : mOk Y) : mOk (sml (sma (sma (sml (sma Y 19 a u) 18 b x) 19 c v) 21 d (-1 : Int32)) 20 e y) :=
  mOk_w21 (σ := sma (sml (sma Y 19 a u) 18 b x) 19 c v) (i := d) h ⟨by decide, by decide⟩
theorem mOk_tableGoes {σ : MS} {t0 : Int32} (h : mOk σ) (ht : rg 1 20 t0) : mOk (MtableGoes_S σ t0) := by
  have h2 : mOk (Mnote_S σ (2 : Int32) t0 (0 : Int64) (ma σ 12 t0.toNatClampNeg)) := mOk_note h
  have hm : rg (-1) 20 (-1 : Int32) := ⟨by decide, by decide⟩
  unfold MtableGoes_S
  by_cases c1 : (ma σ 21 t0.toNatClampNeg) = (-1 : Int32)
  · rw [if_pos c1]
    have h3 : mOk (MgoOn_S (sma σ 21 t0.toNatClampNeg (0 : Int32)) t0 (0 : Int64)) := mOk_goOn (mOk_w21 h ⟨by decide, by decide⟩)
    split <;> exact h3
  · rw [if_neg c1]
    by_cases c2 : (ma σ 14 t0.toNatClampNeg) ≤ (ma σ 21 t0.toNatClampNeg)
    · rw [if_pos c2]
      have h4 : mOk (sma (Mnote_S σ (2 : Int32) t0 (0 : Int64) (ma σ 12 t0.toNatClampNeg)) 19 t0.toNatClampNeg (0 : Int32)) := h2
      split
      · exact h4
      · split
        · split
          · exact mOk_end h2
          · exact mOk_end h2
        · exact h4
    · rw [if_neg c2]
      have hp : rg 0 19 (ma σ 21 t0.toNatClampNeg) := rg_lt (rg_m1 (h.2.2.2.2.2.2.2.2.2.1 _) c1) (h.2.2.2.2.2.2.1 _) (i32_nle c2)
      have h3 : rg (-1) 20 (ma σ 21 t0.toNatClampNeg + 1) := (rg.add hp (show rg 1 1 1 from ⟨by decide, by decide⟩) (by decide) (by decide)).wk (by decide) (by decide)
      split <;> exact mOk_goOn (mOk_w21 (mOk_note h) h3)
theorem MtableGoes_mi {σ : MS} {t0 : Int32} {k : Nat} (hk : k ≠ 18) : mi (MtableGoes_S σ t0) k = mi σ k := by
  have h2 : mi (Mnote_S σ (2 : Int32) t0 (0 : Int64) (ma σ 12 t0.toNatClampNeg)) k = mi σ k := Mnote_mi hk
  unfold MtableGoes_S
  by_cases c1 : (ma σ 21 t0.toNatClampNeg) = (-1 : Int32)
  · rw [if_pos c1]
    split <;> rw [MgoOn_mi] <;> rfl
  · rw [if_neg c1]
    by_cases c2 : (ma σ 14 t0.toNatClampNeg) ≤ (ma σ 21 t0.toNatClampNeg)
    · rw [if_pos c2]
      repeat' split
      all_goals exact h2
    · rw [if_neg c2]
      split <;> rw [MgoOn_mi] <;> exact Mnote_mi hk
theorem MtableGoes_hd {σ : MS} {t0 : Int32} (h : rg 0 23 (mi σ 20)) : rg 0 23 (mi (MtableGoes_S σ t0) 20) := by rw [MtableGoes_mi (by decide)]; exact h
theorem rg_pos2 {lo hi : Int} {x : Int32} (h : rg lo hi x) (q : ¬ x ≤ 0) : rg 1 hi x := rg_pos h (Int32.not_le.mp q)
theorem Mnote_of {σ : MS} {k0 n0 c0 : Int32} {o0 : Int64} {i : Nat} (h : ma σ 7 i = 1 → rg 0 20 (ma σ 8 i)) (q : ma (Mnote_S σ k0 n0 o0 c0) 7 i = 1) : rg 0 20 (ma (Mnote_S σ k0 n0 o0 c0) 8 i) := by
  rw [Mnote_ma (by decide)] at q ⊢
  exact h q

def MgoTable_S (σ : MS) (at0 : Int32) (t0 : Int32) : MS :=
  if (ma σ 21 t0.toNatClampNeg) < 0 then
    (sma (MtableGoes_S σ t0) 27 at0.toNatClampNeg (MtableGoes_R σ t0))
  else
    if (ma σ 21 t0.toNatClampNeg) < (ma (MtableGoes_S σ t0) 14 t0.toNatClampNeg) then
      if (ma (MtableGoes_S σ t0) 16 (((20 : Int32) * t0) + (ma σ 21 t0.toNatClampNeg)).toNatClampNeg) ≤ 0 then
        if 0 ≤ (ma (MtableGoes_S σ t0) 16 (((20 : Int32) * t0) + (ma σ 21 t0.toNatClampNeg)).toNatClampNeg) then
          (sma (MtableGoes_S σ t0) 27 at0.toNatClampNeg (MtableGoes_R σ t0))
        else
          (sma (sma (MtableGoes_S σ t0) 27 at0.toNatClampNeg (MtableGoes_R σ t0)) 9 (-(ma (MtableGoes_S σ t0) 16 (((20 : Int32) * t0) + (ma σ 21 t0.toNatClampNeg)).toNatClampNeg)).toNatClampNeg (0 : Int32))
      else
        (MbyAct_S (sma (MtableGoes_S σ t0) 27 at0.toNatClampNeg (MtableGoes_R σ t0)) (ma (MtableGoes_S σ t0) 16 (((20 : Int32) * t0) + (ma σ 21 t0.toNatClampNeg)).toNatClampNeg))
    else
      (sma (MtableGoes_S σ t0) 27 at0.toNatClampNeg (MtableGoes_R σ t0))
set_option maxRecDepth 20000 in
set_option maxHeartbeats 2000000 in
theorem c_MgoTable (l : Launch) (D : va_G) (AC : Nat → ClassId) (o z tt : Nat) (σ : MS) (at0 : Int32) (t0 : Int32) (hO : mOk σ) (hat : rg 0 23 at0) (ht : rg 1 20 t0) (hE : ¬ mi σ 18 < 0) (hbt : ¬ ml σ 0 (ma σ 12 t0.toNatClampNeg).toNatClampNeg = 0) (hd : rg 0 23 (mi σ 20)) : CtV l yMod_goTable (Cond.code yMod_goTable cMod_goTable 5 none :: wT) 3 90 D AC (hsM o z tt σ) [.ref o, .int at0, .int t0] 0 0 (fun S' => S' = hsM o z tt (MgoTable_S σ at0 t0)) := by
  refine met_of (by decide) (Nat.le_of_ble_eq_true rfl) ?_
  intro p e s m below meth c ls hsz X hW hl
  obtain ⟨hx, hb, hml, hr, hlk, hown, hnm, hts⟩ := X
  have hl : lv_has ls 5 [(0, .ref o), (1, .int at0), (2, .int t0)] := hl
  refine lv_aload_n hx hb dMod_goTable_0 rfl (lv_at hl 0 rfl) ?_
  refine mg_a FMod_75 21 ⟨rfl, by decide⟩ hx hb hts hown hW dMod_goTable_1 ?_
  refine lv_iload_n hx hb dMod_goTable_4 rfl (lv_at hl 2 rfl) ?_
  refine m_il (j := 21) (v := ma σ 21 t0.toNatClampNeg) ⟨by decide, rfl⟩ hx hb hW (rg.in ht (by decide) (by decide)) dMod_goTable_5 rfl ?_
  refine lv_istore_n (i := 3) (lv' := [(3, .int (ma σ 21 t0.toNatClampNeg)), (0, .ref o), (1, .int at0), (2, .int t0)]) hx hb dMod_goTable_6 rfl hl (by decide) rfl (fun ls hl => ?_)
  refine lv_aload_n hx hb dMod_goTable_7 rfl (lv_at hl 1 rfl) ?_
  refine mg_a FMod_93 27 ⟨rfl, by decide⟩ hx hb hts hown hW dMod_goTable_8 ?_
  refine lv_iload_n hx hb dMod_goTable_11 rfl (lv_at hl 2 rfl) ?_
  refine lv_aload_n hx hb dMod_goTable_12 rfl (lv_at hl 1 rfl) ?_
  refine lv_iload_n hx hb dMod_goTable_13 rfl (lv_at hl 3 rfl) ?_
  refine k_Vi (K := 9) (As := [.int t0]) (rest := [.int at0, .ref (o + 1 + 27)]) (c_MtableGoes l D AC o z tt σ t0 hO ht hE hbt) CMod_160 ⟨by decide, by decide, _, rfl, rfl⟩ hx hb hml hown hts hW hsM_k hl.1 rfl rfl (Nat.le_of_ble_eq_true rfl) ⟨⟨Nat.le_of_ble_eq_true rfl, Nat.le_of_ble_eq_true rfl⟩, ⟨Nat.le_of_ble_eq_true rfl, Nat.le_of_ble_eq_true rfl⟩⟩ dMod_goTable_14 (fun r_1 S_1 H locs e_1 hW _ _ => ?_)
  obtain ⟨e1_1, e2_1⟩ := e_1
  rw [e2_1] at hW
  rw [e1_1]
  have hO_2 : mOk (MtableGoes_S σ t0) := mOk_tableGoes hO ht
  refine m_is (j := 27) (v := (MtableGoes_R σ t0)) ⟨by decide, rfl⟩ hx hb hW (rg.in hat (by decide) (by decide)) dMod_goTable_17 (fun H locs hW => ?_)
  have hO_3 : mOk (sma (MtableGoes_S σ t0) 27 at0.toNatClampNeg (MtableGoes_R σ t0)) := mOk_w27 hO_2 (rg.wk (MtableGoes_rg hO ht) (by decide) (by decide))
  refine lv_iload_n hx hb dMod_goTable_18 rfl (lv_at hl 0 rfl) ?_
  refine lv_if_lt (tgt := 32) hx hb dMod_goTable_19 (by decide) (fun c_4 => ?_) (fun c_4 => ?_)
  · exact e_v hsz hx hb hr hlk hW mono_hsM (Nat.le_refl _) (Nat.le_refl _) dMod_goTable_32 (congrArg (hsM o z tt) (Eq.symm (by refine (if_pos c_4).trans ?_; rfl)))
  · refine lv_iload_n hx hb dMod_goTable_22 rfl (lv_at hl 0 rfl) ?_
    refine lv_aload_n hx hb dMod_goTable_23 rfl (lv_at hl 1 rfl) ?_
    refine mg_a FMod_54 14 ⟨rfl, by decide⟩ hx hb hts hown hW dMod_goTable_24 ?_
    refine lv_iload_n hx hb dMod_goTable_27 rfl (lv_at hl 3 rfl) ?_
    refine m_il (j := 14) (v := ma (MtableGoes_S σ t0) 14 t0.toNatClampNeg) ⟨by decide, rfl⟩ hx hb hW (rg.in ht (by decide) (by decide)) dMod_goTable_28 (ra_a (by decide)) ?_
    refine lv_icmp_lt (tgt := 33) hx hb dMod_goTable_29 (by decide) (fun c_5 => ?_) (fun c_5 => ?_)
    · refine lv_aload_n hx hb dMod_goTable_33 rfl (lv_at hl 1 rfl) ?_
      refine mg_a FMod_60 16 ⟨rfl, by decide⟩ hx hb hts hown hW dMod_goTable_34 ?_
      refine lv_bipush (v := (20 : Int32)) hx hb dMod_goTable_37 (by decide) ?_
      refine lv_iload_n hx hb dMod_goTable_39 rfl (lv_at hl 3 rfl) ?_
      refine lv_imul hx hb dMod_goTable_40 ?_
      refine lv_iload_n hx hb dMod_goTable_41 rfl (lv_at hl 0 rfl) ?_
      refine lv_iadd hx hb dMod_goTable_42 ?_
      refine m_il (j := 16) (v := ma (MtableGoes_S σ t0) 16 (((20 : Int32) * t0) + (ma σ 21 t0.toNatClampNeg)).toNatClampNeg) ⟨by decide, rfl⟩ hx hb hW (rg.in (rg.add (rg.m20 ht (by decide) (by decide)) (rg_lt (rg_nneg (hO.2.2.2.2.2.2.2.2.2.1 _) c_4) (hO_2.2.2.2.2.2.2.1 _) c_5) (by decide) (by decide)) (by decide) (by decide)) dMod_goTable_43 (ra_a (by decide)) ?_
      refine lv_istore (lv' := [(4, .int (ma (MtableGoes_S σ t0) 16 (((20 : Int32) * t0) + (ma σ 21 t0.toNatClampNeg)).toNatClampNeg)), (3, .int (ma σ 21 t0.toNatClampNeg)), (0, .ref o), (1, .int at0), (2, .int t0)]) hx hb dMod_goTable_44 hl (by decide) rfl (fun ls hl => ?_)
      refine lv_iload hx hb dMod_goTable_46 (lv_at hl 0 rfl) ?_
      refine lv_if_le (tgt := 57) hx hb dMod_goTable_48 (by decide) (fun c_6 => ?_) (fun c_6 => ?_)
      · refine lv_iload hx hb dMod_goTable_57 (lv_at hl 0 rfl) ?_
        refine lv_if_ge (tgt := 71) hx hb dMod_goTable_59 (by decide) (fun c_7 => ?_) (fun c_7 => ?_)
        · exact e_v hsz hx hb hr hlk hW mono_hsM (Nat.le_refl _) (Nat.le_refl _) dMod_goTable_71 (congrArg (hsM o z tt) (Eq.symm (by refine (if_neg c_4).trans ?_; refine (if_pos c_5).trans ?_; refine (if_pos c_6).trans ?_; refine (if_pos c_7).trans ?_; rfl)))
        · refine lv_aload_n hx hb dMod_goTable_62 rfl (lv_at hl 2 rfl) ?_
          refine mg_a FMod_39 9 ⟨rfl, by decide⟩ hx hb hts hown hW dMod_goTable_63 ?_
          refine lv_iload hx hb dMod_goTable_66 (lv_at hl 0 rfl) ?_
          refine lv_ineg hx hb dMod_goTable_68 ?_
          refine lv_iconst (v := (0 : Int32)) hx hb dMod_goTable_69 (by decide) ?_
          refine m_zs (j := 9) (v := (0 : Int32)) ⟨by decide, rfl⟩ hx hb hW (rg.in (rg.neg (rg_neg' (hO_2.2.2.2.2.2.2.2.1 _) c_7) (by decide) (by decide)) (by decide) (by decide)) (by decide) dMod_goTable_70 (fun H locs hW => ?_)
          exact e_v hsz hx hb hr hlk hW mono_hsM (Nat.le_refl _) (Nat.le_refl _) dMod_goTable_71 (congrArg (hsM o z tt) (Eq.symm (by refine (if_neg c_4).trans ?_; refine (if_pos c_5).trans ?_; refine (if_pos c_6).trans ?_; refine (if_neg c_7).trans ?_; rfl)))
      · refine lv_aload_n hx hb dMod_goTable_51 rfl (lv_at hl 2 rfl) ?_
        refine lv_iload hx hb dMod_goTable_52 (lv_at hl 0 rfl) ?_
        refine k_Vv (K := 9) (As := [.int (ma (MtableGoes_S σ t0) 16 (((20 : Int32) * t0) + (ma σ 21 t0.toNatClampNeg)).toNatClampNeg)]) (rest := []) (c_MbyAct l D AC o z tt (sma (MtableGoes_S σ t0) 27 at0.toNatClampNeg (MtableGoes_R σ t0)) (ma (MtableGoes_S σ t0) 16 (((20 : Int32) * t0) + (ma σ 21 t0.toNatClampNeg)).toNatClampNeg) (rg.wk (rg_pos2 (hO_2.2.2.2.2.2.2.2.1 _) c_6) (by decide) (by decide)) (MtableGoes_hd (σ := σ) (t0 := t0) hd)) CMod_164 ⟨by decide, by decide, _, rfl, rfl⟩ hx hb hml hown hts hW hsM_k hl.1 rfl rfl (Nat.le_of_ble_eq_true rfl) ⟨⟨Nat.le_of_ble_eq_true rfl, Nat.le_of_ble_eq_true rfl⟩, ⟨Nat.le_of_ble_eq_true rfl, Nat.le_of_ble_eq_true rfl⟩⟩ dMod_goTable_54 (fun S_8 H locs e_8 hW _ _ => ?_)
        rw [e_8] at hW
        have hO_9 : mOk (MbyAct_S (sma (MtableGoes_S σ t0) 27 at0.toNatClampNeg (MtableGoes_R σ t0)) (ma (MtableGoes_S σ t0) 16 (((20 : Int32) * t0) + (ma σ 21 t0.toNatClampNeg)).toNatClampNeg)) := mOk_byAct hO_3 (rg.wk (rg_pos2 (hO_2.2.2.2.2.2.2.2.1 _) c_6) (by decide) (by decide))
        refine lv_iload hx hb dMod_goTable_57 (lv_at hl 0 rfl) ?_
        refine lv_if_ge (tgt := 71) hx hb dMod_goTable_59 (by decide) (fun c_10 => ?_) (fun c_10 => ?_)
        · exact e_v hsz hx hb hr hlk hW mono_hsM (Nat.le_refl _) (Nat.le_refl _) dMod_goTable_71 (congrArg (hsM o z tt) (Eq.symm (by refine (if_neg c_4).trans ?_; refine (if_pos c_5).trans ?_; refine (if_neg c_6).trans ?_; rfl)))
        · exact absurd (Int32.le_of_lt (Int32.not_le.mp c_6)) c_10
    · exact e_v hsz hx hb hr hlk hW mono_hsM (Nat.le_refl _) (Nat.le_refl _) dMod_goTable_32 (congrArg (hsM o z tt) (Eq.symm (by refine (if_neg c_4).trans ?_; refine (if_neg c_5).trans ?_; rfl)))

theorem Mnote_hd {σ : MS} {k0 n0 c0 : Int32} {o0 : Int64} (h : rg 0 23 (mi σ 20)) : rg 0 23 (mi (Mnote_S σ k0 n0 o0 c0) 20) := by rw [Mnote_mi (by decide)]; exact h

def MgoAlarm_S (σ : MS) (a0 : Int32) : MS :=
  if (0 : Int64) < (ml (Mnote_S σ (0 : Int32) a0 (0 : Int64) (ma σ 6 a0.toNatClampNeg)) 11 a0.toNatClampNeg) then
    if (ma (Mnote_S σ (0 : Int32) a0 (0 : Int64) (ma σ 6 a0.toNatClampNeg)) 7 a0.toNatClampNeg) = (1 : Int32) then
      if (ma (MbyAct_S (sml (sma (Mnote_S σ (0 : Int32) a0 (0 : Int64) (ma σ 6 a0.toNatClampNeg)) 9 a0.toNatClampNeg (1 : Int32)) 10 a0.toNatClampNeg ((ml (Mnote_S σ (0 : Int32) a0 (0 : Int64) (ma σ 6 a0.toNatClampNeg)) 3 (ma σ 6 a0.toNatClampNeg).toNatClampNeg) + (ml (Mnote_S σ (0 : Int32) a0 (0 : Int64) (ma σ 6 a0.toNatClampNeg)) 11 a0.toNatClampNeg))) (ma (Mnote_S σ (0 : Int32) a0 (0 : Int64) (ma σ 6 a0.toNatClampNeg)) 8 a0.toNatClampNeg)) 7 a0.toNatClampNeg) = (2 : Int32) then
        (sma (MbyAct_S (sml (sma (Mnote_S σ (0 : Int32) a0 (0 : Int64) (ma σ 6 a0.toNatClampNeg)) 9 a0.toNatClampNeg (1 : Int32)) 10 a0.toNatClampNeg ((ml (Mnote_S σ (0 : Int32) a0 (0 : Int64) (ma σ 6 a0.toNatClampNeg)) 3 (ma σ 6 a0.toNatClampNeg).toNatClampNeg) + (ml (Mnote_S σ (0 : Int32) a0 (0 : Int64) (ma σ 6 a0.toNatClampNeg)) 11 a0.toNatClampNeg))) (ma (Mnote_S σ (0 : Int32) a0 (0 : Int64) (ma σ 6 a0.toNatClampNeg)) 8 a0.toNatClampNeg)) 9 (ma (MbyAct_S (sml (sma (Mnote_S σ (0 : Int32) a0 (0 : Int64) (ma σ 6 a0.toNatClampNeg)) 9 a0.toNatClampNeg (1 : Int32)) 10 a0.toNatClampNeg ((ml (Mnote_S σ (0 : Int32) a0 (0 : Int64) (ma σ 6 a0.toNatClampNeg)) 3 (ma σ 6 a0.toNatClampNeg).toNatClampNeg) + (ml (Mnote_S σ (0 : Int32) a0 (0 : Int64) (ma σ 6 a0.toNatClampNeg)) 11 a0.toNatClampNeg))) (ma (Mnote_S σ (0 : Int32) a0 (0 : Int64) (ma σ 6 a0.toNatClampNeg)) 8 a0.toNatClampNeg)) 8 a0.toNatClampNeg).toNatClampNeg (0 : Int32))
      else
        (MbyAct_S (sml (sma (Mnote_S σ (0 : Int32) a0 (0 : Int64) (ma σ 6 a0.toNatClampNeg)) 9 a0.toNatClampNeg (1 : Int32)) 10 a0.toNatClampNeg ((ml (Mnote_S σ (0 : Int32) a0 (0 : Int64) (ma σ 6 a0.toNatClampNeg)) 3 (ma σ 6 a0.toNatClampNeg).toNatClampNeg) + (ml (Mnote_S σ (0 : Int32) a0 (0 : Int64) (ma σ 6 a0.toNatClampNeg)) 11 a0.toNatClampNeg))) (ma (Mnote_S σ (0 : Int32) a0 (0 : Int64) (ma σ 6 a0.toNatClampNeg)) 8 a0.toNatClampNeg))
    else
      if (ma (Mnote_S σ (0 : Int32) a0 (0 : Int64) (ma σ 6 a0.toNatClampNeg)) 7 a0.toNatClampNeg) = (2 : Int32) then
        (sma (sml (sma (Mnote_S σ (0 : Int32) a0 (0 : Int64) (ma σ 6 a0.toNatClampNeg)) 9 a0.toNatClampNeg (1 : Int32)) 10 a0.toNatClampNeg ((ml (Mnote_S σ (0 : Int32) a0 (0 : Int64) (ma σ 6 a0.toNatClampNeg)) 3 (ma σ 6 a0.toNatClampNeg).toNatClampNeg) + (ml (Mnote_S σ (0 : Int32) a0 (0 : Int64) (ma σ 6 a0.toNatClampNeg)) 11 a0.toNatClampNeg))) 9 (ma (Mnote_S σ (0 : Int32) a0 (0 : Int64) (ma σ 6 a0.toNatClampNeg)) 8 a0.toNatClampNeg).toNatClampNeg (0 : Int32))
      else
        (sml (sma (Mnote_S σ (0 : Int32) a0 (0 : Int64) (ma σ 6 a0.toNatClampNeg)) 9 a0.toNatClampNeg (1 : Int32)) 10 a0.toNatClampNeg ((ml (Mnote_S σ (0 : Int32) a0 (0 : Int64) (ma σ 6 a0.toNatClampNeg)) 3 (ma σ 6 a0.toNatClampNeg).toNatClampNeg) + (ml (Mnote_S σ (0 : Int32) a0 (0 : Int64) (ma σ 6 a0.toNatClampNeg)) 11 a0.toNatClampNeg)))
  else
    if (ma (Mnote_S σ (0 : Int32) a0 (0 : Int64) (ma σ 6 a0.toNatClampNeg)) 7 a0.toNatClampNeg) = (1 : Int32) then
      if (ma (MbyAct_S (sml (sma (Mnote_S σ (0 : Int32) a0 (0 : Int64) (ma σ 6 a0.toNatClampNeg)) 9 a0.toNatClampNeg (0 : Int32)) 10 a0.toNatClampNeg ((ml (Mnote_S σ (0 : Int32) a0 (0 : Int64) (ma σ 6 a0.toNatClampNeg)) 3 (ma σ 6 a0.toNatClampNeg).toNatClampNeg) + (ml (Mnote_S σ (0 : Int32) a0 (0 : Int64) (ma σ 6 a0.toNatClampNeg)) 11 a0.toNatClampNeg))) (ma (Mnote_S σ (0 : Int32) a0 (0 : Int64) (ma σ 6 a0.toNatClampNeg)) 8 a0.toNatClampNeg)) 7 a0.toNatClampNeg) = (2 : Int32) then
        (sma (MbyAct_S (sml (sma (Mnote_S σ (0 : Int32) a0 (0 : Int64) (ma σ 6 a0.toNatClampNeg)) 9 a0.toNatClampNeg (0 : Int32)) 10 a0.toNatClampNeg ((ml (Mnote_S σ (0 : Int32) a0 (0 : Int64) (ma σ 6 a0.toNatClampNeg)) 3 (ma σ 6 a0.toNatClampNeg).toNatClampNeg) + (ml (Mnote_S σ (0 : Int32) a0 (0 : Int64) (ma σ 6 a0.toNatClampNeg)) 11 a0.toNatClampNeg))) (ma (Mnote_S σ (0 : Int32) a0 (0 : Int64) (ma σ 6 a0.toNatClampNeg)) 8 a0.toNatClampNeg)) 9 (ma (MbyAct_S (sml (sma (Mnote_S σ (0 : Int32) a0 (0 : Int64) (ma σ 6 a0.toNatClampNeg)) 9 a0.toNatClampNeg (0 : Int32)) 10 a0.toNatClampNeg ((ml (Mnote_S σ (0 : Int32) a0 (0 : Int64) (ma σ 6 a0.toNatClampNeg)) 3 (ma σ 6 a0.toNatClampNeg).toNatClampNeg) + (ml (Mnote_S σ (0 : Int32) a0 (0 : Int64) (ma σ 6 a0.toNatClampNeg)) 11 a0.toNatClampNeg))) (ma (Mnote_S σ (0 : Int32) a0 (0 : Int64) (ma σ 6 a0.toNatClampNeg)) 8 a0.toNatClampNeg)) 8 a0.toNatClampNeg).toNatClampNeg (0 : Int32))
      else
        (MbyAct_S (sml (sma (Mnote_S σ (0 : Int32) a0 (0 : Int64) (ma σ 6 a0.toNatClampNeg)) 9 a0.toNatClampNeg (0 : Int32)) 10 a0.toNatClampNeg ((ml (Mnote_S σ (0 : Int32) a0 (0 : Int64) (ma σ 6 a0.toNatClampNeg)) 3 (ma σ 6 a0.toNatClampNeg).toNatClampNeg) + (ml (Mnote_S σ (0 : Int32) a0 (0 : Int64) (ma σ 6 a0.toNatClampNeg)) 11 a0.toNatClampNeg))) (ma (Mnote_S σ (0 : Int32) a0 (0 : Int64) (ma σ 6 a0.toNatClampNeg)) 8 a0.toNatClampNeg))
    else
      if (ma (Mnote_S σ (0 : Int32) a0 (0 : Int64) (ma σ 6 a0.toNatClampNeg)) 7 a0.toNatClampNeg) = (2 : Int32) then
        (sma (sml (sma (Mnote_S σ (0 : Int32) a0 (0 : Int64) (ma σ 6 a0.toNatClampNeg)) 9 a0.toNatClampNeg (0 : Int32)) 10 a0.toNatClampNeg ((ml (Mnote_S σ (0 : Int32) a0 (0 : Int64) (ma σ 6 a0.toNatClampNeg)) 3 (ma σ 6 a0.toNatClampNeg).toNatClampNeg) + (ml (Mnote_S σ (0 : Int32) a0 (0 : Int64) (ma σ 6 a0.toNatClampNeg)) 11 a0.toNatClampNeg))) 9 (ma (Mnote_S σ (0 : Int32) a0 (0 : Int64) (ma σ 6 a0.toNatClampNeg)) 8 a0.toNatClampNeg).toNatClampNeg (0 : Int32))
      else
        (sml (sma (Mnote_S σ (0 : Int32) a0 (0 : Int64) (ma σ 6 a0.toNatClampNeg)) 9 a0.toNatClampNeg (0 : Int32)) 10 a0.toNatClampNeg ((ml (Mnote_S σ (0 : Int32) a0 (0 : Int64) (ma σ 6 a0.toNatClampNeg)) 3 (ma σ 6 a0.toNatClampNeg).toNatClampNeg) + (ml (Mnote_S σ (0 : Int32) a0 (0 : Int64) (ma σ 6 a0.toNatClampNeg)) 11 a0.toNatClampNeg)))
set_option maxRecDepth 20000 in
set_option maxHeartbeats 2000000 in
theorem c_MgoAlarm (l : Launch) (D : va_G) (AC : Nat → ClassId) (o z tt : Nat) (σ : MS) (a0 : Int32) (hO : mOk σ) (ha : rg 1 100 a0) (hof : ma σ 7 a0.toNatClampNeg = 1 → rg 0 20 (ma σ 8 a0.toNatClampNeg)) (hE : ¬ mi σ 18 < 0) (hba : ¬ ml σ 0 (ma σ 6 a0.toNatClampNeg).toNatClampNeg = 0) (hd : rg 0 23 (mi σ 20)) : CtV l yMod_goAlarm (Cond.code yMod_goAlarm cMod_goAlarm 3 none :: wT) 2 60 D AC (hsM o z tt σ) [.ref o, .int a0] 0 0 (fun S' => S' = hsM o z tt (MgoAlarm_S σ a0)) := by
  refine met_of (by decide) (Nat.le_of_ble_eq_true rfl) ?_
  intro p e s m below meth c ls hsz X hW hl
  obtain ⟨hx, hb, hml, hr, hlk, hown, hnm, hts⟩ := X
  have hl : lv_has ls 3 [(0, .ref o), (1, .int a0)] := hl
  refine lv_aload_n hx hb dMod_goAlarm_0 rfl (lv_at hl 0 rfl) ?_
  refine mg_a FMod_29 6 ⟨rfl, by decide⟩ hx hb hts hown hW dMod_goAlarm_1 ?_
  refine lv_iload_n hx hb dMod_goAlarm_4 rfl (lv_at hl 1 rfl) ?_
  refine m_il (j := 6) (v := ma σ 6 a0.toNatClampNeg) ⟨by decide, rfl⟩ hx hb hW (rg.in ha (by decide) (by decide)) dMod_goAlarm_5 rfl ?_
  refine lv_istore_n (i := 2) (lv' := [(2, .int (ma σ 6 a0.toNatClampNeg)), (0, .ref o), (1, .int a0)]) hx hb dMod_goAlarm_6 rfl hl (by decide) rfl (fun ls hl => ?_)
  refine lv_aload_n hx hb dMod_goAlarm_7 rfl (lv_at hl 1 rfl) ?_
  refine lv_iconst (v := (0 : Int32)) hx hb dMod_goAlarm_8 (by decide) ?_
  refine lv_iload_n hx hb dMod_goAlarm_9 rfl (lv_at hl 2 rfl) ?_
  refine lv_lconst (v := (0 : Int64)) hx hb dMod_goAlarm_10 (by decide) ?_
  refine lv_iload_n hx hb dMod_goAlarm_11 rfl (lv_at hl 0 rfl) ?_
  refine k_Vv (K := 9) (As := [.int (0 : Int32), .int a0, .long (0 : Int64), .int (ma σ 6 a0.toNatClampNeg)]) (rest := []) (c_Mnote l D AC o z tt σ (0 : Int32) a0 (0 : Int64) (ma σ 6 a0.toNatClampNeg) hE (hO.2.2.2.1 _) hba) CMod_156 ⟨by decide, by decide, _, rfl, rfl⟩ hx hb hml hown hts hW hsM_k hl.1 rfl rfl (Nat.le_of_ble_eq_true rfl) ⟨⟨Nat.le_of_ble_eq_true rfl, Nat.le_of_ble_eq_true rfl⟩, ⟨Nat.le_of_ble_eq_true rfl, Nat.le_of_ble_eq_true rfl⟩⟩ dMod_goAlarm_12 (fun S_1 H locs e_1 hW _ _ => ?_)
  rw [e_1] at hW
  have hO_2 : mOk (Mnote_S σ (0 : Int32) a0 (0 : Int64) (ma σ 6 a0.toNatClampNeg)) := mOk_note hO
  refine lv_aload_n hx hb dMod_goAlarm_15 rfl (lv_at hl 1 rfl) ?_
  refine mg_a FMod_39 9 ⟨rfl, by decide⟩ hx hb hts hown hW dMod_goAlarm_16 ?_
  refine lv_iload_n hx hb dMod_goAlarm_19 rfl (lv_at hl 2 rfl) ?_
  refine lv_aload_n hx hb dMod_goAlarm_20 rfl (lv_at hl 1 rfl) ?_
  refine mg_a FMod_45 11 ⟨rfl, by decide⟩ hx hb hts hown hW dMod_goAlarm_21 ?_
  refine lv_iload_n hx hb dMod_goAlarm_24 rfl (lv_at hl 2 rfl) ?_
  refine m_ll (j := 11) (v := ml (Mnote_S σ (0 : Int32) a0 (0 : Int64) (ma σ 6 a0.toNatClampNeg)) 11 a0.toNatClampNeg) ⟨by decide, rfl⟩ hx hb hW (rg.in ha (by decide) (by decide)) dMod_goAlarm_25 rfl ?_
  refine lv_lconst (v := (0 : Int64)) hx hb dMod_goAlarm_26 (by decide) ?_
  refine ll_le (tgt := 35) hx hb dMod_goAlarm_27 dMod_goAlarm_28 (by decide) (fun c_3 => ?_) (fun c_3 => ?_)
  · refine lv_iconst (v := (0 : Int32)) hx hb dMod_goAlarm_35 (by decide) ?_
    refine m_zs (j := 9) (v := (0 : Int32)) ⟨by decide, rfl⟩ hx hb hW (rg.in ha (by decide) (by decide)) (by decide) dMod_goAlarm_36 (fun H locs hW => ?_)
    refine lv_aload_n hx hb dMod_goAlarm_37 rfl (lv_at hl 1 rfl) ?_
    refine mg_a FMod_42 10 ⟨rfl, by decide⟩ hx hb hts hown hW dMod_goAlarm_38 ?_
    refine lv_iload_n hx hb dMod_goAlarm_41 rfl (lv_at hl 2 rfl) ?_
    refine lv_aload_n hx hb dMod_goAlarm_42 rfl (lv_at hl 1 rfl) ?_
    refine mg_a FMod_19 3 ⟨rfl, by decide⟩ hx hb hts hown hW dMod_goAlarm_43 ?_
    refine lv_iload_n hx hb dMod_goAlarm_46 rfl (lv_at hl 0 rfl) ?_
    refine m_ll (j := 3) (v := ml (Mnote_S σ (0 : Int32) a0 (0 : Int64) (ma σ 6 a0.toNatClampNeg)) 3 (ma σ 6 a0.toNatClampNeg).toNatClampNeg) ⟨by decide, rfl⟩ hx hb hW (rg.in (hO.2.2.2.1 _) (by decide) (by decide)) dMod_goAlarm_47 (rl_a) ?_
    refine lv_aload_n hx hb dMod_goAlarm_48 rfl (lv_at hl 1 rfl) ?_
    refine mg_a FMod_45 11 ⟨rfl, by decide⟩ hx hb hts hown hW dMod_goAlarm_49 ?_
    refine lv_iload_n hx hb dMod_goAlarm_52 rfl (lv_at hl 2 rfl) ?_
    refine m_ll (j := 11) (v := ml (Mnote_S σ (0 : Int32) a0 (0 : Int64) (ma σ 6 a0.toNatClampNeg)) 11 a0.toNatClampNeg) ⟨by decide, rfl⟩ hx hb hW (rg.in ha (by decide) (by decide)) dMod_goAlarm_53 (rl_a) ?_
    refine lv_ladd hx hb dMod_goAlarm_54 ?_
    refine m_ls (j := 10) (v := ((ml (Mnote_S σ (0 : Int32) a0 (0 : Int64) (ma σ 6 a0.toNatClampNeg)) 3 (ma σ 6 a0.toNatClampNeg).toNatClampNeg) + (ml (Mnote_S σ (0 : Int32) a0 (0 : Int64) (ma σ 6 a0.toNatClampNeg)) 11 a0.toNatClampNeg))) ⟨by decide, rfl⟩ hx hb hW (rg.in ha (by decide) (by decide)) dMod_goAlarm_55 (fun H locs hW => ?_)
    refine lv_aload_n hx hb dMod_goAlarm_56 rfl (lv_at hl 1 rfl) ?_
    refine mg_a FMod_33 7 ⟨rfl, by decide⟩ hx hb hts hown hW dMod_goAlarm_57 ?_
    refine lv_iload_n hx hb dMod_goAlarm_60 rfl (lv_at hl 2 rfl) ?_
    refine m_il (j := 7) (v := ma (Mnote_S σ (0 : Int32) a0 (0 : Int64) (ma σ 6 a0.toNatClampNeg)) 7 a0.toNatClampNeg) ⟨by decide, rfl⟩ hx hb hW (rg.in ha (by decide) (by decide)) dMod_goAlarm_61 ((ra_l).trans (ra_a (by decide))) ?_
    refine lv_iconst (v := (1 : Int32)) hx hb dMod_goAlarm_62 (by decide) ?_
    refine lv_icmp_ne (tgt := 76) hx hb dMod_goAlarm_63 (by decide) (fun c_4 => ?_) (fun c_4 => ?_)
    · refine lv_aload_n hx hb dMod_goAlarm_76 rfl (lv_at hl 1 rfl) ?_
      refine mg_a FMod_33 7 ⟨rfl, by decide⟩ hx hb hts hown hW dMod_goAlarm_77 ?_
      refine lv_iload_n hx hb dMod_goAlarm_80 rfl (lv_at hl 2 rfl) ?_
      refine m_il (j := 7) (v := ma (Mnote_S σ (0 : Int32) a0 (0 : Int64) (ma σ 6 a0.toNatClampNeg)) 7 a0.toNatClampNeg) ⟨by decide, rfl⟩ hx hb hW (rg.in ha (by decide) (by decide)) dMod_goAlarm_81 ((ra_l).trans (ra_a (by decide))) ?_
      refine lv_iconst (v := (2 : Int32)) hx hb dMod_goAlarm_82 (by decide) ?_
      refine lv_icmp_ne (tgt := 98) hx hb dMod_goAlarm_83 (by decide) (fun c_5 => ?_) (fun c_5 => ?_)
      · exact e_v hsz hx hb hr hlk hW mono_hsM (Nat.le_refl _) (Nat.le_refl _) dMod_goAlarm_98 (congrArg (hsM o z tt) (Eq.symm (by refine (if_neg c_3).trans ?_; refine (if_neg c_4).trans ?_; refine (if_neg c_5).trans ?_; rfl)))
      · refine lv_aload_n hx hb dMod_goAlarm_86 rfl (lv_at hl 1 rfl) ?_
        refine mg_a FMod_39 9 ⟨rfl, by decide⟩ hx hb hts hown hW dMod_goAlarm_87 ?_
        refine lv_aload_n hx hb dMod_goAlarm_90 rfl (lv_at hl 1 rfl) ?_
        refine mg_a FMod_36 8 ⟨rfl, by decide⟩ hx hb hts hown hW dMod_goAlarm_91 ?_
        refine lv_iload_n hx hb dMod_goAlarm_94 rfl (lv_at hl 2 rfl) ?_
        refine m_il (j := 8) (v := ma (Mnote_S σ (0 : Int32) a0 (0 : Int64) (ma σ 6 a0.toNatClampNeg)) 8 a0.toNatClampNeg) ⟨by decide, rfl⟩ hx hb hW (rg.in ha (by decide) (by decide)) dMod_goAlarm_95 ((ra_l).trans (ra_a (by decide))) ?_
        refine lv_iconst (v := (0 : Int32)) hx hb dMod_goAlarm_96 (by decide) ?_
        refine m_zs (j := 9) (v := (0 : Int32)) ⟨by decide, rfl⟩ hx hb hW (rg.in (hO_2.2.2.2.2.1 _) (by decide) (by decide)) (by decide) dMod_goAlarm_97 (fun H locs hW => ?_)
        exact e_v hsz hx hb hr hlk hW mono_hsM (Nat.le_refl _) (Nat.le_refl _) dMod_goAlarm_98 (congrArg (hsM o z tt) (Eq.symm (by refine (if_neg c_3).trans ?_; refine (if_neg c_4).trans ?_; refine (if_pos c_5).trans ?_; rfl)))
    · refine lv_aload_n hx hb dMod_goAlarm_66 rfl (lv_at hl 1 rfl) ?_
      refine lv_aload_n hx hb dMod_goAlarm_67 rfl (lv_at hl 1 rfl) ?_
      refine mg_a FMod_36 8 ⟨rfl, by decide⟩ hx hb hts hown hW dMod_goAlarm_68 ?_
      refine lv_iload_n hx hb dMod_goAlarm_71 rfl (lv_at hl 2 rfl) ?_
      refine m_il (j := 8) (v := ma (Mnote_S σ (0 : Int32) a0 (0 : Int64) (ma σ 6 a0.toNatClampNeg)) 8 a0.toNatClampNeg) ⟨by decide, rfl⟩ hx hb hW (rg.in ha (by decide) (by decide)) dMod_goAlarm_72 ((ra_l).trans (ra_a (by decide))) ?_
      refine k_Vv (K := 9) (As := [.int (ma (Mnote_S σ (0 : Int32) a0 (0 : Int64) (ma σ 6 a0.toNatClampNeg)) 8 a0.toNatClampNeg)]) (rest := []) (c_MbyAct l D AC o z tt (sml (sma (Mnote_S σ (0 : Int32) a0 (0 : Int64) (ma σ 6 a0.toNatClampNeg)) 9 a0.toNatClampNeg (0 : Int32)) 10 a0.toNatClampNeg ((ml (Mnote_S σ (0 : Int32) a0 (0 : Int64) (ma σ 6 a0.toNatClampNeg)) 3 (ma σ 6 a0.toNatClampNeg).toNatClampNeg) + (ml (Mnote_S σ (0 : Int32) a0 (0 : Int64) (ma σ 6 a0.toNatClampNeg)) 11 a0.toNatClampNeg))) (ma (Mnote_S σ (0 : Int32) a0 (0 : Int64) (ma σ 6 a0.toNatClampNeg)) 8 a0.toNatClampNeg) (Mnote_of hof c_4) (Mnote_hd (σ := σ) hd)) CMod_164 ⟨by decide, by decide, _, rfl, rfl⟩ hx hb hml hown hts hW hsM_k hl.1 rfl rfl (Nat.le_of_ble_eq_true rfl) ⟨⟨Nat.le_of_ble_eq_true rfl, Nat.le_of_ble_eq_true rfl⟩, ⟨Nat.le_of_ble_eq_true rfl, Nat.le_of_ble_eq_true rfl⟩⟩ dMod_goAlarm_73 (fun S_6 H locs e_6 hW _ _ => ?_)
      rw [e_6] at hW
      have hO_7 : mOk (MbyAct_S (sml (sma (Mnote_S σ (0 : Int32) a0 (0 : Int64) (ma σ 6 a0.toNatClampNeg)) 9 a0.toNatClampNeg (0 : Int32)) 10 a0.toNatClampNeg ((ml (Mnote_S σ (0 : Int32) a0 (0 : Int64) (ma σ 6 a0.toNatClampNeg)) 3 (ma σ 6 a0.toNatClampNeg).toNatClampNeg) + (ml (Mnote_S σ (0 : Int32) a0 (0 : Int64) (ma σ 6 a0.toNatClampNeg)) 11 a0.toNatClampNeg))) (ma (Mnote_S σ (0 : Int32) a0 (0 : Int64) (ma σ 6 a0.toNatClampNeg)) 8 a0.toNatClampNeg)) := mOk_byAct hO_2 (Mnote_of hof c_4)
      refine lv_aload_n hx hb dMod_goAlarm_76 rfl (lv_at hl 1 rfl) ?_
      refine mg_a FMod_33 7 ⟨rfl, by decide⟩ hx hb hts hown hW dMod_goAlarm_77 ?_
      refine lv_iload_n hx hb dMod_goAlarm_80 rfl (lv_at hl 2 rfl) ?_
      refine m_il (j := 7) (v := ma (MbyAct_S (sml (sma (Mnote_S σ (0 : Int32) a0 (0 : Int64) (ma σ 6 a0.toNatClampNeg)) 9 a0.toNatClampNeg (0 : Int32)) 10 a0.toNatClampNeg ((ml (Mnote_S σ (0 : Int32) a0 (0 : Int64) (ma σ 6 a0.toNatClampNeg)) 3 (ma σ 6 a0.toNatClampNeg).toNatClampNeg) + (ml (Mnote_S σ (0 : Int32) a0 (0 : Int64) (ma σ 6 a0.toNatClampNeg)) 11 a0.toNatClampNeg))) (ma (Mnote_S σ (0 : Int32) a0 (0 : Int64) (ma σ 6 a0.toNatClampNeg)) 8 a0.toNatClampNeg)) 7 a0.toNatClampNeg) ⟨by decide, rfl⟩ hx hb hW (rg.in ha (by decide) (by decide)) dMod_goAlarm_81 rfl ?_
      refine lv_iconst (v := (2 : Int32)) hx hb dMod_goAlarm_82 (by decide) ?_
      refine lv_icmp_ne (tgt := 98) hx hb dMod_goAlarm_83 (by decide) (fun c_8 => ?_) (fun c_8 => ?_)
      · exact e_v hsz hx hb hr hlk hW mono_hsM (Nat.le_refl _) (Nat.le_refl _) dMod_goAlarm_98 (congrArg (hsM o z tt) (Eq.symm (by refine (if_neg c_3).trans ?_; refine (if_pos c_4).trans ?_; refine (if_neg c_8).trans ?_; rfl)))
      · refine lv_aload_n hx hb dMod_goAlarm_86 rfl (lv_at hl 1 rfl) ?_
        refine mg_a FMod_39 9 ⟨rfl, by decide⟩ hx hb hts hown hW dMod_goAlarm_87 ?_
        refine lv_aload_n hx hb dMod_goAlarm_90 rfl (lv_at hl 1 rfl) ?_
        refine mg_a FMod_36 8 ⟨rfl, by decide⟩ hx hb hts hown hW dMod_goAlarm_91 ?_
        refine lv_iload_n hx hb dMod_goAlarm_94 rfl (lv_at hl 2 rfl) ?_
        refine m_il (j := 8) (v := ma (MbyAct_S (sml (sma (Mnote_S σ (0 : Int32) a0 (0 : Int64) (ma σ 6 a0.toNatClampNeg)) 9 a0.toNatClampNeg (0 : Int32)) 10 a0.toNatClampNeg ((ml (Mnote_S σ (0 : Int32) a0 (0 : Int64) (ma σ 6 a0.toNatClampNeg)) 3 (ma σ 6 a0.toNatClampNeg).toNatClampNeg) + (ml (Mnote_S σ (0 : Int32) a0 (0 : Int64) (ma σ 6 a0.toNatClampNeg)) 11 a0.toNatClampNeg))) (ma (Mnote_S σ (0 : Int32) a0 (0 : Int64) (ma σ 6 a0.toNatClampNeg)) 8 a0.toNatClampNeg)) 8 a0.toNatClampNeg) ⟨by decide, rfl⟩ hx hb hW (rg.in ha (by decide) (by decide)) dMod_goAlarm_95 rfl ?_
        refine lv_iconst (v := (0 : Int32)) hx hb dMod_goAlarm_96 (by decide) ?_
        refine m_zs (j := 9) (v := (0 : Int32)) ⟨by decide, rfl⟩ hx hb hW (rg.in (hO_7.2.2.2.2.1 _) (by decide) (by decide)) (by decide) dMod_goAlarm_97 (fun H locs hW => ?_)
        exact e_v hsz hx hb hr hlk hW mono_hsM (Nat.le_refl _) (Nat.le_refl _) dMod_goAlarm_98 (congrArg (hsM o z tt) (Eq.symm (by refine (if_neg c_3).trans ?_; refine (if_pos c_4).trans ?_; refine (if_pos c_8).trans ?_; rfl)))
  · refine lv_iconst (v := (1 : Int32)) hx hb dMod_goAlarm_31 (by decide) ?_
    refine lv_goto (tgt := 36) hx hb dMod_goAlarm_32 (by decide) ?_
    refine m_zs (j := 9) (v := (1 : Int32)) ⟨by decide, rfl⟩ hx hb hW (rg.in ha (by decide) (by decide)) (by decide) dMod_goAlarm_36 (fun H locs hW => ?_)
    refine lv_aload_n hx hb dMod_goAlarm_37 rfl (lv_at hl 1 rfl) ?_
    refine mg_a FMod_42 10 ⟨rfl, by decide⟩ hx hb hts hown hW dMod_goAlarm_38 ?_
    refine lv_iload_n hx hb dMod_goAlarm_41 rfl (lv_at hl 2 rfl) ?_
    refine lv_aload_n hx hb dMod_goAlarm_42 rfl (lv_at hl 1 rfl) ?_
    refine mg_a FMod_19 3 ⟨rfl, by decide⟩ hx hb hts hown hW dMod_goAlarm_43 ?_
    refine lv_iload_n hx hb dMod_goAlarm_46 rfl (lv_at hl 0 rfl) ?_
    refine m_ll (j := 3) (v := ml (Mnote_S σ (0 : Int32) a0 (0 : Int64) (ma σ 6 a0.toNatClampNeg)) 3 (ma σ 6 a0.toNatClampNeg).toNatClampNeg) ⟨by decide, rfl⟩ hx hb hW (rg.in (hO.2.2.2.1 _) (by decide) (by decide)) dMod_goAlarm_47 (rl_a) ?_
    refine lv_aload_n hx hb dMod_goAlarm_48 rfl (lv_at hl 1 rfl) ?_
    refine mg_a FMod_45 11 ⟨rfl, by decide⟩ hx hb hts hown hW dMod_goAlarm_49 ?_
    refine lv_iload_n hx hb dMod_goAlarm_52 rfl (lv_at hl 2 rfl) ?_
    refine m_ll (j := 11) (v := ml (Mnote_S σ (0 : Int32) a0 (0 : Int64) (ma σ 6 a0.toNatClampNeg)) 11 a0.toNatClampNeg) ⟨by decide, rfl⟩ hx hb hW (rg.in ha (by decide) (by decide)) dMod_goAlarm_53 (rl_a) ?_
    refine lv_ladd hx hb dMod_goAlarm_54 ?_
    refine m_ls (j := 10) (v := ((ml (Mnote_S σ (0 : Int32) a0 (0 : Int64) (ma σ 6 a0.toNatClampNeg)) 3 (ma σ 6 a0.toNatClampNeg).toNatClampNeg) + (ml (Mnote_S σ (0 : Int32) a0 (0 : Int64) (ma σ 6 a0.toNatClampNeg)) 11 a0.toNatClampNeg))) ⟨by decide, rfl⟩ hx hb hW (rg.in ha (by decide) (by decide)) dMod_goAlarm_55 (fun H locs hW => ?_)
    refine lv_aload_n hx hb dMod_goAlarm_56 rfl (lv_at hl 1 rfl) ?_
    refine mg_a FMod_33 7 ⟨rfl, by decide⟩ hx hb hts hown hW dMod_goAlarm_57 ?_
    refine lv_iload_n hx hb dMod_goAlarm_60 rfl (lv_at hl 2 rfl) ?_
    refine m_il (j := 7) (v := ma (Mnote_S σ (0 : Int32) a0 (0 : Int64) (ma σ 6 a0.toNatClampNeg)) 7 a0.toNatClampNeg) ⟨by decide, rfl⟩ hx hb hW (rg.in ha (by decide) (by decide)) dMod_goAlarm_61 ((ra_l).trans (ra_a (by decide))) ?_
    refine lv_iconst (v := (1 : Int32)) hx hb dMod_goAlarm_62 (by decide) ?_
    refine lv_icmp_ne (tgt := 76) hx hb dMod_goAlarm_63 (by decide) (fun c_9 => ?_) (fun c_9 => ?_)
    · refine lv_aload_n hx hb dMod_goAlarm_76 rfl (lv_at hl 1 rfl) ?_
      refine mg_a FMod_33 7 ⟨rfl, by decide⟩ hx hb hts hown hW dMod_goAlarm_77 ?_
      refine lv_iload_n hx hb dMod_goAlarm_80 rfl (lv_at hl 2 rfl) ?_
      refine m_il (j := 7) (v := ma (Mnote_S σ (0 : Int32) a0 (0 : Int64) (ma σ 6 a0.toNatClampNeg)) 7 a0.toNatClampNeg) ⟨by decide, rfl⟩ hx hb hW (rg.in ha (by decide) (by decide)) dMod_goAlarm_81 ((ra_l).trans (ra_a (by decide))) ?_
      refine lv_iconst (v := (2 : Int32)) hx hb dMod_goAlarm_82 (by decide) ?_
      refine lv_icmp_ne (tgt := 98) hx hb dMod_goAlarm_83 (by decide) (fun c_10 => ?_) (fun c_10 => ?_)
      · exact e_v hsz hx hb hr hlk hW mono_hsM (Nat.le_refl _) (Nat.le_refl _) dMod_goAlarm_98 (congrArg (hsM o z tt) (Eq.symm (by refine (if_pos c_3).trans ?_; refine (if_neg c_9).trans ?_; refine (if_neg c_10).trans ?_; rfl)))
      · refine lv_aload_n hx hb dMod_goAlarm_86 rfl (lv_at hl 1 rfl) ?_
        refine mg_a FMod_39 9 ⟨rfl, by decide⟩ hx hb hts hown hW dMod_goAlarm_87 ?_
        refine lv_aload_n hx hb dMod_goAlarm_90 rfl (lv_at hl 1 rfl) ?_
        refine mg_a FMod_36 8 ⟨rfl, by decide⟩ hx hb hts hown hW dMod_goAlarm_91 ?_
        refine lv_iload_n hx hb dMod_goAlarm_94 rfl (lv_at hl 2 rfl) ?_
        refine m_il (j := 8) (v := ma (Mnote_S σ (0 : Int32) a0 (0 : Int64) (ma σ 6 a0.toNatClampNeg)) 8 a0.toNatClampNeg) ⟨by decide, rfl⟩ hx hb hW (rg.in ha (by decide) (by decide)) dMod_goAlarm_95 ((ra_l).trans (ra_a (by decide))) ?_
        refine lv_iconst (v := (0 : Int32)) hx hb dMod_goAlarm_96 (by decide) ?_
        refine m_zs (j := 9) (v := (0 : Int32)) ⟨by decide, rfl⟩ hx hb hW (rg.in (hO_2.2.2.2.2.1 _) (by decide) (by decide)) (by decide) dMod_goAlarm_97 (fun H locs hW => ?_)
        exact e_v hsz hx hb hr hlk hW mono_hsM (Nat.le_refl _) (Nat.le_refl _) dMod_goAlarm_98 (congrArg (hsM o z tt) (Eq.symm (by refine (if_pos c_3).trans ?_; refine (if_neg c_9).trans ?_; refine (if_pos c_10).trans ?_; rfl)))
    · refine lv_aload_n hx hb dMod_goAlarm_66 rfl (lv_at hl 1 rfl) ?_
      refine lv_aload_n hx hb dMod_goAlarm_67 rfl (lv_at hl 1 rfl) ?_
      refine mg_a FMod_36 8 ⟨rfl, by decide⟩ hx hb hts hown hW dMod_goAlarm_68 ?_
      refine lv_iload_n hx hb dMod_goAlarm_71 rfl (lv_at hl 2 rfl) ?_
      refine m_il (j := 8) (v := ma (Mnote_S σ (0 : Int32) a0 (0 : Int64) (ma σ 6 a0.toNatClampNeg)) 8 a0.toNatClampNeg) ⟨by decide, rfl⟩ hx hb hW (rg.in ha (by decide) (by decide)) dMod_goAlarm_72 ((ra_l).trans (ra_a (by decide))) ?_
      refine k_Vv (K := 9) (As := [.int (ma (Mnote_S σ (0 : Int32) a0 (0 : Int64) (ma σ 6 a0.toNatClampNeg)) 8 a0.toNatClampNeg)]) (rest := []) (c_MbyAct l D AC o z tt (sml (sma (Mnote_S σ (0 : Int32) a0 (0 : Int64) (ma σ 6 a0.toNatClampNeg)) 9 a0.toNatClampNeg (1 : Int32)) 10 a0.toNatClampNeg ((ml (Mnote_S σ (0 : Int32) a0 (0 : Int64) (ma σ 6 a0.toNatClampNeg)) 3 (ma σ 6 a0.toNatClampNeg).toNatClampNeg) + (ml (Mnote_S σ (0 : Int32) a0 (0 : Int64) (ma σ 6 a0.toNatClampNeg)) 11 a0.toNatClampNeg))) (ma (Mnote_S σ (0 : Int32) a0 (0 : Int64) (ma σ 6 a0.toNatClampNeg)) 8 a0.toNatClampNeg) (Mnote_of hof c_9) (Mnote_hd (σ := σ) hd)) CMod_164 ⟨by decide, by decide, _, rfl, rfl⟩ hx hb hml hown hts hW hsM_k hl.1 rfl rfl (Nat.le_of_ble_eq_true rfl) ⟨⟨Nat.le_of_ble_eq_true rfl, Nat.le_of_ble_eq_true rfl⟩, ⟨Nat.le_of_ble_eq_true rfl, Nat.le_of_ble_eq_true rfl⟩⟩ dMod_goAlarm_73 (fun S_11 H locs e_11 hW _ _ => ?_)
      rw [e_11] at hW
      have hO_12 : mOk (MbyAct_S (sml (sma (Mnote_S σ (0 : Int32) a0 (0 : Int64) (ma σ 6 a0.toNatClampNeg)) 9 a0.toNatClampNeg (1 : Int32)) 10 a0.toNatClampNeg ((ml (Mnote_S σ (0 : Int32) a0 (0 : Int64) (ma σ 6 a0.toNatClampNeg)) 3 (ma σ 6 a0.toNatClampNeg).toNatClampNeg) + (ml (Mnote_S σ (0 : Int32) a0 (0 : Int64) (ma σ 6 a0.toNatClampNeg)) 11 a0.toNatClampNeg))) (ma (Mnote_S σ (0 : Int32) a0 (0 : Int64) (ma σ 6 a0.toNatClampNeg)) 8 a0.toNatClampNeg)) := mOk_byAct hO_2 (Mnote_of hof c_9)
      refine lv_aload_n hx hb dMod_goAlarm_76 rfl (lv_at hl 1 rfl) ?_
      refine mg_a FMod_33 7 ⟨rfl, by decide⟩ hx hb hts hown hW dMod_goAlarm_77 ?_
      refine lv_iload_n hx hb dMod_goAlarm_80 rfl (lv_at hl 2 rfl) ?_
      refine m_il (j := 7) (v := ma (MbyAct_S (sml (sma (Mnote_S σ (0 : Int32) a0 (0 : Int64) (ma σ 6 a0.toNatClampNeg)) 9 a0.toNatClampNeg (1 : Int32)) 10 a0.toNatClampNeg ((ml (Mnote_S σ (0 : Int32) a0 (0 : Int64) (ma σ 6 a0.toNatClampNeg)) 3 (ma σ 6 a0.toNatClampNeg).toNatClampNeg) + (ml (Mnote_S σ (0 : Int32) a0 (0 : Int64) (ma σ 6 a0.toNatClampNeg)) 11 a0.toNatClampNeg))) (ma (Mnote_S σ (0 : Int32) a0 (0 : Int64) (ma σ 6 a0.toNatClampNeg)) 8 a0.toNatClampNeg)) 7 a0.toNatClampNeg) ⟨by decide, rfl⟩ hx hb hW (rg.in ha (by decide) (by decide)) dMod_goAlarm_81 rfl ?_
      refine lv_iconst (v := (2 : Int32)) hx hb dMod_goAlarm_82 (by decide) ?_
      refine lv_icmp_ne (tgt := 98) hx hb dMod_goAlarm_83 (by decide) (fun c_13 => ?_) (fun c_13 => ?_)
      · exact e_v hsz hx hb hr hlk hW mono_hsM (Nat.le_refl _) (Nat.le_refl _) dMod_goAlarm_98 (congrArg (hsM o z tt) (Eq.symm (by refine (if_pos c_3).trans ?_; refine (if_pos c_9).trans ?_; refine (if_neg c_13).trans ?_; rfl)))
      · refine lv_aload_n hx hb dMod_goAlarm_86 rfl (lv_at hl 1 rfl) ?_
        refine mg_a FMod_39 9 ⟨rfl, by decide⟩ hx hb hts hown hW dMod_goAlarm_87 ?_
        refine lv_aload_n hx hb dMod_goAlarm_90 rfl (lv_at hl 1 rfl) ?_
        refine mg_a FMod_36 8 ⟨rfl, by decide⟩ hx hb hts hown hW dMod_goAlarm_91 ?_
        refine lv_iload_n hx hb dMod_goAlarm_94 rfl (lv_at hl 2 rfl) ?_
        refine m_il (j := 8) (v := ma (MbyAct_S (sml (sma (Mnote_S σ (0 : Int32) a0 (0 : Int64) (ma σ 6 a0.toNatClampNeg)) 9 a0.toNatClampNeg (1 : Int32)) 10 a0.toNatClampNeg ((ml (Mnote_S σ (0 : Int32) a0 (0 : Int64) (ma σ 6 a0.toNatClampNeg)) 3 (ma σ 6 a0.toNatClampNeg).toNatClampNeg) + (ml (Mnote_S σ (0 : Int32) a0 (0 : Int64) (ma σ 6 a0.toNatClampNeg)) 11 a0.toNatClampNeg))) (ma (Mnote_S σ (0 : Int32) a0 (0 : Int64) (ma σ 6 a0.toNatClampNeg)) 8 a0.toNatClampNeg)) 8 a0.toNatClampNeg) ⟨by decide, rfl⟩ hx hb hW (rg.in ha (by decide) (by decide)) dMod_goAlarm_95 rfl ?_
        refine lv_iconst (v := (0 : Int32)) hx hb dMod_goAlarm_96 (by decide) ?_
        refine m_zs (j := 9) (v := (0 : Int32)) ⟨by decide, rfl⟩ hx hb hW (rg.in (hO_12.2.2.2.2.1 _) (by decide) (by decide)) (by decide) dMod_goAlarm_97 (fun H locs hW => ?_)
        exact e_v hsz hx hb hr hlk hW mono_hsM (Nat.le_refl _) (Nat.le_refl _) dMod_goAlarm_98 (congrArg (hsM o z tt) (Eq.symm (by refine (if_pos c_3).trans ?_; refine (if_pos c_9).trans ?_; refine (if_pos c_13).trans ?_; rfl)))
