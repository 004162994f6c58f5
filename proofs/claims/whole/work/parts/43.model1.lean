/-- the model's bounds: what its indices keep to -/
def mOk (σ : MS) : Prop := rg 0 20 (mi σ 15) ∧ rg 0 100 (mi σ 16) ∧ rg 0 20 (mi σ 17) ∧ (∀ a, rg 0 20 (ma σ 6 a)) ∧ (∀ a, rg 0 100 (ma σ 8 a)) ∧ (∀ a, rg 0 20 (ma σ 12 a)) ∧ (∀ a, rg 0 20 (ma σ 14 a)) ∧ (∀ a, rg (-100) 20 (ma σ 16 a)) ∧ (∀ a, rg 0 20 (ma σ 17 a)) ∧ (∀ a, rg (-1) 20 (ma σ 21 a)) ∧ (∀ a, rg 0 20 (ma σ 26 a)) ∧ (∀ a, rg 0 20 (ma σ 27 a))

def Mthrown_R (σ : MS)  : Int32 :=
  mi σ 14
set_option maxRecDepth 20000 in
set_option maxHeartbeats 2000000 in
theorem c_Mthrown (l : Launch) (D : va_G) (AC : Nat → ClassId) (o z tt : Nat) (σ : MS)   : CtI l yMod_thrown (Cond.code yMod_thrown cMod_thrown 1 (some .int) :: wT) 0 0 D AC (hsM o z tt σ) [.ref o] 0 0 (fun r S' => r = Mthrown_R σ  ∧ S' = hsM o z tt σ) := by
  refine met_of (by decide) (Nat.le_of_ble_eq_true rfl) ?_
  intro p e s m below meth c ls hsz X hW hl
  obtain ⟨hx, hb, hml, hr, hlk, hown, hnm, hts⟩ := X
  have hl : lv_has ls 1 [(0, .ref o)] := hl
  refine lv_aload_n hx hb dMod_thrown_0 rfl (lv_at hl 0 rfl) ?_
  refine mg_i (v := mi σ 14) FMod_96 hx hb hts hown hW dMod_thrown_1 rfl ?_
  exact e_i hsz hx hb hr hlk hW mono_hsM (Nat.le_refl _) (Nat.le_refl _) dMod_thrown_4 ⟨rfl, rfl⟩

def Mno_R (σ : MS) (c0 : Int32) : Int32 :=
  if c0 < (1 : Int32) then
    (1 : Int32)
  else
    if c0 ≤ (mi σ 15) then
      (0 : Int32)
    else
      (1 : Int32)
def Mno_S (σ : MS) (c0 : Int32) : MS :=
  if c0 < (1 : Int32) then
    (smi σ 14 (0 : Int32))
  else
    if c0 ≤ (mi σ 15) then
      (smi σ 14 (0 : Int32))
    else
      (smi σ 14 (0 : Int32))
set_option maxRecDepth 20000 in
set_option maxHeartbeats 2000000 in
theorem c_Mno (l : Launch) (D : va_G) (AC : Nat → ClassId) (o z tt : Nat) (σ : MS) (c0 : Int32)  : CtI l yMod_no (Cond.code yMod_no cMod_no 2 (some .boolean) :: wT) 0 0 D AC (hsM o z tt σ) [.ref o, .int c0] 0 0 (fun r S' => r = Mno_R σ c0 ∧ S' = hsM o z tt (Mno_S σ c0)) := by
  refine met_of (by decide) (Nat.le_of_ble_eq_true rfl) ?_
  intro p e s m below meth c ls hsz X hW hl
  obtain ⟨hx, hb, hml, hr, hlk, hown, hnm, hts⟩ := X
  have hl : lv_has ls 2 [(0, .ref o), (1, .int c0)] := hl
  refine lv_aload_n hx hb dMod_no_0 rfl (lv_at hl 0 rfl) ?_
  refine lv_iconst (v := (0 : Int32)) hx hb dMod_no_1 (by decide) ?_
  refine mp_i FMod_96 GMod_code hx hb hts hown hW rfl rfl dMod_no_2 (fun H locs hW => ?_)
  refine lv_iload_n hx hb dMod_no_5 rfl (lv_at hl 1 rfl) ?_
  refine lv_iconst (v := (1 : Int32)) hx hb dMod_no_6 (by decide) ?_
  refine lv_icmp_lt (tgt := 18) hx hb dMod_no_7 (by decide) (fun c_1 => ?_) (fun c_1 => ?_)
  · refine lv_iconst (v := (1 : Int32)) hx hb dMod_no_18 (by decide) ?_
    refine lv_goto (tgt := 23) hx hb dMod_no_19 (by decide) ?_
    exact e_z hsz hx hb hr hlk hW mono_hsM (Nat.le_refl _) (Nat.le_refl _) dMod_no_23 (rfl) ⟨(Eq.symm (by refine (if_pos c_1).trans ?_; rfl)), congrArg (hsM o z tt) (Eq.symm (by refine (if_pos c_1).trans ?_; rfl))⟩
  · refine lv_iload_n hx hb dMod_no_10 rfl (lv_at hl 1 rfl) ?_
    refine lv_aload_n hx hb dMod_no_11 rfl (lv_at hl 0 rfl) ?_
    refine mg_i (v := mi σ 15) FMod_100 hx hb hts hown hW dMod_no_12 (ri_i (by decide)) ?_
    refine lv_icmp_le (tgt := 22) hx hb dMod_no_15 (by decide) (fun c_2 => ?_) (fun c_2 => ?_)
    · refine lv_iconst (v := (0 : Int32)) hx hb dMod_no_22 (by decide) ?_
      exact e_z hsz hx hb hr hlk hW mono_hsM (Nat.le_refl _) (Nat.le_refl _) dMod_no_23 (rfl) ⟨(Eq.symm (by refine (if_neg c_1).trans ?_; refine (if_pos c_2).trans ?_; rfl)), congrArg (hsM o z tt) (Eq.symm (by refine (if_neg c_1).trans ?_; refine (if_pos c_2).trans ?_; rfl))⟩
    · refine lv_iconst (v := (1 : Int32)) hx hb dMod_no_18 (by decide) ?_
      refine lv_goto (tgt := 23) hx hb dMod_no_19 (by decide) ?_
      exact e_z hsz hx hb hr hlk hW mono_hsM (Nat.le_refl _) (Nat.le_refl _) dMod_no_23 (rfl) ⟨(Eq.symm (by refine (if_neg c_1).trans ?_; refine (if_neg c_2).trans ?_; rfl)), congrArg (hsM o z tt) (Eq.symm (by refine (if_neg c_1).trans ?_; refine (if_neg c_2).trans ?_; rfl))⟩

def MnoAlarm_R (σ : MS) (a0 : Int32) : Int32 :=
  if a0 < (1 : Int32) then
    (1 : Int32)
  else
    if a0 ≤ (mi σ 16) then
      (0 : Int32)
    else
      (1 : Int32)
set_option maxRecDepth 20000 in
set_option maxHeartbeats 2000000 in
theorem c_MnoAlarm (l : Launch) (D : va_G) (AC : Nat → ClassId) (o z tt : Nat) (σ : MS) (a0 : Int32)  : CtI l yMod_noAlarm (Cond.code yMod_noAlarm cMod_noAlarm 2 (some .boolean) :: wT) 0 0 D AC (hsM o z tt σ) [.ref o, .int a0] 0 0 (fun r S' => r = MnoAlarm_R σ a0 ∧ S' = hsM o z tt σ) := by
  refine met_of (by decide) (Nat.le_of_ble_eq_true rfl) ?_
  intro p e s m below meth c ls hsz X hW hl
  obtain ⟨hx, hb, hml, hr, hlk, hown, hnm, hts⟩ := X
  have hl : lv_has ls 2 [(0, .ref o), (1, .int a0)] := hl
  refine lv_iload_n hx hb dMod_noAlarm_0 rfl (lv_at hl 1 rfl) ?_
  refine lv_iconst (v := (1 : Int32)) hx hb dMod_noAlarm_1 (by decide) ?_
  refine lv_icmp_lt (tgt := 13) hx hb dMod_noAlarm_2 (by decide) (fun c_1 => ?_) (fun c_1 => ?_)
  · refine lv_iconst (v := (1 : Int32)) hx hb dMod_noAlarm_13 (by decide) ?_
    refine lv_goto (tgt := 18) hx hb dMod_noAlarm_14 (by decide) ?_
    exact e_z hsz hx hb hr hlk hW mono_hsM (Nat.le_refl _) (Nat.le_refl _) dMod_noAlarm_18 (rfl) ⟨(Eq.symm (by refine (if_pos c_1).trans ?_; rfl)), rfl⟩
  · refine lv_iload_n hx hb dMod_noAlarm_5 rfl (lv_at hl 1 rfl) ?_
    refine lv_aload_n hx hb dMod_noAlarm_6 rfl (lv_at hl 0 rfl) ?_
    refine mg_i (v := mi σ 16) FMod_103 hx hb hts hown hW dMod_noAlarm_7 rfl ?_
    refine lv_icmp_le (tgt := 17) hx hb dMod_noAlarm_10 (by decide) (fun c_2 => ?_) (fun c_2 => ?_)
    · refine lv_iconst (v := (0 : Int32)) hx hb dMod_noAlarm_17 (by decide) ?_
      exact e_z hsz hx hb hr hlk hW mono_hsM (Nat.le_refl _) (Nat.le_refl _) dMod_noAlarm_18 (rfl) ⟨(Eq.symm (by refine (if_neg c_1).trans ?_; refine (if_pos c_2).trans ?_; rfl)), rfl⟩
    · refine lv_iconst (v := (1 : Int32)) hx hb dMod_noAlarm_13 (by decide) ?_
      refine lv_goto (tgt := 18) hx hb dMod_noAlarm_14 (by decide) ?_
      exact e_z hsz hx hb hr hlk hW mono_hsM (Nat.le_refl _) (Nat.le_refl _) dMod_noAlarm_18 (rfl) ⟨(Eq.symm (by refine (if_neg c_1).trans ?_; refine (if_neg c_2).trans ?_; rfl)), rfl⟩

def MnoTable_R (σ : MS) (t0 : Int32) : Int32 :=
  if t0 < (1 : Int32) then
    (1 : Int32)
  else
    if t0 ≤ (mi σ 17) then
      (0 : Int32)
    else
      (1 : Int32)
def MnoTable_S (σ : MS) (t0 : Int32) : MS :=
  if t0 < (1 : Int32) then
    (smi σ 14 (0 : Int32))
  else
    if t0 ≤ (mi σ 17) then
      (smi σ 14 (0 : Int32))
    else
      (smi σ 14 (0 : Int32))
set_option maxRecDepth 20000 in
set_option maxHeartbeats 2000000 in
theorem c_MnoTable (l : Launch) (D : va_G) (AC : Nat → ClassId) (o z tt : Nat) (σ : MS) (t0 : Int32)  : CtI l yMod_noTable (Cond.code yMod_noTable cMod_noTable 2 (some .boolean) :: wT) 0 0 D AC (hsM o z tt σ) [.ref o, .int t0] 0 0 (fun r S' => r = MnoTable_R σ t0 ∧ S' = hsM o z tt (MnoTable_S σ t0)) := by
  refine met_of (by decide) (Nat.le_of_ble_eq_true rfl) ?_
  intro p e s m below meth c ls hsz X hW hl
  obtain ⟨hx, hb, hml, hr, hlk, hown, hnm, hts⟩ := X
  have hl : lv_has ls 2 [(0, .ref o), (1, .int t0)] := hl
  refine lv_aload_n hx hb dMod_noTable_0 rfl (lv_at hl 0 rfl) ?_
  refine lv_iconst (v := (0 : Int32)) hx hb dMod_noTable_1 (by decide) ?_
  refine mp_i FMod_96 GMod_code hx hb hts hown hW rfl rfl dMod_noTable_2 (fun H locs hW => ?_)
  refine lv_iload_n hx hb dMod_noTable_5 rfl (lv_at hl 1 rfl) ?_
  refine lv_iconst (v := (1 : Int32)) hx hb dMod_noTable_6 (by decide) ?_
  refine lv_icmp_lt (tgt := 18) hx hb dMod_noTable_7 (by decide) (fun c_1 => ?_) (fun c_1 => ?_)
  · refine lv_iconst (v := (1 : Int32)) hx hb dMod_noTable_18 (by decide) ?_
    refine lv_goto (tgt := 23) hx hb dMod_noTable_19 (by decide) ?_
    exact e_z hsz hx hb hr hlk hW mono_hsM (Nat.le_refl _) (Nat.le_refl _) dMod_noTable_23 (rfl) ⟨(Eq.symm (by refine (if_pos c_1).trans ?_; rfl)), congrArg (hsM o z tt) (Eq.symm (by refine (if_pos c_1).trans ?_; rfl))⟩
  · refine lv_iload_n hx hb dMod_noTable_10 rfl (lv_at hl 1 rfl) ?_
    refine lv_aload_n hx hb dMod_noTable_11 rfl (lv_at hl 0 rfl) ?_
    refine mg_i (v := mi σ 17) FMod_106 hx hb hts hown hW dMod_noTable_12 (ri_i (by decide)) ?_
    refine lv_icmp_le (tgt := 22) hx hb dMod_noTable_15 (by decide) (fun c_2 => ?_) (fun c_2 => ?_)
    · refine lv_iconst (v := (0 : Int32)) hx hb dMod_noTable_22 (by decide) ?_
      exact e_z hsz hx hb hr hlk hW mono_hsM (Nat.le_refl _) (Nat.le_refl _) dMod_noTable_23 (rfl) ⟨(Eq.symm (by refine (if_neg c_1).trans ?_; refine (if_pos c_2).trans ?_; rfl)), congrArg (hsM o z tt) (Eq.symm (by refine (if_neg c_1).trans ?_; refine (if_pos c_2).trans ?_; rfl))⟩
    · refine lv_iconst (v := (1 : Int32)) hx hb dMod_noTable_18 (by decide) ?_
      refine lv_goto (tgt := 23) hx hb dMod_noTable_19 (by decide) ?_
      exact e_z hsz hx hb hr hlk hW mono_hsM (Nat.le_refl _) (Nat.le_refl _) dMod_noTable_23 (rfl) ⟨(Eq.symm (by refine (if_neg c_1).trans ?_; refine (if_neg c_2).trans ?_; rfl)), congrArg (hsM o z tt) (Eq.symm (by refine (if_neg c_1).trans ?_; refine (if_neg c_2).trans ?_; rfl))⟩

theorem mOk_no {σ : MS} {c0 : Int32} (h : mOk σ) : mOk (Mno_S σ c0) := by
  unfold Mno_S
  split
  · exact h
  · split <;> exact h
theorem mOk_noTable {σ : MS} {c0 : Int32} (h : mOk σ) : mOk (MnoTable_S σ c0) := by
  unfold MnoTable_S
  split
  · exact h
  · split <;> exact h
theorem Mno_Se {σ : MS} {c0 : Int32} : Mno_S σ c0 = smi σ 14 0 := by
  unfold Mno_S
  split
  · rfl
  · split <;> rfl
theorem MnoTable_Se {σ : MS} {c0 : Int32} : MnoTable_S σ c0 = smi σ 14 0 := by
  unfold MnoTable_S
  split
  · rfl
  · split <;> rfl
theorem Mno_rg {σ : MS} {c0 : Int32} (h : mOk σ) (q : Mno_R σ c0 = 0) : rg 1 20 c0 := by
  unfold Mno_R at q
  split at q
  · cases q
  · split at q
    · rename_i h1 h2
      rw [Int32.lt_iff_toInt_lt] at h1
      rw [Int32.le_iff_toInt_le] at h2
      have e : (1 : Int32).toInt = 1 := rfl
      exact ⟨by omega, by have := h.1.2; omega⟩
    · cases q
theorem MnoTable_rg {σ : MS} {c0 : Int32} (h : mOk σ) (q : MnoTable_R σ c0 = 0) : rg 1 20 c0 := by
  unfold MnoTable_R at q
  split at q
  · cases q
  · split at q
    · rename_i h1 h2
      rw [Int32.lt_iff_toInt_lt] at h1
      rw [Int32.le_iff_toInt_le] at h2
      have e : (1 : Int32).toInt = 1 := rfl
      exact ⟨by omega, by have := h.2.2.1.2; omega⟩
    · cases q
theorem MnoAlarm_rg {σ : MS} {c0 : Int32} (h : mOk σ) (q : MnoAlarm_R σ c0 = 0) : rg 1 100 c0 := by
  unfold MnoAlarm_R at q
  split at q
  · cases q
  · split at q
    · rename_i h1 h2
      rw [Int32.lt_iff_toInt_lt] at h1
      rw [Int32.le_iff_toInt_le] at h2
      have e : (1 : Int32).toInt = 1 := rfl
      exact ⟨by omega, by have := h.2.1.2; omega⟩
    · cases q
theorem rg_ne {lo hi : Int} {x b : Int32} (h : rg lo hi x) (hb : b.toInt = hi) (q : ¬ x = b) : rg lo (hi - 1) x := by
  refine ⟨h.1, ?_⟩
  have h2 := h.2
  have : x.toInt ≠ hi := fun e => q (Int32.toInt_inj.mp (e.trans hb.symm))
  omega
theorem rg_pos {lo hi : Int} {x : Int32} (h : rg lo hi x) (q : 0 < x) : rg 1 hi x := by
  rw [Int32.lt_iff_toInt_lt] at q
  have e : (0 : Int32).toInt = 0 := rfl
  exact ⟨by omega, h.2⟩
theorem rg_nneg {lo hi : Int} {x : Int32} (h : rg lo hi x) (q : ¬ x < 0) : rg 0 hi x := by
  rw [Int32.lt_iff_toInt_lt] at q
  have e : (0 : Int32).toInt = 0 := rfl
  exact ⟨by omega, h.2⟩
theorem rg_neg' {lo hi : Int} {x : Int32} (h : rg lo hi x) (q : ¬ 0 ≤ x) : rg lo (-1) x := by
  rw [Int32.le_iff_toInt_le] at q
  have e : (0 : Int32).toInt = 0 := rfl
  exact ⟨h.1, by omega⟩

def Mcounter_R (σ : MS) (b0 : Int64) (k0 : Int64) : Int32 :=
  if b0 < (0 : Int64) then
    (-2 : Int32)
  else
    if (1000000000 : Int64) < b0 then
      (-2 : Int32)
    else
      if k0 < (1 : Int64) then
        (-2 : Int32)
      else
        if (1000 : Int64) < k0 then
          (-2 : Int32)
        else
          if (mi σ 15) = (20 : Int32) then
            (-4 : Int32)
          else
            if b0 = (0 : Int64) then
              (0 : Int32)
            else
              ((mi σ 15) + (1 : Int32))
def Mcounter_S (σ : MS) (b0 : Int64) (k0 : Int64) : MS :=
  if b0 < (0 : Int64) then
    (smi σ 14 (0 : Int32))
  else
    if (1000000000 : Int64) < b0 then
      (smi σ 14 (0 : Int32))
    else
      if k0 < (1 : Int64) then
        (smi σ 14 (0 : Int32))
      else
        if (1000 : Int64) < k0 then
          (smi σ 14 (0 : Int32))
        else
          if (mi σ 15) = (20 : Int32) then
            (smi σ 14 (0 : Int32))
          else
            if b0 = (0 : Int64) then
              (smi (smi σ 14 (0 : Int32)) 14 (1 : Int32))
            else
              (sml (sml (smi (smi (smi σ 14 (0 : Int32)) 14 (0 : Int32)) 15 ((mi σ 15) + (1 : Int32))) 0 ((mi σ 15) + (1 : Int32)).toNatClampNeg b0) 1 ((mi σ 15) + (1 : Int32)).toNatClampNeg k0)
set_option maxRecDepth 20000 in
set_option maxHeartbeats 2000000 in
theorem c_Mcounter (l : Launch) (D : va_G) (AC : Nat → ClassId) (o z tt : Nat) (σ : MS) (b0 : Int64) (k0 : Int64) (hO : mOk σ) : CtI l yMod_counter (Cond.code yMod_counter cMod_counter 5 (some .int) :: wT) 0 0 D AC (hsM o z tt σ) [.ref o, .long b0, .long k0] 0 0 (fun r S' => r = Mcounter_R σ b0 k0 ∧ S' = hsM o z tt (Mcounter_S σ b0 k0)) := by
  refine met_of (by decide) (Nat.le_of_ble_eq_true rfl) ?_
  intro p e s m below meth c ls hsz X hW hl
  obtain ⟨hx, hb, hml, hr, hlk, hown, hnm, hts⟩ := X
  have hl : lv_has ls 5 [(0, .ref o), (1, .long b0), (3, .long k0)] := hl
  refine lv_aload_n hx hb dMod_counter_0 rfl (lv_at hl 0 rfl) ?_
  refine lv_iconst (v := (0 : Int32)) hx hb dMod_counter_1 (by decide) ?_
  refine mp_i FMod_96 GMod_code hx hb hts hown hW rfl rfl dMod_counter_2 (fun H locs hW => ?_)
  refine lv_lload_n hx hb dMod_counter_5 rfl (lv_at hl 1 rfl) ?_
  refine lv_lconst (v := (0 : Int64)) hx hb dMod_counter_6 (by decide) ?_
  refine ll_lt (tgt := 33) hx hb dMod_counter_7 dMod_counter_8 (by decide) (fun c_1 => ?_) (fun c_1 => ?_)
  · refine lv_bipush (v := (-2 : Int32)) hx hb dMod_counter_33 (by decide) ?_
    exact e_i hsz hx hb hr hlk hW mono_hsM (Nat.le_refl _) (Nat.le_refl _) dMod_counter_35 ⟨(Eq.symm (by refine (if_pos c_1).trans ?_; rfl)), congrArg (hsM o z tt) (Eq.symm (by refine (if_pos c_1).trans ?_; rfl))⟩
  · refine lv_lload_n hx hb dMod_counter_11 rfl (lv_at hl 1 rfl) ?_
    refine lv_ldc2 (v := (1000000000 : Int64)) hx hb hown (hts _ QMod_109) dMod_counter_12 ?_
    refine ll_gt (tgt := 33) hx hb dMod_counter_15 dMod_counter_16 (by decide) (fun c_2 => ?_) (fun c_2 => ?_)
    · refine lv_bipush (v := (-2 : Int32)) hx hb dMod_counter_33 (by decide) ?_
      exact e_i hsz hx hb hr hlk hW mono_hsM (Nat.le_refl _) (Nat.le_refl _) dMod_counter_35 ⟨(Eq.symm (by refine (if_neg c_1).trans ?_; refine (if_pos c_2).trans ?_; rfl)), congrArg (hsM o z tt) (Eq.symm (by refine (if_neg c_1).trans ?_; refine (if_pos c_2).trans ?_; rfl))⟩
    · refine lv_lload_n hx hb dMod_counter_19 rfl (lv_at hl 2 rfl) ?_
      refine lv_lconst (v := (1 : Int64)) hx hb dMod_counter_20 (by decide) ?_
      refine ll_lt (tgt := 33) hx hb dMod_counter_21 dMod_counter_22 (by decide) (fun c_3 => ?_) (fun c_3 => ?_)
      · refine lv_bipush (v := (-2 : Int32)) hx hb dMod_counter_33 (by decide) ?_
        exact e_i hsz hx hb hr hlk hW mono_hsM (Nat.le_refl _) (Nat.le_refl _) dMod_counter_35 ⟨(Eq.symm (by refine (if_neg c_1).trans ?_; refine (if_neg c_2).trans ?_; refine (if_pos c_3).trans ?_; rfl)), congrArg (hsM o z tt) (Eq.symm (by refine (if_neg c_1).trans ?_; refine (if_neg c_2).trans ?_; refine (if_pos c_3).trans ?_; rfl))⟩
      · refine lv_lload_n hx hb dMod_counter_25 rfl (lv_at hl 2 rfl) ?_
        refine lv_ldc2 (v := (1000 : Int64)) hx hb hown (hts _ QMod_111) dMod_counter_26 ?_
        refine ll_le (tgt := 36) hx hb dMod_counter_29 dMod_counter_30 (by decide) (fun c_4 => ?_) (fun c_4 => ?_)
        · refine lv_aload_n hx hb dMod_counter_36 rfl (lv_at hl 0 rfl) ?_
          refine mg_i (v := mi σ 15) FMod_100 hx hb hts hown hW dMod_counter_37 (ri_i (by decide)) ?_
          refine lv_bipush (v := (20 : Int32)) hx hb dMod_counter_40 (by decide) ?_
          refine lv_icmp_ne (tgt := 48) hx hb dMod_counter_42 (by decide) (fun c_5 => ?_) (fun c_5 => ?_)
          · refine lv_aload_n hx hb dMod_counter_48 rfl (lv_at hl 0 rfl) ?_
            refine lv_lload_n hx hb dMod_counter_49 rfl (lv_at hl 1 rfl) ?_
            refine lv_lconst (v := (0 : Int64)) hx hb dMod_counter_50 (by decide) ?_
            refine ll_ne (tgt := 59) hx hb dMod_counter_51 dMod_counter_52 (by decide) (fun c_6 => ?_) (fun c_6 => ?_)
            · refine lv_iconst (v := (0 : Int32)) hx hb dMod_counter_59 (by decide) ?_
              refine mp_i FMod_96 GMod_code hx hb hts hown hW rfl rfl dMod_counter_60 (fun H locs hW => ?_)
              refine lv_aload_n hx hb dMod_counter_63 rfl (lv_at hl 0 rfl) ?_
              refine mg_i (v := (0 : Int32)) FMod_96 hx hb hts hown hW dMod_counter_64 (ri_s) ?_
              refine lv_if_le (tgt := 72) hx hb dMod_counter_67 (by decide) (fun c_7 => ?_) (fun c_7 => ?_)
              · refine lv_aload_n hx hb dMod_counter_72 rfl (lv_at hl 0 rfl) ?_
                refine lv_dup hx hb dMod_counter_73 rfl ?_
                refine mg_i (v := mi σ 15) FMod_100 hx hb hts hown hW dMod_counter_74 ((ri_i (by decide)).trans (ri_i (by decide))) ?_
                refine lv_iconst (v := (1 : Int32)) hx hb dMod_counter_77 (by decide) ?_
                refine lv_iadd hx hb dMod_counter_78 ?_
                refine mp_i FMod_100 GMod_counters hx hb hts hown hW rfl rfl dMod_counter_79 (fun H locs hW => ?_)
                refine lv_aload_n hx hb dMod_counter_82 rfl (lv_at hl 0 rfl) ?_
                refine mg_a FMod_7 0 ⟨rfl, by decide⟩ hx hb hts hown hW dMod_counter_83 ?_
                refine lv_aload_n hx hb dMod_counter_86 rfl (lv_at hl 0 rfl) ?_
                refine mg_i (v := ((mi σ 15) + (1 : Int32))) FMod_100 hx hb hts hown hW dMod_counter_87 (ri_s) ?_
                refine lv_lload_n hx hb dMod_counter_90 rfl (lv_at hl 1 rfl) ?_
                refine m_ls (j := 0) (v := b0) ⟨by decide, rfl⟩ hx hb hW (rg.in (rg.add (rg_ne hO.1 rfl c_5) (show rg (1) (1) (1 : Int32) from ⟨by decide, by decide⟩) (by decide) (by decide)) (by decide) (by decide)) dMod_counter_91 (fun H locs hW => ?_)
                refine lv_aload_n hx hb dMod_counter_92 rfl (lv_at hl 0 rfl) ?_
                refine mg_a FMod_13 1 ⟨rfl, by decide⟩ hx hb hts hown hW dMod_counter_93 ?_
                refine lv_aload_n hx hb dMod_counter_96 rfl (lv_at hl 0 rfl) ?_
                refine mg_i (v := ((mi σ 15) + (1 : Int32))) FMod_100 hx hb hts hown hW dMod_counter_97 ((ri_l).trans (ri_s)) ?_
                refine lv_lload_n hx hb dMod_counter_100 rfl (lv_at hl 2 rfl) ?_
                refine m_ls (j := 1) (v := k0) ⟨by decide, rfl⟩ hx hb hW (rg.in (rg.add (rg_ne hO.1 rfl c_5) (show rg (1) (1) (1 : Int32) from ⟨by decide, by decide⟩) (by decide) (by decide)) (by decide) (by decide)) dMod_counter_101 (fun H locs hW => ?_)
                refine lv_aload_n hx hb dMod_counter_102 rfl (lv_at hl 0 rfl) ?_
                refine mg_i (v := ((mi σ 15) + (1 : Int32))) FMod_100 hx hb hts hown hW dMod_counter_103 ((ri_l).trans ((ri_l).trans (ri_s))) ?_
                exact e_i hsz hx hb hr hlk hW mono_hsM (Nat.le_refl _) (Nat.le_refl _) dMod_counter_106 ⟨(Eq.symm (by refine (if_neg c_1).trans ?_; refine (if_neg c_2).trans ?_; refine (if_neg c_3).trans ?_; refine (if_neg c_4).trans ?_; refine (if_neg c_5).trans ?_; refine (if_neg c_6).trans ?_; rfl)), congrArg (hsM o z tt) (Eq.symm (by refine (if_neg c_1).trans ?_; refine (if_neg c_2).trans ?_; refine (if_neg c_3).trans ?_; refine (if_neg c_4).trans ?_; refine (if_neg c_5).trans ?_; refine (if_neg c_6).trans ?_; rfl))⟩
              · exact absurd c_7 (by decide)
            · refine lv_iconst (v := (1 : Int32)) hx hb dMod_counter_55 (by decide) ?_
              refine lv_goto (tgt := 60) hx hb dMod_counter_56 (by decide) ?_
              refine mp_i FMod_96 GMod_code hx hb hts hown hW rfl rfl dMod_counter_60 (fun H locs hW => ?_)
              refine lv_aload_n hx hb dMod_counter_63 rfl (lv_at hl 0 rfl) ?_
              refine mg_i (v := (1 : Int32)) FMod_96 hx hb hts hown hW dMod_counter_64 (ri_s) ?_
              refine lv_if_le (tgt := 72) hx hb dMod_counter_67 (by decide) (fun c_8 => ?_) (fun c_8 => ?_)
              · exact absurd c_8 (by decide)
              · refine lv_iconst (v := (0 : Int32)) hx hb dMod_counter_70 (by decide) ?_
                exact e_i hsz hx hb hr hlk hW mono_hsM (Nat.le_refl _) (Nat.le_refl _) dMod_counter_71 ⟨(Eq.symm (by refine (if_neg c_1).trans ?_; refine (if_neg c_2).trans ?_; refine (if_neg c_3).trans ?_; refine (if_neg c_4).trans ?_; refine (if_neg c_5).trans ?_; refine (if_pos c_6).trans ?_; rfl)), congrArg (hsM o z tt) (Eq.symm (by refine (if_neg c_1).trans ?_; refine (if_neg c_2).trans ?_; refine (if_neg c_3).trans ?_; refine (if_neg c_4).trans ?_; refine (if_neg c_5).trans ?_; refine (if_pos c_6).trans ?_; rfl))⟩
          · refine lv_bipush (v := (-4 : Int32)) hx hb dMod_counter_45 (by decide) ?_
            exact e_i hsz hx hb hr hlk hW mono_hsM (Nat.le_refl _) (Nat.le_refl _) dMod_counter_47 ⟨(Eq.symm (by refine (if_neg c_1).trans ?_; refine (if_neg c_2).trans ?_; refine (if_neg c_3).trans ?_; refine (if_neg c_4).trans ?_; refine (if_pos c_5).trans ?_; rfl)), congrArg (hsM o z tt) (Eq.symm (by refine (if_neg c_1).trans ?_; refine (if_neg c_2).trans ?_; refine (if_neg c_3).trans ?_; refine (if_neg c_4).trans ?_; refine (if_pos c_5).trans ?_; rfl))⟩
        · refine lv_bipush (v := (-2 : Int32)) hx hb dMod_counter_33 (by decide) ?_
          exact e_i hsz hx hb hr hlk hW mono_hsM (Nat.le_refl _) (Nat.le_refl _) dMod_counter_35 ⟨(Eq.symm (by refine (if_neg c_1).trans ?_; refine (if_neg c_2).trans ?_; refine (if_neg c_3).trans ?_; refine (if_pos c_4).trans ?_; rfl)), congrArg (hsM o z tt) (Eq.symm (by refine (if_neg c_1).trans ?_; refine (if_neg c_2).trans ?_; refine (if_neg c_3).trans ?_; refine (if_pos c_4).trans ?_; rfl))⟩

theorem base_ne {x b : Int64} (h1 : ¬ x < 0) (h2 : ¬ b - 1 < x) : ¬ b = 0 := by
  rintro rfl
  rw [Int64.lt_iff_toInt_lt] at h1 h2
  have e : ((0 : Int64) - 1).toInt = -1 := rfl
  have e0 : (0 : Int64).toInt = 0 := rfl
  omega

def Mset_R (σ : MS) (a0 : Int32) (at_ : Int64) (ev : Int64) (ab : Int32) : Int32 :=
  if (MnoAlarm_R (smi σ 14 (0 : Int32)) a0) = 0 then
    if (ma σ 9 a0.toNatClampNeg) = 0 then
      if ab = 0 then
        if at_ < (1 : Int64) then
          (3 : Int32)
        else
          if ((ml σ 0 (ma σ 6 a0.toNatClampNeg).toNatClampNeg) - (1 : Int64)) < at_ then
            (3 : Int32)
          else
            if ev = (0 : Int64) then
              (1 : Int32)
            else
              if ev < (2 : Int64) then
                (4 : Int32)
              else
                if (ml σ 0 (ma σ 6 a0.toNatClampNeg).toNatClampNeg) < ev then
                  (4 : Int32)
                else
                  (1 : Int32)
      else
        if at_ < (0 : Int64) then
          (3 : Int32)
        else
          if ((ml σ 0 (ma σ 6 a0.toNatClampNeg).toNatClampNeg) - (1 : Int64)) < at_ then
            (3 : Int32)
          else
            if ev = (0 : Int64) then
              if ((ml σ 3 (ma σ 6 a0.toNatClampNeg).toNatClampNeg) - (ml σ 3 (ma σ 6 a0.toNatClampNeg).toNatClampNeg) / (ml σ 0 (ma σ 6 a0.toNatClampNeg).toNatClampNeg) * (ml σ 0 (ma σ 6 a0.toNatClampNeg).toNatClampNeg)) < at_ then
                (1 : Int32)
              else
                (1 : Int32)
            else
              if ev < (2 : Int64) then
                (4 : Int32)
              else
                if (ml σ 0 (ma σ 6 a0.toNatClampNeg).toNatClampNeg) < ev then
                  (4 : Int32)
                else
                  if ((ml σ 3 (ma σ 6 a0.toNatClampNeg).toNatClampNeg) - (ml σ 3 (ma σ 6 a0.toNatClampNeg).toNatClampNeg) / (ml σ 0 (ma σ 6 a0.toNatClampNeg).toNatClampNeg) * (ml σ 0 (ma σ 6 a0.toNatClampNeg).toNatClampNeg)) < at_ then
                    (1 : Int32)
                  else
                    (1 : Int32)
    else
      (2 : Int32)
  else
    (-1 : Int32)
def Mset_S (σ : MS) (a0 : Int32) (at_ : Int64) (ev : Int64) (ab : Int32) : MS :=
  if (MnoAlarm_R (smi σ 14 (0 : Int32)) a0) = 0 then
    if (ma σ 9 a0.toNatClampNeg) = 0 then
      if ab = 0 then
        if at_ < (1 : Int64) then
          (smi σ 14 (0 : Int32))
        else
          if ((ml σ 0 (ma σ 6 a0.toNatClampNeg).toNatClampNeg) - (1 : Int64)) < at_ then
            (smi σ 14 (0 : Int32))
          else
            if ev = (0 : Int64) then
              (sml (sml (sma (smi σ 14 (0 : Int32)) 9 a0.toNatClampNeg (1 : Int32)) 11 a0.toNatClampNeg ev) 10 a0.toNatClampNeg ((ml σ 3 (ma σ 6 a0.toNatClampNeg).toNatClampNeg) + at_))
            else
              if ev < (2 : Int64) then
                (smi σ 14 (0 : Int32))
              else
                if (ml σ 0 (ma σ 6 a0.toNatClampNeg).toNatClampNeg) < ev then
                  (smi σ 14 (0 : Int32))
                else
                  (sml (sml (sma (smi σ 14 (0 : Int32)) 9 a0.toNatClampNeg (1 : Int32)) 11 a0.toNatClampNeg ev) 10 a0.toNatClampNeg ((ml σ 3 (ma σ 6 a0.toNatClampNeg).toNatClampNeg) + at_))
      else
        if at_ < (0 : Int64) then
          (smi σ 14 (0 : Int32))
        else
          if ((ml σ 0 (ma σ 6 a0.toNatClampNeg).toNatClampNeg) - (1 : Int64)) < at_ then
            (smi σ 14 (0 : Int32))
          else
            if ev = (0 : Int64) then
              if ((ml σ 3 (ma σ 6 a0.toNatClampNeg).toNatClampNeg) - (ml σ 3 (ma σ 6 a0.toNatClampNeg).toNatClampNeg) / (ml σ 0 (ma σ 6 a0.toNatClampNeg).toNatClampNeg) * (ml σ 0 (ma σ 6 a0.toNatClampNeg).toNatClampNeg)) < at_ then
                (sml (sml (sma (smi σ 14 (0 : Int32)) 9 a0.toNatClampNeg (1 : Int32)) 11 a0.toNatClampNeg ev) 10 a0.toNatClampNeg ((ml σ 3 (ma σ 6 a0.toNatClampNeg).toNatClampNeg) + (at_ - ((ml σ 3 (ma σ 6 a0.toNatClampNeg).toNatClampNeg) - (ml σ 3 (ma σ 6 a0.toNatClampNeg).toNatClampNeg) / (ml σ 0 (ma σ 6 a0.toNatClampNeg).toNatClampNeg) * (ml σ 0 (ma σ 6 a0.toNatClampNeg).toNatClampNeg)))))
              else
                (sml (sml (sma (smi σ 14 (0 : Int32)) 9 a0.toNatClampNeg (1 : Int32)) 11 a0.toNatClampNeg ev) 10 a0.toNatClampNeg ((ml σ 3 (ma σ 6 a0.toNatClampNeg).toNatClampNeg) + ((at_ - ((ml σ 3 (ma σ 6 a0.toNatClampNeg).toNatClampNeg) - (ml σ 3 (ma σ 6 a0.toNatClampNeg).toNatClampNeg) / (ml σ 0 (ma σ 6 a0.toNatClampNeg).toNatClampNeg) * (ml σ 0 (ma σ 6 a0.toNatClampNeg).toNatClampNeg))) + (ml σ 0 (ma σ 6 a0.toNatClampNeg).toNatClampNeg))))
            else
              if ev < (2 : Int64) then
                (smi σ 14 (0 : Int32))
              else
                if (ml σ 0 (ma σ 6 a0.toNatClampNeg).toNatClampNeg) < ev then
                  (smi σ 14 (0 : Int32))
                else
                  if ((ml σ 3 (ma σ 6 a0.toNatClampNeg).toNatClampNeg) - (ml σ 3 (ma σ 6 a0.toNatClampNeg).toNatClampNeg) / (ml σ 0 (ma σ 6 a0.toNatClampNeg).toNatClampNeg) * (ml σ 0 (ma σ 6 a0.toNatClampNeg).toNatClampNeg)) < at_ then
                    (sml (sml (sma (smi σ 14 (0 : Int32)) 9 a0.toNatClampNeg (1 : Int32)) 11 a0.toNatClampNeg ev) 10 a0.toNatClampNeg ((ml σ 3 (ma σ 6 a0.toNatClampNeg).toNatClampNeg) + (at_ - ((ml σ 3 (ma σ 6 a0.toNatClampNeg).toNatClampNeg) - (ml σ 3 (ma σ 6 a0.toNatClampNeg).toNatClampNeg) / (ml σ 0 (ma σ 6 a0.toNatClampNeg).toNatClampNeg) * (ml σ 0 (ma σ 6 a0.toNatClampNeg).toNatClampNeg)))))
                  else
                    (sml (sml (sma (smi σ 14 (0 : Int32)) 9 a0.toNatClampNeg (1 : Int32)) 11 a0.toNatClampNeg ev) 10 a0.toNatClampNeg ((ml σ 3 (ma σ 6 a0.toNatClampNeg).toNatClampNeg) + ((at_ - ((ml σ 3 (ma σ 6 a0.toNatClampNeg).toNatClampNeg) - (ml σ 3 (ma σ 6 a0.toNatClampNeg).toNatClampNeg) / (ml σ 0 (ma σ 6 a0.toNatClampNeg).toNatClampNeg) * (ml σ 0 (ma σ 6 a0.toNatClampNeg).toNatClampNeg))) + (ml σ 0 (ma σ 6 a0.toNatClampNeg).toNatClampNeg))))
    else
      (smi σ 14 (0 : Int32))
  else
    (smi σ 14 (0 : Int32))
set_option maxRecDepth 20000 in
set_option maxHeartbeats 2000000 in
theorem c_Mset (l : Launch) (D : va_G) (AC : Nat → ClassId) (o z tt : Nat) (σ : MS) (a0 : Int32) (at_ : Int64) (ev : Int64) (ab : Int32) (hO : mOk σ) : CtI l yMod_set (Cond.code yMod_set cMod_set 12 (some .int) :: wT) 1 24 D AC (hsM o z tt σ) [.ref o, .int a0, .long at_, .long ev, .int ab] 0 0 (fun r S' => r = Mset_R σ a0 at_ ev ab ∧ S' = hsM o z tt (Mset_S σ a0 at_ ev ab)) := by
  refine met_of (by decide) (Nat.le_of_ble_eq_true rfl) ?_
  intro p e s m below meth c ls hsz X hW hl
  obtain ⟨hx, hb, hml, hr, hlk, hown, hnm, hts⟩ := X
  have hl : lv_has ls 12 [(0, .ref o), (1, .int a0), (2, .long at_), (4, .long ev), (6, .int ab)] := hl
  refine lv_aload_n hx hb dMod_set_0 rfl (lv_at hl 0 rfl) ?_
  refine lv_iconst (v := (0 : Int32)) hx hb dMod_set_1 (by decide) ?_
  refine mp_i FMod_96 GMod_code hx hb hts hown hW rfl rfl dMod_set_2 (fun H locs hW => ?_)
  refine lv_aload_n hx hb dMod_set_5 rfl (lv_at hl 0 rfl) ?_
  refine lv_iload_n hx hb dMod_set_6 rfl (lv_at hl 1 rfl) ?_
  refine k_Vi (K := 9) (As := [.int a0]) (rest := []) (c_MnoAlarm l D AC o z tt (smi σ 14 (0 : Int32)) a0) CMod_117 ⟨by decide, by decide, _, rfl, rfl⟩ hx hb hml hown hts hW hsM_k hl.1 rfl rfl (Nat.le_of_ble_eq_true rfl) ⟨⟨Nat.le_of_ble_eq_true rfl, Nat.le_of_ble_eq_true rfl⟩, ⟨Nat.le_of_ble_eq_true rfl, Nat.le_of_ble_eq_true rfl⟩⟩ dMod_set_7 (fun r_1 S_1 H locs e_1 hW _ _ => ?_)
  obtain ⟨e1_1, e2_1⟩ := e_1
  rw [e2_1] at hW
  rw [e1_1]
  refine lv_if_eq (tgt := 15) hx hb dMod_set_10 (by decide) (fun c_2 => ?_) (fun c_2 => ?_)
  · refine lv_aload_n hx hb dMod_set_15 rfl (lv_at hl 0 rfl) ?_
    refine mg_a FMod_29 6 ⟨rfl, by decide⟩ hx hb hts hown hW dMod_set_16 ?_
    refine lv_iload_n hx hb dMod_set_19 rfl (lv_at hl 1 rfl) ?_
    refine m_il (j := 6) (v := ma σ 6 a0.toNatClampNeg) ⟨by decide, rfl⟩ hx hb hW (rg.in (MnoAlarm_rg (σ := (smi σ 14 (0 : Int32))) hO c_2) (by decide) (by decide)) dMod_set_20 (ra_i) ?_
    refine lv_istore (lv' := [(7, .int (ma σ 6 a0.toNatClampNeg)), (0, .ref o), (1, .int a0), (2, .long at_), (4, .long ev), (6, .int ab)]) hx hb dMod_set_21 hl (by decide) rfl (fun ls hl => ?_)
    refine lv_aload_n hx hb dMod_set_23 rfl (lv_at hl 1 rfl) ?_
    refine mg_a FMod_39 9 ⟨rfl, by decide⟩ hx hb hts hown hW dMod_set_24 ?_
    refine lv_iload_n hx hb dMod_set_27 rfl (lv_at hl 2 rfl) ?_
    refine m_zl (j := 9) (v := ma σ 9 a0.toNatClampNeg) ⟨by decide, rfl⟩ hx hb hW (rg.in (MnoAlarm_rg (σ := (smi σ 14 (0 : Int32))) hO c_2) (by decide) (by decide)) dMod_set_28 (ra_i) ?_
    refine lv_if_eq (tgt := 34) hx hb dMod_set_29 (by decide) (fun c_3 => ?_) (fun c_3 => ?_)
    · refine lv_lload_n hx hb dMod_set_34 rfl (lv_at hl 3 rfl) ?_
      refine lv_iload hx hb dMod_set_35 (lv_at hl 5 rfl) ?_
      refine lv_if_eq (tgt := 44) hx hb dMod_set_37 (by decide) (fun c_4 => ?_) (fun c_4 => ?_)
      · refine lv_lconst (v := (1 : Int64)) hx hb dMod_set_44 (by decide) ?_
        refine ll_lt (tgt := 63) hx hb dMod_set_45 dMod_set_46 (by decide) (fun c_5 => ?_) (fun c_5 => ?_)
        · refine lv_iconst (v := (3 : Int32)) hx hb dMod_set_63 (by decide) ?_
          exact e_i hsz hx hb hr hlk hW mono_hsM (Nat.le_refl _) (Nat.le_refl _) dMod_set_64 ⟨(Eq.symm (by refine (if_pos c_2).trans ?_; refine (if_pos c_3).trans ?_; refine (if_pos c_4).trans ?_; refine (if_pos c_5).trans ?_; rfl)), congrArg (hsM o z tt) (Eq.symm (by refine (if_pos c_2).trans ?_; refine (if_pos c_3).trans ?_; refine (if_pos c_4).trans ?_; refine (if_pos c_5).trans ?_; rfl))⟩
        · refine lv_lload_n hx hb dMod_set_49 rfl (lv_at hl 3 rfl) ?_
          refine lv_aload_n hx hb dMod_set_50 rfl (lv_at hl 1 rfl) ?_
          refine mg_a FMod_7 0 ⟨rfl, by decide⟩ hx hb hts hown hW dMod_set_51 ?_
          refine lv_iload hx hb dMod_set_54 (lv_at hl 0 rfl) ?_
          refine m_ll (j := 0) (v := ml σ 0 (ma σ 6 a0.toNatClampNeg).toNatClampNeg) ⟨by decide, rfl⟩ hx hb hW (rg.in (hO.2.2.2.1 _) (by decide) (by decide)) dMod_set_56 (rl_i) ?_
          refine lv_lconst (v := (1 : Int64)) hx hb dMod_set_57 (by decide) ?_
          refine lv_lsub hx hb dMod_set_58 ?_
          refine ll_le (tgt := 65) hx hb dMod_set_59 dMod_set_60 (by decide) (fun c_6 => ?_) (fun c_6 => ?_)
          · refine lv_lload hx hb dMod_set_65 (lv_at hl 4 rfl) ?_
            refine lv_lconst (v := (0 : Int64)) hx hb dMod_set_67 (by decide) ?_
            refine ll_eq (tgt := 96) hx hb dMod_set_68 dMod_set_69 (by decide) (fun c_7 => ?_) (fun c_7 => ?_)
            · refine lv_lload_n hx hb dMod_set_96 rfl (lv_at hl 3 rfl) ?_
              refine lv_lstore (lv' := [(8, .long at_), (7, .int (ma σ 6 a0.toNatClampNeg)), (0, .ref o), (1, .int a0), (2, .long at_), (4, .long ev), (6, .int ab)]) hx hb dMod_set_97 hl (by decide) rfl (fun ls hl => ?_)
              refine lv_iload hx hb dMod_set_99 (lv_at hl 6 rfl) ?_
              refine lv_if_eq (tgt := 149) hx hb dMod_set_101 (by decide) (fun c_8 => ?_) (fun c_8 => ?_)
              · refine lv_aload_n hx hb dMod_set_149 rfl (lv_at hl 2 rfl) ?_
                refine mg_a FMod_39 9 ⟨rfl, by decide⟩ hx hb hts hown hW dMod_set_150 ?_
                refine lv_iload_n hx hb dMod_set_153 rfl (lv_at hl 3 rfl) ?_
                refine lv_iconst (v := (1 : Int32)) hx hb dMod_set_154 (by decide) ?_
                refine m_zs (j := 9) (v := (1 : Int32)) ⟨by decide, rfl⟩ hx hb hW (rg.in (MnoAlarm_rg (σ := (smi σ 14 (0 : Int32))) hO c_2) (by decide) (by decide)) (by decide) dMod_set_155 (fun H locs hW => ?_)
                refine lv_aload_n hx hb dMod_set_156 rfl (lv_at hl 2 rfl) ?_
                refine mg_a FMod_45 11 ⟨rfl, by decide⟩ hx hb hts hown hW dMod_set_157 ?_
                refine lv_iload_n hx hb dMod_set_160 rfl (lv_at hl 3 rfl) ?_
                refine lv_lload hx hb dMod_set_161 (lv_at hl 5 rfl) ?_
                refine m_ls (j := 11) (v := ev) ⟨by decide, rfl⟩ hx hb hW (rg.in (MnoAlarm_rg (σ := (smi σ 14 (0 : Int32))) hO c_2) (by decide) (by decide)) dMod_set_163 (fun H locs hW => ?_)
                refine lv_aload_n hx hb dMod_set_164 rfl (lv_at hl 2 rfl) ?_
                refine mg_a FMod_42 10 ⟨rfl, by decide⟩ hx hb hts hown hW dMod_set_165 ?_
                refine lv_iload_n hx hb dMod_set_168 rfl (lv_at hl 3 rfl) ?_
                refine lv_aload_n hx hb dMod_set_169 rfl (lv_at hl 2 rfl) ?_
                refine mg_a FMod_19 3 ⟨rfl, by decide⟩ hx hb hts hown hW dMod_set_170 ?_
                refine lv_iload hx hb dMod_set_173 (lv_at hl 1 rfl) ?_
                refine m_ll (j := 3) (v := ml σ 3 (ma σ 6 a0.toNatClampNeg).toNatClampNeg) ⟨by decide, rfl⟩ hx hb hW (rg.in (hO.2.2.2.1 _) (by decide) (by decide)) dMod_set_175 ((rl_l (by decide)).trans ((rl_a).trans (rl_i))) ?_
                refine lv_lload hx hb dMod_set_176 (lv_at hl 0 rfl) ?_
                refine lv_ladd hx hb dMod_set_178 ?_
                refine m_ls (j := 10) (v := ((ml σ 3 (ma σ 6 a0.toNatClampNeg).toNatClampNeg) + at_)) ⟨by decide, rfl⟩ hx hb hW (rg.in (MnoAlarm_rg (σ := (smi σ 14 (0 : Int32))) hO c_2) (by decide) (by decide)) dMod_set_179 (fun H locs hW => ?_)
                refine lv_iconst (v := (1 : Int32)) hx hb dMod_set_180 (by decide) ?_
                exact e_i hsz hx hb hr hlk hW mono_hsM (Nat.le_refl _) (Nat.le_refl _) dMod_set_181 ⟨(Eq.symm (by refine (if_pos c_2).trans ?_; refine (if_pos c_3).trans ?_; refine (if_pos c_4).trans ?_; refine (if_neg c_5).trans ?_; refine (if_neg c_6).trans ?_; refine (if_pos c_7).trans ?_; rfl)), congrArg (hsM o z tt) (Eq.symm (by refine (if_pos c_2).trans ?_; refine (if_pos c_3).trans ?_; refine (if_pos c_4).trans ?_; refine (if_neg c_5).trans ?_; refine (if_neg c_6).trans ?_; refine (if_pos c_7).trans ?_; rfl))⟩
              · exact absurd c_4 c_8
            · refine lv_lload hx hb dMod_set_72 (lv_at hl 4 rfl) ?_
              refine lv_ldc2 (v := (2 : Int64)) hx hb hown (hts _ QMod_124) dMod_set_74 ?_
              refine ll_lt (tgt := 94) hx hb dMod_set_77 dMod_set_78 (by decide) (fun c_9 => ?_) (fun c_9 => ?_)
              · refine lv_iconst (v := (4 : Int32)) hx hb dMod_set_94 (by decide) ?_
                exact e_i hsz hx hb hr hlk hW mono_hsM (Nat.le_refl _) (Nat.le_refl _) dMod_set_95 ⟨(Eq.symm (by refine (if_pos c_2).trans ?_; refine (if_pos c_3).trans ?_; refine (if_pos c_4).trans ?_; refine (if_neg c_5).trans ?_; refine (if_neg c_6).trans ?_; refine (if_neg c_7).trans ?_; refine (if_pos c_9).trans ?_; rfl)), congrArg (hsM o z tt) (Eq.symm (by refine (if_pos c_2).trans ?_; refine (if_pos c_3).trans ?_; refine (if_pos c_4).trans ?_; refine (if_neg c_5).trans ?_; refine (if_neg c_6).trans ?_; refine (if_neg c_7).trans ?_; refine (if_pos c_9).trans ?_; rfl))⟩
              · refine lv_lload hx hb dMod_set_81 (lv_at hl 4 rfl) ?_
                refine lv_aload_n hx hb dMod_set_83 rfl (lv_at hl 1 rfl) ?_
                refine mg_a FMod_7 0 ⟨rfl, by decide⟩ hx hb hts hown hW dMod_set_84 ?_
                refine lv_iload hx hb dMod_set_87 (lv_at hl 0 rfl) ?_
                refine m_ll (j := 0) (v := ml σ 0 (ma σ 6 a0.toNatClampNeg).toNatClampNeg) ⟨by decide, rfl⟩ hx hb hW (rg.in (hO.2.2.2.1 _) (by decide) (by decide)) dMod_set_89 (rl_i) ?_
                refine ll_le (tgt := 96) hx hb dMod_set_90 dMod_set_91 (by decide) (fun c_10 => ?_) (fun c_10 => ?_)
                · refine lv_lload_n hx hb dMod_set_96 rfl (lv_at hl 3 rfl) ?_
                  refine lv_lstore (lv' := [(8, .long at_), (7, .int (ma σ 6 a0.toNatClampNeg)), (0, .ref o), (1, .int a0), (2, .long at_), (4, .long ev), (6, .int ab)]) hx hb dMod_set_97 hl (by decide) rfl (fun ls hl => ?_)
                  refine lv_iload hx hb dMod_set_99 (lv_at hl 6 rfl) ?_
                  refine lv_if_eq (tgt := 149) hx hb dMod_set_101 (by decide) (fun c_11 => ?_) (fun c_11 => ?_)
                  · refine lv_aload_n hx hb dMod_set_149 rfl (lv_at hl 2 rfl) ?_
                    refine mg_a FMod_39 9 ⟨rfl, by decide⟩ hx hb hts hown hW dMod_set_150 ?_
                    refine lv_iload_n hx hb dMod_set_153 rfl (lv_at hl 3 rfl) ?_
                    refine lv_iconst (v := (1 : Int32)) hx hb dMod_set_154 (by decide) ?_
                    refine m_zs (j := 9) (v := (1 : Int32)) ⟨by decide, rfl⟩ hx hb hW (rg.in (MnoAlarm_rg (σ := (smi σ 14 (0 : Int32))) hO c_2) (by decide) (by decide)) (by decide) dMod_set_155 (fun H locs hW => ?_)
                    refine lv_aload_n hx hb dMod_set_156 rfl (lv_at hl 2 rfl) ?_
                    refine mg_a FMod_45 11 ⟨rfl, by decide⟩ hx hb hts hown hW dMod_set_157 ?_
                    refine lv_iload_n hx hb dMod_set_160 rfl (lv_at hl 3 rfl) ?_
                    refine lv_lload hx hb dMod_set_161 (lv_at hl 5 rfl) ?_
                    refine m_ls (j := 11) (v := ev) ⟨by decide, rfl⟩ hx hb hW (rg.in (MnoAlarm_rg (σ := (smi σ 14 (0 : Int32))) hO c_2) (by decide) (by decide)) dMod_set_163 (fun H locs hW => ?_)
                    refine lv_aload_n hx hb dMod_set_164 rfl (lv_at hl 2 rfl) ?_
                    refine mg_a FMod_42 10 ⟨rfl, by decide⟩ hx hb hts hown hW dMod_set_165 ?_
                    refine lv_iload_n hx hb dMod_set_168 rfl (lv_at hl 3 rfl) ?_
                    refine lv_aload_n hx hb dMod_set_169 rfl (lv_at hl 2 rfl) ?_
                    refine mg_a FMod_19 3 ⟨rfl, by decide⟩ hx hb hts hown hW dMod_set_170 ?_
                    refine lv_iload hx hb dMod_set_173 (lv_at hl 1 rfl) ?_
                    refine m_ll (j := 3) (v := ml σ 3 (ma σ 6 a0.toNatClampNeg).toNatClampNeg) ⟨by decide, rfl⟩ hx hb hW (rg.in (hO.2.2.2.1 _) (by decide) (by decide)) dMod_set_175 ((rl_l (by decide)).trans ((rl_a).trans (rl_i))) ?_
                    refine lv_lload hx hb dMod_set_176 (lv_at hl 0 rfl) ?_
                    refine lv_ladd hx hb dMod_set_178 ?_
                    refine m_ls (j := 10) (v := ((ml σ 3 (ma σ 6 a0.toNatClampNeg).toNatClampNeg) + at_)) ⟨by decide, rfl⟩ hx hb hW (rg.in (MnoAlarm_rg (σ := (smi σ 14 (0 : Int32))) hO c_2) (by decide) (by decide)) dMod_set_179 (fun H locs hW => ?_)
                    refine lv_iconst (v := (1 : Int32)) hx hb dMod_set_180 (by decide) ?_
                    exact e_i hsz hx hb hr hlk hW mono_hsM (Nat.le_refl _) (Nat.le_refl _) dMod_set_181 ⟨(Eq.symm (by refine (if_pos c_2).trans ?_; refine (if_pos c_3).trans ?_; refine (if_pos c_4).trans ?_; refine (if_neg c_5).trans ?_; refine (if_neg c_6).trans ?_; refine (if_neg c_7).trans ?_; refine (if_neg c_9).trans ?_; refine (if_neg c_10).trans ?_; rfl)), congrArg (hsM o z tt) (Eq.symm (by refine (if_pos c_2).trans ?_; refine (if_pos c_3).trans ?_; refine (if_pos c_4).trans ?_; refine (if_neg c_5).trans ?_; refine (if_neg c_6).trans ?_; refine (if_neg c_7).trans ?_; refine (if_neg c_9).trans ?_; refine (if_neg c_10).trans ?_; rfl))⟩
                  · exact absurd c_4 c_11
                · refine lv_iconst (v := (4 : Int32)) hx hb dMod_set_94 (by decide) ?_
                  exact e_i hsz hx hb hr hlk hW mono_hsM (Nat.le_refl _) (Nat.le_refl _) dMod_set_95 ⟨(Eq.symm (by refine (if_pos c_2).trans ?_; refine (if_pos c_3).trans ?_; refine (if_pos c_4).trans ?_; refine (if_neg c_5).trans ?_; refine (if_neg c_6).trans ?_; refine (if_neg c_7).trans ?_; refine (if_neg c_9).trans ?_; refine (if_pos c_10).trans ?_; rfl)), congrArg (hsM o z tt) (Eq.symm (by refine (if_pos c_2).trans ?_; refine (if_pos c_3).trans ?_; refine (if_pos c_4).trans ?_; refine (if_neg c_5).trans ?_; refine (if_neg c_6).trans ?_; refine (if_neg c_7).trans ?_; refine (if_neg c_9).trans ?_; refine (if_pos c_10).trans ?_; rfl))⟩
          · refine lv_iconst (v := (3 : Int32)) hx hb dMod_set_63 (by decide) ?_
            exact e_i hsz hx hb hr hlk hW mono_hsM (Nat.le_refl _) (Nat.le_refl _) dMod_set_64 ⟨(Eq.symm (by refine (if_pos c_2).trans ?_; refine (if_pos c_3).trans ?_; refine (if_pos c_4).trans ?_; refine (if_neg c_5).trans ?_; refine (if_pos c_6).trans ?_; rfl)), congrArg (hsM o z tt) (Eq.symm (by refine (if_pos c_2).trans ?_; refine (if_pos c_3).trans ?_; refine (if_pos c_4).trans ?_; refine (if_neg c_5).trans ?_; refine (if_pos c_6).trans ?_; rfl))⟩
      · refine lv_lconst (v := (0 : Int64)) hx hb dMod_set_40 (by decide) ?_
        refine lv_goto (tgt := 45) hx hb dMod_set_41 (by decide) ?_
        refine ll_lt (tgt := 63) hx hb dMod_set_45 dMod_set_46 (by decide) (fun c_12 => ?_) (fun c_12 => ?_)
        · refine lv_iconst (v := (3 : Int32)) hx hb dMod_set_63 (by decide) ?_
          exact e_i hsz hx hb hr hlk hW mono_hsM (Nat.le_refl _) (Nat.le_refl _) dMod_set_64 ⟨(Eq.symm (by refine (if_pos c_2).trans ?_; refine (if_pos c_3).trans ?_; refine (if_neg c_4).trans ?_; refine (if_pos c_12).trans ?_; rfl)), congrArg (hsM o z tt) (Eq.symm (by refine (if_pos c_2).trans ?_; refine (if_pos c_3).trans ?_; refine (if_neg c_4).trans ?_; refine (if_pos c_12).trans ?_; rfl))⟩
        · refine lv_lload_n hx hb dMod_set_49 rfl (lv_at hl 3 rfl) ?_
          refine lv_aload_n hx hb dMod_set_50 rfl (lv_at hl 1 rfl) ?_
          refine mg_a FMod_7 0 ⟨rfl, by decide⟩ hx hb hts hown hW dMod_set_51 ?_
          refine lv_iload hx hb dMod_set_54 (lv_at hl 0 rfl) ?_
          refine m_ll (j := 0) (v := ml σ 0 (ma σ 6 a0.toNatClampNeg).toNatClampNeg) ⟨by decide, rfl⟩ hx hb hW (rg.in (hO.2.2.2.1 _) (by decide) (by decide)) dMod_set_56 (rl_i) ?_
          refine lv_lconst (v := (1 : Int64)) hx hb dMod_set_57 (by decide) ?_
          refine lv_lsub hx hb dMod_set_58 ?_
          refine ll_le (tgt := 65) hx hb dMod_set_59 dMod_set_60 (by decide) (fun c_13 => ?_) (fun c_13 => ?_)
          · refine lv_lload hx hb dMod_set_65 (lv_at hl 4 rfl) ?_
            refine lv_lconst (v := (0 : Int64)) hx hb dMod_set_67 (by decide) ?_
            refine ll_eq (tgt := 96) hx hb dMod_set_68 dMod_set_69 (by decide) (fun c_14 => ?_) (fun c_14 => ?_)
            · refine lv_lload_n hx hb dMod_set_96 rfl (lv_at hl 3 rfl) ?_
              refine lv_lstore (lv' := [(8, .long at_), (7, .int (ma σ 6 a0.toNatClampNeg)), (0, .ref o), (1, .int a0), (2, .long at_), (4, .long ev), (6, .int ab)]) hx hb dMod_set_97 hl (by decide) rfl (fun ls hl => ?_)
              refine lv_iload hx hb dMod_set_99 (lv_at hl 6 rfl) ?_
              refine lv_if_eq (tgt := 149) hx hb dMod_set_101 (by decide) (fun c_15 => ?_) (fun c_15 => ?_)
              · exact absurd c_15 c_4
              · refine lv_aload_n hx hb dMod_set_104 rfl (lv_at hl 2 rfl) ?_
                refine mg_a FMod_19 3 ⟨rfl, by decide⟩ hx hb hts hown hW dMod_set_105 ?_
                refine lv_iload hx hb dMod_set_108 (lv_at hl 1 rfl) ?_
                refine m_ll (j := 3) (v := ml σ 3 (ma σ 6 a0.toNatClampNeg).toNatClampNeg) ⟨by decide, rfl⟩ hx hb hW (rg.in (hO.2.2.2.1 _) (by decide) (by decide)) dMod_set_110 (rl_i) ?_
                refine lv_aload_n hx hb dMod_set_111 rfl (lv_at hl 2 rfl) ?_
                refine mg_a FMod_7 0 ⟨rfl, by decide⟩ hx hb hts hown hW dMod_set_112 ?_
                refine lv_iload hx hb dMod_set_115 (lv_at hl 1 rfl) ?_
                refine m_ll (j := 0) (v := ml σ 0 (ma σ 6 a0.toNatClampNeg).toNatClampNeg) ⟨by decide, rfl⟩ hx hb hW (rg.in (hO.2.2.2.1 _) (by decide) (by decide)) dMod_set_117 (rl_i) ?_
                refine lv_lrem hx hb dMod_set_118 (base_ne c_12 c_13) ?_
                refine lv_lstore (lv' := [(10, .long ((ml σ 3 (ma σ 6 a0.toNatClampNeg).toNatClampNeg) - (ml σ 3 (ma σ 6 a0.toNatClampNeg).toNatClampNeg) / (ml σ 0 (ma σ 6 a0.toNatClampNeg).toNatClampNeg) * (ml σ 0 (ma σ 6 a0.toNatClampNeg).toNatClampNeg))), (8, .long at_), (7, .int (ma σ 6 a0.toNatClampNeg)), (0, .ref o), (1, .int a0), (2, .long at_), (4, .long ev), (6, .int ab)]) hx hb dMod_set_119 hl (by decide) rfl (fun ls hl => ?_)
                refine lv_lload_n hx hb dMod_set_121 rfl (lv_at hl 5 rfl) ?_
                refine lv_lload hx hb dMod_set_122 (lv_at hl 0 rfl) ?_
                refine ll_le (tgt := 135) hx hb dMod_set_124 dMod_set_125 (by decide) (fun c_16 => ?_) (fun c_16 => ?_)
                · refine lv_lload_n hx hb dMod_set_135 rfl (lv_at hl 5 rfl) ?_
                  refine lv_lload hx hb dMod_set_136 (lv_at hl 0 rfl) ?_
                  refine lv_lsub hx hb dMod_set_138 ?_
                  refine lv_aload_n hx hb dMod_set_139 rfl (lv_at hl 3 rfl) ?_
                  refine mg_a FMod_7 0 ⟨rfl, by decide⟩ hx hb hts hown hW dMod_set_140 ?_
                  refine lv_iload hx hb dMod_set_143 (lv_at hl 2 rfl) ?_
                  refine m_ll (j := 0) (v := ml σ 0 (ma σ 6 a0.toNatClampNeg).toNatClampNeg) ⟨by decide, rfl⟩ hx hb hW (rg.in (hO.2.2.2.1 _) (by decide) (by decide)) dMod_set_145 (rl_i) ?_
                  refine lv_ladd hx hb dMod_set_146 ?_
                  refine lv_lstore (lv' := [(8, .long ((at_ - ((ml σ 3 (ma σ 6 a0.toNatClampNeg).toNatClampNeg) - (ml σ 3 (ma σ 6 a0.toNatClampNeg).toNatClampNeg) / (ml σ 0 (ma σ 6 a0.toNatClampNeg).toNatClampNeg) * (ml σ 0 (ma σ 6 a0.toNatClampNeg).toNatClampNeg))) + (ml σ 0 (ma σ 6 a0.toNatClampNeg).toNatClampNeg))), (10, .long ((ml σ 3 (ma σ 6 a0.toNatClampNeg).toNatClampNeg) - (ml σ 3 (ma σ 6 a0.toNatClampNeg).toNatClampNeg) / (ml σ 0 (ma σ 6 a0.toNatClampNeg).toNatClampNeg) * (ml σ 0 (ma σ 6 a0.toNatClampNeg).toNatClampNeg))), (7, .int (ma σ 6 a0.toNatClampNeg)), (0, .ref o), (1, .int a0), (2, .long at_), (4, .long ev), (6, .int ab)]) hx hb dMod_set_147 hl (by decide) rfl (fun ls hl => ?_)
                  refine lv_aload_n hx hb dMod_set_149 rfl (lv_at hl 3 rfl) ?_
                  refine mg_a FMod_39 9 ⟨rfl, by decide⟩ hx hb hts hown hW dMod_set_150 ?_
                  refine lv_iload_n hx hb dMod_set_153 rfl (lv_at hl 4 rfl) ?_
                  refine lv_iconst (v := (1 : Int32)) hx hb dMod_set_154 (by decide) ?_
                  refine m_zs (j := 9) (v := (1 : Int32)) ⟨by decide, rfl⟩ hx hb hW (rg.in (MnoAlarm_rg (σ := (smi σ 14 (0 : Int32))) hO c_2) (by decide) (by decide)) (by decide) dMod_set_155 (fun H locs hW => ?_)
                  refine lv_aload_n hx hb dMod_set_156 rfl (lv_at hl 3 rfl) ?_
                  refine mg_a FMod_45 11 ⟨rfl, by decide⟩ hx hb hts hown hW dMod_set_157 ?_
                  refine lv_iload_n hx hb dMod_set_160 rfl (lv_at hl 4 rfl) ?_
                  refine lv_lload hx hb dMod_set_161 (lv_at hl 6 rfl) ?_
                  refine m_ls (j := 11) (v := ev) ⟨by decide, rfl⟩ hx hb hW (rg.in (MnoAlarm_rg (σ := (smi σ 14 (0 : Int32))) hO c_2) (by decide) (by decide)) dMod_set_163 (fun H locs hW => ?_)
                  refine lv_aload_n hx hb dMod_set_164 rfl (lv_at hl 3 rfl) ?_
                  refine mg_a FMod_42 10 ⟨rfl, by decide⟩ hx hb hts hown hW dMod_set_165 ?_
                  refine lv_iload_n hx hb dMod_set_168 rfl (lv_at hl 4 rfl) ?_
                  refine lv_aload_n hx hb dMod_set_169 rfl (lv_at hl 3 rfl) ?_
                  refine mg_a FMod_19 3 ⟨rfl, by decide⟩ hx hb hts hown hW dMod_set_170 ?_
                  refine lv_iload hx hb dMod_set_173 (lv_at hl 2 rfl) ?_
                  refine m_ll (j := 3) (v := ml σ 3 (ma σ 6 a0.toNatClampNeg).toNatClampNeg) ⟨by decide, rfl⟩ hx hb hW (rg.in (hO.2.2.2.1 _) (by decide) (by decide)) dMod_set_175 ((rl_l (by decide)).trans ((rl_a).trans (rl_i))) ?_
                  refine lv_lload hx hb dMod_set_176 (lv_at hl 0 rfl) ?_
                  refine lv_ladd hx hb dMod_set_178 ?_
                  refine m_ls (j := 10) (v := ((ml σ 3 (ma σ 6 a0.toNatClampNeg).toNatClampNeg) + ((at_ - ((ml σ 3 (ma σ 6 a0.toNatClampNeg).toNatClampNeg) - (ml σ 3 (ma σ 6 a0.toNatClampNeg).toNatClampNeg) / (ml σ 0 (ma σ 6 a0.toNatClampNeg).toNatClampNeg) * (ml σ 0 (ma σ 6 a0.toNatClampNeg).toNatClampNeg))) + (ml σ 0 (ma σ 6 a0.toNatClampNeg).toNatClampNeg)))) ⟨by decide, rfl⟩ hx hb hW (rg.in (MnoAlarm_rg (σ := (smi σ 14 (0 : Int32))) hO c_2) (by decide) (by decide)) dMod_set_179 (fun H locs hW => ?_)
                  refine lv_iconst (v := (1 : Int32)) hx hb dMod_set_180 (by decide) ?_
                  exact e_i hsz hx hb hr hlk hW mono_hsM (Nat.le_refl _) (Nat.le_refl _) dMod_set_181 ⟨(Eq.symm (by refine (if_pos c_2).trans ?_; refine (if_pos c_3).trans ?_; refine (if_neg c_4).trans ?_; refine (if_neg c_12).trans ?_; refine (if_neg c_13).trans ?_; refine (if_pos c_14).trans ?_; refine (if_neg c_16).trans ?_; rfl)), congrArg (hsM o z tt) (Eq.symm (by refine (if_pos c_2).trans ?_; refine (if_pos c_3).trans ?_; refine (if_neg c_4).trans ?_; refine (if_neg c_12).trans ?_; refine (if_neg c_13).trans ?_; refine (if_pos c_14).trans ?_; refine (if_neg c_16).trans ?_; rfl))⟩
                · refine lv_lload_n hx hb dMod_set_128 rfl (lv_at hl 5 rfl) ?_
                  refine lv_lload hx hb dMod_set_129 (lv_at hl 0 rfl) ?_
                  refine lv_lsub hx hb dMod_set_131 ?_
                  refine lv_goto (tgt := 147) hx hb dMod_set_132 (by decide) ?_
                  refine lv_lstore (lv' := [(8, .long (at_ - ((ml σ 3 (ma σ 6 a0.toNatClampNeg).toNatClampNeg) - (ml σ 3 (ma σ 6 a0.toNatClampNeg).toNatClampNeg) / (ml σ 0 (ma σ 6 a0.toNatClampNeg).toNatClampNeg) * (ml σ 0 (ma σ 6 a0.toNatClampNeg).toNatClampNeg)))), (10, .long ((ml σ 3 (ma σ 6 a0.toNatClampNeg).toNatClampNeg) - (ml σ 3 (ma σ 6 a0.toNatClampNeg).toNatClampNeg) / (ml σ 0 (ma σ 6 a0.toNatClampNeg).toNatClampNeg) * (ml σ 0 (ma σ 6 a0.toNatClampNeg).toNatClampNeg))), (7, .int (ma σ 6 a0.toNatClampNeg)), (0, .ref o), (1, .int a0), (2, .long at_), (4, .long ev), (6, .int ab)]) hx hb dMod_set_147 hl (by decide) rfl (fun ls hl => ?_)
                  refine lv_aload_n hx hb dMod_set_149 rfl (lv_at hl 3 rfl) ?_
                  refine mg_a FMod_39 9 ⟨rfl, by decide⟩ hx hb hts hown hW dMod_set_150 ?_
                  refine lv_iload_n hx hb dMod_set_153 rfl (lv_at hl 4 rfl) ?_
                  refine lv_iconst (v := (1 : Int32)) hx hb dMod_set_154 (by decide) ?_
                  refine m_zs (j := 9) (v := (1 : Int32)) ⟨by decide, rfl⟩ hx hb hW (rg.in (MnoAlarm_rg (σ := (smi σ 14 (0 : Int32))) hO c_2) (by decide) (by decide)) (by decide) dMod_set_155 (fun H locs hW => ?_)
                  refine lv_aload_n hx hb dMod_set_156 rfl (lv_at hl 3 rfl) ?_
                  refine mg_a FMod_45 11 ⟨rfl, by decide⟩ hx hb hts hown hW dMod_set_157 ?_
                  refine lv_iload_n hx hb dMod_set_160 rfl (lv_at hl 4 rfl) ?_
                  refine lv_lload hx hb dMod_set_161 (lv_at hl 6 rfl) ?_
                  refine m_ls (j := 11) (v := ev) ⟨by decide, rfl⟩ hx hb hW (rg.in (MnoAlarm_rg (σ := (smi σ 14 (0 : Int32))) hO c_2) (by decide) (by decide)) dMod_set_163 (fun H locs hW => ?_)
                  refine lv_aload_n hx hb dMod_set_164 rfl (lv_at hl 3 rfl) ?_
                  refine mg_a FMod_42 10 ⟨rfl, by decide⟩ hx hb hts hown hW dMod_set_165 ?_
                  refine lv_iload_n hx hb dMod_set_168 rfl (lv_at hl 4 rfl) ?_
                  refine lv_aload_n hx hb dMod_set_169 rfl (lv_at hl 3 rfl) ?_
                  refine mg_a FMod_19 3 ⟨rfl, by decide⟩ hx hb hts hown hW dMod_set_170 ?_
                  refine lv_iload hx hb dMod_set_173 (lv_at hl 2 rfl) ?_
                  refine m_ll (j := 3) (v := ml σ 3 (ma σ 6 a0.toNatClampNeg).toNatClampNeg) ⟨by decide, rfl⟩ hx hb hW (rg.in (hO.2.2.2.1 _) (by decide) (by decide)) dMod_set_175 ((rl_l (by decide)).trans ((rl_a).trans (rl_i))) ?_
                  refine lv_lload hx hb dMod_set_176 (lv_at hl 0 rfl) ?_
                  refine lv_ladd hx hb dMod_set_178 ?_
                  refine m_ls (j := 10) (v := ((ml σ 3 (ma σ 6 a0.toNatClampNeg).toNatClampNeg) + (at_ - ((ml σ 3 (ma σ 6 a0.toNatClampNeg).toNatClampNeg) - (ml σ 3 (ma σ 6 a0.toNatClampNeg).toNatClampNeg) / (ml σ 0 (ma σ 6 a0.toNatClampNeg).toNatClampNeg) * (ml σ 0 (ma σ 6 a0.toNatClampNeg).toNatClampNeg))))) ⟨by decide, rfl⟩ hx hb hW (rg.in (MnoAlarm_rg (σ := (smi σ 14 (0 : Int32))) hO c_2) (by decide) (by decide)) dMod_set_179 (fun H locs hW => ?_)
                  refine lv_iconst (v := (1 : Int32)) hx hb dMod_set_180 (by decide) ?_
                  exact e_i hsz hx hb hr hlk hW mono_hsM (Nat.le_refl _) (Nat.le_refl _) dMod_set_181 ⟨(Eq.symm (by refine (if_pos c_2).trans ?_; refine (if_pos c_3).trans ?_; refine (if_neg c_4).trans ?_; refine (if_neg c_12).trans ?_; refine (if_neg c_13).trans ?_; refine (if_pos c_14).trans ?_; refine (if_pos c_16).trans ?_; rfl)), congrArg (hsM o z tt) (Eq.symm (by refine (if_pos c_2).trans ?_; refine (if_pos c_3).trans ?_; refine (if_neg c_4).trans ?_; refine (if_neg c_12).trans ?_; refine (if_neg c_13).trans ?_; refine (if_pos c_14).trans ?_; refine (if_pos c_16).trans ?_; rfl))⟩
            · refine lv_lload hx hb dMod_set_72 (lv_at hl 4 rfl) ?_
              refine lv_ldc2 (v := (2 : Int64)) hx hb hown (hts _ QMod_124) dMod_set_74 ?_
              refine ll_lt (tgt := 94) hx hb dMod_set_77 dMod_set_78 (by decide) (fun c_17 => ?_) (fun c_17 => ?_)
              · refine lv_iconst (v := (4 : Int32)) hx hb dMod_set_94 (by decide) ?_
                exact e_i hsz hx hb hr hlk hW mono_hsM (Nat.le_refl _) (Nat.le_refl _) dMod_set_95 ⟨(Eq.symm (by refine (if_pos c_2).trans ?_; refine (if_pos c_3).trans ?_; refine (if_neg c_4).trans ?_; refine (if_neg c_12).trans ?_; refine (if_neg c_13).trans ?_; refine (if_neg c_14).trans ?_; refine (if_pos c_17).trans ?_; rfl)), congrArg (hsM o z tt) (Eq.symm (by refine (if_pos c_2).trans ?_; refine (if_pos c_3).trans ?_; refine (if_neg c_4).trans ?_; refine (if_neg c_12).trans ?_; refine (if_neg c_13).trans ?_; refine (if_neg c_14).trans ?_; refine (if_pos c_17).trans ?_; rfl))⟩
              · refine lv_lload hx hb dMod_set_81 (lv_at hl 4 rfl) ?_
                refine lv_aload_n hx hb dMod_set_83 rfl (lv_at hl 1 rfl) ?_
                refine mg_a FMod_7 0 ⟨rfl, by decide⟩ hx hb hts hown hW dMod_set_84 ?_
                refine lv_iload hx hb dMod_set_87 (lv_at hl 0 rfl) ?_
                refine m_ll (j := 0) (v := ml σ 0 (ma σ 6 a0.toNatClampNeg).toNatClampNeg) ⟨by decide, rfl⟩ hx hb hW (rg.in (hO.2.2.2.1 _) (by decide) (by decide)) dMod_set_89 (rl_i) ?_
                refine ll_le (tgt := 96) hx hb dMod_set_90 dMod_set_91 (by decide) (fun c_18 => ?_) (fun c_18 => ?_)
                · refine lv_lload_n hx hb dMod_set_96 rfl (lv_at hl 3 rfl) ?_
                  refine lv_lstore (lv' := [(8, .long at_), (7, .int (ma σ 6 a0.toNatClampNeg)), (0, .ref o), (1, .int a0), (2, .long at_), (4, .long ev), (6, .int ab)]) hx hb dMod_set_97 hl (by decide) rfl (fun ls hl => ?_)
                  refine lv_iload hx hb dMod_set_99 (lv_at hl 6 rfl) ?_
                  refine lv_if_eq (tgt := 149) hx hb dMod_set_101 (by decide) (fun c_19 => ?_) (fun c_19 => ?_)
                  · exact absurd c_19 c_4
                  · refine lv_aload_n hx hb dMod_set_104 rfl (lv_at hl 2 rfl) ?_
                    refine mg_a FMod_19 3 ⟨rfl, by decide⟩ hx hb hts hown hW dMod_set_105 ?_
                    refine lv_iload hx hb dMod_set_108 (lv_at hl 1 rfl) ?_
                    refine m_ll (j := 3) (v := ml σ 3 (ma σ 6 a0.toNatClampNeg).toNatClampNeg) ⟨by decide, rfl⟩ hx hb hW (rg.in (hO.2.2.2.1 _) (by decide) (by decide)) dMod_set_110 (rl_i) ?_
                    refine lv_aload_n hx hb dMod_set_111 rfl (lv_at hl 2 rfl) ?_
                    refine mg_a FMod_7 0 ⟨rfl, by decide⟩ hx hb hts hown hW dMod_set_112 ?_
                    refine lv_iload hx hb dMod_set_115 (lv_at hl 1 rfl) ?_
                    refine m_ll (j := 0) (v := ml σ 0 (ma σ 6 a0.toNatClampNeg).toNatClampNeg) ⟨by decide, rfl⟩ hx hb hW (rg.in (hO.2.2.2.1 _) (by decide) (by decide)) dMod_set_117 (rl_i) ?_
                    refine lv_lrem hx hb dMod_set_118 (base_ne c_12 c_13) ?_
                    refine lv_lstore (lv' := [(10, .long ((ml σ 3 (ma σ 6 a0.toNatClampNeg).toNatClampNeg) - (ml σ 3 (ma σ 6 a0.toNatClampNeg).toNatClampNeg) / (ml σ 0 (ma σ 6 a0.toNatClampNeg).toNatClampNeg) * (ml σ 0 (ma σ 6 a0.toNatClampNeg).toNatClampNeg))), (8, .long at_), (7, .int (ma σ 6 a0.toNatClampNeg)), (0, .ref o), (1, .int a0), (2, .long at_), (4, .long ev), (6, .int ab)]) hx hb dMod_set_119 hl (by decide) rfl (fun ls hl => ?_)
                    refine lv_lload_n hx hb dMod_set_121 rfl (lv_at hl 5 rfl) ?_
                    refine lv_lload hx hb dMod_set_122 (lv_at hl 0 rfl) ?_
                    refine ll_le (tgt := 135) hx hb dMod_set_124 dMod_set_125 (by decide) (fun c_20 => ?_) (fun c_20 => ?_)
                    · refine lv_lload_n hx hb dMod_set_135 rfl (lv_at hl 5 rfl) ?_
                      refine lv_lload hx hb dMod_set_136 (lv_at hl 0 rfl) ?_
                      refine lv_lsub hx hb dMod_set_138 ?_
                      refine lv_aload_n hx hb dMod_set_139 rfl (lv_at hl 3 rfl) ?_
                      refine mg_a FMod_7 0 ⟨rfl, by decide⟩ hx hb hts hown hW dMod_set_140 ?_
                      refine lv_iload hx hb dMod_set_143 (lv_at hl 2 rfl) ?_
                      refine m_ll (j := 0) (v := ml σ 0 (ma σ 6 a0.toNatClampNeg).toNatClampNeg) ⟨by decide, rfl⟩ hx hb hW (rg.in (hO.2.2.2.1 _) (by decide) (by decide)) dMod_set_145 (rl_i) ?_
                      refine lv_ladd hx hb dMod_set_146 ?_
                      refine lv_lstore (lv' := [(8, .long ((at_ - ((ml σ 3 (ma σ 6 a0.toNatClampNeg).toNatClampNeg) - (ml σ 3 (ma σ 6 a0.toNatClampNeg).toNatClampNeg) / (ml σ 0 (ma σ 6 a0.toNatClampNeg).toNatClampNeg) * (ml σ 0 (ma σ 6 a0.toNatClampNeg).toNatClampNeg))) + (ml σ 0 (ma σ 6 a0.toNatClampNeg).toNatClampNeg))), (10, .long ((ml σ 3 (ma σ 6 a0.toNatClampNeg).toNatClampNeg) - (ml σ 3 (ma σ 6 a0.toNatClampNeg).toNatClampNeg) / (ml σ 0 (ma σ 6 a0.toNatClampNeg).toNatClampNeg) * (ml σ 0 (ma σ 6 a0.toNatClampNeg).toNatClampNeg))), (7, .int (ma σ 6 a0.toNatClampNeg)), (0, .ref o), (1, .int a0), (2, .long at_), (4, .long ev), (6, .int ab)]) hx hb dMod_set_147 hl (by decide) rfl (fun ls hl => ?_)
                      refine lv_aload_n hx hb dMod_set_149 rfl (lv_at hl 3 rfl) ?_
                      refine mg_a FMod_39 9 ⟨rfl, by decide⟩ hx hb hts hown hW dMod_set_150 ?_
                      refine lv_iload_n hx hb dMod_set_153 rfl (lv_at hl 4 rfl) ?_
                      refine lv_iconst (v := (1 : Int32)) hx hb dMod_set_154 (by decide) ?_
                      refine m_zs (j := 9) (v := (1 : Int32)) ⟨by decide, rfl⟩ hx hb hW (rg.in (MnoAlarm_rg (σ := (smi σ 14 (0 : Int32))) hO c_2) (by decide) (by decide)) (by decide) dMod_set_155 (fun H locs hW => ?_)
                      refine lv_aload_n hx hb dMod_set_156 rfl (lv_at hl 3 rfl) ?_
                      refine mg_a FMod_45 11 ⟨rfl, by decide⟩ hx hb hts hown hW dMod_set_157 ?_
                      refine lv_iload_n hx hb dMod_set_160 rfl (lv_at hl 4 rfl) ?_
                      refine lv_lload hx hb dMod_set_161 (lv_at hl 6 rfl) ?_
                      refine m_ls (j := 11) (v := ev) ⟨by decide, rfl⟩ hx hb hW (rg.in (MnoAlarm_rg (σ := (smi σ 14 (0 : Int32))) hO c_2) (by decide) (by decide)) dMod_set_163 (fun H locs hW => ?_)
                      refine lv_aload_n hx hb dMod_set_164 rfl (lv_at hl 3 rfl) ?_
                      refine mg_a FMod_42 10 ⟨rfl, by decide⟩ hx hb hts hown hW dMod_set_165 ?_
                      refine lv_iload_n hx hb dMod_set_168 rfl (lv_at hl 4 rfl) ?_
                      refine lv_aload_n hx hb dMod_set_169 rfl (lv_at hl 3 rfl) ?_
                      refine mg_a FMod_19 3 ⟨rfl, by decide⟩ hx hb hts hown hW dMod_set_170 ?_
                      refine lv_iload hx hb dMod_set_173 (lv_at hl 2 rfl) ?_
                      refine m_ll (j := 3) (v := ml σ 3 (ma σ 6 a0.toNatClampNeg).toNatClampNeg) ⟨by decide, rfl⟩ hx hb hW (rg.in (hO.2.2.2.1 _) (by decide) (by decide)) dMod_set_175 ((rl_l (by decide)).trans ((rl_a).trans (rl_i))) ?_
                      refine lv_lload hx hb dMod_set_176 (lv_at hl 0 rfl) ?_
                      refine lv_ladd hx hb dMod_set_178 ?_
                      refine m_ls (j := 10) (v := ((ml σ 3 (ma σ 6 a0.toNatClampNeg).toNatClampNeg) + ((at_ - ((ml σ 3 (ma σ 6 a0.toNatClampNeg).toNatClampNeg) - (ml σ 3 (ma σ 6 a0.toNatClampNeg).toNatClampNeg) / (ml σ 0 (ma σ 6 a0.toNatClampNeg).toNatClampNeg) * (ml σ 0 (ma σ 6 a0.toNatClampNeg).toNatClampNeg))) + (ml σ 0 (ma σ 6 a0.toNatClampNeg).toNatClampNeg)))) ⟨by decide, rfl⟩ hx hb hW (rg.in (MnoAlarm_rg (σ := (smi σ 14 (0 : Int32))) hO c_2) (by decide) (by decide)) dMod_set_179 (fun H locs hW => ?_)
                      refine lv_iconst (v := (1 : Int32)) hx hb dMod_set_180 (by decide) ?_
                      exact e_i hsz hx hb hr hlk hW mono_hsM (Nat.le_refl _) (Nat.le_refl _) dMod_set_181 ⟨(Eq.symm (by refine (if_pos c_2).trans ?_; refine (if_pos c_3).trans ?_; refine (if_neg c_4).trans ?_; refine (if_neg c_12).trans ?_; refine (if_neg c_13).trans ?_; refine (if_neg c_14).trans ?_; refine (if_neg c_17).trans ?_; refine (if_neg c_18).trans ?_; refine (if_neg c_20).trans ?_; rfl)), congrArg (hsM o z tt) (Eq.symm (by refine (if_pos c_2).trans ?_; refine (if_pos c_3).trans ?_; refine (if_neg c_4).trans ?_; refine (if_neg c_12).trans ?_; refine (if_neg c_13).trans ?_; refine (if_neg c_14).trans ?_; refine (if_neg c_17).trans ?_; refine (if_neg c_18).trans ?_; refine (if_neg c_20).trans ?_; rfl))⟩
                    · refine lv_lload_n hx hb dMod_set_128 rfl (lv_at hl 5 rfl) ?_
                      refine lv_lload hx hb dMod_set_129 (lv_at hl 0 rfl) ?_
                      refine lv_lsub hx hb dMod_set_131 ?_
                      refine lv_goto (tgt := 147) hx hb dMod_set_132 (by decide) ?_
                      refine lv_lstore (lv' := [(8, .long (at_ - ((ml σ 3 (ma σ 6 a0.toNatClampNeg).toNatClampNeg) - (ml σ 3 (ma σ 6 a0.toNatClampNeg).toNatClampNeg) / (ml σ 0 (ma σ 6 a0.toNatClampNeg).toNatClampNeg) * (ml σ 0 (ma σ 6 a0.toNatClampNeg).toNatClampNeg)))), (10, .long ((ml σ 3 (ma σ 6 a0.toNatClampNeg).toNatClampNeg) - (ml σ 3 (ma σ 6 a0.toNatClampNeg).toNatClampNeg) / (ml σ 0 (ma σ 6 a0.toNatClampNeg).toNatClampNeg) * (ml σ 0 (ma σ 6 a0.toNatClampNeg).toNatClampNeg))), (7, .int (ma σ 6 a0.toNatClampNeg)), (0, .ref o), (1, .int a0), (2, .long at_), (4, .long ev), (6, .int ab)]) hx hb dMod_set_147 hl (by decide) rfl (fun ls hl => ?_)
                      refine lv_aload_n hx hb dMod_set_149 rfl (lv_at hl 3 rfl) ?_
                      refine mg_a FMod_39 9 ⟨rfl, by decide⟩ hx hb hts hown hW dMod_set_150 ?_
                      refine lv_iload_n hx hb dMod_set_153 rfl (lv_at hl 4 rfl) ?_
                      refine lv_iconst (v := (1 : Int32)) hx hb dMod_set_154 (by decide) ?_
                      refine m_zs (j := 9) (v := (1 : Int32)) ⟨by decide, rfl⟩ hx hb hW (rg.in (MnoAlarm_rg (σ := (smi σ 14 (0 : Int32))) hO c_2) (by decide) (by decide)) (by decide) dMod_set_155 (fun H locs hW => ?_)
                      refine lv_aload_n hx hb dMod_set_156 rfl (lv_at hl 3 rfl) ?_
                      refine mg_a FMod_45 11 ⟨rfl, by decide⟩ hx hb hts hown hW dMod_set_157 ?_
                      refine lv_iload_n hx hb dMod_set_160 rfl (lv_at hl 4 rfl) ?_
                      refine lv_lload hx hb dMod_set_161 (lv_at hl 6 rfl) ?_
                      refine m_ls (j := 11) (v := ev) ⟨by decide, rfl⟩ hx hb hW (rg.in (MnoAlarm_rg (σ := (smi σ 14 (0 : Int32))) hO c_2) (by decide) (by decide)) dMod_set_163 (fun H locs hW => ?_)
                      refine lv_aload_n hx hb dMod_set_164 rfl (lv_at hl 3 rfl) ?_
                      refine mg_a FMod_42 10 ⟨rfl, by decide⟩ hx hb hts hown hW dMod_set_165 ?_
                      refine lv_iload_n hx hb dMod_set_168 rfl (lv_at hl 4 rfl) ?_
                      refine lv_aload_n hx hb dMod_set_169 rfl (lv_at hl 3 rfl) ?_
                      refine mg_a FMod_19 3 ⟨rfl, by decide⟩ hx hb hts hown hW dMod_set_170 ?_
                      refine lv_iload hx hb dMod_set_173 (lv_at hl 2 rfl) ?_
                      refine m_ll (j := 3) (v := ml σ 3 (ma σ 6 a0.toNatClampNeg).toNatClampNeg) ⟨by decide, rfl⟩ hx hb hW (rg.in (hO.2.2.2.1 _) (by decide) (by decide)) dMod_set_175 ((rl_l (by decide)).trans ((rl_a).trans (rl_i))) ?_
                      refine lv_lload hx hb dMod_set_176 (lv_at hl 0 rfl) ?_
                      refine lv_ladd hx hb dMod_set_178 ?_
                      refine m_ls (j := 10) (v := ((ml σ 3 (ma σ 6 a0.toNatClampNeg).toNatClampNeg) + (at_ - ((ml σ 3 (ma σ 6 a0.toNatClampNeg).toNatClampNeg) - (ml σ 3 (ma σ 6 a0.toNatClampNeg).toNatClampNeg) / (ml σ 0 (ma σ 6 a0.toNatClampNeg).toNatClampNeg) * (ml σ 0 (ma σ 6 a0.toNatClampNeg).toNatClampNeg))))) ⟨by decide, rfl⟩ hx hb hW (rg.in (MnoAlarm_rg (σ := (smi σ 14 (0 : Int32))) hO c_2) (by decide) (by decide)) dMod_set_179 (fun H locs hW => ?_)
                      refine lv_iconst (v := (1 : Int32)) hx hb dMod_set_180 (by decide) ?_
                      exact e_i hsz hx hb hr hlk hW mono_hsM (Nat.le_refl _) (Nat.le_refl _) dMod_set_181 ⟨(Eq.symm (by refine (if_pos c_2).trans ?_; refine (if_pos c_3).trans ?_; refine (if_neg c_4).trans ?_; refine (if_neg c_12).trans ?_; refine (if_neg c_13).trans ?_; refine (if_neg c_14).trans ?_; refine (if_neg c_17).trans ?_; refine (if_neg c_18).trans ?_; refine (if_pos c_20).trans ?_; rfl)), congrArg (hsM o z tt) (Eq.symm (by refine (if_pos c_2).trans ?_; refine (if_pos c_3).trans ?_; refine (if_neg c_4).trans ?_; refine (if_neg c_12).trans ?_; refine (if_neg c_13).trans ?_; refine (if_neg c_14).trans ?_; refine (if_neg c_17).trans ?_; refine (if_neg c_18).trans ?_; refine (if_pos c_20).trans ?_; rfl))⟩
                · refine lv_iconst (v := (4 : Int32)) hx hb dMod_set_94 (by decide) ?_
                  exact e_i hsz hx hb hr hlk hW mono_hsM (Nat.le_refl _) (Nat.le_refl _) dMod_set_95 ⟨(Eq.symm (by refine (if_pos c_2).trans ?_; refine (if_pos c_3).trans ?_; refine (if_neg c_4).trans ?_; refine (if_neg c_12).trans ?_; refine (if_neg c_13).trans ?_; refine (if_neg c_14).trans ?_; refine (if_neg c_17).trans ?_; refine (if_pos c_18).trans ?_; rfl)), congrArg (hsM o z tt) (Eq.symm (by refine (if_pos c_2).trans ?_; refine (if_pos c_3).trans ?_; refine (if_neg c_4).trans ?_; refine (if_neg c_12).trans ?_; refine (if_neg c_13).trans ?_; refine (if_neg c_14).trans ?_; refine (if_neg c_17).trans ?_; refine (if_pos c_18).trans ?_; rfl))⟩
          · refine lv_iconst (v := (3 : Int32)) hx hb dMod_set_63 (by decide) ?_
            exact e_i hsz hx hb hr hlk hW mono_hsM (Nat.le_refl _) (Nat.le_refl _) dMod_set_64 ⟨(Eq.symm (by refine (if_pos c_2).trans ?_; refine (if_pos c_3).trans ?_; refine (if_neg c_4).trans ?_; refine (if_neg c_12).trans ?_; refine (if_pos c_13).trans ?_; rfl)), congrArg (hsM o z tt) (Eq.symm (by refine (if_pos c_2).trans ?_; refine (if_pos c_3).trans ?_; refine (if_neg c_4).trans ?_; refine (if_neg c_12).trans ?_; refine (if_pos c_13).trans ?_; rfl))⟩
    · refine lv_iconst (v := (2 : Int32)) hx hb dMod_set_32 (by decide) ?_
      exact e_i hsz hx hb hr hlk hW mono_hsM (Nat.le_refl _) (Nat.le_refl _) dMod_set_33 ⟨(Eq.symm (by refine (if_pos c_2).trans ?_; refine (if_neg c_3).trans ?_; rfl)), congrArg (hsM o z tt) (Eq.symm (by refine (if_pos c_2).trans ?_; refine (if_neg c_3).trans ?_; rfl))⟩
  · refine lv_iconst (v := (-1 : Int32)) hx hb dMod_set_13 (by decide) ?_
    exact e_i hsz hx hb hr hlk hW mono_hsM (Nat.le_refl _) (Nat.le_refl _) dMod_set_14 ⟨(Eq.symm (by refine (if_neg c_2).trans ?_; rfl)), congrArg (hsM o z tt) (Eq.symm (by refine (if_neg c_2).trans ?_; rfl))⟩

def Mcancel_R (σ : MS) (a0 : Int32) : Int32 :=
  if (MnoAlarm_R (smi σ 14 (0 : Int32)) a0) = 0 then
    if (ma σ 9 a0.toNatClampNeg) = 0 then
      (5 : Int32)
    else
      (1 : Int32)
  else
    (-1 : Int32)
def Mcancel_S (σ : MS) (a0 : Int32) : MS :=
  if (MnoAlarm_R (smi σ 14 (0 : Int32)) a0) = 0 then
    if (ma σ 9 a0.toNatClampNeg) = 0 then
      (sma (smi σ 14 (0 : Int32)) 9 a0.toNatClampNeg (0 : Int32))
    else
      (sma (smi σ 14 (0 : Int32)) 9 a0.toNatClampNeg (0 : Int32))
  else
    (smi σ 14 (0 : Int32))
set_option maxRecDepth 20000 in
set_option maxHeartbeats 2000000 in
theorem c_Mcancel (l : Launch) (D : va_G) (AC : Nat → ClassId) (o z tt : Nat) (σ : MS) (a0 : Int32) (hO : mOk σ) : CtI l yMod_cancel (Cond.code yMod_cancel cMod_cancel 3 (some .int) :: wT) 1 24 D AC (hsM o z tt σ) [.ref o, .int a0] 0 0 (fun r S' => r = Mcancel_R σ a0 ∧ S' = hsM o z tt (Mcancel_S σ a0)) := by
  refine met_of (by decide) (Nat.le_of_ble_eq_true rfl) ?_
  intro p e s m below meth c ls hsz X hW hl
  obtain ⟨hx, hb, hml, hr, hlk, hown, hnm, hts⟩ := X
  have hl : lv_has ls 3 [(0, .ref o), (1, .int a0)] := hl
  refine lv_aload_n hx hb dMod_cancel_0 rfl (lv_at hl 0 rfl) ?_
  refine lv_iconst (v := (0 : Int32)) hx hb dMod_cancel_1 (by decide) ?_
  refine mp_i FMod_96 GMod_code hx hb hts hown hW rfl rfl dMod_cancel_2 (fun H locs hW => ?_)
  refine lv_aload_n hx hb dMod_cancel_5 rfl (lv_at hl 0 rfl) ?_
  refine lv_iload_n hx hb dMod_cancel_6 rfl (lv_at hl 1 rfl) ?_
  refine k_Vi (K := 9) (As := [.int a0]) (rest := []) (c_MnoAlarm l D AC o z tt (smi σ 14 (0 : Int32)) a0) CMod_117 ⟨by decide, by decide, _, rfl, rfl⟩ hx hb hml hown hts hW hsM_k hl.1 rfl rfl (Nat.le_of_ble_eq_true rfl) ⟨⟨Nat.le_of_ble_eq_true rfl, Nat.le_of_ble_eq_true rfl⟩, ⟨Nat.le_of_ble_eq_true rfl, Nat.le_of_ble_eq_true rfl⟩⟩ dMod_cancel_7 (fun r_1 S_1 H locs e_1 hW _ _ => ?_)
  obtain ⟨e1_1, e2_1⟩ := e_1
  rw [e2_1] at hW
  rw [e1_1]
  refine lv_if_eq (tgt := 15) hx hb dMod_cancel_10 (by decide) (fun c_2 => ?_) (fun c_2 => ?_)
  · refine lv_aload_n hx hb dMod_cancel_15 rfl (lv_at hl 0 rfl) ?_
    refine mg_a FMod_39 9 ⟨rfl, by decide⟩ hx hb hts hown hW dMod_cancel_16 ?_
    refine lv_iload_n hx hb dMod_cancel_19 rfl (lv_at hl 1 rfl) ?_
    refine m_zl (j := 9) (v := ma σ 9 a0.toNatClampNeg) ⟨by decide, rfl⟩ hx hb hW (rg.in (MnoAlarm_rg (σ := (smi σ 14 (0 : Int32))) hO c_2) (by decide) (by decide)) dMod_cancel_20 (ra_i) ?_
    refine lv_istore_n (i := 2) (lv' := [(2, .int (ma σ 9 a0.toNatClampNeg)), (0, .ref o), (1, .int a0)]) hx hb dMod_cancel_21 rfl hl (by decide) rfl (fun ls hl => ?_)
    refine lv_aload_n hx hb dMod_cancel_22 rfl (lv_at hl 1 rfl) ?_
    refine mg_a FMod_39 9 ⟨rfl, by decide⟩ hx hb hts hown hW dMod_cancel_23 ?_
    refine lv_iload_n hx hb dMod_cancel_26 rfl (lv_at hl 2 rfl) ?_
    refine lv_iconst (v := (0 : Int32)) hx hb dMod_cancel_27 (by decide) ?_
    refine m_zs (j := 9) (v := (0 : Int32)) ⟨by decide, rfl⟩ hx hb hW (rg.in (MnoAlarm_rg (σ := (smi σ 14 (0 : Int32))) hO c_2) (by decide) (by decide)) (by decide) dMod_cancel_28 (fun H locs hW => ?_)
    refine lv_iload_n hx hb dMod_cancel_29 rfl (lv_at hl 0 rfl) ?_
    refine lv_if_eq (tgt := 37) hx hb dMod_cancel_30 (by decide) (fun c_3 => ?_) (fun c_3 => ?_)
    · refine lv_iconst (v := (5 : Int32)) hx hb dMod_cancel_37 (by decide) ?_
      exact e_i hsz hx hb hr hlk hW mono_hsM (Nat.le_refl _) (Nat.le_refl _) dMod_cancel_38 ⟨(Eq.symm (by refine (if_pos c_2).trans ?_; refine (if_pos c_3).trans ?_; rfl)), congrArg (hsM o z tt) (Eq.symm (by refine (if_pos c_2).trans ?_; refine (if_pos c_3).trans ?_; rfl))⟩
    · refine lv_iconst (v := (1 : Int32)) hx hb dMod_cancel_33 (by decide) ?_
      refine lv_goto (tgt := 38) hx hb dMod_cancel_34 (by decide) ?_
      exact e_i hsz hx hb hr hlk hW mono_hsM (Nat.le_refl _) (Nat.le_refl _) dMod_cancel_38 ⟨(Eq.symm (by refine (if_pos c_2).trans ?_; refine (if_neg c_3).trans ?_; rfl)), congrArg (hsM o z tt) (Eq.symm (by refine (if_pos c_2).trans ?_; refine (if_neg c_3).trans ?_; rfl))⟩
  · refine lv_iconst (v := (-1 : Int32)) hx hb dMod_cancel_13 (by decide) ?_
    exact e_i hsz hx hb hr hlk hW mono_hsM (Nat.le_refl _) (Nat.le_refl _) dMod_cancel_14 ⟨(Eq.symm (by refine (if_neg c_2).trans ?_; rfl)), congrArg (hsM o z tt) (Eq.symm (by refine (if_neg c_2).trans ?_; rfl))⟩

def Mtable_R (σ : MS) (c0 : Int32) (n0 : Int64) : Int32 :=
  if (Mno_R σ c0) = 0 then
    if n0 < (1 : Int64) then
      (-2 : Int32)
    else
      if (1000000 : Int64) < n0 then
        (-2 : Int32)
      else
        if (mi (Mno_S σ c0) 17) = (20 : Int32) then
          (-4 : Int32)
        else
          ((mi (Mno_S σ c0) 17) + (1 : Int32))
  else
    (-1 : Int32)
def Mtable_S (σ : MS) (c0 : Int32) (n0 : Int64) : MS :=
  if (Mno_R σ c0) = 0 then
    if n0 < (1 : Int64) then
      (Mno_S σ c0)
    else
      if (1000000 : Int64) < n0 then
        (Mno_S σ c0)
      else
        if (mi (Mno_S σ c0) 17) = (20 : Int32) then
          (Mno_S σ c0)
        else
          (sml (sma (smi (Mno_S σ c0) 17 ((mi (Mno_S σ c0) 17) + (1 : Int32))) 12 ((mi (Mno_S σ c0) 17) + (1 : Int32)).toNatClampNeg c0) 13 ((mi (Mno_S σ c0) 17) + (1 : Int32)).toNatClampNeg n0)
  else
    (Mno_S σ c0)
set_option maxRecDepth 20000 in
set_option maxHeartbeats 2000000 in
theorem c_Mtable (l : Launch) (D : va_G) (AC : Nat → ClassId) (o z tt : Nat) (σ : MS) (c0 : Int32) (n0 : Int64) (hO : mOk σ) : CtI l yMod_table (Cond.code yMod_table cMod_table 4 (some .int) :: wT) 1 24 D AC (hsM o z tt σ) [.ref o, .int c0, .long n0] 0 0 (fun r S' => r = Mtable_R σ c0 n0 ∧ S' = hsM o z tt (Mtable_S σ c0 n0)) := by
  refine met_of (by decide) (Nat.le_of_ble_eq_true rfl) ?_
  intro p e s m below meth c ls hsz X hW hl
  obtain ⟨hx, hb, hml, hr, hlk, hown, hnm, hts⟩ := X
  have hl : lv_has ls 4 [(0, .ref o), (1, .int c0), (2, .long n0)] := hl
  refine lv_aload_n hx hb dMod_table_0 rfl (lv_at hl 0 rfl) ?_
  refine lv_iload_n hx hb dMod_table_1 rfl (lv_at hl 1 rfl) ?_
  refine k_Vi (K := 9) (As := [.int c0]) (rest := []) (c_Mno l D AC o z tt σ c0) CMod_113 ⟨by decide, by decide, _, rfl, rfl⟩ hx hb hml hown hts hW hsM_k hl.1 rfl rfl (Nat.le_of_ble_eq_true rfl) ⟨⟨Nat.le_of_ble_eq_true rfl, Nat.le_of_ble_eq_true rfl⟩, ⟨Nat.le_of_ble_eq_true rfl, Nat.le_of_ble_eq_true rfl⟩⟩ dMod_table_2 (fun r_1 S_1 H locs e_1 hW _ _ => ?_)
  obtain ⟨e1_1, e2_1⟩ := e_1
  rw [e2_1] at hW
  rw [e1_1]
  have hO_2 : mOk (Mno_S σ c0) := mOk_no hO
  refine lv_if_eq (tgt := 10) hx hb dMod_table_5 (by decide) (fun c_3 => ?_) (fun c_3 => ?_)
  · refine lv_lload_n hx hb dMod_table_10 rfl (lv_at hl 2 rfl) ?_
    refine lv_lconst (v := (1 : Int64)) hx hb dMod_table_11 (by decide) ?_
    refine ll_lt (tgt := 24) hx hb dMod_table_12 dMod_table_13 (by decide) (fun c_4 => ?_) (fun c_4 => ?_)
    · refine lv_bipush (v := (-2 : Int32)) hx hb dMod_table_24 (by decide) ?_
      exact e_i hsz hx hb hr hlk hW mono_hsM (Nat.le_refl _) (Nat.le_refl _) dMod_table_26 ⟨(Eq.symm (by refine (if_pos c_3).trans ?_; refine (if_pos c_4).trans ?_; rfl)), congrArg (hsM o z tt) (Eq.symm (by refine (if_pos c_3).trans ?_; refine (if_pos c_4).trans ?_; rfl))⟩
    · refine lv_lload_n hx hb dMod_table_16 rfl (lv_at hl 2 rfl) ?_
      refine lv_ldc2 (v := (1000000 : Int64)) hx hb hown (hts _ QMod_126) dMod_table_17 ?_
      refine ll_le (tgt := 27) hx hb dMod_table_20 dMod_table_21 (by decide) (fun c_5 => ?_) (fun c_5 => ?_)
      · refine lv_aload_n hx hb dMod_table_27 rfl (lv_at hl 0 rfl) ?_
        refine mg_i (v := mi (Mno_S σ c0) 17) FMod_106 hx hb hts hown hW dMod_table_28 rfl ?_
        refine lv_bipush (v := (20 : Int32)) hx hb dMod_table_31 (by decide) ?_
        refine lv_icmp_ne (tgt := 39) hx hb dMod_table_33 (by decide) (fun c_6 => ?_) (fun c_6 => ?_)
        · refine lv_aload_n hx hb dMod_table_39 rfl (lv_at hl 0 rfl) ?_
          refine lv_dup hx hb dMod_table_40 rfl ?_
          refine mg_i (v := mi (Mno_S σ c0) 17) FMod_106 hx hb hts hown hW dMod_table_41 rfl ?_
          refine lv_iconst (v := (1 : Int32)) hx hb dMod_table_44 (by decide) ?_
          refine lv_iadd hx hb dMod_table_45 ?_
          refine mp_i FMod_106 GMod_tables hx hb hts hown hW rfl rfl dMod_table_46 (fun H locs hW => ?_)
          refine lv_aload_n hx hb dMod_table_49 rfl (lv_at hl 0 rfl) ?_
          refine mg_a FMod_48 12 ⟨rfl, by decide⟩ hx hb hts hown hW dMod_table_50 ?_
          refine lv_aload_n hx hb dMod_table_53 rfl (lv_at hl 0 rfl) ?_
          refine mg_i (v := ((mi (Mno_S σ c0) 17) + (1 : Int32))) FMod_106 hx hb hts hown hW dMod_table_54 (ri_s) ?_
          refine lv_iload_n hx hb dMod_table_57 rfl (lv_at hl 1 rfl) ?_
          refine m_is (j := 12) (v := c0) ⟨by decide, rfl⟩ hx hb hW (rg.in (rg.add (rg_ne hO_2.2.2.1 rfl c_6) (show rg (1) (1) (1 : Int32) from ⟨by decide, by decide⟩) (by decide) (by decide)) (by decide) (by decide)) dMod_table_58 (fun H locs hW => ?_)
          refine lv_aload_n hx hb dMod_table_59 rfl (lv_at hl 0 rfl) ?_
          refine mg_a FMod_51 13 ⟨rfl, by decide⟩ hx hb hts hown hW dMod_table_60 ?_
          refine lv_aload_n hx hb dMod_table_63 rfl (lv_at hl 0 rfl) ?_
          refine mg_i (v := ((mi (Mno_S σ c0) 17) + (1 : Int32))) FMod_106 hx hb hts hown hW dMod_table_64 ((ri_a).trans (ri_s)) ?_
          refine lv_lload_n hx hb dMod_table_67 rfl (lv_at hl 2 rfl) ?_
          refine m_ls (j := 13) (v := n0) ⟨by decide, rfl⟩ hx hb hW (rg.in (rg.add (rg_ne hO_2.2.2.1 rfl c_6) (show rg (1) (1) (1 : Int32) from ⟨by decide, by decide⟩) (by decide) (by decide)) (by decide) (by decide)) dMod_table_68 (fun H locs hW => ?_)
          refine lv_aload_n hx hb dMod_table_69 rfl (lv_at hl 0 rfl) ?_
          refine mg_i (v := ((mi (Mno_S σ c0) 17) + (1 : Int32))) FMod_106 hx hb hts hown hW dMod_table_70 ((ri_l).trans ((ri_a).trans (ri_s))) ?_
          exact e_i hsz hx hb hr hlk hW mono_hsM (Nat.le_refl _) (Nat.le_refl _) dMod_table_73 ⟨(Eq.symm (by refine (if_pos c_3).trans ?_; refine (if_neg c_4).trans ?_; refine (if_neg c_5).trans ?_; refine (if_neg c_6).trans ?_; rfl)), congrArg (hsM o z tt) (Eq.symm (by refine (if_pos c_3).trans ?_; refine (if_neg c_4).trans ?_; refine (if_neg c_5).trans ?_; refine (if_neg c_6).trans ?_; rfl))⟩
        · refine lv_bipush (v := (-4 : Int32)) hx hb dMod_table_36 (by decide) ?_
          exact e_i hsz hx hb hr hlk hW mono_hsM (Nat.le_refl _) (Nat.le_refl _) dMod_table_38 ⟨(Eq.symm (by refine (if_pos c_3).trans ?_; refine (if_neg c_4).trans ?_; refine (if_neg c_5).trans ?_; refine (if_pos c_6).trans ?_; rfl)), congrArg (hsM o z tt) (Eq.symm (by refine (if_pos c_3).trans ?_; refine (if_neg c_4).trans ?_; refine (if_neg c_5).trans ?_; refine (if_pos c_6).trans ?_; rfl))⟩
      · refine lv_bipush (v := (-2 : Int32)) hx hb dMod_table_24 (by decide) ?_
        exact e_i hsz hx hb hr hlk hW mono_hsM (Nat.le_refl _) (Nat.le_refl _) dMod_table_26 ⟨(Eq.symm (by refine (if_pos c_3).trans ?_; refine (if_neg c_4).trans ?_; refine (if_pos c_5).trans ?_; rfl)), congrArg (hsM o z tt) (Eq.symm (by refine (if_pos c_3).trans ?_; refine (if_neg c_4).trans ?_; refine (if_pos c_5).trans ?_; rfl))⟩
  · refine lv_iconst (v := (-1 : Int32)) hx hb dMod_table_8 (by decide) ?_
    exact e_i hsz hx hb hr hlk hW mono_hsM (Nat.le_refl _) (Nat.le_refl _) dMod_table_9 ⟨(Eq.symm (by refine (if_neg c_3).trans ?_; rfl)), congrArg (hsM o z tt) (Eq.symm (by refine (if_neg c_3).trans ?_; rfl))⟩

def Mstart_R (σ : MS) (t0 : Int32) (at_ : Int64) : Int32 :=
  if (MnoTable_R σ t0) = 0 then
    if (ma (MnoTable_S σ t0) 19 t0.toNatClampNeg) = 0 then
      if at_ < (1 : Int64) then
        (3 : Int32)
      else
        if (1000000 : Int64) < at_ then
          (3 : Int32)
        else
          (1 : Int32)
    else
      (2 : Int32)
  else
    (-1 : Int32)
def Mstart_S (σ : MS) (t0 : Int32) (at_ : Int64) : MS :=
  if (MnoTable_R σ t0) = 0 then
    if (ma (MnoTable_S σ t0) 19 t0.toNatClampNeg) = 0 then
      if at_ < (1 : Int64) then
        (MnoTable_S σ t0)
      else
        if (1000000 : Int64) < at_ then
          (MnoTable_S σ t0)
        else
          (sml (sma (sml (sma (MnoTable_S σ t0) 19 t0.toNatClampNeg (1 : Int32)) 18 t0.toNatClampNeg (0 : Int64)) 21 t0.toNatClampNeg (-1 : Int32)) 20 t0.toNatClampNeg ((ml (MnoTable_S σ t0) 3 (ma (MnoTable_S σ t0) 12 t0.toNatClampNeg).toNatClampNeg) + at_))
    else
      (MnoTable_S σ t0)
  else
    (MnoTable_S σ t0)
set_option maxRecDepth 20000 in
set_option maxHeartbeats 2000000 in
theorem c_Mstart (l : Launch) (D : va_G) (AC : Nat → ClassId) (o z tt : Nat) (σ : MS) (t0 : Int32) (at_ : Int64) (hO : mOk σ) : CtI l yMod_start (Cond.code yMod_start cMod_start 4 (some .int) :: wT) 1 24 D AC (hsM o z tt σ) [.ref o, .int t0, .long at_] 0 0 (fun r S' => r = Mstart_R σ t0 at_ ∧ S' = hsM o z tt (Mstart_S σ t0 at_)) := by
  refine met_of (by decide) (Nat.le_of_ble_eq_true rfl) ?_
  intro p e s m below meth c ls hsz X hW hl
  obtain ⟨hx, hb, hml, hr, hlk, hown, hnm, hts⟩ := X
  have hl : lv_has ls 4 [(0, .ref o), (1, .int t0), (2, .long at_)] := hl
  refine lv_aload_n hx hb dMod_start_0 rfl (lv_at hl 0 rfl) ?_
  refine lv_iload_n hx hb dMod_start_1 rfl (lv_at hl 1 rfl) ?_
  refine k_Vi (K := 9) (As := [.int t0]) (rest := []) (c_MnoTable l D AC o z tt σ t0) CMod_128 ⟨by decide, by decide, _, rfl, rfl⟩ hx hb hml hown hts hW hsM_k hl.1 rfl rfl (Nat.le_of_ble_eq_true rfl) ⟨⟨Nat.le_of_ble_eq_true rfl, Nat.le_of_ble_eq_true rfl⟩, ⟨Nat.le_of_ble_eq_true rfl, Nat.le_of_ble_eq_true rfl⟩⟩ dMod_start_2 (fun r_1 S_1 H locs e_1 hW _ _ => ?_)
  obtain ⟨e1_1, e2_1⟩ := e_1
  rw [e2_1] at hW
  rw [e1_1]
  have hO_2 : mOk (MnoTable_S σ t0) := mOk_noTable hO
  refine lv_if_eq (tgt := 10) hx hb dMod_start_5 (by decide) (fun c_3 => ?_) (fun c_3 => ?_)
  · refine lv_aload_n hx hb dMod_start_10 rfl (lv_at hl 0 rfl) ?_
    refine mg_a FMod_69 19 ⟨rfl, by decide⟩ hx hb hts hown hW dMod_start_11 ?_
    refine lv_iload_n hx hb dMod_start_14 rfl (lv_at hl 1 rfl) ?_
    refine m_zl (j := 19) (v := ma (MnoTable_S σ t0) 19 t0.toNatClampNeg) ⟨by decide, rfl⟩ hx hb hW (rg.in (MnoTable_rg hO c_3) (by decide) (by decide)) dMod_start_15 rfl ?_
    refine lv_if_eq (tgt := 21) hx hb dMod_start_16 (by decide) (fun c_4 => ?_) (fun c_4 => ?_)
    · refine lv_lload_n hx hb dMod_start_21 rfl (lv_at hl 2 rfl) ?_
      refine lv_lconst (v := (1 : Int64)) hx hb dMod_start_22 (by decide) ?_
      refine ll_lt (tgt := 35) hx hb dMod_start_23 dMod_start_24 (by decide) (fun c_5 => ?_) (fun c_5 => ?_)
      · refine lv_iconst (v := (3 : Int32)) hx hb dMod_start_35 (by decide) ?_
        exact e_i hsz hx hb hr hlk hW mono_hsM (Nat.le_refl _) (Nat.le_refl _) dMod_start_36 ⟨(Eq.symm (by refine (if_pos c_3).trans ?_; refine (if_pos c_4).trans ?_; refine (if_pos c_5).trans ?_; rfl)), congrArg (hsM o z tt) (Eq.symm (by refine (if_pos c_3).trans ?_; refine (if_pos c_4).trans ?_; refine (if_pos c_5).trans ?_; rfl))⟩
      · refine lv_lload_n hx hb dMod_start_27 rfl (lv_at hl 2 rfl) ?_
        refine lv_ldc2 (v := (1000000 : Int64)) hx hb hown (hts _ QMod_126) dMod_start_28 ?_
        refine ll_le (tgt := 37) hx hb dMod_start_31 dMod_start_32 (by decide) (fun c_6 => ?_) (fun c_6 => ?_)
        · refine lv_aload_n hx hb dMod_start_37 rfl (lv_at hl 0 rfl) ?_
          refine mg_a FMod_69 19 ⟨rfl, by decide⟩ hx hb hts hown hW dMod_start_38 ?_
          refine lv_iload_n hx hb dMod_start_41 rfl (lv_at hl 1 rfl) ?_
          refine lv_iconst (v := (1 : Int32)) hx hb dMod_start_42 (by decide) ?_
          refine m_zs (j := 19) (v := (1 : Int32)) ⟨by decide, rfl⟩ hx hb hW (rg.in (MnoTable_rg hO c_3) (by decide) (by decide)) (by decide) dMod_start_43 (fun H locs hW => ?_)
          refine lv_aload_n hx hb dMod_start_44 rfl (lv_at hl 0 rfl) ?_
          refine mg_a FMod_66 18 ⟨rfl, by decide⟩ hx hb hts hown hW dMod_start_45 ?_
          refine lv_iload_n hx hb dMod_start_48 rfl (lv_at hl 1 rfl) ?_
          refine lv_lconst (v := (0 : Int64)) hx hb dMod_start_49 (by decide) ?_
          refine m_ls (j := 18) (v := (0 : Int64)) ⟨by decide, rfl⟩ hx hb hW (rg.in (MnoTable_rg hO c_3) (by decide) (by decide)) dMod_start_50 (fun H locs hW => ?_)
          refine lv_aload_n hx hb dMod_start_51 rfl (lv_at hl 0 rfl) ?_
          refine mg_a FMod_75 21 ⟨rfl, by decide⟩ hx hb hts hown hW dMod_start_52 ?_
          refine lv_iload_n hx hb dMod_start_55 rfl (lv_at hl 1 rfl) ?_
          refine lv_iconst (v := (-1 : Int32)) hx hb dMod_start_56 (by decide) ?_
          refine m_is (j := 21) (v := (-1 : Int32)) ⟨by decide, rfl⟩ hx hb hW (rg.in (MnoTable_rg hO c_3) (by decide) (by decide)) dMod_start_57 (fun H locs hW => ?_)
          refine lv_aload_n hx hb dMod_start_58 rfl (lv_at hl 0 rfl) ?_
          refine mg_a FMod_72 20 ⟨rfl, by decide⟩ hx hb hts hown hW dMod_start_59 ?_
          refine lv_iload_n hx hb dMod_start_62 rfl (lv_at hl 1 rfl) ?_
          refine lv_aload_n hx hb dMod_start_63 rfl (lv_at hl 0 rfl) ?_
          refine mg_a FMod_19 3 ⟨rfl, by decide⟩ hx hb hts hown hW dMod_start_64 ?_
          refine lv_aload_n hx hb dMod_start_67 rfl (lv_at hl 0 rfl) ?_
          refine mg_a FMod_48 12 ⟨rfl, by decide⟩ hx hb hts hown hW dMod_start_68 ?_
          refine lv_iload_n hx hb dMod_start_71 rfl (lv_at hl 1 rfl) ?_
          refine m_il (j := 12) (v := ma (MnoTable_S σ t0) 12 t0.toNatClampNeg) ⟨by decide, rfl⟩ hx hb hW (rg.in (MnoTable_rg hO c_3) (by decide) (by decide)) dMod_start_72 ((ra_a (by decide)).trans ((ra_l).trans (ra_a (by decide)))) ?_
          refine m_ll (j := 3) (v := ml (MnoTable_S σ t0) 3 (ma (MnoTable_S σ t0) 12 t0.toNatClampNeg).toNatClampNeg) ⟨by decide, rfl⟩ hx hb hW (rg.in (hO_2.2.2.2.2.2.1 _) (by decide) (by decide)) dMod_start_73 ((rl_a).trans ((rl_l (by decide)).trans (rl_a))) ?_
          refine lv_lload_n hx hb dMod_start_74 rfl (lv_at hl 2 rfl) ?_
          refine lv_ladd hx hb dMod_start_75 ?_
          refine m_ls (j := 20) (v := ((ml (MnoTable_S σ t0) 3 (ma (MnoTable_S σ t0) 12 t0.toNatClampNeg).toNatClampNeg) + at_)) ⟨by decide, rfl⟩ hx hb hW (rg.in (MnoTable_rg hO c_3) (by decide) (by decide)) dMod_start_76 (fun H locs hW => ?_)
          refine lv_iconst (v := (1 : Int32)) hx hb dMod_start_77 (by decide) ?_
          exact e_i hsz hx hb hr hlk hW mono_hsM (Nat.le_refl _) (Nat.le_refl _) dMod_start_78 ⟨(Eq.symm (by refine (if_pos c_3).trans ?_; refine (if_pos c_4).trans ?_; refine (if_neg c_5).trans ?_; refine (if_neg c_6).trans ?_; rfl)), congrArg (hsM o z tt) (Eq.symm (by refine (if_pos c_3).trans ?_; refine (if_pos c_4).trans ?_; refine (if_neg c_5).trans ?_; refine (if_neg c_6).trans ?_; rfl))⟩
        · refine lv_iconst (v := (3 : Int32)) hx hb dMod_start_35 (by decide) ?_
          exact e_i hsz hx hb hr hlk hW mono_hsM (Nat.le_refl _) (Nat.le_refl _) dMod_start_36 ⟨(Eq.symm (by refine (if_pos c_3).trans ?_; refine (if_pos c_4).trans ?_; refine (if_neg c_5).trans ?_; refine (if_pos c_6).trans ?_; rfl)), congrArg (hsM o z tt) (Eq.symm (by refine (if_pos c_3).trans ?_; refine (if_pos c_4).trans ?_; refine (if_neg c_5).trans ?_; refine (if_pos c_6).trans ?_; rfl))⟩
    · refine lv_iconst (v := (2 : Int32)) hx hb dMod_start_19 (by decide) ?_
      exact e_i hsz hx hb hr hlk hW mono_hsM (Nat.le_refl _) (Nat.le_refl _) dMod_start_20 ⟨(Eq.symm (by refine (if_pos c_3).trans ?_; refine (if_neg c_4).trans ?_; rfl)), congrArg (hsM o z tt) (Eq.symm (by refine (if_pos c_3).trans ?_; refine (if_neg c_4).trans ?_; rfl))⟩
  · refine lv_iconst (v := (-1 : Int32)) hx hb dMod_start_8 (by decide) ?_
    exact e_i hsz hx hb hr hlk hW mono_hsM (Nat.le_refl _) (Nat.le_refl _) dMod_start_9 ⟨(Eq.symm (by refine (if_neg c_3).trans ?_; rfl)), congrArg (hsM o z tt) (Eq.symm (by refine (if_neg c_3).trans ?_; rfl))⟩

theorem rg_nx {σ : MS} {x : Int32} (h : mOk σ) (h1 : ¬ x < 0) (h2 : x ≤ mi σ 17) : rg 0 20 x := by
  rw [Int32.lt_iff_toInt_lt] at h1
  rw [Int32.le_iff_toInt_le] at h2
  have e : (0 : Int32).toInt = 0 := rfl
  have := h.2.2.1.2
  exact ⟨by omega, by omega⟩

def Mnext_R (σ : MS) (t0 : Int32) (ot : Int32) : Int32 :=
  if (MnoTable_R σ t0) = 0 then
    if ot < 0 then
      (-1 : Int32)
    else
      if ot ≤ (mi (MnoTable_S σ t0) 17) then
        if ot ≤ 0 then
          (1 : Int32)
        else
          if (ma (MnoTable_S σ t0) 12 ot.toNatClampNeg) = (ma (MnoTable_S σ t0) 12 t0.toNatClampNeg) then
            (1 : Int32)
          else
            (-3 : Int32)
      else
        (-1 : Int32)
  else
    (-1 : Int32)
def Mnext_S (σ : MS) (t0 : Int32) (ot : Int32) : MS :=
  if (MnoTable_R σ t0) = 0 then
    if ot < 0 then
      (MnoTable_S σ t0)
    else
      if ot ≤ (mi (MnoTable_S σ t0) 17) then
        if ot ≤ 0 then
          (sma (MnoTable_S σ t0) 17 t0.toNatClampNeg ot)
        else
          if (ma (MnoTable_S σ t0) 12 ot.toNatClampNeg) = (ma (MnoTable_S σ t0) 12 t0.toNatClampNeg) then
            (sma (MnoTable_S σ t0) 17 t0.toNatClampNeg ot)
          else
            (MnoTable_S σ t0)
      else
        (MnoTable_S σ t0)
  else
    (MnoTable_S σ t0)
set_option maxRecDepth 20000 in
set_option maxHeartbeats 2000000 in
theorem c_Mnext (l : Launch) (D : va_G) (AC : Nat → ClassId) (o z tt : Nat) (σ : MS) (t0 : Int32) (ot : Int32) (hO : mOk σ) : CtI l yMod_next (Cond.code yMod_next cMod_next 3 (some .int) :: wT) 1 24 D AC (hsM o z tt σ) [.ref o, .int t0, .int ot] 0 0 (fun r S' => r = Mnext_R σ t0 ot ∧ S' = hsM o z tt (Mnext_S σ t0 ot)) := by
  refine met_of (by decide) (Nat.le_of_ble_eq_true rfl) ?_
  intro p e s m below meth c ls hsz X hW hl
  obtain ⟨hx, hb, hml, hr, hlk, hown, hnm, hts⟩ := X
  have hl : lv_has ls 3 [(0, .ref o), (1, .int t0), (2, .int ot)] := hl
  refine lv_aload_n hx hb dMod_next_0 rfl (lv_at hl 0 rfl) ?_
  refine lv_iload_n hx hb dMod_next_1 rfl (lv_at hl 1 rfl) ?_
  refine k_Vi (K := 9) (As := [.int t0]) (rest := []) (c_MnoTable l D AC o z tt σ t0) CMod_128 ⟨by decide, by decide, _, rfl, rfl⟩ hx hb hml hown hts hW hsM_k hl.1 rfl rfl (Nat.le_of_ble_eq_true rfl) ⟨⟨Nat.le_of_ble_eq_true rfl, Nat.le_of_ble_eq_true rfl⟩, ⟨Nat.le_of_ble_eq_true rfl, Nat.le_of_ble_eq_true rfl⟩⟩ dMod_next_2 (fun r_1 S_1 H locs e_1 hW _ _ => ?_)
  obtain ⟨e1_1, e2_1⟩ := e_1
  rw [e2_1] at hW
  rw [e1_1]
  have hO_2 : mOk (MnoTable_S σ t0) := mOk_noTable hO
  refine lv_if_ne (tgt := 20) hx hb dMod_next_5 (by decide) (fun c_3 => ?_) (fun c_3 => ?_)
  · refine lv_iconst (v := (-1 : Int32)) hx hb dMod_next_20 (by decide) ?_
    exact e_i hsz hx hb hr hlk hW mono_hsM (Nat.le_refl _) (Nat.le_refl _) dMod_next_21 ⟨(Eq.symm (by refine (if_neg c_3).trans ?_; rfl)), congrArg (hsM o z tt) (Eq.symm (by refine (if_neg c_3).trans ?_; rfl))⟩
  · refine lv_iload_n hx hb dMod_next_8 rfl (lv_at hl 2 rfl) ?_
    refine lv_if_lt (tgt := 20) hx hb dMod_next_9 (by decide) (fun c_4 => ?_) (fun c_4 => ?_)
    · refine lv_iconst (v := (-1 : Int32)) hx hb dMod_next_20 (by decide) ?_
      exact e_i hsz hx hb hr hlk hW mono_hsM (Nat.le_refl _) (Nat.le_refl _) dMod_next_21 ⟨(Eq.symm (by refine (if_pos c_3).trans ?_; refine (if_pos c_4).trans ?_; rfl)), congrArg (hsM o z tt) (Eq.symm (by refine (if_pos c_3).trans ?_; refine (if_pos c_4).trans ?_; rfl))⟩
    · refine lv_iload_n hx hb dMod_next_12 rfl (lv_at hl 2 rfl) ?_
      refine lv_aload_n hx hb dMod_next_13 rfl (lv_at hl 0 rfl) ?_
      refine mg_i (v := mi (MnoTable_S σ t0) 17) FMod_106 hx hb hts hown hW dMod_next_14 rfl ?_
      refine lv_icmp_le (tgt := 22) hx hb dMod_next_17 (by decide) (fun c_5 => ?_) (fun c_5 => ?_)
      · refine lv_iload_n hx hb dMod_next_22 rfl (lv_at hl 2 rfl) ?_
        refine lv_if_le (tgt := 44) hx hb dMod_next_23 (by decide) (fun c_6 => ?_) (fun c_6 => ?_)
        · refine lv_aload_n hx hb dMod_next_44 rfl (lv_at hl 0 rfl) ?_
          refine mg_a FMod_63 17 ⟨rfl, by decide⟩ hx hb hts hown hW dMod_next_45 ?_
          refine lv_iload_n hx hb dMod_next_48 rfl (lv_at hl 1 rfl) ?_
          refine lv_iload_n hx hb dMod_next_49 rfl (lv_at hl 2 rfl) ?_
          refine m_is (j := 17) (v := ot) ⟨by decide, rfl⟩ hx hb hW (rg.in (MnoTable_rg hO c_3) (by decide) (by decide)) dMod_next_50 (fun H locs hW => ?_)
          refine lv_iconst (v := (1 : Int32)) hx hb dMod_next_51 (by decide) ?_
          exact e_i hsz hx hb hr hlk hW mono_hsM (Nat.le_refl _) (Nat.le_refl _) dMod_next_52 ⟨(Eq.symm (by refine (if_pos c_3).trans ?_; refine (if_neg c_4).trans ?_; refine (if_pos c_5).trans ?_; refine (if_pos c_6).trans ?_; rfl)), congrArg (hsM o z tt) (Eq.symm (by refine (if_pos c_3).trans ?_; refine (if_neg c_4).trans ?_; refine (if_pos c_5).trans ?_; refine (if_pos c_6).trans ?_; rfl))⟩
        · refine lv_aload_n hx hb dMod_next_26 rfl (lv_at hl 0 rfl) ?_
          refine mg_a FMod_48 12 ⟨rfl, by decide⟩ hx hb hts hown hW dMod_next_27 ?_
          refine lv_iload_n hx hb dMod_next_30 rfl (lv_at hl 2 rfl) ?_
          refine m_il (j := 12) (v := ma (MnoTable_S σ t0) 12 ot.toNatClampNeg) ⟨by decide, rfl⟩ hx hb hW (rg.in (rg_nx hO_2 c_4 c_5) (by decide) (by decide)) dMod_next_31 rfl ?_
          refine lv_aload_n hx hb dMod_next_32 rfl (lv_at hl 0 rfl) ?_
          refine mg_a FMod_48 12 ⟨rfl, by decide⟩ hx hb hts hown hW dMod_next_33 ?_
          refine lv_iload_n hx hb dMod_next_36 rfl (lv_at hl 1 rfl) ?_
          refine m_il (j := 12) (v := ma (MnoTable_S σ t0) 12 t0.toNatClampNeg) ⟨by decide, rfl⟩ hx hb hW (rg.in (MnoTable_rg hO c_3) (by decide) (by decide)) dMod_next_37 rfl ?_
          refine lv_icmp_eq (tgt := 44) hx hb dMod_next_38 (by decide) (fun c_7 => ?_) (fun c_7 => ?_)
          · refine lv_aload_n hx hb dMod_next_44 rfl (lv_at hl 0 rfl) ?_
            refine mg_a FMod_63 17 ⟨rfl, by decide⟩ hx hb hts hown hW dMod_next_45 ?_
            refine lv_iload_n hx hb dMod_next_48 rfl (lv_at hl 1 rfl) ?_
            refine lv_iload_n hx hb dMod_next_49 rfl (lv_at hl 2 rfl) ?_
            refine m_is (j := 17) (v := ot) ⟨by decide, rfl⟩ hx hb hW (rg.in (MnoTable_rg hO c_3) (by decide) (by decide)) dMod_next_50 (fun H locs hW => ?_)
            refine lv_iconst (v := (1 : Int32)) hx hb dMod_next_51 (by decide) ?_
            exact e_i hsz hx hb hr hlk hW mono_hsM (Nat.le_refl _) (Nat.le_refl _) dMod_next_52 ⟨(Eq.symm (by refine (if_pos c_3).trans ?_; refine (if_neg c_4).trans ?_; refine (if_pos c_5).trans ?_; refine (if_neg c_6).trans ?_; refine (if_pos c_7).trans ?_; rfl)), congrArg (hsM o z tt) (Eq.symm (by refine (if_pos c_3).trans ?_; refine (if_neg c_4).trans ?_; refine (if_pos c_5).trans ?_; refine (if_neg c_6).trans ?_; refine (if_pos c_7).trans ?_; rfl))⟩
          · refine lv_bipush (v := (-3 : Int32)) hx hb dMod_next_41 (by decide) ?_
            exact e_i hsz hx hb hr hlk hW mono_hsM (Nat.le_refl _) (Nat.le_refl _) dMod_next_43 ⟨(Eq.symm (by refine (if_pos c_3).trans ?_; refine (if_neg c_4).trans ?_; refine (if_pos c_5).trans ?_; refine (if_neg c_6).trans ?_; refine (if_neg c_7).trans ?_; rfl)), congrArg (hsM o z tt) (Eq.symm (by refine (if_pos c_3).trans ?_; refine (if_neg c_4).trans ?_; refine (if_pos c_5).trans ?_; refine (if_neg c_6).trans ?_; refine (if_neg c_7).trans ?_; rfl))⟩
      · refine lv_iconst (v := (-1 : Int32)) hx hb dMod_next_20 (by decide) ?_
        exact e_i hsz hx hb hr hlk hW mono_hsM (Nat.le_refl _) (Nat.le_refl _) dMod_next_21 ⟨(Eq.symm (by refine (if_pos c_3).trans ?_; refine (if_neg c_4).trans ?_; refine (if_neg c_5).trans ?_; rfl)), congrArg (hsM o z tt) (Eq.symm (by refine (if_pos c_3).trans ?_; refine (if_neg c_4).trans ?_; refine (if_neg c_5).trans ?_; rfl))⟩

def Msync_R (σ : MS) (t0 : Int32) (by_ : Int64) : Int32 :=
  if (MnoTable_R σ t0) = 0 then
    if by_ < (-2000 : Int64) then
      (-2 : Int32)
    else
      if (2000 : Int64) < by_ then
        (-2 : Int32)
      else
        if ((ml (MnoTable_S σ t0) 18 t0.toNatClampNeg) + by_) < (-1000 : Int64) then
          (-2 : Int32)
        else
          if (1000 : Int64) < ((ml (MnoTable_S σ t0) 18 t0.toNatClampNeg) + by_) then
            (-2 : Int32)
          else
            if (ma (MnoTable_S σ t0) 19 t0.toNatClampNeg) = 0 then
              (-3 : Int32)
            else
              ((ml (MnoTable_S σ t0) 18 t0.toNatClampNeg) + by_).toInt32
  else
    (-1 : Int32)
def Msync_S (σ : MS) (t0 : Int32) (by_ : Int64) : MS :=
  if (MnoTable_R σ t0) = 0 then
    if by_ < (-2000 : Int64) then
      (MnoTable_S σ t0)
    else
      if (2000 : Int64) < by_ then
        (MnoTable_S σ t0)
      else
        if ((ml (MnoTable_S σ t0) 18 t0.toNatClampNeg) + by_) < (-1000 : Int64) then
          (MnoTable_S σ t0)
        else
          if (1000 : Int64) < ((ml (MnoTable_S σ t0) 18 t0.toNatClampNeg) + by_) then
            (MnoTable_S σ t0)
          else
            if (ma (MnoTable_S σ t0) 19 t0.toNatClampNeg) = 0 then
              (MnoTable_S σ t0)
            else
              (sml (MnoTable_S σ t0) 18 t0.toNatClampNeg ((ml (MnoTable_S σ t0) 18 t0.toNatClampNeg) + by_))
  else
    (MnoTable_S σ t0)
set_option maxRecDepth 20000 in
set_option maxHeartbeats 2000000 in
theorem c_Msync (l : Launch) (D : va_G) (AC : Nat → ClassId) (o z tt : Nat) (σ : MS) (t0 : Int32) (by_ : Int64) (hO : mOk σ) : CtI l yMod_sync (Cond.code yMod_sync cMod_sync 5 (some .int) :: wT) 1 24 D AC (hsM o z tt σ) [.ref o, .int t0, .long by_] 0 0 (fun r S' => r = Msync_R σ t0 by_ ∧ S' = hsM o z tt (Msync_S σ t0 by_)) := by
  refine met_of (by decide) (Nat.le_of_ble_eq_true rfl) ?_
  intro p e s m below meth c ls hsz X hW hl
  obtain ⟨hx, hb, hml, hr, hlk, hown, hnm, hts⟩ := X
  have hl : lv_has ls 5 [(0, .ref o), (1, .int t0), (2, .long by_)] := hl
  refine lv_aload_n hx hb dMod_sync_0 rfl (lv_at hl 0 rfl) ?_
  refine lv_iload_n hx hb dMod_sync_1 rfl (lv_at hl 1 rfl) ?_
  refine k_Vi (K := 9) (As := [.int t0]) (rest := []) (c_MnoTable l D AC o z tt σ t0) CMod_128 ⟨by decide, by decide, _, rfl, rfl⟩ hx hb hml hown hts hW hsM_k hl.1 rfl rfl (Nat.le_of_ble_eq_true rfl) ⟨⟨Nat.le_of_ble_eq_true rfl, Nat.le_of_ble_eq_true rfl⟩, ⟨Nat.le_of_ble_eq_true rfl, Nat.le_of_ble_eq_true rfl⟩⟩ dMod_sync_2 (fun r_1 S_1 H locs e_1 hW _ _ => ?_)
  obtain ⟨e1_1, e2_1⟩ := e_1
  rw [e2_1] at hW
  rw [e1_1]
  have hO_2 : mOk (MnoTable_S σ t0) := mOk_noTable hO
  refine lv_if_eq (tgt := 10) hx hb dMod_sync_5 (by decide) (fun c_3 => ?_) (fun c_3 => ?_)
  · refine lv_lload_n hx hb dMod_sync_10 rfl (lv_at hl 2 rfl) ?_
    refine lv_ldc2 (v := (-2000 : Int64)) hx hb hown (hts _ QMod_131) dMod_sync_11 ?_
    refine ll_lt (tgt := 26) hx hb dMod_sync_14 dMod_sync_15 (by decide) (fun c_4 => ?_) (fun c_4 => ?_)
    · refine lv_iconst (v := (1 : Int32)) hx hb dMod_sync_26 (by decide) ?_
      refine lv_goto (tgt := 31) hx hb dMod_sync_27 (by decide) ?_
      refine lv_istore (lv' := [(4, .int (1 : Int32)), (0, .ref o), (1, .int t0), (2, .long by_)]) hx hb dMod_sync_31 hl (by decide) rfl (fun ls hl => ?_)
      refine lv_iload hx hb dMod_sync_33 (lv_at hl 0 rfl) ?_
      refine lv_if_ne (tgt := 68) hx hb dMod_sync_35 (by decide) (fun c_5 => ?_) (fun c_5 => ?_)
      · refine lv_bipush (v := (-2 : Int32)) hx hb dMod_sync_68 (by decide) ?_
        exact e_i hsz hx hb hr hlk hW mono_hsM (Nat.le_refl _) (Nat.le_refl _) dMod_sync_70 ⟨(Eq.symm (by refine (if_pos c_3).trans ?_; refine (if_pos c_4).trans ?_; rfl)), congrArg (hsM o z tt) (Eq.symm (by refine (if_pos c_3).trans ?_; refine (if_pos c_4).trans ?_; rfl))⟩
      · exact absurd c_5 (by decide)
    · refine lv_lload_n hx hb dMod_sync_18 rfl (lv_at hl 2 rfl) ?_
      refine lv_ldc2 (v := (2000 : Int64)) hx hb hown (hts _ QMod_133) dMod_sync_19 ?_
      refine ll_le (tgt := 30) hx hb dMod_sync_22 dMod_sync_23 (by decide) (fun c_6 => ?_) (fun c_6 => ?_)
      · refine lv_iconst (v := (0 : Int32)) hx hb dMod_sync_30 (by decide) ?_
        refine lv_istore (lv' := [(4, .int (0 : Int32)), (0, .ref o), (1, .int t0), (2, .long by_)]) hx hb dMod_sync_31 hl (by decide) rfl (fun ls hl => ?_)
        refine lv_iload hx hb dMod_sync_33 (lv_at hl 0 rfl) ?_
        refine lv_if_ne (tgt := 68) hx hb dMod_sync_35 (by decide) (fun c_7 => ?_) (fun c_7 => ?_)
        · exact absurd c_7 (by decide)
        · refine lv_aload_n hx hb dMod_sync_38 rfl (lv_at hl 1 rfl) ?_
          refine mg_a FMod_66 18 ⟨rfl, by decide⟩ hx hb hts hown hW dMod_sync_39 ?_
          refine lv_iload_n hx hb dMod_sync_42 rfl (lv_at hl 2 rfl) ?_
          refine m_ll (j := 18) (v := ml (MnoTable_S σ t0) 18 t0.toNatClampNeg) ⟨by decide, rfl⟩ hx hb hW (rg.in (MnoTable_rg hO c_3) (by decide) (by decide)) dMod_sync_43 rfl ?_
          refine lv_lload_n hx hb dMod_sync_44 rfl (lv_at hl 3 rfl) ?_
          refine lv_ladd hx hb dMod_sync_45 ?_
          refine lv_ldc2 (v := (-1000 : Int64)) hx hb hown (hts _ QMod_135) dMod_sync_46 ?_
          refine ll_lt (tgt := 68) hx hb dMod_sync_49 dMod_sync_50 (by decide) (fun c_8 => ?_) (fun c_8 => ?_)
          · refine lv_bipush (v := (-2 : Int32)) hx hb dMod_sync_68 (by decide) ?_
            exact e_i hsz hx hb hr hlk hW mono_hsM (Nat.le_refl _) (Nat.le_refl _) dMod_sync_70 ⟨(Eq.symm (by refine (if_pos c_3).trans ?_; refine (if_neg c_4).trans ?_; refine (if_neg c_6).trans ?_; refine (if_pos c_8).trans ?_; rfl)), congrArg (hsM o z tt) (Eq.symm (by refine (if_pos c_3).trans ?_; refine (if_neg c_4).trans ?_; refine (if_neg c_6).trans ?_; refine (if_pos c_8).trans ?_; rfl))⟩
          · refine lv_aload_n hx hb dMod_sync_53 rfl (lv_at hl 1 rfl) ?_
            refine mg_a FMod_66 18 ⟨rfl, by decide⟩ hx hb hts hown hW dMod_sync_54 ?_
            refine lv_iload_n hx hb dMod_sync_57 rfl (lv_at hl 2 rfl) ?_
            refine m_ll (j := 18) (v := ml (MnoTable_S σ t0) 18 t0.toNatClampNeg) ⟨by decide, rfl⟩ hx hb hW (rg.in (MnoTable_rg hO c_3) (by decide) (by decide)) dMod_sync_58 rfl ?_
            refine lv_lload_n hx hb dMod_sync_59 rfl (lv_at hl 3 rfl) ?_
            refine lv_ladd hx hb dMod_sync_60 ?_
            refine lv_ldc2 (v := (1000 : Int64)) hx hb hown (hts _ QMod_111) dMod_sync_61 ?_
            refine ll_le (tgt := 71) hx hb dMod_sync_64 dMod_sync_65 (by decide) (fun c_9 => ?_) (fun c_9 => ?_)
            · refine lv_aload_n hx hb dMod_sync_71 rfl (lv_at hl 1 rfl) ?_
              refine mg_a FMod_69 19 ⟨rfl, by decide⟩ hx hb hts hown hW dMod_sync_72 ?_
              refine lv_iload_n hx hb dMod_sync_75 rfl (lv_at hl 2 rfl) ?_
              refine m_zl (j := 19) (v := ma (MnoTable_S σ t0) 19 t0.toNatClampNeg) ⟨by decide, rfl⟩ hx hb hW (rg.in (MnoTable_rg hO c_3) (by decide) (by decide)) dMod_sync_76 rfl ?_
              refine lv_if_ne (tgt := 83) hx hb dMod_sync_77 (by decide) (fun c_10 => ?_) (fun c_10 => ?_)
              · refine lv_aload_n hx hb dMod_sync_83 rfl (lv_at hl 1 rfl) ?_
                refine mg_a FMod_66 18 ⟨rfl, by decide⟩ hx hb hts hown hW dMod_sync_84 ?_
                refine lv_iload_n hx hb dMod_sync_87 rfl (lv_at hl 2 rfl) ?_
                refine lv_aload_n hx hb dMod_sync_88 rfl (lv_at hl 1 rfl) ?_
                refine mg_a FMod_66 18 ⟨rfl, by decide⟩ hx hb hts hown hW dMod_sync_89 ?_
                refine lv_iload_n hx hb dMod_sync_92 rfl (lv_at hl 2 rfl) ?_
                refine m_ll (j := 18) (v := ml (MnoTable_S σ t0) 18 t0.toNatClampNeg) ⟨by decide, rfl⟩ hx hb hW (rg.in (MnoTable_rg hO c_3) (by decide) (by decide)) dMod_sync_93 rfl ?_
                refine lv_lload_n hx hb dMod_sync_94 rfl (lv_at hl 3 rfl) ?_
                refine lv_ladd hx hb dMod_sync_95 ?_
                refine m_ls (j := 18) (v := ((ml (MnoTable_S σ t0) 18 t0.toNatClampNeg) + by_)) ⟨by decide, rfl⟩ hx hb hW (rg.in (MnoTable_rg hO c_3) (by decide) (by decide)) dMod_sync_96 (fun H locs hW => ?_)
                refine lv_aload_n hx hb dMod_sync_97 rfl (lv_at hl 1 rfl) ?_
                refine mg_a FMod_66 18 ⟨rfl, by decide⟩ hx hb hts hown hW dMod_sync_98 ?_
                refine lv_iload_n hx hb dMod_sync_101 rfl (lv_at hl 2 rfl) ?_
                refine m_ll (j := 18) (v := ((ml (MnoTable_S σ t0) 18 t0.toNatClampNeg) + by_)) ⟨by decide, rfl⟩ hx hb hW (rg.in (MnoTable_rg hO c_3) (by decide) (by decide)) dMod_sync_102 (rl_s) ?_
                refine lv_l2i hx hb dMod_sync_103 rfl ?_
                exact e_i hsz hx hb hr hlk hW mono_hsM (Nat.le_refl _) (Nat.le_refl _) dMod_sync_104 ⟨(Eq.symm (by refine (if_pos c_3).trans ?_; refine (if_neg c_4).trans ?_; refine (if_neg c_6).trans ?_; refine (if_neg c_8).trans ?_; refine (if_neg c_9).trans ?_; refine (if_neg c_10).trans ?_; rfl)), congrArg (hsM o z tt) (Eq.symm (by refine (if_pos c_3).trans ?_; refine (if_neg c_4).trans ?_; refine (if_neg c_6).trans ?_; refine (if_neg c_8).trans ?_; refine (if_neg c_9).trans ?_; refine (if_neg c_10).trans ?_; rfl))⟩
              · refine lv_bipush (v := (-3 : Int32)) hx hb dMod_sync_80 (by decide) ?_
                exact e_i hsz hx hb hr hlk hW mono_hsM (Nat.le_refl _) (Nat.le_refl _) dMod_sync_82 ⟨(Eq.symm (by refine (if_pos c_3).trans ?_; refine (if_neg c_4).trans ?_; refine (if_neg c_6).trans ?_; refine (if_neg c_8).trans ?_; refine (if_neg c_9).trans ?_; refine (if_pos c_10).trans ?_; rfl)), congrArg (hsM o z tt) (Eq.symm (by refine (if_pos c_3).trans ?_; refine (if_neg c_4).trans ?_; refine (if_neg c_6).trans ?_; refine (if_neg c_8).trans ?_; refine (if_neg c_9).trans ?_; refine (if_pos c_10).trans ?_; rfl))⟩
            · refine lv_bipush (v := (-2 : Int32)) hx hb dMod_sync_68 (by decide) ?_
              exact e_i hsz hx hb hr hlk hW mono_hsM (Nat.le_refl _) (Nat.le_refl _) dMod_sync_70 ⟨(Eq.symm (by refine (if_pos c_3).trans ?_; refine (if_neg c_4).trans ?_; refine (if_neg c_6).trans ?_; refine (if_neg c_8).trans ?_; refine (if_pos c_9).trans ?_; rfl)), congrArg (hsM o z tt) (Eq.symm (by refine (if_pos c_3).trans ?_; refine (if_neg c_4).trans ?_; refine (if_neg c_6).trans ?_; refine (if_neg c_8).trans ?_; refine (if_pos c_9).trans ?_; rfl))⟩
      · refine lv_iconst (v := (1 : Int32)) hx hb dMod_sync_26 (by decide) ?_
        refine lv_goto (tgt := 31) hx hb dMod_sync_27 (by decide) ?_
        refine lv_istore (lv' := [(4, .int (1 : Int32)), (0, .ref o), (1, .int t0), (2, .long by_)]) hx hb dMod_sync_31 hl (by decide) rfl (fun ls hl => ?_)
        refine lv_iload hx hb dMod_sync_33 (lv_at hl 0 rfl) ?_
        refine lv_if_ne (tgt := 68) hx hb dMod_sync_35 (by decide) (fun c_11 => ?_) (fun c_11 => ?_)
        · refine lv_bipush (v := (-2 : Int32)) hx hb dMod_sync_68 (by decide) ?_
          exact e_i hsz hx hb hr hlk hW mono_hsM (Nat.le_refl _) (Nat.le_refl _) dMod_sync_70 ⟨(Eq.symm (by refine (if_pos c_3).trans ?_; refine (if_neg c_4).trans ?_; refine (if_pos c_6).trans ?_; rfl)), congrArg (hsM o z tt) (Eq.symm (by refine (if_pos c_3).trans ?_; refine (if_neg c_4).trans ?_; refine (if_pos c_6).trans ?_; rfl))⟩
        · exact absurd c_11 (by decide)
  · refine lv_iconst (v := (-1 : Int32)) hx hb dMod_sync_8 (by decide) ?_
    exact e_i hsz hx hb hr hlk hW mono_hsM (Nat.le_refl _) (Nat.le_refl _) dMod_sync_9 ⟨(Eq.symm (by refine (if_neg c_3).trans ?_; rfl)), congrArg (hsM o z tt) (Eq.symm (by refine (if_neg c_3).trans ?_; rfl))⟩

def Mdeviation_R (σ : MS) (t0 : Int32) : Int64 :=
  if (MnoTable_R σ t0) = 0 then
    ml (MnoTable_S σ t0) 18 t0.toNatClampNeg
  else
    (0 : Int64)
def Mdeviation_S (σ : MS) (t0 : Int32) : MS :=
  if (MnoTable_R σ t0) = 0 then
    (MnoTable_S σ t0)
  else
    (MnoTable_S σ t0)
set_option maxRecDepth 20000 in
set_option maxHeartbeats 2000000 in
theorem c_Mdeviation (l : Launch) (D : va_G) (AC : Nat → ClassId) (o z tt : Nat) (σ : MS) (t0 : Int32) (hO : mOk σ) : CtL l yMod_deviation (Cond.code yMod_deviation cMod_deviation 2 (some .long) :: wT) 1 24 D AC (hsM o z tt σ) [.ref o, .int t0] 0 0 (fun r S' => r = Mdeviation_R σ t0 ∧ S' = hsM o z tt (Mdeviation_S σ t0)) := by
  refine met_of (by decide) (Nat.le_of_ble_eq_true rfl) ?_
  intro p e s m below meth c ls hsz X hW hl
  obtain ⟨hx, hb, hml, hr, hlk, hown, hnm, hts⟩ := X
  have hl : lv_has ls 2 [(0, .ref o), (1, .int t0)] := hl
  refine lv_aload_n hx hb dMod_deviation_0 rfl (lv_at hl 0 rfl) ?_
  refine lv_iload_n hx hb dMod_deviation_1 rfl (lv_at hl 1 rfl) ?_
  refine k_Vi (K := 9) (As := [.int t0]) (rest := []) (c_MnoTable l D AC o z tt σ t0) CMod_128 ⟨by decide, by decide, _, rfl, rfl⟩ hx hb hml hown hts hW hsM_k hl.1 rfl rfl (Nat.le_of_ble_eq_true rfl) ⟨⟨Nat.le_of_ble_eq_true rfl, Nat.le_of_ble_eq_true rfl⟩, ⟨Nat.le_of_ble_eq_true rfl, Nat.le_of_ble_eq_true rfl⟩⟩ dMod_deviation_2 (fun r_1 S_1 H locs e_1 hW _ _ => ?_)
  obtain ⟨e1_1, e2_1⟩ := e_1
  rw [e2_1] at hW
  rw [e1_1]
  have hO_2 : mOk (MnoTable_S σ t0) := mOk_noTable hO
  refine lv_if_eq (tgt := 12) hx hb dMod_deviation_5 (by decide) (fun c_3 => ?_) (fun c_3 => ?_)
  · refine lv_aload_n hx hb dMod_deviation_12 rfl (lv_at hl 0 rfl) ?_
    refine mg_a FMod_66 18 ⟨rfl, by decide⟩ hx hb hts hown hW dMod_deviation_13 ?_
    refine lv_iload_n hx hb dMod_deviation_16 rfl (lv_at hl 1 rfl) ?_
    refine m_ll (j := 18) (v := ml (MnoTable_S σ t0) 18 t0.toNatClampNeg) ⟨by decide, rfl⟩ hx hb hW (rg.in (MnoTable_rg hO c_3) (by decide) (by decide)) dMod_deviation_17 rfl ?_
    exact e_l hsz hx hb hr hlk hW mono_hsM (Nat.le_refl _) (Nat.le_refl _) dMod_deviation_18 ⟨(Eq.symm (by refine (if_pos c_3).trans ?_; rfl)), congrArg (hsM o z tt) (Eq.symm (by refine (if_pos c_3).trans ?_; rfl))⟩
  · refine lv_lconst (v := (0 : Int64)) hx hb dMod_deviation_8 (by decide) ?_
    refine lv_goto (tgt := 18) hx hb dMod_deviation_9 (by decide) ?_
    exact e_l hsz hx hb hr hlk hW mono_hsM (Nat.le_refl _) (Nat.le_refl _) dMod_deviation_18 ⟨(Eq.symm (by refine (if_neg c_3).trans ?_; rfl)), congrArg (hsM o z tt) (Eq.symm (by refine (if_neg c_3).trans ?_; rfl))⟩

theorem rg_ex {x : Int32} (h1 : ¬ x < 0) (h2 : x ≤ 2999) : rg 0 2999 x := by
  rw [Int32.lt_iff_toInt_lt] at h1
  rw [Int32.le_iff_toInt_le] at h2
  have e : (0 : Int32).toInt = 0 := rfl
  have e2 : (2999 : Int32).toInt = 2999 := rfl
  exact ⟨by omega, by omega⟩

def Mexpired_R (σ : MS) (i0 : Int32) (wh : Int32) : Int32 :=
  if i0 = (-1 : Int32) then
    if wh = 0 then
      mi σ 18
    else
      if i0 < 0 then
        (-1 : Int32)
      else
        if (mi σ 18) ≤ i0 then
          (-1 : Int32)
        else
          if i0 ≤ (2999 : Int32) then
            if wh < 0 then
              (-2 : Int32)
            else
              if wh ≤ (3 : Int32) then
                if wh = (1 : Int32) then
                  ma σ 23 i0.toNatClampNeg
                else
                  if wh = (2 : Int32) then
                    ma σ 24 i0.toNatClampNeg
                  else
                    ma σ 25 i0.toNatClampNeg
              else
                (-2 : Int32)
          else
            (-1 : Int32)
  else
    if i0 < 0 then
      (-1 : Int32)
    else
      if (mi σ 18) ≤ i0 then
        (-1 : Int32)
      else
        if i0 ≤ (2999 : Int32) then
          if wh < 0 then
            (-2 : Int32)
          else
            if wh ≤ (3 : Int32) then
              if wh = 0 then
                ma σ 22 i0.toNatClampNeg
              else
                if wh = (1 : Int32) then
                  ma σ 23 i0.toNatClampNeg
                else
                  if wh = (2 : Int32) then
                    ma σ 24 i0.toNatClampNeg
                  else
                    ma σ 25 i0.toNatClampNeg
            else
              (-2 : Int32)
        else
          (-1 : Int32)
def Mexpired_S (σ : MS) (i0 : Int32) (wh : Int32) : MS :=
  if i0 = (-1 : Int32) then
    if wh = 0 then
      (smi σ 14 (0 : Int32))
    else
      if i0 < 0 then
        (smi σ 14 (0 : Int32))
      else
        if (mi σ 18) ≤ i0 then
          (smi σ 14 (0 : Int32))
        else
          if i0 ≤ (2999 : Int32) then
            if wh < 0 then
              (smi σ 14 (0 : Int32))
            else
              if wh ≤ (3 : Int32) then
                if wh = (1 : Int32) then
                  (smi σ 14 (0 : Int32))
                else
                  if wh = (2 : Int32) then
                    (smi σ 14 (0 : Int32))
                  else
                    (smi σ 14 (0 : Int32))
              else
                (smi σ 14 (0 : Int32))
          else
            (smi σ 14 (0 : Int32))
  else
    if i0 < 0 then
      (smi σ 14 (0 : Int32))
    else
      if (mi σ 18) ≤ i0 then
        (smi σ 14 (0 : Int32))
      else
        if i0 ≤ (2999 : Int32) then
          if wh < 0 then
            (smi σ 14 (0 : Int32))
          else
            if wh ≤ (3 : Int32) then
              if wh = 0 then
                (smi σ 14 (0 : Int32))
              else
                if wh = (1 : Int32) then
                  (smi σ 14 (0 : Int32))
                else
                  if wh = (2 : Int32) then
                    (smi σ 14 (0 : Int32))
                  else
                    (smi σ 14 (0 : Int32))
            else
              (smi σ 14 (0 : Int32))
        else
          (smi σ 14 (0 : Int32))
set_option maxRecDepth 20000 in
set_option maxHeartbeats 2000000 in
theorem c_Mexpired (l : Launch) (D : va_G) (AC : Nat → ClassId) (o z tt : Nat) (σ : MS) (i0 : Int32) (wh : Int32)  : CtI l yMod_expired (Cond.code yMod_expired cMod_expired 3 (some .int) :: wT) 0 0 D AC (hsM o z tt σ) [.ref o, .int i0, .int wh] 0 0 (fun r S' => r = Mexpired_R σ i0 wh ∧ S' = hsM o z tt (Mexpired_S σ i0 wh)) := by
  refine met_of (by decide) (Nat.le_of_ble_eq_true rfl) ?_
  intro p e s m below meth c ls hsz X hW hl
  obtain ⟨hx, hb, hml, hr, hlk, hown, hnm, hts⟩ := X
  have hl : lv_has ls 3 [(0, .ref o), (1, .int i0), (2, .int wh)] := hl
  refine lv_aload_n hx hb dMod_expired_0 rfl (lv_at hl 0 rfl) ?_
  refine lv_iconst (v := (0 : Int32)) hx hb dMod_expired_1 (by decide) ?_
  refine mp_i FMod_96 GMod_code hx hb hts hown hW rfl rfl dMod_expired_2 (fun H locs hW => ?_)
  refine lv_iload_n hx hb dMod_expired_5 rfl (lv_at hl 1 rfl) ?_
  refine lv_iconst (v := (-1 : Int32)) hx hb dMod_expired_6 (by decide) ?_
  refine lv_icmp_ne (tgt := 19) hx hb dMod_expired_7 (by decide) (fun c_1 => ?_) (fun c_1 => ?_)
  · refine lv_iload_n hx hb dMod_expired_19 rfl (lv_at hl 1 rfl) ?_
    refine lv_if_lt (tgt := 38) hx hb dMod_expired_20 (by decide) (fun c_2 => ?_) (fun c_2 => ?_)
    · refine lv_iconst (v := (-1 : Int32)) hx hb dMod_expired_38 (by decide) ?_
      exact e_i hsz hx hb hr hlk hW mono_hsM (Nat.le_refl _) (Nat.le_refl _) dMod_expired_39 ⟨(Eq.symm (by refine (if_neg c_1).trans ?_; refine (if_pos c_2).trans ?_; rfl)), congrArg (hsM o z tt) (Eq.symm (by refine (if_neg c_1).trans ?_; refine (if_pos c_2).trans ?_; rfl))⟩
    · refine lv_iload_n hx hb dMod_expired_23 rfl (lv_at hl 1 rfl) ?_
      refine lv_aload_n hx hb dMod_expired_24 rfl (lv_at hl 0 rfl) ?_
      refine mg_i (v := mi σ 18) FMod_137 hx hb hts hown hW dMod_expired_25 (ri_i (by decide)) ?_
      refine lv_icmp_ge (tgt := 38) hx hb dMod_expired_28 (by decide) (fun c_3 => ?_) (fun c_3 => ?_)
      · refine lv_iconst (v := (-1 : Int32)) hx hb dMod_expired_38 (by decide) ?_
        exact e_i hsz hx hb hr hlk hW mono_hsM (Nat.le_refl _) (Nat.le_refl _) dMod_expired_39 ⟨(Eq.symm (by refine (if_neg c_1).trans ?_; refine (if_neg c_2).trans ?_; refine (if_pos c_3).trans ?_; rfl)), congrArg (hsM o z tt) (Eq.symm (by refine (if_neg c_1).trans ?_; refine (if_neg c_2).trans ?_; refine (if_pos c_3).trans ?_; rfl))⟩
      · refine lv_iload_n hx hb dMod_expired_31 rfl (lv_at hl 1 rfl) ?_
        refine lv_sipush (v := (2999 : Int32)) hx hb dMod_expired_32 (by decide) ?_
        refine lv_icmp_le (tgt := 40) hx hb dMod_expired_35 (by decide) (fun c_4 => ?_) (fun c_4 => ?_)
        · refine lv_iload_n hx hb dMod_expired_40 rfl (lv_at hl 2 rfl) ?_
          refine lv_if_lt (tgt := 49) hx hb dMod_expired_41 (by decide) (fun c_5 => ?_) (fun c_5 => ?_)
          · refine lv_bipush (v := (-2 : Int32)) hx hb dMod_expired_49 (by decide) ?_
            exact e_i hsz hx hb hr hlk hW mono_hsM (Nat.le_refl _) (Nat.le_refl _) dMod_expired_51 ⟨(Eq.symm (by refine (if_neg c_1).trans ?_; refine (if_neg c_2).trans ?_; refine (if_neg c_3).trans ?_; refine (if_pos c_4).trans ?_; refine (if_pos c_5).trans ?_; rfl)), congrArg (hsM o z tt) (Eq.symm (by refine (if_neg c_1).trans ?_; refine (if_neg c_2).trans ?_; refine (if_neg c_3).trans ?_; refine (if_pos c_4).trans ?_; refine (if_pos c_5).trans ?_; rfl))⟩
          · refine lv_iload_n hx hb dMod_expired_44 rfl (lv_at hl 2 rfl) ?_
            refine lv_iconst (v := (3 : Int32)) hx hb dMod_expired_45 (by decide) ?_
            refine lv_icmp_le (tgt := 52) hx hb dMod_expired_46 (by decide) (fun c_6 => ?_) (fun c_6 => ?_)
            · refine lv_iload_n hx hb dMod_expired_52 rfl (lv_at hl 2 rfl) ?_
              refine lv_if_ne (tgt := 65) hx hb dMod_expired_53 (by decide) (fun c_7 => ?_) (fun c_7 => ?_)
              · refine lv_iload_n hx hb dMod_expired_65 rfl (lv_at hl 2 rfl) ?_
                refine lv_iconst (v := (1 : Int32)) hx hb dMod_expired_66 (by decide) ?_
                refine lv_icmp_ne (tgt := 79) hx hb dMod_expired_67 (by decide) (fun c_8 => ?_) (fun c_8 => ?_)
                · refine lv_iload_n hx hb dMod_expired_79 rfl (lv_at hl 2 rfl) ?_
                  refine lv_iconst (v := (2 : Int32)) hx hb dMod_expired_80 (by decide) ?_
                  refine lv_icmp_ne (tgt := 93) hx hb dMod_expired_81 (by decide) (fun c_9 => ?_) (fun c_9 => ?_)
                  · refine lv_aload_n hx hb dMod_expired_93 rfl (lv_at hl 0 rfl) ?_
                    refine mg_a FMod_87 25 ⟨rfl, by decide⟩ hx hb hts hown hW dMod_expired_94 ?_
                    refine lv_iload_n hx hb dMod_expired_97 rfl (lv_at hl 1 rfl) ?_
                    refine m_il (j := 25) (v := ma σ 25 i0.toNatClampNeg) ⟨by decide, rfl⟩ hx hb hW (rg.in (rg_ex c_2 c_4) (by decide) (by decide)) dMod_expired_98 (ra_i) ?_
                    exact e_i hsz hx hb hr hlk hW mono_hsM (Nat.le_refl _) (Nat.le_refl _) dMod_expired_99 ⟨(Eq.symm (by refine (if_neg c_1).trans ?_; refine (if_neg c_2).trans ?_; refine (if_neg c_3).trans ?_; refine (if_pos c_4).trans ?_; refine (if_neg c_5).trans ?_; refine (if_pos c_6).trans ?_; refine (if_neg c_7).trans ?_; refine (if_neg c_8).trans ?_; refine (if_neg c_9).trans ?_; rfl)), congrArg (hsM o z tt) (Eq.symm (by refine (if_neg c_1).trans ?_; refine (if_neg c_2).trans ?_; refine (if_neg c_3).trans ?_; refine (if_pos c_4).trans ?_; refine (if_neg c_5).trans ?_; refine (if_pos c_6).trans ?_; refine (if_neg c_7).trans ?_; refine (if_neg c_8).trans ?_; refine (if_neg c_9).trans ?_; rfl))⟩
                  · refine lv_aload_n hx hb dMod_expired_84 rfl (lv_at hl 0 rfl) ?_
                    refine mg_a FMod_84 24 ⟨rfl, by decide⟩ hx hb hts hown hW dMod_expired_85 ?_
                    refine lv_iload_n hx hb dMod_expired_88 rfl (lv_at hl 1 rfl) ?_
                    refine m_il (j := 24) (v := ma σ 24 i0.toNatClampNeg) ⟨by decide, rfl⟩ hx hb hW (rg.in (rg_ex c_2 c_4) (by decide) (by decide)) dMod_expired_89 (ra_i) ?_
                    refine lv_goto (tgt := 99) hx hb dMod_expired_90 (by decide) ?_
                    exact e_i hsz hx hb hr hlk hW mono_hsM (Nat.le_refl _) (Nat.le_refl _) dMod_expired_99 ⟨(Eq.symm (by refine (if_neg c_1).trans ?_; refine (if_neg c_2).trans ?_; refine (if_neg c_3).trans ?_; refine (if_pos c_4).trans ?_; refine (if_neg c_5).trans ?_; refine (if_pos c_6).trans ?_; refine (if_neg c_7).trans ?_; refine (if_neg c_8).trans ?_; refine (if_pos c_9).trans ?_; rfl)), congrArg (hsM o z tt) (Eq.symm (by refine (if_neg c_1).trans ?_; refine (if_neg c_2).trans ?_; refine (if_neg c_3).trans ?_; refine (if_pos c_4).trans ?_; refine (if_neg c_5).trans ?_; refine (if_pos c_6).trans ?_; refine (if_neg c_7).trans ?_; refine (if_neg c_8).trans ?_; refine (if_pos c_9).trans ?_; rfl))⟩
                · refine lv_aload_n hx hb dMod_expired_70 rfl (lv_at hl 0 rfl) ?_
                  refine mg_a FMod_81 23 ⟨rfl, by decide⟩ hx hb hts hown hW dMod_expired_71 ?_
                  refine lv_iload_n hx hb dMod_expired_74 rfl (lv_at hl 1 rfl) ?_
                  refine m_il (j := 23) (v := ma σ 23 i0.toNatClampNeg) ⟨by decide, rfl⟩ hx hb hW (rg.in (rg_ex c_2 c_4) (by decide) (by decide)) dMod_expired_75 (ra_i) ?_
                  refine lv_goto (tgt := 99) hx hb dMod_expired_76 (by decide) ?_
                  exact e_i hsz hx hb hr hlk hW mono_hsM (Nat.le_refl _) (Nat.le_refl _) dMod_expired_99 ⟨(Eq.symm (by refine (if_neg c_1).trans ?_; refine (if_neg c_2).trans ?_; refine (if_neg c_3).trans ?_; refine (if_pos c_4).trans ?_; refine (if_neg c_5).trans ?_; refine (if_pos c_6).trans ?_; refine (if_neg c_7).trans ?_; refine (if_pos c_8).trans ?_; rfl)), congrArg (hsM o z tt) (Eq.symm (by refine (if_neg c_1).trans ?_; refine (if_neg c_2).trans ?_; refine (if_neg c_3).trans ?_; refine (if_pos c_4).trans ?_; refine (if_neg c_5).trans ?_; refine (if_pos c_6).trans ?_; refine (if_neg c_7).trans ?_; refine (if_pos c_8).trans ?_; rfl))⟩
              · refine lv_aload_n hx hb dMod_expired_56 rfl (lv_at hl 0 rfl) ?_
                refine mg_a FMod_78 22 ⟨rfl, by decide⟩ hx hb hts hown hW dMod_expired_57 ?_
                refine lv_iload_n hx hb dMod_expired_60 rfl (lv_at hl 1 rfl) ?_
                refine m_il (j := 22) (v := ma σ 22 i0.toNatClampNeg) ⟨by decide, rfl⟩ hx hb hW (rg.in (rg_ex c_2 c_4) (by decide) (by decide)) dMod_expired_61 (ra_i) ?_
                refine lv_goto (tgt := 99) hx hb dMod_expired_62 (by decide) ?_
                exact e_i hsz hx hb hr hlk hW mono_hsM (Nat.le_refl _) (Nat.le_refl _) dMod_expired_99 ⟨(Eq.symm (by refine (if_neg c_1).trans ?_; refine (if_neg c_2).trans ?_; refine (if_neg c_3).trans ?_; refine (if_pos c_4).trans ?_; refine (if_neg c_5).trans ?_; refine (if_pos c_6).trans ?_; refine (if_pos c_7).trans ?_; rfl)), congrArg (hsM o z tt) (Eq.symm (by refine (if_neg c_1).trans ?_; refine (if_neg c_2).trans ?_; refine (if_neg c_3).trans ?_; refine (if_pos c_4).trans ?_; refine (if_neg c_5).trans ?_; refine (if_pos c_6).trans ?_; refine (if_pos c_7).trans ?_; rfl))⟩
            · refine lv_bipush (v := (-2 : Int32)) hx hb dMod_expired_49 (by decide) ?_
              exact e_i hsz hx hb hr hlk hW mono_hsM (Nat.le_refl _) (Nat.le_refl _) dMod_expired_51 ⟨(Eq.symm (by refine (if_neg c_1).trans ?_; refine (if_neg c_2).trans ?_; refine (if_neg c_3).trans ?_; refine (if_pos c_4).trans ?_; refine (if_neg c_5).trans ?_; refine (if_neg c_6).trans ?_; rfl)), congrArg (hsM o z tt) (Eq.symm (by refine (if_neg c_1).trans ?_; refine (if_neg c_2).trans ?_; refine (if_neg c_3).trans ?_; refine (if_pos c_4).trans ?_; refine (if_neg c_5).trans ?_; refine (if_neg c_6).trans ?_; rfl))⟩
        · refine lv_iconst (v := (-1 : Int32)) hx hb dMod_expired_38 (by decide) ?_
          exact e_i hsz hx hb hr hlk hW mono_hsM (Nat.le_refl _) (Nat.le_refl _) dMod_expired_39 ⟨(Eq.symm (by refine (if_neg c_1).trans ?_; refine (if_neg c_2).trans ?_; refine (if_neg c_3).trans ?_; refine (if_neg c_4).trans ?_; rfl)), congrArg (hsM o z tt) (Eq.symm (by refine (if_neg c_1).trans ?_; refine (if_neg c_2).trans ?_; refine (if_neg c_3).trans ?_; refine (if_neg c_4).trans ?_; rfl))⟩
  · refine lv_iload_n hx hb dMod_expired_10 rfl (lv_at hl 2 rfl) ?_
    refine lv_if_ne (tgt := 19) hx hb dMod_expired_11 (by decide) (fun c_10 => ?_) (fun c_10 => ?_)
    · refine lv_iload_n hx hb dMod_expired_19 rfl (lv_at hl 1 rfl) ?_
      refine lv_if_lt (tgt := 38) hx hb dMod_expired_20 (by decide) (fun c_11 => ?_) (fun c_11 => ?_)
      · refine lv_iconst (v := (-1 : Int32)) hx hb dMod_expired_38 (by decide) ?_
        exact e_i hsz hx hb hr hlk hW mono_hsM (Nat.le_refl _) (Nat.le_refl _) dMod_expired_39 ⟨(Eq.symm (by refine (if_pos c_1).trans ?_; refine (if_neg c_10).trans ?_; refine (if_pos c_11).trans ?_; rfl)), congrArg (hsM o z tt) (Eq.symm (by refine (if_pos c_1).trans ?_; refine (if_neg c_10).trans ?_; refine (if_pos c_11).trans ?_; rfl))⟩
      · refine lv_iload_n hx hb dMod_expired_23 rfl (lv_at hl 1 rfl) ?_
        refine lv_aload_n hx hb dMod_expired_24 rfl (lv_at hl 0 rfl) ?_
        refine mg_i (v := mi σ 18) FMod_137 hx hb hts hown hW dMod_expired_25 (ri_i (by decide)) ?_
        refine lv_icmp_ge (tgt := 38) hx hb dMod_expired_28 (by decide) (fun c_12 => ?_) (fun c_12 => ?_)
        · refine lv_iconst (v := (-1 : Int32)) hx hb dMod_expired_38 (by decide) ?_
          exact e_i hsz hx hb hr hlk hW mono_hsM (Nat.le_refl _) (Nat.le_refl _) dMod_expired_39 ⟨(Eq.symm (by refine (if_pos c_1).trans ?_; refine (if_neg c_10).trans ?_; refine (if_neg c_11).trans ?_; refine (if_pos c_12).trans ?_; rfl)), congrArg (hsM o z tt) (Eq.symm (by refine (if_pos c_1).trans ?_; refine (if_neg c_10).trans ?_; refine (if_neg c_11).trans ?_; refine (if_pos c_12).trans ?_; rfl))⟩
        · refine lv_iload_n hx hb dMod_expired_31 rfl (lv_at hl 1 rfl) ?_
          refine lv_sipush (v := (2999 : Int32)) hx hb dMod_expired_32 (by decide) ?_
          refine lv_icmp_le (tgt := 40) hx hb dMod_expired_35 (by decide) (fun c_13 => ?_) (fun c_13 => ?_)
          · refine lv_iload_n hx hb dMod_expired_40 rfl (lv_at hl 2 rfl) ?_
            refine lv_if_lt (tgt := 49) hx hb dMod_expired_41 (by decide) (fun c_14 => ?_) (fun c_14 => ?_)
            · refine lv_bipush (v := (-2 : Int32)) hx hb dMod_expired_49 (by decide) ?_
              exact e_i hsz hx hb hr hlk hW mono_hsM (Nat.le_refl _) (Nat.le_refl _) dMod_expired_51 ⟨(Eq.symm (by refine (if_pos c_1).trans ?_; refine (if_neg c_10).trans ?_; refine (if_neg c_11).trans ?_; refine (if_neg c_12).trans ?_; refine (if_pos c_13).trans ?_; refine (if_pos c_14).trans ?_; rfl)), congrArg (hsM o z tt) (Eq.symm (by refine (if_pos c_1).trans ?_; refine (if_neg c_10).trans ?_; refine (if_neg c_11).trans ?_; refine (if_neg c_12).trans ?_; refine (if_pos c_13).trans ?_; refine (if_pos c_14).trans ?_; rfl))⟩
            · refine lv_iload_n hx hb dMod_expired_44 rfl (lv_at hl 2 rfl) ?_
              refine lv_iconst (v := (3 : Int32)) hx hb dMod_expired_45 (by decide) ?_
              refine lv_icmp_le (tgt := 52) hx hb dMod_expired_46 (by decide) (fun c_15 => ?_) (fun c_15 => ?_)
              · refine lv_iload_n hx hb dMod_expired_52 rfl (lv_at hl 2 rfl) ?_
                refine lv_if_ne (tgt := 65) hx hb dMod_expired_53 (by decide) (fun c_16 => ?_) (fun c_16 => ?_)
                · refine lv_iload_n hx hb dMod_expired_65 rfl (lv_at hl 2 rfl) ?_
                  refine lv_iconst (v := (1 : Int32)) hx hb dMod_expired_66 (by decide) ?_
                  refine lv_icmp_ne (tgt := 79) hx hb dMod_expired_67 (by decide) (fun c_17 => ?_) (fun c_17 => ?_)
                  · refine lv_iload_n hx hb dMod_expired_79 rfl (lv_at hl 2 rfl) ?_
                    refine lv_iconst (v := (2 : Int32)) hx hb dMod_expired_80 (by decide) ?_
                    refine lv_icmp_ne (tgt := 93) hx hb dMod_expired_81 (by decide) (fun c_18 => ?_) (fun c_18 => ?_)
                    · refine lv_aload_n hx hb dMod_expired_93 rfl (lv_at hl 0 rfl) ?_
                      refine mg_a FMod_87 25 ⟨rfl, by decide⟩ hx hb hts hown hW dMod_expired_94 ?_
                      refine lv_iload_n hx hb dMod_expired_97 rfl (lv_at hl 1 rfl) ?_
                      refine m_il (j := 25) (v := ma σ 25 i0.toNatClampNeg) ⟨by decide, rfl⟩ hx hb hW (rg.in (rg_ex c_11 c_13) (by decide) (by decide)) dMod_expired_98 (ra_i) ?_
                      exact e_i hsz hx hb hr hlk hW mono_hsM (Nat.le_refl _) (Nat.le_refl _) dMod_expired_99 ⟨(Eq.symm (by refine (if_pos c_1).trans ?_; refine (if_neg c_10).trans ?_; refine (if_neg c_11).trans ?_; refine (if_neg c_12).trans ?_; refine (if_pos c_13).trans ?_; refine (if_neg c_14).trans ?_; refine (if_pos c_15).trans ?_; refine (if_neg c_17).trans ?_; refine (if_neg c_18).trans ?_; rfl)), congrArg (hsM o z tt) (Eq.symm (by refine (if_pos c_1).trans ?_; refine (if_neg c_10).trans ?_; refine (if_neg c_11).trans ?_; refine (if_neg c_12).trans ?_; refine (if_pos c_13).trans ?_; refine (if_neg c_14).trans ?_; refine (if_pos c_15).trans ?_; refine (if_neg c_17).trans ?_; refine (if_neg c_18).trans ?_; rfl))⟩
                    · refine lv_aload_n hx hb dMod_expired_84 rfl (lv_at hl 0 rfl) ?_
                      refine mg_a FMod_84 24 ⟨rfl, by decide⟩ hx hb hts hown hW dMod_expired_85 ?_
                      refine lv_iload_n hx hb dMod_expired_88 rfl (lv_at hl 1 rfl) ?_
                      refine m_il (j := 24) (v := ma σ 24 i0.toNatClampNeg) ⟨by decide, rfl⟩ hx hb hW (rg.in (rg_ex c_11 c_13) (by decide) (by decide)) dMod_expired_89 (ra_i) ?_
                      refine lv_goto (tgt := 99) hx hb dMod_expired_90 (by decide) ?_
                      exact e_i hsz hx hb hr hlk hW mono_hsM (Nat.le_refl _) (Nat.le_refl _) dMod_expired_99 ⟨(Eq.symm (by refine (if_pos c_1).trans ?_; refine (if_neg c_10).trans ?_; refine (if_neg c_11).trans ?_; refine (if_neg c_12).trans ?_; refine (if_pos c_13).trans ?_; refine (if_neg c_14).trans ?_; refine (if_pos c_15).trans ?_; refine (if_neg c_17).trans ?_; refine (if_pos c_18).trans ?_; rfl)), congrArg (hsM o z tt) (Eq.symm (by refine (if_pos c_1).trans ?_; refine (if_neg c_10).trans ?_; refine (if_neg c_11).trans ?_; refine (if_neg c_12).trans ?_; refine (if_pos c_13).trans ?_; refine (if_neg c_14).trans ?_; refine (if_pos c_15).trans ?_; refine (if_neg c_17).trans ?_; refine (if_pos c_18).trans ?_; rfl))⟩
                  · refine lv_aload_n hx hb dMod_expired_70 rfl (lv_at hl 0 rfl) ?_
                    refine mg_a FMod_81 23 ⟨rfl, by decide⟩ hx hb hts hown hW dMod_expired_71 ?_
                    refine lv_iload_n hx hb dMod_expired_74 rfl (lv_at hl 1 rfl) ?_
                    refine m_il (j := 23) (v := ma σ 23 i0.toNatClampNeg) ⟨by decide, rfl⟩ hx hb hW (rg.in (rg_ex c_11 c_13) (by decide) (by decide)) dMod_expired_75 (ra_i) ?_
                    refine lv_goto (tgt := 99) hx hb dMod_expired_76 (by decide) ?_
                    exact e_i hsz hx hb hr hlk hW mono_hsM (Nat.le_refl _) (Nat.le_refl _) dMod_expired_99 ⟨(Eq.symm (by refine (if_pos c_1).trans ?_; refine (if_neg c_10).trans ?_; refine (if_neg c_11).trans ?_; refine (if_neg c_12).trans ?_; refine (if_pos c_13).trans ?_; refine (if_neg c_14).trans ?_; refine (if_pos c_15).trans ?_; refine (if_pos c_17).trans ?_; rfl)), congrArg (hsM o z tt) (Eq.symm (by refine (if_pos c_1).trans ?_; refine (if_neg c_10).trans ?_; refine (if_neg c_11).trans ?_; refine (if_neg c_12).trans ?_; refine (if_pos c_13).trans ?_; refine (if_neg c_14).trans ?_; refine (if_pos c_15).trans ?_; refine (if_pos c_17).trans ?_; rfl))⟩
                · exact absurd c_16 c_10
              · refine lv_bipush (v := (-2 : Int32)) hx hb dMod_expired_49 (by decide) ?_
                exact e_i hsz hx hb hr hlk hW mono_hsM (Nat.le_refl _) (Nat.le_refl _) dMod_expired_51 ⟨(Eq.symm (by refine (if_pos c_1).trans ?_; refine (if_neg c_10).trans ?_; refine (if_neg c_11).trans ?_; refine (if_neg c_12).trans ?_; refine (if_pos c_13).trans ?_; refine (if_neg c_14).trans ?_; refine (if_neg c_15).trans ?_; rfl)), congrArg (hsM o z tt) (Eq.symm (by refine (if_pos c_1).trans ?_; refine (if_neg c_10).trans ?_; refine (if_neg c_11).trans ?_; refine (if_neg c_12).trans ?_; refine (if_pos c_13).trans ?_; refine (if_neg c_14).trans ?_; refine (if_neg c_15).trans ?_; rfl))⟩
          · refine lv_iconst (v := (-1 : Int32)) hx hb dMod_expired_38 (by decide) ?_
            exact e_i hsz hx hb hr hlk hW mono_hsM (Nat.le_refl _) (Nat.le_refl _) dMod_expired_39 ⟨(Eq.symm (by refine (if_pos c_1).trans ?_; refine (if_neg c_10).trans ?_; refine (if_neg c_11).trans ?_; refine (if_neg c_12).trans ?_; refine (if_neg c_13).trans ?_; rfl)), congrArg (hsM o z tt) (Eq.symm (by refine (if_pos c_1).trans ?_; refine (if_neg c_10).trans ?_; refine (if_neg c_11).trans ?_; refine (if_neg c_12).trans ?_; refine (if_neg c_13).trans ?_; rfl))⟩
    · refine lv_aload_n hx hb dMod_expired_14 rfl (lv_at hl 0 rfl) ?_
      refine mg_i (v := mi σ 18) FMod_137 hx hb hts hown hW dMod_expired_15 (ri_i (by decide)) ?_
      exact e_i hsz hx hb hr hlk hW mono_hsM (Nat.le_refl _) (Nat.le_refl _) dMod_expired_18 ⟨(Eq.symm (by refine (if_pos c_1).trans ?_; refine (if_pos c_10).trans ?_; rfl)), congrArg (hsM o z tt) (Eq.symm (by refine (if_pos c_1).trans ?_; refine (if_pos c_10).trans ?_; rfl))⟩
