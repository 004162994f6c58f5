theorem rd_in {i : Int32} {len : Nat} (h : i = nI i.toNatClampNeg) (hn : i.toNatClampNeg < 3000) (hl : len = 12) : vp_in (i / 250) len := by
  rw [dv250 h (by omega), hl]
  exact vp_in_nI (by omega) (by decide)
theorem rd_in2 {i c : Int32} {len : Nat} (h : i = nI i.toNatClampNeg) (hn : i.toNatClampNeg < 3000) (hc : c = nI c.toNatClampNeg) (hc4 : c.toNatClampNeg < 4) (hl : len = 1000) : vp_in (((i - i / 250 * 250) * 4) + c) len := by
  obtain ⟨h1, h2⟩ := ix_w h (by omega)
  generalize ((i - i / 250 * 250) * 4).toNatClampNeg = j at h1 h2
  rw [h1, hc, nI_add, hl]
  exact vp_in_nI (by omega) (by decide)

def read_R (S : HS) (t : Nat) (i : Int32) (c0 : Int32) : Int32 :=
  opc (ar S (gd (fr S 9 t)) (i / (250 : Int32)).toNatClampNeg) ((-1 : Int32))
  (fun b_5 => ai S (gd (fr S 10 b_5)) (((i - i / (250 : Int32) * (250 : Int32)) * (4 : Int32)) + c0).toNatClampNeg)
set_option maxRecDepth 20000 in
set_option maxHeartbeats 2000000 in
theorem c_read (l : Launch) (D : va_G) (AC : Nat → ClassId) (S : HS) (t : Nat) (i : Int32) (c0 : Int32)  (k_t : kd S t = 4) (hn : nn S) (hi : i = nI i.toNatClampNeg ∧ i.toNatClampNeg < 3000) (hc : c0 = nI c0.toNatClampNeg ∧ c0.toNatClampNeg < 4) (hlp : an S (gd (fr S 9 t)) = 12) (hpg : pgOk S) : CtI l yNotes_read (Cond.code yNotes_read cNotes_read 4 (some .int) :: wT) 0 0 D AC S [.ref t, .int i, .int c0] 0 0 (fun r S' => r = read_R S t i c0 ∧ S' = S) := by
  refine met_of (by decide) (Nat.le_of_ble_eq_true rfl) ?_
  intro p e s m below meth c ls hsz X hW hl
  obtain ⟨hx, hb, hml, hr, hlk, hown, hnm, hts⟩ := X
  have hl : lv_has ls 4 [(0, .ref t), (1, .int i), (2, .int c0)] := hl
  have mo : mono S S := mono.rf S
  refine lv_aload_n hx hb dNotes_read_0 rfl (lv_at hl 0 rfl) ?_
  have kq_1 : ∀ b, fr S 9 t = some b → kd S b = 17 := fun b h => hW.ok.2.1 9 t b k_t h
  refine g_q FNotes_11 hx hb hts hown hW k_t dNotes_read_1 ?_
  refine lv_iload_n hx hb dNotes_read_4 rfl (lv_at hl 1 rfl) ?_
  refine lv_sipush (v := (250 : Int32)) hx hb dNotes_read_5 (by decide) ?_
  refine lv_idiv hx hb dNotes_read_8 (by decide) ?_
  have n_2 : fr S 9 t = some (gd (fr S 9 t)) := gd_some (hn 9 t rfl k_t)
  have kb_3 : kd S (gd (fr S 9 t)) = 17 := kq_1 (gd (fr S 9 t)) n_2
  refine q_some1 n_2 ?_
  have kq_4 : ∀ b, ar S (gd (fr S 9 t)) (i / (250 : Int32)).toNatClampNeg = some b → kd S b = 5 := fun b h => (hW.ok.2.2 (gd (fr S 9 t)) _ b (by rw [kb_3]; decide) h).trans (by rw [kb_3]; rfl)
  refine a_q (K := 17) (t0 := 6) (by decide) rfl hx hb hW kb_3 (rd_in hi.1 hi.2 hlp) dNotes_read_9 ?_
  refine q_astore_n (i := 3) (lv' := [(3, va_rf (ar S (gd (fr S 9 t)) (i / (250 : Int32)).toNatClampNeg)), (0, .ref t), (1, .int i), (2, .int c0)]) hx hb dNotes_read_10 rfl hl (by decide) rfl (fun ls hl => ?_)
  refine q_aload_n hx hb dNotes_read_11 rfl (lv_at hl 0 rfl) ?_
  refine q_ifnonnull (tgt := 19) hx hb dNotes_read_12 (by decide) (fun n_5 => ?_) (fun b_5 n_5 => ?_)
  · refine lv_iconst (v := (-1 : Int32)) hx hb dNotes_read_15 (by decide) ?_
    refine lv_goto (tgt := 33) hx hb dNotes_read_16 (by decide) ?_
    exact e_i hsz hx hb hr hlk hW (mono.rf S) (Nat.le_of_ble_eq_true rfl) (Nat.le_of_ble_eq_true rfl) dNotes_read_33 ⟨(by refine Eq.symm ?_; refine (op_none n_5).trans ?_; rfl), rfl⟩
  · have k_b_5 : kd S b_5 = 5 := kq_4 b_5 n_5
    refine q_aload_n hx hb dNotes_read_19 rfl (lv_at hl 0 rfl) ?_
    refine q_some n_5 ?_
    have kq_6 : ∀ b, fr S 10 b_5 = some b → kd S b = 11 := fun b h => hW.ok.2.1 10 b_5 b k_b_5 h
    refine g_q FNotes_29 hx hb hts hown hW k_b_5 dNotes_read_20 ?_
    refine lv_iload_n hx hb dNotes_read_23 rfl (lv_at hl 2 rfl) ?_
    refine lv_sipush (v := (250 : Int32)) hx hb dNotes_read_24 (by decide) ?_
    refine lv_irem hx hb dNotes_read_27 (by decide) ?_
    refine lv_iconst (v := (4 : Int32)) hx hb dNotes_read_28 (by decide) ?_
    refine lv_imul hx hb dNotes_read_29 ?_
    refine lv_iload_n hx hb dNotes_read_30 rfl (lv_at hl 3 rfl) ?_
    refine lv_iadd hx hb dNotes_read_31 ?_
    have n_7 : fr S 10 b_5 = some (gd (fr S 10 b_5)) := gd_some (hn 10 b_5 rfl k_b_5)
    have kb_8 : kd S (gd (fr S 10 b_5)) = 11 := kq_6 (gd (fr S 10 b_5)) n_7
    refine q_some1 n_7 ?_
    refine a_il (K := 11) (t0 := 0) (by decide) rfl hx hb hW kb_8 (rd_in2 hi.1 hi.2 hc.1 hc.2 (hpg b_5 k_b_5)) dNotes_read_32 ?_
    exact e_i hsz hx hb hr hlk hW (mono.rf S) (Nat.le_of_ble_eq_true rfl) (Nat.le_of_ble_eq_true rfl) dNotes_read_33 ⟨(by refine Eq.symm ?_; refine (op_some n_5).trans ?_; rfl), rfl⟩

theorem has_lt {S : HS} {t : Nat} {i : Int32} {n : Nat} (hk : fi S 4 t = nI n) (hn : n ≤ 3000) (h : ¬ has_R S t i = 0) : i = nI i.toNatClampNeg ∧ i.toNatClampNeg < 3000 := by
  unfold has_R at h
  split at h
  · exact absurd rfl h
  · split at h
    · exact absurd rfl h
    · rename_i h1 h2
      obtain ⟨j, hj, rfl⟩ := nI_of h1
      rw [hk, nI_leI (by omega) hj] at h2
      rw [nI_clamp hj]
      exact ⟨rfl, by omega⟩
theorem col_lt {c : Int32} (h1 : ¬ c < 0) (h2 : c < 4) : c = nI c.toNatClampNeg ∧ c.toNatClampNeg < 4 := by
  obtain ⟨j, hj, rfl⟩ := nI_of h1
  have h2 : nI j < nI 4 := h2
  rw [nI_ltI hj (by decide)] at h2
  rw [nI_clamp hj]
  exact ⟨rfl, h2⟩

-- expired
def expired_R (S : HS) (t : Nat) (i : Int32) (what : Int32) : Int32 :=
  if i = (-1 : Int32) then
    if what = 0 then
      fi S 5 (gd (fr S 21 t))
    else
      if (has_R S (gd (fr S 21 t)) i) = 0 then
        (-1 : Int32)
      else
        if what < 0 then
          (-2 : Int32)
        else
          if what < (4 : Int32) then
            (read_R S (gd (fr S 21 t)) i what)
          else
            (-2 : Int32)
  else
    if (has_R S (gd (fr S 21 t)) i) = 0 then
      (-1 : Int32)
    else
      if what < 0 then
        (-2 : Int32)
      else
        if what < (4 : Int32) then
          (read_R S (gd (fr S 21 t)) i what)
        else
          (-2 : Int32)
set_option maxRecDepth 20000 in
set_option maxHeartbeats 2000000 in
theorem c_expired (l : Launch) (D : va_G) (AC : Nat → ClassId) (S : HS) (t : Nat) (i : Int32) (what : Int32)  (k_t : kd S t = 8) (hn : nn S) (hk : ∃ n, n ≤ 3000 ∧ fi S 4 (gd (fr S 21 t)) = nI n) (hlp : an S (gd (fr S 9 (gd (fr S 21 t)))) = 12) (hpg : pgOk S) : CtI l yAT_expired (Cond.code yAT_expired cAT_expired 3 (some .int) :: wT) 1 24 D AC S [.ref t, .int i, .int what] 0 0 (fun r S' => r = expired_R S t i what ∧ S' = S) := by
  refine met_of (by decide) (Nat.le_of_ble_eq_true rfl) ?_
  intro p e s m below meth c ls hsz X hW hl
  obtain ⟨hx, hb, hml, hr, hlk, hown, hnm, hts⟩ := X
  have hl : lv_has ls 3 [(0, .ref t), (1, .int i), (2, .int what)] := hl
  have mo : mono S S := mono.rf S
  refine lv_iload_n hx hb dAT_expired_0 rfl (lv_at hl 1 rfl) ?_
  refine lv_iconst (v := (-1 : Int32)) hx hb dAT_expired_1 (by decide) ?_
  refine lv_icmp_ne (tgt := 17) hx hb dAT_expired_2 (by decide) (fun c_1 => ?_) (fun c_1 => ?_)
  · refine lv_aload_n hx hb dAT_expired_17 rfl (lv_at hl 0 rfl) ?_
    have kq_2 : ∀ b, fr S 21 t = some b → kd S b = 4 := fun b h => hW.ok.2.1 21 t b k_t h
    refine g_q FAT_30 hx hb hts hown hW k_t dAT_expired_18 ?_
    refine lv_iload_n hx hb dAT_expired_21 rfl (lv_at hl 1 rfl) ?_
    have n_3 : fr S 21 t = some (gd (fr S 21 t)) := gd_some (hn 21 t rfl k_t)
    have kb_4 : kd S (gd (fr S 21 t)) = 4 := kq_2 (gd (fr S 21 t)) n_3
    refine q_some1 n_3 ?_
    refine k_Vi (As := [.int i]) (rest := []) (c_has l D AC S (gd (fr S 21 t)) i kb_4) CAT_192 ⟨by decide, by decide, _, rfl, rfl⟩ hx hb hml hown hts hW kb_4 hl.1 rfl rfl (Nat.le_of_ble_eq_true rfl) ⟨⟨Nat.le_of_ble_eq_true rfl, Nat.le_of_ble_eq_true rfl⟩, ⟨Nat.le_of_ble_eq_true rfl, Nat.le_of_ble_eq_true rfl⟩⟩ dAT_expired_22 (fun r_5 S_5 H locs e_5 hW m_5 _ => ?_)
    obtain ⟨e1_5, e2_5⟩ := e_5
    rw [e2_5] at hW m_5
    rw [e1_5]
    refine lv_if_ne (tgt := 30) hx hb dAT_expired_25 (by decide) (fun c_6 => ?_) (fun c_6 => ?_)
    · refine lv_iload_n hx hb dAT_expired_30 rfl (lv_at hl 2 rfl) ?_
      refine lv_if_lt (tgt := 39) hx hb dAT_expired_31 (by decide) (fun c_7 => ?_) (fun c_7 => ?_)
      · refine lv_bipush (v := (-2 : Int32)) hx hb dAT_expired_39 (by decide) ?_
        exact e_i hsz hx hb hr hlk hW (mono.rf S) (Nat.le_of_ble_eq_true rfl) (Nat.le_of_ble_eq_true rfl) dAT_expired_41 ⟨(by refine Eq.symm ?_; refine (if_neg c_1).trans ?_; refine (if_neg c_6).trans ?_; refine (if_pos c_7).trans ?_; rfl), rfl⟩
      · refine lv_iload_n hx hb dAT_expired_34 rfl (lv_at hl 2 rfl) ?_
        refine lv_iconst (v := (4 : Int32)) hx hb dAT_expired_35 (by decide) ?_
        refine lv_icmp_lt (tgt := 42) hx hb dAT_expired_36 (by decide) (fun c_8 => ?_) (fun c_8 => ?_)
        · refine lv_aload_n hx hb dAT_expired_42 rfl (lv_at hl 0 rfl) ?_
          refine g_q FAT_30 hx hb hts hown hW k_t dAT_expired_43 ?_
          refine lv_iload_n hx hb dAT_expired_46 rfl (lv_at hl 1 rfl) ?_
          refine lv_iload_n hx hb dAT_expired_47 rfl (lv_at hl 2 rfl) ?_
          refine q_some2 n_3 ?_
          refine k_Vi (As := [.int i, .int what]) (rest := []) (c_read l D AC S (gd (fr S 21 t)) i what kb_4 hn (has_lt (Classical.choose_spec hk).2 (Classical.choose_spec hk).1 c_6) (col_lt c_7 c_8) hlp hpg) CAT_196 ⟨by decide, by decide, _, rfl, rfl⟩ hx hb hml hown hts hW kb_4 hl.1 rfl rfl (Nat.le_of_ble_eq_true rfl) ⟨⟨Nat.le_of_ble_eq_true rfl, Nat.le_of_ble_eq_true rfl⟩, ⟨Nat.le_of_ble_eq_true rfl, Nat.le_of_ble_eq_true rfl⟩⟩ dAT_expired_48 (fun r_9 S_9 H locs e_9 hW m_9 _ => ?_)
          obtain ⟨e1_9, e2_9⟩ := e_9
          rw [e2_9] at hW m_9
          rw [e1_9]
          exact e_i hsz hx hb hr hlk hW (mono.rf S) (Nat.le_of_ble_eq_true rfl) (Nat.le_of_ble_eq_true rfl) dAT_expired_51 ⟨(by refine Eq.symm ?_; refine (if_neg c_1).trans ?_; refine (if_neg c_6).trans ?_; refine (if_neg c_7).trans ?_; refine (if_pos c_8).trans ?_; rfl), rfl⟩
        · refine lv_bipush (v := (-2 : Int32)) hx hb dAT_expired_39 (by decide) ?_
          exact e_i hsz hx hb hr hlk hW (mono.rf S) (Nat.le_of_ble_eq_true rfl) (Nat.le_of_ble_eq_true rfl) dAT_expired_41 ⟨(by refine Eq.symm ?_; refine (if_neg c_1).trans ?_; refine (if_neg c_6).trans ?_; refine (if_neg c_7).trans ?_; refine (if_neg c_8).trans ?_; rfl), rfl⟩
    · refine lv_iconst (v := (-1 : Int32)) hx hb dAT_expired_28 (by decide) ?_
      exact e_i hsz hx hb hr hlk hW (mono.rf S) (Nat.le_of_ble_eq_true rfl) (Nat.le_of_ble_eq_true rfl) dAT_expired_29 ⟨(by refine Eq.symm ?_; refine (if_neg c_1).trans ?_; refine (if_pos c_6).trans ?_; rfl), rfl⟩
  · refine lv_iload_n hx hb dAT_expired_5 rfl (lv_at hl 2 rfl) ?_
    refine lv_if_ne (tgt := 17) hx hb dAT_expired_6 (by decide) (fun c_10 => ?_) (fun c_10 => ?_)
    · refine lv_aload_n hx hb dAT_expired_17 rfl (lv_at hl 0 rfl) ?_
      have kq_11 : ∀ b, fr S 21 t = some b → kd S b = 4 := fun b h => hW.ok.2.1 21 t b k_t h
      refine g_q FAT_30 hx hb hts hown hW k_t dAT_expired_18 ?_
      refine lv_iload_n hx hb dAT_expired_21 rfl (lv_at hl 1 rfl) ?_
      have n_12 : fr S 21 t = some (gd (fr S 21 t)) := gd_some (hn 21 t rfl k_t)
      have kb_13 : kd S (gd (fr S 21 t)) = 4 := kq_11 (gd (fr S 21 t)) n_12
      refine q_some1 n_12 ?_
      refine k_Vi (As := [.int i]) (rest := []) (c_has l D AC S (gd (fr S 21 t)) i kb_13) CAT_192 ⟨by decide, by decide, _, rfl, rfl⟩ hx hb hml hown hts hW kb_13 hl.1 rfl rfl (Nat.le_of_ble_eq_true rfl) ⟨⟨Nat.le_of_ble_eq_true rfl, Nat.le_of_ble_eq_true rfl⟩, ⟨Nat.le_of_ble_eq_true rfl, Nat.le_of_ble_eq_true rfl⟩⟩ dAT_expired_22 (fun r_14 S_14 H locs e_14 hW m_14 _ => ?_)
      obtain ⟨e1_14, e2_14⟩ := e_14
      rw [e2_14] at hW m_14
      rw [e1_14]
      refine lv_if_ne (tgt := 30) hx hb dAT_expired_25 (by decide) (fun c_15 => ?_) (fun c_15 => ?_)
      · refine lv_iload_n hx hb dAT_expired_30 rfl (lv_at hl 2 rfl) ?_
        refine lv_if_lt (tgt := 39) hx hb dAT_expired_31 (by decide) (fun c_16 => ?_) (fun c_16 => ?_)
        · refine lv_bipush (v := (-2 : Int32)) hx hb dAT_expired_39 (by decide) ?_
          exact e_i hsz hx hb hr hlk hW (mono.rf S) (Nat.le_of_ble_eq_true rfl) (Nat.le_of_ble_eq_true rfl) dAT_expired_41 ⟨(by refine Eq.symm ?_; refine (if_pos c_1).trans ?_; refine (if_neg c_10).trans ?_; refine (if_neg c_15).trans ?_; refine (if_pos c_16).trans ?_; rfl), rfl⟩
        · refine lv_iload_n hx hb dAT_expired_34 rfl (lv_at hl 2 rfl) ?_
          refine lv_iconst (v := (4 : Int32)) hx hb dAT_expired_35 (by decide) ?_
          refine lv_icmp_lt (tgt := 42) hx hb dAT_expired_36 (by decide) (fun c_17 => ?_) (fun c_17 => ?_)
          · refine lv_aload_n hx hb dAT_expired_42 rfl (lv_at hl 0 rfl) ?_
            refine g_q FAT_30 hx hb hts hown hW k_t dAT_expired_43 ?_
            refine lv_iload_n hx hb dAT_expired_46 rfl (lv_at hl 1 rfl) ?_
            refine lv_iload_n hx hb dAT_expired_47 rfl (lv_at hl 2 rfl) ?_
            refine q_some2 n_12 ?_
            refine k_Vi (As := [.int i, .int what]) (rest := []) (c_read l D AC S (gd (fr S 21 t)) i what kb_13 hn (has_lt (Classical.choose_spec hk).2 (Classical.choose_spec hk).1 c_15) (col_lt c_16 c_17) hlp hpg) CAT_196 ⟨by decide, by decide, _, rfl, rfl⟩ hx hb hml hown hts hW kb_13 hl.1 rfl rfl (Nat.le_of_ble_eq_true rfl) ⟨⟨Nat.le_of_ble_eq_true rfl, Nat.le_of_ble_eq_true rfl⟩, ⟨Nat.le_of_ble_eq_true rfl, Nat.le_of_ble_eq_true rfl⟩⟩ dAT_expired_48 (fun r_18 S_18 H locs e_18 hW m_18 _ => ?_)
            obtain ⟨e1_18, e2_18⟩ := e_18
            rw [e2_18] at hW m_18
            rw [e1_18]
            exact e_i hsz hx hb hr hlk hW (mono.rf S) (Nat.le_of_ble_eq_true rfl) (Nat.le_of_ble_eq_true rfl) dAT_expired_51 ⟨(by refine Eq.symm ?_; refine (if_pos c_1).trans ?_; refine (if_neg c_10).trans ?_; refine (if_neg c_15).trans ?_; refine (if_neg c_16).trans ?_; refine (if_pos c_17).trans ?_; rfl), rfl⟩
          · refine lv_bipush (v := (-2 : Int32)) hx hb dAT_expired_39 (by decide) ?_
            exact e_i hsz hx hb hr hlk hW (mono.rf S) (Nat.le_of_ble_eq_true rfl) (Nat.le_of_ble_eq_true rfl) dAT_expired_41 ⟨(by refine Eq.symm ?_; refine (if_pos c_1).trans ?_; refine (if_neg c_10).trans ?_; refine (if_neg c_15).trans ?_; refine (if_neg c_16).trans ?_; refine (if_neg c_17).trans ?_; rfl), rfl⟩
      · refine lv_iconst (v := (-1 : Int32)) hx hb dAT_expired_28 (by decide) ?_
        exact e_i hsz hx hb hr hlk hW (mono.rf S) (Nat.le_of_ble_eq_true rfl) (Nat.le_of_ble_eq_true rfl) dAT_expired_29 ⟨(by refine Eq.symm ?_; refine (if_pos c_1).trans ?_; refine (if_neg c_10).trans ?_; refine (if_pos c_15).trans ?_; rfl), rfl⟩
    · refine lv_aload_n hx hb dAT_expired_9 rfl (lv_at hl 0 rfl) ?_
      have kq_19 : ∀ b, fr S 21 t = some b → kd S b = 4 := fun b h => hW.ok.2.1 21 t b k_t h
      refine g_q FAT_30 hx hb hts hown hW k_t dAT_expired_10 ?_
      have n_20 : fr S 21 t = some (gd (fr S 21 t)) := gd_some (hn 21 t rfl k_t)
      have kb_21 : kd S (gd (fr S 21 t)) = 4 := kq_19 (gd (fr S 21 t)) n_20
      refine q_some n_20 ?_
      refine g_i FAT_182 hx hb hts hown hW kb_21 dAT_expired_13 ?_
      exact e_i hsz hx hb hr hlk hW (mono.rf S) (Nat.le_of_ble_eq_true rfl) (Nat.le_of_ble_eq_true rfl) dAT_expired_16 ⟨(by refine Eq.symm ?_; refine (if_pos c_1).trans ?_; refine (if_pos c_10).trans ?_; rfl), rfl⟩

def hasPointAt_R (S : HS) (t : Nat) (off : Int64) (zs : List Nat) : Int32 :=
  opc (pbL S off none zs) (opc (fr S 14 t) ((0 : Int32))
    (fun b_5 => if (fl S 8 b_5) = off then
        (1 : Int32)
      else
        (0 : Int32)))
  (fun b_3 => opc (fr S 12 b_3) ((0 : Int32))
    (fun b_8 => if (fl S 8 b_8) = off then
        (1 : Int32)
      else
        (0 : Int32)))
set_option maxRecDepth 20000 in
set_option maxHeartbeats 2000000 in
theorem c_hasPointAt (l : Launch) (D : va_G) (AC : Nat → ClassId) (S : HS) (t : Nat) (off : Int64) (zs : List Nat) (k_t : kd S t = 7) (hc : chn (fr S 12) (fr S 14 t) zs) : CtI l yTable_hasPointAt (Cond.code yTable_hasPointAt cTable_hasPointAt 5 (some .boolean) :: wT) 1 24 D AC S [.ref t, .long off] 0 0 (fun r S' => r = hasPointAt_R S t off zs ∧ S' = S) := by
  refine met_of (by decide) (Nat.le_of_ble_eq_true rfl) ?_
  intro p e s m below meth c ls hsz X hW hl
  obtain ⟨hx, hb, hml, hr, hlk, hown, hnm, hts⟩ := X
  have hl : lv_has ls 5 [(0, .ref t), (1, .long off)] := hl
  have mo : mono S S := mono.rf S
  refine lv_aload_n hx hb dTable_hasPointAt_0 rfl (lv_at hl 0 rfl) ?_
  refine lv_lload_n hx hb dTable_hasPointAt_1 rfl (lv_at hl 1 rfl) ?_
  refine k_Vq (As := [.long off]) (rest := []) (c_pointBefore l D AC S t off zs k_t hc) CTable_35 ⟨by decide, by decide, _, rfl, rfl⟩ hx hb hml hown hts hW k_t hl.1 rfl rfl (Nat.le_of_ble_eq_true rfl) ⟨⟨Nat.le_of_ble_eq_true rfl, Nat.le_of_ble_eq_true rfl⟩, ⟨Nat.le_of_ble_eq_true rfl, Nat.le_of_ble_eq_true rfl⟩⟩ dTable_hasPointAt_2 (fun r_1 S_1 H locs e_1 hW m_1 _ => ?_)
  obtain ⟨e1_1, e2_1⟩ := e_1
  rw [e2_1] at hW m_1
  rw [e1_1]
  have kq_2 : ∀ b, (pbL S off none zs) = some b → kd S b = 6 := pointBefore_kd hW.ok k_t hc _
  refine q_astore_n (i := 3) (lv' := [(3, va_rf (pbL S off none zs)), (0, .ref t), (1, .long off)]) hx hb dTable_hasPointAt_5 rfl hl (by decide) rfl (fun ls hl => ?_)
  refine q_aload_n hx hb dTable_hasPointAt_6 rfl (lv_at hl 0 rfl) ?_
  refine q_ifnonnull (tgt := 17) hx hb dTable_hasPointAt_7 (by decide) (fun n_3 => ?_) (fun b_3 n_3 => ?_)
  · refine lv_aload_n hx hb dTable_hasPointAt_10 rfl (lv_at hl 1 rfl) ?_
    have kq_4 : ∀ b, fr S 14 t = some b → kd S b = 6 := fun b h => hW.ok.2.1 14 t b k_t h
    refine g_q FTable_23 hx hb hts hown hW k_t dTable_hasPointAt_11 ?_
    refine lv_goto (tgt := 21) hx hb dTable_hasPointAt_14 (by decide) ?_
    refine q_astore (lv' := [(4, va_rf (fr S 14 t)), (3, va_rf (pbL S off none zs)), (0, .ref t), (1, .long off)]) hx hb dTable_hasPointAt_21 hl (by decide) (by simp [q_cat, cat_r, cat_i, cat_l, cat_n]) (fun ls hl => ?_)
    refine q_aload hx hb dTable_hasPointAt_23 (lv_at hl 0 rfl) ?_
    refine q_ifnull (tgt := 42) hx hb dTable_hasPointAt_25 (by decide) (fun n_5 => ?_) (fun b_5 n_5 => ?_)
    · refine lv_iconst (v := (0 : Int32)) hx hb dTable_hasPointAt_42 (by decide) ?_
      exact e_z hsz hx hb hr hlk hW (mono.rf S) (Nat.le_of_ble_eq_true rfl) (Nat.le_of_ble_eq_true rfl) dTable_hasPointAt_43 (rfl) ⟨(by refine Eq.symm ?_; refine (op_none n_3).trans ?_; refine (op_none n_5).trans ?_; rfl), rfl⟩
    · have k_b_5 : kd S b_5 = 6 := kq_4 b_5 n_5
      refine q_aload hx hb dTable_hasPointAt_28 (lv_at hl 0 rfl) ?_
      refine q_some n_5 ?_
      refine g_l FTable_27 hx hb hts hown hW k_b_5 dTable_hasPointAt_30 ?_
      refine lv_lload_n hx hb dTable_hasPointAt_33 rfl (lv_at hl 3 rfl) ?_
      refine ll_ne (tgt := 42) hx hb dTable_hasPointAt_34 dTable_hasPointAt_35 (by decide) (fun c_6 => ?_) (fun c_6 => ?_)
      · refine lv_iconst (v := (0 : Int32)) hx hb dTable_hasPointAt_42 (by decide) ?_
        exact e_z hsz hx hb hr hlk hW (mono.rf S) (Nat.le_of_ble_eq_true rfl) (Nat.le_of_ble_eq_true rfl) dTable_hasPointAt_43 (rfl) ⟨(by refine Eq.symm ?_; refine (op_none n_3).trans ?_; refine (op_some n_5).trans ?_; refine (if_neg c_6).trans ?_; rfl), rfl⟩
      · refine lv_iconst (v := (1 : Int32)) hx hb dTable_hasPointAt_38 (by decide) ?_
        refine lv_goto (tgt := 43) hx hb dTable_hasPointAt_39 (by decide) ?_
        exact e_z hsz hx hb hr hlk hW (mono.rf S) (Nat.le_of_ble_eq_true rfl) (Nat.le_of_ble_eq_true rfl) dTable_hasPointAt_43 (rfl) ⟨(by refine Eq.symm ?_; refine (op_none n_3).trans ?_; refine (op_some n_5).trans ?_; refine (if_pos c_6).trans ?_; rfl), rfl⟩
  · have k_b_3 : kd S b_3 = 6 := kq_2 b_3 n_3
    refine q_aload_n hx hb dTable_hasPointAt_17 rfl (lv_at hl 0 rfl) ?_
    refine q_some n_3 ?_
    have kq_7 : ∀ b, fr S 12 b_3 = some b → kd S b = 6 := fun b h => hW.ok.2.1 12 b_3 b k_b_3 h
    refine g_q FTable_32 hx hb hts hown hW k_b_3 dTable_hasPointAt_18 ?_
    refine q_astore (lv' := [(4, va_rf (fr S 12 b_3)), (3, va_rf (pbL S off none zs)), (0, .ref t), (1, .long off)]) hx hb dTable_hasPointAt_21 hl (by decide) (by simp [q_cat, cat_r, cat_i, cat_l, cat_n]) (fun ls hl => ?_)
    refine q_aload hx hb dTable_hasPointAt_23 (lv_at hl 0 rfl) ?_
    refine q_ifnull (tgt := 42) hx hb dTable_hasPointAt_25 (by decide) (fun n_8 => ?_) (fun b_8 n_8 => ?_)
    · refine lv_iconst (v := (0 : Int32)) hx hb dTable_hasPointAt_42 (by decide) ?_
      exact e_z hsz hx hb hr hlk hW (mono.rf S) (Nat.le_of_ble_eq_true rfl) (Nat.le_of_ble_eq_true rfl) dTable_hasPointAt_43 (rfl) ⟨(by refine Eq.symm ?_; refine (op_some n_3).trans ?_; refine (op_none n_8).trans ?_; rfl), rfl⟩
    · have k_b_8 : kd S b_8 = 6 := kq_7 b_8 n_8
      refine q_aload hx hb dTable_hasPointAt_28 (lv_at hl 0 rfl) ?_
      refine q_some n_8 ?_
      refine g_l FTable_27 hx hb hts hown hW k_b_8 dTable_hasPointAt_30 ?_
      refine lv_lload_n hx hb dTable_hasPointAt_33 rfl (lv_at hl 3 rfl) ?_
      refine ll_ne (tgt := 42) hx hb dTable_hasPointAt_34 dTable_hasPointAt_35 (by decide) (fun c_9 => ?_) (fun c_9 => ?_)
      · refine lv_iconst (v := (0 : Int32)) hx hb dTable_hasPointAt_42 (by decide) ?_
        exact e_z hsz hx hb hr hlk hW (mono.rf S) (Nat.le_of_ble_eq_true rfl) (Nat.le_of_ble_eq_true rfl) dTable_hasPointAt_43 (rfl) ⟨(by refine Eq.symm ?_; refine (op_some n_3).trans ?_; refine (op_some n_8).trans ?_; refine (if_neg c_9).trans ?_; rfl), rfl⟩
      · refine lv_iconst (v := (1 : Int32)) hx hb dTable_hasPointAt_38 (by decide) ?_
        refine lv_goto (tgt := 43) hx hb dTable_hasPointAt_39 (by decide) ?_
        exact e_z hsz hx hb hr hlk hW (mono.rf S) (Nat.le_of_ble_eq_true rfl) (Nat.le_of_ble_eq_true rfl) dTable_hasPointAt_43 (rfl) ⟨(by refine Eq.symm ?_; refine (op_some n_3).trans ?_; refine (op_some n_8).trans ?_; refine (if_pos c_9).trans ?_; rfl), rfl⟩

def insert_S (S : HS) (t : Nat) (x : Nat) (zs : List Nat) : HS :=
  opc (pbL S (fl S 8 x) none zs) ((sfi (sfr (sfr S 12 x (fr S 14 t)) 14 t (some x)) 7 t ((fi S 7 t) + (1 : Int32))))
  (fun b_3 => (sfi (sfr (sfr S 12 x (fr S 12 b_3)) 12 b_3 (some x)) 7 t ((fi S 7 t) + (1 : Int32))))
set_option maxRecDepth 20000 in
set_option maxHeartbeats 2000000 in
theorem c_insert (l : Launch) (D : va_G) (AC : Nat → ClassId) (S : HS) (t : Nat) (x : Nat) (zs : List Nat) (k_t : kd S t = 7) (k_x : kd S x = 6) (hc : chn (fr S 12) (fr S 14 t) zs) : CtV l yTable_insert (Cond.code yTable_insert cTable_insert 3 none :: wT) 1 24 D AC S [.ref t, .ref x] 0 0 (fun S' => S' = insert_S S t x zs) := by
  refine met_of (by decide) (Nat.le_of_ble_eq_true rfl) ?_
  intro p e s m below meth c ls hsz X hW hl
  obtain ⟨hx, hb, hml, hr, hlk, hown, hnm, hts⟩ := X
  have hl : lv_has ls 3 [(0, .ref t), (1, .ref x)] := hl
  have mo : mono S S := mono.rf S
  refine lv_aload_n hx hb dTable_insert_0 rfl (lv_at hl 0 rfl) ?_
  refine lv_aload_n hx hb dTable_insert_1 rfl (lv_at hl 1 rfl) ?_
  refine g_l FTable_27 hx hb hts hown hW k_x dTable_insert_2 ?_
  refine k_Vq (As := [.long (fl S 8 x)]) (rest := []) (c_pointBefore l D AC S t (fl S 8 x) zs k_t hc) CTable_35 ⟨by decide, by decide, _, rfl, rfl⟩ hx hb hml hown hts hW k_t hl.1 rfl rfl (Nat.le_of_ble_eq_true rfl) ⟨⟨Nat.le_of_ble_eq_true rfl, Nat.le_of_ble_eq_true rfl⟩, ⟨Nat.le_of_ble_eq_true rfl, Nat.le_of_ble_eq_true rfl⟩⟩ dTable_insert_5 (fun r_1 S_1 H locs e_1 hW m_1 _ => ?_)
  obtain ⟨e1_1, e2_1⟩ := e_1
  rw [e2_1] at hW m_1
  rw [e1_1]
  have kq_2 : ∀ b, (pbL S (fl S 8 x) none zs) = some b → kd S b = 6 := pointBefore_kd hW.ok k_t hc _
  refine q_astore_n (i := 2) (lv' := [(2, va_rf (pbL S (fl S 8 x) none zs)), (0, .ref t), (1, .ref x)]) hx hb dTable_insert_8 rfl hl (by decide) rfl (fun ls hl => ?_)
  refine q_aload_n hx hb dTable_insert_9 rfl (lv_at hl 0 rfl) ?_
  refine q_ifnonnull (tgt := 29) hx hb dTable_insert_10 (by decide) (fun n_3 => ?_) (fun b_3 n_3 => ?_)
  · refine lv_aload_n hx hb dTable_insert_13 rfl (lv_at hl 2 rfl) ?_
    refine lv_aload_n hx hb dTable_insert_14 rfl (lv_at hl 1 rfl) ?_
    have kq_4 : ∀ b, fr S 14 t = some b → kd S b = 6 := fun b h => hW.ok.2.1 14 t b k_t h
    refine g_q FTable_23 hx hb hts hown hW k_t dTable_insert_15 ?_
    refine p_q FTable_32 GPoint_behind ⟨fun _ => rfl, fun _ => rfl, rfl, rfl⟩ (fun h => by cases h) hx hb hts hown hW k_x kq_4 dTable_insert_18 (fun H locs hW => ?_)
    have mo := mo.tr (mono_sfr (k := 12) (a := x) (v := (fr S 14 t)))
    refine lv_aload_n hx hb dTable_insert_21 rfl (lv_at hl 1 rfl) ?_
    refine lv_aload_n hx hb dTable_insert_22 rfl (lv_at hl 2 rfl) ?_
    refine p_r FTable_23 GTable_firstPoint ⟨rfl, rfl⟩ (fun h => by cases h) hx hb hts hown hW k_t k_x dTable_insert_23 (fun H locs hW => ?_)
    have mo := mo.tr (mono_sfr (k := 14) (a := t) (v := (some x)))
    refine lv_goto (tgt := 42) hx hb dTable_insert_26 (by decide) ?_
    refine lv_aload_n hx hb dTable_insert_42 rfl (lv_at hl 1 rfl) ?_
    refine lv_dup hx hb dTable_insert_43 rfl ?_
    refine g_i FTable_39 hx hb hts hown hW k_t dTable_insert_44 ?_
    rw [show fi (sfr (sfr S 12 x (fr S 14 t)) 14 t (some x)) 7 t = fi S 7 t from rfl]
    refine lv_iconst (v := (1 : Int32)) hx hb dTable_insert_47 (by decide) ?_
    refine lv_iadd hx hb dTable_insert_48 ?_
    refine p_i FTable_39 GTable_pointCount (fun h => by cases h) hx hb hts hown hW k_t rfl rfl dTable_insert_49 (fun H locs hW => ?_)
    have mo := mo.tr (mono_sfi (k := 7) (a := t) (v := ((fi S 7 t) + (1 : Int32))))
    exact e_v hsz hx hb hr hlk hW (mo) (Nat.le_of_ble_eq_true rfl) (Nat.le_of_ble_eq_true rfl) dTable_insert_52 ((by refine Eq.symm ?_; refine (op_none n_3).trans ?_; rfl))
  · have k_b_3 : kd S b_3 = 6 := kq_2 b_3 n_3
    refine lv_aload_n hx hb dTable_insert_29 rfl (lv_at hl 2 rfl) ?_
    refine q_aload_n hx hb dTable_insert_30 rfl (lv_at hl 0 rfl) ?_
    refine q_some n_3 ?_
    have kq_5 : ∀ b, fr S 12 b_3 = some b → kd S b = 6 := fun b h => hW.ok.2.1 12 b_3 b k_b_3 h
    refine g_q FTable_32 hx hb hts hown hW k_b_3 dTable_insert_31 ?_
    refine p_q FTable_32 GPoint_behind ⟨fun _ => rfl, fun _ => rfl, rfl, rfl⟩ (fun h => by cases h) hx hb hts hown hW k_x kq_5 dTable_insert_34 (fun H locs hW => ?_)
    have mo := mo.tr (mono_sfr (k := 12) (a := x) (v := (fr S 12 b_3)))
    refine q_aload_n hx hb dTable_insert_37 rfl (lv_at hl 0 rfl) ?_
    refine lv_aload_n hx hb dTable_insert_38 rfl (lv_at hl 2 rfl) ?_
    refine q_some1 n_3 ?_
    refine p_r FTable_32 GPoint_behind ⟨rfl, rfl⟩ (fun h => by cases h) hx hb hts hown hW k_b_3 k_x dTable_insert_39 (fun H locs hW => ?_)
    have mo := mo.tr (mono_sfr (k := 12) (a := b_3) (v := (some x)))
    refine lv_aload_n hx hb dTable_insert_42 rfl (lv_at hl 1 rfl) ?_
    refine lv_dup hx hb dTable_insert_43 rfl ?_
    refine g_i FTable_39 hx hb hts hown hW k_t dTable_insert_44 ?_
    rw [show fi (sfr (sfr S 12 x (fr S 12 b_3)) 12 b_3 (some x)) 7 t = fi S 7 t from rfl]
    refine lv_iconst (v := (1 : Int32)) hx hb dTable_insert_47 (by decide) ?_
    refine lv_iadd hx hb dTable_insert_48 ?_
    refine p_i FTable_39 GTable_pointCount (fun h => by cases h) hx hb hts hown hW k_t rfl rfl dTable_insert_49 (fun H locs hW => ?_)
    have mo := mo.tr (mono_sfi (k := 7) (a := t) (v := ((fi S 7 t) + (1 : Int32))))
    exact e_v hsz hx hb hr hlk hW (mo) (Nat.le_of_ble_eq_true rfl) (Nat.le_of_ble_eq_true rfl) dTable_insert_52 ((by refine Eq.symm ?_; refine (op_some n_3).trans ?_; rfl))

def isUnknownFor_R (S : HS) (t : Nat) (a : Int32) (o : Int32) : Int32 :=
  if a = (0 : Int32) then
    if o = 0 then
      (0 : Int32)
    else
      (1 : Int32)
  else
    if a = (1 : Int32) then
      opc (findCounter_R S t o) ((1 : Int32))
      (fun b_6 => (0 : Int32))
    else
      if a = (2 : Int32) then
        opc (findAlarm_R S t o) ((1 : Int32))
        (fun b_10 => (0 : Int32))
      else
        (0 : Int32)
set_option maxRecDepth 20000 in
set_option maxHeartbeats 2000000 in
theorem c_isUnknownFor (l : Launch) (D : va_G) (AC : Nat → ClassId) (S : HS) (t : Nat) (a : Int32) (o : Int32)  (k_t : kd S t = 8) (hn : nn S) (ha : atOk S t) : CtI l yAT_isUnknownFor (Cond.code yAT_isUnknownFor cAT_isUnknownFor 3 (some .boolean) :: wT) 1 24 D AC S [.ref t, .int a, .int o] 0 0 (fun r S' => r = isUnknownFor_R S t a o ∧ S' = S) := by
  refine met_of (by decide) (Nat.le_of_ble_eq_true rfl) ?_
  intro p e s m below meth c ls hsz X hW hl
  obtain ⟨hx, hb, hml, hr, hlk, hown, hnm, hts⟩ := X
  have hl : lv_has ls 3 [(0, .ref t), (1, .int a), (2, .int o)] := hl
  have mo : mono S S := mono.rf S
  refine lv_iload_n hx hb dAT_isUnknownFor_0 rfl (lv_at hl 1 rfl) ?_
  by_cases c_1 : a = (0 : Int32)
  · refine lv_tableIn (off := 27) (tgt := 28) hx hb dAT_isUnknownFor_1 (by rw [c_1]; decide) (by rw [c_1]; decide) (by rw [c_1]; rfl) (by decide) ?_
    refine lv_iload_n hx hb dAT_isUnknownFor_28 rfl (lv_at hl 2 rfl) ?_
    refine lv_if_eq (tgt := 36) hx hb dAT_isUnknownFor_29 (by decide) (fun c_2 => ?_) (fun c_2 => ?_)
    · refine lv_iconst (v := (0 : Int32)) hx hb dAT_isUnknownFor_36 (by decide) ?_
      exact e_z hsz hx hb hr hlk hW (mono.rf S) (Nat.le_of_ble_eq_true rfl) (Nat.le_of_ble_eq_true rfl) dAT_isUnknownFor_37 (rfl) ⟨(by refine Eq.symm ?_; refine (if_pos c_1).trans ?_; refine (if_pos c_2).trans ?_; rfl), rfl⟩
    · refine lv_iconst (v := (1 : Int32)) hx hb dAT_isUnknownFor_32 (by decide) ?_
      refine lv_goto (tgt := 37) hx hb dAT_isUnknownFor_33 (by decide) ?_
      exact e_z hsz hx hb hr hlk hW (mono.rf S) (Nat.le_of_ble_eq_true rfl) (Nat.le_of_ble_eq_true rfl) dAT_isUnknownFor_37 (rfl) ⟨(by refine Eq.symm ?_; refine (if_pos c_1).trans ?_; refine (if_neg c_2).trans ?_; rfl), rfl⟩
  · by_cases c_3 : a = (1 : Int32)
    · refine lv_tableIn (off := 37) (tgt := 38) hx hb dAT_isUnknownFor_1 (by rw [c_3]; decide) (by rw [c_3]; decide) (by rw [c_3]; rfl) (by decide) ?_
      refine lv_aload_n hx hb dAT_isUnknownFor_38 rfl (lv_at hl 0 rfl) ?_
      refine lv_iload_n hx hb dAT_isUnknownFor_39 rfl (lv_at hl 2 rfl) ?_
      refine k_Vq (As := [.int o]) (rest := []) (c_findCounter l D AC S t o k_t hn ha) CAT_52 ⟨by decide, by decide, _, rfl, rfl⟩ hx hb hml hown hts hW k_t hl.1 rfl rfl (Nat.le_of_ble_eq_true rfl) ⟨⟨Nat.le_of_ble_eq_true rfl, Nat.le_of_ble_eq_true rfl⟩, ⟨Nat.le_of_ble_eq_true rfl, Nat.le_of_ble_eq_true rfl⟩⟩ dAT_isUnknownFor_40 (fun r_4 S_4 H locs e_4 hW m_4 _ => ?_)
      obtain ⟨e1_4, e2_4⟩ := e_4
      rw [e2_4] at hW m_4
      rw [e1_4]
      have kq_5 : ∀ b, (findCounter_R S t o) = some b → kd S b = 3 := kq_findCounter hW.ok k_t hn _
      refine q_ifnonnull (tgt := 50) hx hb dAT_isUnknownFor_43 (by decide) (fun n_6 => ?_) (fun b_6 n_6 => ?_)
      · refine lv_iconst (v := (1 : Int32)) hx hb dAT_isUnknownFor_46 (by decide) ?_
        refine lv_goto (tgt := 51) hx hb dAT_isUnknownFor_47 (by decide) ?_
        exact e_z hsz hx hb hr hlk hW (mono.rf S) (Nat.le_of_ble_eq_true rfl) (Nat.le_of_ble_eq_true rfl) dAT_isUnknownFor_51 (rfl) ⟨(by refine Eq.symm ?_; refine (if_neg c_1).trans ?_; refine (if_pos c_3).trans ?_; refine (op_none n_6).trans ?_; rfl), rfl⟩
      · have k_b_6 : kd S b_6 = 3 := kq_5 b_6 n_6
        refine lv_iconst (v := (0 : Int32)) hx hb dAT_isUnknownFor_50 (by decide) ?_
        exact e_z hsz hx hb hr hlk hW (mono.rf S) (Nat.le_of_ble_eq_true rfl) (Nat.le_of_ble_eq_true rfl) dAT_isUnknownFor_51 (rfl) ⟨(by refine Eq.symm ?_; refine (if_neg c_1).trans ?_; refine (if_pos c_3).trans ?_; refine (op_some n_6).trans ?_; rfl), rfl⟩
    · by_cases c_7 : a = (2 : Int32)
      · refine lv_tableIn (off := 51) (tgt := 52) hx hb dAT_isUnknownFor_1 (by rw [c_7]; decide) (by rw [c_7]; decide) (by rw [c_7]; rfl) (by decide) ?_
        refine lv_aload_n hx hb dAT_isUnknownFor_52 rfl (lv_at hl 0 rfl) ?_
        refine lv_iload_n hx hb dAT_isUnknownFor_53 rfl (lv_at hl 2 rfl) ?_
        refine k_Vq (As := [.int o]) (rest := []) (c_findAlarm l D AC S t o k_t hn ha) CAT_67 ⟨by decide, by decide, _, rfl, rfl⟩ hx hb hml hown hts hW k_t hl.1 rfl rfl (Nat.le_of_ble_eq_true rfl) ⟨⟨Nat.le_of_ble_eq_true rfl, Nat.le_of_ble_eq_true rfl⟩, ⟨Nat.le_of_ble_eq_true rfl, Nat.le_of_ble_eq_true rfl⟩⟩ dAT_isUnknownFor_54 (fun r_8 S_8 H locs e_8 hW m_8 _ => ?_)
        obtain ⟨e1_8, e2_8⟩ := e_8
        rw [e2_8] at hW m_8
        rw [e1_8]
        have kq_9 : ∀ b, (findAlarm_R S t o) = some b → kd S b = 2 := kq_findAlarm hW.ok k_t hn _
        refine q_ifnonnull (tgt := 64) hx hb dAT_isUnknownFor_57 (by decide) (fun n_10 => ?_) (fun b_10 n_10 => ?_)
        · refine lv_iconst (v := (1 : Int32)) hx hb dAT_isUnknownFor_60 (by decide) ?_
          refine lv_goto (tgt := 65) hx hb dAT_isUnknownFor_61 (by decide) ?_
          exact e_z hsz hx hb hr hlk hW (mono.rf S) (Nat.le_of_ble_eq_true rfl) (Nat.le_of_ble_eq_true rfl) dAT_isUnknownFor_65 (rfl) ⟨(by refine Eq.symm ?_; refine (if_neg c_1).trans ?_; refine (if_neg c_3).trans ?_; refine (if_pos c_7).trans ?_; refine (op_none n_10).trans ?_; rfl), rfl⟩
        · have k_b_10 : kd S b_10 = 2 := kq_9 b_10 n_10
          refine lv_iconst (v := (0 : Int32)) hx hb dAT_isUnknownFor_64 (by decide) ?_
          exact e_z hsz hx hb hr hlk hW (mono.rf S) (Nat.le_of_ble_eq_true rfl) (Nat.le_of_ble_eq_true rfl) dAT_isUnknownFor_65 (rfl) ⟨(by refine Eq.symm ?_; refine (if_neg c_1).trans ?_; refine (if_neg c_3).trans ?_; refine (if_pos c_7).trans ?_; refine (op_some n_10).trans ?_; rfl), rfl⟩
      · refine lv_tableOut (tgt := 66) hx hb dAT_isUnknownFor_1 (by have u_0 := lv_neT c_1 (a := 0) rfl; have u_1 := lv_neT c_3 (a := 1) rfl; have u_2 := lv_neT c_7 (a := 2) rfl; omega) (by decide) ?_
        refine lv_iconst (v := (0 : Int32)) hx hb dAT_isUnknownFor_66 (by decide) ?_
        exact e_z hsz hx hb hr hlk hW (mono.rf S) (Nat.le_of_ble_eq_true rfl) (Nat.le_of_ble_eq_true rfl) dAT_isUnknownFor_67 (rfl) ⟨(by refine Eq.symm ?_; refine (if_neg c_1).trans ?_; refine (if_neg c_3).trans ?_; refine (if_neg c_7).trans ?_; rfl), rfl⟩

def AT_init_S (S : HS) (t : Nat) : HS :=
  (sfr (Notes_init_S (newQ (sfr (newB (sfr (newB (sfr (newB S (hz S) 14 20) 18 t (some (hz S))) (hz (newB S (hz S) 14 20)) 15 100) 19 t (some (hz (newB S (hz S) 14 20)))) (hz (newB (sfr (newB S (hz S) 14 20) 18 t (some (hz S))) (hz (newB S (hz S) 14 20)) 15 100)) 16 20) 20 t (some (hz (newB (sfr (newB S (hz S) 14 20) 18 t (some (hz S))) (hz (newB S (hz S) 14 20)) 15 100)))) (hz (newB (sfr (newB (sfr (newB S (hz S) 14 20) 18 t (some (hz S))) (hz (newB S (hz S) 14 20)) 15 100) 19 t (some (hz (newB S (hz S) 14 20)))) (hz (newB (sfr (newB S (hz S) 14 20) 18 t (some (hz S))) (hz (newB S (hz S) 14 20)) 15 100)) 16 20)) 4) (hz (newB (sfr (newB (sfr (newB S (hz S) 14 20) 18 t (some (hz S))) (hz (newB S (hz S) 14 20)) 15 100) 19 t (some (hz (newB S (hz S) 14 20)))) (hz (newB (sfr (newB S (hz S) 14 20) 18 t (some (hz S))) (hz (newB S (hz S) 14 20)) 15 100)) 16 20))) 21 t (some (hz (newB (sfr (newB (sfr (newB S (hz S) 14 20) 18 t (some (hz S))) (hz (newB S (hz S) 14 20)) 15 100) 19 t (some (hz (newB S (hz S) 14 20)))) (hz (newB (sfr (newB S (hz S) 14 20) 18 t (some (hz S))) (hz (newB S (hz S) 14 20)) 15 100)) 16 20))))
set_option maxRecDepth 20000 in
set_option maxHeartbeats 2000000 in
theorem c_AT_init (l : Launch) (D : va_G) (AC : Nat → ClassId) (S : HS) (t : Nat)  (k_t : kd S t = 8) : CtV l yAT_init (Cond.code yAT_init cAT_init 1 none :: wT) 2 40 D AC S [.ref t] 5 155 (fun S' => S' = AT_init_S S t) := by
  refine met_of (by decide) (Nat.le_of_ble_eq_true rfl) ?_
  intro p e s m below meth c ls hsz X hW hl
  obtain ⟨hx, hb, hml, hr, hlk, hown, hnm, hts⟩ := X
  have hl : lv_has ls 1 [(0, .ref t)] := hl
  have mo : mono S S := mono.rf S
  refine lv_aload_n hx hb dAT_init_0 rfl (lv_at hl 0 rfl) ?_
  refine o_init OAT_3 hx hb hown hts hml hl.1 dAT_init_1 (Nat.le_of_ble_eq_true rfl) (Nat.le_of_ble_eq_true rfl) ?_
  refine lv_aload_n hx hb dAT_init_4 rfl (lv_at hl 0 rfl) ?_
  refine lv_bipush (v := (20 : Int32)) hx hb dAT_init_5 (by decide) ?_
  refine n_r (K := 14) (t0 := 3) ⟨by decide, by decide, fun k => rO_obj k 14 (by decide) (by decide)⟩ rfl NAAT_9 hx hb hts hown hW (n := 20) (by decide) (by decide) ⟨Nat.le_of_ble_eq_true rfl, Nat.le_of_ble_eq_true rfl⟩ (hz S) rfl dAT_init_7 (fun H hW m_1 k_q1 => ?_)
  have k_t := m_1.k k_t (by decide)
  have mo := mo.tr m_1
  refine p_r FAT_11 GAT_counters ⟨rfl, rfl⟩ (fun _ => ⟨hnm, rfl⟩) hx hb hts hown hW k_t k_q1 dAT_init_10 (fun H locs hW => ?_)
  have mo := mo.tr (mono_sfr (k := 18) (a := t) (v := (some (hz S))))
  refine lv_aload_n hx hb dAT_init_13 rfl (lv_at hl 0 rfl) ?_
  refine lv_bipush (v := (100 : Int32)) hx hb dAT_init_14 (by decide) ?_
  refine n_r (K := 15) (t0 := 4) ⟨by decide, by decide, fun k => rO_obj k 15 (by decide) (by decide)⟩ rfl NAAT_15 hx hb hts hown hW (n := 100) (by decide) (by decide) ⟨Nat.le_of_ble_eq_true rfl, Nat.le_of_ble_eq_true rfl⟩ (hz (newB S (hz S) 14 20)) rfl dAT_init_16 (fun H hW m_2 k_q2 => ?_)
  have k_t := m_2.k k_t (by decide)
  have k_q1 := m_2.k k_q1 (by decide)
  have mo := mo.tr m_2
  refine p_r FAT_17 GAT_alarms ⟨rfl, rfl⟩ (fun _ => ⟨hnm, rfl⟩) hx hb hts hown hW k_t k_q2 dAT_init_19 (fun H locs hW => ?_)
  have mo := mo.tr (mono_sfr (k := 19) (a := t) (v := (some (hz (newB S (hz S) 14 20)))))
  refine lv_aload_n hx hb dAT_init_22 rfl (lv_at hl 0 rfl) ?_
  refine lv_bipush (v := (20 : Int32)) hx hb dAT_init_23 (by decide) ?_
  refine n_r (K := 16) (t0 := 5) ⟨by decide, by decide, fun k => rO_obj k 16 (by decide) (by decide)⟩ rfl NAAT_21 hx hb hts hown hW (n := 20) (by decide) (by decide) ⟨Nat.le_of_ble_eq_true rfl, Nat.le_of_ble_eq_true rfl⟩ (hz (newB (sfr (newB S (hz S) 14 20) 18 t (some (hz S))) (hz (newB S (hz S) 14 20)) 15 100)) rfl dAT_init_25 (fun H hW m_3 k_q3 => ?_)
  have k_t := m_3.k k_t (by decide)
  have k_q1 := m_3.k k_q1 (by decide)
  have k_q2 := m_3.k k_q2 (by decide)
  have mo := mo.tr m_3
  refine p_r FAT_23 GAT_tables ⟨rfl, rfl⟩ (fun _ => ⟨hnm, rfl⟩) hx hb hts hown hW k_t k_q3 dAT_init_28 (fun H locs hW => ?_)
  have mo := mo.tr (mono_sfr (k := 20) (a := t) (v := (some (hz (newB (sfr (newB S (hz S) 14 20) 18 t (some (hz S))) (hz (newB S (hz S) 14 20)) 15 100)))))
  refine lv_aload_n hx hb dAT_init_31 rfl (lv_at hl 0 rfl) ?_
  have ne4_0 : t ≠ (hz (newB (sfr (newB (sfr (newB S (hz S) 14 20) 18 t (some (hz S))) (hz (newB S (hz S) 14 20)) 15 100) 19 t (some (hz (newB S (hz S) 14 20)))) (hz (newB (sfr (newB S (hz S) 14 20) 18 t (some (hz S))) (hz (newB S (hz S) 14 20)) 15 100)) 16 20)) := hW.ne k_t (by decide)
  have ne4_1 : (hz S) ≠ (hz (newB (sfr (newB (sfr (newB S (hz S) 14 20) 18 t (some (hz S))) (hz (newB S (hz S) 14 20)) 15 100) 19 t (some (hz (newB S (hz S) 14 20)))) (hz (newB (sfr (newB S (hz S) 14 20) 18 t (some (hz S))) (hz (newB S (hz S) 14 20)) 15 100)) 16 20)) := hW.ne k_q1 (by decide)
  have ne4_2 : (hz (newB S (hz S) 14 20)) ≠ (hz (newB (sfr (newB (sfr (newB S (hz S) 14 20) 18 t (some (hz S))) (hz (newB S (hz S) 14 20)) 15 100) 19 t (some (hz (newB S (hz S) 14 20)))) (hz (newB (sfr (newB S (hz S) 14 20) 18 t (some (hz S))) (hz (newB S (hz S) 14 20)) 15 100)) 16 20)) := hW.ne k_q2 (by decide)
  have ne4_3 : (hz (newB (sfr (newB S (hz S) 14 20) 18 t (some (hz S))) (hz (newB S (hz S) 14 20)) 15 100)) ≠ (hz (newB (sfr (newB (sfr (newB S (hz S) 14 20) 18 t (some (hz S))) (hz (newB S (hz S) 14 20)) 15 100) 19 t (some (hz (newB S (hz S) 14 20)))) (hz (newB (sfr (newB S (hz S) 14 20) 18 t (some (hz S))) (hz (newB S (hz S) 14 20)) 15 100)) 16 20)) := hW.ne k_q3 (by decide)
  refine n_o (NAT_27).1 rfl (NAT_27).2.1 iwNotes (NAT_27).2.2 hx hb hts hown hW ⟨Nat.le_of_ble_eq_true rfl, Nat.le_of_ble_eq_true rfl⟩ (hz (newB (sfr (newB (sfr (newB S (hz S) 14 20) 18 t (some (hz S))) (hz (newB S (hz S) 14 20)) 15 100) 19 t (some (hz (newB S (hz S) 14 20)))) (hz (newB (sfr (newB S (hz S) 14 20) 18 t (some (hz S))) (hz (newB S (hz S) 14 20)) 15 100)) 16 20)) rfl dAT_init_32 (fun H hW m_4 k_q4 => ?_)
  have k_t := m_4.k k_t (by decide)
  have k_q1 := m_4.k k_q1 (by decide)
  have k_q2 := m_4.k k_q2 (by decide)
  have k_q3 := m_4.k k_q3 (by decide)
  have mo := mo.tr m_4
  refine lv_dup hx hb dAT_init_35 rfl ?_
  refine k_Nv (As := []) (rest := [.ref (hz (newB (sfr (newB (sfr (newB S (hz S) 14 20) 18 t (some (hz S))) (hz (newB S (hz S) 14 20)) 15 100) 19 t (some (hz (newB S (hz S) 14 20)))) (hz (newB (sfr (newB S (hz S) 14 20) 18 t (some (hz S))) (hz (newB S (hz S) 14 20)) 15 100)) 16 20)), .ref t]) (c_Notes_init l D AC (newQ (sfr (newB (sfr (newB (sfr (newB S (hz S) 14 20) 18 t (some (hz S))) (hz (newB S (hz S) 14 20)) 15 100) 19 t (some (hz (newB S (hz S) 14 20)))) (hz (newB (sfr (newB S (hz S) 14 20) 18 t (some (hz S))) (hz (newB S (hz S) 14 20)) 15 100)) 16 20) 20 t (some (hz (newB (sfr (newB S (hz S) 14 20) 18 t (some (hz S))) (hz (newB S (hz S) 14 20)) 15 100)))) (hz (newB (sfr (newB (sfr (newB S (hz S) 14 20) 18 t (some (hz S))) (hz (newB S (hz S) 14 20)) 15 100) 19 t (some (hz (newB S (hz S) 14 20)))) (hz (newB (sfr (newB S (hz S) 14 20) 18 t (some (hz S))) (hz (newB S (hz S) 14 20)) 15 100)) 16 20)) 4) (hz (newB (sfr (newB (sfr (newB S (hz S) 14 20) 18 t (some (hz S))) (hz (newB S (hz S) 14 20)) 15 100) 19 t (some (hz (newB S (hz S) 14 20)))) (hz (newB (sfr (newB S (hz S) 14 20) 18 t (some (hz S))) (hz (newB S (hz S) 14 20)) 15 100)) 16 20)) k_q4) CAT_29 hx hb hml hown hts hW hl.1 rfl rfl (Nat.le_of_ble_eq_true rfl) ⟨⟨Nat.le_of_ble_eq_true rfl, Nat.le_of_ble_eq_true rfl⟩, ⟨Nat.le_of_ble_eq_true rfl, Nat.le_of_ble_eq_true rfl⟩⟩ dAT_init_36 (fun S_5 H locs e_5 hW m_5 _ => ?_)
  rw [e_5] at hW m_5
  have k_t := m_5.k k_t (by decide)
  have k_q1 := m_5.k k_q1 (by decide)
  have k_q2 := m_5.k k_q2 (by decide)
  have k_q3 := m_5.k k_q3 (by decide)
  have k_q4 := m_5.k k_q4 (by decide)
  have mo := mo.tr m_5
  refine p_r FAT_30 GAT_notes ⟨rfl, rfl⟩ (fun _ => ⟨hnm, rfl⟩) hx hb hts hown hW k_t k_q4 dAT_init_39 (fun H locs hW => ?_)
  have mo := mo.tr (mono_sfr (k := 21) (a := t) (v := (some (hz (newB (sfr (newB (sfr (newB S (hz S) 14 20) 18 t (some (hz S))) (hz (newB S (hz S) 14 20)) 15 100) 19 t (some (hz (newB S (hz S) 14 20)))) (hz (newB (sfr (newB S (hz S) 14 20) 18 t (some (hz S))) (hz (newB S (hz S) 14 20)) 15 100)) 16 20)))))
  exact e_v hsz hx hb hr hlk hW (mo) (Nat.le_of_ble_eq_true rfl) (Nat.le_of_ble_eq_true rfl) dAT_init_42 (rfl)
