def table_R (S : HS) (t : Nat) (n : Int32) (k : Int64) : Int32 :=
  opc (findCounter_R S t n) ((-1 : Int32))
  (fun b_3 => if k < (1 : Int64) then
      (-2 : Int32)
    else
      if (1000000 : Int64) < k then
        (-2 : Int32)
      else
        if (fi S 12 t) < (20 : Int32) then
          fi (appendTable_S (sfi (sar (Table_init_S (newQ S (hz S) 7) (hz S) ((fi S 12 t) + (1 : Int32)) b_3 k) (gd (fr S 20 t)) (fi S 12 t).toNatClampNeg (some (hz S))) 12 t ((fi S 12 t) + (1 : Int32))) b_3 (hz S)) 12 t
        else
          (-4 : Int32))
def table_S (S : HS) (t : Nat) (n : Int32) (k : Int64) : HS :=
  opc (findCounter_R S t n) (S)
  (fun b_3 => if k < (1 : Int64) then
      S
    else
      if (1000000 : Int64) < k then
        S
      else
        if (fi S 12 t) < (20 : Int32) then
          (appendTable_S (sfi (sar (Table_init_S (newQ S (hz S) 7) (hz S) ((fi S 12 t) + (1 : Int32)) b_3 k) (gd (fr S 20 t)) (fi S 12 t).toNatClampNeg (some (hz S))) 12 t ((fi S 12 t) + (1 : Int32))) b_3 (hz S))
        else
          S)
set_option maxRecDepth 20000 in
set_option maxHeartbeats 2000000 in
theorem c_table (l : Launch) (D : va_G) (AC : Nat → ClassId) (S : HS) (t : Nat) (n : Int32) (k : Int64)  (k_t : kd S t = 8) (hn : nn S) (ha : atOk S t) : CtI l yAT_table (Cond.code yAT_table cAT_table 6 (some .int) :: wT) 2 60 D AC S [.ref t, .int n, .long k] 1 12 (fun r S' => r = table_R S t n k ∧ S' = table_S S t n k) := by
  refine met_of (by decide) (Nat.le_of_ble_eq_true rfl) ?_
  intro p e s m below meth c ls hsz X hW hl
  obtain ⟨hx, hb, hml, hr, hlk, hown, hnm, hts⟩ := X
  have hl : lv_has ls 6 [(0, .ref t), (1, .int n), (2, .long k)] := hl
  have mo : mono S S := mono.rf S
  have h00 := hW.k00
  have kt0 := k_t
  have nA : fr S 20 t = some (gd (fr S 20 t)) := gd_some (hn 20 t rfl k_t)
  have kA : kd S (gd (fr S 20 t)) = 16 := hW.ok.2.1 20 t _ k_t nA
  have lA : an S (gd (fr S 20 t)) = 20 := ha.2.2.2.2.2
  have kqA : ∀ b, fr S 20 t = some b → kd S b = 16 := fun b h => hW.ok.2.1 20 t b k_t h
  refine lv_aload_n hx hb dAT_table_0 rfl (lv_at hl 0 rfl) ?_
  refine lv_iload_n hx hb dAT_table_1 rfl (lv_at hl 1 rfl) ?_
  refine k_Vq (As := [.int n]) (rest := []) (c_findCounter l D AC S t n k_t hn ha) CAT_52 ⟨by decide, by decide, _, rfl, rfl⟩ hx hb hml hown hts hW k_t hl.1 rfl rfl (Nat.le_of_ble_eq_true rfl) ⟨⟨Nat.le_of_ble_eq_true rfl, Nat.le_of_ble_eq_true rfl⟩, ⟨Nat.le_of_ble_eq_true rfl, Nat.le_of_ble_eq_true rfl⟩⟩ dAT_table_2 (fun r_1 S_1 H locs e_1 hW m_1 _ => ?_)
  obtain ⟨e1_1, e2_1⟩ := e_1
  rw [e2_1] at hW m_1
  rw [e1_1]
  have kq_2 : ∀ b, (findCounter_R S t n) = some b → kd S b = 3 := kq_findCounter hW.ok k_t hn _
  refine q_astore (lv' := [(4, va_rf (findCounter_R S t n)), (0, .ref t), (1, .int n), (2, .long k)]) hx hb dAT_table_5 hl (by decide) rfl (fun ls hl => ?_)
  refine q_aload hx hb dAT_table_7 (lv_at hl 0 rfl) ?_
  refine q_ifnonnull (tgt := 14) hx hb dAT_table_9 (by decide) (fun n_3 => ?_) (fun b_3 n_3 => ?_)
  · refine lv_iconst (v := (-1 : Int32)) hx hb dAT_table_12 (by decide) ?_
    exact e_i hsz hx hb hr hlk hW (mono.rf S) (Nat.le_of_ble_eq_true rfl) (Nat.le_of_ble_eq_true rfl) dAT_table_13 ⟨(by refine Eq.symm ?_; refine (op_none n_3).trans ?_; rfl), (by refine Eq.symm ?_; refine (op_none n_3).trans ?_; rfl)⟩
  · have k_b_3 : kd S b_3 = 3 := kq_2 b_3 n_3
    refine lv_lload_n hx hb dAT_table_14 rfl (lv_at hl 3 rfl) ?_
    refine lv_lconst (v := (1 : Int64)) hx hb dAT_table_15 (by decide) ?_
    refine ll_lt (tgt := 28) hx hb dAT_table_16 dAT_table_17 (by decide) (fun c_4 => ?_) (fun c_4 => ?_)
    · refine lv_bipush (v := (-2 : Int32)) hx hb dAT_table_28 (by decide) ?_
      exact e_i hsz hx hb hr hlk hW (mono.rf S) (Nat.le_of_ble_eq_true rfl) (Nat.le_of_ble_eq_true rfl) dAT_table_30 ⟨(by refine Eq.symm ?_; refine (op_some n_3).trans ?_; refine (if_pos c_4).trans ?_; rfl), (by refine Eq.symm ?_; refine (op_some n_3).trans ?_; refine (if_pos c_4).trans ?_; rfl)⟩
    · refine lv_lload_n hx hb dAT_table_20 rfl (lv_at hl 3 rfl) ?_
      refine lv_ldc2 (v := (1000000 : Int64)) hx hb hown (hts _ QAT_112) dAT_table_21 ?_
      refine ll_le (tgt := 31) hx hb dAT_table_24 dAT_table_25 (by decide) (fun c_5 => ?_) (fun c_5 => ?_)
      · refine lv_aload_n hx hb dAT_table_31 rfl (lv_at hl 1 rfl) ?_
        refine g_i FAT_114 hx hb hts hown hW k_t dAT_table_32 ?_
        refine lv_bipush (v := (20 : Int32)) hx hb dAT_table_35 (by decide) ?_
        refine lv_icmp_lt (tgt := 43) hx hb dAT_table_37 (by decide) (fun c_6 => ?_) (fun c_6 => ?_)
        · have ne7_0 : t ≠ (hz S) := hW.ne k_t (by decide)
          have ne7_1 : (gd (fr S 20 t)) ≠ (hz S) := hW.ne kA (by decide)
          have ne7_2 : b_3 ≠ (hz S) := hW.ne k_b_3 (by decide)
          refine n_o (NAT_21).1 rfl (NAT_21).2.1 iwTable (NAT_21).2.2 hx hb hts hown hW ⟨Nat.le_of_ble_eq_true rfl, Nat.le_of_ble_eq_true rfl⟩ (hz S) rfl dAT_table_43 (fun H hW m_7 k_q7 => ?_)
          have lA := m_7.n kA (by decide) lA
          have k_t := m_7.k k_t (by decide)
          have kA := m_7.k kA (by decide)
          have k_b_3 := m_7.k k_b_3 (by decide)
          have kqA := fun b h => m_7.k (kqA b h) (by decide)
          have kq_2 := fun b h => m_7.k (kq_2 b h) (by decide)
          have mo := mo.tr m_7
          refine lv_dup hx hb dAT_table_46 rfl ?_
          refine lv_aload_n hx hb dAT_table_47 rfl (lv_at hl 1 rfl) ?_
          refine g_i FAT_114 hx hb hts hown hW k_t dAT_table_48 ?_
          rw [show fi (newQ S (hz S) 7) 12 t = fi S 12 t from (by simp only [ne7_0, fr_sfr, fr_sfi, fr_sfl, fr_sar, fr_sai, fr_sal, fi_sfr, fi_sfi, fi_sfl, fi_sar, fi_sai, fi_sal, fl_sfr, fl_sfi, fl_sfl, fl_sar, fl_sai, fl_sal, fr_newQ, fi_newQ, fl_newQ, fr_newB, fi_newB, fl_newB, ne_eq, not_false_eq_true] <;> rfl)]
          refine lv_iconst (v := (1 : Int32)) hx hb dAT_table_51 (by decide) ?_
          refine lv_iadd hx hb dAT_table_52 ?_
          refine q_aload hx hb dAT_table_53 (lv_at hl 0 rfl) ?_
          refine lv_lload_n hx hb dAT_table_55 rfl (lv_at hl 3 rfl) ?_
          refine q_some1 n_3 ?_
          refine k_Iv (As := [.int ((fi S 12 t) + (1 : Int32)), .ref b_3, .long k]) (rest := [.ref (hz S)]) (c_Table_init l D AC (newQ S (hz S) 7) (hz S) ((fi S 12 t) + (1 : Int32)) b_3 k k_q7 k_b_3) CAT_117 hx hb hml hown hts hW hl.1 rfl rfl (Nat.le_of_ble_eq_true rfl) ⟨⟨Nat.le_of_ble_eq_true rfl, Nat.le_of_ble_eq_true rfl⟩, ⟨Nat.le_of_ble_eq_true rfl, Nat.le_of_ble_eq_true rfl⟩⟩ dAT_table_56 (fun S_8 H locs e_8 hW m_8 _ => ?_)
          rw [e_8] at hW m_8
          have lA := m_8.n kA (by decide) lA
          have k_t := m_8.k k_t (by decide)
          have kA := m_8.k kA (by decide)
          have k_b_3 := m_8.k k_b_3 (by decide)
          have k_q7 := m_8.k k_q7 (by decide)
          have kqA := fun b h => m_8.k (kqA b h) (by decide)
          have kq_2 := fun b h => m_8.k (kq_2 b h) (by decide)
          have mo := mo.tr m_8
          refine lv_astore (lv' := [(5, .ref (hz S)), (4, va_rf (findCounter_R S t n)), (0, .ref t), (1, .int n), (2, .long k)]) hx hb dAT_table_59 hl (by decide) (by simp [q_cat, cat_r, cat_i, cat_l, cat_n]) (fun ls hl => ?_)
          refine lv_aload_n hx hb dAT_table_61 rfl (lv_at hl 2 rfl) ?_
          refine g_q FAT_23 hx hb hts hown hW k_t dAT_table_62 ?_
          rw [show fr (Table_init_S (newQ S (hz S) 7) (hz S) ((fi S 12 t) + (1 : Int32)) b_3 k) 20 t = fr S 20 t from (by simp only [Table_init_S, ne7_0, fr_sfr, fr_sfi, fr_sfl, fr_sar, fr_sai, fr_sal, fi_sfr, fi_sfi, fi_sfl, fi_sar, fi_sai, fi_sal, fl_sfr, fl_sfi, fl_sfl, fl_sar, fl_sai, fl_sal, fr_newQ, fi_newQ, fl_newQ, fr_newB, fi_newB, fl_newB, ne_eq, not_false_eq_true] <;> rfl)]
          refine lv_aload_n hx hb dAT_table_65 rfl (lv_at hl 2 rfl) ?_
          refine g_i FAT_114 hx hb hts hown hW k_t dAT_table_66 ?_
          rw [show fi (Table_init_S (newQ S (hz S) 7) (hz S) ((fi S 12 t) + (1 : Int32)) b_3 k) 12 t = fi S 12 t from (by simp only [Table_init_S, ne7_0, fr_sfr, fr_sfi, fr_sfl, fr_sar, fr_sai, fr_sal, fi_sfr, fi_sfi, fi_sfl, fi_sar, fi_sai, fi_sal, fl_sfr, fl_sfi, fl_sfl, fl_sar, fl_sai, fl_sal, fr_newQ, fi_newQ, fl_newQ, fr_newB, fi_newB, fl_newB, ne_eq, not_false_eq_true] <;> rfl)]
          refine lv_aload hx hb dAT_table_69 (lv_at hl 0 rfl) ?_
          refine q_some2 nA ?_
          refine a_rs (K := 16) (t0 := 5) (by decide) rfl (r := (RTable, TTable, 12)) ⟨rfl, rfl⟩ hx hb hW kA k_q7 (cnt_in (Classical.choose_spec ha.2.2.1).2 (Classical.choose_spec ha.2.2.1).1 (by decide) c_6 lA) dAT_table_71 (fun H locs hW => ?_)
          have mo := mo.tr (mono_sar (a := (gd (fr S 20 t))) (i := (fi S 12 t).toNatClampNeg) (v := (some (hz S))))
          have lA : an (sar (Table_init_S (newQ S (hz S) 7) (hz S) ((fi S 12 t) + (1 : Int32)) b_3 k) (gd (fr S 20 t)) (fi S 12 t).toNatClampNeg (some (hz S))) (gd (fr S 20 t)) = 20 := ka_sar lA
          have k_t : kd (sar (Table_init_S (newQ S (hz S) 7) (hz S) ((fi S 12 t) + (1 : Int32)) b_3 k) (gd (fr S 20 t)) (fi S 12 t).toNatClampNeg (some (hz S))) t = 8 := kk_sar k_t
          have kA : kd (sar (Table_init_S (newQ S (hz S) 7) (hz S) ((fi S 12 t) + (1 : Int32)) b_3 k) (gd (fr S 20 t)) (fi S 12 t).toNatClampNeg (some (hz S))) (gd (fr S 20 t)) = 16 := kk_sar kA
          have k_b_3 : kd (sar (Table_init_S (newQ S (hz S) 7) (hz S) ((fi S 12 t) + (1 : Int32)) b_3 k) (gd (fr S 20 t)) (fi S 12 t).toNatClampNeg (some (hz S))) b_3 = 3 := kk_sar k_b_3
          have k_q7 : kd (sar (Table_init_S (newQ S (hz S) 7) (hz S) ((fi S 12 t) + (1 : Int32)) b_3 k) (gd (fr S 20 t)) (fi S 12 t).toNatClampNeg (some (hz S))) (hz S) = 7 := kk_sar k_q7
          have kqA : ∀ b, fr S 20 t = some b → kd (sar (Table_init_S (newQ S (hz S) 7) (hz S) ((fi S 12 t) + (1 : Int32)) b_3 k) (gd (fr S 20 t)) (fi S 12 t).toNatClampNeg (some (hz S))) b = 16 := fun b h => kk_sar (kqA b h)
          have kq_2 : ∀ b, (findCounter_R S t n) = some b → kd (sar (Table_init_S (newQ S (hz S) 7) (hz S) ((fi S 12 t) + (1 : Int32)) b_3 k) (gd (fr S 20 t)) (fi S 12 t).toNatClampNeg (some (hz S))) b = 3 := fun b h => kk_sar (kq_2 b h)
          refine lv_aload_n hx hb dAT_table_72 rfl (lv_at hl 2 rfl) ?_
          refine lv_dup hx hb dAT_table_73 rfl ?_
          refine g_i FAT_114 hx hb hts hown hW k_t dAT_table_74 ?_
          rw [show fi (sar (Table_init_S (newQ S (hz S) 7) (hz S) ((fi S 12 t) + (1 : Int32)) b_3 k) (gd (fr S 20 t)) (fi S 12 t).toNatClampNeg (some (hz S))) 12 t = fi S 12 t from (by simp only [Table_init_S, ne7_0, fr_sfr, fr_sfi, fr_sfl, fr_sar, fr_sai, fr_sal, fi_sfr, fi_sfi, fi_sfl, fi_sar, fi_sai, fi_sal, fl_sfr, fl_sfi, fl_sfl, fl_sar, fl_sai, fl_sal, fr_newQ, fi_newQ, fl_newQ, fr_newB, fi_newB, fl_newB, ne_eq, not_false_eq_true] <;> rfl)]
          refine lv_iconst (v := (1 : Int32)) hx hb dAT_table_77 (by decide) ?_
          refine lv_iadd hx hb dAT_table_78 ?_
          refine p_i FAT_114 GAT_tableCount (fun h => by cases h) hx hb hts hown hW k_t rfl rfl dAT_table_79 (fun H locs hW => ?_)
          have mo := mo.tr (mono_sfi (k := 12) (a := t) (v := ((fi S 12 t) + (1 : Int32))))
          have lA : an (sfi (sar (Table_init_S (newQ S (hz S) 7) (hz S) ((fi S 12 t) + (1 : Int32)) b_3 k) (gd (fr S 20 t)) (fi S 12 t).toNatClampNeg (some (hz S))) 12 t ((fi S 12 t) + (1 : Int32))) (gd (fr S 20 t)) = 20 := ka_sfi lA
          have k_t : kd (sfi (sar (Table_init_S (newQ S (hz S) 7) (hz S) ((fi S 12 t) + (1 : Int32)) b_3 k) (gd (fr S 20 t)) (fi S 12 t).toNatClampNeg (some (hz S))) 12 t ((fi S 12 t) + (1 : Int32))) t = 8 := kk_sfi k_t
          have kA : kd (sfi (sar (Table_init_S (newQ S (hz S) 7) (hz S) ((fi S 12 t) + (1 : Int32)) b_3 k) (gd (fr S 20 t)) (fi S 12 t).toNatClampNeg (some (hz S))) 12 t ((fi S 12 t) + (1 : Int32))) (gd (fr S 20 t)) = 16 := kk_sfi kA
          have k_b_3 : kd (sfi (sar (Table_init_S (newQ S (hz S) 7) (hz S) ((fi S 12 t) + (1 : Int32)) b_3 k) (gd (fr S 20 t)) (fi S 12 t).toNatClampNeg (some (hz S))) 12 t ((fi S 12 t) + (1 : Int32))) b_3 = 3 := kk_sfi k_b_3
          have k_q7 : kd (sfi (sar (Table_init_S (newQ S (hz S) 7) (hz S) ((fi S 12 t) + (1 : Int32)) b_3 k) (gd (fr S 20 t)) (fi S 12 t).toNatClampNeg (some (hz S))) 12 t ((fi S 12 t) + (1 : Int32))) (hz S) = 7 := kk_sfi k_q7
          have kqA : ∀ b, fr S 20 t = some b → kd (sfi (sar (Table_init_S (newQ S (hz S) 7) (hz S) ((fi S 12 t) + (1 : Int32)) b_3 k) (gd (fr S 20 t)) (fi S 12 t).toNatClampNeg (some (hz S))) 12 t ((fi S 12 t) + (1 : Int32))) b = 16 := fun b h => kk_sfi (kqA b h)
          have kq_2 : ∀ b, (findCounter_R S t n) = some b → kd (sfi (sar (Table_init_S (newQ S (hz S) 7) (hz S) ((fi S 12 t) + (1 : Int32)) b_3 k) (gd (fr S 20 t)) (fi S 12 t).toNatClampNeg (some (hz S))) 12 t ((fi S 12 t) + (1 : Int32))) b = 3 := fun b h => kk_sfi (kq_2 b h)
          refine q_aload hx hb dAT_table_82 (lv_at hl 1 rfl) ?_
          refine lv_aload hx hb dAT_table_84 (lv_at hl 0 rfl) ?_
          refine q_some1 n_3 ?_
          refine k_Vv (As := [.ref (hz S)]) (rest := []) (c_appendTable l D AC (sfi (sar (Table_init_S (newQ S (hz S) 7) (hz S) ((fi S 12 t) + (1 : Int32)) b_3 k) (gd (fr S 20 t)) (fi S 12 t).toNatClampNeg (some (hz S))) 12 t ((fi S 12 t) + (1 : Int32))) b_3 (hz S) k_b_3 k_q7) CAT_120 ⟨by decide, by decide, _, rfl, rfl⟩ hx hb hml hown hts hW k_b_3 hl.1 rfl rfl (Nat.le_of_ble_eq_true rfl) ⟨⟨Nat.le_of_ble_eq_true rfl, Nat.le_of_ble_eq_true rfl⟩, ⟨Nat.le_of_ble_eq_true rfl, Nat.le_of_ble_eq_true rfl⟩⟩ dAT_table_86 (fun S_9 H locs e_9 hW m_9 _ => ?_)
          rw [e_9] at hW m_9
          have lA := m_9.n kA (by decide) lA
          have k_t := m_9.k k_t (by decide)
          have kA := m_9.k kA (by decide)
          have k_b_3 := m_9.k k_b_3 (by decide)
          have k_q7 := m_9.k k_q7 (by decide)
          have kqA := fun b h => m_9.k (kqA b h) (by decide)
          have kq_2 := fun b h => m_9.k (kq_2 b h) (by decide)
          have mo := mo.tr m_9
          refine lv_aload_n hx hb dAT_table_89 rfl (lv_at hl 2 rfl) ?_
          refine g_i FAT_114 hx hb hts hown hW k_t dAT_table_90 ?_
          exact e_i hsz hx hb hr hlk hW (mo) (Nat.le_of_ble_eq_true rfl) (Nat.le_of_ble_eq_true rfl) dAT_table_93 ⟨(by refine Eq.symm ?_; refine (op_some n_3).trans ?_; refine (if_neg c_4).trans ?_; refine (if_neg c_5).trans ?_; refine (if_pos c_6).trans ?_; rfl), (by refine Eq.symm ?_; refine (op_some n_3).trans ?_; refine (if_neg c_4).trans ?_; refine (if_neg c_5).trans ?_; refine (if_pos c_6).trans ?_; rfl)⟩
        · refine lv_bipush (v := (-4 : Int32)) hx hb dAT_table_40 (by decide) ?_
          exact e_i hsz hx hb hr hlk hW (mono.rf S) (Nat.le_of_ble_eq_true rfl) (Nat.le_of_ble_eq_true rfl) dAT_table_42 ⟨(by refine Eq.symm ?_; refine (op_some n_3).trans ?_; refine (if_neg c_4).trans ?_; refine (if_neg c_5).trans ?_; refine (if_neg c_6).trans ?_; rfl), (by refine Eq.symm ?_; refine (op_some n_3).trans ?_; refine (if_neg c_4).trans ?_; refine (if_neg c_5).trans ?_; refine (if_neg c_6).trans ?_; rfl)⟩
      · refine lv_bipush (v := (-2 : Int32)) hx hb dAT_table_28 (by decide) ?_
        exact e_i hsz hx hb hr hlk hW (mono.rf S) (Nat.le_of_ble_eq_true rfl) (Nat.le_of_ble_eq_true rfl) dAT_table_30 ⟨(by refine Eq.symm ?_; refine (op_some n_3).trans ?_; refine (if_neg c_4).trans ?_; refine (if_pos c_5).trans ?_; rfl), (by refine Eq.symm ?_; refine (op_some n_3).trans ?_; refine (if_neg c_4).trans ?_; refine (if_pos c_5).trans ?_; rfl)⟩
