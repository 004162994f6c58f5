def Page_init_S (S : HS) (t : Nat) : HS :=
  (sfr (newB S (hz S) 11 1000) 10 t (some (hz S)))
set_option maxRecDepth 20000 in
set_option maxHeartbeats 2000000 in
theorem c_Page_init (l : Launch) (D : va_G) (AC : Nat → ClassId) (S : HS) (t : Nat)  (k_t : kd S t = 5) : CtV l yPage_init (Cond.code yPage_init cPage_init 1 none :: wT) 1 12 D AC S [.ref t] 1 1000 (fun S' => S' = Page_init_S S t) := by
  refine met_of (by decide) (Nat.le_of_ble_eq_true rfl) ?_
  intro p e s m below meth c ls hsz X hW hl
  obtain ⟨hx, hb, hml, hr, hlk, hown, hnm, hts⟩ := X
  have hl : lv_has ls 1 [(0, .ref t)] := hl
  have mo : mono S S := mono.rf S
  refine lv_aload_n hx hb dPage_init_0 rfl (lv_at hl 0 rfl) ?_
  refine o_init OPage_3 hx hb hown hts hml hl.1 dPage_init_1 (Nat.le_of_ble_eq_true rfl) (Nat.le_of_ble_eq_true rfl) ?_
  refine lv_aload_n hx hb dPage_init_4 rfl (lv_at hl 0 rfl) ?_
  refine lv_sipush (v := (1000 : Int32)) hx hb dPage_init_5 (by decide) ?_
  refine n_i (K := 11) (t0 := 0) ⟨by decide, by decide, fun k => rO_obj k 11 (by decide) (by decide)⟩ rfl rfl ⟨fun C h => (by cases h), rfl⟩ NI_int hx hb hts hW (n := 1000) (by decide) ⟨by decide, by decide⟩ ⟨Nat.le_of_ble_eq_true rfl, Nat.le_of_ble_eq_true rfl⟩ (hz S) rfl dPage_init_8 (fun H hW m_1 k_q1 => ?_)
  have k_t := m_1.k k_t (by decide)
  have mo := mo.tr m_1
  refine p_r FPage_9 GPage_cells ⟨rfl, rfl⟩ (fun _ => ⟨hnm, rfl⟩) hx hb hts hown hW k_t k_q1 dPage_init_10 (fun H locs hW => ?_)
  have mo := mo.tr (mono_sfr (k := 10) (a := t) (v := (some (hz S))))
  exact e_v hsz hx hb hr hlk hW (mo) (Nat.le_of_ble_eq_true rfl) (Nat.le_of_ble_eq_true rfl) dPage_init_13 (rfl)

def Notes_init_S (S : HS) (t : Nat) : HS :=
  (sfr (newB S (hz S) 17 12) 9 t (some (hz S)))
set_option maxRecDepth 20000 in
set_option maxHeartbeats 2000000 in
theorem c_Notes_init (l : Launch) (D : va_G) (AC : Nat → ClassId) (S : HS) (t : Nat)  (k_t : kd S t = 4) : CtV l yNotes_init (Cond.code yNotes_init cNotes_init 1 none :: wT) 1 12 D AC S [.ref t] 1 12 (fun S' => S' = Notes_init_S S t) := by
  refine met_of (by decide) (Nat.le_of_ble_eq_true rfl) ?_
  intro p e s m below meth c ls hsz X hW hl
  obtain ⟨hx, hb, hml, hr, hlk, hown, hnm, hts⟩ := X
  have hl : lv_has ls 1 [(0, .ref t)] := hl
  have mo : mono S S := mono.rf S
  refine lv_aload_n hx hb dNotes_init_0 rfl (lv_at hl 0 rfl) ?_
  refine o_init ONotes_3 hx hb hown hts hml hl.1 dNotes_init_1 (Nat.le_of_ble_eq_true rfl) (Nat.le_of_ble_eq_true rfl) ?_
  refine lv_aload_n hx hb dNotes_init_4 rfl (lv_at hl 0 rfl) ?_
  refine lv_bipush (v := (12 : Int32)) hx hb dNotes_init_5 (by decide) ?_
  refine n_r (K := 17) (t0 := 6) ⟨by decide, by decide, fun k => rO_obj k 17 (by decide) (by decide)⟩ rfl NANotes_9 hx hb hts hown hW (n := 12) (by decide) (by decide) ⟨Nat.le_of_ble_eq_true rfl, Nat.le_of_ble_eq_true rfl⟩ (hz S) rfl dNotes_init_7 (fun H hW m_1 k_q1 => ?_)
  have k_t := m_1.k k_t (by decide)
  have mo := mo.tr m_1
  refine p_r FNotes_11 GNotes_pages ⟨rfl, rfl⟩ (fun _ => ⟨hnm, rfl⟩) hx hb hts hown hW k_t k_q1 dNotes_init_10 (fun H locs hW => ?_)
  have mo := mo.tr (mono_sfr (k := 9) (a := t) (v := (some (hz S))))
  exact e_v hsz hx hb hr hlk hW (mo) (Nat.le_of_ble_eq_true rfl) (Nat.le_of_ble_eq_true rfl) dNotes_init_13 (rfl)

theorem vin_0 {x : Int32} {j N n : Nat} (h : x = nI j) (hn : n = N) (hj : j < N) (hN : N < 2 ^ 31) : vp_in x n := by
  subst h; subst hn
  exact vp_in_nI hj hN
theorem vin_a {x : Int32} {j N n : Nat} (k : Nat) (h : x = nI j) (hn : n = N) (hj : j + k < N) (hN : N < 2 ^ 31) : vp_in (x + nI k) n := by
  subst h; subst hn
  rw [nI_add]
  exact vp_in_nI hj hN

theorem wr_le {x : Int32} {j n : Nat} (h : x = nI j) (hn : n = 1000) (hj : j + 4 ≤ 1000) : ¬ nI n < x + 4 := by
  subst h; subst hn
  rw [show nI j + 4 = nI (j + 4) from nI_add j 4]
  exact nI_nlt hj (by decide)

def write_S (S : HS) (t : Nat) (at_ : Int32) (kn : Int32) (nb : Int32) (of_ : Int64) (vl : Int64) : HS :=
  (sai (sai (sai (sai S (gd (fr S 10 t)) at_.toNatClampNeg kn) (gd (fr S 10 t)) (at_ + (1 : Int32)).toNatClampNeg nb) (gd (fr S 10 t)) (at_ + (2 : Int32)).toNatClampNeg of_.toInt32) (gd (fr S 10 t)) (at_ + (3 : Int32)).toNatClampNeg vl.toInt32)
set_option maxRecDepth 20000 in
set_option maxHeartbeats 2000000 in
theorem c_write (l : Launch) (D : va_G) (AC : Nat → ClassId) (S : HS) (t : Nat) (at_ : Int32) (kn : Int32) (nb : Int32) (of_ : Int64) (vl : Int64)  (k_t : kd S t = 5) (hn : nn S) (hat : at_ = nI at_.toNatClampNeg) (hj : at_.toNatClampNeg + 4 ≤ 1000) (hlen : an S (gd (fr S 10 t)) = 1000) : CtV l yPage_write (Cond.code yPage_write cPage_write 8 none :: wT) 0 0 D AC S [.ref t, .int at_, .int kn, .int nb, .long of_, .long vl] 0 0 (fun S' => S' = write_S S t at_ kn nb of_ vl) := by
  refine met_of (by decide) (Nat.le_of_ble_eq_true rfl) ?_
  intro p e s m below meth c ls hsz X hW hl
  obtain ⟨hx, hb, hml, hr, hlk, hown, hnm, hts⟩ := X
  have hl : lv_has ls 8 [(0, .ref t), (1, .int at_), (2, .int kn), (3, .int nb), (4, .long of_), (6, .long vl)] := hl
  have mo : mono S S := mono.rf S
  refine lv_iload_n hx hb dPage_write_0 rfl (lv_at hl 1 rfl) ?_
  refine lv_if_lt (tgt := 53) hx hb dPage_write_1 (by decide) (fun c_1 => ?_) (fun c_1 => ?_)
  · exact absurd c_1 (by rw [hat]; exact nI_pos (by omega))
  · refine lv_iload_n hx hb dPage_write_4 rfl (lv_at hl 1 rfl) ?_
    refine lv_iconst (v := (4 : Int32)) hx hb dPage_write_5 (by decide) ?_
    refine lv_iadd hx hb dPage_write_6 ?_
    refine lv_aload_n hx hb dPage_write_7 rfl (lv_at hl 0 rfl) ?_
    have kq_2 : ∀ b, fr S 10 t = some b → kd S b = 11 := fun b h => hW.ok.2.1 10 t b k_t h
    refine g_q FPage_9 hx hb hts hown hW k_t dPage_write_8 ?_
    have n_3 : fr S 10 t = some (gd (fr S 10 t)) := gd_some (hn 10 t rfl k_t)
    have kb_4 : kd S (gd (fr S 10 t)) = 11 := kq_2 (gd (fr S 10 t)) n_3
    refine q_some n_3 ?_
    refine a_len (K := 11) (t0 := 0) (by decide) rfl hx hb hW kb_4 dPage_write_11 ?_
    refine lv_icmp_gt (tgt := 53) hx hb dPage_write_12 (by decide) (fun c_5 => ?_) (fun c_5 => ?_)
    · exact absurd c_5 (wr_le hat hlen hj)
    · refine lv_aload_n hx hb dPage_write_15 rfl (lv_at hl 0 rfl) ?_
      refine g_q FPage_9 hx hb hts hown hW k_t dPage_write_16 ?_
      refine lv_iload_n hx hb dPage_write_19 rfl (lv_at hl 1 rfl) ?_
      refine lv_iload_n hx hb dPage_write_20 rfl (lv_at hl 2 rfl) ?_
      refine q_some2 n_3 ?_
      refine a_is (K := 11) (t0 := 0) (by decide) rfl hx hb hW kb_4 (vin_0 hat hlen (by omega) (by decide)) dPage_write_21 (fun H locs hW => ?_)
      have mo := mo.tr (mono_sai (a := (gd (fr S 10 t))) (i := at_.toNatClampNeg) (v := kn))
      have nnp_6 : nn (sai S (gd (fr S 10 t)) at_.toNatClampNeg kn) := nn_sai hn
      refine lv_aload_n hx hb dPage_write_22 rfl (lv_at hl 0 rfl) ?_
      refine g_q FPage_9 hx hb hts hown hW k_t dPage_write_23 ?_
      rw [show fr (sai S (gd (fr S 10 t)) at_.toNatClampNeg kn) 10 t = fr S 10 t from rfl]
      refine lv_iload_n hx hb dPage_write_26 rfl (lv_at hl 1 rfl) ?_
      refine lv_iconst (v := (1 : Int32)) hx hb dPage_write_27 (by decide) ?_
      refine lv_iadd hx hb dPage_write_28 ?_
      refine lv_iload_n hx hb dPage_write_29 rfl (lv_at hl 3 rfl) ?_
      refine q_some2 n_3 ?_
      refine a_is (K := 11) (t0 := 0) (by decide) rfl hx hb hW kb_4 (vin_a 1 hat hlen (by omega) (by decide)) dPage_write_30 (fun H locs hW => ?_)
      have mo := mo.tr (mono_sai (a := (gd (fr S 10 t))) (i := (at_ + (1 : Int32)).toNatClampNeg) (v := nb))
      have nnp_7 : nn (sai (sai S (gd (fr S 10 t)) at_.toNatClampNeg kn) (gd (fr S 10 t)) (at_ + (1 : Int32)).toNatClampNeg nb) := nn_sai nnp_6
      refine lv_aload_n hx hb dPage_write_31 rfl (lv_at hl 0 rfl) ?_
      refine g_q FPage_9 hx hb hts hown hW k_t dPage_write_32 ?_
      rw [show fr (sai (sai S (gd (fr S 10 t)) at_.toNatClampNeg kn) (gd (fr S 10 t)) (at_ + (1 : Int32)).toNatClampNeg nb) 10 t = fr S 10 t from rfl]
      refine lv_iload_n hx hb dPage_write_35 rfl (lv_at hl 1 rfl) ?_
      refine lv_iconst (v := (2 : Int32)) hx hb dPage_write_36 (by decide) ?_
      refine lv_iadd hx hb dPage_write_37 ?_
      refine lv_lload hx hb dPage_write_38 (lv_at hl 4 rfl) ?_
      refine lv_l2i hx hb dPage_write_40 rfl ?_
      refine q_some2 n_3 ?_
      refine a_is (K := 11) (t0 := 0) (by decide) rfl hx hb hW kb_4 (vin_a 2 hat hlen (by omega) (by decide)) dPage_write_41 (fun H locs hW => ?_)
      have mo := mo.tr (mono_sai (a := (gd (fr S 10 t))) (i := (at_ + (2 : Int32)).toNatClampNeg) (v := of_.toInt32))
      have nnp_8 : nn (sai (sai (sai S (gd (fr S 10 t)) at_.toNatClampNeg kn) (gd (fr S 10 t)) (at_ + (1 : Int32)).toNatClampNeg nb) (gd (fr S 10 t)) (at_ + (2 : Int32)).toNatClampNeg of_.toInt32) := nn_sai nnp_7
      refine lv_aload_n hx hb dPage_write_42 rfl (lv_at hl 0 rfl) ?_
      refine g_q FPage_9 hx hb hts hown hW k_t dPage_write_43 ?_
      rw [show fr (sai (sai (sai S (gd (fr S 10 t)) at_.toNatClampNeg kn) (gd (fr S 10 t)) (at_ + (1 : Int32)).toNatClampNeg nb) (gd (fr S 10 t)) (at_ + (2 : Int32)).toNatClampNeg of_.toInt32) 10 t = fr S 10 t from rfl]
      refine lv_iload_n hx hb dPage_write_46 rfl (lv_at hl 1 rfl) ?_
      refine lv_iconst (v := (3 : Int32)) hx hb dPage_write_47 (by decide) ?_
      refine lv_iadd hx hb dPage_write_48 ?_
      refine lv_lload hx hb dPage_write_49 (lv_at hl 5 rfl) ?_
      refine lv_l2i hx hb dPage_write_51 rfl ?_
      refine q_some2 n_3 ?_
      refine a_is (K := 11) (t0 := 0) (by decide) rfl hx hb hW kb_4 (vin_a 3 hat hlen (by omega) (by decide)) dPage_write_52 (fun H locs hW => ?_)
      have mo := mo.tr (mono_sai (a := (gd (fr S 10 t))) (i := (at_ + (3 : Int32)).toNatClampNeg) (v := vl.toInt32))
      have nnp_9 : nn (sai (sai (sai (sai S (gd (fr S 10 t)) at_.toNatClampNeg kn) (gd (fr S 10 t)) (at_ + (1 : Int32)).toNatClampNeg nb) (gd (fr S 10 t)) (at_ + (2 : Int32)).toNatClampNeg of_.toInt32) (gd (fr S 10 t)) (at_ + (3 : Int32)).toNatClampNeg vl.toInt32) := nn_sai nnp_8
      exact e_v hsz hx hb hr hlk hW (mo) (Nat.le_of_ble_eq_true rfl) (Nat.le_of_ble_eq_true rfl) dPage_write_53 (rfl)

def has_R (S : HS) (t : Nat) (i : Int32) : Int32 :=
  if i < 0 then
    (0 : Int32)
  else
    if (fi S 4 t) ≤ i then
      (0 : Int32)
    else
      (1 : Int32)
set_option maxRecDepth 20000 in
set_option maxHeartbeats 2000000 in
theorem c_has (l : Launch) (D : va_G) (AC : Nat → ClassId) (S : HS) (t : Nat) (i : Int32)  (k_t : kd S t = 4) : CtI l yNotes_has (Cond.code yNotes_has cNotes_has 2 (some .boolean) :: wT) 0 0 D AC S [.ref t, .int i] 0 0 (fun r S' => r = has_R S t i ∧ S' = S) := by
  refine met_of (by decide) (Nat.le_of_ble_eq_true rfl) ?_
  intro p e s m below meth c ls hsz X hW hl
  obtain ⟨hx, hb, hml, hr, hlk, hown, hnm, hts⟩ := X
  have hl : lv_has ls 2 [(0, .ref t), (1, .int i)] := hl
  have mo : mono S S := mono.rf S
  refine lv_iload_n hx hb dNotes_has_0 rfl (lv_at hl 1 rfl) ?_
  refine lv_if_lt (tgt := 16) hx hb dNotes_has_1 (by decide) (fun c_1 => ?_) (fun c_1 => ?_)
  · refine lv_iconst (v := (0 : Int32)) hx hb dNotes_has_16 (by decide) ?_
    exact e_z hsz hx hb hr hlk hW (mono.rf S) (Nat.le_of_ble_eq_true rfl) (Nat.le_of_ble_eq_true rfl) dNotes_has_17 (rfl) ⟨(by refine Eq.symm ?_; refine (if_pos c_1).trans ?_; rfl), rfl⟩
  · refine lv_iload_n hx hb dNotes_has_4 rfl (lv_at hl 1 rfl) ?_
    refine lv_aload_n hx hb dNotes_has_5 rfl (lv_at hl 0 rfl) ?_
    refine g_i FNotes_21 hx hb hts hown hW k_t dNotes_has_6 ?_
    refine lv_icmp_ge (tgt := 16) hx hb dNotes_has_9 (by decide) (fun c_2 => ?_) (fun c_2 => ?_)
    · refine lv_iconst (v := (0 : Int32)) hx hb dNotes_has_16 (by decide) ?_
      exact e_z hsz hx hb hr hlk hW (mono.rf S) (Nat.le_of_ble_eq_true rfl) (Nat.le_of_ble_eq_true rfl) dNotes_has_17 (rfl) ⟨(by refine Eq.symm ?_; refine (if_neg c_1).trans ?_; refine (if_pos c_2).trans ?_; rfl), rfl⟩
    · refine lv_iconst (v := (1 : Int32)) hx hb dNotes_has_12 (by decide) ?_
      refine lv_goto (tgt := 17) hx hb dNotes_has_13 (by decide) ?_
      exact e_z hsz hx hb hr hlk hW (mono.rf S) (Nat.le_of_ble_eq_true rfl) (Nat.le_of_ble_eq_true rfl) dNotes_has_17 (rfl) ⟨(by refine Eq.symm ?_; refine (if_neg c_1).trans ?_; refine (if_neg c_2).trans ?_; rfl), rfl⟩

theorem fnd_in {x cc : Int32} {n N len : Nat} (h : cc = nI n) (hn : n ≤ N) (hN : N < 2 ^ 31) (c1 : ¬ x < 1) (c2 : ¬ cc < x) (hl : len = N) : vp_in (x - 1) len := by
  subst h; subst hl
  rw [vp_in_iff]
  have h1 : (1 : Int32).toInt = 1 := rfl
  rw [Int32.lt_iff_toInt_lt, h1] at c1
  rw [Int32.lt_iff_toInt_lt, nI_toInt (by omega)] at c2
  have h2 : (x - 1).toInt = x.toInt - 1 := by
    rw [Int32.toInt_sub, h1]
    exact Int.bmod_eq_of_le (by omega) (by omega)
  rw [h2]
  omega
/-- the object's counts and arrays -/
def atOk (S : HS) (x : Nat) : Prop := (∃ n, n ≤ 20 ∧ fi S 10 x = nI n) ∧ (∃ n, n ≤ 100 ∧ fi S 11 x = nI n) ∧ (∃ n, n ≤ 20 ∧ fi S 12 x = nI n) ∧ an S (gd (fr S 18 x)) = 20 ∧ an S (gd (fr S 19 x)) = 100 ∧ an S (gd (fr S 20 x)) = 20

def findCounter_R (S : HS) (t : Nat) (n : Int32) : Option Nat :=
  if n < (1 : Int32) then
    none
  else
    if (fi S 10 t) < n then
      none
    else
      ar S (gd (fr S 18 t)) (n - (1 : Int32)).toNatClampNeg
set_option maxRecDepth 20000 in
set_option maxHeartbeats 2000000 in
theorem c_findCounter (l : Launch) (D : va_G) (AC : Nat → ClassId) (S : HS) (t : Nat) (n : Int32)  (k_t : kd S t = 8) (hn : nn S) (ha : atOk S t) : CtQ l yAT_findCounter (Cond.code yAT_findCounter cAT_findCounter 2 (some (.object "AlarmTables$Counter")) :: wT) 0 0 D AC S [.ref t, .int n] 0 0 (fun r S' => r = findCounter_R S t n ∧ S' = S) := by
  refine met_of (by decide) (Nat.le_of_ble_eq_true rfl) ?_
  intro p e s m below meth c ls hsz X hW hl
  obtain ⟨hx, hb, hml, hr, hlk, hown, hnm, hts⟩ := X
  have hl : lv_has ls 2 [(0, .ref t), (1, .int n)] := hl
  have mo : mono S S := mono.rf S
  refine lv_iload_n hx hb dAT_findCounter_0 rfl (lv_at hl 1 rfl) ?_
  refine lv_iconst (v := (1 : Int32)) hx hb dAT_findCounter_1 (by decide) ?_
  refine lv_icmp_lt (tgt := 24) hx hb dAT_findCounter_2 (by decide) (fun c_1 => ?_) (fun c_1 => ?_)
  · refine lv_null hx hb dAT_findCounter_24 ?_
    exact e_q (r := none) hsz hx hb hr hlk hW (mono.rf S) (Nat.le_of_ble_eq_true rfl) (Nat.le_of_ble_eq_true rfl) dAT_findCounter_25 ⟨(by refine Eq.symm ?_; refine (if_pos c_1).trans ?_; rfl), rfl⟩
  · refine lv_iload_n hx hb dAT_findCounter_5 rfl (lv_at hl 1 rfl) ?_
    refine lv_aload_n hx hb dAT_findCounter_6 rfl (lv_at hl 0 rfl) ?_
    refine g_i FAT_38 hx hb hts hown hW k_t dAT_findCounter_7 ?_
    refine lv_icmp_gt (tgt := 24) hx hb dAT_findCounter_10 (by decide) (fun c_2 => ?_) (fun c_2 => ?_)
    · refine lv_null hx hb dAT_findCounter_24 ?_
      exact e_q (r := none) hsz hx hb hr hlk hW (mono.rf S) (Nat.le_of_ble_eq_true rfl) (Nat.le_of_ble_eq_true rfl) dAT_findCounter_25 ⟨(by refine Eq.symm ?_; refine (if_neg c_1).trans ?_; refine (if_pos c_2).trans ?_; rfl), rfl⟩
    · refine lv_aload_n hx hb dAT_findCounter_13 rfl (lv_at hl 0 rfl) ?_
      have kq_3 : ∀ b, fr S 18 t = some b → kd S b = 14 := fun b h => hW.ok.2.1 18 t b k_t h
      refine g_q FAT_11 hx hb hts hown hW k_t dAT_findCounter_14 ?_
      refine lv_iload_n hx hb dAT_findCounter_17 rfl (lv_at hl 1 rfl) ?_
      refine lv_iconst (v := (1 : Int32)) hx hb dAT_findCounter_18 (by decide) ?_
      refine lv_isub hx hb dAT_findCounter_19 ?_
      have n_4 : fr S 18 t = some (gd (fr S 18 t)) := gd_some (hn 18 t rfl k_t)
      have kb_5 : kd S (gd (fr S 18 t)) = 14 := kq_3 (gd (fr S 18 t)) n_4
      refine q_some1 n_4 ?_
      have kq_6 : ∀ b, ar S (gd (fr S 18 t)) (n - (1 : Int32)).toNatClampNeg = some b → kd S b = 3 := fun b h => (hW.ok.2.2 (gd (fr S 18 t)) _ b (by rw [kb_5]; decide) h).trans (by rw [kb_5]; rfl)
      refine a_q (K := 14) (t0 := 3) (by decide) rfl hx hb hW kb_5 (fnd_in (Classical.choose_spec ha.1).2 (Classical.choose_spec ha.1).1 (by decide) c_1 c_2 ha.2.2.2.1) dAT_findCounter_20 ?_
      refine lv_goto (tgt := 25) hx hb dAT_findCounter_21 (by decide) ?_
      exact e_q (r := ar S (gd (fr S 18 t)) (n - (1 : Int32)).toNatClampNeg) hsz hx hb hr hlk hW (mono.rf S) (Nat.le_of_ble_eq_true rfl) (Nat.le_of_ble_eq_true rfl) dAT_findCounter_25 ⟨(by refine Eq.symm ?_; refine (if_neg c_1).trans ?_; refine (if_neg c_2).trans ?_; rfl), rfl⟩

theorem kq_findCounter {S : HS} {t : Nat} (h : hOk S) (k_t : kd S t = 8) (hn : nn S) (n : Int32) : ∀ b, findCounter_R S t n = some b → kd S b = 3 := by
  intro b hb
  have h1 := gd_some (hn 18 t rfl k_t)
  have h2 : kd S (gd (fr S 18 t)) = 14 := h.2.1 18 t _ k_t h1
  have h3 : ∀ j, ar S (gd (fr S 18 t)) j = some b → kd S b = 3 := fun j hj => (h.2.2 _ j b (by rw [h2]; decide) hj).trans (by rw [h2]; rfl)
  unfold findCounter_R at hb
  split at hb
  · cases hb
  · split at hb
    · cases hb
    · exact h3 _ hb

def findAlarm_R (S : HS) (t : Nat) (n : Int32) : Option Nat :=
  if n < (1 : Int32) then
    none
  else
    if (fi S 11 t) < n then
      none
    else
      ar S (gd (fr S 19 t)) (n - (1 : Int32)).toNatClampNeg
set_option maxRecDepth 20000 in
set_option maxHeartbeats 2000000 in
theorem c_findAlarm (l : Launch) (D : va_G) (AC : Nat → ClassId) (S : HS) (t : Nat) (n : Int32)  (k_t : kd S t = 8) (hn : nn S) (ha : atOk S t) : CtQ l yAT_findAlarm (Cond.code yAT_findAlarm cAT_findAlarm 2 (some (.object "AlarmTables$Alarm")) :: wT) 0 0 D AC S [.ref t, .int n] 0 0 (fun r S' => r = findAlarm_R S t n ∧ S' = S) := by
  refine met_of (by decide) (Nat.le_of_ble_eq_true rfl) ?_
  intro p e s m below meth c ls hsz X hW hl
  obtain ⟨hx, hb, hml, hr, hlk, hown, hnm, hts⟩ := X
  have hl : lv_has ls 2 [(0, .ref t), (1, .int n)] := hl
  have mo : mono S S := mono.rf S
  refine lv_iload_n hx hb dAT_findAlarm_0 rfl (lv_at hl 1 rfl) ?_
  refine lv_iconst (v := (1 : Int32)) hx hb dAT_findAlarm_1 (by decide) ?_
  refine lv_icmp_lt (tgt := 24) hx hb dAT_findAlarm_2 (by decide) (fun c_1 => ?_) (fun c_1 => ?_)
  · refine lv_null hx hb dAT_findAlarm_24 ?_
    exact e_q (r := none) hsz hx hb hr hlk hW (mono.rf S) (Nat.le_of_ble_eq_true rfl) (Nat.le_of_ble_eq_true rfl) dAT_findAlarm_25 ⟨(by refine Eq.symm ?_; refine (if_pos c_1).trans ?_; rfl), rfl⟩
  · refine lv_iload_n hx hb dAT_findAlarm_5 rfl (lv_at hl 1 rfl) ?_
    refine lv_aload_n hx hb dAT_findAlarm_6 rfl (lv_at hl 0 rfl) ?_
    refine g_i FAT_64 hx hb hts hown hW k_t dAT_findAlarm_7 ?_
    refine lv_icmp_gt (tgt := 24) hx hb dAT_findAlarm_10 (by decide) (fun c_2 => ?_) (fun c_2 => ?_)
    · refine lv_null hx hb dAT_findAlarm_24 ?_
      exact e_q (r := none) hsz hx hb hr hlk hW (mono.rf S) (Nat.le_of_ble_eq_true rfl) (Nat.le_of_ble_eq_true rfl) dAT_findAlarm_25 ⟨(by refine Eq.symm ?_; refine (if_neg c_1).trans ?_; refine (if_pos c_2).trans ?_; rfl), rfl⟩
    · refine lv_aload_n hx hb dAT_findAlarm_13 rfl (lv_at hl 0 rfl) ?_
      have kq_3 : ∀ b, fr S 19 t = some b → kd S b = 15 := fun b h => hW.ok.2.1 19 t b k_t h
      refine g_q FAT_17 hx hb hts hown hW k_t dAT_findAlarm_14 ?_
      refine lv_iload_n hx hb dAT_findAlarm_17 rfl (lv_at hl 1 rfl) ?_
      refine lv_iconst (v := (1 : Int32)) hx hb dAT_findAlarm_18 (by decide) ?_
      refine lv_isub hx hb dAT_findAlarm_19 ?_
      have n_4 : fr S 19 t = some (gd (fr S 19 t)) := gd_some (hn 19 t rfl k_t)
      have kb_5 : kd S (gd (fr S 19 t)) = 15 := kq_3 (gd (fr S 19 t)) n_4
      refine q_some1 n_4 ?_
      have kq_6 : ∀ b, ar S (gd (fr S 19 t)) (n - (1 : Int32)).toNatClampNeg = some b → kd S b = 2 := fun b h => (hW.ok.2.2 (gd (fr S 19 t)) _ b (by rw [kb_5]; decide) h).trans (by rw [kb_5]; rfl)
      refine a_q (K := 15) (t0 := 4) (by decide) rfl hx hb hW kb_5 (fnd_in (Classical.choose_spec ha.2.1).2 (Classical.choose_spec ha.2.1).1 (by decide) c_1 c_2 ha.2.2.2.2.1) dAT_findAlarm_20 ?_
      refine lv_goto (tgt := 25) hx hb dAT_findAlarm_21 (by decide) ?_
      exact e_q (r := ar S (gd (fr S 19 t)) (n - (1 : Int32)).toNatClampNeg) hsz hx hb hr hlk hW (mono.rf S) (Nat.le_of_ble_eq_true rfl) (Nat.le_of_ble_eq_true rfl) dAT_findAlarm_25 ⟨(by refine Eq.symm ?_; refine (if_neg c_1).trans ?_; refine (if_neg c_2).trans ?_; rfl), rfl⟩

theorem kq_findAlarm {S : HS} {t : Nat} (h : hOk S) (k_t : kd S t = 8) (hn : nn S) (n : Int32) : ∀ b, findAlarm_R S t n = some b → kd S b = 2 := by
  intro b hb
  have h1 := gd_some (hn 19 t rfl k_t)
  have h2 : kd S (gd (fr S 19 t)) = 15 := h.2.1 19 t _ k_t h1
  have h3 : ∀ j, ar S (gd (fr S 19 t)) j = some b → kd S b = 2 := fun j hj => (h.2.2 _ j b (by rw [h2]; decide) hj).trans (by rw [h2]; rfl)
  unfold findAlarm_R at hb
  split at hb
  · cases hb
  · split at hb
    · cases hb
    · exact h3 _ hb

def findTable_R (S : HS) (t : Nat) (n : Int32) : Option Nat :=
  if n < (1 : Int32) then
    none
  else
    if (fi S 12 t) < n then
      none
    else
      ar S (gd (fr S 20 t)) (n - (1 : Int32)).toNatClampNeg
set_option maxRecDepth 20000 in
set_option maxHeartbeats 2000000 in
theorem c_findTable (l : Launch) (D : va_G) (AC : Nat → ClassId) (S : HS) (t : Nat) (n : Int32)  (k_t : kd S t = 8) (hn : nn S) (ha : atOk S t) : CtQ l yAT_findTable (Cond.code yAT_findTable cAT_findTable 2 (some (.object "AlarmTables$Table")) :: wT) 0 0 D AC S [.ref t, .int n] 0 0 (fun r S' => r = findTable_R S t n ∧ S' = S) := by
  refine met_of (by decide) (Nat.le_of_ble_eq_true rfl) ?_
  intro p e s m below meth c ls hsz X hW hl
  obtain ⟨hx, hb, hml, hr, hlk, hown, hnm, hts⟩ := X
  have hl : lv_has ls 2 [(0, .ref t), (1, .int n)] := hl
  have mo : mono S S := mono.rf S
  refine lv_iload_n hx hb dAT_findTable_0 rfl (lv_at hl 1 rfl) ?_
  refine lv_iconst (v := (1 : Int32)) hx hb dAT_findTable_1 (by decide) ?_
  refine lv_icmp_lt (tgt := 24) hx hb dAT_findTable_2 (by decide) (fun c_1 => ?_) (fun c_1 => ?_)
  · refine lv_null hx hb dAT_findTable_24 ?_
    exact e_q (r := none) hsz hx hb hr hlk hW (mono.rf S) (Nat.le_of_ble_eq_true rfl) (Nat.le_of_ble_eq_true rfl) dAT_findTable_25 ⟨(by refine Eq.symm ?_; refine (if_pos c_1).trans ?_; rfl), rfl⟩
  · refine lv_iload_n hx hb dAT_findTable_5 rfl (lv_at hl 1 rfl) ?_
    refine lv_aload_n hx hb dAT_findTable_6 rfl (lv_at hl 0 rfl) ?_
    refine g_i FAT_114 hx hb hts hown hW k_t dAT_findTable_7 ?_
    refine lv_icmp_gt (tgt := 24) hx hb dAT_findTable_10 (by decide) (fun c_2 => ?_) (fun c_2 => ?_)
    · refine lv_null hx hb dAT_findTable_24 ?_
      exact e_q (r := none) hsz hx hb hr hlk hW (mono.rf S) (Nat.le_of_ble_eq_true rfl) (Nat.le_of_ble_eq_true rfl) dAT_findTable_25 ⟨(by refine Eq.symm ?_; refine (if_neg c_1).trans ?_; refine (if_pos c_2).trans ?_; rfl), rfl⟩
    · refine lv_aload_n hx hb dAT_findTable_13 rfl (lv_at hl 0 rfl) ?_
      have kq_3 : ∀ b, fr S 20 t = some b → kd S b = 16 := fun b h => hW.ok.2.1 20 t b k_t h
      refine g_q FAT_23 hx hb hts hown hW k_t dAT_findTable_14 ?_
      refine lv_iload_n hx hb dAT_findTable_17 rfl (lv_at hl 1 rfl) ?_
      refine lv_iconst (v := (1 : Int32)) hx hb dAT_findTable_18 (by decide) ?_
      refine lv_isub hx hb dAT_findTable_19 ?_
      have n_4 : fr S 20 t = some (gd (fr S 20 t)) := gd_some (hn 20 t rfl k_t)
      have kb_5 : kd S (gd (fr S 20 t)) = 16 := kq_3 (gd (fr S 20 t)) n_4
      refine q_some1 n_4 ?_
      have kq_6 : ∀ b, ar S (gd (fr S 20 t)) (n - (1 : Int32)).toNatClampNeg = some b → kd S b = 7 := fun b h => (hW.ok.2.2 (gd (fr S 20 t)) _ b (by rw [kb_5]; decide) h).trans (by rw [kb_5]; rfl)
      refine a_q (K := 16) (t0 := 5) (by decide) rfl hx hb hW kb_5 (fnd_in (Classical.choose_spec ha.2.2.1).2 (Classical.choose_spec ha.2.2.1).1 (by decide) c_1 c_2 ha.2.2.2.2.2) dAT_findTable_20 ?_
      refine lv_goto (tgt := 25) hx hb dAT_findTable_21 (by decide) ?_
      exact e_q (r := ar S (gd (fr S 20 t)) (n - (1 : Int32)).toNatClampNeg) hsz hx hb hr hlk hW (mono.rf S) (Nat.le_of_ble_eq_true rfl) (Nat.le_of_ble_eq_true rfl) dAT_findTable_25 ⟨(by refine Eq.symm ?_; refine (if_neg c_1).trans ?_; refine (if_neg c_2).trans ?_; rfl), rfl⟩

theorem kq_findTable {S : HS} {t : Nat} (h : hOk S) (k_t : kd S t = 8) (hn : nn S) (n : Int32) : ∀ b, findTable_R S t n = some b → kd S b = 7 := by
  intro b hb
  have h1 := gd_some (hn 20 t rfl k_t)
  have h2 : kd S (gd (fr S 20 t)) = 16 := h.2.1 20 t _ k_t h1
  have h3 : ∀ j, ar S (gd (fr S 20 t)) j = some b → kd S b = 7 := fun j hj => (h.2.2 _ j b (by rw [h2]; decide) hj).trans (by rw [h2]; rfl)
  unfold findTable_R at hb
  split at hb
  · cases hb
  · split at hb
    · cases hb
    · exact h3 _ hb

def wouldCircle_R (S : HS) (o : Nat) (c0 : Option Nat) : Int32 :=
  opc c0 ((0 : Int32))
  (fun b_1 => if (some b_1) = (some o) then
      (1 : Int32)
    else
      if ((fi S 3 b_1) &&& (fi S 2 o)) = 0 then
        (0 : Int32)
      else
        (1 : Int32))
set_option maxRecDepth 20000 in
set_option maxHeartbeats 2000000 in
theorem c_wouldCircle (l : Launch) (D : va_G) (AC : Nat → ClassId) (S : HS) (o : Nat) (c0 : Option Nat)  (k_o : kd S o = 3) (kq_c0 : ∀ b, c0 = some b → kd S b = 3) : CtI l yAT_wouldCircle (Cond.code yAT_wouldCircle cAT_wouldCircle 2 (some .boolean) :: wT) 0 0 D AC S [.ref o, va_rf c0] 0 0 (fun r S' => r = wouldCircle_R S o c0 ∧ S' = S) := by
  refine met_of (by decide) (by simp [lg_sl, q_cat, cat_r, cat_i, cat_l]) ?_
  intro p e s m below meth c ls hsz X hW hl
  obtain ⟨hx, hb, hml, hr, hlk, hown, hnm, hts⟩ := X
  have hl : lv_has ls 2 [(0, .ref o), (1, va_rf c0)] := by simpa [lv_args, q_cat, cat_r, cat_i, cat_l] using hl
  have mo : mono S S := mono.rf S
  refine q_aload_n hx hb dAT_wouldCircle_0 rfl (lv_at hl 1 rfl) ?_
  refine q_ifnull (tgt := 25) hx hb dAT_wouldCircle_1 (by decide) (fun n_1 => ?_) (fun b_1 n_1 => ?_)
  · refine lv_iconst (v := (0 : Int32)) hx hb dAT_wouldCircle_25 (by decide) ?_
    exact e_z hsz hx hb hr hlk hW (mono.rf S) (Nat.le_of_ble_eq_true rfl) (Nat.le_of_ble_eq_true rfl) dAT_wouldCircle_26 (rfl) ⟨(by refine Eq.symm ?_; refine (op_none n_1).trans ?_; rfl), rfl⟩
  · have k_b_1 : kd S b_1 = 3 := kq_c0 b_1 n_1
    refine q_aload_n hx hb dAT_wouldCircle_4 rfl (lv_at hl 1 rfl) ?_
    refine lv_aload_n hx hb dAT_wouldCircle_5 rfl (lv_at hl 0 rfl) ?_
    refine q_some1 n_1 ?_
    refine lv_acmp_eq (rx := some b_1) (ry := some o) (tgt := 21) hx hb dAT_wouldCircle_6 (by decide) (fun c_2 => ?_) (fun c_2 => ?_)
    · refine lv_iconst (v := (1 : Int32)) hx hb dAT_wouldCircle_21 (by decide) ?_
      refine lv_goto (tgt := 26) hx hb dAT_wouldCircle_22 (by decide) ?_
      exact e_z hsz hx hb hr hlk hW (mono.rf S) (Nat.le_of_ble_eq_true rfl) (Nat.le_of_ble_eq_true rfl) dAT_wouldCircle_26 (rfl) ⟨(by refine Eq.symm ?_; refine (op_some n_1).trans ?_; refine (if_pos c_2).trans ?_; rfl), rfl⟩
    · refine q_aload_n hx hb dAT_wouldCircle_9 rfl (lv_at hl 1 rfl) ?_
      refine q_some n_1 ?_
      refine g_i FAT_200 hx hb hts hown hW k_b_1 dAT_wouldCircle_10 ?_
      refine lv_aload_n hx hb dAT_wouldCircle_13 rfl (lv_at hl 0 rfl) ?_
      refine g_i FAT_203 hx hb hts hown hW k_o dAT_wouldCircle_14 ?_
      refine lv_iand hx hb dAT_wouldCircle_17 ?_
      refine lv_if_eq (tgt := 25) hx hb dAT_wouldCircle_18 (by decide) (fun c_3 => ?_) (fun c_3 => ?_)
      · refine lv_iconst (v := (0 : Int32)) hx hb dAT_wouldCircle_25 (by decide) ?_
        exact e_z hsz hx hb hr hlk hW (mono.rf S) (Nat.le_of_ble_eq_true rfl) (Nat.le_of_ble_eq_true rfl) dAT_wouldCircle_26 (rfl) ⟨(by refine Eq.symm ?_; refine (op_some n_1).trans ?_; refine (if_neg c_2).trans ?_; refine (if_pos c_3).trans ?_; rfl), rfl⟩
      · refine lv_iconst (v := (1 : Int32)) hx hb dAT_wouldCircle_21 (by decide) ?_
        refine lv_goto (tgt := 26) hx hb dAT_wouldCircle_22 (by decide) ?_
        exact e_z hsz hx hb hr hlk hW (mono.rf S) (Nat.le_of_ble_eq_true rfl) (Nat.le_of_ble_eq_true rfl) dAT_wouldCircle_26 (rfl) ⟨(by refine Eq.symm ?_; refine (op_some n_1).trans ?_; refine (if_neg c_2).trans ?_; refine (if_neg c_3).trans ?_; rfl), rfl⟩

def cancel_R (S : HS) (t : Nat) (n : Int32) : Int32 :=
  opc (findAlarm_R S t n) ((-1 : Int32))
  (fun b_3 => if (fi S 1 b_3) = 0 then
      (5 : Int32)
    else
      (1 : Int32))
def cancel_S (S : HS) (t : Nat) (n : Int32) : HS :=
  opc (findAlarm_R S t n) (S)
  (fun b_3 => if (fi S 1 b_3) = 0 then
      S
    else
      (sfi S 1 b_3 (0 : Int32)))
set_option maxRecDepth 20000 in
set_option maxHeartbeats 2000000 in
theorem c_cancel (l : Launch) (D : va_G) (AC : Nat → ClassId) (S : HS) (t : Nat) (n : Int32)  (k_t : kd S t = 8) (hn : nn S) (ha : atOk S t) : CtI l yAT_cancel (Cond.code yAT_cancel cAT_cancel 3 (some .int) :: wT) 1 24 D AC S [.ref t, .int n] 0 0 (fun r S' => r = cancel_R S t n ∧ S' = cancel_S S t n) := by
  refine met_of (by decide) (Nat.le_of_ble_eq_true rfl) ?_
  intro p e s m below meth c ls hsz X hW hl
  obtain ⟨hx, hb, hml, hr, hlk, hown, hnm, hts⟩ := X
  have hl : lv_has ls 3 [(0, .ref t), (1, .int n)] := hl
  have mo : mono S S := mono.rf S
  refine lv_aload_n hx hb dAT_cancel_0 rfl (lv_at hl 0 rfl) ?_
  refine lv_iload_n hx hb dAT_cancel_1 rfl (lv_at hl 1 rfl) ?_
  refine k_Vq (As := [.int n]) (rest := []) (c_findAlarm l D AC S t n k_t hn ha) CAT_67 ⟨by decide, by decide, _, rfl, rfl⟩ hx hb hml hown hts hW k_t hl.1 rfl rfl (Nat.le_of_ble_eq_true rfl) ⟨⟨Nat.le_of_ble_eq_true rfl, Nat.le_of_ble_eq_true rfl⟩, ⟨Nat.le_of_ble_eq_true rfl, Nat.le_of_ble_eq_true rfl⟩⟩ dAT_cancel_2 (fun r_1 S_1 H locs e_1 hW m_1 _ => ?_)
  obtain ⟨e1_1, e2_1⟩ := e_1
  rw [e2_1] at hW m_1
  rw [e1_1]
  have kq_2 : ∀ b, (findAlarm_R S t n) = some b → kd S b = 2 := kq_findAlarm hW.ok k_t hn _
  refine q_astore_n (i := 2) (lv' := [(2, va_rf (findAlarm_R S t n)), (0, .ref t), (1, .int n)]) hx hb dAT_cancel_5 rfl hl (by decide) rfl (fun ls hl => ?_)
  refine q_aload_n hx hb dAT_cancel_6 rfl (lv_at hl 0 rfl) ?_
  refine q_ifnonnull (tgt := 12) hx hb dAT_cancel_7 (by decide) (fun n_3 => ?_) (fun b_3 n_3 => ?_)
  · refine lv_iconst (v := (-1 : Int32)) hx hb dAT_cancel_10 (by decide) ?_
    exact e_i hsz hx hb hr hlk hW (mono.rf S) (Nat.le_of_ble_eq_true rfl) (Nat.le_of_ble_eq_true rfl) dAT_cancel_11 ⟨(by refine Eq.symm ?_; refine (op_none n_3).trans ?_; rfl), (by refine Eq.symm ?_; refine (op_none n_3).trans ?_; rfl)⟩
  · have k_b_3 : kd S b_3 = 2 := kq_2 b_3 n_3
    refine q_aload_n hx hb dAT_cancel_12 rfl (lv_at hl 0 rfl) ?_
    refine q_some n_3 ?_
    refine g_i FAT_87 hx hb hts hown hW k_b_3 dAT_cancel_13 ?_
    refine lv_if_ne (tgt := 21) hx hb dAT_cancel_16 (by decide) (fun c_4 => ?_) (fun c_4 => ?_)
    · refine q_aload_n hx hb dAT_cancel_21 rfl (lv_at hl 0 rfl) ?_
      refine lv_iconst (v := (0 : Int32)) hx hb dAT_cancel_22 (by decide) ?_
      refine q_some1 n_3 ?_
      refine p_i FAT_87 GAlarm_isSet (fun h => by cases h) hx hb hts hown hW k_b_3 rfl rfl dAT_cancel_23 (fun H locs hW => ?_)
      have mo := mo.tr (mono_sfi (k := 1) (a := b_3) (v := (0 : Int32)))
      have nnp_5 : nn (sfi S 1 b_3 (0 : Int32)) := nn_sfi hn
      refine lv_iconst (v := (1 : Int32)) hx hb dAT_cancel_26 (by decide) ?_
      exact e_i hsz hx hb hr hlk hW (mo) (Nat.le_of_ble_eq_true rfl) (Nat.le_of_ble_eq_true rfl) dAT_cancel_27 ⟨(by refine Eq.symm ?_; refine (op_some n_3).trans ?_; refine (if_neg c_4).trans ?_; rfl), (by refine Eq.symm ?_; refine (op_some n_3).trans ?_; refine (if_neg c_4).trans ?_; rfl)⟩
    · refine lv_iconst (v := (5 : Int32)) hx hb dAT_cancel_19 (by decide) ?_
      exact e_i hsz hx hb hr hlk hW (mono.rf S) (Nat.le_of_ble_eq_true rfl) (Nat.le_of_ble_eq_true rfl) dAT_cancel_20 ⟨(by refine Eq.symm ?_; refine (op_some n_3).trans ?_; refine (if_pos c_4).trans ?_; rfl), (by refine Eq.symm ?_; refine (op_some n_3).trans ?_; refine (if_pos c_4).trans ?_; rfl)⟩

def set_R (S : HS) (t : Nat) (n : Int32) (at_ : Int64) (cy : Int64) (ab : Int32) : Int32 :=
  opc (findAlarm_R S t n) ((-1 : Int32))
  (fun b_3 => if (fi S 1 b_3) = 0 then
      if ab = 0 then
        if at_ < ((1 : Int32).toInt64) then
          (3 : Int32)
        else
          if at_ < (fl S 2 (gd (fr S 2 b_3))) then
            if cy = (0 : Int64) then
              if ab = 0 then
                (1 : Int32)
              else
                (1 : Int32)
            else
              if cy < (2 : Int64) then
                (4 : Int32)
              else
                if (fl S 2 (gd (fr S 2 b_3))) < cy then
                  (4 : Int32)
                else
                  if ab = 0 then
                    (1 : Int32)
                  else
                    (1 : Int32)
          else
            (3 : Int32)
      else
        if at_ < ((0 : Int32).toInt64) then
          (3 : Int32)
        else
          if at_ < (fl S 2 (gd (fr S 2 b_3))) then
            if cy = (0 : Int64) then
              if ab = 0 then
                (1 : Int32)
              else
                (1 : Int32)
            else
              if cy < (2 : Int64) then
                (4 : Int32)
              else
                if (fl S 2 (gd (fr S 2 b_3))) < cy then
                  (4 : Int32)
                else
                  if ab = 0 then
                    (1 : Int32)
                  else
                    (1 : Int32)
          else
            (3 : Int32)
    else
      (2 : Int32))
def set_S (S : HS) (t : Nat) (n : Int32) (at_ : Int64) (cy : Int64) (ab : Int32) : HS :=
  opc (findAlarm_R S t n) (S)
  (fun b_3 => if (fi S 1 b_3) = 0 then
      if ab = 0 then
        if at_ < ((1 : Int32).toInt64) then
          S
        else
          if at_ < (fl S 2 (gd (fr S 2 b_3))) then
            if cy = (0 : Int64) then
              if ab = 0 then
                (becomeDue_S (sfl (sfi S 1 b_3 (1 : Int32)) 1 b_3 cy) b_3 at_)
              else
                (becomeDue_S (sfl (sfi S 1 b_3 (1 : Int32)) 1 b_3 cy) b_3 (stepsUntil_R (sfl (sfi S 1 b_3 (1 : Int32)) 1 b_3 cy) (gd (fr S 2 b_3)) at_))
            else
              if cy < (2 : Int64) then
                S
              else
                if (fl S 2 (gd (fr S 2 b_3))) < cy then
                  S
                else
                  if ab = 0 then
                    (becomeDue_S (sfl (sfi S 1 b_3 (1 : Int32)) 1 b_3 cy) b_3 at_)
                  else
                    (becomeDue_S (sfl (sfi S 1 b_3 (1 : Int32)) 1 b_3 cy) b_3 (stepsUntil_R (sfl (sfi S 1 b_3 (1 : Int32)) 1 b_3 cy) (gd (fr S 2 b_3)) at_))
          else
            S
      else
        if at_ < ((0 : Int32).toInt64) then
          S
        else
          if at_ < (fl S 2 (gd (fr S 2 b_3))) then
            if cy = (0 : Int64) then
              if ab = 0 then
                (becomeDue_S (sfl (sfi S 1 b_3 (1 : Int32)) 1 b_3 cy) b_3 at_)
              else
                (becomeDue_S (sfl (sfi S 1 b_3 (1 : Int32)) 1 b_3 cy) b_3 (stepsUntil_R (sfl (sfi S 1 b_3 (1 : Int32)) 1 b_3 cy) (gd (fr S 2 b_3)) at_))
            else
              if cy < (2 : Int64) then
                S
              else
                if (fl S 2 (gd (fr S 2 b_3))) < cy then
                  S
                else
                  if ab = 0 then
                    (becomeDue_S (sfl (sfi S 1 b_3 (1 : Int32)) 1 b_3 cy) b_3 at_)
                  else
                    (becomeDue_S (sfl (sfi S 1 b_3 (1 : Int32)) 1 b_3 cy) b_3 (stepsUntil_R (sfl (sfi S 1 b_3 (1 : Int32)) 1 b_3 cy) (gd (fr S 2 b_3)) at_))
          else
            S
    else
      S)
set_option maxRecDepth 20000 in
set_option maxHeartbeats 2000000 in
theorem c_set (l : Launch) (D : va_G) (AC : Nat → ClassId) (S : HS) (t : Nat) (n : Int32) (at_ : Int64) (cy : Int64) (ab : Int32)  (k_t : kd S t = 8) (hn : nn S) (ha : atOk S t) : CtI l yAT_set (Cond.code yAT_set cAT_set 10 (some .int) :: wT) 3 80 D AC S [.ref t, .int n, .long at_, .long cy, .int ab] 0 0 (fun r S' => r = set_R S t n at_ cy ab ∧ S' = set_S S t n at_ cy ab) := by
  refine met_of (by decide) (Nat.le_of_ble_eq_true rfl) ?_
  intro p e s m below meth c ls hsz X hW hl
  obtain ⟨hx, hb, hml, hr, hlk, hown, hnm, hts⟩ := X
  have hl : lv_has ls 10 [(0, .ref t), (1, .int n), (2, .long at_), (4, .long cy), (6, .int ab)] := hl
  have mo : mono S S := mono.rf S
  refine lv_aload_n hx hb dAT_set_0 rfl (lv_at hl 0 rfl) ?_
  refine lv_iload_n hx hb dAT_set_1 rfl (lv_at hl 1 rfl) ?_
  refine k_Vq (As := [.int n]) (rest := []) (c_findAlarm l D AC S t n k_t hn ha) CAT_67 ⟨by decide, by decide, _, rfl, rfl⟩ hx hb hml hown hts hW k_t hl.1 rfl rfl (Nat.le_of_ble_eq_true rfl) ⟨⟨Nat.le_of_ble_eq_true rfl, Nat.le_of_ble_eq_true rfl⟩, ⟨Nat.le_of_ble_eq_true rfl, Nat.le_of_ble_eq_true rfl⟩⟩ dAT_set_2 (fun r_1 S_1 H locs e_1 hW m_1 _ => ?_)
  obtain ⟨e1_1, e2_1⟩ := e_1
  rw [e2_1] at hW m_1
  rw [e1_1]
  have kq_2 : ∀ b, (findAlarm_R S t n) = some b → kd S b = 2 := kq_findAlarm hW.ok k_t hn _
  refine q_astore (lv' := [(7, va_rf (findAlarm_R S t n)), (0, .ref t), (1, .int n), (2, .long at_), (4, .long cy), (6, .int ab)]) hx hb dAT_set_5 hl (by decide) rfl (fun ls hl => ?_)
  refine q_aload hx hb dAT_set_7 (lv_at hl 0 rfl) ?_
  refine q_ifnonnull (tgt := 14) hx hb dAT_set_9 (by decide) (fun n_3 => ?_) (fun b_3 n_3 => ?_)
  · refine lv_iconst (v := (-1 : Int32)) hx hb dAT_set_12 (by decide) ?_
    exact e_i hsz hx hb hr hlk hW (mono.rf S) (Nat.le_of_ble_eq_true rfl) (Nat.le_of_ble_eq_true rfl) dAT_set_13 ⟨(by refine Eq.symm ?_; refine (op_none n_3).trans ?_; rfl), (by refine Eq.symm ?_; refine (op_none n_3).trans ?_; rfl)⟩
  · have k_b_3 : kd S b_3 = 2 := kq_2 b_3 n_3
    refine q_aload hx hb dAT_set_14 (lv_at hl 0 rfl) ?_
    refine q_some n_3 ?_
    refine g_i FAT_87 hx hb hts hown hW k_b_3 dAT_set_16 ?_
    refine lv_if_eq (tgt := 24) hx hb dAT_set_19 (by decide) (fun c_4 => ?_) (fun c_4 => ?_)
    · refine q_aload hx hb dAT_set_24 (lv_at hl 0 rfl) ?_
      refine q_some n_3 ?_
      have kq_5 : ∀ b, fr S 2 b_3 = some b → kd S b = 3 := fun b h => hW.ok.2.1 2 b_3 b k_b_3 h
      refine g_q FAT_91 hx hb hts hown hW k_b_3 dAT_set_26 ?_
      have n_6 : fr S 2 b_3 = some (gd (fr S 2 b_3)) := gd_some (hn 2 b_3 rfl k_b_3)
      have kb_7 : kd S (gd (fr S 2 b_3)) = 3 := kq_5 (gd (fr S 2 b_3)) n_6
      refine q_some n_6 ?_
      refine g_l FAT_95 hx hb hts hown hW kb_7 dAT_set_29 ?_
      refine lv_lstore (lv' := [(8, .long (fl S 2 (gd (fr S 2 b_3)))), (7, va_rf (findAlarm_R S t n)), (0, .ref t), (1, .int n), (2, .long at_), (4, .long cy), (6, .int ab)]) hx hb dAT_set_32 hl (by decide) (by simp [q_cat, cat_r, cat_i, cat_l, cat_n]) (fun ls hl => ?_)
      refine lv_lload_n hx hb dAT_set_34 rfl (lv_at hl 4 rfl) ?_
      refine lv_iload hx hb dAT_set_35 (lv_at hl 6 rfl) ?_
      refine lv_if_eq (tgt := 44) hx hb dAT_set_37 (by decide) (fun c_8 => ?_) (fun c_8 => ?_)
      · refine lv_iconst (v := (1 : Int32)) hx hb dAT_set_44 (by decide) ?_
        refine lv_i2l hx hb dAT_set_45 rfl ?_
        refine ll_lt (tgt := 57) hx hb dAT_set_46 dAT_set_47 (by decide) (fun c_9 => ?_) (fun c_9 => ?_)
        · refine lv_iconst (v := (3 : Int32)) hx hb dAT_set_57 (by decide) ?_
          exact e_i hsz hx hb hr hlk hW (mono.rf S) (Nat.le_of_ble_eq_true rfl) (Nat.le_of_ble_eq_true rfl) dAT_set_58 ⟨(by refine Eq.symm ?_; refine (op_some n_3).trans ?_; refine (if_pos c_4).trans ?_; refine (if_pos c_8).trans ?_; refine (if_pos c_9).trans ?_; rfl), (by refine Eq.symm ?_; refine (op_some n_3).trans ?_; refine (if_pos c_4).trans ?_; refine (if_pos c_8).trans ?_; refine (if_pos c_9).trans ?_; rfl)⟩
        · refine lv_lload_n hx hb dAT_set_50 rfl (lv_at hl 4 rfl) ?_
          refine lv_lload hx hb dAT_set_51 (lv_at hl 0 rfl) ?_
          refine ll_lt (tgt := 59) hx hb dAT_set_53 dAT_set_54 (by decide) (fun c_10 => ?_) (fun c_10 => ?_)
          · refine lv_lload hx hb dAT_set_59 (lv_at hl 5 rfl) ?_
            refine lv_lconst (v := (0 : Int64)) hx hb dAT_set_61 (by decide) ?_
            refine ll_eq (tgt := 85) hx hb dAT_set_62 dAT_set_63 (by decide) (fun c_11 => ?_) (fun c_11 => ?_)
            · refine q_aload hx hb dAT_set_85 (lv_at hl 1 rfl) ?_
              refine lv_iconst (v := (1 : Int32)) hx hb dAT_set_87 (by decide) ?_
              refine q_some1 n_3 ?_
              refine p_i FAT_87 GAlarm_isSet (fun h => by cases h) hx hb hts hown hW k_b_3 rfl rfl dAT_set_88 (fun H locs hW => ?_)
              have mo := mo.tr (mono_sfi (k := 1) (a := b_3) (v := (1 : Int32)))
              have nnp_12 : nn (sfi S 1 b_3 (1 : Int32)) := nn_sfi hn
              refine q_aload hx hb dAT_set_91 (lv_at hl 1 rfl) ?_
              refine lv_lload hx hb dAT_set_93 (lv_at hl 5 rfl) ?_
              refine q_some1 n_3 ?_
              refine p_l FAT_101 GAlarm_cycle (fun h => by cases h) hx hb hts hown hW k_b_3 dAT_set_95 (fun H locs hW => ?_)
              have mo := mo.tr (mono_sfl (k := 1) (a := b_3) (v := cy))
              have nnp_13 : nn (sfl (sfi S 1 b_3 (1 : Int32)) 1 b_3 cy) := nn_sfl nnp_12
              refine q_aload hx hb dAT_set_98 (lv_at hl 1 rfl) ?_
              refine lv_iload hx hb dAT_set_100 (lv_at hl 6 rfl) ?_
              refine lv_if_eq (tgt := 117) hx hb dAT_set_102 (by decide) (fun c_14 => ?_) (fun c_14 => ?_)
              · refine lv_lload_n hx hb dAT_set_117 rfl (lv_at hl 4 rfl) ?_
                refine q_some1 n_3 ?_
                refine k_Vv (As := [.long at_]) (rest := []) (c_becomeDue l D AC (sfl (sfi S 1 b_3 (1 : Int32)) 1 b_3 cy) b_3 at_ k_b_3 nnp_13) CAT_108 ⟨by decide, by decide, _, rfl, rfl⟩ hx hb hml hown hts hW k_b_3 hl.1 rfl rfl (Nat.le_of_ble_eq_true rfl) ⟨⟨Nat.le_of_ble_eq_true rfl, Nat.le_of_ble_eq_true rfl⟩, ⟨Nat.le_of_ble_eq_true rfl, Nat.le_of_ble_eq_true rfl⟩⟩ dAT_set_118 (fun S_15 H locs e_15 hW m_15 _ => ?_)
                rw [e_15] at hW m_15
                have k_t := m_15.k k_t (by decide)
                have k_b_3 := m_15.k k_b_3 (by decide)
                have kb_7 := m_15.k kb_7 (by decide)
                have kq_2 := fun b h => m_15.k (kq_2 b h) (by decide)
                have kq_5 := fun b h => m_15.k (kq_5 b h) (by decide)
                have mo := mo.tr m_15
                have nnp_16 : nn (becomeDue_S (sfl (sfi S 1 b_3 (1 : Int32)) 1 b_3 cy) b_3 at_) := nn_becomeDue nnp_13
                refine lv_iconst (v := (1 : Int32)) hx hb dAT_set_121 (by decide) ?_
                exact e_i hsz hx hb hr hlk hW (mo) (Nat.le_of_ble_eq_true rfl) (Nat.le_of_ble_eq_true rfl) dAT_set_122 ⟨(by refine Eq.symm ?_; refine (op_some n_3).trans ?_; refine (if_pos c_4).trans ?_; refine (if_pos c_8).trans ?_; refine (if_neg c_9).trans ?_; refine (if_pos c_10).trans ?_; refine (if_pos c_11).trans ?_; refine (if_pos c_14).trans ?_; rfl), (by refine Eq.symm ?_; refine (op_some n_3).trans ?_; refine (if_pos c_4).trans ?_; refine (if_pos c_8).trans ?_; refine (if_neg c_9).trans ?_; refine (if_pos c_10).trans ?_; refine (if_pos c_11).trans ?_; refine (if_pos c_14).trans ?_; rfl)⟩
              · refine q_aload hx hb dAT_set_105 (lv_at hl 1 rfl) ?_
                refine q_some n_3 ?_
                refine g_q FAT_91 hx hb hts hown hW k_b_3 dAT_set_107 ?_
                rw [show fr (sfl (sfi S 1 b_3 (1 : Int32)) 1 b_3 cy) 2 b_3 = fr S 2 b_3 from rfl]
                refine lv_lload_n hx hb dAT_set_110 rfl (lv_at hl 4 rfl) ?_
                refine q_some1 n_6 ?_
                refine k_Vl (As := [.long at_]) (rest := [va_rf (findAlarm_R S t n)]) (c_stepsUntil l D AC (sfl (sfi S 1 b_3 (1 : Int32)) 1 b_3 cy) (gd (fr S 2 b_3)) at_ kb_7) CAT_104 ⟨by decide, by decide, _, rfl, rfl⟩ hx hb hml hown hts hW kb_7 hl.1 rfl rfl (by simp [q_cat, cat_r, cat_i, cat_l, cat_n]) ⟨⟨Nat.le_of_ble_eq_true rfl, Nat.le_of_ble_eq_true rfl⟩, ⟨Nat.le_of_ble_eq_true rfl, Nat.le_of_ble_eq_true rfl⟩⟩ dAT_set_111 (fun r_17 S_17 H locs e_17 hW m_17 _ => ?_)
                obtain ⟨e1_17, e2_17⟩ := e_17
                rw [e2_17] at hW m_17
                rw [e1_17]
                refine lv_goto (tgt := 118) hx hb dAT_set_114 (by decide) ?_
                refine q_some1 n_3 ?_
                refine k_Vv (As := [.long (stepsUntil_R (sfl (sfi S 1 b_3 (1 : Int32)) 1 b_3 cy) (gd (fr S 2 b_3)) at_)]) (rest := []) (c_becomeDue l D AC (sfl (sfi S 1 b_3 (1 : Int32)) 1 b_3 cy) b_3 (stepsUntil_R (sfl (sfi S 1 b_3 (1 : Int32)) 1 b_3 cy) (gd (fr S 2 b_3)) at_) k_b_3 nnp_13) CAT_108 ⟨by decide, by decide, _, rfl, rfl⟩ hx hb hml hown hts hW k_b_3 hl.1 rfl rfl (Nat.le_of_ble_eq_true rfl) ⟨⟨Nat.le_of_ble_eq_true rfl, Nat.le_of_ble_eq_true rfl⟩, ⟨Nat.le_of_ble_eq_true rfl, Nat.le_of_ble_eq_true rfl⟩⟩ dAT_set_118 (fun S_18 H locs e_18 hW m_18 _ => ?_)
                rw [e_18] at hW m_18
                have k_t := m_18.k k_t (by decide)
                have k_b_3 := m_18.k k_b_3 (by decide)
                have kb_7 := m_18.k kb_7 (by decide)
                have kq_2 := fun b h => m_18.k (kq_2 b h) (by decide)
                have kq_5 := fun b h => m_18.k (kq_5 b h) (by decide)
                have mo := mo.tr m_18
                have nnp_19 : nn (becomeDue_S (sfl (sfi S 1 b_3 (1 : Int32)) 1 b_3 cy) b_3 (stepsUntil_R (sfl (sfi S 1 b_3 (1 : Int32)) 1 b_3 cy) (gd (fr S 2 b_3)) at_)) := nn_becomeDue nnp_13
                refine lv_iconst (v := (1 : Int32)) hx hb dAT_set_121 (by decide) ?_
                exact e_i hsz hx hb hr hlk hW (mo) (Nat.le_of_ble_eq_true rfl) (Nat.le_of_ble_eq_true rfl) dAT_set_122 ⟨(by refine Eq.symm ?_; refine (op_some n_3).trans ?_; refine (if_pos c_4).trans ?_; refine (if_pos c_8).trans ?_; refine (if_neg c_9).trans ?_; refine (if_pos c_10).trans ?_; refine (if_pos c_11).trans ?_; refine (if_neg c_14).trans ?_; rfl), (by refine Eq.symm ?_; refine (op_some n_3).trans ?_; refine (if_pos c_4).trans ?_; refine (if_pos c_8).trans ?_; refine (if_neg c_9).trans ?_; refine (if_pos c_10).trans ?_; refine (if_pos c_11).trans ?_; refine (if_neg c_14).trans ?_; rfl)⟩
            · refine lv_lload hx hb dAT_set_66 (lv_at hl 5 rfl) ?_
              refine lv_ldc2 (v := (2 : Int64)) hx hb hown (hts _ QAT_99) dAT_set_68 ?_
              refine ll_lt (tgt := 83) hx hb dAT_set_71 dAT_set_72 (by decide) (fun c_20 => ?_) (fun c_20 => ?_)
              · refine lv_iconst (v := (4 : Int32)) hx hb dAT_set_83 (by decide) ?_
                exact e_i hsz hx hb hr hlk hW (mono.rf S) (Nat.le_of_ble_eq_true rfl) (Nat.le_of_ble_eq_true rfl) dAT_set_84 ⟨(by refine Eq.symm ?_; refine (op_some n_3).trans ?_; refine (if_pos c_4).trans ?_; refine (if_pos c_8).trans ?_; refine (if_neg c_9).trans ?_; refine (if_pos c_10).trans ?_; refine (if_neg c_11).trans ?_; refine (if_pos c_20).trans ?_; rfl), (by refine Eq.symm ?_; refine (op_some n_3).trans ?_; refine (if_pos c_4).trans ?_; refine (if_pos c_8).trans ?_; refine (if_neg c_9).trans ?_; refine (if_pos c_10).trans ?_; refine (if_neg c_11).trans ?_; refine (if_pos c_20).trans ?_; rfl)⟩
              · refine lv_lload hx hb dAT_set_75 (lv_at hl 5 rfl) ?_
                refine lv_lload hx hb dAT_set_77 (lv_at hl 0 rfl) ?_
                refine ll_le (tgt := 85) hx hb dAT_set_79 dAT_set_80 (by decide) (fun c_21 => ?_) (fun c_21 => ?_)
                · refine q_aload hx hb dAT_set_85 (lv_at hl 1 rfl) ?_
                  refine lv_iconst (v := (1 : Int32)) hx hb dAT_set_87 (by decide) ?_
                  refine q_some1 n_3 ?_
                  refine p_i FAT_87 GAlarm_isSet (fun h => by cases h) hx hb hts hown hW k_b_3 rfl rfl dAT_set_88 (fun H locs hW => ?_)
                  have mo := mo.tr (mono_sfi (k := 1) (a := b_3) (v := (1 : Int32)))
                  have nnp_22 : nn (sfi S 1 b_3 (1 : Int32)) := nn_sfi hn
                  refine q_aload hx hb dAT_set_91 (lv_at hl 1 rfl) ?_
                  refine lv_lload hx hb dAT_set_93 (lv_at hl 5 rfl) ?_
                  refine q_some1 n_3 ?_
                  refine p_l FAT_101 GAlarm_cycle (fun h => by cases h) hx hb hts hown hW k_b_3 dAT_set_95 (fun H locs hW => ?_)
                  have mo := mo.tr (mono_sfl (k := 1) (a := b_3) (v := cy))
                  have nnp_23 : nn (sfl (sfi S 1 b_3 (1 : Int32)) 1 b_3 cy) := nn_sfl nnp_22
                  refine q_aload hx hb dAT_set_98 (lv_at hl 1 rfl) ?_
                  refine lv_iload hx hb dAT_set_100 (lv_at hl 6 rfl) ?_
                  refine lv_if_eq (tgt := 117) hx hb dAT_set_102 (by decide) (fun c_24 => ?_) (fun c_24 => ?_)
                  · refine lv_lload_n hx hb dAT_set_117 rfl (lv_at hl 4 rfl) ?_
                    refine q_some1 n_3 ?_
                    refine k_Vv (As := [.long at_]) (rest := []) (c_becomeDue l D AC (sfl (sfi S 1 b_3 (1 : Int32)) 1 b_3 cy) b_3 at_ k_b_3 nnp_23) CAT_108 ⟨by decide, by decide, _, rfl, rfl⟩ hx hb hml hown hts hW k_b_3 hl.1 rfl rfl (Nat.le_of_ble_eq_true rfl) ⟨⟨Nat.le_of_ble_eq_true rfl, Nat.le_of_ble_eq_true rfl⟩, ⟨Nat.le_of_ble_eq_true rfl, Nat.le_of_ble_eq_true rfl⟩⟩ dAT_set_118 (fun S_25 H locs e_25 hW m_25 _ => ?_)
                    rw [e_25] at hW m_25
                    have k_t := m_25.k k_t (by decide)
                    have k_b_3 := m_25.k k_b_3 (by decide)
                    have kb_7 := m_25.k kb_7 (by decide)
                    have kq_2 := fun b h => m_25.k (kq_2 b h) (by decide)
                    have kq_5 := fun b h => m_25.k (kq_5 b h) (by decide)
                    have mo := mo.tr m_25
                    have nnp_26 : nn (becomeDue_S (sfl (sfi S 1 b_3 (1 : Int32)) 1 b_3 cy) b_3 at_) := nn_becomeDue nnp_23
                    refine lv_iconst (v := (1 : Int32)) hx hb dAT_set_121 (by decide) ?_
                    exact e_i hsz hx hb hr hlk hW (mo) (Nat.le_of_ble_eq_true rfl) (Nat.le_of_ble_eq_true rfl) dAT_set_122 ⟨(by refine Eq.symm ?_; refine (op_some n_3).trans ?_; refine (if_pos c_4).trans ?_; refine (if_pos c_8).trans ?_; refine (if_neg c_9).trans ?_; refine (if_pos c_10).trans ?_; refine (if_neg c_11).trans ?_; refine (if_neg c_20).trans ?_; refine (if_neg c_21).trans ?_; refine (if_pos c_24).trans ?_; rfl), (by refine Eq.symm ?_; refine (op_some n_3).trans ?_; refine (if_pos c_4).trans ?_; refine (if_pos c_8).trans ?_; refine (if_neg c_9).trans ?_; refine (if_pos c_10).trans ?_; refine (if_neg c_11).trans ?_; refine (if_neg c_20).trans ?_; refine (if_neg c_21).trans ?_; refine (if_pos c_24).trans ?_; rfl)⟩
                  · refine q_aload hx hb dAT_set_105 (lv_at hl 1 rfl) ?_
                    refine q_some n_3 ?_
                    refine g_q FAT_91 hx hb hts hown hW k_b_3 dAT_set_107 ?_
                    rw [show fr (sfl (sfi S 1 b_3 (1 : Int32)) 1 b_3 cy) 2 b_3 = fr S 2 b_3 from rfl]
                    refine lv_lload_n hx hb dAT_set_110 rfl (lv_at hl 4 rfl) ?_
                    refine q_some1 n_6 ?_
                    refine k_Vl (As := [.long at_]) (rest := [va_rf (findAlarm_R S t n)]) (c_stepsUntil l D AC (sfl (sfi S 1 b_3 (1 : Int32)) 1 b_3 cy) (gd (fr S 2 b_3)) at_ kb_7) CAT_104 ⟨by decide, by decide, _, rfl, rfl⟩ hx hb hml hown hts hW kb_7 hl.1 rfl rfl (by simp [q_cat, cat_r, cat_i, cat_l, cat_n]) ⟨⟨Nat.le_of_ble_eq_true rfl, Nat.le_of_ble_eq_true rfl⟩, ⟨Nat.le_of_ble_eq_true rfl, Nat.le_of_ble_eq_true rfl⟩⟩ dAT_set_111 (fun r_27 S_27 H locs e_27 hW m_27 _ => ?_)
                    obtain ⟨e1_27, e2_27⟩ := e_27
                    rw [e2_27] at hW m_27
                    rw [e1_27]
                    refine lv_goto (tgt := 118) hx hb dAT_set_114 (by decide) ?_
                    refine q_some1 n_3 ?_
                    refine k_Vv (As := [.long (stepsUntil_R (sfl (sfi S 1 b_3 (1 : Int32)) 1 b_3 cy) (gd (fr S 2 b_3)) at_)]) (rest := []) (c_becomeDue l D AC (sfl (sfi S 1 b_3 (1 : Int32)) 1 b_3 cy) b_3 (stepsUntil_R (sfl (sfi S 1 b_3 (1 : Int32)) 1 b_3 cy) (gd (fr S 2 b_3)) at_) k_b_3 nnp_23) CAT_108 ⟨by decide, by decide, _, rfl, rfl⟩ hx hb hml hown hts hW k_b_3 hl.1 rfl rfl (Nat.le_of_ble_eq_true rfl) ⟨⟨Nat.le_of_ble_eq_true rfl, Nat.le_of_ble_eq_true rfl⟩, ⟨Nat.le_of_ble_eq_true rfl, Nat.le_of_ble_eq_true rfl⟩⟩ dAT_set_118 (fun S_28 H locs e_28 hW m_28 _ => ?_)
                    rw [e_28] at hW m_28
                    have k_t := m_28.k k_t (by decide)
                    have k_b_3 := m_28.k k_b_3 (by decide)
                    have kb_7 := m_28.k kb_7 (by decide)
                    have kq_2 := fun b h => m_28.k (kq_2 b h) (by decide)
                    have kq_5 := fun b h => m_28.k (kq_5 b h) (by decide)
                    have mo := mo.tr m_28
                    have nnp_29 : nn (becomeDue_S (sfl (sfi S 1 b_3 (1 : Int32)) 1 b_3 cy) b_3 (stepsUntil_R (sfl (sfi S 1 b_3 (1 : Int32)) 1 b_3 cy) (gd (fr S 2 b_3)) at_)) := nn_becomeDue nnp_23
                    refine lv_iconst (v := (1 : Int32)) hx hb dAT_set_121 (by decide) ?_
                    exact e_i hsz hx hb hr hlk hW (mo) (Nat.le_of_ble_eq_true rfl) (Nat.le_of_ble_eq_true rfl) dAT_set_122 ⟨(by refine Eq.symm ?_; refine (op_some n_3).trans ?_; refine (if_pos c_4).trans ?_; refine (if_pos c_8).trans ?_; refine (if_neg c_9).trans ?_; refine (if_pos c_10).trans ?_; refine (if_neg c_11).trans ?_; refine (if_neg c_20).trans ?_; refine (if_neg c_21).trans ?_; refine (if_neg c_24).trans ?_; rfl), (by refine Eq.symm ?_; refine (op_some n_3).trans ?_; refine (if_pos c_4).trans ?_; refine (if_pos c_8).trans ?_; refine (if_neg c_9).trans ?_; refine (if_pos c_10).trans ?_; refine (if_neg c_11).trans ?_; refine (if_neg c_20).trans ?_; refine (if_neg c_21).trans ?_; refine (if_neg c_24).trans ?_; rfl)⟩
                · refine lv_iconst (v := (4 : Int32)) hx hb dAT_set_83 (by decide) ?_
                  exact e_i hsz hx hb hr hlk hW (mono.rf S) (Nat.le_of_ble_eq_true rfl) (Nat.le_of_ble_eq_true rfl) dAT_set_84 ⟨(by refine Eq.symm ?_; refine (op_some n_3).trans ?_; refine (if_pos c_4).trans ?_; refine (if_pos c_8).trans ?_; refine (if_neg c_9).trans ?_; refine (if_pos c_10).trans ?_; refine (if_neg c_11).trans ?_; refine (if_neg c_20).trans ?_; refine (if_pos c_21).trans ?_; rfl), (by refine Eq.symm ?_; refine (op_some n_3).trans ?_; refine (if_pos c_4).trans ?_; refine (if_pos c_8).trans ?_; refine (if_neg c_9).trans ?_; refine (if_pos c_10).trans ?_; refine (if_neg c_11).trans ?_; refine (if_neg c_20).trans ?_; refine (if_pos c_21).trans ?_; rfl)⟩
          · refine lv_iconst (v := (3 : Int32)) hx hb dAT_set_57 (by decide) ?_
            exact e_i hsz hx hb hr hlk hW (mono.rf S) (Nat.le_of_ble_eq_true rfl) (Nat.le_of_ble_eq_true rfl) dAT_set_58 ⟨(by refine Eq.symm ?_; refine (op_some n_3).trans ?_; refine (if_pos c_4).trans ?_; refine (if_pos c_8).trans ?_; refine (if_neg c_9).trans ?_; refine (if_neg c_10).trans ?_; rfl), (by refine Eq.symm ?_; refine (op_some n_3).trans ?_; refine (if_pos c_4).trans ?_; refine (if_pos c_8).trans ?_; refine (if_neg c_9).trans ?_; refine (if_neg c_10).trans ?_; rfl)⟩
      · refine lv_iconst (v := (0 : Int32)) hx hb dAT_set_40 (by decide) ?_
        refine lv_goto (tgt := 45) hx hb dAT_set_41 (by decide) ?_
        refine lv_i2l hx hb dAT_set_45 rfl ?_
        refine ll_lt (tgt := 57) hx hb dAT_set_46 dAT_set_47 (by decide) (fun c_30 => ?_) (fun c_30 => ?_)
        · refine lv_iconst (v := (3 : Int32)) hx hb dAT_set_57 (by decide) ?_
          exact e_i hsz hx hb hr hlk hW (mono.rf S) (Nat.le_of_ble_eq_true rfl) (Nat.le_of_ble_eq_true rfl) dAT_set_58 ⟨(by refine Eq.symm ?_; refine (op_some n_3).trans ?_; refine (if_pos c_4).trans ?_; refine (if_neg c_8).trans ?_; refine (if_pos c_30).trans ?_; rfl), (by refine Eq.symm ?_; refine (op_some n_3).trans ?_; refine (if_pos c_4).trans ?_; refine (if_neg c_8).trans ?_; refine (if_pos c_30).trans ?_; rfl)⟩
        · refine lv_lload_n hx hb dAT_set_50 rfl (lv_at hl 4 rfl) ?_
          refine lv_lload hx hb dAT_set_51 (lv_at hl 0 rfl) ?_
          refine ll_lt (tgt := 59) hx hb dAT_set_53 dAT_set_54 (by decide) (fun c_31 => ?_) (fun c_31 => ?_)
          · refine lv_lload hx hb dAT_set_59 (lv_at hl 5 rfl) ?_
            refine lv_lconst (v := (0 : Int64)) hx hb dAT_set_61 (by decide) ?_
            refine ll_eq (tgt := 85) hx hb dAT_set_62 dAT_set_63 (by decide) (fun c_32 => ?_) (fun c_32 => ?_)
            · refine q_aload hx hb dAT_set_85 (lv_at hl 1 rfl) ?_
              refine lv_iconst (v := (1 : Int32)) hx hb dAT_set_87 (by decide) ?_
              refine q_some1 n_3 ?_
              refine p_i FAT_87 GAlarm_isSet (fun h => by cases h) hx hb hts hown hW k_b_3 rfl rfl dAT_set_88 (fun H locs hW => ?_)
              have mo := mo.tr (mono_sfi (k := 1) (a := b_3) (v := (1 : Int32)))
              have nnp_33 : nn (sfi S 1 b_3 (1 : Int32)) := nn_sfi hn
              refine q_aload hx hb dAT_set_91 (lv_at hl 1 rfl) ?_
              refine lv_lload hx hb dAT_set_93 (lv_at hl 5 rfl) ?_
              refine q_some1 n_3 ?_
              refine p_l FAT_101 GAlarm_cycle (fun h => by cases h) hx hb hts hown hW k_b_3 dAT_set_95 (fun H locs hW => ?_)
              have mo := mo.tr (mono_sfl (k := 1) (a := b_3) (v := cy))
              have nnp_34 : nn (sfl (sfi S 1 b_3 (1 : Int32)) 1 b_3 cy) := nn_sfl nnp_33
              refine q_aload hx hb dAT_set_98 (lv_at hl 1 rfl) ?_
              refine lv_iload hx hb dAT_set_100 (lv_at hl 6 rfl) ?_
              refine lv_if_eq (tgt := 117) hx hb dAT_set_102 (by decide) (fun c_35 => ?_) (fun c_35 => ?_)
              · refine lv_lload_n hx hb dAT_set_117 rfl (lv_at hl 4 rfl) ?_
                refine q_some1 n_3 ?_
                refine k_Vv (As := [.long at_]) (rest := []) (c_becomeDue l D AC (sfl (sfi S 1 b_3 (1 : Int32)) 1 b_3 cy) b_3 at_ k_b_3 nnp_34) CAT_108 ⟨by decide, by decide, _, rfl, rfl⟩ hx hb hml hown hts hW k_b_3 hl.1 rfl rfl (Nat.le_of_ble_eq_true rfl) ⟨⟨Nat.le_of_ble_eq_true rfl, Nat.le_of_ble_eq_true rfl⟩, ⟨Nat.le_of_ble_eq_true rfl, Nat.le_of_ble_eq_true rfl⟩⟩ dAT_set_118 (fun S_36 H locs e_36 hW m_36 _ => ?_)
                rw [e_36] at hW m_36
                have k_t := m_36.k k_t (by decide)
                have k_b_3 := m_36.k k_b_3 (by decide)
                have kb_7 := m_36.k kb_7 (by decide)
                have kq_2 := fun b h => m_36.k (kq_2 b h) (by decide)
                have kq_5 := fun b h => m_36.k (kq_5 b h) (by decide)
                have mo := mo.tr m_36
                have nnp_37 : nn (becomeDue_S (sfl (sfi S 1 b_3 (1 : Int32)) 1 b_3 cy) b_3 at_) := nn_becomeDue nnp_34
                refine lv_iconst (v := (1 : Int32)) hx hb dAT_set_121 (by decide) ?_
                exact e_i hsz hx hb hr hlk hW (mo) (Nat.le_of_ble_eq_true rfl) (Nat.le_of_ble_eq_true rfl) dAT_set_122 ⟨(by refine Eq.symm ?_; refine (op_some n_3).trans ?_; refine (if_pos c_4).trans ?_; refine (if_neg c_8).trans ?_; refine (if_neg c_30).trans ?_; refine (if_pos c_31).trans ?_; refine (if_pos c_32).trans ?_; refine (if_pos c_35).trans ?_; rfl), (by refine Eq.symm ?_; refine (op_some n_3).trans ?_; refine (if_pos c_4).trans ?_; refine (if_neg c_8).trans ?_; refine (if_neg c_30).trans ?_; refine (if_pos c_31).trans ?_; refine (if_pos c_32).trans ?_; refine (if_pos c_35).trans ?_; rfl)⟩
              · refine q_aload hx hb dAT_set_105 (lv_at hl 1 rfl) ?_
                refine q_some n_3 ?_
                refine g_q FAT_91 hx hb hts hown hW k_b_3 dAT_set_107 ?_
                rw [show fr (sfl (sfi S 1 b_3 (1 : Int32)) 1 b_3 cy) 2 b_3 = fr S 2 b_3 from rfl]
                refine lv_lload_n hx hb dAT_set_110 rfl (lv_at hl 4 rfl) ?_
                refine q_some1 n_6 ?_
                refine k_Vl (As := [.long at_]) (rest := [va_rf (findAlarm_R S t n)]) (c_stepsUntil l D AC (sfl (sfi S 1 b_3 (1 : Int32)) 1 b_3 cy) (gd (fr S 2 b_3)) at_ kb_7) CAT_104 ⟨by decide, by decide, _, rfl, rfl⟩ hx hb hml hown hts hW kb_7 hl.1 rfl rfl (by simp [q_cat, cat_r, cat_i, cat_l, cat_n]) ⟨⟨Nat.le_of_ble_eq_true rfl, Nat.le_of_ble_eq_true rfl⟩, ⟨Nat.le_of_ble_eq_true rfl, Nat.le_of_ble_eq_true rfl⟩⟩ dAT_set_111 (fun r_38 S_38 H locs e_38 hW m_38 _ => ?_)
                obtain ⟨e1_38, e2_38⟩ := e_38
                rw [e2_38] at hW m_38
                rw [e1_38]
                refine lv_goto (tgt := 118) hx hb dAT_set_114 (by decide) ?_
                refine q_some1 n_3 ?_
                refine k_Vv (As := [.long (stepsUntil_R (sfl (sfi S 1 b_3 (1 : Int32)) 1 b_3 cy) (gd (fr S 2 b_3)) at_)]) (rest := []) (c_becomeDue l D AC (sfl (sfi S 1 b_3 (1 : Int32)) 1 b_3 cy) b_3 (stepsUntil_R (sfl (sfi S 1 b_3 (1 : Int32)) 1 b_3 cy) (gd (fr S 2 b_3)) at_) k_b_3 nnp_34) CAT_108 ⟨by decide, by decide, _, rfl, rfl⟩ hx hb hml hown hts hW k_b_3 hl.1 rfl rfl (Nat.le_of_ble_eq_true rfl) ⟨⟨Nat.le_of_ble_eq_true rfl, Nat.le_of_ble_eq_true rfl⟩, ⟨Nat.le_of_ble_eq_true rfl, Nat.le_of_ble_eq_true rfl⟩⟩ dAT_set_118 (fun S_39 H locs e_39 hW m_39 _ => ?_)
                rw [e_39] at hW m_39
                have k_t := m_39.k k_t (by decide)
                have k_b_3 := m_39.k k_b_3 (by decide)
                have kb_7 := m_39.k kb_7 (by decide)
                have kq_2 := fun b h => m_39.k (kq_2 b h) (by decide)
                have kq_5 := fun b h => m_39.k (kq_5 b h) (by decide)
                have mo := mo.tr m_39
                have nnp_40 : nn (becomeDue_S (sfl (sfi S 1 b_3 (1 : Int32)) 1 b_3 cy) b_3 (stepsUntil_R (sfl (sfi S 1 b_3 (1 : Int32)) 1 b_3 cy) (gd (fr S 2 b_3)) at_)) := nn_becomeDue nnp_34
                refine lv_iconst (v := (1 : Int32)) hx hb dAT_set_121 (by decide) ?_
                exact e_i hsz hx hb hr hlk hW (mo) (Nat.le_of_ble_eq_true rfl) (Nat.le_of_ble_eq_true rfl) dAT_set_122 ⟨(by refine Eq.symm ?_; refine (op_some n_3).trans ?_; refine (if_pos c_4).trans ?_; refine (if_neg c_8).trans ?_; refine (if_neg c_30).trans ?_; refine (if_pos c_31).trans ?_; refine (if_pos c_32).trans ?_; refine (if_neg c_35).trans ?_; rfl), (by refine Eq.symm ?_; refine (op_some n_3).trans ?_; refine (if_pos c_4).trans ?_; refine (if_neg c_8).trans ?_; refine (if_neg c_30).trans ?_; refine (if_pos c_31).trans ?_; refine (if_pos c_32).trans ?_; refine (if_neg c_35).trans ?_; rfl)⟩
            · refine lv_lload hx hb dAT_set_66 (lv_at hl 5 rfl) ?_
              refine lv_ldc2 (v := (2 : Int64)) hx hb hown (hts _ QAT_99) dAT_set_68 ?_
              refine ll_lt (tgt := 83) hx hb dAT_set_71 dAT_set_72 (by decide) (fun c_41 => ?_) (fun c_41 => ?_)
              · refine lv_iconst (v := (4 : Int32)) hx hb dAT_set_83 (by decide) ?_
                exact e_i hsz hx hb hr hlk hW (mono.rf S) (Nat.le_of_ble_eq_true rfl) (Nat.le_of_ble_eq_true rfl) dAT_set_84 ⟨(by refine Eq.symm ?_; refine (op_some n_3).trans ?_; refine (if_pos c_4).trans ?_; refine (if_neg c_8).trans ?_; refine (if_neg c_30).trans ?_; refine (if_pos c_31).trans ?_; refine (if_neg c_32).trans ?_; refine (if_pos c_41).trans ?_; rfl), (by refine Eq.symm ?_; refine (op_some n_3).trans ?_; refine (if_pos c_4).trans ?_; refine (if_neg c_8).trans ?_; refine (if_neg c_30).trans ?_; refine (if_pos c_31).trans ?_; refine (if_neg c_32).trans ?_; refine (if_pos c_41).trans ?_; rfl)⟩
              · refine lv_lload hx hb dAT_set_75 (lv_at hl 5 rfl) ?_
                refine lv_lload hx hb dAT_set_77 (lv_at hl 0 rfl) ?_
                refine ll_le (tgt := 85) hx hb dAT_set_79 dAT_set_80 (by decide) (fun c_42 => ?_) (fun c_42 => ?_)
                · refine q_aload hx hb dAT_set_85 (lv_at hl 1 rfl) ?_
                  refine lv_iconst (v := (1 : Int32)) hx hb dAT_set_87 (by decide) ?_
                  refine q_some1 n_3 ?_
                  refine p_i FAT_87 GAlarm_isSet (fun h => by cases h) hx hb hts hown hW k_b_3 rfl rfl dAT_set_88 (fun H locs hW => ?_)
                  have mo := mo.tr (mono_sfi (k := 1) (a := b_3) (v := (1 : Int32)))
                  have nnp_43 : nn (sfi S 1 b_3 (1 : Int32)) := nn_sfi hn
                  refine q_aload hx hb dAT_set_91 (lv_at hl 1 rfl) ?_
                  refine lv_lload hx hb dAT_set_93 (lv_at hl 5 rfl) ?_
                  refine q_some1 n_3 ?_
                  refine p_l FAT_101 GAlarm_cycle (fun h => by cases h) hx hb hts hown hW k_b_3 dAT_set_95 (fun H locs hW => ?_)
                  have mo := mo.tr (mono_sfl (k := 1) (a := b_3) (v := cy))
                  have nnp_44 : nn (sfl (sfi S 1 b_3 (1 : Int32)) 1 b_3 cy) := nn_sfl nnp_43
                  refine q_aload hx hb dAT_set_98 (lv_at hl 1 rfl) ?_
                  refine lv_iload hx hb dAT_set_100 (lv_at hl 6 rfl) ?_
                  refine lv_if_eq (tgt := 117) hx hb dAT_set_102 (by decide) (fun c_45 => ?_) (fun c_45 => ?_)
                  · refine lv_lload_n hx hb dAT_set_117 rfl (lv_at hl 4 rfl) ?_
                    refine q_some1 n_3 ?_
                    refine k_Vv (As := [.long at_]) (rest := []) (c_becomeDue l D AC (sfl (sfi S 1 b_3 (1 : Int32)) 1 b_3 cy) b_3 at_ k_b_3 nnp_44) CAT_108 ⟨by decide, by decide, _, rfl, rfl⟩ hx hb hml hown hts hW k_b_3 hl.1 rfl rfl (Nat.le_of_ble_eq_true rfl) ⟨⟨Nat.le_of_ble_eq_true rfl, Nat.le_of_ble_eq_true rfl⟩, ⟨Nat.le_of_ble_eq_true rfl, Nat.le_of_ble_eq_true rfl⟩⟩ dAT_set_118 (fun S_46 H locs e_46 hW m_46 _ => ?_)
                    rw [e_46] at hW m_46
                    have k_t := m_46.k k_t (by decide)
                    have k_b_3 := m_46.k k_b_3 (by decide)
                    have kb_7 := m_46.k kb_7 (by decide)
                    have kq_2 := fun b h => m_46.k (kq_2 b h) (by decide)
                    have kq_5 := fun b h => m_46.k (kq_5 b h) (by decide)
                    have mo := mo.tr m_46
                    have nnp_47 : nn (becomeDue_S (sfl (sfi S 1 b_3 (1 : Int32)) 1 b_3 cy) b_3 at_) := nn_becomeDue nnp_44
                    refine lv_iconst (v := (1 : Int32)) hx hb dAT_set_121 (by decide) ?_
                    exact e_i hsz hx hb hr hlk hW (mo) (Nat.le_of_ble_eq_true rfl) (Nat.le_of_ble_eq_true rfl) dAT_set_122 ⟨(by refine Eq.symm ?_; refine (op_some n_3).trans ?_; refine (if_pos c_4).trans ?_; refine (if_neg c_8).trans ?_; refine (if_neg c_30).trans ?_; refine (if_pos c_31).trans ?_; refine (if_neg c_32).trans ?_; refine (if_neg c_41).trans ?_; refine (if_neg c_42).trans ?_; refine (if_pos c_45).trans ?_; rfl), (by refine Eq.symm ?_; refine (op_some n_3).trans ?_; refine (if_pos c_4).trans ?_; refine (if_neg c_8).trans ?_; refine (if_neg c_30).trans ?_; refine (if_pos c_31).trans ?_; refine (if_neg c_32).trans ?_; refine (if_neg c_41).trans ?_; refine (if_neg c_42).trans ?_; refine (if_pos c_45).trans ?_; rfl)⟩
                  · refine q_aload hx hb dAT_set_105 (lv_at hl 1 rfl) ?_
                    refine q_some n_3 ?_
                    refine g_q FAT_91 hx hb hts hown hW k_b_3 dAT_set_107 ?_
                    rw [show fr (sfl (sfi S 1 b_3 (1 : Int32)) 1 b_3 cy) 2 b_3 = fr S 2 b_3 from rfl]
                    refine lv_lload_n hx hb dAT_set_110 rfl (lv_at hl 4 rfl) ?_
                    refine q_some1 n_6 ?_
                    refine k_Vl (As := [.long at_]) (rest := [va_rf (findAlarm_R S t n)]) (c_stepsUntil l D AC (sfl (sfi S 1 b_3 (1 : Int32)) 1 b_3 cy) (gd (fr S 2 b_3)) at_ kb_7) CAT_104 ⟨by decide, by decide, _, rfl, rfl⟩ hx hb hml hown hts hW kb_7 hl.1 rfl rfl (by simp [q_cat, cat_r, cat_i, cat_l, cat_n]) ⟨⟨Nat.le_of_ble_eq_true rfl, Nat.le_of_ble_eq_true rfl⟩, ⟨Nat.le_of_ble_eq_true rfl, Nat.le_of_ble_eq_true rfl⟩⟩ dAT_set_111 (fun r_48 S_48 H locs e_48 hW m_48 _ => ?_)
                    obtain ⟨e1_48, e2_48⟩ := e_48
                    rw [e2_48] at hW m_48
                    rw [e1_48]
                    refine lv_goto (tgt := 118) hx hb dAT_set_114 (by decide) ?_
                    refine q_some1 n_3 ?_
                    refine k_Vv (As := [.long (stepsUntil_R (sfl (sfi S 1 b_3 (1 : Int32)) 1 b_3 cy) (gd (fr S 2 b_3)) at_)]) (rest := []) (c_becomeDue l D AC (sfl (sfi S 1 b_3 (1 : Int32)) 1 b_3 cy) b_3 (stepsUntil_R (sfl (sfi S 1 b_3 (1 : Int32)) 1 b_3 cy) (gd (fr S 2 b_3)) at_) k_b_3 nnp_44) CAT_108 ⟨by decide, by decide, _, rfl, rfl⟩ hx hb hml hown hts hW k_b_3 hl.1 rfl rfl (Nat.le_of_ble_eq_true rfl) ⟨⟨Nat.le_of_ble_eq_true rfl, Nat.le_of_ble_eq_true rfl⟩, ⟨Nat.le_of_ble_eq_true rfl, Nat.le_of_ble_eq_true rfl⟩⟩ dAT_set_118 (fun S_49 H locs e_49 hW m_49 _ => ?_)
                    rw [e_49] at hW m_49
                    have k_t := m_49.k k_t (by decide)
                    have k_b_3 := m_49.k k_b_3 (by decide)
                    have kb_7 := m_49.k kb_7 (by decide)
                    have kq_2 := fun b h => m_49.k (kq_2 b h) (by decide)
                    have kq_5 := fun b h => m_49.k (kq_5 b h) (by decide)
                    have mo := mo.tr m_49
                    have nnp_50 : nn (becomeDue_S (sfl (sfi S 1 b_3 (1 : Int32)) 1 b_3 cy) b_3 (stepsUntil_R (sfl (sfi S 1 b_3 (1 : Int32)) 1 b_3 cy) (gd (fr S 2 b_3)) at_)) := nn_becomeDue nnp_44
                    refine lv_iconst (v := (1 : Int32)) hx hb dAT_set_121 (by decide) ?_
                    exact e_i hsz hx hb hr hlk hW (mo) (Nat.le_of_ble_eq_true rfl) (Nat.le_of_ble_eq_true rfl) dAT_set_122 ⟨(by refine Eq.symm ?_; refine (op_some n_3).trans ?_; refine (if_pos c_4).trans ?_; refine (if_neg c_8).trans ?_; refine (if_neg c_30).trans ?_; refine (if_pos c_31).trans ?_; refine (if_neg c_32).trans ?_; refine (if_neg c_41).trans ?_; refine (if_neg c_42).trans ?_; refine (if_neg c_45).trans ?_; rfl), (by refine Eq.symm ?_; refine (op_some n_3).trans ?_; refine (if_pos c_4).trans ?_; refine (if_neg c_8).trans ?_; refine (if_neg c_30).trans ?_; refine (if_pos c_31).trans ?_; refine (if_neg c_32).trans ?_; refine (if_neg c_41).trans ?_; refine (if_neg c_42).trans ?_; refine (if_neg c_45).trans ?_; rfl)⟩
                · refine lv_iconst (v := (4 : Int32)) hx hb dAT_set_83 (by decide) ?_
                  exact e_i hsz hx hb hr hlk hW (mono.rf S) (Nat.le_of_ble_eq_true rfl) (Nat.le_of_ble_eq_true rfl) dAT_set_84 ⟨(by refine Eq.symm ?_; refine (op_some n_3).trans ?_; refine (if_pos c_4).trans ?_; refine (if_neg c_8).trans ?_; refine (if_neg c_30).trans ?_; refine (if_pos c_31).trans ?_; refine (if_neg c_32).trans ?_; refine (if_neg c_41).trans ?_; refine (if_pos c_42).trans ?_; rfl), (by refine Eq.symm ?_; refine (op_some n_3).trans ?_; refine (if_pos c_4).trans ?_; refine (if_neg c_8).trans ?_; refine (if_neg c_30).trans ?_; refine (if_pos c_31).trans ?_; refine (if_neg c_32).trans ?_; refine (if_neg c_41).trans ?_; refine (if_pos c_42).trans ?_; rfl)⟩
          · refine lv_iconst (v := (3 : Int32)) hx hb dAT_set_57 (by decide) ?_
            exact e_i hsz hx hb hr hlk hW (mono.rf S) (Nat.le_of_ble_eq_true rfl) (Nat.le_of_ble_eq_true rfl) dAT_set_58 ⟨(by refine Eq.symm ?_; refine (op_some n_3).trans ?_; refine (if_pos c_4).trans ?_; refine (if_neg c_8).trans ?_; refine (if_neg c_30).trans ?_; refine (if_neg c_31).trans ?_; rfl), (by refine Eq.symm ?_; refine (op_some n_3).trans ?_; refine (if_pos c_4).trans ?_; refine (if_neg c_8).trans ?_; refine (if_neg c_30).trans ?_; refine (if_neg c_31).trans ?_; rfl)⟩
    · refine lv_iconst (v := (2 : Int32)) hx hb dAT_set_22 (by decide) ?_
      exact e_i hsz hx hb hr hlk hW (mono.rf S) (Nat.le_of_ble_eq_true rfl) (Nat.le_of_ble_eq_true rfl) dAT_set_23 ⟨(by refine Eq.symm ?_; refine (op_some n_3).trans ?_; refine (if_neg c_4).trans ?_; rfl), (by refine Eq.symm ?_; refine (op_some n_3).trans ?_; refine (if_neg c_4).trans ?_; rfl)⟩

def start_R (S : HS) (t : Nat) (n : Int32) (at_ : Int64) : Int32 :=
  opc (findTable_R S t n) ((-1 : Int32))
  (fun b_3 => if (fi S 8 b_3) = 0 then
      if at_ < (1 : Int64) then
        (3 : Int32)
      else
        if (1000000 : Int64) < at_ then
          (3 : Int32)
        else
          (1 : Int32)
    else
      (2 : Int32))
def start_S (S : HS) (t : Nat) (n : Int32) (at_ : Int64) : HS :=
  opc (findTable_R S t n) (S)
  (fun b_3 => if (fi S 8 b_3) = 0 then
      if at_ < (1 : Int64) then
        S
      else
        if (1000000 : Int64) < at_ then
          S
        else
          (wakeAt_S (runFrom_S (sfl S 11 b_3 (0 : Int64)) b_3 ((fl S 6 (gd (fr S 13 b_3))) + at_)) (gd (fr (runFrom_S (sfl S 11 b_3 (0 : Int64)) b_3 ((fl S 6 (gd (fr S 13 b_3))) + at_)) 13 b_3)) (fl (runFrom_S (sfl S 11 b_3 (0 : Int64)) b_3 ((fl S 6 (gd (fr S 13 b_3))) + at_)) 10 b_3))
    else
      S)
set_option maxRecDepth 20000 in
set_option maxHeartbeats 2000000 in
theorem c_start (l : Launch) (D : va_G) (AC : Nat → ClassId) (S : HS) (t : Nat) (n : Int32) (at_ : Int64)  (k_t : kd S t = 8) (hn : nn S) (ha : atOk S t) : CtI l yAT_start (Cond.code yAT_start cAT_start 5 (some .int) :: wT) 2 60 D AC S [.ref t, .int n, .long at_] 0 0 (fun r S' => r = start_R S t n at_ ∧ S' = start_S S t n at_) := by
  refine met_of (by decide) (Nat.le_of_ble_eq_true rfl) ?_
  intro p e s m below meth c ls hsz X hW hl
  obtain ⟨hx, hb, hml, hr, hlk, hown, hnm, hts⟩ := X
  have hl : lv_has ls 5 [(0, .ref t), (1, .int n), (2, .long at_)] := hl
  have mo : mono S S := mono.rf S
  refine lv_aload_n hx hb dAT_start_0 rfl (lv_at hl 0 rfl) ?_
  refine lv_iload_n hx hb dAT_start_1 rfl (lv_at hl 1 rfl) ?_
  refine k_Vq (As := [.int n]) (rest := []) (c_findTable l D AC S t n k_t hn ha) CAT_124 ⟨by decide, by decide, _, rfl, rfl⟩ hx hb hml hown hts hW k_t hl.1 rfl rfl (Nat.le_of_ble_eq_true rfl) ⟨⟨Nat.le_of_ble_eq_true rfl, Nat.le_of_ble_eq_true rfl⟩, ⟨Nat.le_of_ble_eq_true rfl, Nat.le_of_ble_eq_true rfl⟩⟩ dAT_start_2 (fun r_1 S_1 H locs e_1 hW m_1 _ => ?_)
  obtain ⟨e1_1, e2_1⟩ := e_1
  rw [e2_1] at hW m_1
  rw [e1_1]
  have kq_2 : ∀ b, (findTable_R S t n) = some b → kd S b = 7 := kq_findTable hW.ok k_t hn _
  refine q_astore (lv' := [(4, va_rf (findTable_R S t n)), (0, .ref t), (1, .int n), (2, .long at_)]) hx hb dAT_start_5 hl (by decide) rfl (fun ls hl => ?_)
  refine q_aload hx hb dAT_start_7 (lv_at hl 0 rfl) ?_
  refine q_ifnonnull (tgt := 14) hx hb dAT_start_9 (by decide) (fun n_3 => ?_) (fun b_3 n_3 => ?_)
  · refine lv_iconst (v := (-1 : Int32)) hx hb dAT_start_12 (by decide) ?_
    exact e_i hsz hx hb hr hlk hW (mono.rf S) (Nat.le_of_ble_eq_true rfl) (Nat.le_of_ble_eq_true rfl) dAT_start_13 ⟨(by refine Eq.symm ?_; refine (op_none n_3).trans ?_; rfl), (by refine Eq.symm ?_; refine (op_none n_3).trans ?_; rfl)⟩
  · have k_b_3 : kd S b_3 = 7 := kq_2 b_3 n_3
    refine q_aload hx hb dAT_start_14 (lv_at hl 0 rfl) ?_
    refine q_some n_3 ?_
    refine g_i FAT_131 hx hb hts hown hW k_b_3 dAT_start_16 ?_
    refine lv_if_eq (tgt := 24) hx hb dAT_start_19 (by decide) (fun c_4 => ?_) (fun c_4 => ?_)
    · refine lv_lload_n hx hb dAT_start_24 rfl (lv_at hl 3 rfl) ?_
      refine lv_lconst (v := (1 : Int64)) hx hb dAT_start_25 (by decide) ?_
      refine ll_lt (tgt := 38) hx hb dAT_start_26 dAT_start_27 (by decide) (fun c_5 => ?_) (fun c_5 => ?_)
      · refine lv_iconst (v := (3 : Int32)) hx hb dAT_start_38 (by decide) ?_
        exact e_i hsz hx hb hr hlk hW (mono.rf S) (Nat.le_of_ble_eq_true rfl) (Nat.le_of_ble_eq_true rfl) dAT_start_39 ⟨(by refine Eq.symm ?_; refine (op_some n_3).trans ?_; refine (if_pos c_4).trans ?_; refine (if_pos c_5).trans ?_; rfl), (by refine Eq.symm ?_; refine (op_some n_3).trans ?_; refine (if_pos c_4).trans ?_; refine (if_pos c_5).trans ?_; rfl)⟩
      · refine lv_lload_n hx hb dAT_start_30 rfl (lv_at hl 3 rfl) ?_
        refine lv_ldc2 (v := (1000000 : Int64)) hx hb hown (hts _ QAT_112) dAT_start_31 ?_
        refine ll_le (tgt := 40) hx hb dAT_start_34 dAT_start_35 (by decide) (fun c_6 => ?_) (fun c_6 => ?_)
        · refine q_aload hx hb dAT_start_40 (lv_at hl 0 rfl) ?_
          refine lv_lconst (v := (0 : Int64)) hx hb dAT_start_42 (by decide) ?_
          refine q_some1 n_3 ?_
          refine p_l FAT_151 GTable_drift (fun h => by cases h) hx hb hts hown hW k_b_3 dAT_start_43 (fun H locs hW => ?_)
          have mo := mo.tr (mono_sfl (k := 11) (a := b_3) (v := (0 : Int64)))
          have nnp_7 : nn (sfl S 11 b_3 (0 : Int64)) := nn_sfl hn
          refine q_aload hx hb dAT_start_46 (lv_at hl 0 rfl) ?_
          refine q_aload hx hb dAT_start_48 (lv_at hl 0 rfl) ?_
          refine q_some n_3 ?_
          have kq_8 : ∀ b, fr S 13 b_3 = some b → kd (sfl S 11 b_3 (0 : Int64)) b = 3 := fun b h => hW.ok.2.1 13 b_3 b k_b_3 h
          refine g_q FAT_138 hx hb hts hown hW k_b_3 dAT_start_50 ?_
          rw [show fr (sfl S 11 b_3 (0 : Int64)) 13 b_3 = fr S 13 b_3 from rfl]
          have n_9 : fr S 13 b_3 = some (gd (fr S 13 b_3)) := gd_some (hn 13 b_3 rfl k_b_3)
          have kb_10 : kd (sfl S 11 b_3 (0 : Int64)) (gd (fr S 13 b_3)) = 3 := kq_8 (gd (fr S 13 b_3)) n_9
          refine q_some n_9 ?_
          refine g_l FAT_154 hx hb hts hown hW kb_10 dAT_start_53 ?_
          rw [show fl (sfl S 11 b_3 (0 : Int64)) 6 (gd (fr S 13 b_3)) = fl S 6 (gd (fr S 13 b_3)) from rfl]
          refine lv_lload_n hx hb dAT_start_56 rfl (lv_at hl 3 rfl) ?_
          refine lv_ladd hx hb dAT_start_57 ?_
          refine q_some1 n_3 ?_
          refine k_Vv (As := [.long ((fl S 6 (gd (fr S 13 b_3))) + at_)]) (rest := []) (c_runFrom l D AC (sfl S 11 b_3 (0 : Int64)) b_3 ((fl S 6 (gd (fr S 13 b_3))) + at_) k_b_3) CAT_157 ⟨by decide, by decide, _, rfl, rfl⟩ hx hb hml hown hts hW k_b_3 hl.1 rfl rfl (Nat.le_of_ble_eq_true rfl) ⟨⟨Nat.le_of_ble_eq_true rfl, Nat.le_of_ble_eq_true rfl⟩, ⟨Nat.le_of_ble_eq_true rfl, Nat.le_of_ble_eq_true rfl⟩⟩ dAT_start_58 (fun S_11 H locs e_11 hW m_11 _ => ?_)
          rw [e_11] at hW m_11
          have k_t := m_11.k k_t (by decide)
          have k_b_3 := m_11.k k_b_3 (by decide)
          have kb_10 := m_11.k kb_10 (by decide)
          have kq_2 := fun b h => m_11.k (kq_2 b h) (by decide)
          have kq_8 := fun b h => m_11.k (kq_8 b h) (by decide)
          have mo := mo.tr m_11
          have nnp_12 : nn (runFrom_S (sfl S 11 b_3 (0 : Int64)) b_3 ((fl S 6 (gd (fr S 13 b_3))) + at_)) := nn_runFrom nnp_7
          refine q_aload hx hb dAT_start_61 (lv_at hl 0 rfl) ?_
          refine q_some n_3 ?_
          have kq_13 : ∀ b, fr (runFrom_S (sfl S 11 b_3 (0 : Int64)) b_3 ((fl S 6 (gd (fr S 13 b_3))) + at_)) 13 b_3 = some b → kd (runFrom_S (sfl S 11 b_3 (0 : Int64)) b_3 ((fl S 6 (gd (fr S 13 b_3))) + at_)) b = 3 := fun b h => hW.ok.2.1 13 b_3 b k_b_3 h
          refine g_q FAT_138 hx hb hts hown hW k_b_3 dAT_start_63 ?_
          refine q_aload hx hb dAT_start_66 (lv_at hl 0 rfl) ?_
          refine q_some n_3 ?_
          refine g_l FAT_160 hx hb hts hown hW k_b_3 dAT_start_68 ?_
          have n_14 : fr (runFrom_S (sfl S 11 b_3 (0 : Int64)) b_3 ((fl S 6 (gd (fr S 13 b_3))) + at_)) 13 b_3 = some (gd (fr (runFrom_S (sfl S 11 b_3 (0 : Int64)) b_3 ((fl S 6 (gd (fr S 13 b_3))) + at_)) 13 b_3)) := gd_some (nnp_12 13 b_3 rfl k_b_3)
          have kb_15 : kd (runFrom_S (sfl S 11 b_3 (0 : Int64)) b_3 ((fl S 6 (gd (fr S 13 b_3))) + at_)) (gd (fr (runFrom_S (sfl S 11 b_3 (0 : Int64)) b_3 ((fl S 6 (gd (fr S 13 b_3))) + at_)) 13 b_3)) = 3 := kq_13 (gd (fr (runFrom_S (sfl S 11 b_3 (0 : Int64)) b_3 ((fl S 6 (gd (fr S 13 b_3))) + at_)) 13 b_3)) n_14
          refine q_some1 n_14 ?_
          refine k_Vv (As := [.long (fl (runFrom_S (sfl S 11 b_3 (0 : Int64)) b_3 ((fl S 6 (gd (fr S 13 b_3))) + at_)) 10 b_3)]) (rest := []) (c_wakeAt l D AC (runFrom_S (sfl S 11 b_3 (0 : Int64)) b_3 ((fl S 6 (gd (fr S 13 b_3))) + at_)) (gd (fr (runFrom_S (sfl S 11 b_3 (0 : Int64)) b_3 ((fl S 6 (gd (fr S 13 b_3))) + at_)) 13 b_3)) (fl (runFrom_S (sfl S 11 b_3 (0 : Int64)) b_3 ((fl S 6 (gd (fr S 13 b_3))) + at_)) 10 b_3) kb_15) CAT_163 ⟨by decide, by decide, _, rfl, rfl⟩ hx hb hml hown hts hW kb_15 hl.1 rfl rfl (Nat.le_of_ble_eq_true rfl) ⟨⟨Nat.le_of_ble_eq_true rfl, Nat.le_of_ble_eq_true rfl⟩, ⟨Nat.le_of_ble_eq_true rfl, Nat.le_of_ble_eq_true rfl⟩⟩ dAT_start_71 (fun S_16 H locs e_16 hW m_16 _ => ?_)
          rw [e_16] at hW m_16
          have k_t := m_16.k k_t (by decide)
          have k_b_3 := m_16.k k_b_3 (by decide)
          have kb_10 := m_16.k kb_10 (by decide)
          have kb_15 := m_16.k kb_15 (by decide)
          have kq_2 := fun b h => m_16.k (kq_2 b h) (by decide)
          have kq_8 := fun b h => m_16.k (kq_8 b h) (by decide)
          have kq_13 := fun b h => m_16.k (kq_13 b h) (by decide)
          have mo := mo.tr m_16
          have nnp_17 : nn (wakeAt_S (runFrom_S (sfl S 11 b_3 (0 : Int64)) b_3 ((fl S 6 (gd (fr S 13 b_3))) + at_)) (gd (fr (runFrom_S (sfl S 11 b_3 (0 : Int64)) b_3 ((fl S 6 (gd (fr S 13 b_3))) + at_)) 13 b_3)) (fl (runFrom_S (sfl S 11 b_3 (0 : Int64)) b_3 ((fl S 6 (gd (fr S 13 b_3))) + at_)) 10 b_3)) := nn_wakeAt nnp_12
          refine lv_iconst (v := (1 : Int32)) hx hb dAT_start_74 (by decide) ?_
          exact e_i hsz hx hb hr hlk hW (mo) (Nat.le_of_ble_eq_true rfl) (Nat.le_of_ble_eq_true rfl) dAT_start_75 ⟨(by refine Eq.symm ?_; refine (op_some n_3).trans ?_; refine (if_pos c_4).trans ?_; refine (if_neg c_5).trans ?_; refine (if_neg c_6).trans ?_; rfl), (by refine Eq.symm ?_; refine (op_some n_3).trans ?_; refine (if_pos c_4).trans ?_; refine (if_neg c_5).trans ?_; refine (if_neg c_6).trans ?_; rfl)⟩
        · refine lv_iconst (v := (3 : Int32)) hx hb dAT_start_38 (by decide) ?_
          exact e_i hsz hx hb hr hlk hW (mono.rf S) (Nat.le_of_ble_eq_true rfl) (Nat.le_of_ble_eq_true rfl) dAT_start_39 ⟨(by refine Eq.symm ?_; refine (op_some n_3).trans ?_; refine (if_pos c_4).trans ?_; refine (if_neg c_5).trans ?_; refine (if_pos c_6).trans ?_; rfl), (by refine Eq.symm ?_; refine (op_some n_3).trans ?_; refine (if_pos c_4).trans ?_; refine (if_neg c_5).trans ?_; refine (if_pos c_6).trans ?_; rfl)⟩
    · refine lv_iconst (v := (2 : Int32)) hx hb dAT_start_22 (by decide) ?_
      exact e_i hsz hx hb hr hlk hW (mono.rf S) (Nat.le_of_ble_eq_true rfl) (Nat.le_of_ble_eq_true rfl) dAT_start_23 ⟨(by refine Eq.symm ?_; refine (op_some n_3).trans ?_; refine (if_neg c_4).trans ?_; rfl), (by refine Eq.symm ?_; refine (op_some n_3).trans ?_; refine (if_neg c_4).trans ?_; rfl)⟩

def next_R (S : HS) (t : Nat) (n : Int32) (m_ : Int32) : Int32 :=
  opc (findTable_R S t n) ((-1 : Int32))
  (fun b_5 => if m_ = 0 then
      opc (findTable_R S t m_) ((1 : Int32))
      (fun b_7 => if (fr S 13 b_7) = (fr S 13 b_5) then
          (1 : Int32)
        else
          (-3 : Int32))
    else
      opc (findTable_R S t m_) ((-1 : Int32))
      (fun b_13 => if (fr S 13 b_13) = (fr S 13 b_5) then
          (1 : Int32)
        else
          (-3 : Int32)))
def next_S (S : HS) (t : Nat) (n : Int32) (m_ : Int32) : HS :=
  opc (findTable_R S t n) (S)
  (fun b_5 => if m_ = 0 then
      opc (findTable_R S t m_) ((sfr S 16 b_5 (findTable_R S t m_)))
      (fun b_7 => if (fr S 13 b_7) = (fr S 13 b_5) then
          (sfr S 16 b_5 (some b_7))
        else
          S)
    else
      opc (findTable_R S t m_) (S)
      (fun b_13 => if (fr S 13 b_13) = (fr S 13 b_5) then
          (sfr S 16 b_5 (some b_13))
        else
          S))
set_option maxRecDepth 20000 in
set_option maxHeartbeats 2000000 in
theorem c_next (l : Launch) (D : va_G) (AC : Nat → ClassId) (S : HS) (t : Nat) (n : Int32) (m_ : Int32)  (k_t : kd S t = 8) (hn : nn S) (ha : atOk S t) : CtI l yAT_next (Cond.code yAT_next cAT_next 5 (some .int) :: wT) 1 24 D AC S [.ref t, .int n, .int m_] 0 0 (fun r S' => r = next_R S t n m_ ∧ S' = next_S S t n m_) := by
  refine met_of (by decide) (Nat.le_of_ble_eq_true rfl) ?_
  intro p e s m below meth c ls hsz X hW hl
  obtain ⟨hx, hb, hml, hr, hlk, hown, hnm, hts⟩ := X
  have hl : lv_has ls 5 [(0, .ref t), (1, .int n), (2, .int m_)] := hl
  have mo : mono S S := mono.rf S
  refine lv_aload_n hx hb dAT_next_0 rfl (lv_at hl 0 rfl) ?_
  refine lv_iload_n hx hb dAT_next_1 rfl (lv_at hl 1 rfl) ?_
  refine k_Vq (As := [.int n]) (rest := []) (c_findTable l D AC S t n k_t hn ha) CAT_124 ⟨by decide, by decide, _, rfl, rfl⟩ hx hb hml hown hts hW k_t hl.1 rfl rfl (Nat.le_of_ble_eq_true rfl) ⟨⟨Nat.le_of_ble_eq_true rfl, Nat.le_of_ble_eq_true rfl⟩, ⟨Nat.le_of_ble_eq_true rfl, Nat.le_of_ble_eq_true rfl⟩⟩ dAT_next_2 (fun r_1 S_1 H locs e_1 hW m_1 _ => ?_)
  obtain ⟨e1_1, e2_1⟩ := e_1
  rw [e2_1] at hW m_1
  rw [e1_1]
  have kq_2 : ∀ b, (findTable_R S t n) = some b → kd S b = 7 := kq_findTable hW.ok k_t hn _
  refine q_astore_n (i := 3) (lv' := [(3, va_rf (findTable_R S t n)), (0, .ref t), (1, .int n), (2, .int m_)]) hx hb dAT_next_5 rfl hl (by decide) rfl (fun ls hl => ?_)
  refine lv_aload_n hx hb dAT_next_6 rfl (lv_at hl 1 rfl) ?_
  refine lv_iload_n hx hb dAT_next_7 rfl (lv_at hl 3 rfl) ?_
  refine k_Vq (As := [.int m_]) (rest := []) (c_findTable l D AC S t m_ k_t hn ha) CAT_124 ⟨by decide, by decide, _, rfl, rfl⟩ hx hb hml hown hts hW k_t hl.1 rfl rfl (Nat.le_of_ble_eq_true rfl) ⟨⟨Nat.le_of_ble_eq_true rfl, Nat.le_of_ble_eq_true rfl⟩, ⟨Nat.le_of_ble_eq_true rfl, Nat.le_of_ble_eq_true rfl⟩⟩ dAT_next_8 (fun r_3 S_3 H locs e_3 hW m_3 _ => ?_)
  obtain ⟨e1_3, e2_3⟩ := e_3
  rw [e2_3] at hW m_3
  rw [e1_3]
  have kq_4 : ∀ b, (findTable_R S t m_) = some b → kd S b = 7 := kq_findTable hW.ok k_t hn _
  refine q_astore (lv' := [(4, va_rf (findTable_R S t m_)), (3, va_rf (findTable_R S t n)), (0, .ref t), (1, .int n), (2, .int m_)]) hx hb dAT_next_11 hl (by decide) (by simp [q_cat, cat_r, cat_i, cat_l, cat_n]) (fun ls hl => ?_)
  refine q_aload_n hx hb dAT_next_13 rfl (lv_at hl 1 rfl) ?_
  refine q_ifnull (tgt := 26) hx hb dAT_next_14 (by decide) (fun n_5 => ?_) (fun b_5 n_5 => ?_)
  · refine lv_iconst (v := (-1 : Int32)) hx hb dAT_next_26 (by decide) ?_
    exact e_i hsz hx hb hr hlk hW (mono.rf S) (Nat.le_of_ble_eq_true rfl) (Nat.le_of_ble_eq_true rfl) dAT_next_27 ⟨(by refine Eq.symm ?_; refine (op_none n_5).trans ?_; rfl), (by refine Eq.symm ?_; refine (op_none n_5).trans ?_; rfl)⟩
  · have k_b_5 : kd S b_5 = 7 := kq_2 b_5 n_5
    refine lv_iload_n hx hb dAT_next_17 rfl (lv_at hl 4 rfl) ?_
    refine lv_if_eq (tgt := 28) hx hb dAT_next_18 (by decide) (fun c_6 => ?_) (fun c_6 => ?_)
    · refine q_aload hx hb dAT_next_28 (lv_at hl 0 rfl) ?_
      refine q_ifnull (tgt := 48) hx hb dAT_next_30 (by decide) (fun n_7 => ?_) (fun b_7 n_7 => ?_)
      · refine q_aload_n hx hb dAT_next_48 rfl (lv_at hl 1 rfl) ?_
        refine q_aload hx hb dAT_next_49 (lv_at hl 0 rfl) ?_
        refine q_some1 n_5 ?_
        refine p_q FAT_166 GTable_told ⟨fun _ => rfl, fun _ => rfl, rfl, rfl⟩ (fun h => by cases h) hx hb hts hown hW k_b_5 kq_4 dAT_next_51 (fun H locs hW => ?_)
        have mo := mo.tr (mono_sfr (k := 16) (a := b_5) (v := (findTable_R S t m_)))
        have nnp_8 : nn (sfr S 16 b_5 (findTable_R S t m_)) := nn_sfr hn (Or.inl rfl)
        refine lv_iconst (v := (1 : Int32)) hx hb dAT_next_54 (by decide) ?_
        exact e_i hsz hx hb hr hlk hW (mo) (Nat.le_of_ble_eq_true rfl) (Nat.le_of_ble_eq_true rfl) dAT_next_55 ⟨(by refine Eq.symm ?_; refine (op_some n_5).trans ?_; refine (if_pos c_6).trans ?_; refine (op_none n_7).trans ?_; rfl), (by refine Eq.symm ?_; refine (op_some n_5).trans ?_; refine (if_pos c_6).trans ?_; refine (op_none n_7).trans ?_; rfl)⟩
      · have k_b_7 : kd S b_7 = 7 := kq_4 b_7 n_7
        refine q_aload hx hb dAT_next_33 (lv_at hl 0 rfl) ?_
        refine q_some n_7 ?_
        have kq_9 : ∀ b, fr S 13 b_7 = some b → kd S b = 3 := fun b h => hW.ok.2.1 13 b_7 b k_b_7 h
        refine g_q FAT_138 hx hb hts hown hW k_b_7 dAT_next_35 ?_
        refine q_aload_n hx hb dAT_next_38 rfl (lv_at hl 1 rfl) ?_
        refine q_some n_5 ?_
        have kq_10 : ∀ b, fr S 13 b_5 = some b → kd S b = 3 := fun b h => hW.ok.2.1 13 b_5 b k_b_5 h
        refine g_q FAT_138 hx hb hts hown hW k_b_5 dAT_next_39 ?_
        refine lv_acmp_eq (rx := fr S 13 b_7) (ry := fr S 13 b_5) (tgt := 48) hx hb dAT_next_42 (by decide) (fun c_11 => ?_) (fun c_11 => ?_)
        · refine q_aload_n hx hb dAT_next_48 rfl (lv_at hl 1 rfl) ?_
          refine q_aload hx hb dAT_next_49 (lv_at hl 0 rfl) ?_
          refine q_some n_7 ?_
          refine q_some1 n_5 ?_
          refine p_r FAT_166 GTable_told ⟨rfl, rfl⟩ (fun h => by cases h) hx hb hts hown hW k_b_5 k_b_7 dAT_next_51 (fun H locs hW => ?_)
          have mo := mo.tr (mono_sfr (k := 16) (a := b_5) (v := (some b_7)))
          have nnp_12 : nn (sfr S 16 b_5 (some b_7)) := nn_sfr hn (Or.inl rfl)
          refine lv_iconst (v := (1 : Int32)) hx hb dAT_next_54 (by decide) ?_
          exact e_i hsz hx hb hr hlk hW (mo) (Nat.le_of_ble_eq_true rfl) (Nat.le_of_ble_eq_true rfl) dAT_next_55 ⟨(by refine Eq.symm ?_; refine (op_some n_5).trans ?_; refine (if_pos c_6).trans ?_; refine (op_some n_7).trans ?_; refine (if_pos c_11).trans ?_; rfl), (by refine Eq.symm ?_; refine (op_some n_5).trans ?_; refine (if_pos c_6).trans ?_; refine (op_some n_7).trans ?_; refine (if_pos c_11).trans ?_; rfl)⟩
        · refine lv_bipush (v := (-3 : Int32)) hx hb dAT_next_45 (by decide) ?_
          exact e_i hsz hx hb hr hlk hW (mono.rf S) (Nat.le_of_ble_eq_true rfl) (Nat.le_of_ble_eq_true rfl) dAT_next_47 ⟨(by refine Eq.symm ?_; refine (op_some n_5).trans ?_; refine (if_pos c_6).trans ?_; refine (op_some n_7).trans ?_; refine (if_neg c_11).trans ?_; rfl), (by refine Eq.symm ?_; refine (op_some n_5).trans ?_; refine (if_pos c_6).trans ?_; refine (op_some n_7).trans ?_; refine (if_neg c_11).trans ?_; rfl)⟩
    · refine q_aload hx hb dAT_next_21 (lv_at hl 0 rfl) ?_
      refine q_ifnonnull (tgt := 28) hx hb dAT_next_23 (by decide) (fun n_13 => ?_) (fun b_13 n_13 => ?_)
      · refine lv_iconst (v := (-1 : Int32)) hx hb dAT_next_26 (by decide) ?_
        exact e_i hsz hx hb hr hlk hW (mono.rf S) (Nat.le_of_ble_eq_true rfl) (Nat.le_of_ble_eq_true rfl) dAT_next_27 ⟨(by refine Eq.symm ?_; refine (op_some n_5).trans ?_; refine (if_neg c_6).trans ?_; refine (op_none n_13).trans ?_; rfl), (by refine Eq.symm ?_; refine (op_some n_5).trans ?_; refine (if_neg c_6).trans ?_; refine (op_none n_13).trans ?_; rfl)⟩
      · have k_b_13 : kd S b_13 = 7 := kq_4 b_13 n_13
        refine q_aload hx hb dAT_next_28 (lv_at hl 0 rfl) ?_
        refine q_some n_13 ?_
        refine lv_ifnull hx hb dAT_next_30 ?_
        refine q_aload hx hb dAT_next_33 (lv_at hl 0 rfl) ?_
        refine q_some n_13 ?_
        have kq_14 : ∀ b, fr S 13 b_13 = some b → kd S b = 3 := fun b h => hW.ok.2.1 13 b_13 b k_b_13 h
        refine g_q FAT_138 hx hb hts hown hW k_b_13 dAT_next_35 ?_
        refine q_aload_n hx hb dAT_next_38 rfl (lv_at hl 1 rfl) ?_
        refine q_some n_5 ?_
        have kq_15 : ∀ b, fr S 13 b_5 = some b → kd S b = 3 := fun b h => hW.ok.2.1 13 b_5 b k_b_5 h
        refine g_q FAT_138 hx hb hts hown hW k_b_5 dAT_next_39 ?_
        refine lv_acmp_eq (rx := fr S 13 b_13) (ry := fr S 13 b_5) (tgt := 48) hx hb dAT_next_42 (by decide) (fun c_16 => ?_) (fun c_16 => ?_)
        · refine q_aload_n hx hb dAT_next_48 rfl (lv_at hl 1 rfl) ?_
          refine q_aload hx hb dAT_next_49 (lv_at hl 0 rfl) ?_
          refine q_some n_13 ?_
          refine q_some1 n_5 ?_
          refine p_r FAT_166 GTable_told ⟨rfl, rfl⟩ (fun h => by cases h) hx hb hts hown hW k_b_5 k_b_13 dAT_next_51 (fun H locs hW => ?_)
          have mo := mo.tr (mono_sfr (k := 16) (a := b_5) (v := (some b_13)))
          have nnp_17 : nn (sfr S 16 b_5 (some b_13)) := nn_sfr hn (Or.inl rfl)
          refine lv_iconst (v := (1 : Int32)) hx hb dAT_next_54 (by decide) ?_
          exact e_i hsz hx hb hr hlk hW (mo) (Nat.le_of_ble_eq_true rfl) (Nat.le_of_ble_eq_true rfl) dAT_next_55 ⟨(by refine Eq.symm ?_; refine (op_some n_5).trans ?_; refine (if_neg c_6).trans ?_; refine (op_some n_13).trans ?_; refine (if_pos c_16).trans ?_; rfl), (by refine Eq.symm ?_; refine (op_some n_5).trans ?_; refine (if_neg c_6).trans ?_; refine (op_some n_13).trans ?_; refine (if_pos c_16).trans ?_; rfl)⟩
        · refine lv_bipush (v := (-3 : Int32)) hx hb dAT_next_45 (by decide) ?_
          exact e_i hsz hx hb hr hlk hW (mono.rf S) (Nat.le_of_ble_eq_true rfl) (Nat.le_of_ble_eq_true rfl) dAT_next_47 ⟨(by refine Eq.symm ?_; refine (op_some n_5).trans ?_; refine (if_neg c_6).trans ?_; refine (op_some n_13).trans ?_; refine (if_neg c_16).trans ?_; rfl), (by refine Eq.symm ?_; refine (op_some n_5).trans ?_; refine (if_neg c_6).trans ?_; refine (op_some n_13).trans ?_; refine (if_neg c_16).trans ?_; rfl)⟩

def sync_R (S : HS) (t : Nat) (n : Int32) (by_ : Int64) : Int32 :=
  opc (findTable_R S t n) ((-1 : Int32))
  (fun b_3 => if by_ < ((-1000 : Int64) - (fl S 11 b_3)) then
      (-2 : Int32)
    else
      if ((1000 : Int64) - (fl S 11 b_3)) < by_ then
        (-2 : Int32)
      else
        if (fi S 8 b_3) = 0 then
          (-3 : Int32)
        else
          ((fl S 11 b_3) + by_).toInt32)
def sync_S (S : HS) (t : Nat) (n : Int32) (by_ : Int64) : HS :=
  opc (findTable_R S t n) (S)
  (fun b_3 => if by_ < ((-1000 : Int64) - (fl S 11 b_3)) then
      S
    else
      if ((1000 : Int64) - (fl S 11 b_3)) < by_ then
        S
      else
        if (fi S 8 b_3) = 0 then
          S
        else
          (sfl S 11 b_3 ((fl S 11 b_3) + by_)))
set_option maxRecDepth 20000 in
set_option maxHeartbeats 2000000 in
theorem c_sync (l : Launch) (D : va_G) (AC : Nat → ClassId) (S : HS) (t : Nat) (n : Int32) (by_ : Int64)  (k_t : kd S t = 8) (hn : nn S) (ha : atOk S t) : CtI l yAT_sync (Cond.code yAT_sync cAT_sync 5 (some .int) :: wT) 1 24 D AC S [.ref t, .int n, .long by_] 0 0 (fun r S' => r = sync_R S t n by_ ∧ S' = sync_S S t n by_) := by
  refine met_of (by decide) (Nat.le_of_ble_eq_true rfl) ?_
  intro p e s m below meth c ls hsz X hW hl
  obtain ⟨hx, hb, hml, hr, hlk, hown, hnm, hts⟩ := X
  have hl : lv_has ls 5 [(0, .ref t), (1, .int n), (2, .long by_)] := hl
  have mo : mono S S := mono.rf S
  refine lv_aload_n hx hb dAT_sync_0 rfl (lv_at hl 0 rfl) ?_
  refine lv_iload_n hx hb dAT_sync_1 rfl (lv_at hl 1 rfl) ?_
  refine k_Vq (As := [.int n]) (rest := []) (c_findTable l D AC S t n k_t hn ha) CAT_124 ⟨by decide, by decide, _, rfl, rfl⟩ hx hb hml hown hts hW k_t hl.1 rfl rfl (Nat.le_of_ble_eq_true rfl) ⟨⟨Nat.le_of_ble_eq_true rfl, Nat.le_of_ble_eq_true rfl⟩, ⟨Nat.le_of_ble_eq_true rfl, Nat.le_of_ble_eq_true rfl⟩⟩ dAT_sync_2 (fun r_1 S_1 H locs e_1 hW m_1 _ => ?_)
  obtain ⟨e1_1, e2_1⟩ := e_1
  rw [e2_1] at hW m_1
  rw [e1_1]
  have kq_2 : ∀ b, (findTable_R S t n) = some b → kd S b = 7 := kq_findTable hW.ok k_t hn _
  refine q_astore (lv' := [(4, va_rf (findTable_R S t n)), (0, .ref t), (1, .int n), (2, .long by_)]) hx hb dAT_sync_5 hl (by decide) rfl (fun ls hl => ?_)
  refine q_aload hx hb dAT_sync_7 (lv_at hl 0 rfl) ?_
  refine q_ifnonnull (tgt := 14) hx hb dAT_sync_9 (by decide) (fun n_3 => ?_) (fun b_3 n_3 => ?_)
  · refine lv_iconst (v := (-1 : Int32)) hx hb dAT_sync_12 (by decide) ?_
    exact e_i hsz hx hb hr hlk hW (mono.rf S) (Nat.le_of_ble_eq_true rfl) (Nat.le_of_ble_eq_true rfl) dAT_sync_13 ⟨(by refine Eq.symm ?_; refine (op_none n_3).trans ?_; rfl), (by refine Eq.symm ?_; refine (op_none n_3).trans ?_; rfl)⟩
  · have k_b_3 : kd S b_3 = 7 := kq_2 b_3 n_3
    refine lv_lload_n hx hb dAT_sync_14 rfl (lv_at hl 3 rfl) ?_
    refine lv_ldc2 (v := (-1000 : Int64)) hx hb hown (hts _ QAT_170) dAT_sync_15 ?_
    refine q_aload hx hb dAT_sync_18 (lv_at hl 0 rfl) ?_
    refine q_some n_3 ?_
    refine g_l FAT_151 hx hb hts hown hW k_b_3 dAT_sync_20 ?_
    refine lv_lsub hx hb dAT_sync_23 ?_
    refine ll_lt (tgt := 42) hx hb dAT_sync_24 dAT_sync_25 (by decide) (fun c_4 => ?_) (fun c_4 => ?_)
    · refine lv_bipush (v := (-2 : Int32)) hx hb dAT_sync_42 (by decide) ?_
      exact e_i hsz hx hb hr hlk hW (mono.rf S) (Nat.le_of_ble_eq_true rfl) (Nat.le_of_ble_eq_true rfl) dAT_sync_44 ⟨(by refine Eq.symm ?_; refine (op_some n_3).trans ?_; refine (if_pos c_4).trans ?_; rfl), (by refine Eq.symm ?_; refine (op_some n_3).trans ?_; refine (if_pos c_4).trans ?_; rfl)⟩
    · refine lv_lload_n hx hb dAT_sync_28 rfl (lv_at hl 3 rfl) ?_
      refine lv_ldc2 (v := (1000 : Int64)) hx hb hown (hts _ QAT_36) dAT_sync_29 ?_
      refine q_aload hx hb dAT_sync_32 (lv_at hl 0 rfl) ?_
      refine q_some n_3 ?_
      refine g_l FAT_151 hx hb hts hown hW k_b_3 dAT_sync_34 ?_
      refine lv_lsub hx hb dAT_sync_37 ?_
      refine ll_le (tgt := 45) hx hb dAT_sync_38 dAT_sync_39 (by decide) (fun c_5 => ?_) (fun c_5 => ?_)
      · refine q_aload hx hb dAT_sync_45 (lv_at hl 0 rfl) ?_
        refine q_some n_3 ?_
        refine g_i FAT_131 hx hb hts hown hW k_b_3 dAT_sync_47 ?_
        refine lv_if_ne (tgt := 56) hx hb dAT_sync_50 (by decide) (fun c_6 => ?_) (fun c_6 => ?_)
        · refine q_aload hx hb dAT_sync_56 (lv_at hl 0 rfl) ?_
          refine lv_dup hx hb dAT_sync_58 (q_cat _) ?_
          refine q_some n_3 ?_
          refine g_l FAT_151 hx hb hts hown hW k_b_3 dAT_sync_59 ?_
          refine lv_lload_n hx hb dAT_sync_62 rfl (lv_at hl 3 rfl) ?_
          refine lv_ladd hx hb dAT_sync_63 ?_
          refine q_some1 n_3 ?_
          refine p_l FAT_151 GTable_drift (fun h => by cases h) hx hb hts hown hW k_b_3 dAT_sync_64 (fun H locs hW => ?_)
          have mo := mo.tr (mono_sfl (k := 11) (a := b_3) (v := ((fl S 11 b_3) + by_)))
          have nnp_7 : nn (sfl S 11 b_3 ((fl S 11 b_3) + by_)) := nn_sfl hn
          refine q_aload hx hb dAT_sync_67 (lv_at hl 0 rfl) ?_
          refine q_some n_3 ?_
          refine g_l FAT_151 hx hb hts hown hW k_b_3 dAT_sync_69 ?_
          rw [show fl (sfl S 11 b_3 ((fl S 11 b_3) + by_)) 11 b_3 = ((fl S 11 b_3) + by_) from up2_self _ _ _ _]
          refine lv_l2i hx hb dAT_sync_72 rfl ?_
          exact e_i hsz hx hb hr hlk hW (mo) (Nat.le_of_ble_eq_true rfl) (Nat.le_of_ble_eq_true rfl) dAT_sync_73 ⟨(by refine Eq.symm ?_; refine (op_some n_3).trans ?_; refine (if_neg c_4).trans ?_; refine (if_neg c_5).trans ?_; refine (if_neg c_6).trans ?_; rfl), (by refine Eq.symm ?_; refine (op_some n_3).trans ?_; refine (if_neg c_4).trans ?_; refine (if_neg c_5).trans ?_; refine (if_neg c_6).trans ?_; rfl)⟩
        · refine lv_bipush (v := (-3 : Int32)) hx hb dAT_sync_53 (by decide) ?_
          exact e_i hsz hx hb hr hlk hW (mono.rf S) (Nat.le_of_ble_eq_true rfl) (Nat.le_of_ble_eq_true rfl) dAT_sync_55 ⟨(by refine Eq.symm ?_; refine (op_some n_3).trans ?_; refine (if_neg c_4).trans ?_; refine (if_neg c_5).trans ?_; refine (if_pos c_6).trans ?_; rfl), (by refine Eq.symm ?_; refine (op_some n_3).trans ?_; refine (if_neg c_4).trans ?_; refine (if_neg c_5).trans ?_; refine (if_pos c_6).trans ?_; rfl)⟩
      · refine lv_bipush (v := (-2 : Int32)) hx hb dAT_sync_42 (by decide) ?_
        exact e_i hsz hx hb hr hlk hW (mono.rf S) (Nat.le_of_ble_eq_true rfl) (Nat.le_of_ble_eq_true rfl) dAT_sync_44 ⟨(by refine Eq.symm ?_; refine (op_some n_3).trans ?_; refine (if_neg c_4).trans ?_; refine (if_pos c_5).trans ?_; rfl), (by refine Eq.symm ?_; refine (op_some n_3).trans ?_; refine (if_neg c_4).trans ?_; refine (if_pos c_5).trans ?_; rfl)⟩

def deviation_R (S : HS) (t : Nat) (n : Int32) : Int64 :=
  opc (findTable_R S t n) ((0 : Int64))
  (fun b_3 => fl S 11 b_3)
set_option maxRecDepth 20000 in
set_option maxHeartbeats 2000000 in
theorem c_deviation (l : Launch) (D : va_G) (AC : Nat → ClassId) (S : HS) (t : Nat) (n : Int32)  (k_t : kd S t = 8) (hn : nn S) (ha : atOk S t) : CtL l yAT_deviation (Cond.code yAT_deviation cAT_deviation 3 (some .long) :: wT) 1 24 D AC S [.ref t, .int n] 0 0 (fun r S' => r = deviation_R S t n ∧ S' = S) := by
  refine met_of (by decide) (Nat.le_of_ble_eq_true rfl) ?_
  intro p e s m below meth c ls hsz X hW hl
  obtain ⟨hx, hb, hml, hr, hlk, hown, hnm, hts⟩ := X
  have hl : lv_has ls 3 [(0, .ref t), (1, .int n)] := hl
  have mo : mono S S := mono.rf S
  refine lv_aload_n hx hb dAT_deviation_0 rfl (lv_at hl 0 rfl) ?_
  refine lv_iload_n hx hb dAT_deviation_1 rfl (lv_at hl 1 rfl) ?_
  refine k_Vq (As := [.int n]) (rest := []) (c_findTable l D AC S t n k_t hn ha) CAT_124 ⟨by decide, by decide, _, rfl, rfl⟩ hx hb hml hown hts hW k_t hl.1 rfl rfl (Nat.le_of_ble_eq_true rfl) ⟨⟨Nat.le_of_ble_eq_true rfl, Nat.le_of_ble_eq_true rfl⟩, ⟨Nat.le_of_ble_eq_true rfl, Nat.le_of_ble_eq_true rfl⟩⟩ dAT_deviation_2 (fun r_1 S_1 H locs e_1 hW m_1 _ => ?_)
  obtain ⟨e1_1, e2_1⟩ := e_1
  rw [e2_1] at hW m_1
  rw [e1_1]
  have kq_2 : ∀ b, (findTable_R S t n) = some b → kd S b = 7 := kq_findTable hW.ok k_t hn _
  refine q_astore_n (i := 2) (lv' := [(2, va_rf (findTable_R S t n)), (0, .ref t), (1, .int n)]) hx hb dAT_deviation_5 rfl hl (by decide) rfl (fun ls hl => ?_)
  refine q_aload_n hx hb dAT_deviation_6 rfl (lv_at hl 0 rfl) ?_
  refine q_ifnonnull (tgt := 14) hx hb dAT_deviation_7 (by decide) (fun n_3 => ?_) (fun b_3 n_3 => ?_)
  · refine lv_lconst (v := (0 : Int64)) hx hb dAT_deviation_10 (by decide) ?_
    refine lv_goto (tgt := 18) hx hb dAT_deviation_11 (by decide) ?_
    exact e_l hsz hx hb hr hlk hW (mono.rf S) (Nat.le_of_ble_eq_true rfl) (Nat.le_of_ble_eq_true rfl) dAT_deviation_18 ⟨(by refine Eq.symm ?_; refine (op_none n_3).trans ?_; rfl), rfl⟩
  · have k_b_3 : kd S b_3 = 7 := kq_2 b_3 n_3
    refine q_aload_n hx hb dAT_deviation_14 rfl (lv_at hl 0 rfl) ?_
    refine q_some n_3 ?_
    refine g_l FAT_151 hx hb hts hown hW k_b_3 dAT_deviation_15 ?_
    exact e_l hsz hx hb hr hlk hW (mono.rf S) (Nat.le_of_ble_eq_true rfl) (Nat.le_of_ble_eq_true rfl) dAT_deviation_18 ⟨(by refine Eq.symm ?_; refine (op_some n_3).trans ?_; rfl), rfl⟩
