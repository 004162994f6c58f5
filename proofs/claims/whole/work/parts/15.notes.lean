def pgOk (S : HS) : Prop := ∀ b, kd S b = 5 → an S (gd (fr S 10 b)) = 1000
theorem nnk5 {k : Nat} (h : nnk k = true) (h2 : rO k = 5) : k = 10 := by
  unfold nnk at h
  split at h <;> first | rfl | (cases h2) | (cases h)
theorem nn_pg {S : HS} {q : Nat} (hq : hz S = q) (h : nn S) (hf : kd S q = 0) : nn (Page_init_S (newQ S q 5) q) := by
  intro k a hk ha
  have ha : va_up (va_up (kd S) q 5) (hz S + 1) 11 a = rO k := ha
  show ∃ b, up2 (zr (fr S) q none) 10 q (some (hz S + 1)) k a = some b
  by_cases h1 : a = hz S + 1
  · subst h1
    rw [va_up_self] at ha
    exact absurd ha.symm (rO_obj k 11 (by decide) (by decide))
  · rw [va_up_ne _ _ h1] at ha
    by_cases h2 : a = q
    · subst h2
      rw [va_up_self] at ha
      have := nnk5 hk ha.symm
      subst this
      exact ⟨_, up2_self _ _ _ _⟩
    · rw [va_up_ne _ _ h2] at ha
      obtain ⟨b, hb⟩ := h k a hk ha
      exact ⟨b, by rw [up2_a _ _ _ _ h2]; simp only [zr, h2, if_false]; exact hb⟩
theorem Wd.k0 {D : va_G} {AC : Nat → ClassId} {A : Nat → Prop} {s : State} {H0 H : Heap} {locs : List Loc} {S : HS} (hW : Wd D AC A s H0 H locs S) : kd S (hz S) = 0 := Classical.byContradiction fun z => hW.fresh (hW.ok.1 _ z)
theorem dv250 {k : Int32} (h : k = nI k.toNatClampNeg) (hn : k.toNatClampNeg ≤ 3000) : k / 250 = nI (k.toNatClampNeg / 250) := by
  generalize k.toNatClampNeg = n at h hn
  subst h
  exact pk_div (by omega) (by decide) (by decide)
theorem ix_w {k : Int32} (h : k = nI k.toNatClampNeg) (hn : k.toNatClampNeg ≤ 3000) : ((k - k / 250 * 250) * 4) = nI ((k - k / 250 * 250) * 4).toNatClampNeg ∧ ((k - k / 250 * 250) * 4).toNatClampNeg + 4 ≤ 1000 := by
  generalize k.toNatClampNeg = n at h hn
  subst h
  have e : (nI n - nI n / 250 * 250) * 4 = nI (n % 250 * 4) := by
    rw [show nI n - nI n / 250 * 250 = nI (n % 250) from pk_rem (by omega) (by decide) (by decide)]
    exact pk_mul _ 4
  have : n % 250 < 250 := Nat.mod_lt _ (by decide)
  rw [e, nI_clamp (by omega)]
  exact ⟨rfl, by omega⟩
def addC (S : HS) (t : Nat) : Nat := if fi S 4 t < (3000 : Int32) then opc (ar S (gd (fr S 9 t)) (fi S 4 t / (250 : Int32)).toNatClampNeg) 2 (fun _ => 0) else 0
def addM (S : HS) (t : Nat) : Nat := if fi S 4 t < (3000 : Int32) then opc (ar S (gd (fr S 9 t)) (fi S 4 t / (250 : Int32)).toNatClampNeg) 1001 (fun _ => 0) else 0

theorem pg_in {k : Int32} (h : k = nI k.toNatClampNeg) (hn : k.toNatClampNeg ≤ 3000) (c : k < 3000) {len : Nat} (hl : len = 12) : vp_in (k / 250) len := by
  have h1 : k.toNatClampNeg < 3000 := by
    rw [h] at c
    exact (nI_ltI (b := 3000) (by omega) (by decide)).mp c
  rw [dv250 h hn, hl]
  exact vp_in_nI (by omega) (by decide)

theorem kk_sfi {S : HS} {k a b K : Nat} {v : Int32} (h : kd S b = K) : kd (sfi S k a v) b = K := h
theorem ka_sfi {S : HS} {k a b K : Nat} {v : Int32} (h : an S b = K) : an (sfi S k a v) b = K := h
theorem kk_sfl {S : HS} {k a b K : Nat} {v : Int64} (h : kd S b = K) : kd (sfl S k a v) b = K := h
theorem ka_sfl {S : HS} {k a b K : Nat} {v : Int64} (h : an S b = K) : an (sfl S k a v) b = K := h
theorem kk_sfr {S : HS} {k a b K : Nat} {v : Option Nat} (h : kd S b = K) : kd (sfr S k a v) b = K := h
theorem ka_sfr {S : HS} {k a b K : Nat} {v : Option Nat} (h : an S b = K) : an (sfr S k a v) b = K := h
theorem kk_sai {S : HS} {a i b K : Nat} {v : Int32} (h : kd S b = K) : kd (sai S a i v) b = K := h
theorem ka_sai {S : HS} {a i b K : Nat} {v : Int32} (h : an S b = K) : an (sai S a i v) b = K := h
theorem kk_sal {S : HS} {a i b K : Nat} {v : Int64} (h : kd S b = K) : kd (sal S a i v) b = K := h
theorem ka_sal {S : HS} {a i b K : Nat} {v : Int64} (h : an S b = K) : an (sal S a i v) b = K := h
theorem kk_sar {S : HS} {a i b K : Nat} {v : Option Nat} (h : kd S b = K) : kd (sar S a i v) b = K := h
theorem ka_sar {S : HS} {a i b K : Nat} {v : Option Nat} (h : an S b = K) : an (sar S a i v) b = K := h

def add_S (S : HS) (t : Nat) (kn : Int32) (nb : Int32) (of_ : Int64) (vl : Int64) : HS :=
  if (fi S 4 t) < (3000 : Int32) then
    opc (ar S (gd (fr S 9 t)) ((fi S 4 t) / (250 : Int32)).toNatClampNeg) ((sfi (write_S (sar (Page_init_S (newQ (sfi S 5 t ((fi S 5 t) + (1 : Int32))) (hz S) 5) (hz S)) (gd (fr S 9 t)) ((fi S 4 t) / (250 : Int32)).toNatClampNeg (some (hz S))) (hz S) (((fi S 4 t) - (fi S 4 t) / (250 : Int32) * (250 : Int32)) * (4 : Int32)) kn nb of_ vl) 4 t ((fi (write_S (sar (Page_init_S (newQ (sfi S 5 t ((fi S 5 t) + (1 : Int32))) (hz S) 5) (hz S)) (gd (fr S 9 t)) ((fi S 4 t) / (250 : Int32)).toNatClampNeg (some (hz S))) (hz S) (((fi S 4 t) - (fi S 4 t) / (250 : Int32) * (250 : Int32)) * (4 : Int32)) kn nb of_ vl) 4 t) + (1 : Int32))))
    (fun b_7 => (sfi (write_S (sfi S 5 t ((fi S 5 t) + (1 : Int32))) b_7 (((fi S 4 t) - (fi S 4 t) / (250 : Int32) * (250 : Int32)) * (4 : Int32)) kn nb of_ vl) 4 t ((fi (write_S (sfi S 5 t ((fi S 5 t) + (1 : Int32))) b_7 (((fi S 4 t) - (fi S 4 t) / (250 : Int32) * (250 : Int32)) * (4 : Int32)) kn nb of_ vl) 4 t) + (1 : Int32))))
  else
    (sfi S 5 t ((fi S 5 t) + (1 : Int32)))
set_option maxRecDepth 20000 in
set_option maxHeartbeats 2000000 in
theorem c_add (l : Launch) (D : va_G) (AC : Nat → ClassId) (S : HS) (t : Nat) (kn : Int32) (nb : Int32) (of_ : Int64) (vl : Int64)  (k_t : kd S t = 4) (hn : nn S) (hk : fi S 4 t = nI (fi S 4 t).toNatClampNeg) (hle : (fi S 4 t).toNatClampNeg ≤ 3000) (hlp : an S (gd (fr S 9 t)) = 12) (hpg : pgOk S) : CtV l yNotes_add (Cond.code yNotes_add cNotes_add 8 none :: wT) 2 40 D AC S [.ref t, .int kn, .int nb, .long of_, .long vl] (addC S t) (addM S t) (fun S' => S' = add_S S t kn nb of_ vl) := by
  refine met_of (by decide) (Nat.le_of_ble_eq_true rfl) ?_
  intro p e s m below meth c ls hsz X hW hl
  obtain ⟨hx, hb, hml, hr, hlk, hown, hnm, hts⟩ := X
  have hl : lv_has ls 8 [(0, .ref t), (1, .int kn), (2, .int nb), (3, .long of_), (5, .long vl)] := hl
  have mo : mono S S := mono.rf S
  refine lv_aload_n hx hb dNotes_add_0 rfl (lv_at hl 0 rfl) ?_
  refine lv_dup hx hb dNotes_add_1 rfl ?_
  refine g_i FNotes_17 hx hb hts hown hW k_t dNotes_add_2 ?_
  refine lv_iconst (v := (1 : Int32)) hx hb dNotes_add_5 (by decide) ?_
  refine lv_iadd hx hb dNotes_add_6 ?_
  refine p_i FNotes_17 GNotes_total (fun h => by cases h) hx hb hts hown hW k_t rfl rfl dNotes_add_7 (fun H locs hW => ?_)
  have mo := mo.tr (mono_sfi (k := 5) (a := t) (v := ((fi S 5 t) + (1 : Int32))))
  have k_t : kd (sfi S 5 t ((fi S 5 t) + (1 : Int32))) t = 4 := kk_sfi k_t
  have nnp_1 : nn (sfi S 5 t ((fi S 5 t) + (1 : Int32))) := nn_sfi hn
  refine lv_aload_n hx hb dNotes_add_10 rfl (lv_at hl 0 rfl) ?_
  refine g_i FNotes_21 hx hb hts hown hW k_t dNotes_add_11 ?_
  rw [show fi (sfi S 5 t ((fi S 5 t) + (1 : Int32))) 4 t = fi S 4 t from rfl]
  refine lv_sipush (v := (3000 : Int32)) hx hb dNotes_add_14 (by decide) ?_
  refine lv_icmp_lt (tgt := 21) hx hb dNotes_add_17 (by decide) (fun c_2 => ?_) (fun c_2 => ?_)
  · refine lv_aload_n hx hb dNotes_add_21 rfl (lv_at hl 0 rfl) ?_
    refine g_i FNotes_21 hx hb hts hown hW k_t dNotes_add_22 ?_
    rw [show fi (sfi S 5 t ((fi S 5 t) + (1 : Int32))) 4 t = fi S 4 t from rfl]
    refine lv_sipush (v := (250 : Int32)) hx hb dNotes_add_25 (by decide) ?_
    refine lv_idiv hx hb dNotes_add_28 (by decide) ?_
    refine lv_istore (lv' := [(7, .int ((fi S 4 t) / (250 : Int32))), (0, .ref t), (1, .int kn), (2, .int nb), (3, .long of_), (5, .long vl)]) hx hb dNotes_add_29 hl (by decide) rfl (fun ls hl => ?_)
    refine lv_aload_n hx hb dNotes_add_31 rfl (lv_at hl 1 rfl) ?_
    have kq_3 : ∀ b, fr S 9 t = some b → kd (sfi S 5 t ((fi S 5 t) + (1 : Int32))) b = 17 := fun b h => hW.ok.2.1 9 t b k_t h
    refine g_q FNotes_11 hx hb hts hown hW k_t dNotes_add_32 ?_
    rw [show fr (sfi S 5 t ((fi S 5 t) + (1 : Int32))) 9 t = fr S 9 t from rfl]
    refine lv_iload hx hb dNotes_add_35 (lv_at hl 0 rfl) ?_
    have n_4 : fr S 9 t = some (gd (fr S 9 t)) := gd_some (hn 9 t rfl k_t)
    have kb_5 : kd (sfi S 5 t ((fi S 5 t) + (1 : Int32))) (gd (fr S 9 t)) = 17 := kq_3 (gd (fr S 9 t)) n_4
    refine q_some1 n_4 ?_
    have kq_6 : ∀ b, ar S (gd (fr S 9 t)) ((fi S 4 t) / (250 : Int32)).toNatClampNeg = some b → kd (sfi S 5 t ((fi S 5 t) + (1 : Int32))) b = 5 := fun b h => (hW.ok.2.2 (gd (fr S 9 t)) _ b (by rw [kb_5]; decide) h).trans (by rw [kb_5]; rfl)
    refine a_q (K := 17) (t0 := 6) (by decide) rfl hx hb hW kb_5 (pg_in hk hle c_2 hlp) dNotes_add_37 ?_
    rw [show ar (sfi S 5 t ((fi S 5 t) + (1 : Int32))) (gd (fr S 9 t)) ((fi S 4 t) / (250 : Int32)).toNatClampNeg = ar S (gd (fr S 9 t)) ((fi S 4 t) / (250 : Int32)).toNatClampNeg from rfl]
    refine q_ifnonnull (tgt := 55) hx hb dNotes_add_38 (by decide) (fun n_7 => ?_) (fun b_7 n_7 => ?_)
    · refine lv_aload_n hx hb dNotes_add_41 rfl (lv_at hl 1 rfl) ?_
      refine g_q FNotes_11 hx hb hts hown hW k_t dNotes_add_42 ?_
      rw [show fr (sfi S 5 t ((fi S 5 t) + (1 : Int32))) 9 t = fr S 9 t from rfl]
      refine lv_iload hx hb dNotes_add_45 (lv_at hl 0 rfl) ?_
      have ne8_0 : t ≠ (hz S) := hW.ne k_t (by decide)
      have ne8_1 : (gd (fr S 9 t)) ≠ (hz S) := hW.ne kb_5 (by decide)
      have hC : addC S t = 2 := (if_pos c_2).trans (op_none n_7)
      have hM : addM S t = 1001 := (if_pos c_2).trans (op_none n_7)
      have hnew : kd (sfi S 5 t ((fi S 5 t) + (1 : Int32))) (hz S) = 0 := hW.k0
      refine n_o (NNotes_9).1 rfl (NNotes_9).2.1 iwPage (NNotes_9).2.2 hx hb hts hown hW ⟨by show _ ≤ addC S t; omega, by show _ ≤ addM S t; omega⟩ (hz S) rfl dNotes_add_47 (fun H hW m_8 k_q8 => ?_)
      have hlp := m_8.n kb_5 (by decide) hlp
      have k_t := m_8.k k_t (by decide)
      have kb_5 := m_8.k kb_5 (by decide)
      have kq_3 := fun b h => m_8.k (kq_3 b h) (by decide)
      have kq_6 := fun b h => m_8.k (kq_6 b h) (by decide)
      have mo := mo.tr m_8
      refine lv_dup hx hb dNotes_add_50 rfl ?_
      refine k_Nv (As := []) (rest := [.ref (hz S), .int ((fi S 4 t) / (250 : Int32)), va_rf (fr S 9 t)]) (c_Page_init l D AC (newQ (sfi S 5 t ((fi S 5 t) + (1 : Int32))) (hz S) 5) (hz S) k_q8) CNotes_24 hx hb hml hown hts hW hl.1 rfl rfl (by simp [q_cat, cat_r, cat_i, cat_l, cat_n]) ⟨⟨Nat.le_of_ble_eq_true rfl, Nat.le_of_ble_eq_true rfl⟩, ⟨by show _ ≤ addC S t; omega, by show _ ≤ addM S t; omega⟩⟩ dNotes_add_51 (fun S_9 H locs e_9 hW m_9 _ => ?_)
      rw [e_9] at hW m_9
      have hlp := m_9.n kb_5 (by decide) hlp
      have k_t := m_9.k k_t (by decide)
      have kb_5 := m_9.k kb_5 (by decide)
      have k_q8 := m_9.k k_q8 (by decide)
      have kq_3 := fun b h => m_9.k (kq_3 b h) (by decide)
      have kq_6 := fun b h => m_9.k (kq_6 b h) (by decide)
      have mo := mo.tr m_9
      have nnp_10 : nn (Page_init_S (newQ (sfi S 5 t ((fi S 5 t) + (1 : Int32))) (hz S) 5) (hz S)) := nn_pg rfl nnp_1 hnew
      refine q_some2 n_4 ?_
      refine a_rs (K := 17) (t0 := 6) (by decide) rfl (r := (RPage, TPage, 1)) ⟨rfl, rfl⟩ hx hb hW kb_5 k_q8 (pg_in hk hle c_2 hlp) dNotes_add_54 (fun H locs hW => ?_)
      have mo := mo.tr (mono_sar (a := (gd (fr S 9 t))) (i := ((fi S 4 t) / (250 : Int32)).toNatClampNeg) (v := (some (hz S))))
      have hlp : an (sar (Page_init_S (newQ (sfi S 5 t ((fi S 5 t) + (1 : Int32))) (hz S) 5) (hz S)) (gd (fr S 9 t)) ((fi S 4 t) / (250 : Int32)).toNatClampNeg (some (hz S))) (gd (fr S 9 t)) = 12 := ka_sar hlp
      have k_t : kd (sar (Page_init_S (newQ (sfi S 5 t ((fi S 5 t) + (1 : Int32))) (hz S) 5) (hz S)) (gd (fr S 9 t)) ((fi S 4 t) / (250 : Int32)).toNatClampNeg (some (hz S))) t = 4 := kk_sar k_t
      have kb_5 : kd (sar (Page_init_S (newQ (sfi S 5 t ((fi S 5 t) + (1 : Int32))) (hz S) 5) (hz S)) (gd (fr S 9 t)) ((fi S 4 t) / (250 : Int32)).toNatClampNeg (some (hz S))) (gd (fr S 9 t)) = 17 := kk_sar kb_5
      have k_q8 : kd (sar (Page_init_S (newQ (sfi S 5 t ((fi S 5 t) + (1 : Int32))) (hz S) 5) (hz S)) (gd (fr S 9 t)) ((fi S 4 t) / (250 : Int32)).toNatClampNeg (some (hz S))) (hz S) = 5 := kk_sar k_q8
      have kq_3 : ∀ b, fr S 9 t = some b → kd (sar (Page_init_S (newQ (sfi S 5 t ((fi S 5 t) + (1 : Int32))) (hz S) 5) (hz S)) (gd (fr S 9 t)) ((fi S 4 t) / (250 : Int32)).toNatClampNeg (some (hz S))) b = 17 := fun b h => kk_sar (kq_3 b h)
      have kq_6 : ∀ b, ar S (gd (fr S 9 t)) ((fi S 4 t) / (250 : Int32)).toNatClampNeg = some b → kd (sar (Page_init_S (newQ (sfi S 5 t ((fi S 5 t) + (1 : Int32))) (hz S) 5) (hz S)) (gd (fr S 9 t)) ((fi S 4 t) / (250 : Int32)).toNatClampNeg (some (hz S))) b = 5 := fun b h => kk_sar (kq_6 b h)
      have nnp_11 : nn (sar (Page_init_S (newQ (sfi S 5 t ((fi S 5 t) + (1 : Int32))) (hz S) 5) (hz S)) (gd (fr S 9 t)) ((fi S 4 t) / (250 : Int32)).toNatClampNeg (some (hz S))) := nn_sar nnp_10
      refine lv_aload_n hx hb dNotes_add_55 rfl (lv_at hl 1 rfl) ?_
      refine g_q FNotes_11 hx hb hts hown hW k_t dNotes_add_56 ?_
      rw [show fr (sar (Page_init_S (newQ (sfi S 5 t ((fi S 5 t) + (1 : Int32))) (hz S) 5) (hz S)) (gd (fr S 9 t)) ((fi S 4 t) / (250 : Int32)).toNatClampNeg (some (hz S))) 9 t = fr S 9 t from (by simp only [Page_init_S, ne8_0, fr_sfr, fr_sfi, fr_sfl, fr_sar, fr_sai, fr_sal, fi_sfr, fi_sfi, fi_sfl, fi_sar, fi_sai, fi_sal, fl_sfr, fl_sfi, fl_sfl, fl_sar, fl_sai, fl_sal, fr_newQ, fi_newQ, fl_newQ, fr_newB, fi_newB, fl_newB, ne_eq, not_false_eq_true] <;> rfl)]
      refine lv_iload hx hb dNotes_add_59 (lv_at hl 0 rfl) ?_
      refine q_some1 n_4 ?_
      refine a_q (K := 17) (t0 := 6) (by decide) rfl hx hb hW kb_5 (pg_in hk hle c_2 hlp) dNotes_add_61 ?_
      rw [show ar (sar (Page_init_S (newQ (sfi S 5 t ((fi S 5 t) + (1 : Int32))) (hz S) 5) (hz S)) (gd (fr S 9 t)) ((fi S 4 t) / (250 : Int32)).toNatClampNeg (some (hz S))) (gd (fr S 9 t)) ((fi S 4 t) / (250 : Int32)).toNatClampNeg = some (hz S) from up2_self _ _ _ _]
      refine q_some rfl ?_
      refine lv_aload_n hx hb dNotes_add_62 rfl (lv_at hl 1 rfl) ?_
      refine g_i FNotes_21 hx hb hts hown hW k_t dNotes_add_63 ?_
      rw [show fi (sar (Page_init_S (newQ (sfi S 5 t ((fi S 5 t) + (1 : Int32))) (hz S) 5) (hz S)) (gd (fr S 9 t)) ((fi S 4 t) / (250 : Int32)).toNatClampNeg (some (hz S))) 4 t = fi S 4 t from (by simp only [Page_init_S, ne8_0, fr_sfr, fr_sfi, fr_sfl, fr_sar, fr_sai, fr_sal, fi_sfr, fi_sfi, fi_sfl, fi_sar, fi_sai, fi_sal, fl_sfr, fl_sfi, fl_sfl, fl_sar, fl_sai, fl_sal, fr_newQ, fi_newQ, fl_newQ, fr_newB, fi_newB, fl_newB, ne_eq, not_false_eq_true] <;> rfl)]
      refine lv_sipush (v := (250 : Int32)) hx hb dNotes_add_66 (by decide) ?_
      refine lv_irem hx hb dNotes_add_69 (by decide) ?_
      refine lv_iconst (v := (4 : Int32)) hx hb dNotes_add_70 (by decide) ?_
      refine lv_imul hx hb dNotes_add_71 ?_
      refine lv_iload_n hx hb dNotes_add_72 rfl (lv_at hl 2 rfl) ?_
      refine lv_iload_n hx hb dNotes_add_73 rfl (lv_at hl 3 rfl) ?_
      refine lv_lload_n hx hb dNotes_add_74 rfl (lv_at hl 4 rfl) ?_
      refine lv_lload hx hb dNotes_add_75 (lv_at hl 5 rfl) ?_
      refine k_Vv (As := [.int (((fi S 4 t) - (fi S 4 t) / (250 : Int32) * (250 : Int32)) * (4 : Int32)), .int kn, .int nb, .long of_, .long vl]) (rest := []) (c_write l D AC (sar (Page_init_S (newQ (sfi S 5 t ((fi S 5 t) + (1 : Int32))) (hz S) 5) (hz S)) (gd (fr S 9 t)) ((fi S 4 t) / (250 : Int32)).toNatClampNeg (some (hz S))) (hz S) (((fi S 4 t) - (fi S 4 t) / (250 : Int32) * (250 : Int32)) * (4 : Int32)) kn nb of_ vl k_q8 nnp_11 ((ix_w hk hle).1) ((ix_w hk hle).2) (by simp [Page_init_S, gd, fr, sfr, sar, up2, an, kd, newB, newQ, va_up])) CNotes_25 ⟨by decide, by decide, _, rfl, rfl⟩ hx hb hml hown hts hW k_q8 hl.1 rfl rfl (Nat.le_of_ble_eq_true rfl) ⟨⟨Nat.le_of_ble_eq_true rfl, Nat.le_of_ble_eq_true rfl⟩, ⟨by show _ ≤ addC S t; omega, by show _ ≤ addM S t; omega⟩⟩ dNotes_add_77 (fun S_12 H locs e_12 hW m_12 _ => ?_)
      rw [e_12] at hW m_12
      have hlp := m_12.n kb_5 (by decide) hlp
      have k_t := m_12.k k_t (by decide)
      have kb_5 := m_12.k kb_5 (by decide)
      have k_q8 := m_12.k k_q8 (by decide)
      have kq_3 := fun b h => m_12.k (kq_3 b h) (by decide)
      have kq_6 := fun b h => m_12.k (kq_6 b h) (by decide)
      have mo := mo.tr m_12
      refine lv_aload_n hx hb dNotes_add_80 rfl (lv_at hl 1 rfl) ?_
      refine lv_dup hx hb dNotes_add_81 rfl ?_
      refine g_i FNotes_21 hx hb hts hown hW k_t dNotes_add_82 ?_
      refine lv_iconst (v := (1 : Int32)) hx hb dNotes_add_85 (by decide) ?_
      refine lv_iadd hx hb dNotes_add_86 ?_
      refine p_i FNotes_21 GNotes_kept (fun h => by cases h) hx hb hts hown hW k_t rfl rfl dNotes_add_87 (fun H locs hW => ?_)
      have mo := mo.tr (mono_sfi (k := 4) (a := t) (v := ((fi (write_S (sar (Page_init_S (newQ (sfi S 5 t ((fi S 5 t) + (1 : Int32))) (hz S) 5) (hz S)) (gd (fr S 9 t)) ((fi S 4 t) / (250 : Int32)).toNatClampNeg (some (hz S))) (hz S) (((fi S 4 t) - (fi S 4 t) / (250 : Int32) * (250 : Int32)) * (4 : Int32)) kn nb of_ vl) 4 t) + (1 : Int32))))
      have hlp : an (sfi (write_S (sar (Page_init_S (newQ (sfi S 5 t ((fi S 5 t) + (1 : Int32))) (hz S) 5) (hz S)) (gd (fr S 9 t)) ((fi S 4 t) / (250 : Int32)).toNatClampNeg (some (hz S))) (hz S) (((fi S 4 t) - (fi S 4 t) / (250 : Int32) * (250 : Int32)) * (4 : Int32)) kn nb of_ vl) 4 t ((fi (write_S (sar (Page_init_S (newQ (sfi S 5 t ((fi S 5 t) + (1 : Int32))) (hz S) 5) (hz S)) (gd (fr S 9 t)) ((fi S 4 t) / (250 : Int32)).toNatClampNeg (some (hz S))) (hz S) (((fi S 4 t) - (fi S 4 t) / (250 : Int32) * (250 : Int32)) * (4 : Int32)) kn nb of_ vl) 4 t) + (1 : Int32))) (gd (fr S 9 t)) = 12 := ka_sfi hlp
      have k_t : kd (sfi (write_S (sar (Page_init_S (newQ (sfi S 5 t ((fi S 5 t) + (1 : Int32))) (hz S) 5) (hz S)) (gd (fr S 9 t)) ((fi S 4 t) / (250 : Int32)).toNatClampNeg (some (hz S))) (hz S) (((fi S 4 t) - (fi S 4 t) / (250 : Int32) * (250 : Int32)) * (4 : Int32)) kn nb of_ vl) 4 t ((fi (write_S (sar (Page_init_S (newQ (sfi S 5 t ((fi S 5 t) + (1 : Int32))) (hz S) 5) (hz S)) (gd (fr S 9 t)) ((fi S 4 t) / (250 : Int32)).toNatClampNeg (some (hz S))) (hz S) (((fi S 4 t) - (fi S 4 t) / (250 : Int32) * (250 : Int32)) * (4 : Int32)) kn nb of_ vl) 4 t) + (1 : Int32))) t = 4 := kk_sfi k_t
      have kb_5 : kd (sfi (write_S (sar (Page_init_S (newQ (sfi S 5 t ((fi S 5 t) + (1 : Int32))) (hz S) 5) (hz S)) (gd (fr S 9 t)) ((fi S 4 t) / (250 : Int32)).toNatClampNeg (some (hz S))) (hz S) (((fi S 4 t) - (fi S 4 t) / (250 : Int32) * (250 : Int32)) * (4 : Int32)) kn nb of_ vl) 4 t ((fi (write_S (sar (Page_init_S (newQ (sfi S 5 t ((fi S 5 t) + (1 : Int32))) (hz S) 5) (hz S)) (gd (fr S 9 t)) ((fi S 4 t) / (250 : Int32)).toNatClampNeg (some (hz S))) (hz S) (((fi S 4 t) - (fi S 4 t) / (250 : Int32) * (250 : Int32)) * (4 : Int32)) kn nb of_ vl) 4 t) + (1 : Int32))) (gd (fr S 9 t)) = 17 := kk_sfi kb_5
      have k_q8 : kd (sfi (write_S (sar (Page_init_S (newQ (sfi S 5 t ((fi S 5 t) + (1 : Int32))) (hz S) 5) (hz S)) (gd (fr S 9 t)) ((fi S 4 t) / (250 : Int32)).toNatClampNeg (some (hz S))) (hz S) (((fi S 4 t) - (fi S 4 t) / (250 : Int32) * (250 : Int32)) * (4 : Int32)) kn nb of_ vl) 4 t ((fi (write_S (sar (Page_init_S (newQ (sfi S 5 t ((fi S 5 t) + (1 : Int32))) (hz S) 5) (hz S)) (gd (fr S 9 t)) ((fi S 4 t) / (250 : Int32)).toNatClampNeg (some (hz S))) (hz S) (((fi S 4 t) - (fi S 4 t) / (250 : Int32) * (250 : Int32)) * (4 : Int32)) kn nb of_ vl) 4 t) + (1 : Int32))) (hz S) = 5 := kk_sfi k_q8
      have kq_3 : ∀ b, fr S 9 t = some b → kd (sfi (write_S (sar (Page_init_S (newQ (sfi S 5 t ((fi S 5 t) + (1 : Int32))) (hz S) 5) (hz S)) (gd (fr S 9 t)) ((fi S 4 t) / (250 : Int32)).toNatClampNeg (some (hz S))) (hz S) (((fi S 4 t) - (fi S 4 t) / (250 : Int32) * (250 : Int32)) * (4 : Int32)) kn nb of_ vl) 4 t ((fi (write_S (sar (Page_init_S (newQ (sfi S 5 t ((fi S 5 t) + (1 : Int32))) (hz S) 5) (hz S)) (gd (fr S 9 t)) ((fi S 4 t) / (250 : Int32)).toNatClampNeg (some (hz S))) (hz S) (((fi S 4 t) - (fi S 4 t) / (250 : Int32) * (250 : Int32)) * (4 : Int32)) kn nb of_ vl) 4 t) + (1 : Int32))) b = 17 := fun b h => kk_sfi (kq_3 b h)
      have kq_6 : ∀ b, ar S (gd (fr S 9 t)) ((fi S 4 t) / (250 : Int32)).toNatClampNeg = some b → kd (sfi (write_S (sar (Page_init_S (newQ (sfi S 5 t ((fi S 5 t) + (1 : Int32))) (hz S) 5) (hz S)) (gd (fr S 9 t)) ((fi S 4 t) / (250 : Int32)).toNatClampNeg (some (hz S))) (hz S) (((fi S 4 t) - (fi S 4 t) / (250 : Int32) * (250 : Int32)) * (4 : Int32)) kn nb of_ vl) 4 t ((fi (write_S (sar (Page_init_S (newQ (sfi S 5 t ((fi S 5 t) + (1 : Int32))) (hz S) 5) (hz S)) (gd (fr S 9 t)) ((fi S 4 t) / (250 : Int32)).toNatClampNeg (some (hz S))) (hz S) (((fi S 4 t) - (fi S 4 t) / (250 : Int32) * (250 : Int32)) * (4 : Int32)) kn nb of_ vl) 4 t) + (1 : Int32))) b = 5 := fun b h => kk_sfi (kq_6 b h)
      exact e_v hsz hx hb hr hlk hW (mo) (by show _ ≤ addC S t; omega) (by show _ ≤ addM S t; omega) dNotes_add_90 ((by refine Eq.symm ?_; refine (if_pos c_2).trans ?_; refine (op_none n_7).trans ?_; rfl))
    · have k_b_7 : kd (sfi S 5 t ((fi S 5 t) + (1 : Int32))) b_7 = 5 := kq_6 b_7 n_7
      refine lv_aload_n hx hb dNotes_add_55 rfl (lv_at hl 1 rfl) ?_
      refine g_q FNotes_11 hx hb hts hown hW k_t dNotes_add_56 ?_
      rw [show fr (sfi S 5 t ((fi S 5 t) + (1 : Int32))) 9 t = fr S 9 t from rfl]
      refine lv_iload hx hb dNotes_add_59 (lv_at hl 0 rfl) ?_
      refine q_some1 n_4 ?_
      refine a_q (K := 17) (t0 := 6) (by decide) rfl hx hb hW kb_5 (pg_in hk hle c_2 hlp) dNotes_add_61 ?_
      rw [show ar (sfi S 5 t ((fi S 5 t) + (1 : Int32))) (gd (fr S 9 t)) ((fi S 4 t) / (250 : Int32)).toNatClampNeg = ar S (gd (fr S 9 t)) ((fi S 4 t) / (250 : Int32)).toNatClampNeg from rfl]
      refine lv_aload_n hx hb dNotes_add_62 rfl (lv_at hl 1 rfl) ?_
      refine g_i FNotes_21 hx hb hts hown hW k_t dNotes_add_63 ?_
      rw [show fi (sfi S 5 t ((fi S 5 t) + (1 : Int32))) 4 t = fi S 4 t from rfl]
      refine lv_sipush (v := (250 : Int32)) hx hb dNotes_add_66 (by decide) ?_
      refine lv_irem hx hb dNotes_add_69 (by decide) ?_
      refine lv_iconst (v := (4 : Int32)) hx hb dNotes_add_70 (by decide) ?_
      refine lv_imul hx hb dNotes_add_71 ?_
      refine lv_iload_n hx hb dNotes_add_72 rfl (lv_at hl 2 rfl) ?_
      refine lv_iload_n hx hb dNotes_add_73 rfl (lv_at hl 3 rfl) ?_
      refine lv_lload_n hx hb dNotes_add_74 rfl (lv_at hl 4 rfl) ?_
      refine lv_lload hx hb dNotes_add_75 (lv_at hl 5 rfl) ?_
      refine q_some5 n_7 ?_
      refine k_Vv (As := [.int (((fi S 4 t) - (fi S 4 t) / (250 : Int32) * (250 : Int32)) * (4 : Int32)), .int kn, .int nb, .long of_, .long vl]) (rest := []) (c_write l D AC (sfi S 5 t ((fi S 5 t) + (1 : Int32))) b_7 (((fi S 4 t) - (fi S 4 t) / (250 : Int32) * (250 : Int32)) * (4 : Int32)) kn nb of_ vl k_b_7 nnp_1 ((ix_w hk hle).1) ((ix_w hk hle).2) (hpg b_7 k_b_7)) CNotes_25 ⟨by decide, by decide, _, rfl, rfl⟩ hx hb hml hown hts hW k_b_7 hl.1 rfl rfl (Nat.le_of_ble_eq_true rfl) ⟨⟨Nat.le_of_ble_eq_true rfl, Nat.le_of_ble_eq_true rfl⟩, ⟨by show _ ≤ addC S t; omega, by show _ ≤ addM S t; omega⟩⟩ dNotes_add_77 (fun S_13 H locs e_13 hW m_13 _ => ?_)
      rw [e_13] at hW m_13
      have hlp := m_13.n kb_5 (by decide) hlp
      have k_t := m_13.k k_t (by decide)
      have kb_5 := m_13.k kb_5 (by decide)
      have k_b_7 := m_13.k k_b_7 (by decide)
      have kq_3 := fun b h => m_13.k (kq_3 b h) (by decide)
      have kq_6 := fun b h => m_13.k (kq_6 b h) (by decide)
      have mo := mo.tr m_13
      refine lv_aload_n hx hb dNotes_add_80 rfl (lv_at hl 1 rfl) ?_
      refine lv_dup hx hb dNotes_add_81 rfl ?_
      refine g_i FNotes_21 hx hb hts hown hW k_t dNotes_add_82 ?_
      refine lv_iconst (v := (1 : Int32)) hx hb dNotes_add_85 (by decide) ?_
      refine lv_iadd hx hb dNotes_add_86 ?_
      refine p_i FNotes_21 GNotes_kept (fun h => by cases h) hx hb hts hown hW k_t rfl rfl dNotes_add_87 (fun H locs hW => ?_)
      have mo := mo.tr (mono_sfi (k := 4) (a := t) (v := ((fi (write_S (sfi S 5 t ((fi S 5 t) + (1 : Int32))) b_7 (((fi S 4 t) - (fi S 4 t) / (250 : Int32) * (250 : Int32)) * (4 : Int32)) kn nb of_ vl) 4 t) + (1 : Int32))))
      have hlp : an (sfi (write_S (sfi S 5 t ((fi S 5 t) + (1 : Int32))) b_7 (((fi S 4 t) - (fi S 4 t) / (250 : Int32) * (250 : Int32)) * (4 : Int32)) kn nb of_ vl) 4 t ((fi (write_S (sfi S 5 t ((fi S 5 t) + (1 : Int32))) b_7 (((fi S 4 t) - (fi S 4 t) / (250 : Int32) * (250 : Int32)) * (4 : Int32)) kn nb of_ vl) 4 t) + (1 : Int32))) (gd (fr S 9 t)) = 12 := ka_sfi hlp
      have k_t : kd (sfi (write_S (sfi S 5 t ((fi S 5 t) + (1 : Int32))) b_7 (((fi S 4 t) - (fi S 4 t) / (250 : Int32) * (250 : Int32)) * (4 : Int32)) kn nb of_ vl) 4 t ((fi (write_S (sfi S 5 t ((fi S 5 t) + (1 : Int32))) b_7 (((fi S 4 t) - (fi S 4 t) / (250 : Int32) * (250 : Int32)) * (4 : Int32)) kn nb of_ vl) 4 t) + (1 : Int32))) t = 4 := kk_sfi k_t
      have kb_5 : kd (sfi (write_S (sfi S 5 t ((fi S 5 t) + (1 : Int32))) b_7 (((fi S 4 t) - (fi S 4 t) / (250 : Int32) * (250 : Int32)) * (4 : Int32)) kn nb of_ vl) 4 t ((fi (write_S (sfi S 5 t ((fi S 5 t) + (1 : Int32))) b_7 (((fi S 4 t) - (fi S 4 t) / (250 : Int32) * (250 : Int32)) * (4 : Int32)) kn nb of_ vl) 4 t) + (1 : Int32))) (gd (fr S 9 t)) = 17 := kk_sfi kb_5
      have k_b_7 : kd (sfi (write_S (sfi S 5 t ((fi S 5 t) + (1 : Int32))) b_7 (((fi S 4 t) - (fi S 4 t) / (250 : Int32) * (250 : Int32)) * (4 : Int32)) kn nb of_ vl) 4 t ((fi (write_S (sfi S 5 t ((fi S 5 t) + (1 : Int32))) b_7 (((fi S 4 t) - (fi S 4 t) / (250 : Int32) * (250 : Int32)) * (4 : Int32)) kn nb of_ vl) 4 t) + (1 : Int32))) b_7 = 5 := kk_sfi k_b_7
      have kq_3 : ∀ b, fr S 9 t = some b → kd (sfi (write_S (sfi S 5 t ((fi S 5 t) + (1 : Int32))) b_7 (((fi S 4 t) - (fi S 4 t) / (250 : Int32) * (250 : Int32)) * (4 : Int32)) kn nb of_ vl) 4 t ((fi (write_S (sfi S 5 t ((fi S 5 t) + (1 : Int32))) b_7 (((fi S 4 t) - (fi S 4 t) / (250 : Int32) * (250 : Int32)) * (4 : Int32)) kn nb of_ vl) 4 t) + (1 : Int32))) b = 17 := fun b h => kk_sfi (kq_3 b h)
      have kq_6 : ∀ b, ar S (gd (fr S 9 t)) ((fi S 4 t) / (250 : Int32)).toNatClampNeg = some b → kd (sfi (write_S (sfi S 5 t ((fi S 5 t) + (1 : Int32))) b_7 (((fi S 4 t) - (fi S 4 t) / (250 : Int32) * (250 : Int32)) * (4 : Int32)) kn nb of_ vl) 4 t ((fi (write_S (sfi S 5 t ((fi S 5 t) + (1 : Int32))) b_7 (((fi S 4 t) - (fi S 4 t) / (250 : Int32) * (250 : Int32)) * (4 : Int32)) kn nb of_ vl) 4 t) + (1 : Int32))) b = 5 := fun b h => kk_sfi (kq_6 b h)
      exact e_v hsz hx hb hr hlk hW (mo) (Nat.zero_le _) (Nat.zero_le _) dNotes_add_90 ((by refine Eq.symm ?_; refine (if_pos c_2).trans ?_; refine (op_some n_7).trans ?_; rfl))
  · exact e_v hsz hx hb hr hlk hW (mo) (Nat.zero_le _) (Nat.zero_le _) dNotes_add_20 ((by refine Eq.symm ?_; refine (if_neg c_2).trans ?_; rfl))
