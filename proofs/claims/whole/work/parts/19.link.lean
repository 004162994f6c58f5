def lkStep (S : HS) (own : Nat) (ad : Int32) (o : Option Nat) : HS :=
  opc o S (fun c => if some c = some own then sfi S 3 c (fi S 3 c ||| ad) else if (fi S 3 c &&& fi S 2 own) = 0 then S else sfi S 3 c (fi S 3 c ||| ad))
def lkN (t own : Nat) (ad : Int32) : Nat → Nat → HS → HS
  | 0, _, S => S
  | k + 1, i, S => lkN t own ad k (i + 1) (lkStep S own ad (ar S (gd (fr S 18 t)) (nI i).toNatClampNeg))
def link_S (S : HS) (t own : Nat) (c0 : Option Nat) : HS :=
  opc c0 S (fun c => lkN t own (fi S 3 c ||| fi S 2 c) (fi S 10 t).toNatClampNeg 0 S)
theorem nI_cl {x : Int32} {n : Nat} (h : x = nI n) (hn : n < 2 ^ 31) : x.toNatClampNeg = n := by rw [h, nI_clamp hn]

set_option maxRecDepth 20000 in
set_option maxHeartbeats 2000000 in
theorem c_link (l : Launch) (D : va_G) (AC : Nat → ClassId) (S : HS) (t own : Nat) (c0 : Option Nat) (k_t : kd S t = 8) (k_own : kd S own = 3) (kq_c0 : ∀ b, c0 = some b → kd S b = 3) (hn : nn S) (ha : atOk S t) : CtV l yAT_link (Cond.code yAT_link cAT_link 6 none :: wT) 0 0 D AC S [.ref t, .ref own, va_rf c0] 0 0 (fun S' => S' = link_S S t own c0) := by
  refine met_of (by decide) (by simp [lg_sl, q_cat, cat_r, cat_i, cat_l]) ?_
  intro p e s m below meth c ls hsz X hW hl
  obtain ⟨hx, hb, hml, hr, hlk, hown, hnm, hts⟩ := X
  have mo : mono S S := mono.rf S
  have hl : lv_has ls 6 [(0, .ref t), (1, .ref own), (2, va_rf c0)] := by simpa [lv_args, q_cat, cat_r, cat_i, cat_l] using hl
  obtain ⟨n, hn20, hcnt⟩ := ha.1
  have loop : ∀ (ad : Int32) (k i : Nat) (S1 : HS), i + k = n → fi S1 10 t = nI n → nn S1 → atOk S1 t → kd S1 t = 8 → kd S1 own = 3 → lkN t own ad k i S1 = link_S S t own c0 → mono S S1 → ∀ H locs, Wd D AC (AS (hL S) s.heap.size) s s.heap H locs S1 → ∀ ls, lv_has ls 6 [(0, .ref t), (1, .ref own), (3, .int ad), (4, .int (nI i))] → W p l e (rmOf 0 0 0 0) s m ([.ref t, .ref own, va_rf c0] : List Value).toArray below meth c H locs 0 0 (MQ below (va_Qv (fun S' => S' = link_S S t own c0) (CB D AC S) (AS (hL S) (hz S))) ([.ref t, .ref own, va_rf c0] : List Value).toArray s 0 0 (AS (hL S) (hz S))) (F0 m 18 ls []) := by
    intro ad k
    induction k with
    | zero =>
      intro i S1 hik hcnt1 hn ha k_t k_own hv mo H locs hW ls hl
      refine lv_iload hx hb dAT_link_18 (lv_at hl 3 rfl) ?_
      refine lv_aload_n hx hb dAT_link_20 rfl (lv_at hl 0 rfl) ?_
      refine g_i FAT_38 hx hb hts hown hW k_t dAT_link_21 ?_
      refine lv_icmp_ge (tgt := 77) hx hb dAT_link_24 (by decide) (fun c_101 => ?_) (fun c_101 => ?_)
      · exact e_v hsz hx hb hr hlk hW mo (Nat.le_refl _) (Nat.le_refl _) dAT_link_77 hv
      · exact absurd (by rw [hcnt1]; exact nI_le (by omega) (by omega)) c_101
    | succ k ih =>
      intro i S1 hik hcnt1 hn ha k_t k_own hv mo H locs hW ls hl
      refine lv_iload hx hb dAT_link_18 (lv_at hl 3 rfl) ?_
      refine lv_aload_n hx hb dAT_link_20 rfl (lv_at hl 0 rfl) ?_
      refine g_i FAT_38 hx hb hts hown hW k_t dAT_link_21 ?_
      refine lv_icmp_ge (tgt := 77) hx hb dAT_link_24 (by decide) (fun c_101 => ?_) (fun c_101 => ?_)
      · exact absurd c_101 (by rw [hcnt1]; exact nI_ge (by omega) (by omega))
      · refine lv_aload_n hx hb dAT_link_27 rfl (lv_at hl 0 rfl) ?_
        have kq_102 : ∀ b, fr S1 18 t = some b → kd S1 b = 14 := fun b h => hW.ok.2.1 18 t b k_t h
        refine g_q FAT_11 hx hb hts hown hW k_t dAT_link_28 ?_
        refine lv_iload hx hb dAT_link_31 (lv_at hl 3 rfl) ?_
        have n_103 : fr S1 18 t = some (gd (fr S1 18 t)) := gd_some (hn 18 t rfl k_t)
        have kb_104 : kd S1 (gd (fr S1 18 t)) = 14 := kq_102 (gd (fr S1 18 t)) n_103
        refine q_some1 n_103 ?_
        have kq_105 : ∀ b, ar S1 (gd (fr S1 18 t)) (nI i).toNatClampNeg = some b → kd S1 b = 3 := fun b h => (hW.ok.2.2 (gd (fr S1 18 t)) _ b (by rw [kb_104]; decide) h).trans (by rw [kb_104]; rfl)
        refine a_q (K := 14) (t0 := 3) (by decide) rfl hx hb hW kb_104 (vin_0 rfl ha.2.2.2.1 (by omega) (by decide)) dAT_link_33 ?_
        refine q_astore (lv' := [(5, va_rf (ar S1 (gd (fr S1 18 t)) (nI i).toNatClampNeg)), (0, .ref t), (1, .ref own), (3, .int ad), (4, .int (nI i))]) hx hb dAT_link_34 hl (by decide) rfl (fun ls hl => ?_)
        refine q_aload hx hb dAT_link_36 (lv_at hl 0 rfl) ?_
        refine q_ifnull (tgt := 71) hx hb dAT_link_38 (by decide) (fun n_106 => ?_) (fun b_106 n_106 => ?_)
        · refine lv_iinc (v := ((nI i) + (1 : Int32))) (lv' := [(4, .int ((nI i) + (1 : Int32))), (5, va_rf (ar S1 (gd (fr S1 18 t)) (nI i).toNatClampNeg)), (0, .ref t), (1, .ref own), (3, .int ad)]) hx hb dAT_link_71 hl (k := 4) rfl rfl (by decide) rfl (fun ls hl => ?_)
          refine lv_goto (tgt := 18) hx hb dAT_link_74 (by decide) ?_
          exact ih (i + 1) S1 (by omega) hcnt1 hn ha k_t k_own ((congrArg (lkN t own ad k (i + 1)) (by refine Eq.symm ?_; refine (op_none n_106).trans ?_; rfl)).trans hv) mo H locs hW ls (by rw [← nI_1]; exact (lv_sub hl [2, 3, 4, 0] rfl))
        · have k_b_106 : kd S1 b_106 = 3 := kq_105 b_106 n_106
          refine q_aload hx hb dAT_link_41 (lv_at hl 0 rfl) ?_
          refine lv_aload_n hx hb dAT_link_43 rfl (lv_at hl 2 rfl) ?_
          refine q_some1 n_106 ?_
          refine lv_acmp_eq (rx := some b_106) (ry := some own) (tgt := 60) hx hb dAT_link_44 (by decide) (fun c_107 => ?_) (fun c_107 => ?_)
          · refine q_aload hx hb dAT_link_60 (lv_at hl 0 rfl) ?_
            refine lv_dup hx hb dAT_link_62 (q_cat _) ?_
            refine q_some n_106 ?_
            refine g_i FAT_200 hx hb hts hown hW k_b_106 dAT_link_63 ?_
            refine lv_iload_n hx hb dAT_link_66 rfl (lv_at hl 3 rfl) ?_
            refine lv_ior hx hb dAT_link_67 ?_
            refine q_some1 n_106 ?_
            refine p_i FAT_200 GCounter_leadsTo (fun h => by cases h) hx hb hts hown hW k_b_106 rfl rfl dAT_link_68 (fun H locs hW => ?_)
            have mo := mo.tr (mono_sfi (k := 3) (a := b_106) (v := ((fi S1 3 b_106) ||| ad)))
            have nnp_108 : nn (sfi S1 3 b_106 ((fi S1 3 b_106) ||| ad)) := nn_sfi hn
            refine lv_iinc (v := ((nI i) + (1 : Int32))) (lv' := [(4, .int ((nI i) + (1 : Int32))), (5, va_rf (ar S1 (gd (fr S1 18 t)) (nI i).toNatClampNeg)), (0, .ref t), (1, .ref own), (3, .int ad)]) hx hb dAT_link_71 hl (k := 4) rfl rfl (by decide) rfl (fun ls hl => ?_)
            refine lv_goto (tgt := 18) hx hb dAT_link_74 (by decide) ?_
            exact ih (i + 1) (sfi S1 3 b_106 ((fi S1 3 b_106) ||| ad)) (by omega) hcnt1 hn ha k_t k_own ((congrArg (lkN t own ad k (i + 1)) (by refine Eq.symm ?_; refine (op_some n_106).trans ?_; refine (if_pos c_107).trans ?_; rfl)).trans hv) mo H locs hW ls (by rw [← nI_1]; exact (lv_sub hl [2, 3, 4, 0] rfl))
          · refine q_aload hx hb dAT_link_47 (lv_at hl 0 rfl) ?_
            refine q_some n_106 ?_
            refine g_i FAT_200 hx hb hts hown hW k_b_106 dAT_link_49 ?_
            refine lv_aload_n hx hb dAT_link_52 rfl (lv_at hl 2 rfl) ?_
            refine g_i FAT_203 hx hb hts hown hW k_own dAT_link_53 ?_
            refine lv_iand hx hb dAT_link_56 ?_
            refine lv_if_eq (tgt := 71) hx hb dAT_link_57 (by decide) (fun c_109 => ?_) (fun c_109 => ?_)
            · refine lv_iinc (v := ((nI i) + (1 : Int32))) (lv' := [(4, .int ((nI i) + (1 : Int32))), (5, va_rf (ar S1 (gd (fr S1 18 t)) (nI i).toNatClampNeg)), (0, .ref t), (1, .ref own), (3, .int ad)]) hx hb dAT_link_71 hl (k := 4) rfl rfl (by decide) rfl (fun ls hl => ?_)
              refine lv_goto (tgt := 18) hx hb dAT_link_74 (by decide) ?_
              exact ih (i + 1) S1 (by omega) hcnt1 hn ha k_t k_own ((congrArg (lkN t own ad k (i + 1)) (by refine Eq.symm ?_; refine (op_some n_106).trans ?_; refine (if_neg c_107).trans ?_; refine (if_pos c_109).trans ?_; rfl)).trans hv) mo H locs hW ls (by rw [← nI_1]; exact (lv_sub hl [2, 3, 4, 0] rfl))
            · refine q_aload hx hb dAT_link_60 (lv_at hl 0 rfl) ?_
              refine lv_dup hx hb dAT_link_62 (q_cat _) ?_
              refine q_some n_106 ?_
              refine g_i FAT_200 hx hb hts hown hW k_b_106 dAT_link_63 ?_
              refine lv_iload_n hx hb dAT_link_66 rfl (lv_at hl 3 rfl) ?_
              refine lv_ior hx hb dAT_link_67 ?_
              refine q_some1 n_106 ?_
              refine p_i FAT_200 GCounter_leadsTo (fun h => by cases h) hx hb hts hown hW k_b_106 rfl rfl dAT_link_68 (fun H locs hW => ?_)
              have mo := mo.tr (mono_sfi (k := 3) (a := b_106) (v := ((fi S1 3 b_106) ||| ad)))
              have nnp_110 : nn (sfi S1 3 b_106 ((fi S1 3 b_106) ||| ad)) := nn_sfi hn
              refine lv_iinc (v := ((nI i) + (1 : Int32))) (lv' := [(4, .int ((nI i) + (1 : Int32))), (5, va_rf (ar S1 (gd (fr S1 18 t)) (nI i).toNatClampNeg)), (0, .ref t), (1, .ref own), (3, .int ad)]) hx hb dAT_link_71 hl (k := 4) rfl rfl (by decide) rfl (fun ls hl => ?_)
              refine lv_goto (tgt := 18) hx hb dAT_link_74 (by decide) ?_
              exact ih (i + 1) (sfi S1 3 b_106 ((fi S1 3 b_106) ||| ad)) (by omega) hcnt1 hn ha k_t k_own ((congrArg (lkN t own ad k (i + 1)) (by refine Eq.symm ?_; refine (op_some n_106).trans ?_; refine (if_neg c_107).trans ?_; refine (if_neg c_109).trans ?_; rfl)).trans hv) mo H locs hW ls (by rw [← nI_1]; exact (lv_sub hl [2, 3, 4, 0] rfl))
  refine q_aload_n hx hb dAT_link_0 rfl (lv_at hl 2 rfl) ?_
  refine q_ifnonnull (tgt := 5) hx hb dAT_link_1 (by decide) (fun n_101 => ?_) (fun b_101 n_101 => ?_)
  · exact e_v hsz hx hb hr hlk hW mo (Nat.le_refl _) (Nat.le_refl _) dAT_link_4 (by refine Eq.symm ?_; refine (op_none n_101).trans ?_; rfl)
  · have k_b_101 : kd S b_101 = 3 := kq_c0 b_101 n_101
    refine q_aload_n hx hb dAT_link_5 rfl (lv_at hl 2 rfl) ?_
    refine q_some n_101 ?_
    refine g_i FAT_200 hx hb hts hown hW k_b_101 dAT_link_6 ?_
    refine q_aload_n hx hb dAT_link_9 rfl (lv_at hl 2 rfl) ?_
    refine q_some n_101 ?_
    refine g_i FAT_203 hx hb hts hown hW k_b_101 dAT_link_10 ?_
    refine lv_ior hx hb dAT_link_13 ?_
    refine lv_istore_n (i := 3) (lv' := [(3, .int ((fi S 3 b_101) ||| (fi S 2 b_101))), (0, .ref t), (1, .ref own), (2, va_rf c0)]) hx hb dAT_link_14 rfl hl (by decide) (by simp [q_cat, cat_r, cat_i, cat_l, cat_n]) (fun ls hl => ?_)
    refine lv_iconst (v := (0 : Int32)) hx hb dAT_link_15 (by decide) ?_
    refine lv_istore (lv' := [(4, .int (0 : Int32)), (3, .int ((fi S 3 b_101) ||| (fi S 2 b_101))), (0, .ref t), (1, .ref own), (2, va_rf c0)]) hx hb dAT_link_16 hl (by decide) rfl (fun ls hl => ?_)
    exact loop _ n 0 S (by omega) hcnt hn ha k_t k_own ((congrArg (fun z => lkN t own _ z 0 S) (nI_cl hcnt (by omega)).symm).trans (by refine Eq.symm ?_; exact op_some n_101)) mo _ _ hW ls (lv_sub hl [2, 3, 1, 0] rfl)
