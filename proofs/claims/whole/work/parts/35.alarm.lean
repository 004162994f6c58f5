theorem nn_alarm' {S : HS} {c0 a0 : Option Nat} {n : Int32} {own : Nat} (h : nn S) : nn (Alarm_init_S (Act_init_S (newQ (newQ S (hz S) 2) (hz (newQ S (hz S) 2)) 1) (hz (newQ S (hz S) 2)) c0 a0) (hz S) n own (hz (newQ S (hz S) 2))) := nn_alarm h
theorem atOk_alarm' {S : HS} {t own i arr : Nat} {v c0 a0 : Option Nat} {n : Int32} (h : atOk S t) (h0 : ∀ a, hz S ≤ a → kd S a = 0) (kt : kd S t = 8) (c : fi S 11 t < 100) : atOk (appendAlarm_S (sfi (sar (Alarm_init_S (Act_init_S (newQ (newQ S (hz S) 2) (hz (newQ S (hz S) 2)) 1) (hz (newQ S (hz S) 2)) c0 a0) (hz S) n own (hz (newQ S (hz S) 2))) arr i v) 11 t (fi S 11 t + 1)) own (hz S)) t := atOk_alarm h h0 kt c
theorem nn_point' {S : HS} {c0 a0 : Option Nat} {o : Int64} (h : nn S) : nn (Point_init_S (Act_init_S (newQ (newQ S (hz S) 6) (hz (newQ S (hz S) 6)) 1) (hz (newQ S (hz S) 6)) c0 a0) (hz S) o (hz (newQ S (hz S) 6))) := nn_point h
theorem atOk_point' {S : HS} {t b : Nat} {zs : List Nat} {c0 a0 : Option Nat} {o : Int64} (h : atOk S t) (h0 : ∀ a, hz S ≤ a → kd S a = 0) (kt : kd S t = 8) : atOk (insert_S (Point_init_S (Act_init_S (newQ (newQ S (hz S) 6) (hz (newQ S (hz S) 6)) 1) (hz (newQ S (hz S) 6)) c0 a0) (hz S) o (hz (newQ S (hz S) 6))) b (hz S) zs) t := atOk_point h h0 kt
theorem chn_point' {S : HS} {b : Nat} {zs : List Nat} {c0 a0 : Option Nat} {o : Int64} (h : hOk S) (h0 : ∀ a, hz S ≤ a → kd S a = 0) (kb : kd S b = 7) (hc : chn (fr S 12) (fr S 14 b) zs) : chn (fr (Point_init_S (Act_init_S (newQ (newQ S (hz S) 6) (hz (newQ S (hz S) 6)) 1) (hz (newQ S (hz S) 6)) c0 a0) (hz S) o (hz (newQ S (hz S) 6))) 12) (fr (Point_init_S (Act_init_S (newQ (newQ S (hz S) 6) (hz (newQ S (hz S) 6)) 1) (hz (newQ S (hz S) 6)) c0 a0) (hz S) o (hz (newQ S (hz S) 6))) 14 b) zs := chn_point h h0 kb hc

theorem Alarm_init_fi {Y : HS} {q own x k a : Nat} {n : Int32} (h : a ≠ q) : fi (Alarm_init_S Y q n own x) k a = fi Y k a := by
  show up2 (fi Y) 0 q n k a = fi Y k a
  rw [up2_a _ _ _ _ h]
theorem alarm_fr' {S : HS} {c0 a0 : Option Nat} {n : Int32} {own k a : Nat} (h1 : a ≠ hz S) (h2 : a ≠ hz (newQ S (hz S) 2)) : fr (Alarm_init_S (Act_init_S (newQ (newQ S (hz S) 2) (hz (newQ S (hz S) 2)) 1) (hz (newQ S (hz S) 2)) c0 a0) (hz S) n own (hz (newQ S (hz S) 2))) k a = fr S k a := (Alarm_init_fr h1).trans (mk2_fr h1 h2)
theorem alarm_fi' {S : HS} {c0 a0 : Option Nat} {n : Int32} {own k a : Nat} (h1 : a ≠ hz S) (h2 : a ≠ hz (newQ S (hz S) 2)) : fi (Alarm_init_S (Act_init_S (newQ (newQ S (hz S) 2) (hz (newQ S (hz S) 2)) 1) (hz (newQ S (hz S) 2)) c0 a0) (hz S) n own (hz (newQ S (hz S) 2))) k a = fi S k a := (Alarm_init_fi h1).trans (mk2_fi h1 h2)
theorem point_fr' {S : HS} {c0 a0 : Option Nat} {o : Int64} {k a : Nat} (h1 : a ≠ hz S) (h2 : a ≠ hz (newQ S (hz S) 6)) : fr (Point_init_S (Act_init_S (newQ (newQ S (hz S) 6) (hz (newQ S (hz S) 6)) 1) (hz (newQ S (hz S) 6)) c0 a0) (hz S) o (hz (newQ S (hz S) 6))) k a = fr S k a := (Point_init_fr h1).trans (mk2_fr h1 h2)
theorem point_fi' {S : HS} {c0 a0 : Option Nat} {o : Int64} {k a : Nat} (h1 : a ≠ hz S) (h2 : a ≠ hz (newQ S (hz S) 6)) : fi (Point_init_S (Act_init_S (newQ (newQ S (hz S) 6) (hz (newQ S (hz S) 6)) 1) (hz (newQ S (hz S) 6)) c0 a0) (hz S) o (hz (newQ S (hz S) 6))) k a = fi S k a := mk2_fi (c0 := c0) (a0 := a0) h1 h2

def alarmE_S (S : HS) (t own : Nat) (c0 a0 : Option Nat) : HS := (link_S (appendAlarm_S (sfi (sar (Alarm_init_S (Act_init_S (newQ (newQ S (hz S) 2) (hz (newQ S (hz S) 2)) 1) (hz (newQ S (hz S) 2)) c0 a0) (hz S) ((fi S 11 t) + (1 : Int32)) own (hz (newQ S (hz S) 2))) (gd (fr S 19 t)) (fi S 11 t).toNatClampNeg (some (hz S))) 11 t ((fi S 11 t) + (1 : Int32))) own (hz S)) t own c0)
def alarmE_R (S : HS) (t own : Nat) (c0 a0 : Option Nat) : Int32 := fi (link_S (appendAlarm_S (sfi (sar (Alarm_init_S (Act_init_S (newQ (newQ S (hz S) 2) (hz (newQ S (hz S) 2)) 1) (hz (newQ S (hz S) 2)) c0 a0) (hz S) ((fi S 11 t) + (1 : Int32)) own (hz (newQ S (hz S) 2))) (gd (fr S 19 t)) (fi S 11 t).toNatClampNeg (some (hz S))) 11 t ((fi S 11 t) + (1 : Int32))) own (hz S)) t own c0) 11 t

def alarm_R (S : HS) (t : Nat) (n x o : Int32) : Int32 :=
  opc (findCounter_R S t n) ((-1 : Int32))
  (fun b_3 => if (isUnknownFor_R S t x o) = 0 then
      if x < 0 then
        (-2 : Int32)
      else
        if x ≤ (2 : Int32) then
          if x = (1 : Int32) then
            if (wouldCircle_R S b_3 (findCounter_R S t o)) = 0 then
              if (fi S 11 t) < (100 : Int32) then
                if x = (2 : Int32) then
                  alarmE_R S t b_3 (findCounter_R S t o) (findAlarm_R S t o)
                else
                  alarmE_R S t b_3 (findCounter_R S t o) none
              else
                (-4 : Int32)
            else
              (-3 : Int32)
          else
            if (wouldCircle_R S b_3 none) = 0 then
              if (fi S 11 t) < (100 : Int32) then
                if x = (2 : Int32) then
                  alarmE_R S t b_3 none (findAlarm_R S t o)
                else
                  alarmE_R S t b_3 none none
              else
                (-4 : Int32)
            else
              (-3 : Int32)
        else
          (-2 : Int32)
    else
      (-1 : Int32))
def alarm_S (S : HS) (t : Nat) (n x o : Int32) : HS :=
  opc (findCounter_R S t n) (S)
  (fun b_3 => if (isUnknownFor_R S t x o) = 0 then
      if x < 0 then
        S
      else
        if x ≤ (2 : Int32) then
          if x = (1 : Int32) then
            if (wouldCircle_R S b_3 (findCounter_R S t o)) = 0 then
              if (fi S 11 t) < (100 : Int32) then
                if x = (2 : Int32) then
                  alarmE_S S t b_3 (findCounter_R S t o) (findAlarm_R S t o)
                else
                  alarmE_S S t b_3 (findCounter_R S t o) none
              else
                S
            else
              S
          else
            if (wouldCircle_R S b_3 none) = 0 then
              if (fi S 11 t) < (100 : Int32) then
                if x = (2 : Int32) then
                  alarmE_S S t b_3 none (findAlarm_R S t o)
                else
                  alarmE_S S t b_3 none none
              else
                S
            else
              S
        else
          S
    else
      S)

set_option maxRecDepth 20000 in
set_option maxHeartbeats 2000000 in
theorem c_alarm (l : Launch) (D : va_G) (AC : Nat → ClassId) (S : HS) (t : Nat) (n x o : Int32) (k_t : kd S t = 8) (hn : nn S) (ha : atOk S t) : CtI l yAT_alarm (Cond.code yAT_alarm cAT_alarm 8 (some .int) :: wT) 2 60 D AC S [.ref t, .int n, .int x, .int o] 2 9 (fun r S' => r = alarm_R S t n x o ∧ S' = alarm_S S t n x o) := by
  refine met_of (by decide) (Nat.le_of_ble_eq_true rfl) ?_
  intro p e s m below meth c ls hsz X hW hl
  obtain ⟨hx, hb, hml, hr, hlk, hown, hnm, hts⟩ := X
  have mo : mono S S := mono.rf S
  have hl : lv_has ls 8 [(0, .ref t), (1, .int n), (2, .int x), (3, .int o)] := hl
  have h00 := hW.k00
  have kt0 := k_t
  have nA : fr S 19 t = some (gd (fr S 19 t)) := gd_some (hn 19 t rfl k_t)
  have kA : kd S (gd (fr S 19 t)) = 15 := hW.ok.2.1 19 t _ k_t nA
  have lA : an S (gd (fr S 19 t)) = 100 := ha.2.2.2.2.1
  have kqA : ∀ b, fr S 19 t = some b → kd S b = 15 := fun b h => hW.ok.2.1 19 t b k_t h
  have seg92 : ∀ (own : Nat) (c0 a0 : Option Nat), kd S own = 3 → (∀ b, c0 = some b → kd S b = 3) → (∀ b, a0 = some b → kd S b = 2) → fi S 11 t < (100 : Int32) → alarmE_R S t own c0 a0 = alarm_R S t n x o → alarmE_S S t own c0 a0 = alarm_S S t n x o → ∀ H locs, Wd D AC (AS (hL S) s.heap.size) s s.heap H locs S → ∀ ls, lv_has ls 8 [(0, .ref t), (4, .ref own), (5, va_rf c0), (6, va_rf a0)] → W p l e (rmOf 2 2 9 60) s m ([.ref t, .int n, .int x, .int o] : List Value).toArray below meth c H locs 0 0 (MQ below (va_Qi (fun r S' => r = alarm_R S t n x o ∧ S' = alarm_S S t n x o) (CB D AC S) (AS (hL S) (hz S))) ([.ref t, .int n, .int x, .int o] : List Value).toArray s 2 9 (AS (hL S) (hz S))) (F0 m 92 ls []) := by
    intro own c0 a0 k_own kq_c0 kq_a0 c0_ hvR hvS H locs hW ls hl
    have ne101_0 : t ≠ (hz S) := hW.ne k_t (by decide)
    have ne101_1 : own ≠ (hz S) := hW.ne k_own (by decide)
    have ne101_2 : (gd (fr S 19 t)) ≠ (hz S) := hW.ne kA (by decide)
    refine n_o (NAT_15).1 rfl (NAT_15).2.1 iwAlarm (NAT_15).2.2 hx hb hts hown hW ⟨Nat.le_of_ble_eq_true rfl, Nat.le_of_ble_eq_true rfl⟩ (hz S) rfl dAT_alarm_92 (fun H hW m_101 k_q101 => ?_)
    have lA := m_101.n kA (by decide) lA
    have k_t := m_101.k k_t (by decide)
    have k_own := m_101.k k_own (by decide)
    have kA := m_101.k kA (by decide)
    have kq_c0 := fun b h => m_101.k (kq_c0 b h) (by decide)
    have kq_a0 := fun b h => m_101.k (kq_a0 b h) (by decide)
    have kqA := fun b h => m_101.k (kqA b h) (by decide)
    have mo := mo.tr m_101
    refine lv_dup hx hb dAT_alarm_95 rfl ?_
    refine lv_aload_n hx hb dAT_alarm_96 rfl (lv_at hl 0 rfl) ?_
    refine g_i FAT_64 hx hb hts hown hW k_t dAT_alarm_97 ?_
    rw [show fi (newQ S (hz S) 2) 11 t = fi S 11 t from (by simp only [ne101_0, fr_sfr, fr_sfi, fr_sfl, fr_sar, fr_sai, fr_sal, fi_sfr, fi_sfi, fi_sfl, fi_sar, fi_sai, fi_sal, fl_sfr, fl_sfi, fl_sfl, fl_sar, fl_sai, fl_sal, fr_newQ, fi_newQ, fl_newQ, fr_newB, fi_newB, fl_newB, ne_eq, not_false_eq_true] <;> rfl)]
    refine lv_iconst (v := (1 : Int32)) hx hb dAT_alarm_100 (by decide) ?_
    refine lv_iadd hx hb dAT_alarm_101 ?_
    refine lv_aload hx hb dAT_alarm_102 (lv_at hl 1 rfl) ?_
    have ne102_0 : t ≠ (hz (newQ S (hz S) 2)) := hW.ne k_t (by decide)
    have ne102_1 : own ≠ (hz (newQ S (hz S) 2)) := hW.ne k_own (by decide)
    have ne102_2 : (gd (fr S 19 t)) ≠ (hz (newQ S (hz S) 2)) := hW.ne kA (by decide)
    have ne102_3 : (hz S) ≠ (hz (newQ S (hz S) 2)) := hW.ne k_q101 (by decide)
    refine n_o (NAT_71).1 rfl (NAT_71).2.1 iwAct (NAT_71).2.2 hx hb hts hown hW ⟨Nat.le_of_ble_eq_true rfl, Nat.le_of_ble_eq_true rfl⟩ (hz (newQ S (hz S) 2)) rfl dAT_alarm_104 (fun H hW m_102 k_q102 => ?_)
    have lA := m_102.n kA (by decide) lA
    have k_t := m_102.k k_t (by decide)
    have k_own := m_102.k k_own (by decide)
    have kA := m_102.k kA (by decide)
    have k_q101 := m_102.k k_q101 (by decide)
    have kq_c0 := fun b h => m_102.k (kq_c0 b h) (by decide)
    have kq_a0 := fun b h => m_102.k (kq_a0 b h) (by decide)
    have kqA := fun b h => m_102.k (kqA b h) (by decide)
    have mo := mo.tr m_102
    refine lv_dup hx hb dAT_alarm_107 rfl ?_
    refine q_aload hx hb dAT_alarm_108 (lv_at hl 2 rfl) ?_
    refine q_aload hx hb dAT_alarm_110 (lv_at hl 3 rfl) ?_
    refine k_Iv (As := [va_rf c0, va_rf a0]) (rest := [.ref (hz (newQ S (hz S) 2)), .ref own, .int ((fi S 11 t) + (1 : Int32)), .ref (hz S), .ref (hz S)]) (c_Act_init l D AC (newQ (newQ S (hz S) 2) (hz (newQ S (hz S) 2)) 1) (hz (newQ S (hz S) 2)) c0 a0 k_q102 kq_c0 kq_a0) CAT_73 hx hb hml hown hts hW hl.1 rfl rfl (Nat.le_of_ble_eq_true rfl) ⟨⟨Nat.le_of_ble_eq_true rfl, Nat.le_of_ble_eq_true rfl⟩, ⟨Nat.le_of_ble_eq_true rfl, Nat.le_of_ble_eq_true rfl⟩⟩ dAT_alarm_112 (fun S_103 H locs e_103 hW m_103 _ => ?_)
    rw [e_103] at hW m_103
    have lA := m_103.n kA (by decide) lA
    have k_t := m_103.k k_t (by decide)
    have k_own := m_103.k k_own (by decide)
    have kA := m_103.k kA (by decide)
    have k_q101 := m_103.k k_q101 (by decide)
    have k_q102 := m_103.k k_q102 (by decide)
    have kq_c0 := fun b h => m_103.k (kq_c0 b h) (by decide)
    have kq_a0 := fun b h => m_103.k (kq_a0 b h) (by decide)
    have kqA := fun b h => m_103.k (kqA b h) (by decide)
    have mo := mo.tr m_103
    refine k_Iv (As := [.int ((fi S 11 t) + (1 : Int32)), .ref own, .ref (hz (newQ S (hz S) 2))]) (rest := [.ref (hz S)]) (c_Alarm_init l D AC (Act_init_S (newQ (newQ S (hz S) 2) (hz (newQ S (hz S) 2)) 1) (hz (newQ S (hz S) 2)) c0 a0) (hz S) ((fi S 11 t) + (1 : Int32)) own (hz (newQ S (hz S) 2)) k_q101 k_own k_q102) CAT_76 hx hb hml hown hts hW hl.1 rfl rfl (Nat.le_of_ble_eq_true rfl) ⟨⟨Nat.le_of_ble_eq_true rfl, Nat.le_of_ble_eq_true rfl⟩, ⟨Nat.le_of_ble_eq_true rfl, Nat.le_of_ble_eq_true rfl⟩⟩ dAT_alarm_115 (fun S_104 H locs e_104 hW m_104 _ => ?_)
    have lA := m_104.n kA (by decide) lA
    have k_t := m_104.k k_t (by decide)
    have k_own := m_104.k k_own (by decide)
    have kA := m_104.k kA (by decide)
    have k_q101 := m_104.k k_q101 (by decide)
    have k_q102 := m_104.k k_q102 (by decide)
    have kq_c0 := fun b h => m_104.k (kq_c0 b h) (by decide)
    have kq_a0 := fun b h => m_104.k (kq_a0 b h) (by decide)
    have kqA := fun b h => m_104.k (kqA b h) (by decide)
    have mo := mo.tr m_104
    have hr_104 : ∀ k a, a ≠ (hz S) → a ≠ (hz (newQ S (hz S) 2)) → fr S_104 k a = fr S k a := by rw [e_104]; exact fun k a h0 h1 => alarm_fr' h0 h1
    have hi_104 : ∀ k a, a ≠ (hz S) → a ≠ (hz (newQ S (hz S) 2)) → fi S_104 k a = fi S k a := by rw [e_104]; exact fun k a h0 h1 => alarm_fi' h0 h1
    have nnp_105 : nn S_104 := by rw [e_104]; exact nn_alarm' hn
    refine lv_astore (lv' := [(7, .ref (hz S)), (0, .ref t), (4, .ref own), (5, va_rf c0), (6, va_rf a0)]) hx hb dAT_alarm_118 hl (by decide) (by simp [q_cat, cat_r, cat_i, cat_l, cat_n]) (fun ls hl => ?_)
    refine lv_aload_n hx hb dAT_alarm_120 rfl (lv_at hl 1 rfl) ?_
    refine g_q FAT_17 hx hb hts hown hW k_t dAT_alarm_121 ?_
    rw [show fr S_104 19 t = fr S 19 t from hr_104 19 t ne101_0 ne102_0]
    refine lv_aload_n hx hb dAT_alarm_124 rfl (lv_at hl 1 rfl) ?_
    refine g_i FAT_64 hx hb hts hown hW k_t dAT_alarm_125 ?_
    rw [show fi S_104 11 t = fi S 11 t from hi_104 11 t ne101_0 ne102_0]
    refine lv_aload hx hb dAT_alarm_128 (lv_at hl 0 rfl) ?_
    refine q_some2 nA ?_
    refine a_rs (K := 15) (t0 := 4) (by decide) rfl (r := (RAlarm, TAlarm, 7)) ⟨rfl, rfl⟩ hx hb hW kA k_q101 (cnt_in (Classical.choose_spec ha.2.1).2 (Classical.choose_spec ha.2.1).1 (by decide) c0_ lA) dAT_alarm_130 (fun H locs hW => ?_)
    have mo := mo.tr (mono_sar (a := (gd (fr S 19 t))) (i := (fi S 11 t).toNatClampNeg) (v := (some (hz S))))
    have lA : an (sar S_104 (gd (fr S 19 t)) (fi S 11 t).toNatClampNeg (some (hz S))) (gd (fr S 19 t)) = 100 := ka_sar lA
    have k_t : kd (sar S_104 (gd (fr S 19 t)) (fi S 11 t).toNatClampNeg (some (hz S))) t = 8 := kk_sar k_t
    have k_own : kd (sar S_104 (gd (fr S 19 t)) (fi S 11 t).toNatClampNeg (some (hz S))) own = 3 := kk_sar k_own
    have kA : kd (sar S_104 (gd (fr S 19 t)) (fi S 11 t).toNatClampNeg (some (hz S))) (gd (fr S 19 t)) = 15 := kk_sar kA
    have k_q101 : kd (sar S_104 (gd (fr S 19 t)) (fi S 11 t).toNatClampNeg (some (hz S))) (hz S) = 2 := kk_sar k_q101
    have k_q102 : kd (sar S_104 (gd (fr S 19 t)) (fi S 11 t).toNatClampNeg (some (hz S))) (hz (newQ S (hz S) 2)) = 1 := kk_sar k_q102
    have kq_c0 : ∀ b, c0 = some b → kd (sar S_104 (gd (fr S 19 t)) (fi S 11 t).toNatClampNeg (some (hz S))) b = 3 := fun b h => kk_sar (kq_c0 b h)
    have kq_a0 : ∀ b, a0 = some b → kd (sar S_104 (gd (fr S 19 t)) (fi S 11 t).toNatClampNeg (some (hz S))) b = 2 := fun b h => kk_sar (kq_a0 b h)
    have kqA : ∀ b, fr S 19 t = some b → kd (sar S_104 (gd (fr S 19 t)) (fi S 11 t).toNatClampNeg (some (hz S))) b = 15 := fun b h => kk_sar (kqA b h)
    have nnp_106 : nn (sar S_104 (gd (fr S 19 t)) (fi S 11 t).toNatClampNeg (some (hz S))) := nn_sar nnp_105
    refine lv_aload_n hx hb dAT_alarm_131 rfl (lv_at hl 1 rfl) ?_
    refine lv_dup hx hb dAT_alarm_132 rfl ?_
    refine g_i FAT_64 hx hb hts hown hW k_t dAT_alarm_133 ?_
    rw [show fi (sar S_104 (gd (fr S 19 t)) (fi S 11 t).toNatClampNeg (some (hz S))) 11 t = fi S 11 t from hi_104 11 t ne101_0 ne102_0]
    refine lv_iconst (v := (1 : Int32)) hx hb dAT_alarm_136 (by decide) ?_
    refine lv_iadd hx hb dAT_alarm_137 ?_
    refine p_i FAT_64 GAT_alarmCount (fun h => by cases h) hx hb hts hown hW k_t rfl rfl dAT_alarm_138 (fun H locs hW => ?_)
    have mo := mo.tr (mono_sfi (k := 11) (a := t) (v := ((fi S 11 t) + (1 : Int32))))
    have lA : an (sfi (sar S_104 (gd (fr S 19 t)) (fi S 11 t).toNatClampNeg (some (hz S))) 11 t ((fi S 11 t) + (1 : Int32))) (gd (fr S 19 t)) = 100 := ka_sfi lA
    have k_t : kd (sfi (sar S_104 (gd (fr S 19 t)) (fi S 11 t).toNatClampNeg (some (hz S))) 11 t ((fi S 11 t) + (1 : Int32))) t = 8 := kk_sfi k_t
    have k_own : kd (sfi (sar S_104 (gd (fr S 19 t)) (fi S 11 t).toNatClampNeg (some (hz S))) 11 t ((fi S 11 t) + (1 : Int32))) own = 3 := kk_sfi k_own
    have kA : kd (sfi (sar S_104 (gd (fr S 19 t)) (fi S 11 t).toNatClampNeg (some (hz S))) 11 t ((fi S 11 t) + (1 : Int32))) (gd (fr S 19 t)) = 15 := kk_sfi kA
    have k_q101 : kd (sfi (sar S_104 (gd (fr S 19 t)) (fi S 11 t).toNatClampNeg (some (hz S))) 11 t ((fi S 11 t) + (1 : Int32))) (hz S) = 2 := kk_sfi k_q101
    have k_q102 : kd (sfi (sar S_104 (gd (fr S 19 t)) (fi S 11 t).toNatClampNeg (some (hz S))) 11 t ((fi S 11 t) + (1 : Int32))) (hz (newQ S (hz S) 2)) = 1 := kk_sfi k_q102
    have kq_c0 : ∀ b, c0 = some b → kd (sfi (sar S_104 (gd (fr S 19 t)) (fi S 11 t).toNatClampNeg (some (hz S))) 11 t ((fi S 11 t) + (1 : Int32))) b = 3 := fun b h => kk_sfi (kq_c0 b h)
    have kq_a0 : ∀ b, a0 = some b → kd (sfi (sar S_104 (gd (fr S 19 t)) (fi S 11 t).toNatClampNeg (some (hz S))) 11 t ((fi S 11 t) + (1 : Int32))) b = 2 := fun b h => kk_sfi (kq_a0 b h)
    have kqA : ∀ b, fr S 19 t = some b → kd (sfi (sar S_104 (gd (fr S 19 t)) (fi S 11 t).toNatClampNeg (some (hz S))) 11 t ((fi S 11 t) + (1 : Int32))) b = 15 := fun b h => kk_sfi (kqA b h)
    have nnp_107 : nn (sfi (sar S_104 (gd (fr S 19 t)) (fi S 11 t).toNatClampNeg (some (hz S))) 11 t ((fi S 11 t) + (1 : Int32))) := nn_sfi nnp_106
    refine lv_aload hx hb dAT_alarm_141 (lv_at hl 2 rfl) ?_
    refine lv_aload hx hb dAT_alarm_143 (lv_at hl 0 rfl) ?_
    refine k_Vv (As := [.ref (hz S)]) (rest := []) (c_appendAlarm l D AC (sfi (sar S_104 (gd (fr S 19 t)) (fi S 11 t).toNatClampNeg (some (hz S))) 11 t ((fi S 11 t) + (1 : Int32))) own (hz S) k_own k_q101) CAT_79 ⟨by decide, by decide, _, rfl, rfl⟩ hx hb hml hown hts hW k_own hl.1 rfl rfl (Nat.le_of_ble_eq_true rfl) ⟨⟨Nat.le_of_ble_eq_true rfl, Nat.le_of_ble_eq_true rfl⟩, ⟨Nat.le_of_ble_eq_true rfl, Nat.le_of_ble_eq_true rfl⟩⟩ dAT_alarm_145 (fun S_108 H locs e_108 hW m_108 _ => ?_)
    rw [e_108] at hW m_108
    have lA := m_108.n kA (by decide) lA
    have k_t := m_108.k k_t (by decide)
    have k_own := m_108.k k_own (by decide)
    have kA := m_108.k kA (by decide)
    have k_q101 := m_108.k k_q101 (by decide)
    have k_q102 := m_108.k k_q102 (by decide)
    have kq_c0 := fun b h => m_108.k (kq_c0 b h) (by decide)
    have kq_a0 := fun b h => m_108.k (kq_a0 b h) (by decide)
    have kqA := fun b h => m_108.k (kqA b h) (by decide)
    have mo := mo.tr m_108
    have nnp_109 : nn (appendAlarm_S (sfi (sar S_104 (gd (fr S 19 t)) (fi S 11 t).toNatClampNeg (some (hz S))) 11 t ((fi S 11 t) + (1 : Int32))) own (hz S)) := nn_appendAlarm nnp_107
    refine lv_aload_n hx hb dAT_alarm_148 rfl (lv_at hl 1 rfl) ?_
    refine lv_aload hx hb dAT_alarm_149 (lv_at hl 2 rfl) ?_
    refine q_aload hx hb dAT_alarm_151 (lv_at hl 3 rfl) ?_
    refine k_Vv (As := [.ref own, va_rf c0]) (rest := []) (c_link l D AC (appendAlarm_S (sfi (sar S_104 (gd (fr S 19 t)) (fi S 11 t).toNatClampNeg (some (hz S))) 11 t ((fi S 11 t) + (1 : Int32))) own (hz S)) t own c0 k_t k_own kq_c0 nnp_109 (by rw [e_104]; exact atOk_alarm' ha h00 kt0 c0_)) CAT_83 ⟨by decide, by decide, _, rfl, rfl⟩ hx hb hml hown hts hW k_t hl.1 rfl rfl (Nat.le_of_ble_eq_true rfl) ⟨⟨Nat.le_of_ble_eq_true rfl, Nat.le_of_ble_eq_true rfl⟩, ⟨Nat.le_of_ble_eq_true rfl, Nat.le_of_ble_eq_true rfl⟩⟩ dAT_alarm_153 (fun S_110 H locs e_110 hW m_110 _ => ?_)
    rw [e_110] at hW m_110
    have lA := m_110.n kA (by decide) lA
    have k_t := m_110.k k_t (by decide)
    have k_own := m_110.k k_own (by decide)
    have kA := m_110.k kA (by decide)
    have k_q101 := m_110.k k_q101 (by decide)
    have k_q102 := m_110.k k_q102 (by decide)
    have kq_c0 := fun b h => m_110.k (kq_c0 b h) (by decide)
    have kq_a0 := fun b h => m_110.k (kq_a0 b h) (by decide)
    have kqA := fun b h => m_110.k (kqA b h) (by decide)
    have mo := mo.tr m_110
    refine lv_aload_n hx hb dAT_alarm_156 rfl (lv_at hl 1 rfl) ?_
    refine g_i FAT_64 hx hb hts hown hW k_t dAT_alarm_157 ?_
    exact e_i hsz hx hb hr hlk hW mo (Nat.le_of_ble_eq_true rfl) (Nat.le_of_ble_eq_true rfl) dAT_alarm_160 ⟨by rw [e_104]; exact hvR, by rw [e_104]; exact hvS⟩
  refine lv_aload_n hx hb dAT_alarm_0 rfl (lv_at hl 0 rfl) ?_
  refine lv_iload_n hx hb dAT_alarm_1 rfl (lv_at hl 1 rfl) ?_
  refine k_Vq (As := [.int n]) (rest := []) (c_findCounter l D AC S t n k_t hn ha) CAT_52 ⟨by decide, by decide, _, rfl, rfl⟩ hx hb hml hown hts hW k_t hl.1 rfl rfl (Nat.le_of_ble_eq_true rfl) ⟨⟨Nat.le_of_ble_eq_true rfl, Nat.le_of_ble_eq_true rfl⟩, ⟨Nat.le_of_ble_eq_true rfl, Nat.le_of_ble_eq_true rfl⟩⟩ dAT_alarm_2 (fun r_1 S_1 H locs e_1 hW m_1 _ => ?_)
  obtain ⟨e1_1, e2_1⟩ := e_1
  rw [e2_1] at hW m_1
  rw [e1_1]
  have kq_2 : ∀ b, (findCounter_R S t n) = some b → kd S b = 3 := kq_findCounter hW.ok k_t hn _
  refine q_astore (lv' := [(4, va_rf (findCounter_R S t n)), (0, .ref t), (1, .int n), (2, .int x), (3, .int o)]) hx hb dAT_alarm_5 hl (by decide) rfl (fun ls hl => ?_)
  refine q_aload hx hb dAT_alarm_7 (lv_at hl 0 rfl) ?_
  refine q_ifnull (tgt := 21) hx hb dAT_alarm_9 (by decide) (fun n_3 => ?_) (fun b_3 n_3 => ?_)
  · refine lv_iconst (v := (-1 : Int32)) hx hb dAT_alarm_21 (by decide) ?_
    exact e_i hsz hx hb hr hlk hW mo (Nat.le_of_ble_eq_true rfl) (Nat.le_of_ble_eq_true rfl) dAT_alarm_22 ⟨by refine Eq.symm ?_; refine (op_none n_3).trans ?_; rfl, by refine Eq.symm ?_; refine (op_none n_3).trans ?_; rfl⟩
  · have k_b_3 : kd S b_3 = 3 := kq_2 b_3 n_3
    refine lv_aload_n hx hb dAT_alarm_12 rfl (lv_at hl 1 rfl) ?_
    refine lv_iload_n hx hb dAT_alarm_13 rfl (lv_at hl 3 rfl) ?_
    refine lv_iload_n hx hb dAT_alarm_14 rfl (lv_at hl 4 rfl) ?_
    refine k_Vi (As := [.int x, .int o]) (rest := []) (c_isUnknownFor l D AC S t x o k_t hn ha) CAT_56 ⟨by decide, by decide, _, rfl, rfl⟩ hx hb hml hown hts hW k_t hl.1 rfl rfl (Nat.le_of_ble_eq_true rfl) ⟨⟨Nat.le_of_ble_eq_true rfl, Nat.le_of_ble_eq_true rfl⟩, ⟨Nat.le_of_ble_eq_true rfl, Nat.le_of_ble_eq_true rfl⟩⟩ dAT_alarm_15 (fun r_4 S_4 H locs e_4 hW m_4 _ => ?_)
    obtain ⟨e1_4, e2_4⟩ := e_4
    rw [e2_4] at hW m_4
    rw [e1_4]
    refine lv_if_eq (tgt := 23) hx hb dAT_alarm_18 (by decide) (fun c_5 => ?_) (fun c_5 => ?_)
    · refine lv_iload_n hx hb dAT_alarm_23 rfl (lv_at hl 3 rfl) ?_
      refine lv_if_lt (tgt := 32) hx hb dAT_alarm_24 (by decide) (fun c_6 => ?_) (fun c_6 => ?_)
      · refine lv_bipush (v := (-2 : Int32)) hx hb dAT_alarm_32 (by decide) ?_
        exact e_i hsz hx hb hr hlk hW mo (Nat.le_of_ble_eq_true rfl) (Nat.le_of_ble_eq_true rfl) dAT_alarm_34 ⟨by refine Eq.symm ?_; refine (op_some n_3).trans ?_; refine (if_pos c_5).trans ?_; refine (if_pos c_6).trans ?_; rfl, by refine Eq.symm ?_; refine (op_some n_3).trans ?_; refine (if_pos c_5).trans ?_; refine (if_pos c_6).trans ?_; rfl⟩
      · refine lv_iload_n hx hb dAT_alarm_27 rfl (lv_at hl 3 rfl) ?_
        refine lv_iconst (v := (2 : Int32)) hx hb dAT_alarm_28 (by decide) ?_
        refine lv_icmp_le (tgt := 35) hx hb dAT_alarm_29 (by decide) (fun c_7 => ?_) (fun c_7 => ?_)
        · refine lv_iload_n hx hb dAT_alarm_35 rfl (lv_at hl 3 rfl) ?_
          refine lv_iconst (v := (1 : Int32)) hx hb dAT_alarm_36 (by decide) ?_
          refine lv_icmp_ne (tgt := 48) hx hb dAT_alarm_37 (by decide) (fun c_8 => ?_) (fun c_8 => ?_)
          · refine lv_null hx hb dAT_alarm_48 ?_
            refine lv_astoreN (lv' := [(5, .null), (4, va_rf (findCounter_R S t n)), (0, .ref t), (1, .int n), (2, .int x), (3, .int o)]) hx hb dAT_alarm_49 hl (by decide) (by simp [q_cat, cat_r, cat_i, cat_l, cat_n]) (fun ls hl => ?_)
            refine q_aload hx hb dAT_alarm_51 (lv_at hl 1 rfl) ?_
            refine lv_aloadN hx hb dAT_alarm_53 (lv_at hl 0 rfl) ?_
            refine q_some1 n_3 ?_
            refine k_Si (As := [.ref b_3, .null]) (rest := []) (c_wouldCircle l D AC S b_3 none k_b_3 (fun b h => by cases h)) CAT_60 hx hb hml hown hts hW hl.1 rfl rfl (Nat.le_of_ble_eq_true rfl) ⟨⟨Nat.le_of_ble_eq_true rfl, Nat.le_of_ble_eq_true rfl⟩, ⟨Nat.le_of_ble_eq_true rfl, Nat.le_of_ble_eq_true rfl⟩⟩ dAT_alarm_55 (fun r_9 S_9 H locs e_9 hW m_9 _ => ?_)
            obtain ⟨e1_9, e2_9⟩ := e_9
            rw [e2_9] at hW m_9
            rw [e1_9]
            refine lv_if_eq (tgt := 64) hx hb dAT_alarm_58 (by decide) (fun c_10 => ?_) (fun c_10 => ?_)
            · refine lv_aload_n hx hb dAT_alarm_64 rfl (lv_at hl 2 rfl) ?_
              refine g_i FAT_64 hx hb hts hown hW k_t dAT_alarm_65 ?_
              refine lv_bipush (v := (100 : Int32)) hx hb dAT_alarm_68 (by decide) ?_
              refine lv_icmp_lt (tgt := 76) hx hb dAT_alarm_70 (by decide) (fun c_11 => ?_) (fun c_11 => ?_)
              · refine lv_iload_n hx hb dAT_alarm_76 rfl (lv_at hl 4 rfl) ?_
                refine lv_iconst (v := (2 : Int32)) hx hb dAT_alarm_77 (by decide) ?_
                refine lv_icmp_ne (tgt := 89) hx hb dAT_alarm_78 (by decide) (fun c_12 => ?_) (fun c_12 => ?_)
                · refine lv_null hx hb dAT_alarm_89 ?_
                  refine lv_astoreN (lv' := [(6, .null), (5, .null), (4, va_rf (findCounter_R S t n)), (0, .ref t), (1, .int n), (2, .int x), (3, .int o)]) hx hb dAT_alarm_90 hl (by decide) rfl (fun ls hl => ?_)
                  exact seg92 b_3 none none k_b_3 (fun b h => by cases h) (fun b h => by cases h) c_11 (by refine Eq.symm ?_; refine (op_some n_3).trans ?_; refine (if_pos c_5).trans ?_; refine (if_neg c_6).trans ?_; refine (if_pos c_7).trans ?_; refine (if_neg c_8).trans ?_; refine (if_pos c_10).trans ?_; refine (if_pos c_11).trans ?_; refine (if_neg c_12).trans ?_; rfl) (by refine Eq.symm ?_; refine (op_some n_3).trans ?_; refine (if_pos c_5).trans ?_; refine (if_neg c_6).trans ?_; refine (if_pos c_7).trans ?_; refine (if_neg c_8).trans ?_; refine (if_pos c_10).trans ?_; refine (if_pos c_11).trans ?_; refine (if_neg c_12).trans ?_; rfl) _ _ hW ls (by have hl2 := (lv_sub hl [3, 2, 1, 0] rfl); rw [n_3] at hl2; exact hl2)
                · refine lv_aload_n hx hb dAT_alarm_81 rfl (lv_at hl 2 rfl) ?_
                  refine lv_iload_n hx hb dAT_alarm_82 rfl (lv_at hl 5 rfl) ?_
                  refine k_Vq (As := [.int o]) (rest := []) (c_findAlarm l D AC S t o k_t hn ha) CAT_67 ⟨by decide, by decide, _, rfl, rfl⟩ hx hb hml hown hts hW k_t hl.1 rfl rfl (Nat.le_of_ble_eq_true rfl) ⟨⟨Nat.le_of_ble_eq_true rfl, Nat.le_of_ble_eq_true rfl⟩, ⟨Nat.le_of_ble_eq_true rfl, Nat.le_of_ble_eq_true rfl⟩⟩ dAT_alarm_83 (fun r_13 S_13 H locs e_13 hW m_13 _ => ?_)
                  obtain ⟨e1_13, e2_13⟩ := e_13
                  rw [e2_13] at hW m_13
                  rw [e1_13]
                  have kq_14 : ∀ b, (findAlarm_R S t o) = some b → kd S b = 2 := kq_findAlarm hW.ok k_t hn _
                  refine lv_goto (tgt := 90) hx hb dAT_alarm_86 (by decide) ?_
                  refine q_astore (lv' := [(6, va_rf (findAlarm_R S t o)), (5, .null), (4, va_rf (findCounter_R S t n)), (0, .ref t), (1, .int n), (2, .int x), (3, .int o)]) hx hb dAT_alarm_90 hl (by decide) rfl (fun ls hl => ?_)
                  exact seg92 b_3 none (findAlarm_R S t o) k_b_3 (fun b h => by cases h) kq_14 c_11 (by refine Eq.symm ?_; refine (op_some n_3).trans ?_; refine (if_pos c_5).trans ?_; refine (if_neg c_6).trans ?_; refine (if_pos c_7).trans ?_; refine (if_neg c_8).trans ?_; refine (if_pos c_10).trans ?_; refine (if_pos c_11).trans ?_; refine (if_pos c_12).trans ?_; rfl) (by refine Eq.symm ?_; refine (op_some n_3).trans ?_; refine (if_pos c_5).trans ?_; refine (if_neg c_6).trans ?_; refine (if_pos c_7).trans ?_; refine (if_neg c_8).trans ?_; refine (if_pos c_10).trans ?_; refine (if_pos c_11).trans ?_; refine (if_pos c_12).trans ?_; rfl) _ _ hW ls (by have hl2 := (lv_sub hl [3, 2, 1, 0] rfl); rw [n_3] at hl2; exact hl2)
              · refine lv_bipush (v := (-4 : Int32)) hx hb dAT_alarm_73 (by decide) ?_
                exact e_i hsz hx hb hr hlk hW mo (Nat.le_of_ble_eq_true rfl) (Nat.le_of_ble_eq_true rfl) dAT_alarm_75 ⟨by refine Eq.symm ?_; refine (op_some n_3).trans ?_; refine (if_pos c_5).trans ?_; refine (if_neg c_6).trans ?_; refine (if_pos c_7).trans ?_; refine (if_neg c_8).trans ?_; refine (if_pos c_10).trans ?_; refine (if_neg c_11).trans ?_; rfl, by refine Eq.symm ?_; refine (op_some n_3).trans ?_; refine (if_pos c_5).trans ?_; refine (if_neg c_6).trans ?_; refine (if_pos c_7).trans ?_; refine (if_neg c_8).trans ?_; refine (if_pos c_10).trans ?_; refine (if_neg c_11).trans ?_; rfl⟩
            · refine lv_bipush (v := (-3 : Int32)) hx hb dAT_alarm_61 (by decide) ?_
              exact e_i hsz hx hb hr hlk hW mo (Nat.le_of_ble_eq_true rfl) (Nat.le_of_ble_eq_true rfl) dAT_alarm_63 ⟨by refine Eq.symm ?_; refine (op_some n_3).trans ?_; refine (if_pos c_5).trans ?_; refine (if_neg c_6).trans ?_; refine (if_pos c_7).trans ?_; refine (if_neg c_8).trans ?_; refine (if_neg c_10).trans ?_; rfl, by refine Eq.symm ?_; refine (op_some n_3).trans ?_; refine (if_pos c_5).trans ?_; refine (if_neg c_6).trans ?_; refine (if_pos c_7).trans ?_; refine (if_neg c_8).trans ?_; refine (if_neg c_10).trans ?_; rfl⟩
          · refine lv_aload_n hx hb dAT_alarm_40 rfl (lv_at hl 1 rfl) ?_
            refine lv_iload_n hx hb dAT_alarm_41 rfl (lv_at hl 4 rfl) ?_
            refine k_Vq (As := [.int o]) (rest := []) (c_findCounter l D AC S t o k_t hn ha) CAT_52 ⟨by decide, by decide, _, rfl, rfl⟩ hx hb hml hown hts hW k_t hl.1 rfl rfl (Nat.le_of_ble_eq_true rfl) ⟨⟨Nat.le_of_ble_eq_true rfl, Nat.le_of_ble_eq_true rfl⟩, ⟨Nat.le_of_ble_eq_true rfl, Nat.le_of_ble_eq_true rfl⟩⟩ dAT_alarm_42 (fun r_15 S_15 H locs e_15 hW m_15 _ => ?_)
            obtain ⟨e1_15, e2_15⟩ := e_15
            rw [e2_15] at hW m_15
            rw [e1_15]
            have kq_16 : ∀ b, (findCounter_R S t o) = some b → kd S b = 3 := kq_findCounter hW.ok k_t hn _
            refine lv_goto (tgt := 49) hx hb dAT_alarm_45 (by decide) ?_
            refine q_astore (lv' := [(5, va_rf (findCounter_R S t o)), (4, va_rf (findCounter_R S t n)), (0, .ref t), (1, .int n), (2, .int x), (3, .int o)]) hx hb dAT_alarm_49 hl (by decide) (by simp [q_cat, cat_r, cat_i, cat_l, cat_n]) (fun ls hl => ?_)
            refine q_aload hx hb dAT_alarm_51 (lv_at hl 1 rfl) ?_
            refine q_aload hx hb dAT_alarm_53 (lv_at hl 0 rfl) ?_
            refine q_some1 n_3 ?_
            refine k_Si (As := [.ref b_3, va_rf (findCounter_R S t o)]) (rest := []) (c_wouldCircle l D AC S b_3 (findCounter_R S t o) k_b_3 kq_16) CAT_60 hx hb hml hown hts hW hl.1 rfl rfl (Nat.le_of_ble_eq_true rfl) ⟨⟨Nat.le_of_ble_eq_true rfl, Nat.le_of_ble_eq_true rfl⟩, ⟨Nat.le_of_ble_eq_true rfl, Nat.le_of_ble_eq_true rfl⟩⟩ dAT_alarm_55 (fun r_17 S_17 H locs e_17 hW m_17 _ => ?_)
            obtain ⟨e1_17, e2_17⟩ := e_17
            rw [e2_17] at hW m_17
            rw [e1_17]
            refine lv_if_eq (tgt := 64) hx hb dAT_alarm_58 (by decide) (fun c_18 => ?_) (fun c_18 => ?_)
            · refine lv_aload_n hx hb dAT_alarm_64 rfl (lv_at hl 2 rfl) ?_
              refine g_i FAT_64 hx hb hts hown hW k_t dAT_alarm_65 ?_
              refine lv_bipush (v := (100 : Int32)) hx hb dAT_alarm_68 (by decide) ?_
              refine lv_icmp_lt (tgt := 76) hx hb dAT_alarm_70 (by decide) (fun c_19 => ?_) (fun c_19 => ?_)
              · refine lv_iload_n hx hb dAT_alarm_76 rfl (lv_at hl 4 rfl) ?_
                refine lv_iconst (v := (2 : Int32)) hx hb dAT_alarm_77 (by decide) ?_
                refine lv_icmp_ne (tgt := 89) hx hb dAT_alarm_78 (by decide) (fun c_20 => ?_) (fun c_20 => ?_)
                · refine lv_null hx hb dAT_alarm_89 ?_
                  refine lv_astoreN (lv' := [(6, .null), (5, va_rf (findCounter_R S t o)), (4, va_rf (findCounter_R S t n)), (0, .ref t), (1, .int n), (2, .int x), (3, .int o)]) hx hb dAT_alarm_90 hl (by decide) (by simp [q_cat, cat_r, cat_i, cat_l, cat_n]) (fun ls hl => ?_)
                  exact seg92 b_3 (findCounter_R S t o) none k_b_3 kq_16 (fun b h => by cases h) c_19 (by refine Eq.symm ?_; refine (op_some n_3).trans ?_; refine (if_pos c_5).trans ?_; refine (if_neg c_6).trans ?_; refine (if_pos c_7).trans ?_; refine (if_pos c_8).trans ?_; refine (if_pos c_18).trans ?_; refine (if_pos c_19).trans ?_; refine (if_neg c_20).trans ?_; rfl) (by refine Eq.symm ?_; refine (op_some n_3).trans ?_; refine (if_pos c_5).trans ?_; refine (if_neg c_6).trans ?_; refine (if_pos c_7).trans ?_; refine (if_pos c_8).trans ?_; refine (if_pos c_18).trans ?_; refine (if_pos c_19).trans ?_; refine (if_neg c_20).trans ?_; rfl) _ _ hW ls (by have hl2 := (lv_sub hl [3, 2, 1, 0] rfl); rw [n_3] at hl2; exact hl2)
                · refine lv_aload_n hx hb dAT_alarm_81 rfl (lv_at hl 2 rfl) ?_
                  refine lv_iload_n hx hb dAT_alarm_82 rfl (lv_at hl 5 rfl) ?_
                  refine k_Vq (As := [.int o]) (rest := []) (c_findAlarm l D AC S t o k_t hn ha) CAT_67 ⟨by decide, by decide, _, rfl, rfl⟩ hx hb hml hown hts hW k_t hl.1 rfl rfl (Nat.le_of_ble_eq_true rfl) ⟨⟨Nat.le_of_ble_eq_true rfl, Nat.le_of_ble_eq_true rfl⟩, ⟨Nat.le_of_ble_eq_true rfl, Nat.le_of_ble_eq_true rfl⟩⟩ dAT_alarm_83 (fun r_21 S_21 H locs e_21 hW m_21 _ => ?_)
                  obtain ⟨e1_21, e2_21⟩ := e_21
                  rw [e2_21] at hW m_21
                  rw [e1_21]
                  have kq_22 : ∀ b, (findAlarm_R S t o) = some b → kd S b = 2 := kq_findAlarm hW.ok k_t hn _
                  refine lv_goto (tgt := 90) hx hb dAT_alarm_86 (by decide) ?_
                  refine q_astore (lv' := [(6, va_rf (findAlarm_R S t o)), (5, va_rf (findCounter_R S t o)), (4, va_rf (findCounter_R S t n)), (0, .ref t), (1, .int n), (2, .int x), (3, .int o)]) hx hb dAT_alarm_90 hl (by decide) (by simp [q_cat, cat_r, cat_i, cat_l, cat_n]) (fun ls hl => ?_)
                  exact seg92 b_3 (findCounter_R S t o) (findAlarm_R S t o) k_b_3 kq_16 kq_22 c_19 (by refine Eq.symm ?_; refine (op_some n_3).trans ?_; refine (if_pos c_5).trans ?_; refine (if_neg c_6).trans ?_; refine (if_pos c_7).trans ?_; refine (if_pos c_8).trans ?_; refine (if_pos c_18).trans ?_; refine (if_pos c_19).trans ?_; refine (if_pos c_20).trans ?_; rfl) (by refine Eq.symm ?_; refine (op_some n_3).trans ?_; refine (if_pos c_5).trans ?_; refine (if_neg c_6).trans ?_; refine (if_pos c_7).trans ?_; refine (if_pos c_8).trans ?_; refine (if_pos c_18).trans ?_; refine (if_pos c_19).trans ?_; refine (if_pos c_20).trans ?_; rfl) _ _ hW ls (by have hl2 := (lv_sub hl [3, 2, 1, 0] rfl); rw [n_3] at hl2; exact hl2)
              · refine lv_bipush (v := (-4 : Int32)) hx hb dAT_alarm_73 (by decide) ?_
                exact e_i hsz hx hb hr hlk hW mo (Nat.le_of_ble_eq_true rfl) (Nat.le_of_ble_eq_true rfl) dAT_alarm_75 ⟨by refine Eq.symm ?_; refine (op_some n_3).trans ?_; refine (if_pos c_5).trans ?_; refine (if_neg c_6).trans ?_; refine (if_pos c_7).trans ?_; refine (if_pos c_8).trans ?_; refine (if_pos c_18).trans ?_; refine (if_neg c_19).trans ?_; rfl, by refine Eq.symm ?_; refine (op_some n_3).trans ?_; refine (if_pos c_5).trans ?_; refine (if_neg c_6).trans ?_; refine (if_pos c_7).trans ?_; refine (if_pos c_8).trans ?_; refine (if_pos c_18).trans ?_; refine (if_neg c_19).trans ?_; rfl⟩
            · refine lv_bipush (v := (-3 : Int32)) hx hb dAT_alarm_61 (by decide) ?_
              exact e_i hsz hx hb hr hlk hW mo (Nat.le_of_ble_eq_true rfl) (Nat.le_of_ble_eq_true rfl) dAT_alarm_63 ⟨by refine Eq.symm ?_; refine (op_some n_3).trans ?_; refine (if_pos c_5).trans ?_; refine (if_neg c_6).trans ?_; refine (if_pos c_7).trans ?_; refine (if_pos c_8).trans ?_; refine (if_neg c_18).trans ?_; rfl, by refine Eq.symm ?_; refine (op_some n_3).trans ?_; refine (if_pos c_5).trans ?_; refine (if_neg c_6).trans ?_; refine (if_pos c_7).trans ?_; refine (if_pos c_8).trans ?_; refine (if_neg c_18).trans ?_; rfl⟩
        · refine lv_bipush (v := (-2 : Int32)) hx hb dAT_alarm_32 (by decide) ?_
          exact e_i hsz hx hb hr hlk hW mo (Nat.le_of_ble_eq_true rfl) (Nat.le_of_ble_eq_true rfl) dAT_alarm_34 ⟨by refine Eq.symm ?_; refine (op_some n_3).trans ?_; refine (if_pos c_5).trans ?_; refine (if_neg c_6).trans ?_; refine (if_neg c_7).trans ?_; rfl, by refine Eq.symm ?_; refine (op_some n_3).trans ?_; refine (if_pos c_5).trans ?_; refine (if_neg c_6).trans ?_; refine (if_neg c_7).trans ?_; rfl⟩
    · refine lv_iconst (v := (-1 : Int32)) hx hb dAT_alarm_21 (by decide) ?_
      exact e_i hsz hx hb hr hlk hW mo (Nat.le_of_ble_eq_true rfl) (Nat.le_of_ble_eq_true rfl) dAT_alarm_22 ⟨by refine Eq.symm ?_; refine (op_some n_3).trans ?_; refine (if_neg c_5).trans ?_; rfl, by refine Eq.symm ?_; refine (op_some n_3).trans ?_; refine (if_neg c_5).trans ?_; rfl⟩
