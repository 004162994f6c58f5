noncomputable def pointE_S (S : HS) (t tb : Nat) (off : Int64) (c0 a0 : Option Nat) : HS := (link_S (insert_S (Point_init_S (Act_init_S (newQ (newQ S (hz S) 6) (hz (newQ S (hz S) 6)) 1) (hz (newQ S (hz S) 6)) c0 a0) (hz S) off (hz (newQ S (hz S) 6))) tb (hz S) (cho (fr S 12) (fr S 14 tb))) t (gd (fr (insert_S (Point_init_S (Act_init_S (newQ (newQ S (hz S) 6) (hz (newQ S (hz S) 6)) 1) (hz (newQ S (hz S) 6)) c0 a0) (hz S) off (hz (newQ S (hz S) 6))) tb (hz S) (cho (fr S 12) (fr S 14 tb))) 13 tb)) c0)
noncomputable def pointE_R (S : HS) (t tb : Nat) (off : Int64) (c0 a0 : Option Nat) : Int32 := fi (link_S (insert_S (Point_init_S (Act_init_S (newQ (newQ S (hz S) 6) (hz (newQ S (hz S) 6)) 1) (hz (newQ S (hz S) 6)) c0 a0) (hz S) off (hz (newQ S (hz S) 6))) tb (hz S) (cho (fr S 12) (fr S 14 tb))) t (gd (fr (insert_S (Point_init_S (Act_init_S (newQ (newQ S (hz S) 6) (hz (newQ S (hz S) 6)) 1) (hz (newQ S (hz S) 6)) c0 a0) (hz S) off (hz (newQ S (hz S) 6))) tb (hz S) (cho (fr S 12) (fr S 14 tb))) 13 tb)) c0) 7 tb

noncomputable def point_R (S : HS) (t : Nat) (n : Int32) (off : Int64) (x : Int32) : Int32 :=
  if x ≤ 0 then
    if 0 ≤ x then
      opc (findTable_R S t n) ((-1 : Int32))
      (fun b_5 => if x = 0 then
          if off < (0 : Int64) then
            (-2 : Int32)
          else
            if (fl S 9 b_5) < off then
              (-2 : Int32)
            else
              if (fi S 8 b_5) = 0 then
                if (hasPointAt_R S b_5 off (cho (fr S 12) (fr S 14 b_5))) = 0 then
                  if (wouldCircle_R S (gd (fr S 13 b_5)) none) = 0 then
                    if (fi S 7 b_5) < (20 : Int32) then
                      pointE_R S t b_5 off none none
                    else
                      (-4 : Int32)
                  else
                    (-3 : Int32)
                else
                  (-3 : Int32)
              else
                (-3 : Int32)
        else
          (-1 : Int32))
    else
      opc (findTable_R S t n) ((-1 : Int32))
      (fun b_20 => if x = 0 then
          if off < (0 : Int64) then
            (-2 : Int32)
          else
            if (fl S 9 b_20) < off then
              (-2 : Int32)
            else
              if (fi S 8 b_20) = 0 then
                if (hasPointAt_R S b_20 off (cho (fr S 12) (fr S 14 b_20))) = 0 then
                  if (wouldCircle_R S (gd (fr S 13 b_20)) none) = 0 then
                    if (fi S 7 b_20) < (20 : Int32) then
                      pointE_R S t b_20 off none (findAlarm_R S t (-x))
                    else
                      (-4 : Int32)
                  else
                    (-3 : Int32)
                else
                  (-3 : Int32)
              else
                (-3 : Int32)
        else
          opc (findAlarm_R S t (-x)) ((-1 : Int32))
          (fun b_33 => if off < (0 : Int64) then
              (-2 : Int32)
            else
              if (fl S 9 b_20) < off then
                (-2 : Int32)
              else
                if (fi S 8 b_20) = 0 then
                  if (hasPointAt_R S b_20 off (cho (fr S 12) (fr S 14 b_20))) = 0 then
                    if (wouldCircle_R S (gd (fr S 13 b_20)) none) = 0 then
                      if (fi S 7 b_20) < (20 : Int32) then
                        pointE_R S t b_20 off none (findAlarm_R S t (-x))
                      else
                        (-4 : Int32)
                    else
                      (-3 : Int32)
                  else
                    (-3 : Int32)
                else
                  (-3 : Int32)))
  else
    opc (findTable_R S t n) ((-1 : Int32))
    (fun b_48 => if x = 0 then
        if off < (0 : Int64) then
          (-2 : Int32)
        else
          if (fl S 9 b_48) < off then
            (-2 : Int32)
          else
            if (fi S 8 b_48) = 0 then
              if (hasPointAt_R S b_48 off (cho (fr S 12) (fr S 14 b_48))) = 0 then
                if (wouldCircle_R S (gd (fr S 13 b_48)) (findCounter_R S t x)) = 0 then
                  if (fi S 7 b_48) < (20 : Int32) then
                    pointE_R S t b_48 off (findCounter_R S t x) none
                  else
                    (-4 : Int32)
                else
                  (-3 : Int32)
              else
                (-3 : Int32)
            else
              (-3 : Int32)
      else
        opc (findCounter_R S t x) ((-1 : Int32))
        (fun b_61 => if off < (0 : Int64) then
            (-2 : Int32)
          else
            if (fl S 9 b_48) < off then
              (-2 : Int32)
            else
              if (fi S 8 b_48) = 0 then
                if (hasPointAt_R S b_48 off (cho (fr S 12) (fr S 14 b_48))) = 0 then
                  if (wouldCircle_R S (gd (fr S 13 b_48)) (findCounter_R S t x)) = 0 then
                    if (fi S 7 b_48) < (20 : Int32) then
                      pointE_R S t b_48 off (findCounter_R S t x) none
                    else
                      (-4 : Int32)
                  else
                    (-3 : Int32)
                else
                  (-3 : Int32)
              else
                (-3 : Int32)))
noncomputable def point_S (S : HS) (t : Nat) (n : Int32) (off : Int64) (x : Int32) : HS :=
  if x ≤ 0 then
    if 0 ≤ x then
      opc (findTable_R S t n) (S)
      (fun b_5 => if x = 0 then
          if off < (0 : Int64) then
            S
          else
            if (fl S 9 b_5) < off then
              S
            else
              if (fi S 8 b_5) = 0 then
                if (hasPointAt_R S b_5 off (cho (fr S 12) (fr S 14 b_5))) = 0 then
                  if (wouldCircle_R S (gd (fr S 13 b_5)) none) = 0 then
                    if (fi S 7 b_5) < (20 : Int32) then
                      pointE_S S t b_5 off none none
                    else
                      S
                  else
                    S
                else
                  S
              else
                S
        else
          S)
    else
      opc (findTable_R S t n) (S)
      (fun b_20 => if x = 0 then
          if off < (0 : Int64) then
            S
          else
            if (fl S 9 b_20) < off then
              S
            else
              if (fi S 8 b_20) = 0 then
                if (hasPointAt_R S b_20 off (cho (fr S 12) (fr S 14 b_20))) = 0 then
                  if (wouldCircle_R S (gd (fr S 13 b_20)) none) = 0 then
                    if (fi S 7 b_20) < (20 : Int32) then
                      pointE_S S t b_20 off none (findAlarm_R S t (-x))
                    else
                      S
                  else
                    S
                else
                  S
              else
                S
        else
          opc (findAlarm_R S t (-x)) (S)
          (fun b_33 => if off < (0 : Int64) then
              S
            else
              if (fl S 9 b_20) < off then
                S
              else
                if (fi S 8 b_20) = 0 then
                  if (hasPointAt_R S b_20 off (cho (fr S 12) (fr S 14 b_20))) = 0 then
                    if (wouldCircle_R S (gd (fr S 13 b_20)) none) = 0 then
                      if (fi S 7 b_20) < (20 : Int32) then
                        pointE_S S t b_20 off none (findAlarm_R S t (-x))
                      else
                        S
                    else
                      S
                  else
                    S
                else
                  S))
  else
    opc (findTable_R S t n) (S)
    (fun b_48 => if x = 0 then
        if off < (0 : Int64) then
          S
        else
          if (fl S 9 b_48) < off then
            S
          else
            if (fi S 8 b_48) = 0 then
              if (hasPointAt_R S b_48 off (cho (fr S 12) (fr S 14 b_48))) = 0 then
                if (wouldCircle_R S (gd (fr S 13 b_48)) (findCounter_R S t x)) = 0 then
                  if (fi S 7 b_48) < (20 : Int32) then
                    pointE_S S t b_48 off (findCounter_R S t x) none
                  else
                    S
                else
                  S
              else
                S
            else
              S
      else
        opc (findCounter_R S t x) (S)
        (fun b_61 => if off < (0 : Int64) then
            S
          else
            if (fl S 9 b_48) < off then
              S
            else
              if (fi S 8 b_48) = 0 then
                if (hasPointAt_R S b_48 off (cho (fr S 12) (fr S 14 b_48))) = 0 then
                  if (wouldCircle_R S (gd (fr S 13 b_48)) (findCounter_R S t x)) = 0 then
                    if (fi S 7 b_48) < (20 : Int32) then
                      pointE_S S t b_48 off (findCounter_R S t x) none
                    else
                      S
                  else
                    S
                else
                  S
              else
                S))

set_option maxRecDepth 20000 in
set_option maxHeartbeats 2000000 in
theorem c_point (l : Launch) (D : va_G) (AC : Nat → ClassId) (S : HS) (t : Nat) (n : Int32) (off : Int64) (x : Int32) (k_t : kd S t = 8) (hn : nn S) (ha : atOk S t) (hcp : ∀ b, kd S b = 7 → ∃ zs, chn (fr S 12) (fr S 14 b) zs) : CtI l yAT_point (Cond.code yAT_point cAT_point 8 (some .int) :: wT) 2 70 D AC S [.ref t, .int n, .long off, .int x] 2 5 (fun r S' => r = point_R S t n off x ∧ S' = point_S S t n off x) := by
  refine met_of (by decide) (Nat.le_of_ble_eq_true rfl) ?_
  intro p e s m below meth c ls hsz X hW hl
  obtain ⟨hx, hb, hml, hr, hlk, hown, hnm, hts⟩ := X
  have mo : mono S S := mono.rf S
  have hl : lv_has ls 8 [(0, .ref t), (1, .int n), (2, .long off), (4, .int x)] := hl
  have h00 := hW.k00
  have kt0 := k_t
  have hok0 := hW.ok
  have seg129 : ∀ (tb : Nat) (c0 a0 : Option Nat), kd S tb = 7 → (∀ b, c0 = some b → kd S b = 3) → (∀ b, a0 = some b → kd S b = 2) → pointE_R S t tb off c0 a0 = point_R S t n off x → pointE_S S t tb off c0 a0 = point_S S t n off x → ∀ H locs, Wd D AC (AS (hL S) s.heap.size) s s.heap H locs S → ∀ ls, lv_has ls 8 [(0, .ref t), (2, .long off), (5, .ref tb), (6, va_rf c0), (7, va_rf a0)] → W p l e (rmOf 2 2 5 70) s m ([.ref t, .int n, .long off, .int x] : List Value).toArray below meth c H locs 0 0 (MQ below (va_Qi (fun r S' => r = point_R S t n off x ∧ S' = point_S S t n off x) (CB D AC S) (AS (hL S) (hz S))) ([.ref t, .int n, .long off, .int x] : List Value).toArray s 2 5 (AS (hL S) (hz S))) (F0 m 129 ls []) := by
    intro tb c0 a0 k_b kq_c0 kq_a0 hvR hvS H locs hW ls hl
    have kb0 := k_b
    refine lv_aload hx hb dAT_point_129 (lv_at hl 2 rfl) ?_
    have ne101_0 : t ≠ (hz S) := hW.ne k_t (by decide)
    have ne101_1 : tb ≠ (hz S) := hW.ne k_b (by decide)
    refine n_o (NAT_142).1 rfl (NAT_142).2.1 iwPoint (NAT_142).2.2 hx hb hts hown hW ⟨Nat.le_of_ble_eq_true rfl, Nat.le_of_ble_eq_true rfl⟩ (hz S) rfl dAT_point_131 (fun H hW m_101 k_q101 => ?_)
    have k_t := m_101.k k_t (by decide)
    have k_b := m_101.k k_b (by decide)
    have kq_c0 := fun b h => m_101.k (kq_c0 b h) (by decide)
    have kq_a0 := fun b h => m_101.k (kq_a0 b h) (by decide)
    have mo := mo.tr m_101
    refine lv_dup hx hb dAT_point_134 rfl ?_
    refine lv_lload_n hx hb dAT_point_135 rfl (lv_at hl 1 rfl) ?_
    have ne102_0 : t ≠ (hz (newQ S (hz S) 6)) := hW.ne k_t (by decide)
    have ne102_1 : tb ≠ (hz (newQ S (hz S) 6)) := hW.ne k_b (by decide)
    have ne102_2 : (hz S) ≠ (hz (newQ S (hz S) 6)) := hW.ne k_q101 (by decide)
    refine n_o (NAT_71).1 rfl (NAT_71).2.1 iwAct (NAT_71).2.2 hx hb hts hown hW ⟨Nat.le_of_ble_eq_true rfl, Nat.le_of_ble_eq_true rfl⟩ (hz (newQ S (hz S) 6)) rfl dAT_point_136 (fun H hW m_102 k_q102 => ?_)
    have k_t := m_102.k k_t (by decide)
    have k_b := m_102.k k_b (by decide)
    have k_q101 := m_102.k k_q101 (by decide)
    have kq_c0 := fun b h => m_102.k (kq_c0 b h) (by decide)
    have kq_a0 := fun b h => m_102.k (kq_a0 b h) (by decide)
    have mo := mo.tr m_102
    refine lv_dup hx hb dAT_point_139 rfl ?_
    refine q_aload hx hb dAT_point_140 (lv_at hl 3 rfl) ?_
    refine q_aload hx hb dAT_point_142 (lv_at hl 4 rfl) ?_
    refine k_Iv (As := [va_rf c0, va_rf a0]) (rest := [.ref (hz (newQ S (hz S) 6)), .long off, .ref (hz S), .ref (hz S), .ref tb]) (c_Act_init l D AC (newQ (newQ S (hz S) 6) (hz (newQ S (hz S) 6)) 1) (hz (newQ S (hz S) 6)) c0 a0 k_q102 kq_c0 kq_a0) CAT_73 hx hb hml hown hts hW hl.1 rfl rfl (Nat.le_of_ble_eq_true rfl) ⟨⟨Nat.le_of_ble_eq_true rfl, Nat.le_of_ble_eq_true rfl⟩, ⟨Nat.le_of_ble_eq_true rfl, Nat.le_of_ble_eq_true rfl⟩⟩ dAT_point_144 (fun S_103 H locs e_103 hW m_103 _ => ?_)
    rw [e_103] at hW m_103
    have k_t := m_103.k k_t (by decide)
    have k_b := m_103.k k_b (by decide)
    have k_q101 := m_103.k k_q101 (by decide)
    have k_q102 := m_103.k k_q102 (by decide)
    have kq_c0 := fun b h => m_103.k (kq_c0 b h) (by decide)
    have kq_a0 := fun b h => m_103.k (kq_a0 b h) (by decide)
    have mo := mo.tr m_103
    refine k_Iv (As := [.long off, .ref (hz (newQ S (hz S) 6))]) (rest := [.ref (hz S), .ref tb]) (c_Point_init l D AC (Act_init_S (newQ (newQ S (hz S) 6) (hz (newQ S (hz S) 6)) 1) (hz (newQ S (hz S) 6)) c0 a0) (hz S) off (hz (newQ S (hz S) 6)) k_q101 k_q102) CAT_144 hx hb hml hown hts hW hl.1 rfl rfl (Nat.le_of_ble_eq_true rfl) ⟨⟨Nat.le_of_ble_eq_true rfl, Nat.le_of_ble_eq_true rfl⟩, ⟨Nat.le_of_ble_eq_true rfl, Nat.le_of_ble_eq_true rfl⟩⟩ dAT_point_147 (fun S_104 H locs e_104 hW m_104 _ => ?_)
    have k_t := m_104.k k_t (by decide)
    have k_b := m_104.k k_b (by decide)
    have k_q101 := m_104.k k_q101 (by decide)
    have k_q102 := m_104.k k_q102 (by decide)
    have kq_c0 := fun b h => m_104.k (kq_c0 b h) (by decide)
    have kq_a0 := fun b h => m_104.k (kq_a0 b h) (by decide)
    have mo := mo.tr m_104
    have hr_104 : ∀ k a, a ≠ (hz S) → a ≠ (hz (newQ S (hz S) 6)) → fr S_104 k a = fr S k a := by rw [e_104]; exact fun k a h0 h1 => point_fr' h0 h1
    have hi_104 : ∀ k a, a ≠ (hz S) → a ≠ (hz (newQ S (hz S) 6)) → fi S_104 k a = fi S k a := by rw [e_104]; exact fun k a h0 h1 => point_fi' h0 h1
    have nnp_105 : nn S_104 := by rw [e_104]; exact nn_point' hn
    refine k_Vv (As := [.ref (hz S)]) (rest := []) (c_insert l D AC S_104 tb (hz S) (cho (fr S 12) (fr S 14 tb)) k_b k_q101 (by rw [e_104]; exact chn_point' hok0 h00 kb0 (cho_spec (hcp tb kb0)))) CAT_147 ⟨by decide, by decide, _, rfl, rfl⟩ hx hb hml hown hts hW k_b hl.1 rfl rfl (Nat.le_of_ble_eq_true rfl) ⟨⟨Nat.le_of_ble_eq_true rfl, Nat.le_of_ble_eq_true rfl⟩, ⟨Nat.le_of_ble_eq_true rfl, Nat.le_of_ble_eq_true rfl⟩⟩ dAT_point_150 (fun S_106 H locs e_106 hW m_106 _ => ?_)
    rw [e_106] at hW m_106
    have k_t := m_106.k k_t (by decide)
    have k_b := m_106.k k_b (by decide)
    have k_q101 := m_106.k k_q101 (by decide)
    have k_q102 := m_106.k k_q102 (by decide)
    have kq_c0 := fun b h => m_106.k (kq_c0 b h) (by decide)
    have kq_a0 := fun b h => m_106.k (kq_a0 b h) (by decide)
    have mo := mo.tr m_106
    have nnp_107 : nn (insert_S S_104 tb (hz S) (cho (fr S 12) (fr S 14 tb))) := nn_insert nnp_105
    refine lv_aload_n hx hb dAT_point_153 rfl (lv_at hl 0 rfl) ?_
    refine lv_aload hx hb dAT_point_154 (lv_at hl 2 rfl) ?_
    have kq_108 : ∀ b, fr (insert_S S_104 tb (hz S) (cho (fr S 12) (fr S 14 tb))) 13 tb = some b → kd (insert_S S_104 tb (hz S) (cho (fr S 12) (fr S 14 tb))) b = 3 := fun b h => hW.ok.2.1 13 tb b k_b h
    refine g_q FAT_138 hx hb hts hown hW k_b dAT_point_156 ?_
    refine q_aload hx hb dAT_point_159 (lv_at hl 3 rfl) ?_
    have n_109 : fr (insert_S S_104 tb (hz S) (cho (fr S 12) (fr S 14 tb))) 13 tb = some (gd (fr (insert_S S_104 tb (hz S) (cho (fr S 12) (fr S 14 tb))) 13 tb)) := gd_some (nnp_107 13 tb rfl k_b)
    have kb_110 : kd (insert_S S_104 tb (hz S) (cho (fr S 12) (fr S 14 tb))) (gd (fr (insert_S S_104 tb (hz S) (cho (fr S 12) (fr S 14 tb))) 13 tb)) = 3 := kq_108 (gd (fr (insert_S S_104 tb (hz S) (cho (fr S 12) (fr S 14 tb))) 13 tb)) n_109
    refine q_some1 n_109 ?_
    refine k_Vv (As := [.ref (gd (fr (insert_S S_104 tb (hz S) (cho (fr S 12) (fr S 14 tb))) 13 tb)), va_rf c0]) (rest := []) (c_link l D AC (insert_S S_104 tb (hz S) (cho (fr S 12) (fr S 14 tb))) t (gd (fr (insert_S S_104 tb (hz S) (cho (fr S 12) (fr S 14 tb))) 13 tb)) c0 k_t kb_110 kq_c0 nnp_107 (by rw [e_104]; exact atOk_point' ha h00 kt0)) CAT_83 ⟨by decide, by decide, _, rfl, rfl⟩ hx hb hml hown hts hW k_t hl.1 rfl rfl (Nat.le_of_ble_eq_true rfl) ⟨⟨Nat.le_of_ble_eq_true rfl, Nat.le_of_ble_eq_true rfl⟩, ⟨Nat.le_of_ble_eq_true rfl, Nat.le_of_ble_eq_true rfl⟩⟩ dAT_point_161 (fun S_111 H locs e_111 hW m_111 _ => ?_)
    rw [e_111] at hW m_111
    have k_t := m_111.k k_t (by decide)
    have k_b := m_111.k k_b (by decide)
    have k_q101 := m_111.k k_q101 (by decide)
    have k_q102 := m_111.k k_q102 (by decide)
    have kb_110 := m_111.k kb_110 (by decide)
    have kq_c0 := fun b h => m_111.k (kq_c0 b h) (by decide)
    have kq_a0 := fun b h => m_111.k (kq_a0 b h) (by decide)
    have kq_108 := fun b h => m_111.k (kq_108 b h) (by decide)
    have mo := mo.tr m_111
    refine lv_aload hx hb dAT_point_164 (lv_at hl 2 rfl) ?_
    refine g_i FAT_139 hx hb hts hown hW k_b dAT_point_166 ?_
    exact e_i hsz hx hb hr hlk hW mo (Nat.le_of_ble_eq_true rfl) (Nat.le_of_ble_eq_true rfl) dAT_point_169 ⟨by rw [e_104]; exact hvR, by rw [e_104]; exact hvS⟩
  refine lv_aload_n hx hb dAT_point_0 rfl (lv_at hl 0 rfl) ?_
  refine lv_iload_n hx hb dAT_point_1 rfl (lv_at hl 1 rfl) ?_
  refine k_Vq (As := [.int n]) (rest := []) (c_findTable l D AC S t n k_t hn ha) CAT_124 ⟨by decide, by decide, _, rfl, rfl⟩ hx hb hml hown hts hW k_t hl.1 rfl rfl (Nat.le_of_ble_eq_true rfl) ⟨⟨Nat.le_of_ble_eq_true rfl, Nat.le_of_ble_eq_true rfl⟩, ⟨Nat.le_of_ble_eq_true rfl, Nat.le_of_ble_eq_true rfl⟩⟩ dAT_point_2 (fun r_1 S_1 H locs e_1 hW m_1 _ => ?_)
  obtain ⟨e1_1, e2_1⟩ := e_1
  rw [e2_1] at hW m_1
  rw [e1_1]
  have kq_2 : ∀ b, (findTable_R S t n) = some b → kd S b = 7 := kq_findTable hW.ok k_t hn _
  refine q_astore (lv' := [(5, va_rf (findTable_R S t n)), (0, .ref t), (1, .int n), (2, .long off), (4, .int x)]) hx hb dAT_point_5 hl (by decide) rfl (fun ls hl => ?_)
  refine lv_iload hx hb dAT_point_7 (lv_at hl 4 rfl) ?_
  refine lv_if_le (tgt := 21) hx hb dAT_point_9 (by decide) (fun c_3 => ?_) (fun c_3 => ?_)
  · refine lv_null hx hb dAT_point_21 ?_
    refine lv_astoreN (lv' := [(6, .null), (5, va_rf (findTable_R S t n)), (0, .ref t), (1, .int n), (2, .long off), (4, .int x)]) hx hb dAT_point_22 hl (by decide) (by simp [q_cat, cat_r, cat_i, cat_l, cat_n]) (fun ls hl => ?_)
    refine lv_iload hx hb dAT_point_24 (lv_at hl 5 rfl) ?_
    refine lv_if_ge (tgt := 39) hx hb dAT_point_26 (by decide) (fun c_4 => ?_) (fun c_4 => ?_)
    · refine lv_null hx hb dAT_point_39 ?_
      refine lv_astoreN (lv' := [(7, .null), (6, .null), (5, va_rf (findTable_R S t n)), (0, .ref t), (1, .int n), (2, .long off), (4, .int x)]) hx hb dAT_point_40 hl (by decide) rfl (fun ls hl => ?_)
      refine q_aload hx hb dAT_point_42 (lv_at hl 2 rfl) ?_
      refine q_ifnull (tgt := 62) hx hb dAT_point_44 (by decide) (fun n_5 => ?_) (fun b_5 n_5 => ?_)
      · refine lv_iconst (v := (-1 : Int32)) hx hb dAT_point_62 (by decide) ?_
        exact e_i hsz hx hb hr hlk hW mo (Nat.le_of_ble_eq_true rfl) (Nat.le_of_ble_eq_true rfl) dAT_point_63 ⟨by refine Eq.symm ?_; refine (if_pos c_3).trans ?_; refine (if_pos c_4).trans ?_; refine (op_none n_5).trans ?_; rfl, by refine Eq.symm ?_; refine (if_pos c_3).trans ?_; refine (if_pos c_4).trans ?_; refine (op_none n_5).trans ?_; rfl⟩
      · have k_b_5 : kd S b_5 = 7 := kq_2 b_5 n_5
        refine lv_iload hx hb dAT_point_47 (lv_at hl 6 rfl) ?_
        refine lv_if_eq (tgt := 64) hx hb dAT_point_49 (by decide) (fun c_6 => ?_) (fun c_6 => ?_)
        · refine lv_lload_n hx hb dAT_point_64 rfl (lv_at hl 5 rfl) ?_
          refine lv_lconst (v := (0 : Int64)) hx hb dAT_point_65 (by decide) ?_
          refine ll_lt (tgt := 80) hx hb dAT_point_66 dAT_point_67 (by decide) (fun c_7 => ?_) (fun c_7 => ?_)
          · refine lv_bipush (v := (-2 : Int32)) hx hb dAT_point_80 (by decide) ?_
            exact e_i hsz hx hb hr hlk hW mo (Nat.le_of_ble_eq_true rfl) (Nat.le_of_ble_eq_true rfl) dAT_point_82 ⟨by refine Eq.symm ?_; refine (if_pos c_3).trans ?_; refine (if_pos c_4).trans ?_; refine (op_some n_5).trans ?_; refine (if_pos c_6).trans ?_; refine (if_pos c_7).trans ?_; rfl, by refine Eq.symm ?_; refine (if_pos c_3).trans ?_; refine (if_pos c_4).trans ?_; refine (op_some n_5).trans ?_; refine (if_pos c_6).trans ?_; refine (if_pos c_7).trans ?_; rfl⟩
          · refine lv_lload_n hx hb dAT_point_70 rfl (lv_at hl 5 rfl) ?_
            refine q_aload hx hb dAT_point_71 (lv_at hl 2 rfl) ?_
            refine q_some n_5 ?_
            refine g_l FAT_128 hx hb hts hown hW k_b_5 dAT_point_73 ?_
            refine ll_le (tgt := 83) hx hb dAT_point_76 dAT_point_77 (by decide) (fun c_8 => ?_) (fun c_8 => ?_)
            · refine q_aload hx hb dAT_point_83 (lv_at hl 2 rfl) ?_
              refine q_some n_5 ?_
              refine g_i FAT_131 hx hb hts hown hW k_b_5 dAT_point_85 ?_
              refine lv_if_ne (tgt := 113) hx hb dAT_point_88 (by decide) (fun c_9 => ?_) (fun c_9 => ?_)
              · refine lv_bipush (v := (-3 : Int32)) hx hb dAT_point_113 (by decide) ?_
                exact e_i hsz hx hb hr hlk hW mo (Nat.le_of_ble_eq_true rfl) (Nat.le_of_ble_eq_true rfl) dAT_point_115 ⟨by refine Eq.symm ?_; refine (if_pos c_3).trans ?_; refine (if_pos c_4).trans ?_; refine (op_some n_5).trans ?_; refine (if_pos c_6).trans ?_; refine (if_neg c_7).trans ?_; refine (if_neg c_8).trans ?_; refine (if_neg c_9).trans ?_; rfl, by refine Eq.symm ?_; refine (if_pos c_3).trans ?_; refine (if_pos c_4).trans ?_; refine (op_some n_5).trans ?_; refine (if_pos c_6).trans ?_; refine (if_neg c_7).trans ?_; refine (if_neg c_8).trans ?_; refine (if_neg c_9).trans ?_; rfl⟩
              · refine q_aload hx hb dAT_point_91 (lv_at hl 2 rfl) ?_
                refine lv_lload_n hx hb dAT_point_93 rfl (lv_at hl 5 rfl) ?_
                refine q_some1 n_5 ?_
                refine k_Vi (As := [.long off]) (rest := []) (c_hasPointAt l D AC S b_5 off (cho (fr S 12) (fr S 14 b_5)) k_b_5 (cho_spec (hcp b_5 k_b_5))) CAT_134 ⟨by decide, by decide, _, rfl, rfl⟩ hx hb hml hown hts hW k_b_5 hl.1 rfl rfl (Nat.le_of_ble_eq_true rfl) ⟨⟨Nat.le_of_ble_eq_true rfl, Nat.le_of_ble_eq_true rfl⟩, ⟨Nat.le_of_ble_eq_true rfl, Nat.le_of_ble_eq_true rfl⟩⟩ dAT_point_94 (fun r_10 S_10 H locs e_10 hW m_10 _ => ?_)
                obtain ⟨e1_10, e2_10⟩ := e_10
                rw [e2_10] at hW m_10
                rw [e1_10]
                refine lv_if_ne (tgt := 113) hx hb dAT_point_97 (by decide) (fun c_11 => ?_) (fun c_11 => ?_)
                · refine lv_bipush (v := (-3 : Int32)) hx hb dAT_point_113 (by decide) ?_
                  exact e_i hsz hx hb hr hlk hW mo (Nat.le_of_ble_eq_true rfl) (Nat.le_of_ble_eq_true rfl) dAT_point_115 ⟨by refine Eq.symm ?_; refine (if_pos c_3).trans ?_; refine (if_pos c_4).trans ?_; refine (op_some n_5).trans ?_; refine (if_pos c_6).trans ?_; refine (if_neg c_7).trans ?_; refine (if_neg c_8).trans ?_; refine (if_pos c_9).trans ?_; refine (if_neg c_11).trans ?_; rfl, by refine Eq.symm ?_; refine (if_pos c_3).trans ?_; refine (if_pos c_4).trans ?_; refine (op_some n_5).trans ?_; refine (if_pos c_6).trans ?_; refine (if_neg c_7).trans ?_; refine (if_neg c_8).trans ?_; refine (if_pos c_9).trans ?_; refine (if_neg c_11).trans ?_; rfl⟩
                · refine q_aload hx hb dAT_point_100 (lv_at hl 2 rfl) ?_
                  refine q_some n_5 ?_
                  have kq_12 : ∀ b, fr S 13 b_5 = some b → kd S b = 3 := fun b h => hW.ok.2.1 13 b_5 b k_b_5 h
                  refine g_q FAT_138 hx hb hts hown hW k_b_5 dAT_point_102 ?_
                  refine lv_aloadN hx hb dAT_point_105 (lv_at hl 1 rfl) ?_
                  have n_13 : fr S 13 b_5 = some (gd (fr S 13 b_5)) := gd_some (hn 13 b_5 rfl k_b_5)
                  have kb_14 : kd S (gd (fr S 13 b_5)) = 3 := kq_12 (gd (fr S 13 b_5)) n_13
                  refine q_some1 n_13 ?_
                  refine k_Si (As := [.ref (gd (fr S 13 b_5)), .null]) (rest := []) (c_wouldCircle l D AC S (gd (fr S 13 b_5)) none kb_14 (fun b h => by cases h)) CAT_60 hx hb hml hown hts hW hl.1 rfl rfl (Nat.le_of_ble_eq_true rfl) ⟨⟨Nat.le_of_ble_eq_true rfl, Nat.le_of_ble_eq_true rfl⟩, ⟨Nat.le_of_ble_eq_true rfl, Nat.le_of_ble_eq_true rfl⟩⟩ dAT_point_107 (fun r_15 S_15 H locs e_15 hW m_15 _ => ?_)
                  obtain ⟨e1_15, e2_15⟩ := e_15
                  rw [e2_15] at hW m_15
                  rw [e1_15]
                  refine lv_if_eq (tgt := 116) hx hb dAT_point_110 (by decide) (fun c_16 => ?_) (fun c_16 => ?_)
                  · refine q_aload hx hb dAT_point_116 (lv_at hl 2 rfl) ?_
                    refine q_some n_5 ?_
                    refine g_i FAT_139 hx hb hts hown hW k_b_5 dAT_point_118 ?_
                    refine lv_bipush (v := (20 : Int32)) hx hb dAT_point_121 (by decide) ?_
                    refine lv_icmp_lt (tgt := 129) hx hb dAT_point_123 (by decide) (fun c_17 => ?_) (fun c_17 => ?_)
                    · exact seg129 b_5 none none k_b_5 (fun b h => by cases h) (fun b h => by cases h) (by refine Eq.symm ?_; refine (if_pos c_3).trans ?_; refine (if_pos c_4).trans ?_; refine (op_some n_5).trans ?_; refine (if_pos c_6).trans ?_; refine (if_neg c_7).trans ?_; refine (if_neg c_8).trans ?_; refine (if_pos c_9).trans ?_; refine (if_pos c_11).trans ?_; refine (if_pos c_16).trans ?_; refine (if_pos c_17).trans ?_; rfl) (by refine Eq.symm ?_; refine (if_pos c_3).trans ?_; refine (if_pos c_4).trans ?_; refine (op_some n_5).trans ?_; refine (if_pos c_6).trans ?_; refine (if_neg c_7).trans ?_; refine (if_neg c_8).trans ?_; refine (if_pos c_9).trans ?_; refine (if_pos c_11).trans ?_; refine (if_pos c_16).trans ?_; refine (if_pos c_17).trans ?_; rfl) _ _ hW ls (by have hl2 := (lv_sub hl [3, 5, 2, 1, 0] rfl); rw [n_5] at hl2; exact hl2)
                    · refine lv_bipush (v := (-4 : Int32)) hx hb dAT_point_126 (by decide) ?_
                      exact e_i hsz hx hb hr hlk hW mo (Nat.le_of_ble_eq_true rfl) (Nat.le_of_ble_eq_true rfl) dAT_point_128 ⟨by refine Eq.symm ?_; refine (if_pos c_3).trans ?_; refine (if_pos c_4).trans ?_; refine (op_some n_5).trans ?_; refine (if_pos c_6).trans ?_; refine (if_neg c_7).trans ?_; refine (if_neg c_8).trans ?_; refine (if_pos c_9).trans ?_; refine (if_pos c_11).trans ?_; refine (if_pos c_16).trans ?_; refine (if_neg c_17).trans ?_; rfl, by refine Eq.symm ?_; refine (if_pos c_3).trans ?_; refine (if_pos c_4).trans ?_; refine (op_some n_5).trans ?_; refine (if_pos c_6).trans ?_; refine (if_neg c_7).trans ?_; refine (if_neg c_8).trans ?_; refine (if_pos c_9).trans ?_; refine (if_pos c_11).trans ?_; refine (if_pos c_16).trans ?_; refine (if_neg c_17).trans ?_; rfl⟩
                  · refine lv_bipush (v := (-3 : Int32)) hx hb dAT_point_113 (by decide) ?_
                    exact e_i hsz hx hb hr hlk hW mo (Nat.le_of_ble_eq_true rfl) (Nat.le_of_ble_eq_true rfl) dAT_point_115 ⟨by refine Eq.symm ?_; refine (if_pos c_3).trans ?_; refine (if_pos c_4).trans ?_; refine (op_some n_5).trans ?_; refine (if_pos c_6).trans ?_; refine (if_neg c_7).trans ?_; refine (if_neg c_8).trans ?_; refine (if_pos c_9).trans ?_; refine (if_pos c_11).trans ?_; refine (if_neg c_16).trans ?_; rfl, by refine Eq.symm ?_; refine (if_pos c_3).trans ?_; refine (if_pos c_4).trans ?_; refine (op_some n_5).trans ?_; refine (if_pos c_6).trans ?_; refine (if_neg c_7).trans ?_; refine (if_neg c_8).trans ?_; refine (if_pos c_9).trans ?_; refine (if_pos c_11).trans ?_; refine (if_neg c_16).trans ?_; rfl⟩
            · refine lv_bipush (v := (-2 : Int32)) hx hb dAT_point_80 (by decide) ?_
              exact e_i hsz hx hb hr hlk hW mo (Nat.le_of_ble_eq_true rfl) (Nat.le_of_ble_eq_true rfl) dAT_point_82 ⟨by refine Eq.symm ?_; refine (if_pos c_3).trans ?_; refine (if_pos c_4).trans ?_; refine (op_some n_5).trans ?_; refine (if_pos c_6).trans ?_; refine (if_neg c_7).trans ?_; refine (if_pos c_8).trans ?_; rfl, by refine Eq.symm ?_; refine (if_pos c_3).trans ?_; refine (if_pos c_4).trans ?_; refine (op_some n_5).trans ?_; refine (if_pos c_6).trans ?_; refine (if_neg c_7).trans ?_; refine (if_pos c_8).trans ?_; rfl⟩
        · refine lv_aloadN hx hb dAT_point_52 (lv_at hl 1 rfl) ?_
          refine lv_ifnonnullN hx hb dAT_point_54 ?_
          refine lv_aloadN hx hb dAT_point_57 (lv_at hl 0 rfl) ?_
          refine lv_ifnonnullN hx hb dAT_point_59 ?_
          refine lv_iconst (v := (-1 : Int32)) hx hb dAT_point_62 (by decide) ?_
          exact e_i hsz hx hb hr hlk hW mo (Nat.le_of_ble_eq_true rfl) (Nat.le_of_ble_eq_true rfl) dAT_point_63 ⟨by refine Eq.symm ?_; refine (if_pos c_3).trans ?_; refine (if_pos c_4).trans ?_; refine (op_some n_5).trans ?_; refine (if_neg c_6).trans ?_; rfl, by refine Eq.symm ?_; refine (if_pos c_3).trans ?_; refine (if_pos c_4).trans ?_; refine (op_some n_5).trans ?_; refine (if_neg c_6).trans ?_; rfl⟩
    · refine lv_aload_n hx hb dAT_point_29 rfl (lv_at hl 2 rfl) ?_
      refine lv_iload hx hb dAT_point_30 (lv_at hl 5 rfl) ?_
      refine lv_ineg hx hb dAT_point_32 ?_
      refine k_Vq (As := [.int (-x)]) (rest := []) (c_findAlarm l D AC S t (-x) k_t hn ha) CAT_67 ⟨by decide, by decide, _, rfl, rfl⟩ hx hb hml hown hts hW k_t hl.1 rfl rfl (Nat.le_of_ble_eq_true rfl) ⟨⟨Nat.le_of_ble_eq_true rfl, Nat.le_of_ble_eq_true rfl⟩, ⟨Nat.le_of_ble_eq_true rfl, Nat.le_of_ble_eq_true rfl⟩⟩ dAT_point_33 (fun r_18 S_18 H locs e_18 hW m_18 _ => ?_)
      obtain ⟨e1_18, e2_18⟩ := e_18
      rw [e2_18] at hW m_18
      rw [e1_18]
      have kq_19 : ∀ b, (findAlarm_R S t (-x)) = some b → kd S b = 2 := kq_findAlarm hW.ok k_t hn _
      refine lv_goto (tgt := 40) hx hb dAT_point_36 (by decide) ?_
      refine q_astore (lv' := [(7, va_rf (findAlarm_R S t (-x))), (6, .null), (5, va_rf (findTable_R S t n)), (0, .ref t), (1, .int n), (2, .long off), (4, .int x)]) hx hb dAT_point_40 hl (by decide) rfl (fun ls hl => ?_)
      refine q_aload hx hb dAT_point_42 (lv_at hl 2 rfl) ?_
      refine q_ifnull (tgt := 62) hx hb dAT_point_44 (by decide) (fun n_20 => ?_) (fun b_20 n_20 => ?_)
      · refine lv_iconst (v := (-1 : Int32)) hx hb dAT_point_62 (by decide) ?_
        exact e_i hsz hx hb hr hlk hW mo (Nat.le_of_ble_eq_true rfl) (Nat.le_of_ble_eq_true rfl) dAT_point_63 ⟨by refine Eq.symm ?_; refine (if_pos c_3).trans ?_; refine (if_neg c_4).trans ?_; refine (op_none n_20).trans ?_; rfl, by refine Eq.symm ?_; refine (if_pos c_3).trans ?_; refine (if_neg c_4).trans ?_; refine (op_none n_20).trans ?_; rfl⟩
      · have k_b_20 : kd S b_20 = 7 := kq_2 b_20 n_20
        refine lv_iload hx hb dAT_point_47 (lv_at hl 6 rfl) ?_
        refine lv_if_eq (tgt := 64) hx hb dAT_point_49 (by decide) (fun c_21 => ?_) (fun c_21 => ?_)
        · refine lv_lload_n hx hb dAT_point_64 rfl (lv_at hl 5 rfl) ?_
          refine lv_lconst (v := (0 : Int64)) hx hb dAT_point_65 (by decide) ?_
          refine ll_lt (tgt := 80) hx hb dAT_point_66 dAT_point_67 (by decide) (fun c_22 => ?_) (fun c_22 => ?_)
          · refine lv_bipush (v := (-2 : Int32)) hx hb dAT_point_80 (by decide) ?_
            exact e_i hsz hx hb hr hlk hW mo (Nat.le_of_ble_eq_true rfl) (Nat.le_of_ble_eq_true rfl) dAT_point_82 ⟨by refine Eq.symm ?_; refine (if_pos c_3).trans ?_; refine (if_neg c_4).trans ?_; refine (op_some n_20).trans ?_; refine (if_pos c_21).trans ?_; refine (if_pos c_22).trans ?_; rfl, by refine Eq.symm ?_; refine (if_pos c_3).trans ?_; refine (if_neg c_4).trans ?_; refine (op_some n_20).trans ?_; refine (if_pos c_21).trans ?_; refine (if_pos c_22).trans ?_; rfl⟩
          · refine lv_lload_n hx hb dAT_point_70 rfl (lv_at hl 5 rfl) ?_
            refine q_aload hx hb dAT_point_71 (lv_at hl 2 rfl) ?_
            refine q_some n_20 ?_
            refine g_l FAT_128 hx hb hts hown hW k_b_20 dAT_point_73 ?_
            refine ll_le (tgt := 83) hx hb dAT_point_76 dAT_point_77 (by decide) (fun c_23 => ?_) (fun c_23 => ?_)
            · refine q_aload hx hb dAT_point_83 (lv_at hl 2 rfl) ?_
              refine q_some n_20 ?_
              refine g_i FAT_131 hx hb hts hown hW k_b_20 dAT_point_85 ?_
              refine lv_if_ne (tgt := 113) hx hb dAT_point_88 (by decide) (fun c_24 => ?_) (fun c_24 => ?_)
              · refine lv_bipush (v := (-3 : Int32)) hx hb dAT_point_113 (by decide) ?_
                exact e_i hsz hx hb hr hlk hW mo (Nat.le_of_ble_eq_true rfl) (Nat.le_of_ble_eq_true rfl) dAT_point_115 ⟨by refine Eq.symm ?_; refine (if_pos c_3).trans ?_; refine (if_neg c_4).trans ?_; refine (op_some n_20).trans ?_; refine (if_pos c_21).trans ?_; refine (if_neg c_22).trans ?_; refine (if_neg c_23).trans ?_; refine (if_neg c_24).trans ?_; rfl, by refine Eq.symm ?_; refine (if_pos c_3).trans ?_; refine (if_neg c_4).trans ?_; refine (op_some n_20).trans ?_; refine (if_pos c_21).trans ?_; refine (if_neg c_22).trans ?_; refine (if_neg c_23).trans ?_; refine (if_neg c_24).trans ?_; rfl⟩
              · refine q_aload hx hb dAT_point_91 (lv_at hl 2 rfl) ?_
                refine lv_lload_n hx hb dAT_point_93 rfl (lv_at hl 5 rfl) ?_
                refine q_some1 n_20 ?_
                refine k_Vi (As := [.long off]) (rest := []) (c_hasPointAt l D AC S b_20 off (cho (fr S 12) (fr S 14 b_20)) k_b_20 (cho_spec (hcp b_20 k_b_20))) CAT_134 ⟨by decide, by decide, _, rfl, rfl⟩ hx hb hml hown hts hW k_b_20 hl.1 rfl rfl (Nat.le_of_ble_eq_true rfl) ⟨⟨Nat.le_of_ble_eq_true rfl, Nat.le_of_ble_eq_true rfl⟩, ⟨Nat.le_of_ble_eq_true rfl, Nat.le_of_ble_eq_true rfl⟩⟩ dAT_point_94 (fun r_25 S_25 H locs e_25 hW m_25 _ => ?_)
                obtain ⟨e1_25, e2_25⟩ := e_25
                rw [e2_25] at hW m_25
                rw [e1_25]
                refine lv_if_ne (tgt := 113) hx hb dAT_point_97 (by decide) (fun c_26 => ?_) (fun c_26 => ?_)
                · refine lv_bipush (v := (-3 : Int32)) hx hb dAT_point_113 (by decide) ?_
                  exact e_i hsz hx hb hr hlk hW mo (Nat.le_of_ble_eq_true rfl) (Nat.le_of_ble_eq_true rfl) dAT_point_115 ⟨by refine Eq.symm ?_; refine (if_pos c_3).trans ?_; refine (if_neg c_4).trans ?_; refine (op_some n_20).trans ?_; refine (if_pos c_21).trans ?_; refine (if_neg c_22).trans ?_; refine (if_neg c_23).trans ?_; refine (if_pos c_24).trans ?_; refine (if_neg c_26).trans ?_; rfl, by refine Eq.symm ?_; refine (if_pos c_3).trans ?_; refine (if_neg c_4).trans ?_; refine (op_some n_20).trans ?_; refine (if_pos c_21).trans ?_; refine (if_neg c_22).trans ?_; refine (if_neg c_23).trans ?_; refine (if_pos c_24).trans ?_; refine (if_neg c_26).trans ?_; rfl⟩
                · refine q_aload hx hb dAT_point_100 (lv_at hl 2 rfl) ?_
                  refine q_some n_20 ?_
                  have kq_27 : ∀ b, fr S 13 b_20 = some b → kd S b = 3 := fun b h => hW.ok.2.1 13 b_20 b k_b_20 h
                  refine g_q FAT_138 hx hb hts hown hW k_b_20 dAT_point_102 ?_
                  refine lv_aloadN hx hb dAT_point_105 (lv_at hl 1 rfl) ?_
                  have n_28 : fr S 13 b_20 = some (gd (fr S 13 b_20)) := gd_some (hn 13 b_20 rfl k_b_20)
                  have kb_29 : kd S (gd (fr S 13 b_20)) = 3 := kq_27 (gd (fr S 13 b_20)) n_28
                  refine q_some1 n_28 ?_
                  refine k_Si (As := [.ref (gd (fr S 13 b_20)), .null]) (rest := []) (c_wouldCircle l D AC S (gd (fr S 13 b_20)) none kb_29 (fun b h => by cases h)) CAT_60 hx hb hml hown hts hW hl.1 rfl rfl (Nat.le_of_ble_eq_true rfl) ⟨⟨Nat.le_of_ble_eq_true rfl, Nat.le_of_ble_eq_true rfl⟩, ⟨Nat.le_of_ble_eq_true rfl, Nat.le_of_ble_eq_true rfl⟩⟩ dAT_point_107 (fun r_30 S_30 H locs e_30 hW m_30 _ => ?_)
                  obtain ⟨e1_30, e2_30⟩ := e_30
                  rw [e2_30] at hW m_30
                  rw [e1_30]
                  refine lv_if_eq (tgt := 116) hx hb dAT_point_110 (by decide) (fun c_31 => ?_) (fun c_31 => ?_)
                  · refine q_aload hx hb dAT_point_116 (lv_at hl 2 rfl) ?_
                    refine q_some n_20 ?_
                    refine g_i FAT_139 hx hb hts hown hW k_b_20 dAT_point_118 ?_
                    refine lv_bipush (v := (20 : Int32)) hx hb dAT_point_121 (by decide) ?_
                    refine lv_icmp_lt (tgt := 129) hx hb dAT_point_123 (by decide) (fun c_32 => ?_) (fun c_32 => ?_)
                    · exact seg129 b_20 none (findAlarm_R S t (-x)) k_b_20 (fun b h => by cases h) kq_19 (by refine Eq.symm ?_; refine (if_pos c_3).trans ?_; refine (if_neg c_4).trans ?_; refine (op_some n_20).trans ?_; refine (if_pos c_21).trans ?_; refine (if_neg c_22).trans ?_; refine (if_neg c_23).trans ?_; refine (if_pos c_24).trans ?_; refine (if_pos c_26).trans ?_; refine (if_pos c_31).trans ?_; refine (if_pos c_32).trans ?_; rfl) (by refine Eq.symm ?_; refine (if_pos c_3).trans ?_; refine (if_neg c_4).trans ?_; refine (op_some n_20).trans ?_; refine (if_pos c_21).trans ?_; refine (if_neg c_22).trans ?_; refine (if_neg c_23).trans ?_; refine (if_pos c_24).trans ?_; refine (if_pos c_26).trans ?_; refine (if_pos c_31).trans ?_; refine (if_pos c_32).trans ?_; rfl) _ _ hW ls (by have hl2 := (lv_sub hl [3, 5, 2, 1, 0] rfl); rw [n_20] at hl2; exact hl2)
                    · refine lv_bipush (v := (-4 : Int32)) hx hb dAT_point_126 (by decide) ?_
                      exact e_i hsz hx hb hr hlk hW mo (Nat.le_of_ble_eq_true rfl) (Nat.le_of_ble_eq_true rfl) dAT_point_128 ⟨by refine Eq.symm ?_; refine (if_pos c_3).trans ?_; refine (if_neg c_4).trans ?_; refine (op_some n_20).trans ?_; refine (if_pos c_21).trans ?_; refine (if_neg c_22).trans ?_; refine (if_neg c_23).trans ?_; refine (if_pos c_24).trans ?_; refine (if_pos c_26).trans ?_; refine (if_pos c_31).trans ?_; refine (if_neg c_32).trans ?_; rfl, by refine Eq.symm ?_; refine (if_pos c_3).trans ?_; refine (if_neg c_4).trans ?_; refine (op_some n_20).trans ?_; refine (if_pos c_21).trans ?_; refine (if_neg c_22).trans ?_; refine (if_neg c_23).trans ?_; refine (if_pos c_24).trans ?_; refine (if_pos c_26).trans ?_; refine (if_pos c_31).trans ?_; refine (if_neg c_32).trans ?_; rfl⟩
                  · refine lv_bipush (v := (-3 : Int32)) hx hb dAT_point_113 (by decide) ?_
                    exact e_i hsz hx hb hr hlk hW mo (Nat.le_of_ble_eq_true rfl) (Nat.le_of_ble_eq_true rfl) dAT_point_115 ⟨by refine Eq.symm ?_; refine (if_pos c_3).trans ?_; refine (if_neg c_4).trans ?_; refine (op_some n_20).trans ?_; refine (if_pos c_21).trans ?_; refine (if_neg c_22).trans ?_; refine (if_neg c_23).trans ?_; refine (if_pos c_24).trans ?_; refine (if_pos c_26).trans ?_; refine (if_neg c_31).trans ?_; rfl, by refine Eq.symm ?_; refine (if_pos c_3).trans ?_; refine (if_neg c_4).trans ?_; refine (op_some n_20).trans ?_; refine (if_pos c_21).trans ?_; refine (if_neg c_22).trans ?_; refine (if_neg c_23).trans ?_; refine (if_pos c_24).trans ?_; refine (if_pos c_26).trans ?_; refine (if_neg c_31).trans ?_; rfl⟩
            · refine lv_bipush (v := (-2 : Int32)) hx hb dAT_point_80 (by decide) ?_
              exact e_i hsz hx hb hr hlk hW mo (Nat.le_of_ble_eq_true rfl) (Nat.le_of_ble_eq_true rfl) dAT_point_82 ⟨by refine Eq.symm ?_; refine (if_pos c_3).trans ?_; refine (if_neg c_4).trans ?_; refine (op_some n_20).trans ?_; refine (if_pos c_21).trans ?_; refine (if_neg c_22).trans ?_; refine (if_pos c_23).trans ?_; rfl, by refine Eq.symm ?_; refine (if_pos c_3).trans ?_; refine (if_neg c_4).trans ?_; refine (op_some n_20).trans ?_; refine (if_pos c_21).trans ?_; refine (if_neg c_22).trans ?_; refine (if_pos c_23).trans ?_; rfl⟩
        · refine lv_aloadN hx hb dAT_point_52 (lv_at hl 1 rfl) ?_
          refine lv_ifnonnullN hx hb dAT_point_54 ?_
          refine q_aload hx hb dAT_point_57 (lv_at hl 0 rfl) ?_
          refine q_ifnonnull (tgt := 64) hx hb dAT_point_59 (by decide) (fun n_33 => ?_) (fun b_33 n_33 => ?_)
          · refine lv_iconst (v := (-1 : Int32)) hx hb dAT_point_62 (by decide) ?_
            exact e_i hsz hx hb hr hlk hW mo (Nat.le_of_ble_eq_true rfl) (Nat.le_of_ble_eq_true rfl) dAT_point_63 ⟨by refine Eq.symm ?_; refine (if_pos c_3).trans ?_; refine (if_neg c_4).trans ?_; refine (op_some n_20).trans ?_; refine (if_neg c_21).trans ?_; refine (op_none n_33).trans ?_; rfl, by refine Eq.symm ?_; refine (if_pos c_3).trans ?_; refine (if_neg c_4).trans ?_; refine (op_some n_20).trans ?_; refine (if_neg c_21).trans ?_; refine (op_none n_33).trans ?_; rfl⟩
          · have k_b_33 : kd S b_33 = 2 := kq_19 b_33 n_33
            refine lv_lload_n hx hb dAT_point_64 rfl (lv_at hl 5 rfl) ?_
            refine lv_lconst (v := (0 : Int64)) hx hb dAT_point_65 (by decide) ?_
            refine ll_lt (tgt := 80) hx hb dAT_point_66 dAT_point_67 (by decide) (fun c_34 => ?_) (fun c_34 => ?_)
            · refine lv_bipush (v := (-2 : Int32)) hx hb dAT_point_80 (by decide) ?_
              exact e_i hsz hx hb hr hlk hW mo (Nat.le_of_ble_eq_true rfl) (Nat.le_of_ble_eq_true rfl) dAT_point_82 ⟨by refine Eq.symm ?_; refine (if_pos c_3).trans ?_; refine (if_neg c_4).trans ?_; refine (op_some n_20).trans ?_; refine (if_neg c_21).trans ?_; refine (op_some n_33).trans ?_; refine (if_pos c_34).trans ?_; rfl, by refine Eq.symm ?_; refine (if_pos c_3).trans ?_; refine (if_neg c_4).trans ?_; refine (op_some n_20).trans ?_; refine (if_neg c_21).trans ?_; refine (op_some n_33).trans ?_; refine (if_pos c_34).trans ?_; rfl⟩
            · refine lv_lload_n hx hb dAT_point_70 rfl (lv_at hl 5 rfl) ?_
              refine q_aload hx hb dAT_point_71 (lv_at hl 2 rfl) ?_
              refine q_some n_20 ?_
              refine g_l FAT_128 hx hb hts hown hW k_b_20 dAT_point_73 ?_
              refine ll_le (tgt := 83) hx hb dAT_point_76 dAT_point_77 (by decide) (fun c_35 => ?_) (fun c_35 => ?_)
              · refine q_aload hx hb dAT_point_83 (lv_at hl 2 rfl) ?_
                refine q_some n_20 ?_
                refine g_i FAT_131 hx hb hts hown hW k_b_20 dAT_point_85 ?_
                refine lv_if_ne (tgt := 113) hx hb dAT_point_88 (by decide) (fun c_36 => ?_) (fun c_36 => ?_)
                · refine lv_bipush (v := (-3 : Int32)) hx hb dAT_point_113 (by decide) ?_
                  exact e_i hsz hx hb hr hlk hW mo (Nat.le_of_ble_eq_true rfl) (Nat.le_of_ble_eq_true rfl) dAT_point_115 ⟨by refine Eq.symm ?_; refine (if_pos c_3).trans ?_; refine (if_neg c_4).trans ?_; refine (op_some n_20).trans ?_; refine (if_neg c_21).trans ?_; refine (op_some n_33).trans ?_; refine (if_neg c_34).trans ?_; refine (if_neg c_35).trans ?_; refine (if_neg c_36).trans ?_; rfl, by refine Eq.symm ?_; refine (if_pos c_3).trans ?_; refine (if_neg c_4).trans ?_; refine (op_some n_20).trans ?_; refine (if_neg c_21).trans ?_; refine (op_some n_33).trans ?_; refine (if_neg c_34).trans ?_; refine (if_neg c_35).trans ?_; refine (if_neg c_36).trans ?_; rfl⟩
                · refine q_aload hx hb dAT_point_91 (lv_at hl 2 rfl) ?_
                  refine lv_lload_n hx hb dAT_point_93 rfl (lv_at hl 5 rfl) ?_
                  refine q_some1 n_20 ?_
                  refine k_Vi (As := [.long off]) (rest := []) (c_hasPointAt l D AC S b_20 off (cho (fr S 12) (fr S 14 b_20)) k_b_20 (cho_spec (hcp b_20 k_b_20))) CAT_134 ⟨by decide, by decide, _, rfl, rfl⟩ hx hb hml hown hts hW k_b_20 hl.1 rfl rfl (Nat.le_of_ble_eq_true rfl) ⟨⟨Nat.le_of_ble_eq_true rfl, Nat.le_of_ble_eq_true rfl⟩, ⟨Nat.le_of_ble_eq_true rfl, Nat.le_of_ble_eq_true rfl⟩⟩ dAT_point_94 (fun r_37 S_37 H locs e_37 hW m_37 _ => ?_)
                  obtain ⟨e1_37, e2_37⟩ := e_37
                  rw [e2_37] at hW m_37
                  rw [e1_37]
                  refine lv_if_ne (tgt := 113) hx hb dAT_point_97 (by decide) (fun c_38 => ?_) (fun c_38 => ?_)
                  · refine lv_bipush (v := (-3 : Int32)) hx hb dAT_point_113 (by decide) ?_
                    exact e_i hsz hx hb hr hlk hW mo (Nat.le_of_ble_eq_true rfl) (Nat.le_of_ble_eq_true rfl) dAT_point_115 ⟨by refine Eq.symm ?_; refine (if_pos c_3).trans ?_; refine (if_neg c_4).trans ?_; refine (op_some n_20).trans ?_; refine (if_neg c_21).trans ?_; refine (op_some n_33).trans ?_; refine (if_neg c_34).trans ?_; refine (if_neg c_35).trans ?_; refine (if_pos c_36).trans ?_; refine (if_neg c_38).trans ?_; rfl, by refine Eq.symm ?_; refine (if_pos c_3).trans ?_; refine (if_neg c_4).trans ?_; refine (op_some n_20).trans ?_; refine (if_neg c_21).trans ?_; refine (op_some n_33).trans ?_; refine (if_neg c_34).trans ?_; refine (if_neg c_35).trans ?_; refine (if_pos c_36).trans ?_; refine (if_neg c_38).trans ?_; rfl⟩
                  · refine q_aload hx hb dAT_point_100 (lv_at hl 2 rfl) ?_
                    refine q_some n_20 ?_
                    have kq_39 : ∀ b, fr S 13 b_20 = some b → kd S b = 3 := fun b h => hW.ok.2.1 13 b_20 b k_b_20 h
                    refine g_q FAT_138 hx hb hts hown hW k_b_20 dAT_point_102 ?_
                    refine lv_aloadN hx hb dAT_point_105 (lv_at hl 1 rfl) ?_
                    have n_40 : fr S 13 b_20 = some (gd (fr S 13 b_20)) := gd_some (hn 13 b_20 rfl k_b_20)
                    have kb_41 : kd S (gd (fr S 13 b_20)) = 3 := kq_39 (gd (fr S 13 b_20)) n_40
                    refine q_some1 n_40 ?_
                    refine k_Si (As := [.ref (gd (fr S 13 b_20)), .null]) (rest := []) (c_wouldCircle l D AC S (gd (fr S 13 b_20)) none kb_41 (fun b h => by cases h)) CAT_60 hx hb hml hown hts hW hl.1 rfl rfl (Nat.le_of_ble_eq_true rfl) ⟨⟨Nat.le_of_ble_eq_true rfl, Nat.le_of_ble_eq_true rfl⟩, ⟨Nat.le_of_ble_eq_true rfl, Nat.le_of_ble_eq_true rfl⟩⟩ dAT_point_107 (fun r_42 S_42 H locs e_42 hW m_42 _ => ?_)
                    obtain ⟨e1_42, e2_42⟩ := e_42
                    rw [e2_42] at hW m_42
                    rw [e1_42]
                    refine lv_if_eq (tgt := 116) hx hb dAT_point_110 (by decide) (fun c_43 => ?_) (fun c_43 => ?_)
                    · refine q_aload hx hb dAT_point_116 (lv_at hl 2 rfl) ?_
                      refine q_some n_20 ?_
                      refine g_i FAT_139 hx hb hts hown hW k_b_20 dAT_point_118 ?_
                      refine lv_bipush (v := (20 : Int32)) hx hb dAT_point_121 (by decide) ?_
                      refine lv_icmp_lt (tgt := 129) hx hb dAT_point_123 (by decide) (fun c_44 => ?_) (fun c_44 => ?_)
                      · exact seg129 b_20 none (findAlarm_R S t (-x)) k_b_20 (fun b h => by cases h) kq_19 (by refine Eq.symm ?_; refine (if_pos c_3).trans ?_; refine (if_neg c_4).trans ?_; refine (op_some n_20).trans ?_; refine (if_neg c_21).trans ?_; refine (op_some n_33).trans ?_; refine (if_neg c_34).trans ?_; refine (if_neg c_35).trans ?_; refine (if_pos c_36).trans ?_; refine (if_pos c_38).trans ?_; refine (if_pos c_43).trans ?_; refine (if_pos c_44).trans ?_; rfl) (by refine Eq.symm ?_; refine (if_pos c_3).trans ?_; refine (if_neg c_4).trans ?_; refine (op_some n_20).trans ?_; refine (if_neg c_21).trans ?_; refine (op_some n_33).trans ?_; refine (if_neg c_34).trans ?_; refine (if_neg c_35).trans ?_; refine (if_pos c_36).trans ?_; refine (if_pos c_38).trans ?_; refine (if_pos c_43).trans ?_; refine (if_pos c_44).trans ?_; rfl) _ _ hW ls (by have hl2 := (lv_sub hl [3, 5, 2, 1, 0] rfl); rw [n_20] at hl2; exact hl2)
                      · refine lv_bipush (v := (-4 : Int32)) hx hb dAT_point_126 (by decide) ?_
                        exact e_i hsz hx hb hr hlk hW mo (Nat.le_of_ble_eq_true rfl) (Nat.le_of_ble_eq_true rfl) dAT_point_128 ⟨by refine Eq.symm ?_; refine (if_pos c_3).trans ?_; refine (if_neg c_4).trans ?_; refine (op_some n_20).trans ?_; refine (if_neg c_21).trans ?_; refine (op_some n_33).trans ?_; refine (if_neg c_34).trans ?_; refine (if_neg c_35).trans ?_; refine (if_pos c_36).trans ?_; refine (if_pos c_38).trans ?_; refine (if_pos c_43).trans ?_; refine (if_neg c_44).trans ?_; rfl, by refine Eq.symm ?_; refine (if_pos c_3).trans ?_; refine (if_neg c_4).trans ?_; refine (op_some n_20).trans ?_; refine (if_neg c_21).trans ?_; refine (op_some n_33).trans ?_; refine (if_neg c_34).trans ?_; refine (if_neg c_35).trans ?_; refine (if_pos c_36).trans ?_; refine (if_pos c_38).trans ?_; refine (if_pos c_43).trans ?_; refine (if_neg c_44).trans ?_; rfl⟩
                    · refine lv_bipush (v := (-3 : Int32)) hx hb dAT_point_113 (by decide) ?_
                      exact e_i hsz hx hb hr hlk hW mo (Nat.le_of_ble_eq_true rfl) (Nat.le_of_ble_eq_true rfl) dAT_point_115 ⟨by refine Eq.symm ?_; refine (if_pos c_3).trans ?_; refine (if_neg c_4).trans ?_; refine (op_some n_20).trans ?_; refine (if_neg c_21).trans ?_; refine (op_some n_33).trans ?_; refine (if_neg c_34).trans ?_; refine (if_neg c_35).trans ?_; refine (if_pos c_36).trans ?_; refine (if_pos c_38).trans ?_; refine (if_neg c_43).trans ?_; rfl, by refine Eq.symm ?_; refine (if_pos c_3).trans ?_; refine (if_neg c_4).trans ?_; refine (op_some n_20).trans ?_; refine (if_neg c_21).trans ?_; refine (op_some n_33).trans ?_; refine (if_neg c_34).trans ?_; refine (if_neg c_35).trans ?_; refine (if_pos c_36).trans ?_; refine (if_pos c_38).trans ?_; refine (if_neg c_43).trans ?_; rfl⟩
              · refine lv_bipush (v := (-2 : Int32)) hx hb dAT_point_80 (by decide) ?_
                exact e_i hsz hx hb hr hlk hW mo (Nat.le_of_ble_eq_true rfl) (Nat.le_of_ble_eq_true rfl) dAT_point_82 ⟨by refine Eq.symm ?_; refine (if_pos c_3).trans ?_; refine (if_neg c_4).trans ?_; refine (op_some n_20).trans ?_; refine (if_neg c_21).trans ?_; refine (op_some n_33).trans ?_; refine (if_neg c_34).trans ?_; refine (if_pos c_35).trans ?_; rfl, by refine Eq.symm ?_; refine (if_pos c_3).trans ?_; refine (if_neg c_4).trans ?_; refine (op_some n_20).trans ?_; refine (if_neg c_21).trans ?_; refine (op_some n_33).trans ?_; refine (if_neg c_34).trans ?_; refine (if_pos c_35).trans ?_; rfl⟩
  · refine lv_aload_n hx hb dAT_point_12 rfl (lv_at hl 1 rfl) ?_
    refine lv_iload hx hb dAT_point_13 (lv_at hl 4 rfl) ?_
    refine k_Vq (As := [.int x]) (rest := []) (c_findCounter l D AC S t x k_t hn ha) CAT_52 ⟨by decide, by decide, _, rfl, rfl⟩ hx hb hml hown hts hW k_t hl.1 rfl rfl (Nat.le_of_ble_eq_true rfl) ⟨⟨Nat.le_of_ble_eq_true rfl, Nat.le_of_ble_eq_true rfl⟩, ⟨Nat.le_of_ble_eq_true rfl, Nat.le_of_ble_eq_true rfl⟩⟩ dAT_point_15 (fun r_45 S_45 H locs e_45 hW m_45 _ => ?_)
    obtain ⟨e1_45, e2_45⟩ := e_45
    rw [e2_45] at hW m_45
    rw [e1_45]
    have kq_46 : ∀ b, (findCounter_R S t x) = some b → kd S b = 3 := kq_findCounter hW.ok k_t hn _
    refine lv_goto (tgt := 22) hx hb dAT_point_18 (by decide) ?_
    refine q_astore (lv' := [(6, va_rf (findCounter_R S t x)), (5, va_rf (findTable_R S t n)), (0, .ref t), (1, .int n), (2, .long off), (4, .int x)]) hx hb dAT_point_22 hl (by decide) (by simp [q_cat, cat_r, cat_i, cat_l, cat_n]) (fun ls hl => ?_)
    refine lv_iload hx hb dAT_point_24 (lv_at hl 5 rfl) ?_
    refine lv_if_ge (tgt := 39) hx hb dAT_point_26 (by decide) (fun c_47 => ?_) (fun c_47 => ?_)
    · refine lv_null hx hb dAT_point_39 ?_
      refine lv_astoreN (lv' := [(7, .null), (6, va_rf (findCounter_R S t x)), (5, va_rf (findTable_R S t n)), (0, .ref t), (1, .int n), (2, .long off), (4, .int x)]) hx hb dAT_point_40 hl (by decide) (by simp [q_cat, cat_r, cat_i, cat_l, cat_n]) (fun ls hl => ?_)
      refine q_aload hx hb dAT_point_42 (lv_at hl 2 rfl) ?_
      refine q_ifnull (tgt := 62) hx hb dAT_point_44 (by decide) (fun n_48 => ?_) (fun b_48 n_48 => ?_)
      · refine lv_iconst (v := (-1 : Int32)) hx hb dAT_point_62 (by decide) ?_
        exact e_i hsz hx hb hr hlk hW mo (Nat.le_of_ble_eq_true rfl) (Nat.le_of_ble_eq_true rfl) dAT_point_63 ⟨by refine Eq.symm ?_; refine (if_neg c_3).trans ?_; refine (op_none n_48).trans ?_; rfl, by refine Eq.symm ?_; refine (if_neg c_3).trans ?_; refine (op_none n_48).trans ?_; rfl⟩
      · have k_b_48 : kd S b_48 = 7 := kq_2 b_48 n_48
        refine lv_iload hx hb dAT_point_47 (lv_at hl 6 rfl) ?_
        refine lv_if_eq (tgt := 64) hx hb dAT_point_49 (by decide) (fun c_49 => ?_) (fun c_49 => ?_)
        · refine lv_lload_n hx hb dAT_point_64 rfl (lv_at hl 5 rfl) ?_
          refine lv_lconst (v := (0 : Int64)) hx hb dAT_point_65 (by decide) ?_
          refine ll_lt (tgt := 80) hx hb dAT_point_66 dAT_point_67 (by decide) (fun c_50 => ?_) (fun c_50 => ?_)
          · refine lv_bipush (v := (-2 : Int32)) hx hb dAT_point_80 (by decide) ?_
            exact e_i hsz hx hb hr hlk hW mo (Nat.le_of_ble_eq_true rfl) (Nat.le_of_ble_eq_true rfl) dAT_point_82 ⟨by refine Eq.symm ?_; refine (if_neg c_3).trans ?_; refine (op_some n_48).trans ?_; refine (if_pos c_49).trans ?_; refine (if_pos c_50).trans ?_; rfl, by refine Eq.symm ?_; refine (if_neg c_3).trans ?_; refine (op_some n_48).trans ?_; refine (if_pos c_49).trans ?_; refine (if_pos c_50).trans ?_; rfl⟩
          · refine lv_lload_n hx hb dAT_point_70 rfl (lv_at hl 5 rfl) ?_
            refine q_aload hx hb dAT_point_71 (lv_at hl 2 rfl) ?_
            refine q_some n_48 ?_
            refine g_l FAT_128 hx hb hts hown hW k_b_48 dAT_point_73 ?_
            refine ll_le (tgt := 83) hx hb dAT_point_76 dAT_point_77 (by decide) (fun c_51 => ?_) (fun c_51 => ?_)
            · refine q_aload hx hb dAT_point_83 (lv_at hl 2 rfl) ?_
              refine q_some n_48 ?_
              refine g_i FAT_131 hx hb hts hown hW k_b_48 dAT_point_85 ?_
              refine lv_if_ne (tgt := 113) hx hb dAT_point_88 (by decide) (fun c_52 => ?_) (fun c_52 => ?_)
              · refine lv_bipush (v := (-3 : Int32)) hx hb dAT_point_113 (by decide) ?_
                exact e_i hsz hx hb hr hlk hW mo (Nat.le_of_ble_eq_true rfl) (Nat.le_of_ble_eq_true rfl) dAT_point_115 ⟨by refine Eq.symm ?_; refine (if_neg c_3).trans ?_; refine (op_some n_48).trans ?_; refine (if_pos c_49).trans ?_; refine (if_neg c_50).trans ?_; refine (if_neg c_51).trans ?_; refine (if_neg c_52).trans ?_; rfl, by refine Eq.symm ?_; refine (if_neg c_3).trans ?_; refine (op_some n_48).trans ?_; refine (if_pos c_49).trans ?_; refine (if_neg c_50).trans ?_; refine (if_neg c_51).trans ?_; refine (if_neg c_52).trans ?_; rfl⟩
              · refine q_aload hx hb dAT_point_91 (lv_at hl 2 rfl) ?_
                refine lv_lload_n hx hb dAT_point_93 rfl (lv_at hl 5 rfl) ?_
                refine q_some1 n_48 ?_
                refine k_Vi (As := [.long off]) (rest := []) (c_hasPointAt l D AC S b_48 off (cho (fr S 12) (fr S 14 b_48)) k_b_48 (cho_spec (hcp b_48 k_b_48))) CAT_134 ⟨by decide, by decide, _, rfl, rfl⟩ hx hb hml hown hts hW k_b_48 hl.1 rfl rfl (Nat.le_of_ble_eq_true rfl) ⟨⟨Nat.le_of_ble_eq_true rfl, Nat.le_of_ble_eq_true rfl⟩, ⟨Nat.le_of_ble_eq_true rfl, Nat.le_of_ble_eq_true rfl⟩⟩ dAT_point_94 (fun r_53 S_53 H locs e_53 hW m_53 _ => ?_)
                obtain ⟨e1_53, e2_53⟩ := e_53
                rw [e2_53] at hW m_53
                rw [e1_53]
                refine lv_if_ne (tgt := 113) hx hb dAT_point_97 (by decide) (fun c_54 => ?_) (fun c_54 => ?_)
                · refine lv_bipush (v := (-3 : Int32)) hx hb dAT_point_113 (by decide) ?_
                  exact e_i hsz hx hb hr hlk hW mo (Nat.le_of_ble_eq_true rfl) (Nat.le_of_ble_eq_true rfl) dAT_point_115 ⟨by refine Eq.symm ?_; refine (if_neg c_3).trans ?_; refine (op_some n_48).trans ?_; refine (if_pos c_49).trans ?_; refine (if_neg c_50).trans ?_; refine (if_neg c_51).trans ?_; refine (if_pos c_52).trans ?_; refine (if_neg c_54).trans ?_; rfl, by refine Eq.symm ?_; refine (if_neg c_3).trans ?_; refine (op_some n_48).trans ?_; refine (if_pos c_49).trans ?_; refine (if_neg c_50).trans ?_; refine (if_neg c_51).trans ?_; refine (if_pos c_52).trans ?_; refine (if_neg c_54).trans ?_; rfl⟩
                · refine q_aload hx hb dAT_point_100 (lv_at hl 2 rfl) ?_
                  refine q_some n_48 ?_
                  have kq_55 : ∀ b, fr S 13 b_48 = some b → kd S b = 3 := fun b h => hW.ok.2.1 13 b_48 b k_b_48 h
                  refine g_q FAT_138 hx hb hts hown hW k_b_48 dAT_point_102 ?_
                  refine q_aload hx hb dAT_point_105 (lv_at hl 1 rfl) ?_
                  have n_56 : fr S 13 b_48 = some (gd (fr S 13 b_48)) := gd_some (hn 13 b_48 rfl k_b_48)
                  have kb_57 : kd S (gd (fr S 13 b_48)) = 3 := kq_55 (gd (fr S 13 b_48)) n_56
                  refine q_some1 n_56 ?_
                  refine k_Si (As := [.ref (gd (fr S 13 b_48)), va_rf (findCounter_R S t x)]) (rest := []) (c_wouldCircle l D AC S (gd (fr S 13 b_48)) (findCounter_R S t x) kb_57 kq_46) CAT_60 hx hb hml hown hts hW hl.1 rfl rfl (Nat.le_of_ble_eq_true rfl) ⟨⟨Nat.le_of_ble_eq_true rfl, Nat.le_of_ble_eq_true rfl⟩, ⟨Nat.le_of_ble_eq_true rfl, Nat.le_of_ble_eq_true rfl⟩⟩ dAT_point_107 (fun r_58 S_58 H locs e_58 hW m_58 _ => ?_)
                  obtain ⟨e1_58, e2_58⟩ := e_58
                  rw [e2_58] at hW m_58
                  rw [e1_58]
                  refine lv_if_eq (tgt := 116) hx hb dAT_point_110 (by decide) (fun c_59 => ?_) (fun c_59 => ?_)
                  · refine q_aload hx hb dAT_point_116 (lv_at hl 2 rfl) ?_
                    refine q_some n_48 ?_
                    refine g_i FAT_139 hx hb hts hown hW k_b_48 dAT_point_118 ?_
                    refine lv_bipush (v := (20 : Int32)) hx hb dAT_point_121 (by decide) ?_
                    refine lv_icmp_lt (tgt := 129) hx hb dAT_point_123 (by decide) (fun c_60 => ?_) (fun c_60 => ?_)
                    · exact seg129 b_48 (findCounter_R S t x) none k_b_48 kq_46 (fun b h => by cases h) (by refine Eq.symm ?_; refine (if_neg c_3).trans ?_; refine (op_some n_48).trans ?_; refine (if_pos c_49).trans ?_; refine (if_neg c_50).trans ?_; refine (if_neg c_51).trans ?_; refine (if_pos c_52).trans ?_; refine (if_pos c_54).trans ?_; refine (if_pos c_59).trans ?_; refine (if_pos c_60).trans ?_; rfl) (by refine Eq.symm ?_; refine (if_neg c_3).trans ?_; refine (op_some n_48).trans ?_; refine (if_pos c_49).trans ?_; refine (if_neg c_50).trans ?_; refine (if_neg c_51).trans ?_; refine (if_pos c_52).trans ?_; refine (if_pos c_54).trans ?_; refine (if_pos c_59).trans ?_; refine (if_pos c_60).trans ?_; rfl) _ _ hW ls (by have hl2 := (lv_sub hl [3, 5, 2, 1, 0] rfl); rw [n_48] at hl2; exact hl2)
                    · refine lv_bipush (v := (-4 : Int32)) hx hb dAT_point_126 (by decide) ?_
                      exact e_i hsz hx hb hr hlk hW mo (Nat.le_of_ble_eq_true rfl) (Nat.le_of_ble_eq_true rfl) dAT_point_128 ⟨by refine Eq.symm ?_; refine (if_neg c_3).trans ?_; refine (op_some n_48).trans ?_; refine (if_pos c_49).trans ?_; refine (if_neg c_50).trans ?_; refine (if_neg c_51).trans ?_; refine (if_pos c_52).trans ?_; refine (if_pos c_54).trans ?_; refine (if_pos c_59).trans ?_; refine (if_neg c_60).trans ?_; rfl, by refine Eq.symm ?_; refine (if_neg c_3).trans ?_; refine (op_some n_48).trans ?_; refine (if_pos c_49).trans ?_; refine (if_neg c_50).trans ?_; refine (if_neg c_51).trans ?_; refine (if_pos c_52).trans ?_; refine (if_pos c_54).trans ?_; refine (if_pos c_59).trans ?_; refine (if_neg c_60).trans ?_; rfl⟩
                  · refine lv_bipush (v := (-3 : Int32)) hx hb dAT_point_113 (by decide) ?_
                    exact e_i hsz hx hb hr hlk hW mo (Nat.le_of_ble_eq_true rfl) (Nat.le_of_ble_eq_true rfl) dAT_point_115 ⟨by refine Eq.symm ?_; refine (if_neg c_3).trans ?_; refine (op_some n_48).trans ?_; refine (if_pos c_49).trans ?_; refine (if_neg c_50).trans ?_; refine (if_neg c_51).trans ?_; refine (if_pos c_52).trans ?_; refine (if_pos c_54).trans ?_; refine (if_neg c_59).trans ?_; rfl, by refine Eq.symm ?_; refine (if_neg c_3).trans ?_; refine (op_some n_48).trans ?_; refine (if_pos c_49).trans ?_; refine (if_neg c_50).trans ?_; refine (if_neg c_51).trans ?_; refine (if_pos c_52).trans ?_; refine (if_pos c_54).trans ?_; refine (if_neg c_59).trans ?_; rfl⟩
            · refine lv_bipush (v := (-2 : Int32)) hx hb dAT_point_80 (by decide) ?_
              exact e_i hsz hx hb hr hlk hW mo (Nat.le_of_ble_eq_true rfl) (Nat.le_of_ble_eq_true rfl) dAT_point_82 ⟨by refine Eq.symm ?_; refine (if_neg c_3).trans ?_; refine (op_some n_48).trans ?_; refine (if_pos c_49).trans ?_; refine (if_neg c_50).trans ?_; refine (if_pos c_51).trans ?_; rfl, by refine Eq.symm ?_; refine (if_neg c_3).trans ?_; refine (op_some n_48).trans ?_; refine (if_pos c_49).trans ?_; refine (if_neg c_50).trans ?_; refine (if_pos c_51).trans ?_; rfl⟩
        · refine q_aload hx hb dAT_point_52 (lv_at hl 1 rfl) ?_
          refine q_ifnonnull (tgt := 64) hx hb dAT_point_54 (by decide) (fun n_61 => ?_) (fun b_61 n_61 => ?_)
          · refine lv_aloadN hx hb dAT_point_57 (lv_at hl 0 rfl) ?_
            refine lv_ifnonnullN hx hb dAT_point_59 ?_
            refine lv_iconst (v := (-1 : Int32)) hx hb dAT_point_62 (by decide) ?_
            exact e_i hsz hx hb hr hlk hW mo (Nat.le_of_ble_eq_true rfl) (Nat.le_of_ble_eq_true rfl) dAT_point_63 ⟨by refine Eq.symm ?_; refine (if_neg c_3).trans ?_; refine (op_some n_48).trans ?_; refine (if_neg c_49).trans ?_; refine (op_none n_61).trans ?_; rfl, by refine Eq.symm ?_; refine (if_neg c_3).trans ?_; refine (op_some n_48).trans ?_; refine (if_neg c_49).trans ?_; refine (op_none n_61).trans ?_; rfl⟩
          · have k_b_61 : kd S b_61 = 3 := kq_46 b_61 n_61
            refine lv_lload_n hx hb dAT_point_64 rfl (lv_at hl 5 rfl) ?_
            refine lv_lconst (v := (0 : Int64)) hx hb dAT_point_65 (by decide) ?_
            refine ll_lt (tgt := 80) hx hb dAT_point_66 dAT_point_67 (by decide) (fun c_62 => ?_) (fun c_62 => ?_)
            · refine lv_bipush (v := (-2 : Int32)) hx hb dAT_point_80 (by decide) ?_
              exact e_i hsz hx hb hr hlk hW mo (Nat.le_of_ble_eq_true rfl) (Nat.le_of_ble_eq_true rfl) dAT_point_82 ⟨by refine Eq.symm ?_; refine (if_neg c_3).trans ?_; refine (op_some n_48).trans ?_; refine (if_neg c_49).trans ?_; refine (op_some n_61).trans ?_; refine (if_pos c_62).trans ?_; rfl, by refine Eq.symm ?_; refine (if_neg c_3).trans ?_; refine (op_some n_48).trans ?_; refine (if_neg c_49).trans ?_; refine (op_some n_61).trans ?_; refine (if_pos c_62).trans ?_; rfl⟩
            · refine lv_lload_n hx hb dAT_point_70 rfl (lv_at hl 5 rfl) ?_
              refine q_aload hx hb dAT_point_71 (lv_at hl 2 rfl) ?_
              refine q_some n_48 ?_
              refine g_l FAT_128 hx hb hts hown hW k_b_48 dAT_point_73 ?_
              refine ll_le (tgt := 83) hx hb dAT_point_76 dAT_point_77 (by decide) (fun c_63 => ?_) (fun c_63 => ?_)
              · refine q_aload hx hb dAT_point_83 (lv_at hl 2 rfl) ?_
                refine q_some n_48 ?_
                refine g_i FAT_131 hx hb hts hown hW k_b_48 dAT_point_85 ?_
                refine lv_if_ne (tgt := 113) hx hb dAT_point_88 (by decide) (fun c_64 => ?_) (fun c_64 => ?_)
                · refine lv_bipush (v := (-3 : Int32)) hx hb dAT_point_113 (by decide) ?_
                  exact e_i hsz hx hb hr hlk hW mo (Nat.le_of_ble_eq_true rfl) (Nat.le_of_ble_eq_true rfl) dAT_point_115 ⟨by refine Eq.symm ?_; refine (if_neg c_3).trans ?_; refine (op_some n_48).trans ?_; refine (if_neg c_49).trans ?_; refine (op_some n_61).trans ?_; refine (if_neg c_62).trans ?_; refine (if_neg c_63).trans ?_; refine (if_neg c_64).trans ?_; rfl, by refine Eq.symm ?_; refine (if_neg c_3).trans ?_; refine (op_some n_48).trans ?_; refine (if_neg c_49).trans ?_; refine (op_some n_61).trans ?_; refine (if_neg c_62).trans ?_; refine (if_neg c_63).trans ?_; refine (if_neg c_64).trans ?_; rfl⟩
                · refine q_aload hx hb dAT_point_91 (lv_at hl 2 rfl) ?_
                  refine lv_lload_n hx hb dAT_point_93 rfl (lv_at hl 5 rfl) ?_
                  refine q_some1 n_48 ?_
                  refine k_Vi (As := [.long off]) (rest := []) (c_hasPointAt l D AC S b_48 off (cho (fr S 12) (fr S 14 b_48)) k_b_48 (cho_spec (hcp b_48 k_b_48))) CAT_134 ⟨by decide, by decide, _, rfl, rfl⟩ hx hb hml hown hts hW k_b_48 hl.1 rfl rfl (Nat.le_of_ble_eq_true rfl) ⟨⟨Nat.le_of_ble_eq_true rfl, Nat.le_of_ble_eq_true rfl⟩, ⟨Nat.le_of_ble_eq_true rfl, Nat.le_of_ble_eq_true rfl⟩⟩ dAT_point_94 (fun r_65 S_65 H locs e_65 hW m_65 _ => ?_)
                  obtain ⟨e1_65, e2_65⟩ := e_65
                  rw [e2_65] at hW m_65
                  rw [e1_65]
                  refine lv_if_ne (tgt := 113) hx hb dAT_point_97 (by decide) (fun c_66 => ?_) (fun c_66 => ?_)
                  · refine lv_bipush (v := (-3 : Int32)) hx hb dAT_point_113 (by decide) ?_
                    exact e_i hsz hx hb hr hlk hW mo (Nat.le_of_ble_eq_true rfl) (Nat.le_of_ble_eq_true rfl) dAT_point_115 ⟨by refine Eq.symm ?_; refine (if_neg c_3).trans ?_; refine (op_some n_48).trans ?_; refine (if_neg c_49).trans ?_; refine (op_some n_61).trans ?_; refine (if_neg c_62).trans ?_; refine (if_neg c_63).trans ?_; refine (if_pos c_64).trans ?_; refine (if_neg c_66).trans ?_; rfl, by refine Eq.symm ?_; refine (if_neg c_3).trans ?_; refine (op_some n_48).trans ?_; refine (if_neg c_49).trans ?_; refine (op_some n_61).trans ?_; refine (if_neg c_62).trans ?_; refine (if_neg c_63).trans ?_; refine (if_pos c_64).trans ?_; refine (if_neg c_66).trans ?_; rfl⟩
                  · refine q_aload hx hb dAT_point_100 (lv_at hl 2 rfl) ?_
                    refine q_some n_48 ?_
                    have kq_67 : ∀ b, fr S 13 b_48 = some b → kd S b = 3 := fun b h => hW.ok.2.1 13 b_48 b k_b_48 h
                    refine g_q FAT_138 hx hb hts hown hW k_b_48 dAT_point_102 ?_
                    refine q_aload hx hb dAT_point_105 (lv_at hl 1 rfl) ?_
                    have n_68 : fr S 13 b_48 = some (gd (fr S 13 b_48)) := gd_some (hn 13 b_48 rfl k_b_48)
                    have kb_69 : kd S (gd (fr S 13 b_48)) = 3 := kq_67 (gd (fr S 13 b_48)) n_68
                    refine q_some1 n_68 ?_
                    refine k_Si (As := [.ref (gd (fr S 13 b_48)), va_rf (findCounter_R S t x)]) (rest := []) (c_wouldCircle l D AC S (gd (fr S 13 b_48)) (findCounter_R S t x) kb_69 kq_46) CAT_60 hx hb hml hown hts hW hl.1 rfl rfl (Nat.le_of_ble_eq_true rfl) ⟨⟨Nat.le_of_ble_eq_true rfl, Nat.le_of_ble_eq_true rfl⟩, ⟨Nat.le_of_ble_eq_true rfl, Nat.le_of_ble_eq_true rfl⟩⟩ dAT_point_107 (fun r_70 S_70 H locs e_70 hW m_70 _ => ?_)
                    obtain ⟨e1_70, e2_70⟩ := e_70
                    rw [e2_70] at hW m_70
                    rw [e1_70]
                    refine lv_if_eq (tgt := 116) hx hb dAT_point_110 (by decide) (fun c_71 => ?_) (fun c_71 => ?_)
                    · refine q_aload hx hb dAT_point_116 (lv_at hl 2 rfl) ?_
                      refine q_some n_48 ?_
                      refine g_i FAT_139 hx hb hts hown hW k_b_48 dAT_point_118 ?_
                      refine lv_bipush (v := (20 : Int32)) hx hb dAT_point_121 (by decide) ?_
                      refine lv_icmp_lt (tgt := 129) hx hb dAT_point_123 (by decide) (fun c_72 => ?_) (fun c_72 => ?_)
                      · exact seg129 b_48 (findCounter_R S t x) none k_b_48 kq_46 (fun b h => by cases h) (by refine Eq.symm ?_; refine (if_neg c_3).trans ?_; refine (op_some n_48).trans ?_; refine (if_neg c_49).trans ?_; refine (op_some n_61).trans ?_; refine (if_neg c_62).trans ?_; refine (if_neg c_63).trans ?_; refine (if_pos c_64).trans ?_; refine (if_pos c_66).trans ?_; refine (if_pos c_71).trans ?_; refine (if_pos c_72).trans ?_; rfl) (by refine Eq.symm ?_; refine (if_neg c_3).trans ?_; refine (op_some n_48).trans ?_; refine (if_neg c_49).trans ?_; refine (op_some n_61).trans ?_; refine (if_neg c_62).trans ?_; refine (if_neg c_63).trans ?_; refine (if_pos c_64).trans ?_; refine (if_pos c_66).trans ?_; refine (if_pos c_71).trans ?_; refine (if_pos c_72).trans ?_; rfl) _ _ hW ls (by have hl2 := (lv_sub hl [3, 5, 2, 1, 0] rfl); rw [n_48] at hl2; exact hl2)
                      · refine lv_bipush (v := (-4 : Int32)) hx hb dAT_point_126 (by decide) ?_
                        exact e_i hsz hx hb hr hlk hW mo (Nat.le_of_ble_eq_true rfl) (Nat.le_of_ble_eq_true rfl) dAT_point_128 ⟨by refine Eq.symm ?_; refine (if_neg c_3).trans ?_; refine (op_some n_48).trans ?_; refine (if_neg c_49).trans ?_; refine (op_some n_61).trans ?_; refine (if_neg c_62).trans ?_; refine (if_neg c_63).trans ?_; refine (if_pos c_64).trans ?_; refine (if_pos c_66).trans ?_; refine (if_pos c_71).trans ?_; refine (if_neg c_72).trans ?_; rfl, by refine Eq.symm ?_; refine (if_neg c_3).trans ?_; refine (op_some n_48).trans ?_; refine (if_neg c_49).trans ?_; refine (op_some n_61).trans ?_; refine (if_neg c_62).trans ?_; refine (if_neg c_63).trans ?_; refine (if_pos c_64).trans ?_; refine (if_pos c_66).trans ?_; refine (if_pos c_71).trans ?_; refine (if_neg c_72).trans ?_; rfl⟩
                    · refine lv_bipush (v := (-3 : Int32)) hx hb dAT_point_113 (by decide) ?_
                      exact e_i hsz hx hb hr hlk hW mo (Nat.le_of_ble_eq_true rfl) (Nat.le_of_ble_eq_true rfl) dAT_point_115 ⟨by refine Eq.symm ?_; refine (if_neg c_3).trans ?_; refine (op_some n_48).trans ?_; refine (if_neg c_49).trans ?_; refine (op_some n_61).trans ?_; refine (if_neg c_62).trans ?_; refine (if_neg c_63).trans ?_; refine (if_pos c_64).trans ?_; refine (if_pos c_66).trans ?_; refine (if_neg c_71).trans ?_; rfl, by refine Eq.symm ?_; refine (if_neg c_3).trans ?_; refine (op_some n_48).trans ?_; refine (if_neg c_49).trans ?_; refine (op_some n_61).trans ?_; refine (if_neg c_62).trans ?_; refine (if_neg c_63).trans ?_; refine (if_pos c_64).trans ?_; refine (if_pos c_66).trans ?_; refine (if_neg c_71).trans ?_; rfl⟩
              · refine lv_bipush (v := (-2 : Int32)) hx hb dAT_point_80 (by decide) ?_
                exact e_i hsz hx hb hr hlk hW mo (Nat.le_of_ble_eq_true rfl) (Nat.le_of_ble_eq_true rfl) dAT_point_82 ⟨by refine Eq.symm ?_; refine (if_neg c_3).trans ?_; refine (op_some n_48).trans ?_; refine (if_neg c_49).trans ?_; refine (op_some n_61).trans ?_; refine (if_neg c_62).trans ?_; refine (if_pos c_63).trans ?_; rfl, by refine Eq.symm ?_; refine (if_neg c_3).trans ?_; refine (op_some n_48).trans ?_; refine (if_neg c_49).trans ?_; refine (op_some n_61).trans ?_; refine (if_neg c_62).trans ?_; refine (if_pos c_63).trans ?_; rfl⟩
    · exact absurd (Int32.le_of_lt (Int32.not_le.mp c_3)) c_47
