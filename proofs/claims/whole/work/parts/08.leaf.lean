def Counter_init_S (S : HS) (t : Nat) (n : Int32) (b : Int64) (k : Int64) : HS :=
  (sfl (sfl (sfi (sfl S 7 t (9223372036854775807 : Int64)) 2 t ((1 : Int32) <<< ((n - (1 : Int32)) &&& 31))) 2 t b) 3 t k)
set_option maxRecDepth 20000 in
set_option maxHeartbeats 2000000 in
theorem c_Counter_init (l : Launch) (D : va_G) (AC : Nat → ClassId) (S : HS) (t : Nat) (n : Int32) (b : Int64) (k : Int64) (k_t : kd S t = 3) : CtV l yCounter_init (Cond.code yCounter_init cCounter_init 6 none :: wT) 1 12 D AC S [.ref t, .int n, .long b, .long k] 0 0 (fun S' => S' = Counter_init_S S t n b k) := by
  refine met_of (by decide) (Nat.le_of_ble_eq_true rfl) ?_
  intro p e s m below meth c ls hsz X hW hl
  obtain ⟨hx, hb, hml, hr, hlk, hown, hnm, hts⟩ := X
  have hl : lv_has ls 6 [(0, .ref t), (1, .int n), (2, .long b), (4, .long k)] := hl
  refine lv_aload_n hx hb dCounter_init_0 rfl (lv_at hl 0 rfl) ?_
  refine o_init OCounter_3 hx hb hown hts hml hl.1 dCounter_init_1 (Nat.le_of_ble_eq_true rfl) (Nat.le_of_ble_eq_true rfl) ?_
  refine lv_aload_n hx hb dCounter_init_4 rfl (lv_at hl 0 rfl) ?_
  refine lv_ldc2 (v := (9223372036854775807 : Int64)) hx hb hown (hts _ QCounter_9) dCounter_init_5 ?_
  refine p_l FCounter_11 GCounter_wake (fun h => by cases h) hx hb hts hown hW k_t dCounter_init_8 (fun H locs hW => ?_)
  refine lv_aload_n hx hb dCounter_init_11 rfl (lv_at hl 0 rfl) ?_
  refine lv_iconst (v := (1 : Int32)) hx hb dCounter_init_12 (by decide) ?_
  refine lv_iload_n hx hb dCounter_init_13 rfl (lv_at hl 1 rfl) ?_
  refine lv_iconst (v := (1 : Int32)) hx hb dCounter_init_14 (by decide) ?_
  refine lv_isub hx hb dCounter_init_15 ?_
  refine lv_ishl hx hb dCounter_init_16 ?_
  refine p_i FCounter_17 GCounter_bit (fun _ => ⟨hnm, rfl⟩) hx hb hts hown hW k_t rfl rfl dCounter_init_17 (fun H locs hW => ?_)
  refine lv_aload_n hx hb dCounter_init_20 rfl (lv_at hl 0 rfl) ?_
  refine lv_lload_n hx hb dCounter_init_21 rfl (lv_at hl 2 rfl) ?_
  refine p_l FCounter_21 GCounter_base (fun _ => ⟨hnm, rfl⟩) hx hb hts hown hW k_t dCounter_init_22 (fun H locs hW => ?_)
  refine lv_aload_n hx hb dCounter_init_25 rfl (lv_at hl 0 rfl) ?_
  refine lv_lload hx hb dCounter_init_26 (lv_at hl 3 rfl) ?_
  refine p_l FCounter_24 GCounter_ticksAStep (fun _ => ⟨hnm, rfl⟩) hx hb hts hown hW k_t dCounter_init_28 (fun H locs hW => ?_)
  exact e_v hsz hx hb hr hlk hW (mono.rf S) (by decide) (by decide) dCounter_init_31 (rfl)

def wakeAt_S (S : HS) (t : Nat) (d : Int64) : HS :=
  (sfl S 7 t (if d < (fl S 7 t) then d else (fl S 7 t)))
set_option maxRecDepth 20000 in
set_option maxHeartbeats 2000000 in
theorem c_wakeAt (l : Launch) (D : va_G) (AC : Nat → ClassId) (S : HS) (t : Nat) (d : Int64) (k_t : kd S t = 3) : CtV l yCounter_wakeAt (Cond.code yCounter_wakeAt cCounter_wakeAt 3 none :: wT) 1 24 D AC S [.ref t, .long d] 0 0 (fun S' => S' = wakeAt_S S t d) := by
  refine met_of (by decide) (Nat.le_of_ble_eq_true rfl) ?_
  intro p e s m below meth c ls hsz X hW hl
  obtain ⟨hx, hb, hml, hr, hlk, hown, hnm, hts⟩ := X
  have hl : lv_has ls 3 [(0, .ref t), (1, .long d)] := hl
  refine lv_aload_n hx hb dCounter_wakeAt_0 rfl (lv_at hl 0 rfl) ?_
  refine lv_aload_n hx hb dCounter_wakeAt_1 rfl (lv_at hl 0 rfl) ?_
  refine g_l FCounter_11 hx hb hts hown hW k_t dCounter_wakeAt_2 ?_
  refine lv_lload_n hx hb dCounter_wakeAt_5 rfl (lv_at hl 1 rfl) ?_
  refine va_mmin_long hx hb (by rw [hml]; exact hl.1.symm) hown (hts _ MCounter_27.1) (hts _ MCounter_27.2.1) (hts _ MCounter_27.2.2.1) (hts _ MCounter_27.2.2.2) (Nat.le_of_ble_eq_true rfl) (Nat.le_of_ble_eq_true rfl) (Nat.le_of_ble_eq_true rfl) (Nat.le_of_ble_eq_true rfl) dCounter_wakeAt_6 ?_
  refine p_l FCounter_11 GCounter_wake (fun h => by cases h) hx hb hts hown hW k_t dCounter_wakeAt_9 (fun H locs hW => ?_)
  exact e_v hsz hx hb hr hlk hW (mono.rf S) (by decide) (by decide) dCounter_wakeAt_12 (rfl)

def advance_S (S : HS) (t : Nat) : HS :=
  if (fl (sfl (sfl S 6 t ((fl S 6 t) + (1 : Int64))) 5 t ((fl (sfl S 6 t ((fl S 6 t) + (1 : Int64))) 5 t) + (1 : Int64))) 5 t) < (fl (sfl (sfl S 6 t ((fl S 6 t) + (1 : Int64))) 5 t ((fl (sfl S 6 t ((fl S 6 t) + (1 : Int64))) 5 t) + (1 : Int64))) 2 t) then
    (sfl (sfl S 6 t ((fl S 6 t) + (1 : Int64))) 5 t ((fl (sfl S 6 t ((fl S 6 t) + (1 : Int64))) 5 t) + (1 : Int64)))
  else
    (sfl (sfl (sfl S 6 t ((fl S 6 t) + (1 : Int64))) 5 t ((fl (sfl S 6 t ((fl S 6 t) + (1 : Int64))) 5 t) + (1 : Int64))) 5 t (0 : Int64))
set_option maxRecDepth 20000 in
set_option maxHeartbeats 2000000 in
theorem c_advance (l : Launch) (D : va_G) (AC : Nat → ClassId) (S : HS) (t : Nat) (k_t : kd S t = 3) : CtV l yCounter_advance (Cond.code yCounter_advance cCounter_advance 1 none :: wT) 0 0 D AC S [.ref t] 0 0 (fun S' => S' = advance_S S t) := by
  refine met_of (by decide) (Nat.le_of_ble_eq_true rfl) ?_
  intro p e s m below meth c ls hsz X hW hl
  obtain ⟨hx, hb, hml, hr, hlk, hown, hnm, hts⟩ := X
  have hl : lv_has ls 1 [(0, .ref t)] := hl
  refine lv_aload_n hx hb dCounter_advance_0 rfl (lv_at hl 0 rfl) ?_
  refine lv_dup hx hb dCounter_advance_1 rfl ?_
  refine g_l FCounter_33 hx hb hts hown hW k_t dCounter_advance_2 ?_
  refine lv_lconst (v := (1 : Int64)) hx hb dCounter_advance_5 (by decide) ?_
  refine lv_ladd hx hb dCounter_advance_6 ?_
  refine p_l FCounter_33 GCounter_steps (fun h => by cases h) hx hb hts hown hW k_t dCounter_advance_7 (fun H locs hW => ?_)
  refine lv_aload_n hx hb dCounter_advance_10 rfl (lv_at hl 0 rfl) ?_
  refine lv_dup hx hb dCounter_advance_11 rfl ?_
  refine g_l FCounter_36 hx hb hts hown hW k_t dCounter_advance_12 ?_
  refine lv_lconst (v := (1 : Int64)) hx hb dCounter_advance_15 (by decide) ?_
  refine lv_ladd hx hb dCounter_advance_16 ?_
  refine p_l FCounter_36 GCounter_value (fun h => by cases h) hx hb hts hown hW k_t dCounter_advance_17 (fun H locs hW => ?_)
  refine lv_aload_n hx hb dCounter_advance_20 rfl (lv_at hl 0 rfl) ?_
  refine g_l FCounter_36 hx hb hts hown hW k_t dCounter_advance_21 ?_
  refine lv_aload_n hx hb dCounter_advance_24 rfl (lv_at hl 0 rfl) ?_
  refine g_l FCounter_21 hx hb hts hown hW k_t dCounter_advance_25 ?_
  refine ll_lt (tgt := 37) hx hb dCounter_advance_28 dCounter_advance_29 (by decide) (fun c_1 => ?_) (fun c_1 => ?_)
  · exact e_v hsz hx hb hr hlk hW (mono.rf S) (by decide) (by decide) dCounter_advance_37 (by simp only [advance_S, if_pos c_1])
  · refine lv_aload_n hx hb dCounter_advance_32 rfl (lv_at hl 0 rfl) ?_
    refine lv_lconst (v := (0 : Int64)) hx hb dCounter_advance_33 (by decide) ?_
    refine p_l FCounter_36 GCounter_value (fun h => by cases h) hx hb hts hown hW k_t dCounter_advance_34 (fun H locs hW => ?_)
    exact e_v hsz hx hb hr hlk hW (mono.rf S) (by decide) (by decide) dCounter_advance_37 (by simp only [advance_S, if_neg c_1])

def stepsUntil_R (S : HS) (t : Nat) (at_ : Int64) : Int64 :=
  if (0 : Int64) < (at_ - (fl S 5 t)) then
    (at_ - (fl S 5 t))
  else
    ((at_ - (fl S 5 t)) + (fl S 2 t))
set_option maxRecDepth 20000 in
set_option maxHeartbeats 2000000 in
theorem c_stepsUntil (l : Launch) (D : va_G) (AC : Nat → ClassId) (S : HS) (t : Nat) (at_ : Int64) (k_t : kd S t = 3) : CtL l yCounter_stepsUntil (Cond.code yCounter_stepsUntil cCounter_stepsUntil 5 (some .long) :: wT) 0 0 D AC S [.ref t, .long at_] 0 0 (fun r S' => r = stepsUntil_R S t at_ ∧ S' = S) := by
  refine met_of (by decide) (Nat.le_of_ble_eq_true rfl) ?_
  intro p e s m below meth c ls hsz X hW hl
  obtain ⟨hx, hb, hml, hr, hlk, hown, hnm, hts⟩ := X
  have hl : lv_has ls 5 [(0, .ref t), (1, .long at_)] := hl
  refine lv_lload_n hx hb dCounter_stepsUntil_0 rfl (lv_at hl 1 rfl) ?_
  refine lv_aload_n hx hb dCounter_stepsUntil_1 rfl (lv_at hl 0 rfl) ?_
  refine g_l FCounter_36 hx hb hts hown hW k_t dCounter_stepsUntil_2 ?_
  refine lv_lsub hx hb dCounter_stepsUntil_5 ?_
  refine lv_lstore_n (lv' := [(3, .long (at_ - (fl S 5 t))), (0, .ref t), (1, .long at_)]) hx hb dCounter_stepsUntil_6 rfl hl (by decide) rfl (fun ls hl => ?_)
  refine lv_lload_n hx hb dCounter_stepsUntil_7 rfl (lv_at hl 0 rfl) ?_
  refine lv_lconst (v := (0 : Int64)) hx hb dCounter_stepsUntil_8 (by decide) ?_
  refine ll_le (tgt := 17) hx hb dCounter_stepsUntil_9 dCounter_stepsUntil_10 (by decide) (fun c_1 => ?_) (fun c_1 => ?_)
  · refine lv_lload_n hx hb dCounter_stepsUntil_17 rfl (lv_at hl 0 rfl) ?_
    refine lv_aload_n hx hb dCounter_stepsUntil_18 rfl (lv_at hl 1 rfl) ?_
    refine g_l FCounter_21 hx hb hts hown hW k_t dCounter_stepsUntil_19 ?_
    refine lv_ladd hx hb dCounter_stepsUntil_22 ?_
    exact e_l hsz hx hb hr hlk hW (mono.rf S) (by decide) (by decide) dCounter_stepsUntil_23 ⟨by simp only [stepsUntil_R, if_neg c_1], rfl⟩
  · refine lv_lload_n hx hb dCounter_stepsUntil_13 rfl (lv_at hl 0 rfl) ?_
    refine lv_goto (tgt := 23) hx hb dCounter_stepsUntil_14 (by decide) ?_
    exact e_l hsz hx hb hr hlk hW (mono.rf S) (by decide) (by decide) dCounter_stepsUntil_23 ⟨by simp only [stepsUntil_R, if_pos c_1], rfl⟩

def Act_init_S (S : HS) (t : Nat) (c0 : Option Nat) (a0 : Option Nat) : HS :=
  (sfr (sfr S 0 t c0) 1 t a0)
set_option maxRecDepth 20000 in
set_option maxHeartbeats 2000000 in
theorem c_Act_init (l : Launch) (D : va_G) (AC : Nat → ClassId) (S : HS) (t : Nat) (c0 : Option Nat) (a0 : Option Nat) (k_t : kd S t = 1) (kq_c0 : ∀ b, c0 = some b → kd S b = 3) (kq_a0 : ∀ b, a0 = some b → kd S b = 2) : CtV l yAct_init (Cond.code yAct_init cAct_init 3 none :: wT) 1 12 D AC S [.ref t, va_rf c0, va_rf a0] 0 0 (fun S' => S' = Act_init_S S t c0 a0) := by
  refine met_of (by decide) (by simp [lg_sl, q_cat, cat_r, cat_i, cat_l]) ?_
  intro p e s m below meth c ls hsz X hW hl
  obtain ⟨hx, hb, hml, hr, hlk, hown, hnm, hts⟩ := X
  have hl : lv_has ls 3 [(0, .ref t), (1, va_rf c0), (2, va_rf a0)] := by simpa [lv_args, q_cat, cat_r, cat_i, cat_l] using hl
  refine lv_aload_n hx hb dAct_init_0 rfl (lv_at hl 0 rfl) ?_
  refine o_init OAct_1 hx hb hown hts hml hl.1 dAct_init_1 (Nat.le_of_ble_eq_true rfl) (Nat.le_of_ble_eq_true rfl) ?_
  refine lv_aload_n hx hb dAct_init_4 rfl (lv_at hl 0 rfl) ?_
  refine q_aload_n hx hb dAct_init_5 rfl (lv_at hl 1 rfl) ?_
  refine p_q FAct_7 GAct_stepped ⟨fun _ => rfl, fun _ => rfl, rfl, rfl⟩ (fun _ => ⟨hnm, rfl⟩) hx hb hts hown hW k_t kq_c0 dAct_init_6 (fun H locs hW => ?_)
  refine lv_aload_n hx hb dAct_init_9 rfl (lv_at hl 0 rfl) ?_
  refine q_aload_n hx hb dAct_init_10 rfl (lv_at hl 2 rfl) ?_
  refine p_q FAct_13 GAct_cancelled ⟨fun _ => rfl, fun _ => rfl, rfl, rfl⟩ (fun _ => ⟨hnm, rfl⟩) hx hb hts hown hW k_t kq_a0 dAct_init_11 (fun H locs hW => ?_)
  exact e_v hsz hx hb hr hlk hW (mono.rf S) (by decide) (by decide) dAct_init_14 (rfl)
