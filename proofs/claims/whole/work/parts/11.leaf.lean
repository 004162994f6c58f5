def Counter_init_S (S : HS) (t : Nat) (n : Int32) (b : Int64) (k : Int64) : HS :=
  (sfl (sfl (sfi (sfl S 7 t (9223372036854775807 : Int64)) 2 t ((1 : Int32) <<< ((n - (1 : Int32)) &&& 31))) 2 t b) 3 t k)
set_option maxRecDepth 20000 in
set_option maxHeartbeats 2000000 in
theorem c_Counter_init (l : Launch) (D : va_G) (AC : Nat → ClassId) (S : HS) (t : Nat) (n : Int32) (b : Int64) (k : Int64)  (k_t : kd S t = 3) : CtV l yCounter_init (Cond.code yCounter_init cCounter_init 6 none :: wT) 1 12 D AC S [.ref t, .int n, .long b, .long k] 0 0 (fun S' => S' = Counter_init_S S t n b k) := by
  refine met_of (by decide) (Nat.le_of_ble_eq_true rfl) ?_
  intro p e s m below meth c ls hsz X hW hl
  obtain ⟨hx, hb, hml, hr, hlk, hown, hnm, hts⟩ := X
  have hl : lv_has ls 6 [(0, .ref t), (1, .int n), (2, .long b), (4, .long k)] := hl
  have mo : mono S S := mono.rf S
  refine lv_aload_n hx hb dCounter_init_0 rfl (lv_at hl 0 rfl) ?_
  refine o_init OCounter_3 hx hb hown hts hml hl.1 dCounter_init_1 (Nat.le_of_ble_eq_true rfl) (Nat.le_of_ble_eq_true rfl) ?_
  refine lv_aload_n hx hb dCounter_init_4 rfl (lv_at hl 0 rfl) ?_
  refine lv_ldc2 (v := (9223372036854775807 : Int64)) hx hb hown (hts _ QCounter_9) dCounter_init_5 ?_
  refine p_l FCounter_11 GCounter_wake (fun h => by cases h) hx hb hts hown hW k_t dCounter_init_8 (fun H locs hW => ?_)
  have mo := mo.tr (mono_sfl (k := 7) (a := t) (v := (9223372036854775807 : Int64)))
  refine lv_aload_n hx hb dCounter_init_11 rfl (lv_at hl 0 rfl) ?_
  refine lv_iconst (v := (1 : Int32)) hx hb dCounter_init_12 (by decide) ?_
  refine lv_iload_n hx hb dCounter_init_13 rfl (lv_at hl 1 rfl) ?_
  refine lv_iconst (v := (1 : Int32)) hx hb dCounter_init_14 (by decide) ?_
  refine lv_isub hx hb dCounter_init_15 ?_
  refine lv_ishl hx hb dCounter_init_16 ?_
  refine p_i FCounter_17 GCounter_bit (fun _ => ⟨hnm, rfl⟩) hx hb hts hown hW k_t rfl rfl dCounter_init_17 (fun H locs hW => ?_)
  have mo := mo.tr (mono_sfi (k := 2) (a := t) (v := ((1 : Int32) <<< ((n - (1 : Int32)) &&& 31))))
  refine lv_aload_n hx hb dCounter_init_20 rfl (lv_at hl 0 rfl) ?_
  refine lv_lload_n hx hb dCounter_init_21 rfl (lv_at hl 2 rfl) ?_
  refine p_l FCounter_21 GCounter_base (fun _ => ⟨hnm, rfl⟩) hx hb hts hown hW k_t dCounter_init_22 (fun H locs hW => ?_)
  have mo := mo.tr (mono_sfl (k := 2) (a := t) (v := b))
  refine lv_aload_n hx hb dCounter_init_25 rfl (lv_at hl 0 rfl) ?_
  refine lv_lload hx hb dCounter_init_26 (lv_at hl 3 rfl) ?_
  refine p_l FCounter_24 GCounter_ticksAStep (fun _ => ⟨hnm, rfl⟩) hx hb hts hown hW k_t dCounter_init_28 (fun H locs hW => ?_)
  have mo := mo.tr (mono_sfl (k := 3) (a := t) (v := k))
  exact e_v hsz hx hb hr hlk hW (mo) (Nat.le_of_ble_eq_true rfl) (Nat.le_of_ble_eq_true rfl) dCounter_init_31 (rfl)

def wakeAt_S (S : HS) (t : Nat) (d : Int64) : HS :=
  (sfl S 7 t (if d < (fl S 7 t) then d else (fl S 7 t)))
set_option maxRecDepth 20000 in
set_option maxHeartbeats 2000000 in
theorem c_wakeAt (l : Launch) (D : va_G) (AC : Nat → ClassId) (S : HS) (t : Nat) (d : Int64)  (k_t : kd S t = 3) : CtV l yCounter_wakeAt (Cond.code yCounter_wakeAt cCounter_wakeAt 3 none :: wT) 1 24 D AC S [.ref t, .long d] 0 0 (fun S' => S' = wakeAt_S S t d) := by
  refine met_of (by decide) (Nat.le_of_ble_eq_true rfl) ?_
  intro p e s m below meth c ls hsz X hW hl
  obtain ⟨hx, hb, hml, hr, hlk, hown, hnm, hts⟩ := X
  have hl : lv_has ls 3 [(0, .ref t), (1, .long d)] := hl
  have mo : mono S S := mono.rf S
  refine lv_aload_n hx hb dCounter_wakeAt_0 rfl (lv_at hl 0 rfl) ?_
  refine lv_aload_n hx hb dCounter_wakeAt_1 rfl (lv_at hl 0 rfl) ?_
  refine g_l FCounter_11 hx hb hts hown hW k_t dCounter_wakeAt_2 ?_
  refine lv_lload_n hx hb dCounter_wakeAt_5 rfl (lv_at hl 1 rfl) ?_
  refine va_mmin_long hx hb (by rw [hml]; exact hl.1.symm) hown (hts _ MCounter_27.1) (hts _ MCounter_27.2.1) (hts _ MCounter_27.2.2.1) (hts _ MCounter_27.2.2.2) (Nat.le_of_ble_eq_true rfl) (Nat.le_of_ble_eq_true rfl) (Nat.le_of_ble_eq_true rfl) (Nat.le_of_ble_eq_true rfl) dCounter_wakeAt_6 ?_
  refine p_l FCounter_11 GCounter_wake (fun h => by cases h) hx hb hts hown hW k_t dCounter_wakeAt_9 (fun H locs hW => ?_)
  have mo := mo.tr (mono_sfl (k := 7) (a := t) (v := (if d < (fl S 7 t) then d else (fl S 7 t))))
  exact e_v hsz hx hb hr hlk hW (mo) (Nat.le_of_ble_eq_true rfl) (Nat.le_of_ble_eq_true rfl) dCounter_wakeAt_12 (rfl)

theorem nn_wakeAt {S : HS} {t : Nat} {d : Int64} (h : nn S) : nn (wakeAt_S S t d) := h

def advance_S (S : HS) (t : Nat) : HS :=
  if ((fl S 5 t) + (1 : Int64)) < (fl S 2 t) then
    (sfl (sfl S 6 t ((fl S 6 t) + (1 : Int64))) 5 t ((fl S 5 t) + (1 : Int64)))
  else
    (sfl (sfl (sfl S 6 t ((fl S 6 t) + (1 : Int64))) 5 t ((fl S 5 t) + (1 : Int64))) 5 t (0 : Int64))
set_option maxRecDepth 20000 in
set_option maxHeartbeats 2000000 in
theorem c_advance (l : Launch) (D : va_G) (AC : Nat → ClassId) (S : HS) (t : Nat)  (k_t : kd S t = 3) : CtV l yCounter_advance (Cond.code yCounter_advance cCounter_advance 1 none :: wT) 0 0 D AC S [.ref t] 0 0 (fun S' => S' = advance_S S t) := by
  refine met_of (by decide) (Nat.le_of_ble_eq_true rfl) ?_
  intro p e s m below meth c ls hsz X hW hl
  obtain ⟨hx, hb, hml, hr, hlk, hown, hnm, hts⟩ := X
  have hl : lv_has ls 1 [(0, .ref t)] := hl
  have mo : mono S S := mono.rf S
  refine lv_aload_n hx hb dCounter_advance_0 rfl (lv_at hl 0 rfl) ?_
  refine lv_dup hx hb dCounter_advance_1 rfl ?_
  refine g_l FCounter_33 hx hb hts hown hW k_t dCounter_advance_2 ?_
  refine lv_lconst (v := (1 : Int64)) hx hb dCounter_advance_5 (by decide) ?_
  refine lv_ladd hx hb dCounter_advance_6 ?_
  refine p_l FCounter_33 GCounter_steps (fun h => by cases h) hx hb hts hown hW k_t dCounter_advance_7 (fun H locs hW => ?_)
  have mo := mo.tr (mono_sfl (k := 6) (a := t) (v := ((fl S 6 t) + (1 : Int64))))
  refine lv_aload_n hx hb dCounter_advance_10 rfl (lv_at hl 0 rfl) ?_
  refine lv_dup hx hb dCounter_advance_11 rfl ?_
  refine g_l FCounter_36 hx hb hts hown hW k_t dCounter_advance_12 ?_
  rw [show fl (sfl S 6 t ((fl S 6 t) + (1 : Int64))) 5 t = fl S 5 t from rfl]
  refine lv_lconst (v := (1 : Int64)) hx hb dCounter_advance_15 (by decide) ?_
  refine lv_ladd hx hb dCounter_advance_16 ?_
  refine p_l FCounter_36 GCounter_value (fun h => by cases h) hx hb hts hown hW k_t dCounter_advance_17 (fun H locs hW => ?_)
  have mo := mo.tr (mono_sfl (k := 5) (a := t) (v := ((fl S 5 t) + (1 : Int64))))
  refine lv_aload_n hx hb dCounter_advance_20 rfl (lv_at hl 0 rfl) ?_
  refine g_l FCounter_36 hx hb hts hown hW k_t dCounter_advance_21 ?_
  rw [show fl (sfl (sfl S 6 t ((fl S 6 t) + (1 : Int64))) 5 t ((fl S 5 t) + (1 : Int64))) 5 t = ((fl S 5 t) + (1 : Int64)) from up2_self _ _ _ _]
  refine lv_aload_n hx hb dCounter_advance_24 rfl (lv_at hl 0 rfl) ?_
  refine g_l FCounter_21 hx hb hts hown hW k_t dCounter_advance_25 ?_
  rw [show fl (sfl (sfl S 6 t ((fl S 6 t) + (1 : Int64))) 5 t ((fl S 5 t) + (1 : Int64))) 2 t = fl S 2 t from rfl]
  refine ll_lt (tgt := 37) hx hb dCounter_advance_28 dCounter_advance_29 (by decide) (fun c_1 => ?_) (fun c_1 => ?_)
  · exact e_v hsz hx hb hr hlk hW (mo) (Nat.le_of_ble_eq_true rfl) (Nat.le_of_ble_eq_true rfl) dCounter_advance_37 ((by refine Eq.symm ?_; refine (if_pos c_1).trans ?_; rfl))
  · refine lv_aload_n hx hb dCounter_advance_32 rfl (lv_at hl 0 rfl) ?_
    refine lv_lconst (v := (0 : Int64)) hx hb dCounter_advance_33 (by decide) ?_
    refine p_l FCounter_36 GCounter_value (fun h => by cases h) hx hb hts hown hW k_t dCounter_advance_34 (fun H locs hW => ?_)
    have mo := mo.tr (mono_sfl (k := 5) (a := t) (v := (0 : Int64)))
    exact e_v hsz hx hb hr hlk hW (mo) (Nat.le_of_ble_eq_true rfl) (Nat.le_of_ble_eq_true rfl) dCounter_advance_37 ((by refine Eq.symm ?_; refine (if_neg c_1).trans ?_; rfl))

theorem nn_advance {S : HS} {t : Nat} (h : nn S) : nn (advance_S S t) := by
  unfold advance_S
  split <;> exact h

def stepsUntil_R (S : HS) (t : Nat) (at_ : Int64) : Int64 :=
  if (0 : Int64) < (at_ - (fl S 5 t)) then
    (at_ - (fl S 5 t))
  else
    ((at_ - (fl S 5 t)) + (fl S 2 t))
set_option maxRecDepth 20000 in
set_option maxHeartbeats 2000000 in
theorem c_stepsUntil (l : Launch) (D : va_G) (AC : Nat → ClassId) (S : HS) (t : Nat) (at_ : Int64)  (k_t : kd S t = 3) : CtL l yCounter_stepsUntil (Cond.code yCounter_stepsUntil cCounter_stepsUntil 5 (some .long) :: wT) 0 0 D AC S [.ref t, .long at_] 0 0 (fun r S' => r = stepsUntil_R S t at_ ∧ S' = S) := by
  refine met_of (by decide) (Nat.le_of_ble_eq_true rfl) ?_
  intro p e s m below meth c ls hsz X hW hl
  obtain ⟨hx, hb, hml, hr, hlk, hown, hnm, hts⟩ := X
  have hl : lv_has ls 5 [(0, .ref t), (1, .long at_)] := hl
  have mo : mono S S := mono.rf S
  refine lv_lload_n hx hb dCounter_stepsUntil_0 rfl (lv_at hl 1 rfl) ?_
  refine lv_aload_n hx hb dCounter_stepsUntil_1 rfl (lv_at hl 0 rfl) ?_
  refine g_l FCounter_36 hx hb hts hown hW k_t dCounter_stepsUntil_2 ?_
  refine lv_lsub hx hb dCounter_stepsUntil_5 ?_
  refine lv_lstore_n (i := 3) (lv' := [(3, .long (at_ - (fl S 5 t))), (0, .ref t), (1, .long at_)]) hx hb dCounter_stepsUntil_6 rfl hl (by decide) rfl (fun ls hl => ?_)
  refine lv_lload_n hx hb dCounter_stepsUntil_7 rfl (lv_at hl 0 rfl) ?_
  refine lv_lconst (v := (0 : Int64)) hx hb dCounter_stepsUntil_8 (by decide) ?_
  refine ll_le (tgt := 17) hx hb dCounter_stepsUntil_9 dCounter_stepsUntil_10 (by decide) (fun c_1 => ?_) (fun c_1 => ?_)
  · refine lv_lload_n hx hb dCounter_stepsUntil_17 rfl (lv_at hl 0 rfl) ?_
    refine lv_aload_n hx hb dCounter_stepsUntil_18 rfl (lv_at hl 1 rfl) ?_
    refine g_l FCounter_21 hx hb hts hown hW k_t dCounter_stepsUntil_19 ?_
    refine lv_ladd hx hb dCounter_stepsUntil_22 ?_
    exact e_l hsz hx hb hr hlk hW (mono.rf S) (Nat.le_of_ble_eq_true rfl) (Nat.le_of_ble_eq_true rfl) dCounter_stepsUntil_23 ⟨(by refine Eq.symm ?_; refine (if_neg c_1).trans ?_; rfl), rfl⟩
  · refine lv_lload_n hx hb dCounter_stepsUntil_13 rfl (lv_at hl 0 rfl) ?_
    refine lv_goto (tgt := 23) hx hb dCounter_stepsUntil_14 (by decide) ?_
    exact e_l hsz hx hb hr hlk hW (mono.rf S) (Nat.le_of_ble_eq_true rfl) (Nat.le_of_ble_eq_true rfl) dCounter_stepsUntil_23 ⟨(by refine Eq.symm ?_; refine (if_pos c_1).trans ?_; rfl), rfl⟩

def Act_init_S (S : HS) (t : Nat) (c0 : Option Nat) (a0 : Option Nat) : HS :=
  (sfr (sfr S 0 t c0) 1 t a0)
set_option maxRecDepth 20000 in
set_option maxHeartbeats 2000000 in
theorem c_Act_init (l : Launch) (D : va_G) (AC : Nat → ClassId) (S : HS) (t : Nat) (c0 : Option Nat) (a0 : Option Nat)  (k_t : kd S t = 1) (kq_c0 : ∀ b, c0 = some b → kd S b = 3) (kq_a0 : ∀ b, a0 = some b → kd S b = 2) : CtV l yAct_init (Cond.code yAct_init cAct_init 3 none :: wT) 1 12 D AC S [.ref t, va_rf c0, va_rf a0] 0 0 (fun S' => S' = Act_init_S S t c0 a0) := by
  refine met_of (by decide) (by simp [lg_sl, q_cat, cat_r, cat_i, cat_l]) ?_
  intro p e s m below meth c ls hsz X hW hl
  obtain ⟨hx, hb, hml, hr, hlk, hown, hnm, hts⟩ := X
  have hl : lv_has ls 3 [(0, .ref t), (1, va_rf c0), (2, va_rf a0)] := by simpa [lv_args, q_cat, cat_r, cat_i, cat_l] using hl
  have mo : mono S S := mono.rf S
  refine lv_aload_n hx hb dAct_init_0 rfl (lv_at hl 0 rfl) ?_
  refine o_init OAct_1 hx hb hown hts hml hl.1 dAct_init_1 (Nat.le_of_ble_eq_true rfl) (Nat.le_of_ble_eq_true rfl) ?_
  refine lv_aload_n hx hb dAct_init_4 rfl (lv_at hl 0 rfl) ?_
  refine q_aload_n hx hb dAct_init_5 rfl (lv_at hl 1 rfl) ?_
  refine p_q FAct_7 GAct_stepped ⟨fun _ => rfl, fun _ => rfl, rfl, rfl⟩ (fun _ => ⟨hnm, rfl⟩) hx hb hts hown hW k_t kq_c0 dAct_init_6 (fun H locs hW => ?_)
  have mo := mo.tr (mono_sfr (k := 0) (a := t) (v := c0))
  refine lv_aload_n hx hb dAct_init_9 rfl (lv_at hl 0 rfl) ?_
  refine q_aload_n hx hb dAct_init_10 rfl (lv_at hl 2 rfl) ?_
  refine p_q FAct_13 GAct_cancelled ⟨fun _ => rfl, fun _ => rfl, rfl, rfl⟩ (fun _ => ⟨hnm, rfl⟩) hx hb hts hown hW k_t kq_a0 dAct_init_11 (fun H locs hW => ?_)
  have mo := mo.tr (mono_sfr (k := 1) (a := t) (v := a0))
  exact e_v hsz hx hb hr hlk hW (mo) (Nat.le_of_ble_eq_true rfl) (Nat.le_of_ble_eq_true rfl) dAct_init_14 (rfl)

def appendAlarm_S (S : HS) (t : Nat) (a : Nat) : HS :=
  opc (fr S 6 t) ((sfr (sfr S 5 t (some a)) 6 t (some a)))
  (fun b_2 => (sfr (sfr S 4 b_2 (some a)) 6 t (some a)))
set_option maxRecDepth 20000 in
set_option maxHeartbeats 2000000 in
theorem c_appendAlarm (l : Launch) (D : va_G) (AC : Nat → ClassId) (S : HS) (t : Nat) (a : Nat)  (k_t : kd S t = 3) (k_a : kd S a = 2) : CtV l yCounter_appendAlarm (Cond.code yCounter_appendAlarm cCounter_appendAlarm 2 none :: wT) 0 0 D AC S [.ref t, .ref a] 0 0 (fun S' => S' = appendAlarm_S S t a) := by
  refine met_of (by decide) (Nat.le_of_ble_eq_true rfl) ?_
  intro p e s m below meth c ls hsz X hW hl
  obtain ⟨hx, hb, hml, hr, hlk, hown, hnm, hts⟩ := X
  have hl : lv_has ls 2 [(0, .ref t), (1, .ref a)] := hl
  have mo : mono S S := mono.rf S
  refine lv_aload_n hx hb dCounter_appendAlarm_0 rfl (lv_at hl 0 rfl) ?_
  have kq_1 : ∀ b, fr S 6 t = some b → kd S b = 2 := fun b h => hW.ok.2.1 6 t b k_t h
  refine g_q FCounter_39 hx hb hts hown hW k_t dCounter_appendAlarm_1 ?_
  refine q_ifnonnull (tgt := 15) hx hb dCounter_appendAlarm_4 (by decide) (fun n_2 => ?_) (fun b_2 n_2 => ?_)
  · refine lv_aload_n hx hb dCounter_appendAlarm_7 rfl (lv_at hl 0 rfl) ?_
    refine lv_aload_n hx hb dCounter_appendAlarm_8 rfl (lv_at hl 1 rfl) ?_
    refine p_r FCounter_43 GCounter_firstAlarm ⟨rfl, rfl⟩ (fun h => by cases h) hx hb hts hown hW k_t k_a dCounter_appendAlarm_9 (fun H locs hW => ?_)
    have mo := mo.tr (mono_sfr (k := 5) (a := t) (v := (some a)))
    refine lv_goto (tgt := 23) hx hb dCounter_appendAlarm_12 (by decide) ?_
    refine lv_aload_n hx hb dCounter_appendAlarm_23 rfl (lv_at hl 0 rfl) ?_
    refine lv_aload_n hx hb dCounter_appendAlarm_24 rfl (lv_at hl 1 rfl) ?_
    refine p_r FCounter_39 GCounter_lastAlarm ⟨rfl, rfl⟩ (fun h => by cases h) hx hb hts hown hW k_t k_a dCounter_appendAlarm_25 (fun H locs hW => ?_)
    have mo := mo.tr (mono_sfr (k := 6) (a := t) (v := (some a)))
    exact e_v hsz hx hb hr hlk hW (mo) (Nat.le_of_ble_eq_true rfl) (Nat.le_of_ble_eq_true rfl) dCounter_appendAlarm_28 ((by refine Eq.symm ?_; refine (op_none n_2).trans ?_; rfl))
  · have k_b_2 : kd S b_2 = 2 := kq_1 b_2 n_2
    refine lv_aload_n hx hb dCounter_appendAlarm_15 rfl (lv_at hl 0 rfl) ?_
    refine g_q FCounter_39 hx hb hts hown hW k_t dCounter_appendAlarm_16 ?_
    refine lv_aload_n hx hb dCounter_appendAlarm_19 rfl (lv_at hl 1 rfl) ?_
    refine q_some1 n_2 ?_
    refine p_r FCounter_46 GAlarm_behind ⟨rfl, rfl⟩ (fun h => by cases h) hx hb hts hown hW k_b_2 k_a dCounter_appendAlarm_20 (fun H locs hW => ?_)
    have mo := mo.tr (mono_sfr (k := 4) (a := b_2) (v := (some a)))
    refine lv_aload_n hx hb dCounter_appendAlarm_23 rfl (lv_at hl 0 rfl) ?_
    refine lv_aload_n hx hb dCounter_appendAlarm_24 rfl (lv_at hl 1 rfl) ?_
    refine p_r FCounter_39 GCounter_lastAlarm ⟨rfl, rfl⟩ (fun h => by cases h) hx hb hts hown hW k_t k_a dCounter_appendAlarm_25 (fun H locs hW => ?_)
    have mo := mo.tr (mono_sfr (k := 6) (a := t) (v := (some a)))
    exact e_v hsz hx hb hr hlk hW (mo) (Nat.le_of_ble_eq_true rfl) (Nat.le_of_ble_eq_true rfl) dCounter_appendAlarm_28 ((by refine Eq.symm ?_; refine (op_some n_2).trans ?_; rfl))

def appendTable_S (S : HS) (t : Nat) (a : Nat) : HS :=
  opc (fr S 8 t) ((sfr (sfr S 7 t (some a)) 8 t (some a)))
  (fun b_2 => (sfr (sfr S 17 b_2 (some a)) 8 t (some a)))
set_option maxRecDepth 20000 in
set_option maxHeartbeats 2000000 in
theorem c_appendTable (l : Launch) (D : va_G) (AC : Nat → ClassId) (S : HS) (t : Nat) (a : Nat)  (k_t : kd S t = 3) (k_a : kd S a = 7) : CtV l yCounter_appendTable (Cond.code yCounter_appendTable cCounter_appendTable 2 none :: wT) 0 0 D AC S [.ref t, .ref a] 0 0 (fun S' => S' = appendTable_S S t a) := by
  refine met_of (by decide) (Nat.le_of_ble_eq_true rfl) ?_
  intro p e s m below meth c ls hsz X hW hl
  obtain ⟨hx, hb, hml, hr, hlk, hown, hnm, hts⟩ := X
  have hl : lv_has ls 2 [(0, .ref t), (1, .ref a)] := hl
  have mo : mono S S := mono.rf S
  refine lv_aload_n hx hb dCounter_appendTable_0 rfl (lv_at hl 0 rfl) ?_
  have kq_1 : ∀ b, fr S 8 t = some b → kd S b = 7 := fun b h => hW.ok.2.1 8 t b k_t h
  refine g_q FCounter_51 hx hb hts hown hW k_t dCounter_appendTable_1 ?_
  refine q_ifnonnull (tgt := 15) hx hb dCounter_appendTable_4 (by decide) (fun n_2 => ?_) (fun b_2 n_2 => ?_)
  · refine lv_aload_n hx hb dCounter_appendTable_7 rfl (lv_at hl 0 rfl) ?_
    refine lv_aload_n hx hb dCounter_appendTable_8 rfl (lv_at hl 1 rfl) ?_
    refine p_r FCounter_55 GCounter_firstTable ⟨rfl, rfl⟩ (fun h => by cases h) hx hb hts hown hW k_t k_a dCounter_appendTable_9 (fun H locs hW => ?_)
    have mo := mo.tr (mono_sfr (k := 7) (a := t) (v := (some a)))
    refine lv_goto (tgt := 23) hx hb dCounter_appendTable_12 (by decide) ?_
    refine lv_aload_n hx hb dCounter_appendTable_23 rfl (lv_at hl 0 rfl) ?_
    refine lv_aload_n hx hb dCounter_appendTable_24 rfl (lv_at hl 1 rfl) ?_
    refine p_r FCounter_51 GCounter_lastTable ⟨rfl, rfl⟩ (fun h => by cases h) hx hb hts hown hW k_t k_a dCounter_appendTable_25 (fun H locs hW => ?_)
    have mo := mo.tr (mono_sfr (k := 8) (a := t) (v := (some a)))
    exact e_v hsz hx hb hr hlk hW (mo) (Nat.le_of_ble_eq_true rfl) (Nat.le_of_ble_eq_true rfl) dCounter_appendTable_28 ((by refine Eq.symm ?_; refine (op_none n_2).trans ?_; rfl))
  · have k_b_2 : kd S b_2 = 7 := kq_1 b_2 n_2
    refine lv_aload_n hx hb dCounter_appendTable_15 rfl (lv_at hl 0 rfl) ?_
    refine g_q FCounter_51 hx hb hts hown hW k_t dCounter_appendTable_16 ?_
    refine lv_aload_n hx hb dCounter_appendTable_19 rfl (lv_at hl 1 rfl) ?_
    refine q_some1 n_2 ?_
    refine p_r FCounter_58 GTable_behind ⟨rfl, rfl⟩ (fun h => by cases h) hx hb hts hown hW k_b_2 k_a dCounter_appendTable_20 (fun H locs hW => ?_)
    have mo := mo.tr (mono_sfr (k := 17) (a := b_2) (v := (some a)))
    refine lv_aload_n hx hb dCounter_appendTable_23 rfl (lv_at hl 0 rfl) ?_
    refine lv_aload_n hx hb dCounter_appendTable_24 rfl (lv_at hl 1 rfl) ?_
    refine p_r FCounter_51 GCounter_lastTable ⟨rfl, rfl⟩ (fun h => by cases h) hx hb hts hown hW k_t k_a dCounter_appendTable_25 (fun H locs hW => ?_)
    have mo := mo.tr (mono_sfr (k := 8) (a := t) (v := (some a)))
    exact e_v hsz hx hb hr hlk hW (mo) (Nat.le_of_ble_eq_true rfl) (Nat.le_of_ble_eq_true rfl) dCounter_appendTable_28 ((by refine Eq.symm ?_; refine (op_some n_2).trans ?_; rfl))

def Alarm_init_S (S : HS) (t : Nat) (n : Int32) (c0 : Nat) (x : Nat) : HS :=
  (sfr (sfr (sfi S 0 t n) 2 t (some c0)) 3 t (some x))
set_option maxRecDepth 20000 in
set_option maxHeartbeats 2000000 in
theorem c_Alarm_init (l : Launch) (D : va_G) (AC : Nat → ClassId) (S : HS) (t : Nat) (n : Int32) (c0 : Nat) (x : Nat)  (k_t : kd S t = 2) (k_c0 : kd S c0 = 3) (k_x : kd S x = 1) : CtV l yAlarm_init (Cond.code yAlarm_init cAlarm_init 4 none :: wT) 1 12 D AC S [.ref t, .int n, .ref c0, .ref x] 0 0 (fun S' => S' = Alarm_init_S S t n c0 x) := by
  refine met_of (by decide) (Nat.le_of_ble_eq_true rfl) ?_
  intro p e s m below meth c ls hsz X hW hl
  obtain ⟨hx, hb, hml, hr, hlk, hown, hnm, hts⟩ := X
  have hl : lv_has ls 4 [(0, .ref t), (1, .int n), (2, .ref c0), (3, .ref x)] := hl
  have mo : mono S S := mono.rf S
  refine lv_aload_n hx hb dAlarm_init_0 rfl (lv_at hl 0 rfl) ?_
  refine o_init OAlarm_1 hx hb hown hts hml hl.1 dAlarm_init_1 (Nat.le_of_ble_eq_true rfl) (Nat.le_of_ble_eq_true rfl) ?_
  refine lv_aload_n hx hb dAlarm_init_4 rfl (lv_at hl 0 rfl) ?_
  refine lv_iload_n hx hb dAlarm_init_5 rfl (lv_at hl 1 rfl) ?_
  refine p_i FAlarm_7 GAlarm_number (fun _ => ⟨hnm, rfl⟩) hx hb hts hown hW k_t rfl rfl dAlarm_init_6 (fun H locs hW => ?_)
  have mo := mo.tr (mono_sfi (k := 0) (a := t) (v := n))
  refine lv_aload_n hx hb dAlarm_init_9 rfl (lv_at hl 0 rfl) ?_
  refine lv_aload_n hx hb dAlarm_init_10 rfl (lv_at hl 2 rfl) ?_
  refine p_r FAlarm_13 GAlarm_counter ⟨rfl, rfl⟩ (fun _ => ⟨hnm, rfl⟩) hx hb hts hown hW k_t k_c0 dAlarm_init_11 (fun H locs hW => ?_)
  have mo := mo.tr (mono_sfr (k := 2) (a := t) (v := (some c0)))
  refine lv_aload_n hx hb dAlarm_init_14 rfl (lv_at hl 0 rfl) ?_
  refine lv_aload_n hx hb dAlarm_init_15 rfl (lv_at hl 3 rfl) ?_
  refine p_r FAlarm_17 GAlarm_act ⟨rfl, rfl⟩ (fun _ => ⟨hnm, rfl⟩) hx hb hts hown hW k_t k_x dAlarm_init_16 (fun H locs hW => ?_)
  have mo := mo.tr (mono_sfr (k := 3) (a := t) (v := (some x)))
  exact e_v hsz hx hb hr hlk hW (mo) (Nat.le_of_ble_eq_true rfl) (Nat.le_of_ble_eq_true rfl) dAlarm_init_19 (rfl)

def becomeDue_S (S : HS) (t : Nat) (d : Int64) : HS :=
  (wakeAt_S (sfl S 0 t ((fl S 6 (gd (fr S 2 t))) + d)) (gd (fr S 2 t)) ((fl S 6 (gd (fr S 2 t))) + d))
set_option maxRecDepth 20000 in
set_option maxHeartbeats 2000000 in
theorem c_becomeDue (l : Launch) (D : va_G) (AC : Nat → ClassId) (S : HS) (t : Nat) (d : Int64)  (k_t : kd S t = 2) (hn : nn S) : CtV l yAlarm_becomeDue (Cond.code yAlarm_becomeDue cAlarm_becomeDue 3 none :: wT) 2 50 D AC S [.ref t, .long d] 0 0 (fun S' => S' = becomeDue_S S t d) := by
  refine met_of (by decide) (Nat.le_of_ble_eq_true rfl) ?_
  intro p e s m below meth c ls hsz X hW hl
  obtain ⟨hx, hb, hml, hr, hlk, hown, hnm, hts⟩ := X
  have hl : lv_has ls 3 [(0, .ref t), (1, .long d)] := hl
  have mo : mono S S := mono.rf S
  refine lv_aload_n hx hb dAlarm_becomeDue_0 rfl (lv_at hl 0 rfl) ?_
  refine lv_aload_n hx hb dAlarm_becomeDue_1 rfl (lv_at hl 0 rfl) ?_
  have kq_1 : ∀ b, fr S 2 t = some b → kd S b = 3 := fun b h => hW.ok.2.1 2 t b k_t h
  refine g_q FAlarm_13 hx hb hts hown hW k_t dAlarm_becomeDue_2 ?_
  have n_2 : fr S 2 t = some (gd (fr S 2 t)) := gd_some (hn 2 t rfl k_t)
  have kb_3 : kd S (gd (fr S 2 t)) = 3 := kq_1 (gd (fr S 2 t)) n_2
  refine q_some n_2 ?_
  refine g_l FAlarm_21 hx hb hts hown hW kb_3 dAlarm_becomeDue_5 ?_
  refine lv_lload_n hx hb dAlarm_becomeDue_8 rfl (lv_at hl 1 rfl) ?_
  refine lv_ladd hx hb dAlarm_becomeDue_9 ?_
  refine p_l FAlarm_27 GAlarm_due (fun h => by cases h) hx hb hts hown hW k_t dAlarm_becomeDue_10 (fun H locs hW => ?_)
  have mo := mo.tr (mono_sfl (k := 0) (a := t) (v := ((fl S 6 (gd (fr S 2 t))) + d)))
  have nnp_4 : nn (sfl S 0 t ((fl S 6 (gd (fr S 2 t))) + d)) := nn_sfl hn
  refine lv_aload_n hx hb dAlarm_becomeDue_13 rfl (lv_at hl 0 rfl) ?_
  refine g_q FAlarm_13 hx hb hts hown hW k_t dAlarm_becomeDue_14 ?_
  rw [show fr (sfl S 0 t ((fl S 6 (gd (fr S 2 t))) + d)) 2 t = fr S 2 t from rfl]
  refine lv_aload_n hx hb dAlarm_becomeDue_17 rfl (lv_at hl 0 rfl) ?_
  refine g_l FAlarm_27 hx hb hts hown hW k_t dAlarm_becomeDue_18 ?_
  rw [show fl (sfl S 0 t ((fl S 6 (gd (fr S 2 t))) + d)) 0 t = ((fl S 6 (gd (fr S 2 t))) + d) from up2_self _ _ _ _]
  refine q_some1 n_2 ?_
  refine k_Vv (As := [.long ((fl S 6 (gd (fr S 2 t))) + d)]) (rest := []) (c_wakeAt l D AC (sfl S 0 t ((fl S 6 (gd (fr S 2 t))) + d)) (gd (fr S 2 t)) ((fl S 6 (gd (fr S 2 t))) + d) kb_3) CAlarm_30 ⟨by decide, by decide, _, rfl, rfl⟩ hx hb hml hown hts hW kb_3 hl.1 rfl rfl (Nat.le_of_ble_eq_true rfl) ⟨⟨Nat.le_of_ble_eq_true rfl, Nat.le_of_ble_eq_true rfl⟩, ⟨Nat.le_of_ble_eq_true rfl, Nat.le_of_ble_eq_true rfl⟩⟩ dAlarm_becomeDue_21 (fun S_5 H locs e_5 hW m_5 _ => ?_)
  rw [e_5] at hW m_5
  have k_t := m_5.k k_t (by decide)
  have kb_3 := m_5.k kb_3 (by decide)
  have kq_1 := fun b h => m_5.k (kq_1 b h) (by decide)
  have mo := mo.tr m_5
  have nnp_6 : nn (wakeAt_S (sfl S 0 t ((fl S 6 (gd (fr S 2 t))) + d)) (gd (fr S 2 t)) ((fl S 6 (gd (fr S 2 t))) + d)) := nn_wakeAt nnp_4
  exact e_v hsz hx hb hr hlk hW (mo) (Nat.le_of_ble_eq_true rfl) (Nat.le_of_ble_eq_true rfl) dAlarm_becomeDue_24 (rfl)

theorem nn_becomeDue {S : HS} {t : Nat} {d : Int64} (h : nn S) : nn (becomeDue_S S t d) := h

def Point_init_S (S : HS) (t : Nat) (o : Int64) (x : Nat) : HS :=
  (sfr (sfl S 8 t o) 11 t (some x))
set_option maxRecDepth 20000 in
set_option maxHeartbeats 2000000 in
theorem c_Point_init (l : Launch) (D : va_G) (AC : Nat → ClassId) (S : HS) (t : Nat) (o : Int64) (x : Nat)  (k_t : kd S t = 6) (k_x : kd S x = 1) : CtV l yPoint_init (Cond.code yPoint_init cPoint_init 4 none :: wT) 1 12 D AC S [.ref t, .long o, .ref x] 0 0 (fun S' => S' = Point_init_S S t o x) := by
  refine met_of (by decide) (Nat.le_of_ble_eq_true rfl) ?_
  intro p e s m below meth c ls hsz X hW hl
  obtain ⟨hx, hb, hml, hr, hlk, hown, hnm, hts⟩ := X
  have hl : lv_has ls 4 [(0, .ref t), (1, .long o), (3, .ref x)] := hl
  have mo : mono S S := mono.rf S
  refine lv_aload_n hx hb dPoint_init_0 rfl (lv_at hl 0 rfl) ?_
  refine o_init OPoint_1 hx hb hown hts hml hl.1 dPoint_init_1 (Nat.le_of_ble_eq_true rfl) (Nat.le_of_ble_eq_true rfl) ?_
  refine lv_aload_n hx hb dPoint_init_4 rfl (lv_at hl 0 rfl) ?_
  refine lv_lload_n hx hb dPoint_init_5 rfl (lv_at hl 1 rfl) ?_
  refine p_l FPoint_7 GPoint_offset (fun _ => ⟨hnm, rfl⟩) hx hb hts hown hW k_t dPoint_init_6 (fun H locs hW => ?_)
  have mo := mo.tr (mono_sfl (k := 8) (a := t) (v := o))
  refine lv_aload_n hx hb dPoint_init_9 rfl (lv_at hl 0 rfl) ?_
  refine lv_aload_n hx hb dPoint_init_10 rfl (lv_at hl 2 rfl) ?_
  refine p_r FPoint_13 GPoint_act ⟨rfl, rfl⟩ (fun _ => ⟨hnm, rfl⟩) hx hb hts hown hW k_t k_x dPoint_init_11 (fun H locs hW => ?_)
  have mo := mo.tr (mono_sfr (k := 11) (a := t) (v := (some x)))
  exact e_v hsz hx hb hr hlk hW (mo) (Nat.le_of_ble_eq_true rfl) (Nat.le_of_ble_eq_true rfl) dPoint_init_14 (rfl)

def Table_init_S (S : HS) (t : Nat) (n : Int32) (c0 : Nat) (k : Int64) : HS :=
  (sfl (sfr (sfi S 6 t n) 13 t (some c0)) 9 t k)
set_option maxRecDepth 20000 in
set_option maxHeartbeats 2000000 in
theorem c_Table_init (l : Launch) (D : va_G) (AC : Nat → ClassId) (S : HS) (t : Nat) (n : Int32) (c0 : Nat) (k : Int64)  (k_t : kd S t = 7) (k_c0 : kd S c0 = 3) : CtV l yTable_init (Cond.code yTable_init cTable_init 5 none :: wT) 1 12 D AC S [.ref t, .int n, .ref c0, .long k] 0 0 (fun S' => S' = Table_init_S S t n c0 k) := by
  refine met_of (by decide) (Nat.le_of_ble_eq_true rfl) ?_
  intro p e s m below meth c ls hsz X hW hl
  obtain ⟨hx, hb, hml, hr, hlk, hown, hnm, hts⟩ := X
  have hl : lv_has ls 5 [(0, .ref t), (1, .int n), (2, .ref c0), (3, .long k)] := hl
  have mo : mono S S := mono.rf S
  refine lv_aload_n hx hb dTable_init_0 rfl (lv_at hl 0 rfl) ?_
  refine o_init OTable_3 hx hb hown hts hml hl.1 dTable_init_1 (Nat.le_of_ble_eq_true rfl) (Nat.le_of_ble_eq_true rfl) ?_
  refine lv_aload_n hx hb dTable_init_4 rfl (lv_at hl 0 rfl) ?_
  refine lv_iload_n hx hb dTable_init_5 rfl (lv_at hl 1 rfl) ?_
  refine p_i FTable_9 GTable_number (fun _ => ⟨hnm, rfl⟩) hx hb hts hown hW k_t rfl rfl dTable_init_6 (fun H locs hW => ?_)
  have mo := mo.tr (mono_sfi (k := 6) (a := t) (v := n))
  refine lv_aload_n hx hb dTable_init_9 rfl (lv_at hl 0 rfl) ?_
  refine lv_aload_n hx hb dTable_init_10 rfl (lv_at hl 2 rfl) ?_
  refine p_r FTable_15 GTable_counter ⟨rfl, rfl⟩ (fun _ => ⟨hnm, rfl⟩) hx hb hts hown hW k_t k_c0 dTable_init_11 (fun H locs hW => ?_)
  have mo := mo.tr (mono_sfr (k := 13) (a := t) (v := (some c0)))
  refine lv_aload_n hx hb dTable_init_14 rfl (lv_at hl 0 rfl) ?_
  refine lv_lload_n hx hb dTable_init_15 rfl (lv_at hl 3 rfl) ?_
  refine p_l FTable_19 GTable_length (fun _ => ⟨hnm, rfl⟩) hx hb hts hown hW k_t dTable_init_16 (fun H locs hW => ?_)
  have mo := mo.tr (mono_sfl (k := 9) (a := t) (v := k))
  exact e_v hsz hx hb hr hlk hW (mo) (Nat.le_of_ble_eq_true rfl) (Nat.le_of_ble_eq_true rfl) dTable_init_19 (rfl)

def runFrom_S (S : HS) (t : Nat) (d : Int64) : HS :=
  (sfl (sfi (sfi S 8 t (1 : Int32)) 9 t (0 : Int32)) 10 t d)
set_option maxRecDepth 20000 in
set_option maxHeartbeats 2000000 in
theorem c_runFrom (l : Launch) (D : va_G) (AC : Nat → ClassId) (S : HS) (t : Nat) (d : Int64)  (k_t : kd S t = 7) : CtV l yTable_runFrom (Cond.code yTable_runFrom cTable_runFrom 3 none :: wT) 0 0 D AC S [.ref t, .long d] 0 0 (fun S' => S' = runFrom_S S t d) := by
  refine met_of (by decide) (Nat.le_of_ble_eq_true rfl) ?_
  intro p e s m below meth c ls hsz X hW hl
  obtain ⟨hx, hb, hml, hr, hlk, hown, hnm, hts⟩ := X
  have hl : lv_has ls 3 [(0, .ref t), (1, .long d)] := hl
  have mo : mono S S := mono.rf S
  refine lv_aload_n hx hb dTable_runFrom_0 rfl (lv_at hl 0 rfl) ?_
  refine lv_iconst (v := (1 : Int32)) hx hb dTable_runFrom_1 (by decide) ?_
  refine p_i FTable_42 GTable_runs (fun h => by cases h) hx hb hts hown hW k_t rfl rfl dTable_runFrom_2 (fun H locs hW => ?_)
  have mo := mo.tr (mono_sfi (k := 8) (a := t) (v := (1 : Int32)))
  refine lv_aload_n hx hb dTable_runFrom_5 rfl (lv_at hl 0 rfl) ?_
  refine lv_iconst (v := (0 : Int32)) hx hb dTable_runFrom_6 (by decide) ?_
  refine p_i FTable_46 GTable_begun (fun h => by cases h) hx hb hts hown hW k_t rfl rfl dTable_runFrom_7 (fun H locs hW => ?_)
  have mo := mo.tr (mono_sfi (k := 9) (a := t) (v := (0 : Int32)))
  refine lv_aload_n hx hb dTable_runFrom_10 rfl (lv_at hl 0 rfl) ?_
  refine lv_lload_n hx hb dTable_runFrom_11 rfl (lv_at hl 1 rfl) ?_
  refine p_l FTable_49 GTable_due (fun h => by cases h) hx hb hts hown hW k_t dTable_runFrom_12 (fun H locs hW => ?_)
  have mo := mo.tr (mono_sfl (k := 10) (a := t) (v := d))
  exact e_v hsz hx hb hr hlk hW (mo) (Nat.le_of_ble_eq_true rfl) (Nat.le_of_ble_eq_true rfl) dTable_runFrom_15 (rfl)

theorem nn_runFrom {S : HS} {t : Nat} {d : Int64} (h : nn S) : nn (runFrom_S S t d) := h

def goOn_S (S : HS) (t : Nat) (fm : Int64) (to_ : Option Nat) : HS :=
  opc to_ (if (0 : Int64) < ((fl S 9 t) - fm) then
      (wakeAt_S (sfl (sfl (sfl (sfr S 15 t to_) 10 t (fl S 6 (gd (fr S 13 t)))) 11 t ((fl S 11 t) - (if ((1 : Int64) - ((fl S 9 t) - fm)) < (if (-2 : Int64) < (if (2 : Int64) < (fl S 11 t) then (2 : Int64) else (fl S 11 t)) then (if (2 : Int64) < (fl S 11 t) then (2 : Int64) else (fl S 11 t)) else (-2 : Int64)) then (if (-2 : Int64) < (if (2 : Int64) < (fl S 11 t) then (2 : Int64) else (fl S 11 t)) then (if (2 : Int64) < (fl S 11 t) then (2 : Int64) else (fl S 11 t)) else (-2 : Int64)) else ((1 : Int64) - ((fl S 9 t) - fm))))) 10 t ((fl S 6 (gd (fr S 13 t))) + (((fl S 9 t) - fm) + (if ((1 : Int64) - ((fl S 9 t) - fm)) < (if (-2 : Int64) < (if (2 : Int64) < (fl S 11 t) then (2 : Int64) else (fl S 11 t)) then (if (2 : Int64) < (fl S 11 t) then (2 : Int64) else (fl S 11 t)) else (-2 : Int64)) then (if (-2 : Int64) < (if (2 : Int64) < (fl S 11 t) then (2 : Int64) else (fl S 11 t)) then (if (2 : Int64) < (fl S 11 t) then (2 : Int64) else (fl S 11 t)) else (-2 : Int64)) else ((1 : Int64) - ((fl S 9 t) - fm)))))) (gd (fr S 13 t)) ((fl S 6 (gd (fr S 13 t))) + (((fl S 9 t) - fm) + (if ((1 : Int64) - ((fl S 9 t) - fm)) < (if (-2 : Int64) < (if (2 : Int64) < (fl S 11 t) then (2 : Int64) else (fl S 11 t)) then (if (2 : Int64) < (fl S 11 t) then (2 : Int64) else (fl S 11 t)) else (-2 : Int64)) then (if (-2 : Int64) < (if (2 : Int64) < (fl S 11 t) then (2 : Int64) else (fl S 11 t)) then (if (2 : Int64) < (fl S 11 t) then (2 : Int64) else (fl S 11 t)) else (-2 : Int64)) else ((1 : Int64) - ((fl S 9 t) - fm))))))
    else
      (sfl (sfr S 15 t to_) 10 t (fl S 6 (gd (fr S 13 t)))))
  (fun b_2 => if (0 : Int64) < ((fl S 8 b_2) - fm) then
      (wakeAt_S (sfl (sfl (sfl (sfr S 15 t to_) 10 t (fl S 6 (gd (fr S 13 t)))) 11 t ((fl S 11 t) - (if ((1 : Int64) - ((fl S 8 b_2) - fm)) < (if (-2 : Int64) < (if (2 : Int64) < (fl S 11 t) then (2 : Int64) else (fl S 11 t)) then (if (2 : Int64) < (fl S 11 t) then (2 : Int64) else (fl S 11 t)) else (-2 : Int64)) then (if (-2 : Int64) < (if (2 : Int64) < (fl S 11 t) then (2 : Int64) else (fl S 11 t)) then (if (2 : Int64) < (fl S 11 t) then (2 : Int64) else (fl S 11 t)) else (-2 : Int64)) else ((1 : Int64) - ((fl S 8 b_2) - fm))))) 10 t ((fl S 6 (gd (fr S 13 t))) + (((fl S 8 b_2) - fm) + (if ((1 : Int64) - ((fl S 8 b_2) - fm)) < (if (-2 : Int64) < (if (2 : Int64) < (fl S 11 t) then (2 : Int64) else (fl S 11 t)) then (if (2 : Int64) < (fl S 11 t) then (2 : Int64) else (fl S 11 t)) else (-2 : Int64)) then (if (-2 : Int64) < (if (2 : Int64) < (fl S 11 t) then (2 : Int64) else (fl S 11 t)) then (if (2 : Int64) < (fl S 11 t) then (2 : Int64) else (fl S 11 t)) else (-2 : Int64)) else ((1 : Int64) - ((fl S 8 b_2) - fm)))))) (gd (fr S 13 t)) ((fl S 6 (gd (fr S 13 t))) + (((fl S 8 b_2) - fm) + (if ((1 : Int64) - ((fl S 8 b_2) - fm)) < (if (-2 : Int64) < (if (2 : Int64) < (fl S 11 t) then (2 : Int64) else (fl S 11 t)) then (if (2 : Int64) < (fl S 11 t) then (2 : Int64) else (fl S 11 t)) else (-2 : Int64)) then (if (-2 : Int64) < (if (2 : Int64) < (fl S 11 t) then (2 : Int64) else (fl S 11 t)) then (if (2 : Int64) < (fl S 11 t) then (2 : Int64) else (fl S 11 t)) else (-2 : Int64)) else ((1 : Int64) - ((fl S 8 b_2) - fm))))))
    else
      (sfl (sfr S 15 t to_) 10 t (fl S 6 (gd (fr S 13 t)))))
set_option maxRecDepth 20000 in
set_option maxHeartbeats 2000000 in
theorem c_goOn (l : Launch) (D : va_G) (AC : Nat → ClassId) (S : HS) (t : Nat) (fm : Int64) (to_ : Option Nat)  (k_t : kd S t = 7) (kq_to_ : ∀ b, to_ = some b → kd S b = 6) (hn : nn S) : CtV l yTable_goOn (Cond.code yTable_goOn cTable_goOn 8 none :: wT) 2 60 D AC S [.ref t, .long fm, va_rf to_] 0 0 (fun S' => S' = goOn_S S t fm to_) := by
  refine met_of (by decide) (by simp [lg_sl, q_cat, cat_r, cat_i, cat_l]) ?_
  intro p e s m below meth c ls hsz X hW hl
  obtain ⟨hx, hb, hml, hr, hlk, hown, hnm, hts⟩ := X
  have hl : lv_has ls 8 [(0, .ref t), (1, .long fm), (3, va_rf to_)] := by simpa [lv_args, q_cat, cat_r, cat_i, cat_l] using hl
  have mo : mono S S := mono.rf S
  refine lv_aload_n hx hb dTable_goOn_0 rfl (lv_at hl 0 rfl) ?_
  refine q_aload_n hx hb dTable_goOn_1 rfl (lv_at hl 2 rfl) ?_
  refine p_q FTable_52 GTable_coming ⟨fun _ => rfl, fun _ => rfl, rfl, rfl⟩ (fun h => by cases h) hx hb hts hown hW k_t kq_to_ dTable_goOn_2 (fun H locs hW => ?_)
  have mo := mo.tr (mono_sfr (k := 15) (a := t) (v := to_))
  have nnp_1 : nn (sfr S 15 t to_) := nn_sfr hn (Or.inl rfl)
  refine q_aload_n hx hb dTable_goOn_5 rfl (lv_at hl 2 rfl) ?_
  refine q_ifnonnull (tgt := 16) hx hb dTable_goOn_6 (by decide) (fun n_2 => ?_) (fun b_2 n_2 => ?_)
  · refine lv_aload_n hx hb dTable_goOn_9 rfl (lv_at hl 0 rfl) ?_
    refine g_l FTable_19 hx hb hts hown hW k_t dTable_goOn_10 ?_
    rw [show fl (sfr S 15 t to_) 9 t = fl S 9 t from rfl]
    refine lv_goto (tgt := 20) hx hb dTable_goOn_13 (by decide) ?_
    refine lv_lload_n hx hb dTable_goOn_20 rfl (lv_at hl 1 rfl) ?_
    refine lv_lsub hx hb dTable_goOn_21 ?_
    refine lv_lstore (lv' := [(4, .long ((fl S 9 t) - fm)), (0, .ref t), (1, .long fm), (3, va_rf to_)]) hx hb dTable_goOn_22 hl (by decide) (by simp [q_cat, cat_r, cat_i, cat_l, cat_n]) (fun ls hl => ?_)
    refine lv_aload_n hx hb dTable_goOn_24 rfl (lv_at hl 1 rfl) ?_
    refine lv_aload_n hx hb dTable_goOn_25 rfl (lv_at hl 1 rfl) ?_
    have kq_3 : ∀ b, fr S 13 t = some b → kd (sfr S 15 t to_) b = 3 := fun b h => hW.ok.2.1 13 t b k_t h
    refine g_q FTable_15 hx hb hts hown hW k_t dTable_goOn_26 ?_
    rw [show fr (sfr S 15 t to_) 13 t = fr S 13 t from rfl]
    have n_4 : fr S 13 t = some (gd (fr S 13 t)) := gd_some (hn 13 t rfl k_t)
    have kb_5 : kd (sfr S 15 t to_) (gd (fr S 13 t)) = 3 := kq_3 (gd (fr S 13 t)) n_4
    refine q_some n_4 ?_
    refine g_l FTable_55 hx hb hts hown hW kb_5 dTable_goOn_29 ?_
    rw [show fl (sfr S 15 t to_) 6 (gd (fr S 13 t)) = fl S 6 (gd (fr S 13 t)) from rfl]
    refine p_l FTable_49 GTable_due (fun h => by cases h) hx hb hts hown hW k_t dTable_goOn_32 (fun H locs hW => ?_)
    have mo := mo.tr (mono_sfl (k := 10) (a := t) (v := (fl S 6 (gd (fr S 13 t)))))
    have nnp_6 : nn (sfl (sfr S 15 t to_) 10 t (fl S 6 (gd (fr S 13 t)))) := nn_sfl nnp_1
    refine lv_lload hx hb dTable_goOn_35 (lv_at hl 0 rfl) ?_
    refine lv_lconst (v := (0 : Int64)) hx hb dTable_goOn_37 (by decide) ?_
    refine ll_le (tgt := 107) hx hb dTable_goOn_38 dTable_goOn_39 (by decide) (fun c_7 => ?_) (fun c_7 => ?_)
    · exact e_v hsz hx hb hr hlk hW (mo) (Nat.le_of_ble_eq_true rfl) (Nat.le_of_ble_eq_true rfl) dTable_goOn_107 ((by refine Eq.symm ?_; refine (op_none n_2).trans ?_; refine (if_neg c_7).trans ?_; rfl))
    · refine lv_aload_n hx hb dTable_goOn_42 rfl (lv_at hl 1 rfl) ?_
      refine g_l FTable_60 hx hb hts hown hW k_t dTable_goOn_43 ?_
      rw [show fl (sfl (sfr S 15 t to_) 10 t (fl S 6 (gd (fr S 13 t)))) 11 t = fl S 11 t from rfl]
      refine lv_ldc2 (v := (2 : Int64)) hx hb hown (hts _ QTable_63) dTable_goOn_46 ?_
      refine va_mmin_long hx hb (by rw [hml]; exact hl.1.symm) hown (hts _ MTable_65.1) (hts _ MTable_65.2.1) (hts _ MTable_65.2.2.1) (hts _ MTable_65.2.2.2) (Nat.le_of_ble_eq_true rfl) (Nat.le_of_ble_eq_true rfl) (Nat.le_of_ble_eq_true rfl) (Nat.le_of_ble_eq_true rfl) dTable_goOn_49 ?_
      refine lv_ldc2 (v := (-2 : Int64)) hx hb hown (hts _ QTable_71) dTable_goOn_52 ?_
      refine va_mmax_long hx hb (by rw [hml]; exact hl.1.symm) hown (hts _ MTable_73.1) (hts _ MTable_73.2.1) (hts _ MTable_73.2.2.1) (hts _ MTable_73.2.2.2) (Nat.le_of_ble_eq_true rfl) (Nat.le_of_ble_eq_true rfl) (Nat.le_of_ble_eq_true rfl) (Nat.le_of_ble_eq_true rfl) dTable_goOn_55 ?_
      refine lv_lstore (lv' := [(6, .long (if (-2 : Int64) < (if (2 : Int64) < (fl S 11 t) then (2 : Int64) else (fl S 11 t)) then (if (2 : Int64) < (fl S 11 t) then (2 : Int64) else (fl S 11 t)) else (-2 : Int64))), (4, .long ((fl S 9 t) - fm)), (0, .ref t), (1, .long fm), (3, va_rf to_)]) hx hb dTable_goOn_58 hl (by decide) rfl (fun ls hl => ?_)
      refine lv_lload hx hb dTable_goOn_60 (lv_at hl 0 rfl) ?_
      refine lv_lconst (v := (1 : Int64)) hx hb dTable_goOn_62 (by decide) ?_
      refine lv_lload hx hb dTable_goOn_63 (lv_at hl 1 rfl) ?_
      refine lv_lsub hx hb dTable_goOn_65 ?_
      refine va_mmax_long hx hb (by rw [hml]; exact hl.1.symm) hown (hts _ MTable_73.1) (hts _ MTable_73.2.1) (hts _ MTable_73.2.2.1) (hts _ MTable_73.2.2.2) (Nat.le_of_ble_eq_true rfl) (Nat.le_of_ble_eq_true rfl) (Nat.le_of_ble_eq_true rfl) (Nat.le_of_ble_eq_true rfl) dTable_goOn_66 ?_
      refine lv_lstore (lv' := [(6, .long (if ((1 : Int64) - ((fl S 9 t) - fm)) < (if (-2 : Int64) < (if (2 : Int64) < (fl S 11 t) then (2 : Int64) else (fl S 11 t)) then (if (2 : Int64) < (fl S 11 t) then (2 : Int64) else (fl S 11 t)) else (-2 : Int64)) then (if (-2 : Int64) < (if (2 : Int64) < (fl S 11 t) then (2 : Int64) else (fl S 11 t)) then (if (2 : Int64) < (fl S 11 t) then (2 : Int64) else (fl S 11 t)) else (-2 : Int64)) else ((1 : Int64) - ((fl S 9 t) - fm)))), (4, .long ((fl S 9 t) - fm)), (0, .ref t), (1, .long fm), (3, va_rf to_)]) hx hb dTable_goOn_69 hl (by decide) rfl (fun ls hl => ?_)
      refine lv_aload_n hx hb dTable_goOn_71 rfl (lv_at hl 2 rfl) ?_
      refine lv_dup hx hb dTable_goOn_72 rfl ?_
      refine g_l FTable_60 hx hb hts hown hW k_t dTable_goOn_73 ?_
      rw [show fl (sfl (sfr S 15 t to_) 10 t (fl S 6 (gd (fr S 13 t)))) 11 t = fl S 11 t from rfl]
      refine lv_lload hx hb dTable_goOn_76 (lv_at hl 0 rfl) ?_
      refine lv_lsub hx hb dTable_goOn_78 ?_
      refine p_l FTable_60 GTable_drift (fun h => by cases h) hx hb hts hown hW k_t dTable_goOn_79 (fun H locs hW => ?_)
      have mo := mo.tr (mono_sfl (k := 11) (a := t) (v := ((fl S 11 t) - (if ((1 : Int64) - ((fl S 9 t) - fm)) < (if (-2 : Int64) < (if (2 : Int64) < (fl S 11 t) then (2 : Int64) else (fl S 11 t)) then (if (2 : Int64) < (fl S 11 t) then (2 : Int64) else (fl S 11 t)) else (-2 : Int64)) then (if (-2 : Int64) < (if (2 : Int64) < (fl S 11 t) then (2 : Int64) else (fl S 11 t)) then (if (2 : Int64) < (fl S 11 t) then (2 : Int64) else (fl S 11 t)) else (-2 : Int64)) else ((1 : Int64) - ((fl S 9 t) - fm))))))
      have nnp_8 : nn (sfl (sfl (sfr S 15 t to_) 10 t (fl S 6 (gd (fr S 13 t)))) 11 t ((fl S 11 t) - (if ((1 : Int64) - ((fl S 9 t) - fm)) < (if (-2 : Int64) < (if (2 : Int64) < (fl S 11 t) then (2 : Int64) else (fl S 11 t)) then (if (2 : Int64) < (fl S 11 t) then (2 : Int64) else (fl S 11 t)) else (-2 : Int64)) then (if (-2 : Int64) < (if (2 : Int64) < (fl S 11 t) then (2 : Int64) else (fl S 11 t)) then (if (2 : Int64) < (fl S 11 t) then (2 : Int64) else (fl S 11 t)) else (-2 : Int64)) else ((1 : Int64) - ((fl S 9 t) - fm))))) := nn_sfl nnp_6
      refine lv_aload_n hx hb dTable_goOn_82 rfl (lv_at hl 2 rfl) ?_
      refine lv_dup hx hb dTable_goOn_83 rfl ?_
      refine g_l FTable_49 hx hb hts hown hW k_t dTable_goOn_84 ?_
      rw [show fl (sfl (sfl (sfr S 15 t to_) 10 t (fl S 6 (gd (fr S 13 t)))) 11 t ((fl S 11 t) - (if ((1 : Int64) - ((fl S 9 t) - fm)) < (if (-2 : Int64) < (if (2 : Int64) < (fl S 11 t) then (2 : Int64) else (fl S 11 t)) then (if (2 : Int64) < (fl S 11 t) then (2 : Int64) else (fl S 11 t)) else (-2 : Int64)) then (if (-2 : Int64) < (if (2 : Int64) < (fl S 11 t) then (2 : Int64) else (fl S 11 t)) then (if (2 : Int64) < (fl S 11 t) then (2 : Int64) else (fl S 11 t)) else (-2 : Int64)) else ((1 : Int64) - ((fl S 9 t) - fm))))) 10 t = fl S 6 (gd (fr S 13 t)) from up2_self _ _ _ _]
      refine lv_lload hx hb dTable_goOn_87 (lv_at hl 1 rfl) ?_
      refine lv_lload hx hb dTable_goOn_89 (lv_at hl 0 rfl) ?_
      refine lv_ladd hx hb dTable_goOn_91 ?_
      refine lv_ladd hx hb dTable_goOn_92 ?_
      refine p_l FTable_49 GTable_due (fun h => by cases h) hx hb hts hown hW k_t dTable_goOn_93 (fun H locs hW => ?_)
      have mo := mo.tr (mono_sfl (k := 10) (a := t) (v := ((fl S 6 (gd (fr S 13 t))) + (((fl S 9 t) - fm) + (if ((1 : Int64) - ((fl S 9 t) - fm)) < (if (-2 : Int64) < (if (2 : Int64) < (fl S 11 t) then (2 : Int64) else (fl S 11 t)) then (if (2 : Int64) < (fl S 11 t) then (2 : Int64) else (fl S 11 t)) else (-2 : Int64)) then (if (-2 : Int64) < (if (2 : Int64) < (fl S 11 t) then (2 : Int64) else (fl S 11 t)) then (if (2 : Int64) < (fl S 11 t) then (2 : Int64) else (fl S 11 t)) else (-2 : Int64)) else ((1 : Int64) - ((fl S 9 t) - fm)))))))
      have nnp_9 : nn (sfl (sfl (sfl (sfr S 15 t to_) 10 t (fl S 6 (gd (fr S 13 t)))) 11 t ((fl S 11 t) - (if ((1 : Int64) - ((fl S 9 t) - fm)) < (if (-2 : Int64) < (if (2 : Int64) < (fl S 11 t) then (2 : Int64) else (fl S 11 t)) then (if (2 : Int64) < (fl S 11 t) then (2 : Int64) else (fl S 11 t)) else (-2 : Int64)) then (if (-2 : Int64) < (if (2 : Int64) < (fl S 11 t) then (2 : Int64) else (fl S 11 t)) then (if (2 : Int64) < (fl S 11 t) then (2 : Int64) else (fl S 11 t)) else (-2 : Int64)) else ((1 : Int64) - ((fl S 9 t) - fm))))) 10 t ((fl S 6 (gd (fr S 13 t))) + (((fl S 9 t) - fm) + (if ((1 : Int64) - ((fl S 9 t) - fm)) < (if (-2 : Int64) < (if (2 : Int64) < (fl S 11 t) then (2 : Int64) else (fl S 11 t)) then (if (2 : Int64) < (fl S 11 t) then (2 : Int64) else (fl S 11 t)) else (-2 : Int64)) then (if (-2 : Int64) < (if (2 : Int64) < (fl S 11 t) then (2 : Int64) else (fl S 11 t)) then (if (2 : Int64) < (fl S 11 t) then (2 : Int64) else (fl S 11 t)) else (-2 : Int64)) else ((1 : Int64) - ((fl S 9 t) - fm)))))) := nn_sfl nnp_8
      refine lv_aload_n hx hb dTable_goOn_96 rfl (lv_at hl 2 rfl) ?_
      refine g_q FTable_15 hx hb hts hown hW k_t dTable_goOn_97 ?_
      rw [show fr (sfl (sfl (sfl (sfr S 15 t to_) 10 t (fl S 6 (gd (fr S 13 t)))) 11 t ((fl S 11 t) - (if ((1 : Int64) - ((fl S 9 t) - fm)) < (if (-2 : Int64) < (if (2 : Int64) < (fl S 11 t) then (2 : Int64) else (fl S 11 t)) then (if (2 : Int64) < (fl S 11 t) then (2 : Int64) else (fl S 11 t)) else (-2 : Int64)) then (if (-2 : Int64) < (if (2 : Int64) < (fl S 11 t) then (2 : Int64) else (fl S 11 t)) then (if (2 : Int64) < (fl S 11 t) then (2 : Int64) else (fl S 11 t)) else (-2 : Int64)) else ((1 : Int64) - ((fl S 9 t) - fm))))) 10 t ((fl S 6 (gd (fr S 13 t))) + (((fl S 9 t) - fm) + (if ((1 : Int64) - ((fl S 9 t) - fm)) < (if (-2 : Int64) < (if (2 : Int64) < (fl S 11 t) then (2 : Int64) else (fl S 11 t)) then (if (2 : Int64) < (fl S 11 t) then (2 : Int64) else (fl S 11 t)) else (-2 : Int64)) then (if (-2 : Int64) < (if (2 : Int64) < (fl S 11 t) then (2 : Int64) else (fl S 11 t)) then (if (2 : Int64) < (fl S 11 t) then (2 : Int64) else (fl S 11 t)) else (-2 : Int64)) else ((1 : Int64) - ((fl S 9 t) - fm)))))) 13 t = fr S 13 t from rfl]
      refine lv_aload_n hx hb dTable_goOn_100 rfl (lv_at hl 2 rfl) ?_
      refine g_l FTable_49 hx hb hts hown hW k_t dTable_goOn_101 ?_
      rw [show fl (sfl (sfl (sfl (sfr S 15 t to_) 10 t (fl S 6 (gd (fr S 13 t)))) 11 t ((fl S 11 t) - (if ((1 : Int64) - ((fl S 9 t) - fm)) < (if (-2 : Int64) < (if (2 : Int64) < (fl S 11 t) then (2 : Int64) else (fl S 11 t)) then (if (2 : Int64) < (fl S 11 t) then (2 : Int64) else (fl S 11 t)) else (-2 : Int64)) then (if (-2 : Int64) < (if (2 : Int64) < (fl S 11 t) then (2 : Int64) else (fl S 11 t)) then (if (2 : Int64) < (fl S 11 t) then (2 : Int64) else (fl S 11 t)) else (-2 : Int64)) else ((1 : Int64) - ((fl S 9 t) - fm))))) 10 t ((fl S 6 (gd (fr S 13 t))) + (((fl S 9 t) - fm) + (if ((1 : Int64) - ((fl S 9 t) - fm)) < (if (-2 : Int64) < (if (2 : Int64) < (fl S 11 t) then (2 : Int64) else (fl S 11 t)) then (if (2 : Int64) < (fl S 11 t) then (2 : Int64) else (fl S 11 t)) else (-2 : Int64)) then (if (-2 : Int64) < (if (2 : Int64) < (fl S 11 t) then (2 : Int64) else (fl S 11 t)) then (if (2 : Int64) < (fl S 11 t) then (2 : Int64) else (fl S 11 t)) else (-2 : Int64)) else ((1 : Int64) - ((fl S 9 t) - fm)))))) 10 t = ((fl S 6 (gd (fr S 13 t))) + (((fl S 9 t) - fm) + (if ((1 : Int64) - ((fl S 9 t) - fm)) < (if (-2 : Int64) < (if (2 : Int64) < (fl S 11 t) then (2 : Int64) else (fl S 11 t)) then (if (2 : Int64) < (fl S 11 t) then (2 : Int64) else (fl S 11 t)) else (-2 : Int64)) then (if (-2 : Int64) < (if (2 : Int64) < (fl S 11 t) then (2 : Int64) else (fl S 11 t)) then (if (2 : Int64) < (fl S 11 t) then (2 : Int64) else (fl S 11 t)) else (-2 : Int64)) else ((1 : Int64) - ((fl S 9 t) - fm))))) from up2_self _ _ _ _]
      refine q_some1 n_4 ?_
      refine k_Vv (As := [.long ((fl S 6 (gd (fr S 13 t))) + (((fl S 9 t) - fm) + (if ((1 : Int64) - ((fl S 9 t) - fm)) < (if (-2 : Int64) < (if (2 : Int64) < (fl S 11 t) then (2 : Int64) else (fl S 11 t)) then (if (2 : Int64) < (fl S 11 t) then (2 : Int64) else (fl S 11 t)) else (-2 : Int64)) then (if (-2 : Int64) < (if (2 : Int64) < (fl S 11 t) then (2 : Int64) else (fl S 11 t)) then (if (2 : Int64) < (fl S 11 t) then (2 : Int64) else (fl S 11 t)) else (-2 : Int64)) else ((1 : Int64) - ((fl S 9 t) - fm)))))]) (rest := []) (c_wakeAt l D AC (sfl (sfl (sfl (sfr S 15 t to_) 10 t (fl S 6 (gd (fr S 13 t)))) 11 t ((fl S 11 t) - (if ((1 : Int64) - ((fl S 9 t) - fm)) < (if (-2 : Int64) < (if (2 : Int64) < (fl S 11 t) then (2 : Int64) else (fl S 11 t)) then (if (2 : Int64) < (fl S 11 t) then (2 : Int64) else (fl S 11 t)) else (-2 : Int64)) then (if (-2 : Int64) < (if (2 : Int64) < (fl S 11 t) then (2 : Int64) else (fl S 11 t)) then (if (2 : Int64) < (fl S 11 t) then (2 : Int64) else (fl S 11 t)) else (-2 : Int64)) else ((1 : Int64) - ((fl S 9 t) - fm))))) 10 t ((fl S 6 (gd (fr S 13 t))) + (((fl S 9 t) - fm) + (if ((1 : Int64) - ((fl S 9 t) - fm)) < (if (-2 : Int64) < (if (2 : Int64) < (fl S 11 t) then (2 : Int64) else (fl S 11 t)) then (if (2 : Int64) < (fl S 11 t) then (2 : Int64) else (fl S 11 t)) else (-2 : Int64)) then (if (-2 : Int64) < (if (2 : Int64) < (fl S 11 t) then (2 : Int64) else (fl S 11 t)) then (if (2 : Int64) < (fl S 11 t) then (2 : Int64) else (fl S 11 t)) else (-2 : Int64)) else ((1 : Int64) - ((fl S 9 t) - fm)))))) (gd (fr S 13 t)) ((fl S 6 (gd (fr S 13 t))) + (((fl S 9 t) - fm) + (if ((1 : Int64) - ((fl S 9 t) - fm)) < (if (-2 : Int64) < (if (2 : Int64) < (fl S 11 t) then (2 : Int64) else (fl S 11 t)) then (if (2 : Int64) < (fl S 11 t) then (2 : Int64) else (fl S 11 t)) else (-2 : Int64)) then (if (-2 : Int64) < (if (2 : Int64) < (fl S 11 t) then (2 : Int64) else (fl S 11 t)) then (if (2 : Int64) < (fl S 11 t) then (2 : Int64) else (fl S 11 t)) else (-2 : Int64)) else ((1 : Int64) - ((fl S 9 t) - fm))))) kb_5) CTable_76 ⟨by decide, by decide, _, rfl, rfl⟩ hx hb hml hown hts hW kb_5 hl.1 rfl rfl (Nat.le_of_ble_eq_true rfl) ⟨⟨Nat.le_of_ble_eq_true rfl, Nat.le_of_ble_eq_true rfl⟩, ⟨Nat.le_of_ble_eq_true rfl, Nat.le_of_ble_eq_true rfl⟩⟩ dTable_goOn_104 (fun S_10 H locs e_10 hW m_10 _ => ?_)
      rw [e_10] at hW m_10
      have k_t := m_10.k k_t (by decide)
      have kb_5 := m_10.k kb_5 (by decide)
      have kq_to_ := fun b h => m_10.k (kq_to_ b h) (by decide)
      have kq_3 := fun b h => m_10.k (kq_3 b h) (by decide)
      have mo := mo.tr m_10
      have nnp_11 : nn (wakeAt_S (sfl (sfl (sfl (sfr S 15 t to_) 10 t (fl S 6 (gd (fr S 13 t)))) 11 t ((fl S 11 t) - (if ((1 : Int64) - ((fl S 9 t) - fm)) < (if (-2 : Int64) < (if (2 : Int64) < (fl S 11 t) then (2 : Int64) else (fl S 11 t)) then (if (2 : Int64) < (fl S 11 t) then (2 : Int64) else (fl S 11 t)) else (-2 : Int64)) then (if (-2 : Int64) < (if (2 : Int64) < (fl S 11 t) then (2 : Int64) else (fl S 11 t)) then (if (2 : Int64) < (fl S 11 t) then (2 : Int64) else (fl S 11 t)) else (-2 : Int64)) else ((1 : Int64) - ((fl S 9 t) - fm))))) 10 t ((fl S 6 (gd (fr S 13 t))) + (((fl S 9 t) - fm) + (if ((1 : Int64) - ((fl S 9 t) - fm)) < (if (-2 : Int64) < (if (2 : Int64) < (fl S 11 t) then (2 : Int64) else (fl S 11 t)) then (if (2 : Int64) < (fl S 11 t) then (2 : Int64) else (fl S 11 t)) else (-2 : Int64)) then (if (-2 : Int64) < (if (2 : Int64) < (fl S 11 t) then (2 : Int64) else (fl S 11 t)) then (if (2 : Int64) < (fl S 11 t) then (2 : Int64) else (fl S 11 t)) else (-2 : Int64)) else ((1 : Int64) - ((fl S 9 t) - fm)))))) (gd (fr S 13 t)) ((fl S 6 (gd (fr S 13 t))) + (((fl S 9 t) - fm) + (if ((1 : Int64) - ((fl S 9 t) - fm)) < (if (-2 : Int64) < (if (2 : Int64) < (fl S 11 t) then (2 : Int64) else (fl S 11 t)) then (if (2 : Int64) < (fl S 11 t) then (2 : Int64) else (fl S 11 t)) else (-2 : Int64)) then (if (-2 : Int64) < (if (2 : Int64) < (fl S 11 t) then (2 : Int64) else (fl S 11 t)) then (if (2 : Int64) < (fl S 11 t) then (2 : Int64) else (fl S 11 t)) else (-2 : Int64)) else ((1 : Int64) - ((fl S 9 t) - fm)))))) := nn_wakeAt nnp_9
      exact e_v hsz hx hb hr hlk hW (mo) (Nat.le_of_ble_eq_true rfl) (Nat.le_of_ble_eq_true rfl) dTable_goOn_107 ((by refine Eq.symm ?_; refine (op_none n_2).trans ?_; refine (if_pos c_7).trans ?_; rfl))
  · have k_b_2 : kd (sfr S 15 t to_) b_2 = 6 := kq_to_ b_2 n_2
    refine q_aload_n hx hb dTable_goOn_16 rfl (lv_at hl 2 rfl) ?_
    refine q_some n_2 ?_
    refine g_l FTable_27 hx hb hts hown hW k_b_2 dTable_goOn_17 ?_
    rw [show fl (sfr S 15 t to_) 8 b_2 = fl S 8 b_2 from rfl]
    refine lv_lload_n hx hb dTable_goOn_20 rfl (lv_at hl 1 rfl) ?_
    refine lv_lsub hx hb dTable_goOn_21 ?_
    refine lv_lstore (lv' := [(4, .long ((fl S 8 b_2) - fm)), (0, .ref t), (1, .long fm), (3, va_rf to_)]) hx hb dTable_goOn_22 hl (by decide) (by simp [q_cat, cat_r, cat_i, cat_l, cat_n]) (fun ls hl => ?_)
    refine lv_aload_n hx hb dTable_goOn_24 rfl (lv_at hl 1 rfl) ?_
    refine lv_aload_n hx hb dTable_goOn_25 rfl (lv_at hl 1 rfl) ?_
    have kq_12 : ∀ b, fr S 13 t = some b → kd (sfr S 15 t to_) b = 3 := fun b h => hW.ok.2.1 13 t b k_t h
    refine g_q FTable_15 hx hb hts hown hW k_t dTable_goOn_26 ?_
    rw [show fr (sfr S 15 t to_) 13 t = fr S 13 t from rfl]
    have n_13 : fr S 13 t = some (gd (fr S 13 t)) := gd_some (hn 13 t rfl k_t)
    have kb_14 : kd (sfr S 15 t to_) (gd (fr S 13 t)) = 3 := kq_12 (gd (fr S 13 t)) n_13
    refine q_some n_13 ?_
    refine g_l FTable_55 hx hb hts hown hW kb_14 dTable_goOn_29 ?_
    rw [show fl (sfr S 15 t to_) 6 (gd (fr S 13 t)) = fl S 6 (gd (fr S 13 t)) from rfl]
    refine p_l FTable_49 GTable_due (fun h => by cases h) hx hb hts hown hW k_t dTable_goOn_32 (fun H locs hW => ?_)
    have mo := mo.tr (mono_sfl (k := 10) (a := t) (v := (fl S 6 (gd (fr S 13 t)))))
    have nnp_15 : nn (sfl (sfr S 15 t to_) 10 t (fl S 6 (gd (fr S 13 t)))) := nn_sfl nnp_1
    refine lv_lload hx hb dTable_goOn_35 (lv_at hl 0 rfl) ?_
    refine lv_lconst (v := (0 : Int64)) hx hb dTable_goOn_37 (by decide) ?_
    refine ll_le (tgt := 107) hx hb dTable_goOn_38 dTable_goOn_39 (by decide) (fun c_16 => ?_) (fun c_16 => ?_)
    · exact e_v hsz hx hb hr hlk hW (mo) (Nat.le_of_ble_eq_true rfl) (Nat.le_of_ble_eq_true rfl) dTable_goOn_107 ((by refine Eq.symm ?_; refine (op_some n_2).trans ?_; refine (if_neg c_16).trans ?_; rfl))
    · refine lv_aload_n hx hb dTable_goOn_42 rfl (lv_at hl 1 rfl) ?_
      refine g_l FTable_60 hx hb hts hown hW k_t dTable_goOn_43 ?_
      rw [show fl (sfl (sfr S 15 t to_) 10 t (fl S 6 (gd (fr S 13 t)))) 11 t = fl S 11 t from rfl]
      refine lv_ldc2 (v := (2 : Int64)) hx hb hown (hts _ QTable_63) dTable_goOn_46 ?_
      refine va_mmin_long hx hb (by rw [hml]; exact hl.1.symm) hown (hts _ MTable_65.1) (hts _ MTable_65.2.1) (hts _ MTable_65.2.2.1) (hts _ MTable_65.2.2.2) (Nat.le_of_ble_eq_true rfl) (Nat.le_of_ble_eq_true rfl) (Nat.le_of_ble_eq_true rfl) (Nat.le_of_ble_eq_true rfl) dTable_goOn_49 ?_
      refine lv_ldc2 (v := (-2 : Int64)) hx hb hown (hts _ QTable_71) dTable_goOn_52 ?_
      refine va_mmax_long hx hb (by rw [hml]; exact hl.1.symm) hown (hts _ MTable_73.1) (hts _ MTable_73.2.1) (hts _ MTable_73.2.2.1) (hts _ MTable_73.2.2.2) (Nat.le_of_ble_eq_true rfl) (Nat.le_of_ble_eq_true rfl) (Nat.le_of_ble_eq_true rfl) (Nat.le_of_ble_eq_true rfl) dTable_goOn_55 ?_
      refine lv_lstore (lv' := [(6, .long (if (-2 : Int64) < (if (2 : Int64) < (fl S 11 t) then (2 : Int64) else (fl S 11 t)) then (if (2 : Int64) < (fl S 11 t) then (2 : Int64) else (fl S 11 t)) else (-2 : Int64))), (4, .long ((fl S 8 b_2) - fm)), (0, .ref t), (1, .long fm), (3, va_rf to_)]) hx hb dTable_goOn_58 hl (by decide) rfl (fun ls hl => ?_)
      refine lv_lload hx hb dTable_goOn_60 (lv_at hl 0 rfl) ?_
      refine lv_lconst (v := (1 : Int64)) hx hb dTable_goOn_62 (by decide) ?_
      refine lv_lload hx hb dTable_goOn_63 (lv_at hl 1 rfl) ?_
      refine lv_lsub hx hb dTable_goOn_65 ?_
      refine va_mmax_long hx hb (by rw [hml]; exact hl.1.symm) hown (hts _ MTable_73.1) (hts _ MTable_73.2.1) (hts _ MTable_73.2.2.1) (hts _ MTable_73.2.2.2) (Nat.le_of_ble_eq_true rfl) (Nat.le_of_ble_eq_true rfl) (Nat.le_of_ble_eq_true rfl) (Nat.le_of_ble_eq_true rfl) dTable_goOn_66 ?_
      refine lv_lstore (lv' := [(6, .long (if ((1 : Int64) - ((fl S 8 b_2) - fm)) < (if (-2 : Int64) < (if (2 : Int64) < (fl S 11 t) then (2 : Int64) else (fl S 11 t)) then (if (2 : Int64) < (fl S 11 t) then (2 : Int64) else (fl S 11 t)) else (-2 : Int64)) then (if (-2 : Int64) < (if (2 : Int64) < (fl S 11 t) then (2 : Int64) else (fl S 11 t)) then (if (2 : Int64) < (fl S 11 t) then (2 : Int64) else (fl S 11 t)) else (-2 : Int64)) else ((1 : Int64) - ((fl S 8 b_2) - fm)))), (4, .long ((fl S 8 b_2) - fm)), (0, .ref t), (1, .long fm), (3, va_rf to_)]) hx hb dTable_goOn_69 hl (by decide) rfl (fun ls hl => ?_)
      refine lv_aload_n hx hb dTable_goOn_71 rfl (lv_at hl 2 rfl) ?_
      refine lv_dup hx hb dTable_goOn_72 rfl ?_
      refine g_l FTable_60 hx hb hts hown hW k_t dTable_goOn_73 ?_
      rw [show fl (sfl (sfr S 15 t to_) 10 t (fl S 6 (gd (fr S 13 t)))) 11 t = fl S 11 t from rfl]
      refine lv_lload hx hb dTable_goOn_76 (lv_at hl 0 rfl) ?_
      refine lv_lsub hx hb dTable_goOn_78 ?_
      refine p_l FTable_60 GTable_drift (fun h => by cases h) hx hb hts hown hW k_t dTable_goOn_79 (fun H locs hW => ?_)
      have mo := mo.tr (mono_sfl (k := 11) (a := t) (v := ((fl S 11 t) - (if ((1 : Int64) - ((fl S 8 b_2) - fm)) < (if (-2 : Int64) < (if (2 : Int64) < (fl S 11 t) then (2 : Int64) else (fl S 11 t)) then (if (2 : Int64) < (fl S 11 t) then (2 : Int64) else (fl S 11 t)) else (-2 : Int64)) then (if (-2 : Int64) < (if (2 : Int64) < (fl S 11 t) then (2 : Int64) else (fl S 11 t)) then (if (2 : Int64) < (fl S 11 t) then (2 : Int64) else (fl S 11 t)) else (-2 : Int64)) else ((1 : Int64) - ((fl S 8 b_2) - fm))))))
      have nnp_17 : nn (sfl (sfl (sfr S 15 t to_) 10 t (fl S 6 (gd (fr S 13 t)))) 11 t ((fl S 11 t) - (if ((1 : Int64) - ((fl S 8 b_2) - fm)) < (if (-2 : Int64) < (if (2 : Int64) < (fl S 11 t) then (2 : Int64) else (fl S 11 t)) then (if (2 : Int64) < (fl S 11 t) then (2 : Int64) else (fl S 11 t)) else (-2 : Int64)) then (if (-2 : Int64) < (if (2 : Int64) < (fl S 11 t) then (2 : Int64) else (fl S 11 t)) then (if (2 : Int64) < (fl S 11 t) then (2 : Int64) else (fl S 11 t)) else (-2 : Int64)) else ((1 : Int64) - ((fl S 8 b_2) - fm))))) := nn_sfl nnp_15
      refine lv_aload_n hx hb dTable_goOn_82 rfl (lv_at hl 2 rfl) ?_
      refine lv_dup hx hb dTable_goOn_83 rfl ?_
      refine g_l FTable_49 hx hb hts hown hW k_t dTable_goOn_84 ?_
      rw [show fl (sfl (sfl (sfr S 15 t to_) 10 t (fl S 6 (gd (fr S 13 t)))) 11 t ((fl S 11 t) - (if ((1 : Int64) - ((fl S 8 b_2) - fm)) < (if (-2 : Int64) < (if (2 : Int64) < (fl S 11 t) then (2 : Int64) else (fl S 11 t)) then (if (2 : Int64) < (fl S 11 t) then (2 : Int64) else (fl S 11 t)) else (-2 : Int64)) then (if (-2 : Int64) < (if (2 : Int64) < (fl S 11 t) then (2 : Int64) else (fl S 11 t)) then (if (2 : Int64) < (fl S 11 t) then (2 : Int64) else (fl S 11 t)) else (-2 : Int64)) else ((1 : Int64) - ((fl S 8 b_2) - fm))))) 10 t = fl S 6 (gd (fr S 13 t)) from up2_self _ _ _ _]
      refine lv_lload hx hb dTable_goOn_87 (lv_at hl 1 rfl) ?_
      refine lv_lload hx hb dTable_goOn_89 (lv_at hl 0 rfl) ?_
      refine lv_ladd hx hb dTable_goOn_91 ?_
      refine lv_ladd hx hb dTable_goOn_92 ?_
      refine p_l FTable_49 GTable_due (fun h => by cases h) hx hb hts hown hW k_t dTable_goOn_93 (fun H locs hW => ?_)
      have mo := mo.tr (mono_sfl (k := 10) (a := t) (v := ((fl S 6 (gd (fr S 13 t))) + (((fl S 8 b_2) - fm) + (if ((1 : Int64) - ((fl S 8 b_2) - fm)) < (if (-2 : Int64) < (if (2 : Int64) < (fl S 11 t) then (2 : Int64) else (fl S 11 t)) then (if (2 : Int64) < (fl S 11 t) then (2 : Int64) else (fl S 11 t)) else (-2 : Int64)) then (if (-2 : Int64) < (if (2 : Int64) < (fl S 11 t) then (2 : Int64) else (fl S 11 t)) then (if (2 : Int64) < (fl S 11 t) then (2 : Int64) else (fl S 11 t)) else (-2 : Int64)) else ((1 : Int64) - ((fl S 8 b_2) - fm)))))))
      have nnp_18 : nn (sfl (sfl (sfl (sfr S 15 t to_) 10 t (fl S 6 (gd (fr S 13 t)))) 11 t ((fl S 11 t) - (if ((1 : Int64) - ((fl S 8 b_2) - fm)) < (if (-2 : Int64) < (if (2 : Int64) < (fl S 11 t) then (2 : Int64) else (fl S 11 t)) then (if (2 : Int64) < (fl S 11 t) then (2 : Int64) else (fl S 11 t)) else (-2 : Int64)) then (if (-2 : Int64) < (if (2 : Int64) < (fl S 11 t) then (2 : Int64) else (fl S 11 t)) then (if (2 : Int64) < (fl S 11 t) then (2 : Int64) else (fl S 11 t)) else (-2 : Int64)) else ((1 : Int64) - ((fl S 8 b_2) - fm))))) 10 t ((fl S 6 (gd (fr S 13 t))) + (((fl S 8 b_2) - fm) + (if ((1 : Int64) - ((fl S 8 b_2) - fm)) < (if (-2 : Int64) < (if (2 : Int64) < (fl S 11 t) then (2 : Int64) else (fl S 11 t)) then (if (2 : Int64) < (fl S 11 t) then (2 : Int64) else (fl S 11 t)) else (-2 : Int64)) then (if (-2 : Int64) < (if (2 : Int64) < (fl S 11 t) then (2 : Int64) else (fl S 11 t)) then (if (2 : Int64) < (fl S 11 t) then (2 : Int64) else (fl S 11 t)) else (-2 : Int64)) else ((1 : Int64) - ((fl S 8 b_2) - fm)))))) := nn_sfl nnp_17
      refine lv_aload_n hx hb dTable_goOn_96 rfl (lv_at hl 2 rfl) ?_
      refine g_q FTable_15 hx hb hts hown hW k_t dTable_goOn_97 ?_
      rw [show fr (sfl (sfl (sfl (sfr S 15 t to_) 10 t (fl S 6 (gd (fr S 13 t)))) 11 t ((fl S 11 t) - (if ((1 : Int64) - ((fl S 8 b_2) - fm)) < (if (-2 : Int64) < (if (2 : Int64) < (fl S 11 t) then (2 : Int64) else (fl S 11 t)) then (if (2 : Int64) < (fl S 11 t) then (2 : Int64) else (fl S 11 t)) else (-2 : Int64)) then (if (-2 : Int64) < (if (2 : Int64) < (fl S 11 t) then (2 : Int64) else (fl S 11 t)) then (if (2 : Int64) < (fl S 11 t) then (2 : Int64) else (fl S 11 t)) else (-2 : Int64)) else ((1 : Int64) - ((fl S 8 b_2) - fm))))) 10 t ((fl S 6 (gd (fr S 13 t))) + (((fl S 8 b_2) - fm) + (if ((1 : Int64) - ((fl S 8 b_2) - fm)) < (if (-2 : Int64) < (if (2 : Int64) < (fl S 11 t) then (2 : Int64) else (fl S 11 t)) then (if (2 : Int64) < (fl S 11 t) then (2 : Int64) else (fl S 11 t)) else (-2 : Int64)) then (if (-2 : Int64) < (if (2 : Int64) < (fl S 11 t) then (2 : Int64) else (fl S 11 t)) then (if (2 : Int64) < (fl S 11 t) then (2 : Int64) else (fl S 11 t)) else (-2 : Int64)) else ((1 : Int64) - ((fl S 8 b_2) - fm)))))) 13 t = fr S 13 t from rfl]
      refine lv_aload_n hx hb dTable_goOn_100 rfl (lv_at hl 2 rfl) ?_
      refine g_l FTable_49 hx hb hts hown hW k_t dTable_goOn_101 ?_
      rw [show fl (sfl (sfl (sfl (sfr S 15 t to_) 10 t (fl S 6 (gd (fr S 13 t)))) 11 t ((fl S 11 t) - (if ((1 : Int64) - ((fl S 8 b_2) - fm)) < (if (-2 : Int64) < (if (2 : Int64) < (fl S 11 t) then (2 : Int64) else (fl S 11 t)) then (if (2 : Int64) < (fl S 11 t) then (2 : Int64) else (fl S 11 t)) else (-2 : Int64)) then (if (-2 : Int64) < (if (2 : Int64) < (fl S 11 t) then (2 : Int64) else (fl S 11 t)) then (if (2 : Int64) < (fl S 11 t) then (2 : Int64) else (fl S 11 t)) else (-2 : Int64)) else ((1 : Int64) - ((fl S 8 b_2) - fm))))) 10 t ((fl S 6 (gd (fr S 13 t))) + (((fl S 8 b_2) - fm) + (if ((1 : Int64) - ((fl S 8 b_2) - fm)) < (if (-2 : Int64) < (if (2 : Int64) < (fl S 11 t) then (2 : Int64) else (fl S 11 t)) then (if (2 : Int64) < (fl S 11 t) then (2 : Int64) else (fl S 11 t)) else (-2 : Int64)) then (if (-2 : Int64) < (if (2 : Int64) < (fl S 11 t) then (2 : Int64) else (fl S 11 t)) then (if (2 : Int64) < (fl S 11 t) then (2 : Int64) else (fl S 11 t)) else (-2 : Int64)) else ((1 : Int64) - ((fl S 8 b_2) - fm)))))) 10 t = ((fl S 6 (gd (fr S 13 t))) + (((fl S 8 b_2) - fm) + (if ((1 : Int64) - ((fl S 8 b_2) - fm)) < (if (-2 : Int64) < (if (2 : Int64) < (fl S 11 t) then (2 : Int64) else (fl S 11 t)) then (if (2 : Int64) < (fl S 11 t) then (2 : Int64) else (fl S 11 t)) else (-2 : Int64)) then (if (-2 : Int64) < (if (2 : Int64) < (fl S 11 t) then (2 : Int64) else (fl S 11 t)) then (if (2 : Int64) < (fl S 11 t) then (2 : Int64) else (fl S 11 t)) else (-2 : Int64)) else ((1 : Int64) - ((fl S 8 b_2) - fm))))) from up2_self _ _ _ _]
      refine q_some1 n_13 ?_
      refine k_Vv (As := [.long ((fl S 6 (gd (fr S 13 t))) + (((fl S 8 b_2) - fm) + (if ((1 : Int64) - ((fl S 8 b_2) - fm)) < (if (-2 : Int64) < (if (2 : Int64) < (fl S 11 t) then (2 : Int64) else (fl S 11 t)) then (if (2 : Int64) < (fl S 11 t) then (2 : Int64) else (fl S 11 t)) else (-2 : Int64)) then (if (-2 : Int64) < (if (2 : Int64) < (fl S 11 t) then (2 : Int64) else (fl S 11 t)) then (if (2 : Int64) < (fl S 11 t) then (2 : Int64) else (fl S 11 t)) else (-2 : Int64)) else ((1 : Int64) - ((fl S 8 b_2) - fm)))))]) (rest := []) (c_wakeAt l D AC (sfl (sfl (sfl (sfr S 15 t to_) 10 t (fl S 6 (gd (fr S 13 t)))) 11 t ((fl S 11 t) - (if ((1 : Int64) - ((fl S 8 b_2) - fm)) < (if (-2 : Int64) < (if (2 : Int64) < (fl S 11 t) then (2 : Int64) else (fl S 11 t)) then (if (2 : Int64) < (fl S 11 t) then (2 : Int64) else (fl S 11 t)) else (-2 : Int64)) then (if (-2 : Int64) < (if (2 : Int64) < (fl S 11 t) then (2 : Int64) else (fl S 11 t)) then (if (2 : Int64) < (fl S 11 t) then (2 : Int64) else (fl S 11 t)) else (-2 : Int64)) else ((1 : Int64) - ((fl S 8 b_2) - fm))))) 10 t ((fl S 6 (gd (fr S 13 t))) + (((fl S 8 b_2) - fm) + (if ((1 : Int64) - ((fl S 8 b_2) - fm)) < (if (-2 : Int64) < (if (2 : Int64) < (fl S 11 t) then (2 : Int64) else (fl S 11 t)) then (if (2 : Int64) < (fl S 11 t) then (2 : Int64) else (fl S 11 t)) else (-2 : Int64)) then (if (-2 : Int64) < (if (2 : Int64) < (fl S 11 t) then (2 : Int64) else (fl S 11 t)) then (if (2 : Int64) < (fl S 11 t) then (2 : Int64) else (fl S 11 t)) else (-2 : Int64)) else ((1 : Int64) - ((fl S 8 b_2) - fm)))))) (gd (fr S 13 t)) ((fl S 6 (gd (fr S 13 t))) + (((fl S 8 b_2) - fm) + (if ((1 : Int64) - ((fl S 8 b_2) - fm)) < (if (-2 : Int64) < (if (2 : Int64) < (fl S 11 t) then (2 : Int64) else (fl S 11 t)) then (if (2 : Int64) < (fl S 11 t) then (2 : Int64) else (fl S 11 t)) else (-2 : Int64)) then (if (-2 : Int64) < (if (2 : Int64) < (fl S 11 t) then (2 : Int64) else (fl S 11 t)) then (if (2 : Int64) < (fl S 11 t) then (2 : Int64) else (fl S 11 t)) else (-2 : Int64)) else ((1 : Int64) - ((fl S 8 b_2) - fm))))) kb_14) CTable_76 ⟨by decide, by decide, _, rfl, rfl⟩ hx hb hml hown hts hW kb_14 hl.1 rfl rfl (Nat.le_of_ble_eq_true rfl) ⟨⟨Nat.le_of_ble_eq_true rfl, Nat.le_of_ble_eq_true rfl⟩, ⟨Nat.le_of_ble_eq_true rfl, Nat.le_of_ble_eq_true rfl⟩⟩ dTable_goOn_104 (fun S_19 H locs e_19 hW m_19 _ => ?_)
      rw [e_19] at hW m_19
      have k_t := m_19.k k_t (by decide)
      have k_b_2 := m_19.k k_b_2 (by decide)
      have kb_14 := m_19.k kb_14 (by decide)
      have kq_to_ := fun b h => m_19.k (kq_to_ b h) (by decide)
      have kq_12 := fun b h => m_19.k (kq_12 b h) (by decide)
      have mo := mo.tr m_19
      have nnp_20 : nn (wakeAt_S (sfl (sfl (sfl (sfr S 15 t to_) 10 t (fl S 6 (gd (fr S 13 t)))) 11 t ((fl S 11 t) - (if ((1 : Int64) - ((fl S 8 b_2) - fm)) < (if (-2 : Int64) < (if (2 : Int64) < (fl S 11 t) then (2 : Int64) else (fl S 11 t)) then (if (2 : Int64) < (fl S 11 t) then (2 : Int64) else (fl S 11 t)) else (-2 : Int64)) then (if (-2 : Int64) < (if (2 : Int64) < (fl S 11 t) then (2 : Int64) else (fl S 11 t)) then (if (2 : Int64) < (fl S 11 t) then (2 : Int64) else (fl S 11 t)) else (-2 : Int64)) else ((1 : Int64) - ((fl S 8 b_2) - fm))))) 10 t ((fl S 6 (gd (fr S 13 t))) + (((fl S 8 b_2) - fm) + (if ((1 : Int64) - ((fl S 8 b_2) - fm)) < (if (-2 : Int64) < (if (2 : Int64) < (fl S 11 t) then (2 : Int64) else (fl S 11 t)) then (if (2 : Int64) < (fl S 11 t) then (2 : Int64) else (fl S 11 t)) else (-2 : Int64)) then (if (-2 : Int64) < (if (2 : Int64) < (fl S 11 t) then (2 : Int64) else (fl S 11 t)) then (if (2 : Int64) < (fl S 11 t) then (2 : Int64) else (fl S 11 t)) else (-2 : Int64)) else ((1 : Int64) - ((fl S 8 b_2) - fm)))))) (gd (fr S 13 t)) ((fl S 6 (gd (fr S 13 t))) + (((fl S 8 b_2) - fm) + (if ((1 : Int64) - ((fl S 8 b_2) - fm)) < (if (-2 : Int64) < (if (2 : Int64) < (fl S 11 t) then (2 : Int64) else (fl S 11 t)) then (if (2 : Int64) < (fl S 11 t) then (2 : Int64) else (fl S 11 t)) else (-2 : Int64)) then (if (-2 : Int64) < (if (2 : Int64) < (fl S 11 t) then (2 : Int64) else (fl S 11 t)) then (if (2 : Int64) < (fl S 11 t) then (2 : Int64) else (fl S 11 t)) else (-2 : Int64)) else ((1 : Int64) - ((fl S 8 b_2) - fm)))))) := nn_wakeAt nnp_18
      exact e_v hsz hx hb hr hlk hW (mo) (Nat.le_of_ble_eq_true rfl) (Nat.le_of_ble_eq_true rfl) dTable_goOn_107 ((by refine Eq.symm ?_; refine (op_some n_2).trans ?_; refine (if_pos c_16).trans ?_; rfl))

theorem nn_goOn {S : HS} {t : Nat} {fm : Int64} {o : Option Nat} (h : nn S) : nn (goOn_S S t fm o) := by
  have h2 : nn (sfr S 15 t o) := nn_sfr h (Or.inl rfl)
  unfold goOn_S
  exact opc_P (P := nn) (fun _ => ite_P (P := nn) h2 h2) (fun _ _ => ite_P (P := nn) h2 h2)

/-- the last point before an offset, along a chain -/
def pbL (S : HS) (off : Int64) : Option Nat → List Nat → Option Nat
  | b, [] => b
  | b, x :: xs => if fl S 8 x < off then pbL S off (some x) xs else b

set_option maxRecDepth 20000 in
set_option maxHeartbeats 2000000 in
theorem c_pointBefore (l : Launch) (D : va_G) (AC : Nat → ClassId) (S : HS) (t : Nat) (off : Int64) (zs : List Nat) (k_t : kd S t = 7) (hc : chn (fr S 12) (fr S 14 t) zs) : CtQ l yTable_pointBefore (Cond.code yTable_pointBefore cTable_pointBefore 5 (some (.object "AlarmTables$Point")) :: wT) 0 0 D AC S [.ref t, .long off] 0 0 (fun r S' => r = pbL S off none zs ∧ S' = S) := by
  refine met_of (by decide) (Nat.le_of_ble_eq_true rfl) ?_
  intro p e s m below meth c ls hsz X hW hl
  obtain ⟨hx, hb, hml, hr, hlk, hown, hnm, hts⟩ := X
  have mo : mono S S := mono.rf S
  have hl : lv_has ls 5 [(0, .ref t), (1, .long off)] := hl
  have loop : ∀ (xs : List Nat) (o bf : Option Nat), chn (fr S 12) o xs → (∀ b, bf = some b → kd S b = 6) → (∀ b, o = some b → kd S b = 6) → pbL S off bf xs = pbL S off none zs → ∀ ls, lv_has ls 5 [(0, .ref t), (1, .long off), (3, va_rf bf), (4, va_rf o)] → W p l e (rmOf 0 0 0 0) s m ([.ref t, .long off] : List Value).toArray below meth c s.heap [] 0 0 (MQ below (va_Qq (fun r S' => r = pbL S off none zs ∧ S' = S) (CB D AC S) (AS (hL S) (hz S))) ([.ref t, .long off] : List Value).toArray s 0 0 (AS (hL S) (hz S))) (F0 m 8 ls []) := by
    intro xs
    induction xs with
    | nil =>
      intro o bf hc kq_bf kq_o hv ls hl
      have hc : o = none := hc
      refine q_aload hx hb dTable_pointBefore_8 (lv_at hl 3 rfl) ?_
      refine q_none hc ?_
      refine lv_ifnullN (tgt := 36) hx hb dTable_pointBefore_10 (by decide) ?_
      refine q_aload_n hx hb dTable_pointBefore_36 rfl (lv_at hl 2 rfl) ?_
      exact e_q (r := bf) hsz hx hb hr hlk hW (mono.rf S) (Nat.le_refl _) (Nat.le_refl _) dTable_pointBefore_37 ⟨by rw [← hv]; rfl, rfl⟩
    | cons x xs ih =>
      intro o bf hc kq_bf kq_o hv ls hl
      obtain ⟨hc1, hc2⟩ := hc
      have k_x : kd S x = 6 := kq_o x hc1
      refine q_aload hx hb dTable_pointBefore_8 (lv_at hl 3 rfl) ?_
      refine q_some hc1 ?_
      refine lv_ifnull hx hb dTable_pointBefore_10 ?_
      refine q_aload hx hb dTable_pointBefore_13 (lv_at hl 3 rfl) ?_
      refine q_some hc1 ?_
      refine g_l FTable_27 hx hb hts hown hW k_x dTable_pointBefore_15 ?_
      refine lv_lload_n hx hb dTable_pointBefore_18 rfl (lv_at hl 1 rfl) ?_
      refine ll_ge (tgt := 36) hx hb dTable_pointBefore_19 dTable_pointBefore_20 (by decide) (fun c_101 => ?_) (fun c_101 => ?_)
      · refine q_aload_n hx hb dTable_pointBefore_36 rfl (lv_at hl 2 rfl) ?_
        exact e_q (r := bf) hsz hx hb hr hlk hW (mono.rf S) (Nat.le_refl _) (Nat.le_refl _) dTable_pointBefore_37 ⟨by rw [← hv]; simp only [pbL, if_neg c_101], rfl⟩
      · refine q_aload hx hb dTable_pointBefore_23 (lv_at hl 3 rfl) ?_
        refine q_astore_n (i := 3) (lv' := [(3, va_rf o), (0, .ref t), (1, .long off), (4, va_rf o)]) hx hb dTable_pointBefore_25 rfl hl (by decide) rfl (fun ls hl => ?_)
        refine q_aload hx hb dTable_pointBefore_26 (lv_at hl 3 rfl) ?_
        refine q_some hc1 ?_
        have kq_102 : ∀ b, fr S 12 x = some b → kd S b = 6 := fun b h => hW.ok.2.1 12 x b k_x h
        refine g_q FTable_32 hx hb hts hown hW k_x dTable_pointBefore_28 ?_
        refine q_astore (lv' := [(4, va_rf (fr S 12 x)), (3, va_rf o), (0, .ref t), (1, .long off)]) hx hb dTable_pointBefore_31 hl (by decide) (by simp [q_cat, cat_r, cat_i, cat_l, cat_n]) (fun ls hl => ?_)
        refine lv_goto (tgt := 8) hx hb dTable_pointBefore_33 (by decide) ?_
        exact ih (fr S 12 x) o hc2 kq_o kq_102 (by rw [← hv, hc1]; simp only [pbL, if_pos c_101]) ls (lv_sub hl [2, 3, 1, 0] rfl)
  refine lv_null hx hb dTable_pointBefore_0 ?_
  refine lv_astore_nN (i := 3) (lv' := [(3, .null), (0, .ref t), (1, .long off)]) hx hb dTable_pointBefore_1 rfl hl (by decide) rfl (fun ls hl => ?_)
  refine lv_aload_n hx hb dTable_pointBefore_2 rfl (lv_at hl 1 rfl) ?_
  have kq_101 : ∀ b, fr S 14 t = some b → kd S b = 6 := fun b h => hW.ok.2.1 14 t b k_t h
  refine g_q FTable_23 hx hb hts hown hW k_t dTable_pointBefore_3 ?_
  refine q_astore (lv' := [(4, va_rf (fr S 14 t)), (3, .null), (0, .ref t), (1, .long off)]) hx hb dTable_pointBefore_6 hl (by decide) rfl (fun ls hl => ?_)
  exact loop zs _ none hc (fun b h => by cases h) kq_101 rfl ls (lv_sub hl [2, 3, 1, 0] rfl)

theorem pbL_kd {S : HS} (h : hOk S) (off : Int64) : ∀ (xs : List Nat) (o bf : Option Nat), chn (fr S 12) o xs → (∀ b, o = some b → kd S b = 6) → (∀ b, bf = some b → kd S b = 6) → ∀ b, pbL S off bf xs = some b → kd S b = 6
  | [], _, _, _, _, hb, b, e => hb b e
  | x :: xs, o, bf, hc, ho, hb, b, e => by
    unfold pbL at e
    split at e
    · exact pbL_kd h off xs _ (some x) hc.2 (fun b hb => h.2.1 12 x b (ho x hc.1) hb) (fun b hb => by cases hb; exact ho x hc.1) b e
    · exact hb b e
theorem pointBefore_kd {S : HS} {t : Nat} {zs : List Nat} (h : hOk S) (k_t : kd S t = 7) (hc : chn (fr S 12) (fr S 14 t) zs) (off : Int64) : ∀ b, pbL S off none zs = some b → kd S b = 6 :=
  pbL_kd h off zs _ none hc (fun b hb => h.2.1 14 t b k_t hb) (fun b hb => by cases hb)
