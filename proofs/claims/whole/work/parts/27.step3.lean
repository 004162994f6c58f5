noncomputable def cho (f : Nat → Option Nat) (o : Option Nat) : List Nat := Classical.epsilon (fun xs => chn f o xs)
theorem cho_spec {f : Nat → Option Nat} {o : Option Nat} (h : ∃ xs, chn f o xs) : chn f o (cho f o) := Classical.epsilon_spec h
def aLp (t : Nat) (dp : Int32) (rec : HS → Nat → HS) : List Nat → HS → HS
  | [], S => S
  | x :: xs, S => aLp t dp rec xs (takeAlarmTurn_S S t x dp rec)
def tLp (t : Nat) (dp : Int32) (rec : HS → Nat → HS) : List Nat → HS → HS
  | [], S => S
  | x :: xs, S => tLp t dp rec xs (takeTableTurn_S S t x dp rec)
noncomputable def mkT (t c : Nat) (dp : Int32) (rec : HS → Nat → HS) (S : HS) : HS := tLp t dp rec (cho (fr S 17) (fr S 7 c)) S
noncomputable def mkA (t c : Nat) (dp : Int32) (rec : HS → Nat → HS) (S : HS) : HS := aLp t dp rec (cho (fr S 4) (fr S 5 c)) S
noncomputable def makeStep_S (S : HS) (t c : Nat) (dp : Int32) (rec : HS → Nat → HS) : HS :=
  if fl (advance_S S c) 6 c < fl (advance_S S c) 7 c then advance_S S c else mkT t c dp rec (mkA t c dp rec (sfl (advance_S S c) 7 c (9223372036854775807 : Int64)))
/-- a chain goes on behind a change that keeps the chain's field -/
theorem chn_step {t : Nat} {S1 S2 : HS} (h : hOk S1) (r : sRel t S1 S2) {b0 K x : Nat} (hb : b0 ≠ 15) (hO : rO b0 = K) (hT : rT b0 = K) (hK : K ≠ 0) (kx : kd S1 x = K) {xs : List Nat} (hc : chn (fr S1 b0) (fr S1 b0 x) xs) : chn (fr S2 b0) (fr S2 b0 x) xs := by
  have hkd := chn_kd h hO hT xs _ hc (fun b hb => (h.2.1 b0 x b (kx.trans hO.symm) hb).trans hT)
  rw [r.2.2.2.1 b0 x (by rw [kx]; exact hK) hb]
  exact chn_congr xs _ (fun y hy => (r.2.2.2.1 b0 y (by rw [hkd y hy]; exact hK) hb).symm) hc
theorem sRel_aLp {t : Nat} {dp : Int32} {rec : HS → Nat → HS} (hrr : ∀ S1 c1, sInv S1 t → kd S1 c1 = 3 → sRel t S1 (rec S1 c1)) : ∀ (xs : List Nat) (S : HS), sInv S t → (∀ x ∈ xs, kd S x = 2) → sRel t S (aLp t dp rec xs S)
  | [], _, h, _ => sRel.rf h
  | x :: xs, S, h, hx => by
    have s1 := sRel_takeAlarmTurn (dp := dp) hrr h (hx x List.mem_cons_self)
    exact s1.tr (sRel_aLp hrr xs _ s1.1 (fun y hy => s1.2.2.2.2.k (hx y (List.mem_cons_of_mem _ hy)) (by decide)))
theorem sRel_tLp {t : Nat} {dp : Int32} {rec : HS → Nat → HS} (hrr : ∀ S1 c1, sInv S1 t → kd S1 c1 = 3 → sRel t S1 (rec S1 c1)) : ∀ (xs : List Nat) (S : HS), sInv S t → (∀ x ∈ xs, kd S x = 7) → sRel t S (tLp t dp rec xs S)
  | [], _, h, _ => sRel.rf h
  | x :: xs, S, h, hx => by
    have s1 := sRel_takeTableTurn (dp := dp) hrr h (hx x List.mem_cons_self)
    exact s1.tr (sRel_tLp hrr xs _ s1.1 (fun y hy => s1.2.2.2.2.k (hx y (List.mem_cons_of_mem _ hy)) (by decide)))
theorem sRel_mkA {t c : Nat} {dp : Int32} {rec : HS → Nat → HS} (hrr : ∀ S1 c1, sInv S1 t → kd S1 c1 = 3 → sRel t S1 (rec S1 c1)) {S : HS} (h : sInv S t) (kc : kd S c = 3) : sRel t S (mkA t c dp rec S) :=
  sRel_aLp hrr _ S h (chn_kd h.1.1 rfl rfl _ _ (cho_spec (h.2.2.2.2.2.1 c kc)) (fun b hb => h.1.1.2.1 5 c b kc hb))
theorem sRel_mkT {t c : Nat} {dp : Int32} {rec : HS → Nat → HS} (hrr : ∀ S1 c1, sInv S1 t → kd S1 c1 = 3 → sRel t S1 (rec S1 c1)) {S : HS} (h : sInv S t) (kc : kd S c = 3) : sRel t S (mkT t c dp rec S) :=
  sRel_tLp hrr _ S h (chn_kd h.1.1 rfl rfl _ _ (cho_spec (h.2.2.2.2.2.2 c kc)) (fun b hb => h.1.1.2.1 7 c b kc hb))
theorem sRel_makeStep {t c : Nat} {dp : Int32} {rec : HS → Nat → HS} (hrr : ∀ S1 c1, sInv S1 t → kd S1 c1 = 3 → sRel t S1 (rec S1 c1)) {S : HS} (h : sInv S t) (kc : kd S c = 3) : sRel t S (makeStep_S S t c dp rec) := by
  unfold makeStep_S
  have s0 : sRel t S (advance_S S c) := sRel_advance h
  generalize advance_S S c = S0 at s0
  have s1 : sRel t S (sfl S0 7 c 9223372036854775807) := s0.tr (sRel_sfl s0.1)
  have s2 := s1.tr (sRel_mkA (c := c) (dp := dp) hrr s1.1 (s1.2.2.2.2.k kc (by decide)))
  exact ite_P (P := sRel t S) s0 (s2.tr (sRel_mkT (c := c) (dp := dp) hrr s2.1 (s2.2.2.2.2.k kc (by decide))))

set_option maxRecDepth 20000 in
set_option maxHeartbeats 2000000 in
theorem c_makeStep (l : Launch) (D : va_G) (AC : Nat → ClassId) (S : HS) (t c : Nat) (dp : Int32) (rec : HS → Nat → HS) (k : Nat) (k_t : kd S t = 8) (k_c : kd S c = 3) (hi : sInv S t) (hrec : ¬ (20 : Int32) ≤ dp → ∀ S1 c1, sInv S1 t → kd S1 c1 = 3 → CtV l yAT_makeStep (Cond.code yAT_makeStep cAT_makeStep 4 none :: wT) (8 + 5 * k) (200 + 92 * k) D AC S1 [.ref t, .ref c1, .int (dp + 1)] (phi S1 t) (psi S1 t) (fun S2 => S2 = rec S1 c1)) (hrr : ∀ S1 c1, sInv S1 t → kd S1 c1 = 3 → sRel t S1 (rec S1 c1)) : CtV l yAT_makeStep (Cond.code yAT_makeStep cAT_makeStep 4 none :: wT) (13 + 5 * k) (292 + 92 * k) D AC S [.ref t, .ref c, .int dp] (phi S t) (psi S t) (fun S' => S' = makeStep_S S t c dp rec) := by
  refine met_of (by decide) (Nat.le_of_ble_eq_true rfl) ?_
  intro p e s m below meth c9 ls hsz X hW hl
  obtain ⟨hx, hb, hml, hr, hlk, hown, hnm, hts⟩ := X
  have mo : mono S S := mono.rf S
  have hl : lv_has ls 4 [(0, .ref t), (1, .ref c), (2, .int dp)] := hl
  have sr : sRel t S S := sRel.rf hi
  have ht0 := hW.t
  have loop2 : ∀ (xs : List Nat) (S1 : HS) (ob : Option Nat), chn (fr S1 17) ob xs → (∀ b, ob = some b → kd S1 b = 7) → kd S1 t = 8 → kd S1 c = 3 → tLp t dp rec xs S1 = makeStep_S S t c dp rec → sRel t S S1 → mono S S1 → ∀ H locs, Wd D AC (AS (hL S) s.heap.size) s s.heap H locs S1 → ∀ ls, lv_has ls 4 [(0, .ref t), (1, .ref c), (2, .int dp), (3, va_rf ob)] → W p l e (rmOf (13 + 5 * k) (phi S t) (psi S t) (292 + 92 * k)) s m ([.ref t, .ref c, .int dp] : List Value).toArray below meth c9 H locs (hz S1 - hz S) (tz S1 - tz S) (MQ below (va_Qv (fun S' => S' = makeStep_S S t c dp rec) (CB D AC S) (AS (hL S) (hz S))) ([.ref t, .ref c, .int dp] : List Value).toArray s (phi S t) (psi S t) (AS (hL S) (hz S))) (F0 m 52 ls []) := by
    intro xs
    induction xs with
    | nil =>
      intro S1 ob hc kq_ob k_t k_c hv sr mo H locs hW ls hl
      have hc : ob = none := hc
      have nnp_101 : nn S1 := sr.1.2.2.1
      refine q_aload_n hx hb dAT_makeStep_52 rfl (lv_at hl 3 rfl) ?_
      refine q_none hc ?_
      refine lv_ifnullN (tgt := 70) hx hb dAT_makeStep_53 (by decide) ?_
      exact e_v hsz hx hb hr hlk hW mo (by show _ ≤ phi S t; have z1 := sr.2.1; have z2 := sr.2.2.1; omega) (by show _ ≤ psi S t; have z1 := sr.2.1; have z2 := sr.2.2.1; omega) dAT_makeStep_70 hv
    | cons x xs ih =>
      intro S1 ob hc kq_ob k_t k_c hv sr mo H locs hW ls hl
      obtain ⟨hc1, hc2⟩ := hc
      have k_x : kd S1 x = 7 := kq_ob x hc1
      have si1 := sr.1
      have kx1 := k_x
      have nnp_101 : nn S1 := sr.1.2.2.1
      refine q_aload_n hx hb dAT_makeStep_52 rfl (lv_at hl 3 rfl) ?_
      refine q_some hc1 ?_
      refine lv_ifnull hx hb dAT_makeStep_53 ?_
      refine lv_aload_n hx hb dAT_makeStep_56 rfl (lv_at hl 0 rfl) ?_
      refine q_aload_n hx hb dAT_makeStep_57 rfl (lv_at hl 3 rfl) ?_
      refine lv_iload_n hx hb dAT_makeStep_58 rfl (lv_at hl 2 rfl) ?_
      refine q_some1 hc1 ?_
      refine k_Vv (As := [.ref x, .int dp]) (rest := []) (c_takeTableTurn l D AC S1 t x dp rec k k_t k_x sr.1 hrec hrr) CAT_228 ⟨by decide, by decide, _, rfl, rfl⟩ hx hb hml hown hts hW k_t hl.1 rfl rfl (Nat.le_of_ble_eq_true rfl) ⟨⟨by show _ ≤ (13 + 5 * k); omega, by show _ ≤ (292 + 92 * k); omega⟩, ⟨by show _ ≤ phi S t; have z1 := sr.2.1; have z2 := sr.2.2.1; omega, by show _ ≤ psi S t; have z1 := sr.2.1; have z2 := sr.2.2.1; omega⟩⟩ dAT_makeStep_59 (fun S_102 H locs e_102 hW m_102 _ => ?_)
      rw [e_102] at hW m_102
      have sr : sRel t S (takeTableTurn_S S1 t x dp rec) := sr.tr (sRel_takeTableTurn hrr sr.1 k_x)
      have k_t := m_102.k k_t (by decide)
      have k_c := m_102.k k_c (by decide)
      have k_x := m_102.k k_x (by decide)
      have kq_ob := fun b h => m_102.k (kq_ob b h) (by decide)
      have mo := mo.tr m_102
      refine W.tight (k := hz (takeTableTurn_S S1 t x dp rec) - hz S) (n := tz (takeTableTurn_S S1 t x dp rec) - tz S) (by rw [hW.z, hsz]; have := sr.2.2.1.1; omega) (by rw [hW.t, ht0]; have := sr.2.2.1.2; omega) ?_
      have nnp_103 : nn (takeTableTurn_S S1 t x dp rec) := sr.1.2.2.1
      refine q_aload_n hx hb dAT_makeStep_62 rfl (lv_at hl 3 rfl) ?_
      refine q_some hc1 ?_
      have kq_104 : ∀ b, fr (takeTableTurn_S S1 t x dp rec) 17 x = some b → kd (takeTableTurn_S S1 t x dp rec) b = 7 := fun b h => hW.ok.2.1 17 x b k_x h
      refine g_q FAT_232 hx hb hts hown hW k_x dAT_makeStep_63 ?_
      refine q_astore_n (i := 3) (lv' := [(3, va_rf (fr (takeTableTurn_S S1 t x dp rec) 17 x)), (0, .ref t), (1, .ref c), (2, .int dp)]) hx hb dAT_makeStep_66 rfl hl (by decide) rfl (fun ls hl => ?_)
      refine lv_goto (tgt := 52) hx hb dAT_makeStep_67 (by decide) ?_
      exact ih (takeTableTurn_S S1 t x dp rec) (fr (takeTableTurn_S S1 t x dp rec) 17 x) (chn_step si1.1.1 (sRel_takeTableTurn hrr si1 kx1) (by decide) rfl rfl (by decide) kx1 hc2) kq_104 k_t k_c hv sr mo H locs hW ls (lv_sub hl [1, 2, 3, 0] rfl)
  have loop1 : ∀ (xs : List Nat) (S1 : HS) (ob : Option Nat), chn (fr S1 4) ob xs → (∀ b, ob = some b → kd S1 b = 2) → kd S1 t = 8 → kd S1 c = 3 → mkT t c dp rec (aLp t dp rec xs S1) = makeStep_S S t c dp rec → sRel t S S1 → mono S S1 → ∀ H locs, Wd D AC (AS (hL S) s.heap.size) s s.heap H locs S1 → ∀ ls, lv_has ls 4 [(0, .ref t), (1, .ref c), (2, .int dp), (3, va_rf ob)] → W p l e (rmOf (13 + 5 * k) (phi S t) (psi S t) (292 + 92 * k)) s m ([.ref t, .ref c, .int dp] : List Value).toArray below meth c9 H locs (hz S1 - hz S) (tz S1 - tz S) (MQ below (va_Qv (fun S' => S' = makeStep_S S t c dp rec) (CB D AC S) (AS (hL S) (hz S))) ([.ref t, .ref c, .int dp] : List Value).toArray s (phi S t) (psi S t) (AS (hL S) (hz S))) (F0 m 29 ls []) := by
    intro xs
    induction xs with
    | nil =>
      intro S1 ob hc kq_ob k_t k_c hv sr mo H locs hW ls hl
      have hc : ob = none := hc
      have nnp_101 : nn S1 := sr.1.2.2.1
      refine q_aload_n hx hb dAT_makeStep_29 rfl (lv_at hl 3 rfl) ?_
      refine q_none hc ?_
      refine lv_ifnullN (tgt := 47) hx hb dAT_makeStep_30 (by decide) ?_
      refine lv_aload_n hx hb dAT_makeStep_47 rfl (lv_at hl 1 rfl) ?_
      have kq_102 : ∀ b, fr S1 7 c = some b → kd S1 b = 7 := fun b h => hW.ok.2.1 7 c b k_c h
      refine g_q FAT_225 hx hb hts hown hW k_c dAT_makeStep_48 ?_
      refine q_astore_n (i := 3) (lv' := [(3, va_rf (fr S1 7 c)), (0, .ref t), (1, .ref c), (2, .int dp)]) hx hb dAT_makeStep_51 rfl hl (by decide) rfl (fun ls hl => ?_)
      exact loop2 _ S1 (fr S1 7 c) (cho_spec (sr.1.2.2.2.2.2.2 c k_c)) kq_102 k_t k_c hv sr mo H locs hW ls (lv_sub hl [1, 2, 3, 0] rfl)
    | cons x xs ih =>
      intro S1 ob hc kq_ob k_t k_c hv sr mo H locs hW ls hl
      obtain ⟨hc1, hc2⟩ := hc
      have k_x : kd S1 x = 2 := kq_ob x hc1
      have si1 := sr.1
      have kx1 := k_x
      have nnp_101 : nn S1 := sr.1.2.2.1
      refine q_aload_n hx hb dAT_makeStep_29 rfl (lv_at hl 3 rfl) ?_
      refine q_some hc1 ?_
      refine lv_ifnull hx hb dAT_makeStep_30 ?_
      refine lv_aload_n hx hb dAT_makeStep_33 rfl (lv_at hl 0 rfl) ?_
      refine q_aload_n hx hb dAT_makeStep_34 rfl (lv_at hl 3 rfl) ?_
      refine lv_iload_n hx hb dAT_makeStep_35 rfl (lv_at hl 2 rfl) ?_
      refine q_some1 hc1 ?_
      refine k_Vv (As := [.ref x, .int dp]) (rest := []) (c_takeAlarmTurn l D AC S1 t x dp rec k k_t k_x sr.1 hrec hrr) CAT_218 ⟨by decide, by decide, _, rfl, rfl⟩ hx hb hml hown hts hW k_t hl.1 rfl rfl (Nat.le_of_ble_eq_true rfl) ⟨⟨by show _ ≤ (13 + 5 * k); omega, by show _ ≤ (292 + 92 * k); omega⟩, ⟨by show _ ≤ phi S t; have z1 := sr.2.1; have z2 := sr.2.2.1; omega, by show _ ≤ psi S t; have z1 := sr.2.1; have z2 := sr.2.2.1; omega⟩⟩ dAT_makeStep_36 (fun S_102 H locs e_102 hW m_102 _ => ?_)
      rw [e_102] at hW m_102
      have sr : sRel t S (takeAlarmTurn_S S1 t x dp rec) := sr.tr (sRel_takeAlarmTurn hrr sr.1 k_x)
      have k_t := m_102.k k_t (by decide)
      have k_c := m_102.k k_c (by decide)
      have k_x := m_102.k k_x (by decide)
      have kq_ob := fun b h => m_102.k (kq_ob b h) (by decide)
      have mo := mo.tr m_102
      refine W.tight (k := hz (takeAlarmTurn_S S1 t x dp rec) - hz S) (n := tz (takeAlarmTurn_S S1 t x dp rec) - tz S) (by rw [hW.z, hsz]; have := sr.2.2.1.1; omega) (by rw [hW.t, ht0]; have := sr.2.2.1.2; omega) ?_
      have nnp_103 : nn (takeAlarmTurn_S S1 t x dp rec) := sr.1.2.2.1
      refine q_aload_n hx hb dAT_makeStep_39 rfl (lv_at hl 3 rfl) ?_
      refine q_some hc1 ?_
      have kq_104 : ∀ b, fr (takeAlarmTurn_S S1 t x dp rec) 4 x = some b → kd (takeAlarmTurn_S S1 t x dp rec) b = 2 := fun b h => hW.ok.2.1 4 x b k_x h
      refine g_q FAT_222 hx hb hts hown hW k_x dAT_makeStep_40 ?_
      refine q_astore_n (i := 3) (lv' := [(3, va_rf (fr (takeAlarmTurn_S S1 t x dp rec) 4 x)), (0, .ref t), (1, .ref c), (2, .int dp)]) hx hb dAT_makeStep_43 rfl hl (by decide) rfl (fun ls hl => ?_)
      refine lv_goto (tgt := 29) hx hb dAT_makeStep_44 (by decide) ?_
      exact ih (takeAlarmTurn_S S1 t x dp rec) (fr (takeAlarmTurn_S S1 t x dp rec) 4 x) (chn_step si1.1.1 (sRel_takeAlarmTurn hrr si1 kx1) (by decide) rfl rfl (by decide) kx1 hc2) kq_104 k_t k_c hv sr mo H locs hW ls (lv_sub hl [1, 2, 3, 0] rfl)
  refine lv_aload_n hx hb dAT_makeStep_0 rfl (lv_at hl 1 rfl) ?_
  refine k_Vv (As := []) (rest := []) (c_advance l D AC S c k_c) CAT_206 ⟨by decide, by decide, _, rfl, rfl⟩ hx hb hml hown hts hW k_c hl.1 rfl rfl (Nat.le_of_ble_eq_true rfl) ⟨⟨by show _ ≤ (13 + 5 * k); omega, by show _ ≤ (292 + 92 * k); omega⟩, ⟨by show _ ≤ phi S t; have z1 := sr.2.1; have z2 := sr.2.2.1; omega, by show _ ≤ psi S t; have z1 := sr.2.1; have z2 := sr.2.2.1; omega⟩⟩ dAT_makeStep_1 (fun S_1 H locs e_1 hW m_1 _ => ?_)
  rw [e_1] at hW m_1
  have sr : sRel t S (advance_S S c) := sr.tr (sRel_advance sr.1)
  have k_t := m_1.k k_t (by decide)
  have k_c := m_1.k k_c (by decide)
  have mo := mo.tr m_1
  refine W.tight (k := hz (advance_S S c) - hz S) (n := tz (advance_S S c) - tz S) (by rw [hW.z, hsz]; have := sr.2.2.1.1; omega) (by rw [hW.t, ht0]; have := sr.2.2.1.2; omega) ?_
  have nnp_2 : nn (advance_S S c) := sr.1.2.2.1
  refine lv_aload_n hx hb dAT_makeStep_4 rfl (lv_at hl 1 rfl) ?_
  refine g_l FAT_154 hx hb hts hown hW k_c dAT_makeStep_5 ?_
  refine lv_aload_n hx hb dAT_makeStep_8 rfl (lv_at hl 1 rfl) ?_
  refine g_l FAT_209 hx hb hts hown hW k_c dAT_makeStep_9 ?_
  refine ll_ge (tgt := 17) hx hb dAT_makeStep_12 dAT_makeStep_13 (by decide) (fun c_3 => ?_) (fun c_3 => ?_)
  · refine lv_aload_n hx hb dAT_makeStep_17 rfl (lv_at hl 1 rfl) ?_
    refine lv_ldc2 (v := (9223372036854775807 : Int64)) hx hb hown (hts _ QAT_212) dAT_makeStep_18 ?_
    refine p_l FAT_209 GCounter_wake (fun h => by cases h) hx hb hts hown hW k_c dAT_makeStep_21 (fun H locs hW => ?_)
    have mo := mo.tr (mono_sfl (k := 7) (a := c) (v := (9223372036854775807 : Int64)))
    have sr : sRel t S (sfl (advance_S S c) 7 c (9223372036854775807 : Int64)) := sr.tr (sRel_sfl sr.1)
    refine W.tight (k := hz (sfl (advance_S S c) 7 c (9223372036854775807 : Int64)) - hz S) (n := tz (sfl (advance_S S c) 7 c (9223372036854775807 : Int64)) - tz S) (by rw [hW.z, hsz]; have := sr.2.2.1.1; omega) (by rw [hW.t, ht0]; have := sr.2.2.1.2; omega) ?_
    have nnp_4 : nn (sfl (advance_S S c) 7 c (9223372036854775807 : Int64)) := nn_sfl nnp_2
    refine lv_aload_n hx hb dAT_makeStep_24 rfl (lv_at hl 1 rfl) ?_
    have kq_5 : ∀ b, fr (advance_S S c) 5 c = some b → kd (sfl (advance_S S c) 7 c (9223372036854775807 : Int64)) b = 2 := fun b h => hW.ok.2.1 5 c b k_c h
    refine g_q FAT_214 hx hb hts hown hW k_c dAT_makeStep_25 ?_
    rw [show fr (sfl (advance_S S c) 7 c (9223372036854775807 : Int64)) 5 c = fr (advance_S S c) 5 c from rfl]
    refine q_astore_n (i := 3) (lv' := [(3, va_rf (fr (advance_S S c) 5 c)), (0, .ref t), (1, .ref c), (2, .int dp)]) hx hb dAT_makeStep_28 rfl hl (by decide) rfl (fun ls hl => ?_)
    exact loop1 _ (sfl (advance_S S c) 7 c (9223372036854775807 : Int64)) (fr (advance_S S c) 5 c) (cho_spec (sr.1.2.2.2.2.2.1 c k_c)) kq_5 k_t k_c (by refine Eq.symm ?_; refine (if_neg c_3).trans ?_; rfl) sr mo H locs hW ls (lv_sub hl [1, 2, 3, 0] rfl)
  · exact e_v hsz hx hb hr hlk hW mo (by show _ ≤ phi S t; have z1 := sr.2.1; have z2 := sr.2.2.1; omega) (by show _ ≤ psi S t; have z1 := sr.2.1; have z2 := sr.2.2.1; omega) dAT_makeStep_16 (by refine Eq.symm ?_; refine (if_pos c_3).trans ?_; rfl)
