-- the model as it is made: n arrays are there, the fields of n' of them are set
def hsP (o tt n n' : Nat) : HS := (o + 1 + n, tt, o :: (List.range n).map (fun j => o + 1 + j), fun a => if a = o then 9 else if o < a ∧ a < o + 1 + n then mK (a - (o + 1)) else 0, fun _ _ => 0, fun _ _ => 0, fun k a => if a = o ∧ 22 ≤ k ∧ k < 22 + n' then some (o + 1 + (k - 22)) else none, fun a => mN (a - (o + 1)), fun _ _ => 0, fun _ _ => 0, fun _ _ => none)
theorem jhz_P (o tt n n' : Nat) : hz (hsP o tt n n') = o + 1 + n := rfl
theorem jtz_P (o tt n n' : Nat) : tz (hsP o tt n n') = tt := rfl
theorem jhL_P (o tt n n' : Nat) : hL (hsP o tt n n') = o :: (List.range n).map (fun j => o + 1 + j) := rfl
theorem jkd_P (o tt n n' : Nat) : kd (hsP o tt n n') = fun a => if a = o then 9 else if o < a ∧ a < o + 1 + n then mK (a - (o + 1)) else 0 := rfl
theorem jfi_P (o tt n n' : Nat) : fi (hsP o tt n n') = fun _ _ => 0 := rfl
theorem jfl_P (o tt n n' : Nat) : fl (hsP o tt n n') = fun _ _ => 0 := rfl
theorem jfr_P (o tt n n' : Nat) : fr (hsP o tt n n') = fun k a => if a = o ∧ 22 ≤ k ∧ k < 22 + n' then some (o + 1 + (k - 22)) else none := rfl
theorem jan_P (o tt n n' : Nat) : an (hsP o tt n n') = fun a => mN (a - (o + 1)) := rfl
theorem jai_P (o tt n n' : Nat) : ai (hsP o tt n n') = fun _ _ => 0 := rfl
theorem jal_P (o tt n n' : Nat) : al (hsP o tt n n') = fun _ _ => 0 := rfl
theorem jar_P (o tt n n' : Nat) : ar (hsP o tt n n') = fun _ _ => none := rfl
theorem hsP_k {o tt n n' : Nat} : kd (hsP o tt n n') o = 9 := if_pos rfl
theorem hsP_ka {o tt n n' j : Nat} (h : j < n) : kd (hsP o tt n n') (o + 1 + j) = mK j := by
  show (if o + 1 + j = o then 9 else if o < o + 1 + j ∧ o + 1 + j < o + 1 + n then mK (o + 1 + j - (o + 1)) else 0) = mK j
  rw [if_neg (by omega), if_pos (by omega), Nat.add_sub_cancel_left]
theorem hsP_ok {o tt n n' : Nat} (hn : n' ≤ n) (h28 : n ≤ 28) : hOk (hsP o tt n n') := by
  refine ⟨fun a ha => ?_, fun k a b _ hb => ?_, fun a j b _ hb => ?_⟩
  · have ha : (if a = o then 9 else if o < a ∧ a < o + 1 + n then mK (a - (o + 1)) else 0) ≠ 0 := ha
    show a ∈ o :: (List.range n).map (fun j => o + 1 + j)
    by_cases h1 : a = o
    · subst h1; exact List.mem_cons_self
    · rw [if_neg h1] at ha
      by_cases h2 : o < a ∧ a < o + 1 + n
      · exact List.mem_cons_of_mem _ (List.mem_map.mpr ⟨a - (o + 1), List.mem_range.mpr (by omega), by omega⟩)
      · rw [if_neg h2] at ha
        exact absurd rfl ha
  · have hb : (if a = o ∧ 22 ≤ k ∧ k < 22 + n' then some (o + 1 + (k - 22)) else none) = some b := hb
    by_cases h : a = o ∧ 22 ≤ k ∧ k < 22 + n'
    · rw [if_pos h] at hb
      have hb := Option.some.inj hb
      subst hb
      rw [hsP_ka (by omega), mK_rT _ (by omega)]
      congr 1
      omega
    · rw [if_neg h] at hb
      cases hb
  · cases hb
section MNEW
variable {p : Program} {l : Launch} {e : Env} {R : Room} {s : State} {m : MethodId} {args : Array Value} {below : List Frame} {meth : Method} {c : Code} {H : Heap} {locs : List Loc} {cells slots : Nat} {Q : State → Prop}
variable {cc : ByteArray} {pc : Nat} {ls : Array Slot} {rest : List Value} {D : va_G} {AC : Nat → ClassId} {A : Nat → Prop} {H0 : Heap} {o tt n k jj : Nat}
theorem hsP_new {K N : Nat} (hN : N = mN n) (hK : K = mK n) (h28 : n < 28) (hW : Wd D AC A s H0 H locs (newB (hsP o tt n n) (o + 1 + n) K N)) : Wd D AC A s H0 H locs (hsP o (tt + N) (n + 1) n) := by
  subst hN
  subst hK
  have hl : hL (hsP o (tt + mN n) (n + 1) n) = hL (newB (hsP o tt n n) (o + 1 + n) (mK n) (mN n)) := by
    rw [jhL_newB, jhL_P, jhL_P, List.range_succ, List.map_append]
    rfl
  refine hW.same hl ⟨by rw [jhz_newB, jhz_P, jhz_P]; rfl, by rw [jtz_newB, jtz_P, jtz_P]⟩ (fun a _ => ?_) (hsP_ok (by omega) (by omega))
  refine eC_same ?_ ?_ ?_ ?_ ?_ (fv_eq (fun _ => by rw [jfi_newB, jfi_P, jfi_P]) (fun _ => by rw [jfl_newB, jfl_P, jfl_P]) (fun _ => by rw [jfr_newB, jfr_P, jfr_P]))
  · rw [jkd_newB, jkd_P, jkd_P]
    unfold va_up
    dsimp only
    by_cases h1 : a = o + 1 + n
    · subst h1
      rw [if_neg (by omega), if_pos (by omega), if_pos rfl, Nat.add_sub_cancel_left]
    · rw [if_neg h1]
      by_cases h2 : a = o
      · rw [if_pos h2, if_pos h2]
      · rw [if_neg h2, if_neg h2]
        by_cases h3 : o < a ∧ a < o + 1 + n
        · rw [if_pos h3, if_pos (by omega)]
        · rw [if_neg h3, if_neg (by omega)]
  · rw [jan_newB, jan_P, jan_P]
    unfold va_up
    dsimp only
    by_cases h1 : a = o + 1 + n
    · subst h1; rw [if_pos rfl, Nat.add_sub_cancel_left]
    · rw [if_neg h1]
  · rw [jai_newB, jai_P, jai_P]
    unfold va_up
    dsimp only
    split <;> rfl
  · rw [jal_newB, jal_P, jal_P]
    unfold va_up
    dsimp only
    split <;> rfl
  · rw [jar_newB, jar_P, jar_P]
    unfold va_up
    dsimp only
    split <;> rfl
theorem hsP_set (h28 : n < 28) (hW : Wd D AC A s H0 H locs (sfr (hsP o tt (n + 1) n) (22 + n) o (some (o + 1 + n)))) : Wd D AC A s H0 H locs (hsP o tt (n + 1) (n + 1)) := by
  refine hW.same (by rw [jhL_sfr, jhL_P, jhL_P]) ⟨by rw [jhz_sfr, jhz_P, jhz_P], by rw [jtz_sfr, jtz_P, jtz_P]⟩ (fun a _ => eC_same (by rw [jkd_sfr, jkd_P, jkd_P]) (by rw [jan_sfr, jan_P, jan_P]) (by rw [jai_sfr, jai_P, jai_P]) (by rw [jal_sfr, jal_P, jal_P]) (by rw [jar_sfr, jar_P, jar_P]) (fv_eq (fun _ => by rw [jfi_sfr, jfi_P, jfi_P]) (fun _ => by rw [jfl_sfr, jfl_P, jfl_P]) (fun t2 => ?_))) (hsP_ok (Nat.le_refl _) (by omega))
  rw [jfr_sfr, jfr_P, jfr_P]
  unfold up2
  dsimp only
  by_cases h1 : t2 = 22 + n ∧ a = o
  · rw [if_pos h1, if_pos (by omega)]
    congr 1
    omega
  · rw [if_neg h1]
    by_cases h2 : a = o ∧ 22 ≤ t2 ∧ t2 < 22 + n
    · rw [if_pos h2, if_pos (by omega)]
    · rw [if_neg h2, if_neg (by omega)]
theorem hsP_full (hW : Wd D AC A s H0 H locs (hsP o tt 28 28)) : Wd D AC A s H0 H locs (hsM o (o + 29) tt (fun _ => 0, fun _ _ => 0, fun _ _ => 0)) := by
  refine hW.same (by rw [jhL_M, jhL_P]; rfl) ⟨by rw [jhz_M, jhz_P], by rw [jtz_M, jtz_P]⟩ (fun a ha => ?_) hsM_ok
  rw [jhL_P] at ha
  refine eC_same ?_ (by rw [jan_M, jan_P]) (by rw [jai_M, jai_P]; rfl) (by rw [jal_M, jal_P]; rfl) (by rw [jar_M, jar_P]) (fv_eq (fun _ => by rw [jfi_M, jfi_P]; rfl) (fun _ => by rw [jfl_M, jfl_P]) (fun k => ?_))
  · rw [jkd_M, jkd_P]
    unfold mKd
    dsimp only
    rcases List.mem_cons.mp ha with h | h
    · rw [if_pos h, if_pos h]
    · obtain ⟨j, hj, rfl⟩ := List.mem_map.mp h
      have hj := List.mem_range.mp hj
      have n1 : ¬ o + 1 + j = o := by omega
      rw [if_neg n1, if_neg n1, if_pos (show o < o + 1 + j by omega), if_pos (show o < o + 1 + j ∧ o + 1 + j < o + 1 + 28 by omega)]
  · rw [jfr_M, jfr_P]
    unfold mFr
    rfl
theorem mn_l {x : Int32} {N : Nat} (hN : N = mN n) (hn : n < 28 ∧ mK n = 12 ∧ N < 2 ^ 20) (hin : Cond.arrayClass (newarray.typeOf .long) ∈ wT) (hexec : p.tables.exec = Jvm.exec) (hb : c.code = cc) (hts : ∀ w ∈ wT, w.before args s = true) (hW : Wd D AC A s H0 H locs (hsP o tt n n)) (hx : x = nI N) (hrm : cells + 1 ≤ R.cells ∧ slots + N ≤ R.slots) (hdg : decode cc pc = .ok (.newarray .long, 2))
    (kk : ∀ (H1 : Heap), Wd D AC A s H0 H1 locs (hsP o (tt + N) (n + 1) n) → W p l e R s m args below meth c H1 locs (cells + 1) (slots + N) Q (F0 m (pc + 2) ls (.ref (o + 1 + n) :: rest))) : W p l e R s m args below meth c H locs cells slots Q (F0 m pc ls (.int x :: rest)) :=
  n_l (K := 12) (t0 := 1) ⟨by decide, by decide, fun k => rO_obj k 12 (by decide) (by decide)⟩ rfl hin hexec hb hts hW (n := N) hx hn.2.2 hrm (o + 1 + n) rfl hdg (fun H1 hW1 _ _ => kk H1 (hsP_new hN hn.2.1.symm hn.1 hW1))
theorem mn_i {x : Int32} {N : Nat} (hN : N = mN n) (hn : n < 28 ∧ mK n = 11 ∧ N < 2 ^ 20) (hin : Cond.arrayClass (newarray.typeOf .int) ∈ wT) (hexec : p.tables.exec = Jvm.exec) (hb : c.code = cc) (hts : ∀ w ∈ wT, w.before args s = true) (hW : Wd D AC A s H0 H locs (hsP o tt n n)) (hx : x = nI N) (hrm : cells + 1 ≤ R.cells ∧ slots + N ≤ R.slots) (hdg : decode cc pc = .ok (.newarray .int, 2))
    (kk : ∀ (H1 : Heap), Wd D AC A s H0 H1 locs (hsP o (tt + N) (n + 1) n) → W p l e R s m args below meth c H1 locs (cells + 1) (slots + N) Q (F0 m (pc + 2) ls (.ref (o + 1 + n) :: rest))) : W p l e R s m args below meth c H locs cells slots Q (F0 m pc ls (.int x :: rest)) :=
  n_i (K := 11) (t0 := 0) ⟨by decide, by decide, fun k => rO_obj k 11 (by decide) (by decide)⟩ rfl rfl ⟨fun C h => (by cases h), rfl⟩ hin hexec hb hts hW (n := N) hx ⟨hn.2.2, by show N * 4 ≤ 536870912; have := hn.2.2; omega⟩ hrm (o + 1 + n) rfl hdg (fun H1 hW1 _ _ => kk H1 (hsP_new hN hn.2.1.symm hn.1 hW1))
theorem mn_z {x : Int32} {N : Nat} (hN : N = mN n) (hn : n < 28 ∧ mK n = 13 ∧ N < 2 ^ 20) (hin : Cond.arrayClass (newarray.typeOf .boolean) ∈ wT) (hexec : p.tables.exec = Jvm.exec) (hb : c.code = cc) (hts : ∀ w ∈ wT, w.before args s = true) (hW : Wd D AC A s H0 H locs (hsP o tt n n)) (hx : x = nI N) (hrm : cells + 1 ≤ R.cells ∧ slots + N ≤ R.slots) (hdg : decode cc pc = .ok (.newarray .boolean, 2))
    (kk : ∀ (H1 : Heap), Wd D AC A s H0 H1 locs (hsP o (tt + N) (n + 1) n) → W p l e R s m args below meth c H1 locs (cells + 1) (slots + N) Q (F0 m (pc + 2) ls (.ref (o + 1 + n) :: rest))) : W p l e R s m args below meth c H locs cells slots Q (F0 m pc ls (.int x :: rest)) :=
  n_i (K := 13) (t0 := 2) ⟨by decide, by decide, fun k => rO_obj k 13 (by decide) (by decide)⟩ rfl rfl ⟨fun C h => (by cases h), rfl⟩ hin hexec hb hts hW (n := N) hx ⟨hn.2.2, by show N * 1 ≤ 536870912; have := hn.2.2; omega⟩ hrm (o + 1 + n) rfl hdg (fun H1 hW1 _ _ => kk H1 (hsP_new hN hn.2.1.symm hn.1 hW1))
theorem mn_p {own ref C : String} {T : u_T} {N index : Nat} {ty : FieldType} (F : fdOk own ref C T N index 9 jj 2 (22 + n)) (G : fdPut T N jj ty true) (hty : narrow ty (.ref (o + 1 + n)) = .ref (o + 1 + n) ∧ fits ty (.ref (o + 1 + n)) = true) (h28 : n < 28) (hinit : meth.name = "<init>" ∧ (T jj).1 = own) (hexec : p.tables.exec = Jvm.exec) (hb : c.code = cc) (hts : ∀ w ∈ wT, w.before args s = true) (hown : s.vm.findClass own = some m.cls) (hW : Wd D AC A s H0 H locs (hsP o tt (n + 1) n)) (hdg : decode cc pc = .ok (.putfield index, 3))
    (kk : ∀ (H1 : Heap) (locs1 : List Loc), Wd D AC A s H0 H1 locs1 (hsP o tt (n + 1) (n + 1)) → W p l e R s m args below meth c H1 locs1 cells slots Q (F0 m (pc + 3) ls rest)) : W p l e R s m args below meth c H locs cells slots Q (F0 m pc ls (.ref (o + 1 + n) :: .ref o :: rest)) :=
  p_r F G hty (fun _ => hinit) hexec hb hts hown hW hsP_k ((hsP_ka (Nat.lt_succ_self n)).trans (mK_rT n h28)) hdg (fun H1 locs1 hW1 => kk H1 locs1 (hsP_set h28 hW1))
end MNEW

set_option maxRecDepth 20000 in
set_option maxHeartbeats 2000000 in
theorem c_Minit (l : Launch) (D : va_G) (AC : Nat → ClassId) (o tt : Nat) : CtV l yMod_init (Cond.code yMod_init cMod_init 1 none :: wT) 1 12 D AC (hsP o tt 0 0) [.ref o] 28 14208 (fun S' => S' = hsM o (o + 29) (tt + 14208) (fun _ => 0, fun _ _ => 0, fun _ _ => 0)) := by
  refine met_of (by decide) (Nat.le_of_ble_eq_true rfl) ?_
  intro p e s m below meth c ls hsz X hW hl
  obtain ⟨hx, hb, hml, hr, hlk, hown, hnm, hts⟩ := X
  have hl : lv_has ls 1 [(0, .ref o)] := hl
  refine lv_aload_n hx hb dMod_init_0 rfl (lv_at hl 0 rfl) ?_
  refine o_init OMod_1 hx hb hown hts hml hl.1 dMod_init_1 (Nat.le_of_ble_eq_true rfl) (Nat.le_of_ble_eq_true rfl) ?_
  refine lv_aload_n hx hb dMod_init_4 rfl (lv_at hl 0 rfl) ?_
  refine lv_bipush (v := (21 : Int32)) hx hb dMod_init_5 (by decide) ?_
  refine mn_l (n := 0) (N := 21) rfl ⟨by decide, rfl, by decide⟩ NI_long hx hb hts hW (by decide) ⟨Nat.le_of_ble_eq_true rfl, Nat.le_of_ble_eq_true rfl⟩ dMod_init_7 (fun H hW => ?_)
  refine mn_p (n := 0) FMod_7 GMod_base ⟨rfl, rfl⟩ (by decide) ⟨hnm, rfl⟩ hx hb hts hown hW dMod_init_9 (fun H locs hW => ?_)
  refine lv_aload_n hx hb dMod_init_12 rfl (lv_at hl 0 rfl) ?_
  refine lv_bipush (v := (21 : Int32)) hx hb dMod_init_13 (by decide) ?_
  refine mn_l (n := 1) (N := 21) rfl ⟨by decide, rfl, by decide⟩ NI_long hx hb hts hW (by decide) ⟨Nat.le_of_ble_eq_true rfl, Nat.le_of_ble_eq_true rfl⟩ dMod_init_15 (fun H hW => ?_)
  refine mn_p (n := 1) FMod_13 GMod_ticks ⟨rfl, rfl⟩ (by decide) ⟨hnm, rfl⟩ hx hb hts hown hW dMod_init_17 (fun H locs hW => ?_)
  refine lv_aload_n hx hb dMod_init_20 rfl (lv_at hl 0 rfl) ?_
  refine lv_bipush (v := (21 : Int32)) hx hb dMod_init_21 (by decide) ?_
  refine mn_l (n := 2) (N := 21) rfl ⟨by decide, rfl, by decide⟩ NI_long hx hb hts hW (by decide) ⟨Nat.le_of_ble_eq_true rfl, Nat.le_of_ble_eq_true rfl⟩ dMod_init_23 (fun H hW => ?_)
  refine mn_p (n := 2) FMod_16 GMod_rest ⟨rfl, rfl⟩ (by decide) ⟨hnm, rfl⟩ hx hb hts hown hW dMod_init_25 (fun H locs hW => ?_)
  refine lv_aload_n hx hb dMod_init_28 rfl (lv_at hl 0 rfl) ?_
  refine lv_bipush (v := (21 : Int32)) hx hb dMod_init_29 (by decide) ?_
  refine mn_l (n := 3) (N := 21) rfl ⟨by decide, rfl, by decide⟩ NI_long hx hb hts hW (by decide) ⟨Nat.le_of_ble_eq_true rfl, Nat.le_of_ble_eq_true rfl⟩ dMod_init_31 (fun H hW => ?_)
  refine mn_p (n := 3) FMod_19 GMod_steps ⟨rfl, rfl⟩ (by decide) ⟨hnm, rfl⟩ hx hb hts hown hW dMod_init_33 (fun H locs hW => ?_)
  refine lv_aload_n hx hb dMod_init_36 rfl (lv_at hl 0 rfl) ?_
  refine lv_sipush (v := (441 : Int32)) hx hb dMod_init_37 (by decide) ?_
  refine mn_z (n := 4) (N := 441) rfl ⟨by decide, rfl, by decide⟩ NI_boolean hx hb hts hW (by decide) ⟨Nat.le_of_ble_eq_true rfl, Nat.le_of_ble_eq_true rfl⟩ dMod_init_40 (fun H hW => ?_)
  refine mn_p (n := 4) FMod_22 GMod_leads ⟨rfl, rfl⟩ (by decide) ⟨hnm, rfl⟩ hx hb hts hown hW dMod_init_42 (fun H locs hW => ?_)
  refine lv_aload_n hx hb dMod_init_45 rfl (lv_at hl 0 rfl) ?_
  refine lv_bipush (v := (21 : Int32)) hx hb dMod_init_46 (by decide) ?_
  refine mn_z (n := 5) (N := 21) rfl ⟨by decide, rfl, by decide⟩ NI_boolean hx hb hts hW (by decide) ⟨Nat.le_of_ble_eq_true rfl, Nat.le_of_ble_eq_true rfl⟩ dMod_init_48 (fun H hW => ?_)
  refine mn_p (n := 5) FMod_26 GMod_seen ⟨rfl, rfl⟩ (by decide) ⟨hnm, rfl⟩ hx hb hts hown hW dMod_init_50 (fun H locs hW => ?_)
  refine lv_aload_n hx hb dMod_init_53 rfl (lv_at hl 0 rfl) ?_
  refine lv_bipush (v := (101 : Int32)) hx hb dMod_init_54 (by decide) ?_
  refine mn_i (n := 6) (N := 101) rfl ⟨by decide, rfl, by decide⟩ NI_int hx hb hts hW (by decide) ⟨Nat.le_of_ble_eq_true rfl, Nat.le_of_ble_eq_true rfl⟩ dMod_init_56 (fun H hW => ?_)
  refine mn_p (n := 6) FMod_29 GMod_alarmOn ⟨rfl, rfl⟩ (by decide) ⟨hnm, rfl⟩ hx hb hts hown hW dMod_init_58 (fun H locs hW => ?_)
  refine lv_aload_n hx hb dMod_init_61 rfl (lv_at hl 0 rfl) ?_
  refine lv_bipush (v := (101 : Int32)) hx hb dMod_init_62 (by decide) ?_
  refine mn_i (n := 7) (N := 101) rfl ⟨by decide, rfl, by decide⟩ NI_int hx hb hts hW (by decide) ⟨Nat.le_of_ble_eq_true rfl, Nat.le_of_ble_eq_true rfl⟩ dMod_init_64 (fun H hW => ?_)
  refine mn_p (n := 7) FMod_33 GMod_alarmAct ⟨rfl, rfl⟩ (by decide) ⟨hnm, rfl⟩ hx hb hts hown hW dMod_init_66 (fun H locs hW => ?_)
  refine lv_aload_n hx hb dMod_init_69 rfl (lv_at hl 0 rfl) ?_
  refine lv_bipush (v := (101 : Int32)) hx hb dMod_init_70 (by decide) ?_
  refine mn_i (n := 8) (N := 101) rfl ⟨by decide, rfl, by decide⟩ NI_int hx hb hts hW (by decide) ⟨Nat.le_of_ble_eq_true rfl, Nat.le_of_ble_eq_true rfl⟩ dMod_init_72 (fun H hW => ?_)
  refine mn_p (n := 8) FMod_36 GMod_alarmOf ⟨rfl, rfl⟩ (by decide) ⟨hnm, rfl⟩ hx hb hts hown hW dMod_init_74 (fun H locs hW => ?_)
  refine lv_aload_n hx hb dMod_init_77 rfl (lv_at hl 0 rfl) ?_
  refine lv_bipush (v := (101 : Int32)) hx hb dMod_init_78 (by decide) ?_
  refine mn_z (n := 9) (N := 101) rfl ⟨by decide, rfl, by decide⟩ NI_boolean hx hb hts hW (by decide) ⟨Nat.le_of_ble_eq_true rfl, Nat.le_of_ble_eq_true rfl⟩ dMod_init_80 (fun H hW => ?_)
  refine mn_p (n := 9) FMod_39 GMod_isSet ⟨rfl, rfl⟩ (by decide) ⟨hnm, rfl⟩ hx hb hts hown hW dMod_init_82 (fun H locs hW => ?_)
  refine lv_aload_n hx hb dMod_init_85 rfl (lv_at hl 0 rfl) ?_
  refine lv_bipush (v := (101 : Int32)) hx hb dMod_init_86 (by decide) ?_
  refine mn_l (n := 10) (N := 101) rfl ⟨by decide, rfl, by decide⟩ NI_long hx hb hts hW (by decide) ⟨Nat.le_of_ble_eq_true rfl, Nat.le_of_ble_eq_true rfl⟩ dMod_init_88 (fun H hW => ?_)
  refine mn_p (n := 10) FMod_42 GMod_alarmDue ⟨rfl, rfl⟩ (by decide) ⟨hnm, rfl⟩ hx hb hts hown hW dMod_init_90 (fun H locs hW => ?_)
  refine lv_aload_n hx hb dMod_init_93 rfl (lv_at hl 0 rfl) ?_
  refine lv_bipush (v := (101 : Int32)) hx hb dMod_init_94 (by decide) ?_
  refine mn_l (n := 11) (N := 101) rfl ⟨by decide, rfl, by decide⟩ NI_long hx hb hts hW (by decide) ⟨Nat.le_of_ble_eq_true rfl, Nat.le_of_ble_eq_true rfl⟩ dMod_init_96 (fun H hW => ?_)
  refine mn_p (n := 11) FMod_45 GMod_cycle ⟨rfl, rfl⟩ (by decide) ⟨hnm, rfl⟩ hx hb hts hown hW dMod_init_98 (fun H locs hW => ?_)
  refine lv_aload_n hx hb dMod_init_101 rfl (lv_at hl 0 rfl) ?_
  refine lv_bipush (v := (21 : Int32)) hx hb dMod_init_102 (by decide) ?_
  refine mn_i (n := 12) (N := 21) rfl ⟨by decide, rfl, by decide⟩ NI_int hx hb hts hW (by decide) ⟨Nat.le_of_ble_eq_true rfl, Nat.le_of_ble_eq_true rfl⟩ dMod_init_104 (fun H hW => ?_)
  refine mn_p (n := 12) FMod_48 GMod_tableOn ⟨rfl, rfl⟩ (by decide) ⟨hnm, rfl⟩ hx hb hts hown hW dMod_init_106 (fun H locs hW => ?_)
  refine lv_aload_n hx hb dMod_init_109 rfl (lv_at hl 0 rfl) ?_
  refine lv_bipush (v := (21 : Int32)) hx hb dMod_init_110 (by decide) ?_
  refine mn_l (n := 13) (N := 21) rfl ⟨by decide, rfl, by decide⟩ NI_long hx hb hts hW (by decide) ⟨Nat.le_of_ble_eq_true rfl, Nat.le_of_ble_eq_true rfl⟩ dMod_init_112 (fun H hW => ?_)
  refine mn_p (n := 13) FMod_51 GMod_length ⟨rfl, rfl⟩ (by decide) ⟨hnm, rfl⟩ hx hb hts hown hW dMod_init_114 (fun H locs hW => ?_)
  refine lv_aload_n hx hb dMod_init_117 rfl (lv_at hl 0 rfl) ?_
  refine lv_bipush (v := (21 : Int32)) hx hb dMod_init_118 (by decide) ?_
  refine mn_i (n := 14) (N := 21) rfl ⟨by decide, rfl, by decide⟩ NI_int hx hb hts hW (by decide) ⟨Nat.le_of_ble_eq_true rfl, Nat.le_of_ble_eq_true rfl⟩ dMod_init_120 (fun H hW => ?_)
  refine mn_p (n := 14) FMod_54 GMod_points ⟨rfl, rfl⟩ (by decide) ⟨hnm, rfl⟩ hx hb hts hown hW dMod_init_122 (fun H locs hW => ?_)
  refine lv_aload_n hx hb dMod_init_125 rfl (lv_at hl 0 rfl) ?_
  refine lv_sipush (v := (420 : Int32)) hx hb dMod_init_126 (by decide) ?_
  refine mn_l (n := 15) (N := 420) rfl ⟨by decide, rfl, by decide⟩ NI_long hx hb hts hW (by decide) ⟨Nat.le_of_ble_eq_true rfl, Nat.le_of_ble_eq_true rfl⟩ dMod_init_129 (fun H hW => ?_)
  refine mn_p (n := 15) FMod_57 GMod_offset ⟨rfl, rfl⟩ (by decide) ⟨hnm, rfl⟩ hx hb hts hown hW dMod_init_131 (fun H locs hW => ?_)
  refine lv_aload_n hx hb dMod_init_134 rfl (lv_at hl 0 rfl) ?_
  refine lv_sipush (v := (420 : Int32)) hx hb dMod_init_135 (by decide) ?_
  refine mn_i (n := 16) (N := 420) rfl ⟨by decide, rfl, by decide⟩ NI_int hx hb hts hW (by decide) ⟨Nat.le_of_ble_eq_true rfl, Nat.le_of_ble_eq_true rfl⟩ dMod_init_138 (fun H hW => ?_)
  refine mn_p (n := 16) FMod_60 GMod_act ⟨rfl, rfl⟩ (by decide) ⟨hnm, rfl⟩ hx hb hts hown hW dMod_init_140 (fun H locs hW => ?_)
  refine lv_aload_n hx hb dMod_init_143 rfl (lv_at hl 0 rfl) ?_
  refine lv_bipush (v := (21 : Int32)) hx hb dMod_init_144 (by decide) ?_
  refine mn_i (n := 17) (N := 21) rfl ⟨by decide, rfl, by decide⟩ NI_int hx hb hts hW (by decide) ⟨Nat.le_of_ble_eq_true rfl, Nat.le_of_ble_eq_true rfl⟩ dMod_init_146 (fun H hW => ?_)
  refine mn_p (n := 17) FMod_63 GMod_next ⟨rfl, rfl⟩ (by decide) ⟨hnm, rfl⟩ hx hb hts hown hW dMod_init_148 (fun H locs hW => ?_)
  refine lv_aload_n hx hb dMod_init_151 rfl (lv_at hl 0 rfl) ?_
  refine lv_bipush (v := (21 : Int32)) hx hb dMod_init_152 (by decide) ?_
  refine mn_l (n := 18) (N := 21) rfl ⟨by decide, rfl, by decide⟩ NI_long hx hb hts hW (by decide) ⟨Nat.le_of_ble_eq_true rfl, Nat.le_of_ble_eq_true rfl⟩ dMod_init_154 (fun H hW => ?_)
  refine mn_p (n := 18) FMod_66 GMod_deviation ⟨rfl, rfl⟩ (by decide) ⟨hnm, rfl⟩ hx hb hts hown hW dMod_init_156 (fun H locs hW => ?_)
  refine lv_aload_n hx hb dMod_init_159 rfl (lv_at hl 0 rfl) ?_
  refine lv_bipush (v := (21 : Int32)) hx hb dMod_init_160 (by decide) ?_
  refine mn_z (n := 19) (N := 21) rfl ⟨by decide, rfl, by decide⟩ NI_boolean hx hb hts hW (by decide) ⟨Nat.le_of_ble_eq_true rfl, Nat.le_of_ble_eq_true rfl⟩ dMod_init_162 (fun H hW => ?_)
  refine mn_p (n := 19) FMod_69 GMod_runs ⟨rfl, rfl⟩ (by decide) ⟨hnm, rfl⟩ hx hb hts hown hW dMod_init_164 (fun H locs hW => ?_)
  refine lv_aload_n hx hb dMod_init_167 rfl (lv_at hl 0 rfl) ?_
  refine lv_bipush (v := (21 : Int32)) hx hb dMod_init_168 (by decide) ?_
  refine mn_l (n := 20) (N := 21) rfl ⟨by decide, rfl, by decide⟩ NI_long hx hb hts hW (by decide) ⟨Nat.le_of_ble_eq_true rfl, Nat.le_of_ble_eq_true rfl⟩ dMod_init_170 (fun H hW => ?_)
  refine mn_p (n := 20) FMod_72 GMod_due ⟨rfl, rfl⟩ (by decide) ⟨hnm, rfl⟩ hx hb hts hown hW dMod_init_172 (fun H locs hW => ?_)
  refine lv_aload_n hx hb dMod_init_175 rfl (lv_at hl 0 rfl) ?_
  refine lv_bipush (v := (21 : Int32)) hx hb dMod_init_176 (by decide) ?_
  refine mn_i (n := 21) (N := 21) rfl ⟨by decide, rfl, by decide⟩ NI_int hx hb hts hW (by decide) ⟨Nat.le_of_ble_eq_true rfl, Nat.le_of_ble_eq_true rfl⟩ dMod_init_178 (fun H hW => ?_)
  refine mn_p (n := 21) FMod_75 GMod_place ⟨rfl, rfl⟩ (by decide) ⟨hnm, rfl⟩ hx hb hts hown hW dMod_init_180 (fun H locs hW => ?_)
  refine lv_aload_n hx hb dMod_init_183 rfl (lv_at hl 0 rfl) ?_
  refine lv_sipush (v := (3000 : Int32)) hx hb dMod_init_184 (by decide) ?_
  refine mn_i (n := 22) (N := 3000) rfl ⟨by decide, rfl, by decide⟩ NI_int hx hb hts hW (by decide) ⟨Nat.le_of_ble_eq_true rfl, Nat.le_of_ble_eq_true rfl⟩ dMod_init_187 (fun H hW => ?_)
  refine mn_p (n := 22) FMod_78 GMod_kind ⟨rfl, rfl⟩ (by decide) ⟨hnm, rfl⟩ hx hb hts hown hW dMod_init_189 (fun H locs hW => ?_)
  refine lv_aload_n hx hb dMod_init_192 rfl (lv_at hl 0 rfl) ?_
  refine lv_sipush (v := (3000 : Int32)) hx hb dMod_init_193 (by decide) ?_
  refine mn_i (n := 23) (N := 3000) rfl ⟨by decide, rfl, by decide⟩ NI_int hx hb hts hW (by decide) ⟨Nat.le_of_ble_eq_true rfl, Nat.le_of_ble_eq_true rfl⟩ dMod_init_196 (fun H hW => ?_)
  refine mn_p (n := 23) FMod_81 GMod_number ⟨rfl, rfl⟩ (by decide) ⟨hnm, rfl⟩ hx hb hts hown hW dMod_init_198 (fun H locs hW => ?_)
  refine lv_aload_n hx hb dMod_init_201 rfl (lv_at hl 0 rfl) ?_
  refine lv_sipush (v := (3000 : Int32)) hx hb dMod_init_202 (by decide) ?_
  refine mn_i (n := 24) (N := 3000) rfl ⟨by decide, rfl, by decide⟩ NI_int hx hb hts hW (by decide) ⟨Nat.le_of_ble_eq_true rfl, Nat.le_of_ble_eq_true rfl⟩ dMod_init_205 (fun H hW => ?_)
  refine mn_p (n := 24) FMod_84 GMod_where ⟨rfl, rfl⟩ (by decide) ⟨hnm, rfl⟩ hx hb hts hown hW dMod_init_207 (fun H locs hW => ?_)
  refine lv_aload_n hx hb dMod_init_210 rfl (lv_at hl 0 rfl) ?_
  refine lv_sipush (v := (3000 : Int32)) hx hb dMod_init_211 (by decide) ?_
  refine mn_i (n := 25) (N := 3000) rfl ⟨by decide, rfl, by decide⟩ NI_int hx hb hts hW (by decide) ⟨Nat.le_of_ble_eq_true rfl, Nat.le_of_ble_eq_true rfl⟩ dMod_init_214 (fun H hW => ?_)
  refine mn_p (n := 25) FMod_87 GMod_value ⟨rfl, rfl⟩ (by decide) ⟨hnm, rfl⟩ hx hb hts hown hW dMod_init_216 (fun H locs hW => ?_)
  refine lv_aload_n hx hb dMod_init_219 rfl (lv_at hl 0 rfl) ?_
  refine lv_bipush (v := (24 : Int32)) hx hb dMod_init_220 (by decide) ?_
  refine mn_i (n := 26) (N := 24) rfl ⟨by decide, rfl, by decide⟩ NI_int hx hb hts hW (by decide) ⟨Nat.le_of_ble_eq_true rfl, Nat.le_of_ble_eq_true rfl⟩ dMod_init_222 (fun H hW => ?_)
  refine mn_p (n := 26) FMod_90 GMod_stepped ⟨rfl, rfl⟩ (by decide) ⟨hnm, rfl⟩ hx hb hts hown hW dMod_init_224 (fun H locs hW => ?_)
  refine lv_aload_n hx hb dMod_init_227 rfl (lv_at hl 0 rfl) ?_
  refine lv_bipush (v := (24 : Int32)) hx hb dMod_init_228 (by decide) ?_
  refine mn_i (n := 27) (N := 24) rfl ⟨by decide, rfl, by decide⟩ NI_int hx hb hts hW (by decide) ⟨Nat.le_of_ble_eq_true rfl, Nat.le_of_ble_eq_true rfl⟩ dMod_init_230 (fun H hW => ?_)
  refine mn_p (n := 27) FMod_93 GMod_goesOn ⟨rfl, rfl⟩ (by decide) ⟨hnm, rfl⟩ hx hb hts hown hW dMod_init_232 (fun H locs hW => ?_)
  have hW2 := hsP_full hW
  refine e_v hsz hx hb hr hlk hW2 (fun a ha => ?_) (Nat.le_of_ble_eq_true rfl) (Nat.le_of_ble_eq_true rfl) dMod_init_235 (by simp only [Nat.add_assoc, Nat.reduceAdd])
  have ha : (if a = o then 9 else if o < a ∧ a < o + 1 + 0 then mK (a - (o + 1)) else 0) ≠ 0 := ha
  by_cases h1 : a = o
  · subst h1; exact ⟨hsM_k.trans hsP_k.symm, rfl⟩
  · rw [if_neg h1, if_neg (by omega)] at ha
    exact absurd rfl ha
