-- THE LAW'S LOOP
theorem and15 (x : Int32) : ∃ j : Nat, j ≤ 15 ∧ x &&& (15 : Int32) = nI j := by
  refine ⟨(x &&& (15 : Int32)).toBitVec.toNat, ?_, ?_⟩
  · rw [Int32.toBitVec_and, BitVec.toNat_and]
    exact Nat.and_le_right
  · apply Int32.toBitVec_inj.mp
    show _ = BitVec.ofNat 32 _
    rw [BitVec.ofNat_toNat, BitVec.setWidth_eq]
set_option maxRecDepth 20000 in
theorem law_body {p : Program} {l : Launch} {e : Env} {s : State} {m : MethodId} {below : List Frame} {meth : Method} {c : Code} {H : Heap} {locs : List Loc} {ls : Array Slot} {b L n x o ow h0 t0 kt : Nat} {xs : Nat → Int32} {D : va_G} {AC : Nat → ClassId} {S : HS} {σ : MS} {M : AM} {T : Nat → Nat → Bool} {sa : Nat} (hl0 : l.stackTraces = false) (hTh : ThW sa #[.ref b] s) (C : LX p s m c #[.ref b] b L xs) (P : P2 D AC s o H locs S σ) (hR : RO M x T n kt h0 t0 S σ) (ko : kd S ow = 12) (no : an S ow = 1) (hl : lv_has ls 7 (LV b x o ow n)) (hi : 7 * n + 6 < L) (kk : KK p l e s m below meth c b x o ow h0 t0 n D AC) : W p l e room_1 s m #[.ref b] below meth c H locs (36 + 24 * n) (14407 + 12012 * n) (lw_Z below #[.ref b] s) (F0 m 33 ls []) := by
  obtain ⟨hx, hb, hml, hown, hts, hX, hbl, hL⟩ := id C
  have l0 : ls[0]? = some (.val (.ref b)) := lv_at hl 4 rfl
  have l4 : ls[4]? = some (.val (.int (nI (7 * n)))) := lv_at hl 0 rfl
  refine lv_aload_n hx hb dLaw_law_33 rfl l0 ?_
  refine lv_iload hx hb dLaw_law_34 l4 ?_
  refine va_sld hx hb hX hbl (Nat.not_le.mpr hbl) P.1.wS (nI_in (show 7 * n < L by omega) (by omega)) dLaw_law_36 ?_
  refine lv_bipush (v := (15 : Int32)) hx hb dLaw_law_37 (by decide) ?_
  refine lv_iand hx hb dLaw_law_39 ?_
  obtain ⟨j, hj, ej⟩ := and15 (xs (nI (7 * n)).toNatClampNeg)
  rw [ej]
  rcases (show j = 0 ∨ j = 1 ∨ j = 2 ∨ j = 3 ∨ j = 4 ∨ j = 5 ∨ j = 6 ∨ j = 7 ∨ j = 8 ∨ j = 9 ∨ j = 10 ∨ j = 11 ∨ 12 ≤ j by omega) with rfl | rfl | rfl | rfl | rfl | rfl | rfl | rfl | rfl | rfl | rfl | rfl | hj2
  · refine lv_tableIn (off := 64) (tgt := 104) hx hb dLaw_law_40 (by decide) (by decide) rfl (by decide) ?_
    exact law_counter hl0 hTh C P hR ko no hl hi kk
  · refine lv_tableIn (off := 196) (tgt := 236) hx hb dLaw_law_40 (by decide) (by decide) rfl (by decide) ?_
    exact law_alarm C P hR ko no hl hi kk
  · refine lv_tableIn (off := 245) (tgt := 285) hx hb dLaw_law_40 (by decide) (by decide) rfl (by decide) ?_
    exact law_set C P hR ko no hl hi kk
  · refine lv_tableIn (off := 388) (tgt := 428) hx hb dLaw_law_40 (by decide) (by decide) rfl (by decide) ?_
    exact law_cancel C P hR ko no hl hi kk
  · refine lv_tableIn (off := 413) (tgt := 453) hx hb dLaw_law_40 (by decide) (by decide) rfl (by decide) ?_
    exact law_table C P hR ko no hl hi kk
  · refine lv_tableIn (off := 482) (tgt := 522) hx hb dLaw_law_40 (by decide) (by decide) rfl (by decide) ?_
    exact law_point C P hR ko no hl hi kk
  · refine lv_tableIn (off := 563) (tgt := 603) hx hb dLaw_law_40 (by decide) (by decide) rfl (by decide) ?_
    exact law_start C P hR ko no hl hi kk
  · refine lv_tableIn (off := 632) (tgt := 672) hx hb dLaw_law_40 (by decide) (by decide) rfl (by decide) ?_
    exact law_next C P hR ko no hl hi kk
  · refine lv_tableIn (off := 669) (tgt := 709) hx hb dLaw_law_40 (by decide) (by decide) rfl (by decide) ?_
    exact law_sync C P hR ko no hl hi kk
  · refine lv_tableIn (off := 738) (tgt := 778) hx hb dLaw_law_40 (by decide) (by decide) rfl (by decide) ?_
    exact law_tick C P hR ko no hl hi kk
  · refine lv_tableIn (off := 807) (tgt := 847) hx hb dLaw_law_40 (by decide) (by decide) rfl (by decide) ?_
    exact law_expired C P hR ko no hl hi kk
  · refine lv_tableIn (off := 844) (tgt := 884) hx hb dLaw_law_40 (by decide) (by decide) rfl (by decide) ?_
    exact law_deviation C P hR ko no hl hi kk
  · refine lv_tableOut (tgt := 910) hx hb dLaw_law_40 (Or.inr (by rw [nI_toInt (by omega)]; omega)) (by decide) ?_
    exact W.widen (by omega) (by omega) (kk _ _ _ _ _ _ _ _ P (RO_n hR) ko no hl)
theorem law_head {p : Program} {l : Launch} {e : Env} {s : State} {m : MethodId} {below : List Frame} {meth : Method} {c : Code} {H : Heap} {locs : List Loc} {ls : Array Slot} {b L n x o ow h0 t0 kt : Nat} {xs : Nat → Int32} {D : va_G} {AC : Nat → ClassId} {S : HS} {σ : MS} {M : AM} {T : Nat → Nat → Bool} (hr : meth.sig.returnType = ret) (hlk : meth.locks = false) (C : LX p s m c #[.ref b] b L xs) (P : P2 D AC s o H locs S σ) (hR : RO M x T n kt h0 t0 S σ) (ko : kd S ow = 12) (no : an S ow = 1) (hl : lv_has ls 7 (LV b x o ow n)) (hn : n ≤ 512) (kb : 7 * n + 6 < L → W p l e room_1 s m #[.ref b] below meth c H locs (36 + 24 * n) (14407 + 12012 * n) (lw_Z below #[.ref b] s) (F0 m 33 ls [])) : W p l e room_1 s m #[.ref b] below meth c H locs (36 + 24 * n) (14407 + 12012 * n) (lw_Z below #[.ref b] s) (F0 m 23 ls []) := by
  obtain ⟨hx, hb, hml, hown, hts, hX, hbl, hL⟩ := id C
  have l0 : ls[0]? = some (.val (.ref b)) := lv_at hl 4 rfl
  have l4 : ls[4]? = some (.val (.int (nI (7 * n)))) := lv_at hl 0 rfl
  refine lv_iload hx hb dLaw_law_23 l4 ?_
  refine lv_aload_n hx hb dLaw_law_25 rfl l0 ?_
  refine va_slen hx hb hX hbl (Nat.not_le.mpr hbl) P.1.wS dLaw_law_26 ?_
  refine lv_bipush (v := (7 : Int32)) hx hb dLaw_law_27 (by decide) ?_
  refine lv_isub hx hb dLaw_law_29 ?_
  refine lv_icmp_gt (tgt := 916) hx hb dLaw_law_30 (by decide) (fun _ => ?_) (fun z => kb ?_)
  · refine lv_iconst (v := (1 : Int32)) hx hb dLaw_law_916 (by decide) ?_
    refine va_forget (fun q hq => P.1.wS.2.2 q hq) ?_
    refine W.widen (k := 601024) (n := 7293034) (by omega) (by omega) ?_
    exact lw_ret hx hb hr hlk dLaw_law_917
  · have e7 : (7 : Int32).toInt = 7 := rfl
    have eL : (Int32.ofNat L).toInt = (L : Int) := nI_toInt (by omega)
    rw [Int32.lt_iff_toInt_lt, i32_sub (by rw [eL, e7]; omega) (by rw [eL, e7]; omega), eL, e7, nI_toInt (by omega)] at z
    omega
theorem law_loop {p : Program} {l : Launch} {e : Env} {s : State} {m : MethodId} {below : List Frame} {meth : Method} {c : Code} {b L x o ow h0 t0 sa : Nat} {xs : Nat → Int32} {D : va_G} {AC : Nat → ClassId} (hl0 : l.stackTraces = false) (hTh : ThW sa #[.ref b] s) (hr : meth.sig.returnType = ret) (hlk : meth.locks = false) (C : LX p s m c #[.ref b] b L xs) : ∀ (k n : Nat), n + k = 512 → ∀ (H : Heap) (locs : List Loc) (S : HS) (σ : MS) (M : AM) (T : Nat → Nat → Bool) (kt : Nat) (ls : Array Slot), P2 D AC s o H locs S σ → RO M x T n kt h0 t0 S σ → kd S ow = 12 → an S ow = 1 → lv_has ls 7 (LV b x o ow n) → W p l e room_1 s m #[.ref b] below meth c H locs (36 + 24 * n) (14407 + 12012 * n) (lw_Z below #[.ref b] s) (F0 m 23 ls [])
  | 0, n, hk, H, locs, S, σ, M, T, kt, ls, P, hR, ko, no, hl => law_head hr hlk C P hR ko no hl (by omega) (fun hi => by
    have hL := C.2.2.2.2.2.2.2
    omega)
  | k + 1, n, hk, H, locs, S, σ, M, T, kt, ls, P, hR, ko, no, hl => law_head hr hlk C P hR ko no hl (by omega) (fun hi => law_body hl0 hTh C P hR ko no hl hi (fun H1 locs1 S1 σ1 M1 T1 kt1 ls1 P1 hR1 ko1 no1 hl1 => by
    obtain ⟨hx, hb, -⟩ := id C
    refine lv_iinc (k := 0) (v := nI (7 * (n + 1))) hx hb dLaw_law_910 hl1 rfl (by rw [show Int32.ofInt 7 = nI 7 from rfl, nI_add]; rfl) (Nat.le_of_ble_eq_true rfl) rfl (fun ls2 hl2 => ?_)
    refine lv_goto (tgt := 23) hx hb dLaw_law_913 (by decide) ?_
    exact law_loop hl0 hTh hr hlk C k (n + 1) (by omega) H1 locs1 S1 σ1 M1 T1 kt1 ls2 P1 hR1 ko1 no1 hl2))
