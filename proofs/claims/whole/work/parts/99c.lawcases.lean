-- THE LAW'S CALLS
abbrev LV (b x o ow n : Nat) : List (Nat × Value) := [(4, .int (nI (7 * n))), (3, .ref ow), (2, .ref o), (1, .ref x), (0, .ref b)]
def KK (p : Program) (l : Launch) (e : Env) (s : State) (m : MethodId) (below : List Frame) (meth : Method) (c : Code) (b x o ow h0 t0 n : Nat) (D : va_G) (AC : Nat → ClassId) : Prop := ∀ (H : Heap) (locs : List Loc) (S : HS) (σ : MS) (M : AM) (T : Nat → Nat → Bool) (kt : Nat) (ls : Array Slot), P2 D AC s o H locs S σ → RO M x T (n + 1) kt h0 t0 S σ → kd S ow = 12 → an S ow = 1 → lv_has ls 7 (LV b x o ow n) → W p l e room_1 s m #[.ref b] below meth c H locs (36 + 24 * (n + 1)) (14407 + 12012 * (n + 1)) (lw_Z below #[.ref b] s) (F0 m 910 ls [])
theorem rm_ok {n fr lo maxL mc ms : Nat} (hn : n < 512) (hc : mc ≤ 24) (hs : ms ≤ 12012) (h1 : fr + 1 ≤ 2048) (h2 : 8 + (maxL + 11) + lo ≤ 84000) : RmOk room_1 (36 + 24 * n) (14407 + 12012 * n) fr lo maxL mc ms := ⟨⟨h1, h2⟩, by show 36 + 24 * n + mc ≤ 601024; omega, by show 14407 + 12012 * n + ms ≤ 7293034; omega⟩
theorem rm_ok2 {n fr lo maxL mc ms : Nat} (hn : n < 512) (hc : mc ≤ 24) (hs : ms ≤ 12012) (h1 : fr + 1 ≤ 2048) (h2 : 8 + (maxL + 11) + lo ≤ 84000) : RmOk room_1 (36 + 24 * n + mc) (14407 + 12012 * n + ms) fr lo maxL 0 0 := ⟨⟨h1, h2⟩, by show 36 + 24 * n + mc + 0 ≤ 601024; omega, by show 14407 + 12012 * n + ms + 0 ≤ 7293034; omega⟩
theorem phi_le {S : HS} {x : Nat} : phi S x ≤ 24 ∧ psi S x ≤ 12012 := by
  unfold phi psi pgl
  omega
theorem s_Z {p : Program} {l : Launch} {e : Env} {R : Room} {s : State} {m : MethodId} {args : Array Value} {below : List Frame} {meth : Method} {c : Code} {H : Heap} {locs : List Loc} {cells slots : Nat} {Q : State → Prop} {ls : Array Slot} {st : List Value} {b L pc : Nat} {xs : Nat → Int32} {v : Int32} (C : LX p s m c args b L xs) (d : decode code pc = .ok (.ifCond .eq 7, 3) ∧ decode code (pc + 3) = .ok (.iconst 1, 1) ∧ decode code (pc + 4) = .ok (.goto 4, 3) ∧ decode code (pc + 7) = .ok (.iconst 0, 1))
    (kk : W p l e R s m args below meth c H locs cells slots Q (F0 m (pc + 8) ls (.int (if v = 0 then 0 else 1) :: st))) : W p l e R s m args below meth c H locs cells slots Q (F0 m pc ls (.int v :: st)) := by
  obtain ⟨hx, hb, -⟩ := C
  obtain ⟨d0, d1, d2, d3⟩ := d
  refine lv_if_eq (tgt := pc + 7) hx hb d0 (by omega) (fun z => ?_) (fun z => ?_)
  · rw [if_pos z] at kk
    exact lv_iconst (v := (0 : Int32)) hx hb d3 (by decide) kk
  · rw [if_neg z] at kk
    refine lv_iconst (v := (1 : Int32)) hx hb d1 (by decide) ?_
    exact lv_goto (tgt := pc + 8) hx hb d2 (by omega) kk
set_option maxRecDepth 20000 in
theorem law_alarm {p : Program} {l : Launch} {e : Env} {s : State} {m : MethodId} {below : List Frame} {meth : Method} {c : Code} {H : Heap} {locs : List Loc} {ls : Array Slot} {b L n x o ow h0 t0 kt : Nat} {xs : Nat → Int32} {D : va_G} {AC : Nat → ClassId} {S : HS} {σ : MS} {M : AM} {T : Nat → Nat → Bool} (C : LX p s m c #[.ref b] b L xs) (P : P2 D AC s o H locs S σ) (hR : RO M x T n kt h0 t0 S σ) (ko : kd S ow = 12) (no : an S ow = 1) (hl : lv_has ls 7 (LV b x o ow n)) (hi : 7 * n + 6 < L) (kk : KK p l e s m below meth c b x o ow h0 t0 n D AC) : W p l e room_1 s m #[.ref b] below meth c H locs (36 + 24 * n) (14407 + 12012 * n) (lw_Z below #[.ref b] s) (F0 m 236 ls []) := by
  obtain ⟨hx, hb, hml, hown, hts, -, -, hL⟩ := id C
  have l0 : ls[0]? = some (.val (.ref b)) := lv_at hl 4 rfl
  have l4 : ls[4]? = some (.val (.int (nI (7 * n)))) := lv_at hl 0 rfl
  have hn5 : n < 512 := by omega
  have hI := hR.1.1.1
  have hO := hR.2.2.2.2.1.1.1
  refine lv_aload_n hx hb dLaw_law_236 rfl (lv_at hl 3 rfl) ?_
  refine s_E (k := 1) C P.1.wS l0 l4 (by decide) (by omega) ⟨dLaw_law_237, dLaw_law_238, dLaw_law_240, dLaw_law_241, dLaw_law_242⟩ ?_
  refine s_E (k := 2) C P.1.wS l0 l4 (by decide) (by omega) ⟨dLaw_law_243, dLaw_law_244, dLaw_law_246, dLaw_law_247, dLaw_law_248⟩ ?_
  refine s_E (k := 3) C P.1.wS l0 l4 (by decide) (by omega) ⟨dLaw_law_249, dLaw_law_250, dLaw_law_252, dLaw_law_253, dLaw_law_254⟩ ?_
  refine k_Vi (K := 8) (As := [.int (xs (7 * n + 1)), .int (xs (7 * n + 2)), .int (xs (7 * n + 3))]) (rest := []) (c_alarm l D AC S x (xs (7 * n + 1)) (xs (7 * n + 2)) (xs (7 * n + 3)) hI.2.1 hI.2.2.1 hR.2.1.2.1) CLaw_31 ⟨by decide, by decide, _, rfl, rfl⟩ hx hb hml hown hts P.1 hI.2.1 hl.1 rfl rfl (Nat.le_of_ble_eq_true rfl) (rm_ok hn5 (by omega) (by omega) (Nat.le_of_ble_eq_true rfl) (Nat.le_of_ble_eq_true rfl)) dLaw_law_255 (fun r1 S1 H1 locs1 e1 hW1 m1 F1 => ?_)
  obtain ⟨rfl, rfl⟩ := e1
  have P1 := P.cl hW1 F1
  refine lv_aload_n hx hb dLaw_law_258 rfl (lv_at hl 2 rfl) ?_
  refine s_E (k := 1) C P1.1.wS l0 l4 (by decide) (by omega) ⟨dLaw_law_259, dLaw_law_260, dLaw_law_262, dLaw_law_263, dLaw_law_264⟩ ?_
  refine s_E (k := 2) C P1.1.wS l0 l4 (by decide) (by omega) ⟨dLaw_law_265, dLaw_law_266, dLaw_law_268, dLaw_law_269, dLaw_law_270⟩ ?_
  refine s_E (k := 3) C P1.1.wS l0 l4 (by decide) (by omega) ⟨dLaw_law_271, dLaw_law_272, dLaw_law_274, dLaw_law_275, dLaw_law_276⟩ ?_
  refine k_Vi (K := 9) (As := [.int (xs (7 * n + 1)), .int (xs (7 * n + 2)), .int (xs (7 * n + 3))]) (rest := [.int _]) (c_Malarm l D AC o _ _ σ (xs (7 * n + 1)) (xs (7 * n + 2)) (xs (7 * n + 3)) hO) CLaw_35 ⟨by decide, by decide, _, rfl, rfl⟩ hx hb hml hown hts P1.2.1 hsM_k hl.1 rfl rfl (Nat.le_of_ble_eq_true rfl) (rm_ok2 hn5 (by omega) (by omega) (Nat.le_of_ble_eq_true rfl) (Nat.le_of_ble_eq_true rfl)) dLaw_law_277 (fun r2 S2 H2 locs2 e2 hW2 m2 F2 => ?_)
  obtain ⟨rfl, rfl⟩ := e2
  have P3 := P1.mo hW2 F2
  obtain ⟨eR, M3, T3, hR3⟩ := o_alarm hR (xs (7 * n + 1)) (xs (7 * n + 2)) (xs (7 * n + 3))
  refine lv_icmp_eq (tgt := 910) hx hb dLaw_law_280 (by decide) (fun _ => ?_) (fun z => absurd eR z)
  exact W.widen (by omega) (by omega) (kk _ _ _ _ _ _ _ _ P3 hR3 (m1.k ko (by decide)) (m1.n ko (by decide) no) hl)
set_option maxRecDepth 20000 in
theorem law_set {p : Program} {l : Launch} {e : Env} {s : State} {m : MethodId} {below : List Frame} {meth : Method} {c : Code} {H : Heap} {locs : List Loc} {ls : Array Slot} {b L n x o ow h0 t0 kt : Nat} {xs : Nat → Int32} {D : va_G} {AC : Nat → ClassId} {S : HS} {σ : MS} {M : AM} {T : Nat → Nat → Bool} (C : LX p s m c #[.ref b] b L xs) (P : P2 D AC s o H locs S σ) (hR : RO M x T n kt h0 t0 S σ) (ko : kd S ow = 12) (no : an S ow = 1) (hl : lv_has ls 7 (LV b x o ow n)) (hi : 7 * n + 6 < L) (kk : KK p l e s m below meth c b x o ow h0 t0 n D AC) : W p l e room_1 s m #[.ref b] below meth c H locs (36 + 24 * n) (14407 + 12012 * n) (lw_Z below #[.ref b] s) (F0 m 285 ls []) := by
  obtain ⟨hx, hb, hml, hown, hts, -, -, hL⟩ := id C
  have l0 : ls[0]? = some (.val (.ref b)) := lv_at hl 4 rfl
  have l4 : ls[4]? = some (.val (.int (nI (7 * n)))) := lv_at hl 0 rfl
  have hn5 : n < 512 := by omega
  have hI := hR.1.1.1
  have hO := hR.2.2.2.2.1.1.1
  refine lv_aload_n hx hb dLaw_law_285 rfl (lv_at hl 3 rfl) ?_
  refine s_E (k := 1) C P.1.wS l0 l4 (by decide) (by omega) ⟨dLaw_law_286, dLaw_law_287, dLaw_law_289, dLaw_law_290, dLaw_law_291⟩ ?_
  refine s_L (k := 2) (k' := 3) C P.1.wS l0 l4 (by decide) (by decide) (by omega) (by omega) ⟨dLaw_law_292, dLaw_law_293, dLaw_law_295, dLaw_law_296, dLaw_law_297⟩ ⟨dLaw_law_302, dLaw_law_303, dLaw_law_305, dLaw_law_306, dLaw_law_307⟩ ⟨dLaw_law_298, dLaw_law_299, dLaw_law_301, dLaw_law_308, dLaw_law_309, dLaw_law_312, dLaw_law_313⟩ ?_
  refine s_L (k := 4) (k' := 5) C P.1.wS l0 l4 (by decide) (by decide) (by omega) (by omega) ⟨dLaw_law_314, dLaw_law_315, dLaw_law_317, dLaw_law_318, dLaw_law_319⟩ ⟨dLaw_law_324, dLaw_law_325, dLaw_law_327, dLaw_law_328, dLaw_law_329⟩ ⟨dLaw_law_320, dLaw_law_321, dLaw_law_323, dLaw_law_330, dLaw_law_331, dLaw_law_334, dLaw_law_335⟩ ?_
  refine s_B (k := 6) C P.1.wS l0 l4 (by decide) (by omega) ⟨dLaw_law_336, dLaw_law_337, dLaw_law_339, dLaw_law_341, dLaw_law_342⟩ ?_
  refine s_Z C ⟨dLaw_law_343, dLaw_law_346, dLaw_law_347, dLaw_law_350⟩ ?_
  refine k_Vi (K := 8) (As := [.int (xs (7 * n + 1)), .long (lw2 (xs (7 * n + 2)) (xs (7 * n + 3))), .long (lw2 (xs (7 * n + 4)) (xs (7 * n + 5))), .int (if (xs (7 * n + 6)) = 0 then 0 else 1)]) (rest := []) (c_set l D AC S x (xs (7 * n + 1)) (lw2 (xs (7 * n + 2)) (xs (7 * n + 3))) (lw2 (xs (7 * n + 4)) (xs (7 * n + 5))) (if (xs (7 * n + 6)) = 0 then 0 else 1) hI.2.1 hI.2.2.1 hR.2.1.2.1) CLaw_36 ⟨by decide, by decide, _, rfl, rfl⟩ hx hb hml hown hts P.1 hI.2.1 hl.1 rfl rfl (Nat.le_of_ble_eq_true rfl) (rm_ok hn5 (by omega) (by omega) (Nat.le_of_ble_eq_true rfl) (Nat.le_of_ble_eq_true rfl)) dLaw_law_351 (fun r1 S1 H1 locs1 e1 hW1 m1 F1 => ?_)
  obtain ⟨rfl, rfl⟩ := e1
  have P1 := P.cl hW1 F1
  refine lv_aload_n hx hb dLaw_law_354 rfl (lv_at hl 2 rfl) ?_
  refine s_E (k := 1) C P1.1.wS l0 l4 (by decide) (by omega) ⟨dLaw_law_355, dLaw_law_356, dLaw_law_358, dLaw_law_359, dLaw_law_360⟩ ?_
  refine s_L (k := 2) (k' := 3) C P1.1.wS l0 l4 (by decide) (by decide) (by omega) (by omega) ⟨dLaw_law_361, dLaw_law_362, dLaw_law_364, dLaw_law_365, dLaw_law_366⟩ ⟨dLaw_law_371, dLaw_law_372, dLaw_law_374, dLaw_law_375, dLaw_law_376⟩ ⟨dLaw_law_367, dLaw_law_368, dLaw_law_370, dLaw_law_377, dLaw_law_378, dLaw_law_381, dLaw_law_382⟩ ?_
  refine s_L (k := 4) (k' := 5) C P1.1.wS l0 l4 (by decide) (by decide) (by omega) (by omega) ⟨dLaw_law_383, dLaw_law_384, dLaw_law_386, dLaw_law_387, dLaw_law_388⟩ ⟨dLaw_law_393, dLaw_law_394, dLaw_law_396, dLaw_law_397, dLaw_law_398⟩ ⟨dLaw_law_389, dLaw_law_390, dLaw_law_392, dLaw_law_399, dLaw_law_400, dLaw_law_403, dLaw_law_404⟩ ?_
  refine s_B (k := 6) C P1.1.wS l0 l4 (by decide) (by omega) ⟨dLaw_law_405, dLaw_law_406, dLaw_law_408, dLaw_law_410, dLaw_law_411⟩ ?_
  refine s_Z C ⟨dLaw_law_412, dLaw_law_415, dLaw_law_416, dLaw_law_419⟩ ?_
  refine k_Vi (K := 9) (As := [.int (xs (7 * n + 1)), .long (lw2 (xs (7 * n + 2)) (xs (7 * n + 3))), .long (lw2 (xs (7 * n + 4)) (xs (7 * n + 5))), .int (if (xs (7 * n + 6)) = 0 then 0 else 1)]) (rest := [.int _]) (c_Mset l D AC o _ _ σ (xs (7 * n + 1)) (lw2 (xs (7 * n + 2)) (xs (7 * n + 3))) (lw2 (xs (7 * n + 4)) (xs (7 * n + 5))) (if (xs (7 * n + 6)) = 0 then 0 else 1) hO) CLaw_40 ⟨by decide, by decide, _, rfl, rfl⟩ hx hb hml hown hts P1.2.1 hsM_k hl.1 rfl rfl (Nat.le_of_ble_eq_true rfl) (rm_ok2 hn5 (by omega) (by omega) (Nat.le_of_ble_eq_true rfl) (Nat.le_of_ble_eq_true rfl)) dLaw_law_420 (fun r2 S2 H2 locs2 e2 hW2 m2 F2 => ?_)
  obtain ⟨rfl, rfl⟩ := e2
  have P3 := P1.mo hW2 F2
  obtain ⟨eR, hR3⟩ := o_set hR (by omega) (xs (7 * n + 1)) (lw2 (xs (7 * n + 2)) (xs (7 * n + 3))) (lw2 (xs (7 * n + 4)) (xs (7 * n + 5))) (if (xs (7 * n + 6)) = 0 then 0 else 1)
  refine lv_icmp_eq (tgt := 910) hx hb dLaw_law_423 (by decide) (fun _ => ?_) (fun z => absurd eR z)
  exact W.widen (by omega) (by omega) (kk _ _ _ _ _ _ _ _ P3 hR3 (m1.k ko (by decide)) (m1.n ko (by decide) no) hl)
set_option maxRecDepth 20000 in
theorem law_cancel {p : Program} {l : Launch} {e : Env} {s : State} {m : MethodId} {below : List Frame} {meth : Method} {c : Code} {H : Heap} {locs : List Loc} {ls : Array Slot} {b L n x o ow h0 t0 kt : Nat} {xs : Nat → Int32} {D : va_G} {AC : Nat → ClassId} {S : HS} {σ : MS} {M : AM} {T : Nat → Nat → Bool} (C : LX p s m c #[.ref b] b L xs) (P : P2 D AC s o H locs S σ) (hR : RO M x T n kt h0 t0 S σ) (ko : kd S ow = 12) (no : an S ow = 1) (hl : lv_has ls 7 (LV b x o ow n)) (hi : 7 * n + 6 < L) (kk : KK p l e s m below meth c b x o ow h0 t0 n D AC) : W p l e room_1 s m #[.ref b] below meth c H locs (36 + 24 * n) (14407 + 12012 * n) (lw_Z below #[.ref b] s) (F0 m 428 ls []) := by
  obtain ⟨hx, hb, hml, hown, hts, -, -, hL⟩ := id C
  have l0 : ls[0]? = some (.val (.ref b)) := lv_at hl 4 rfl
  have l4 : ls[4]? = some (.val (.int (nI (7 * n)))) := lv_at hl 0 rfl
  have hn5 : n < 512 := by omega
  have hI := hR.1.1.1
  have hO := hR.2.2.2.2.1.1.1
  refine lv_aload_n hx hb dLaw_law_428 rfl (lv_at hl 3 rfl) ?_
  refine s_E (k := 1) C P.1.wS l0 l4 (by decide) (by omega) ⟨dLaw_law_429, dLaw_law_430, dLaw_law_432, dLaw_law_433, dLaw_law_434⟩ ?_
  refine k_Vi (K := 8) (As := [.int (xs (7 * n + 1))]) (rest := []) (c_cancel l D AC S x (xs (7 * n + 1)) hI.2.1 hI.2.2.1 hR.2.1.2.1) CLaw_41 ⟨by decide, by decide, _, rfl, rfl⟩ hx hb hml hown hts P.1 hI.2.1 hl.1 rfl rfl (Nat.le_of_ble_eq_true rfl) (rm_ok hn5 (by omega) (by omega) (Nat.le_of_ble_eq_true rfl) (Nat.le_of_ble_eq_true rfl)) dLaw_law_435 (fun r1 S1 H1 locs1 e1 hW1 m1 F1 => ?_)
  obtain ⟨rfl, rfl⟩ := e1
  have P1 := P.cl hW1 F1
  refine lv_aload_n hx hb dLaw_law_438 rfl (lv_at hl 2 rfl) ?_
  refine s_E (k := 1) C P1.1.wS l0 l4 (by decide) (by omega) ⟨dLaw_law_439, dLaw_law_440, dLaw_law_442, dLaw_law_443, dLaw_law_444⟩ ?_
  refine k_Vi (K := 9) (As := [.int (xs (7 * n + 1))]) (rest := [.int _]) (c_Mcancel l D AC o _ _ σ (xs (7 * n + 1)) hO) CLaw_45 ⟨by decide, by decide, _, rfl, rfl⟩ hx hb hml hown hts P1.2.1 hsM_k hl.1 rfl rfl (Nat.le_of_ble_eq_true rfl) (rm_ok2 hn5 (by omega) (by omega) (Nat.le_of_ble_eq_true rfl) (Nat.le_of_ble_eq_true rfl)) dLaw_law_445 (fun r2 S2 H2 locs2 e2 hW2 m2 F2 => ?_)
  obtain ⟨rfl, rfl⟩ := e2
  have P3 := P1.mo hW2 F2
  obtain ⟨eR, hR3⟩ := o_cancel hR (xs (7 * n + 1))
  refine lv_icmp_eq (tgt := 910) hx hb dLaw_law_448 (by decide) (fun _ => ?_) (fun z => absurd eR z)
  exact W.widen (by omega) (by omega) (kk _ _ _ _ _ _ _ _ P3 hR3 (m1.k ko (by decide)) (m1.n ko (by decide) no) hl)
set_option maxRecDepth 20000 in
theorem law_table {p : Program} {l : Launch} {e : Env} {s : State} {m : MethodId} {below : List Frame} {meth : Method} {c : Code} {H : Heap} {locs : List Loc} {ls : Array Slot} {b L n x o ow h0 t0 kt : Nat} {xs : Nat → Int32} {D : va_G} {AC : Nat → ClassId} {S : HS} {σ : MS} {M : AM} {T : Nat → Nat → Bool} (C : LX p s m c #[.ref b] b L xs) (P : P2 D AC s o H locs S σ) (hR : RO M x T n kt h0 t0 S σ) (ko : kd S ow = 12) (no : an S ow = 1) (hl : lv_has ls 7 (LV b x o ow n)) (hi : 7 * n + 6 < L) (kk : KK p l e s m below meth c b x o ow h0 t0 n D AC) : W p l e room_1 s m #[.ref b] below meth c H locs (36 + 24 * n) (14407 + 12012 * n) (lw_Z below #[.ref b] s) (F0 m 453 ls []) := by
  obtain ⟨hx, hb, hml, hown, hts, -, -, hL⟩ := id C
  have l0 : ls[0]? = some (.val (.ref b)) := lv_at hl 4 rfl
  have l4 : ls[4]? = some (.val (.int (nI (7 * n)))) := lv_at hl 0 rfl
  have hn5 : n < 512 := by omega
  have hI := hR.1.1.1
  have hO := hR.2.2.2.2.1.1.1
  refine lv_aload_n hx hb dLaw_law_453 rfl (lv_at hl 3 rfl) ?_
  refine s_E (k := 1) C P.1.wS l0 l4 (by decide) (by omega) ⟨dLaw_law_454, dLaw_law_455, dLaw_law_457, dLaw_law_458, dLaw_law_459⟩ ?_
  refine s_L (k := 2) (k' := 3) C P.1.wS l0 l4 (by decide) (by decide) (by omega) (by omega) ⟨dLaw_law_460, dLaw_law_461, dLaw_law_463, dLaw_law_464, dLaw_law_465⟩ ⟨dLaw_law_470, dLaw_law_471, dLaw_law_473, dLaw_law_474, dLaw_law_475⟩ ⟨dLaw_law_466, dLaw_law_467, dLaw_law_469, dLaw_law_476, dLaw_law_477, dLaw_law_480, dLaw_law_481⟩ ?_
  refine k_Vi (K := 8) (As := [.int (xs (7 * n + 1)), .long (lw2 (xs (7 * n + 2)) (xs (7 * n + 3)))]) (rest := []) (c_table l D AC S x (xs (7 * n + 1)) (lw2 (xs (7 * n + 2)) (xs (7 * n + 3))) hI.2.1 hI.2.2.1 hR.2.1.2.1) CLaw_46 ⟨by decide, by decide, _, rfl, rfl⟩ hx hb hml hown hts P.1 hI.2.1 hl.1 rfl rfl (Nat.le_of_ble_eq_true rfl) (rm_ok hn5 (by omega) (by omega) (Nat.le_of_ble_eq_true rfl) (Nat.le_of_ble_eq_true rfl)) dLaw_law_482 (fun r1 S1 H1 locs1 e1 hW1 m1 F1 => ?_)
  obtain ⟨rfl, rfl⟩ := e1
  have P1 := P.cl hW1 F1
  refine lv_aload_n hx hb dLaw_law_485 rfl (lv_at hl 2 rfl) ?_
  refine s_E (k := 1) C P1.1.wS l0 l4 (by decide) (by omega) ⟨dLaw_law_486, dLaw_law_487, dLaw_law_489, dLaw_law_490, dLaw_law_491⟩ ?_
  refine s_L (k := 2) (k' := 3) C P1.1.wS l0 l4 (by decide) (by decide) (by omega) (by omega) ⟨dLaw_law_492, dLaw_law_493, dLaw_law_495, dLaw_law_496, dLaw_law_497⟩ ⟨dLaw_law_502, dLaw_law_503, dLaw_law_505, dLaw_law_506, dLaw_law_507⟩ ⟨dLaw_law_498, dLaw_law_499, dLaw_law_501, dLaw_law_508, dLaw_law_509, dLaw_law_512, dLaw_law_513⟩ ?_
  refine k_Vi (K := 9) (As := [.int (xs (7 * n + 1)), .long (lw2 (xs (7 * n + 2)) (xs (7 * n + 3)))]) (rest := [.int _]) (c_Mtable l D AC o _ _ σ (xs (7 * n + 1)) (lw2 (xs (7 * n + 2)) (xs (7 * n + 3))) hO) CLaw_50 ⟨by decide, by decide, _, rfl, rfl⟩ hx hb hml hown hts P1.2.1 hsM_k hl.1 rfl rfl (Nat.le_of_ble_eq_true rfl) (rm_ok2 hn5 (by omega) (by omega) (Nat.le_of_ble_eq_true rfl) (Nat.le_of_ble_eq_true rfl)) dLaw_law_514 (fun r2 S2 H2 locs2 e2 hW2 m2 F2 => ?_)
  obtain ⟨rfl, rfl⟩ := e2
  have P3 := P1.mo hW2 F2
  obtain ⟨eR, M3, hR3⟩ := o_table hR (xs (7 * n + 1)) (lw2 (xs (7 * n + 2)) (xs (7 * n + 3)))
  refine lv_icmp_eq (tgt := 910) hx hb dLaw_law_517 (by decide) (fun _ => ?_) (fun z => absurd eR z)
  exact W.widen (by omega) (by omega) (kk _ _ _ _ _ _ _ _ P3 hR3 (m1.k ko (by decide)) (m1.n ko (by decide) no) hl)
set_option maxRecDepth 20000 in
theorem law_point {p : Program} {l : Launch} {e : Env} {s : State} {m : MethodId} {below : List Frame} {meth : Method} {c : Code} {H : Heap} {locs : List Loc} {ls : Array Slot} {b L n x o ow h0 t0 kt : Nat} {xs : Nat → Int32} {D : va_G} {AC : Nat → ClassId} {S : HS} {σ : MS} {M : AM} {T : Nat → Nat → Bool} (C : LX p s m c #[.ref b] b L xs) (P : P2 D AC s o H locs S σ) (hR : RO M x T n kt h0 t0 S σ) (ko : kd S ow = 12) (no : an S ow = 1) (hl : lv_has ls 7 (LV b x o ow n)) (hi : 7 * n + 6 < L) (kk : KK p l e s m below meth c b x o ow h0 t0 n D AC) : W p l e room_1 s m #[.ref b] below meth c H locs (36 + 24 * n) (14407 + 12012 * n) (lw_Z below #[.ref b] s) (F0 m 522 ls []) := by
  obtain ⟨hx, hb, hml, hown, hts, -, -, hL⟩ := id C
  have l0 : ls[0]? = some (.val (.ref b)) := lv_at hl 4 rfl
  have l4 : ls[4]? = some (.val (.int (nI (7 * n)))) := lv_at hl 0 rfl
  have hn5 : n < 512 := by omega
  have hI := hR.1.1.1
  have hO := hR.2.2.2.2.1.1.1
  have hcp : ∀ q, kd S q = 7 → ∃ zs, chn (fr S 12) (fr S 14 q) zs := fun q hq => by
    obtain ⟨t, t1, t2, rfl⟩ := hR.2.1.2.2.2.2.2.2 q hq
    exact ⟨_, pts_ch hR.1.1.2.1 t1 t2⟩
  refine lv_aload_n hx hb dLaw_law_522 rfl (lv_at hl 3 rfl) ?_
  refine s_E (k := 1) C P.1.wS l0 l4 (by decide) (by omega) ⟨dLaw_law_523, dLaw_law_524, dLaw_law_526, dLaw_law_527, dLaw_law_528⟩ ?_
  refine s_L (k := 2) (k' := 3) C P.1.wS l0 l4 (by decide) (by decide) (by omega) (by omega) ⟨dLaw_law_529, dLaw_law_530, dLaw_law_532, dLaw_law_533, dLaw_law_534⟩ ⟨dLaw_law_539, dLaw_law_540, dLaw_law_542, dLaw_law_543, dLaw_law_544⟩ ⟨dLaw_law_535, dLaw_law_536, dLaw_law_538, dLaw_law_545, dLaw_law_546, dLaw_law_549, dLaw_law_550⟩ ?_
  refine s_E (k := 4) C P.1.wS l0 l4 (by decide) (by omega) ⟨dLaw_law_551, dLaw_law_552, dLaw_law_554, dLaw_law_555, dLaw_law_556⟩ ?_
  refine k_Vi (K := 8) (As := [.int (xs (7 * n + 1)), .long (lw2 (xs (7 * n + 2)) (xs (7 * n + 3))), .int (xs (7 * n + 4))]) (rest := []) (c_point l D AC S x (xs (7 * n + 1)) (lw2 (xs (7 * n + 2)) (xs (7 * n + 3))) (xs (7 * n + 4)) hI.2.1 hI.2.2.1 hR.2.1.2.1 hcp) CLaw_51 ⟨by decide, by decide, _, rfl, rfl⟩ hx hb hml hown hts P.1 hI.2.1 hl.1 rfl rfl (Nat.le_of_ble_eq_true rfl) (rm_ok hn5 (by omega) (by omega) (Nat.le_of_ble_eq_true rfl) (Nat.le_of_ble_eq_true rfl)) dLaw_law_557 (fun r1 S1 H1 locs1 e1 hW1 m1 F1 => ?_)
  obtain ⟨rfl, rfl⟩ := e1
  have P1 := P.cl hW1 F1
  refine lv_aload_n hx hb dLaw_law_560 rfl (lv_at hl 2 rfl) ?_
  refine s_E (k := 1) C P1.1.wS l0 l4 (by decide) (by omega) ⟨dLaw_law_561, dLaw_law_562, dLaw_law_564, dLaw_law_565, dLaw_law_566⟩ ?_
  refine s_L (k := 2) (k' := 3) C P1.1.wS l0 l4 (by decide) (by decide) (by omega) (by omega) ⟨dLaw_law_567, dLaw_law_568, dLaw_law_570, dLaw_law_571, dLaw_law_572⟩ ⟨dLaw_law_577, dLaw_law_578, dLaw_law_580, dLaw_law_581, dLaw_law_582⟩ ⟨dLaw_law_573, dLaw_law_574, dLaw_law_576, dLaw_law_583, dLaw_law_584, dLaw_law_587, dLaw_law_588⟩ ?_
  refine s_E (k := 4) C P1.1.wS l0 l4 (by decide) (by omega) ⟨dLaw_law_589, dLaw_law_590, dLaw_law_592, dLaw_law_593, dLaw_law_594⟩ ?_
  refine k_Vi (K := 9) (As := [.int (xs (7 * n + 1)), .long (lw2 (xs (7 * n + 2)) (xs (7 * n + 3))), .int (xs (7 * n + 4))]) (rest := [.int _]) (c_Mpoint l D AC o _ _ σ (xs (7 * n + 1)) (lw2 (xs (7 * n + 2)) (xs (7 * n + 3))) (xs (7 * n + 4)) hO) CLaw_55 ⟨by decide, by decide, _, rfl, rfl⟩ hx hb hml hown hts P1.2.1 hsM_k hl.1 rfl rfl (Nat.le_of_ble_eq_true rfl) (rm_ok2 hn5 (by omega) (by omega) (Nat.le_of_ble_eq_true rfl) (Nat.le_of_ble_eq_true rfl)) dLaw_law_595 (fun r2 S2 H2 locs2 e2 hW2 m2 F2 => ?_)
  obtain ⟨rfl, rfl⟩ := e2
  have P3 := P1.mo hW2 F2
  obtain ⟨eR, M3, T3, hR3⟩ := o_point hR (xs (7 * n + 1)) (lw2 (xs (7 * n + 2)) (xs (7 * n + 3))) (xs (7 * n + 4))
  refine lv_icmp_eq (tgt := 910) hx hb dLaw_law_598 (by decide) (fun _ => ?_) (fun z => absurd eR z)
  exact W.widen (by omega) (by omega) (kk _ _ _ _ _ _ _ _ P3 hR3 (m1.k ko (by decide)) (m1.n ko (by decide) no) hl)
set_option maxRecDepth 20000 in
theorem law_start {p : Program} {l : Launch} {e : Env} {s : State} {m : MethodId} {below : List Frame} {meth : Method} {c : Code} {H : Heap} {locs : List Loc} {ls : Array Slot} {b L n x o ow h0 t0 kt : Nat} {xs : Nat → Int32} {D : va_G} {AC : Nat → ClassId} {S : HS} {σ : MS} {M : AM} {T : Nat → Nat → Bool} (C : LX p s m c #[.ref b] b L xs) (P : P2 D AC s o H locs S σ) (hR : RO M x T n kt h0 t0 S σ) (ko : kd S ow = 12) (no : an S ow = 1) (hl : lv_has ls 7 (LV b x o ow n)) (hi : 7 * n + 6 < L) (kk : KK p l e s m below meth c b x o ow h0 t0 n D AC) : W p l e room_1 s m #[.ref b] below meth c H locs (36 + 24 * n) (14407 + 12012 * n) (lw_Z below #[.ref b] s) (F0 m 603 ls []) := by
  obtain ⟨hx, hb, hml, hown, hts, -, -, hL⟩ := id C
  have l0 : ls[0]? = some (.val (.ref b)) := lv_at hl 4 rfl
  have l4 : ls[4]? = some (.val (.int (nI (7 * n)))) := lv_at hl 0 rfl
  have hn5 : n < 512 := by omega
  have hI := hR.1.1.1
  have hO := hR.2.2.2.2.1.1.1
  refine lv_aload_n hx hb dLaw_law_603 rfl (lv_at hl 3 rfl) ?_
  refine s_E (k := 1) C P.1.wS l0 l4 (by decide) (by omega) ⟨dLaw_law_604, dLaw_law_605, dLaw_law_607, dLaw_law_608, dLaw_law_609⟩ ?_
  refine s_L (k := 2) (k' := 3) C P.1.wS l0 l4 (by decide) (by decide) (by omega) (by omega) ⟨dLaw_law_610, dLaw_law_611, dLaw_law_613, dLaw_law_614, dLaw_law_615⟩ ⟨dLaw_law_620, dLaw_law_621, dLaw_law_623, dLaw_law_624, dLaw_law_625⟩ ⟨dLaw_law_616, dLaw_law_617, dLaw_law_619, dLaw_law_626, dLaw_law_627, dLaw_law_630, dLaw_law_631⟩ ?_
  refine k_Vi (K := 8) (As := [.int (xs (7 * n + 1)), .long (lw2 (xs (7 * n + 2)) (xs (7 * n + 3)))]) (rest := []) (c_start l D AC S x (xs (7 * n + 1)) (lw2 (xs (7 * n + 2)) (xs (7 * n + 3))) hI.2.1 hI.2.2.1 hR.2.1.2.1) CLaw_56 ⟨by decide, by decide, _, rfl, rfl⟩ hx hb hml hown hts P.1 hI.2.1 hl.1 rfl rfl (Nat.le_of_ble_eq_true rfl) (rm_ok hn5 (by omega) (by omega) (Nat.le_of_ble_eq_true rfl) (Nat.le_of_ble_eq_true rfl)) dLaw_law_632 (fun r1 S1 H1 locs1 e1 hW1 m1 F1 => ?_)
  obtain ⟨rfl, rfl⟩ := e1
  have P1 := P.cl hW1 F1
  refine lv_aload_n hx hb dLaw_law_635 rfl (lv_at hl 2 rfl) ?_
  refine s_E (k := 1) C P1.1.wS l0 l4 (by decide) (by omega) ⟨dLaw_law_636, dLaw_law_637, dLaw_law_639, dLaw_law_640, dLaw_law_641⟩ ?_
  refine s_L (k := 2) (k' := 3) C P1.1.wS l0 l4 (by decide) (by decide) (by omega) (by omega) ⟨dLaw_law_642, dLaw_law_643, dLaw_law_645, dLaw_law_646, dLaw_law_647⟩ ⟨dLaw_law_652, dLaw_law_653, dLaw_law_655, dLaw_law_656, dLaw_law_657⟩ ⟨dLaw_law_648, dLaw_law_649, dLaw_law_651, dLaw_law_658, dLaw_law_659, dLaw_law_662, dLaw_law_663⟩ ?_
  refine k_Vi (K := 9) (As := [.int (xs (7 * n + 1)), .long (lw2 (xs (7 * n + 2)) (xs (7 * n + 3)))]) (rest := [.int _]) (c_Mstart l D AC o _ _ σ (xs (7 * n + 1)) (lw2 (xs (7 * n + 2)) (xs (7 * n + 3))) hO) CLaw_59 ⟨by decide, by decide, _, rfl, rfl⟩ hx hb hml hown hts P1.2.1 hsM_k hl.1 rfl rfl (Nat.le_of_ble_eq_true rfl) (rm_ok2 hn5 (by omega) (by omega) (Nat.le_of_ble_eq_true rfl) (Nat.le_of_ble_eq_true rfl)) dLaw_law_664 (fun r2 S2 H2 locs2 e2 hW2 m2 F2 => ?_)
  obtain ⟨rfl, rfl⟩ := e2
  have P3 := P1.mo hW2 F2
  obtain ⟨eR, hR3⟩ := o_start hR (xs (7 * n + 1)) (lw2 (xs (7 * n + 2)) (xs (7 * n + 3)))
  refine lv_icmp_eq (tgt := 910) hx hb dLaw_law_667 (by decide) (fun _ => ?_) (fun z => absurd eR z)
  exact W.widen (by omega) (by omega) (kk _ _ _ _ _ _ _ _ P3 hR3 (m1.k ko (by decide)) (m1.n ko (by decide) no) hl)
set_option maxRecDepth 20000 in
theorem law_next {p : Program} {l : Launch} {e : Env} {s : State} {m : MethodId} {below : List Frame} {meth : Method} {c : Code} {H : Heap} {locs : List Loc} {ls : Array Slot} {b L n x o ow h0 t0 kt : Nat} {xs : Nat → Int32} {D : va_G} {AC : Nat → ClassId} {S : HS} {σ : MS} {M : AM} {T : Nat → Nat → Bool} (C : LX p s m c #[.ref b] b L xs) (P : P2 D AC s o H locs S σ) (hR : RO M x T n kt h0 t0 S σ) (ko : kd S ow = 12) (no : an S ow = 1) (hl : lv_has ls 7 (LV b x o ow n)) (hi : 7 * n + 6 < L) (kk : KK p l e s m below meth c b x o ow h0 t0 n D AC) : W p l e room_1 s m #[.ref b] below meth c H locs (36 + 24 * n) (14407 + 12012 * n) (lw_Z below #[.ref b] s) (F0 m 672 ls []) := by
  obtain ⟨hx, hb, hml, hown, hts, -, -, hL⟩ := id C
  have l0 : ls[0]? = some (.val (.ref b)) := lv_at hl 4 rfl
  have l4 : ls[4]? = some (.val (.int (nI (7 * n)))) := lv_at hl 0 rfl
  have hn5 : n < 512 := by omega
  have hI := hR.1.1.1
  have hO := hR.2.2.2.2.1.1.1
  refine lv_aload_n hx hb dLaw_law_672 rfl (lv_at hl 3 rfl) ?_
  refine s_E (k := 1) C P.1.wS l0 l4 (by decide) (by omega) ⟨dLaw_law_673, dLaw_law_674, dLaw_law_676, dLaw_law_677, dLaw_law_678⟩ ?_
  refine s_E (k := 2) C P.1.wS l0 l4 (by decide) (by omega) ⟨dLaw_law_679, dLaw_law_680, dLaw_law_682, dLaw_law_683, dLaw_law_684⟩ ?_
  refine k_Vi (K := 8) (As := [.int (xs (7 * n + 1)), .int (xs (7 * n + 2))]) (rest := []) (c_next l D AC S x (xs (7 * n + 1)) (xs (7 * n + 2)) hI.2.1 hI.2.2.1 hR.2.1.2.1) CLaw_60 ⟨by decide, by decide, _, rfl, rfl⟩ hx hb hml hown hts P.1 hI.2.1 hl.1 rfl rfl (Nat.le_of_ble_eq_true rfl) (rm_ok hn5 (by omega) (by omega) (Nat.le_of_ble_eq_true rfl) (Nat.le_of_ble_eq_true rfl)) dLaw_law_685 (fun r1 S1 H1 locs1 e1 hW1 m1 F1 => ?_)
  obtain ⟨rfl, rfl⟩ := e1
  have P1 := P.cl hW1 F1
  refine lv_aload_n hx hb dLaw_law_688 rfl (lv_at hl 2 rfl) ?_
  refine s_E (k := 1) C P1.1.wS l0 l4 (by decide) (by omega) ⟨dLaw_law_689, dLaw_law_690, dLaw_law_692, dLaw_law_693, dLaw_law_694⟩ ?_
  refine s_E (k := 2) C P1.1.wS l0 l4 (by decide) (by omega) ⟨dLaw_law_695, dLaw_law_696, dLaw_law_698, dLaw_law_699, dLaw_law_700⟩ ?_
  refine k_Vi (K := 9) (As := [.int (xs (7 * n + 1)), .int (xs (7 * n + 2))]) (rest := [.int _]) (c_Mnext l D AC o _ _ σ (xs (7 * n + 1)) (xs (7 * n + 2)) hO) CLaw_64 ⟨by decide, by decide, _, rfl, rfl⟩ hx hb hml hown hts P1.2.1 hsM_k hl.1 rfl rfl (Nat.le_of_ble_eq_true rfl) (rm_ok2 hn5 (by omega) (by omega) (Nat.le_of_ble_eq_true rfl) (Nat.le_of_ble_eq_true rfl)) dLaw_law_701 (fun r2 S2 H2 locs2 e2 hW2 m2 F2 => ?_)
  obtain ⟨rfl, rfl⟩ := e2
  have P3 := P1.mo hW2 F2
  obtain ⟨eR, hR3⟩ := o_next hR (xs (7 * n + 1)) (xs (7 * n + 2))
  refine lv_icmp_eq (tgt := 910) hx hb dLaw_law_704 (by decide) (fun _ => ?_) (fun z => absurd eR z)
  exact W.widen (by omega) (by omega) (kk _ _ _ _ _ _ _ _ P3 hR3 (m1.k ko (by decide)) (m1.n ko (by decide) no) hl)
set_option maxRecDepth 20000 in
theorem law_sync {p : Program} {l : Launch} {e : Env} {s : State} {m : MethodId} {below : List Frame} {meth : Method} {c : Code} {H : Heap} {locs : List Loc} {ls : Array Slot} {b L n x o ow h0 t0 kt : Nat} {xs : Nat → Int32} {D : va_G} {AC : Nat → ClassId} {S : HS} {σ : MS} {M : AM} {T : Nat → Nat → Bool} (C : LX p s m c #[.ref b] b L xs) (P : P2 D AC s o H locs S σ) (hR : RO M x T n kt h0 t0 S σ) (ko : kd S ow = 12) (no : an S ow = 1) (hl : lv_has ls 7 (LV b x o ow n)) (hi : 7 * n + 6 < L) (kk : KK p l e s m below meth c b x o ow h0 t0 n D AC) : W p l e room_1 s m #[.ref b] below meth c H locs (36 + 24 * n) (14407 + 12012 * n) (lw_Z below #[.ref b] s) (F0 m 709 ls []) := by
  obtain ⟨hx, hb, hml, hown, hts, -, -, hL⟩ := id C
  have l0 : ls[0]? = some (.val (.ref b)) := lv_at hl 4 rfl
  have l4 : ls[4]? = some (.val (.int (nI (7 * n)))) := lv_at hl 0 rfl
  have hn5 : n < 512 := by omega
  have hI := hR.1.1.1
  have hO := hR.2.2.2.2.1.1.1
  refine lv_aload_n hx hb dLaw_law_709 rfl (lv_at hl 3 rfl) ?_
  refine s_E (k := 1) C P.1.wS l0 l4 (by decide) (by omega) ⟨dLaw_law_710, dLaw_law_711, dLaw_law_713, dLaw_law_714, dLaw_law_715⟩ ?_
  refine s_L (k := 2) (k' := 3) C P.1.wS l0 l4 (by decide) (by decide) (by omega) (by omega) ⟨dLaw_law_716, dLaw_law_717, dLaw_law_719, dLaw_law_720, dLaw_law_721⟩ ⟨dLaw_law_726, dLaw_law_727, dLaw_law_729, dLaw_law_730, dLaw_law_731⟩ ⟨dLaw_law_722, dLaw_law_723, dLaw_law_725, dLaw_law_732, dLaw_law_733, dLaw_law_736, dLaw_law_737⟩ ?_
  refine k_Vi (K := 8) (As := [.int (xs (7 * n + 1)), .long (lw2 (xs (7 * n + 2)) (xs (7 * n + 3)))]) (rest := []) (c_sync l D AC S x (xs (7 * n + 1)) (lw2 (xs (7 * n + 2)) (xs (7 * n + 3))) hI.2.1 hI.2.2.1 hR.2.1.2.1) CLaw_65 ⟨by decide, by decide, _, rfl, rfl⟩ hx hb hml hown hts P.1 hI.2.1 hl.1 rfl rfl (Nat.le_of_ble_eq_true rfl) (rm_ok hn5 (by omega) (by omega) (Nat.le_of_ble_eq_true rfl) (Nat.le_of_ble_eq_true rfl)) dLaw_law_738 (fun r1 S1 H1 locs1 e1 hW1 m1 F1 => ?_)
  obtain ⟨rfl, rfl⟩ := e1
  have P1 := P.cl hW1 F1
  refine lv_aload_n hx hb dLaw_law_741 rfl (lv_at hl 2 rfl) ?_
  refine s_E (k := 1) C P1.1.wS l0 l4 (by decide) (by omega) ⟨dLaw_law_742, dLaw_law_743, dLaw_law_745, dLaw_law_746, dLaw_law_747⟩ ?_
  refine s_L (k := 2) (k' := 3) C P1.1.wS l0 l4 (by decide) (by decide) (by omega) (by omega) ⟨dLaw_law_748, dLaw_law_749, dLaw_law_751, dLaw_law_752, dLaw_law_753⟩ ⟨dLaw_law_758, dLaw_law_759, dLaw_law_761, dLaw_law_762, dLaw_law_763⟩ ⟨dLaw_law_754, dLaw_law_755, dLaw_law_757, dLaw_law_764, dLaw_law_765, dLaw_law_768, dLaw_law_769⟩ ?_
  refine k_Vi (K := 9) (As := [.int (xs (7 * n + 1)), .long (lw2 (xs (7 * n + 2)) (xs (7 * n + 3)))]) (rest := [.int _]) (c_Msync l D AC o _ _ σ (xs (7 * n + 1)) (lw2 (xs (7 * n + 2)) (xs (7 * n + 3))) hO) CLaw_68 ⟨by decide, by decide, _, rfl, rfl⟩ hx hb hml hown hts P1.2.1 hsM_k hl.1 rfl rfl (Nat.le_of_ble_eq_true rfl) (rm_ok2 hn5 (by omega) (by omega) (Nat.le_of_ble_eq_true rfl) (Nat.le_of_ble_eq_true rfl)) dLaw_law_770 (fun r2 S2 H2 locs2 e2 hW2 m2 F2 => ?_)
  obtain ⟨rfl, rfl⟩ := e2
  have P3 := P1.mo hW2 F2
  obtain ⟨eR, hR3⟩ := o_sync hR (xs (7 * n + 1)) (lw2 (xs (7 * n + 2)) (xs (7 * n + 3)))
  refine lv_icmp_eq (tgt := 910) hx hb dLaw_law_773 (by decide) (fun _ => ?_) (fun z => absurd eR z)
  exact W.widen (by omega) (by omega) (kk _ _ _ _ _ _ _ _ P3 hR3 (m1.k ko (by decide)) (m1.n ko (by decide) no) hl)
set_option maxRecDepth 20000 in
theorem law_tick {p : Program} {l : Launch} {e : Env} {s : State} {m : MethodId} {below : List Frame} {meth : Method} {c : Code} {H : Heap} {locs : List Loc} {ls : Array Slot} {b L n x o ow h0 t0 kt : Nat} {xs : Nat → Int32} {D : va_G} {AC : Nat → ClassId} {S : HS} {σ : MS} {M : AM} {T : Nat → Nat → Bool} (C : LX p s m c #[.ref b] b L xs) (P : P2 D AC s o H locs S σ) (hR : RO M x T n kt h0 t0 S σ) (ko : kd S ow = 12) (no : an S ow = 1) (hl : lv_has ls 7 (LV b x o ow n)) (hi : 7 * n + 6 < L) (kk : KK p l e s m below meth c b x o ow h0 t0 n D AC) : W p l e room_1 s m #[.ref b] below meth c H locs (36 + 24 * n) (14407 + 12012 * n) (lw_Z below #[.ref b] s) (F0 m 778 ls []) := by
  obtain ⟨hx, hb, hml, hown, hts, -, -, hL⟩ := id C
  have l0 : ls[0]? = some (.val (.ref b)) := lv_at hl 4 rfl
  have l4 : ls[4]? = some (.val (.int (nI (7 * n)))) := lv_at hl 0 rfl
  have hn5 : n < 512 := by omega
  have hI := hR.1.1.1
  have hO := hR.2.2.2.2.1.1.1
  obtain ⟨eR, ⟨kt3, hR3⟩, hT1, hT2⟩ := o_tick hR (by omega) (xs (7 * n + 1)) (lw2 (xs (7 * n + 2)) (xs (7 * n + 3)))
  refine lv_aload_n hx hb dLaw_law_778 rfl (lv_at hl 3 rfl) ?_
  refine s_E (k := 1) C P.1.wS l0 l4 (by decide) (by omega) ⟨dLaw_law_779, dLaw_law_780, dLaw_law_782, dLaw_law_783, dLaw_law_784⟩ ?_
  refine s_L (k := 2) (k' := 3) C P.1.wS l0 l4 (by decide) (by decide) (by omega) (by omega) ⟨dLaw_law_785, dLaw_law_786, dLaw_law_788, dLaw_law_789, dLaw_law_790⟩ ⟨dLaw_law_795, dLaw_law_796, dLaw_law_798, dLaw_law_799, dLaw_law_800⟩ ⟨dLaw_law_791, dLaw_law_792, dLaw_law_794, dLaw_law_801, dLaw_law_802, dLaw_law_805, dLaw_law_806⟩ ?_
  refine k_Vi (K := 8) (As := [.int (xs (7 * n + 1)), .long (lw2 (xs (7 * n + 2)) (xs (7 * n + 3)))]) (rest := []) (c_tick l D AC S x (xs (7 * n + 1)) (lw2 (xs (7 * n + 2)) (xs (7 * n + 3))) hI.2.1 hI hR.2.1.2.1) CLaw_69 ⟨by decide, by decide, _, rfl, rfl⟩ hx hb hml hown hts P.1 hI.2.1 hl.1 rfl rfl (Nat.le_of_ble_eq_true rfl) (rm_ok hn5 (by have := (phi_le (S := S) (x := x)).1; omega) (by have := (phi_le (S := S) (x := x)).2; omega) (Nat.le_of_ble_eq_true rfl) (Nat.le_of_ble_eq_true rfl)) dLaw_law_807 (fun r1 S1 H1 locs1 e1 hW1 m1 F1 => ?_)
  obtain ⟨rfl, rfl⟩ := e1
  have P1 := P.cl hW1 F1
  refine lv_aload_n hx hb dLaw_law_810 rfl (lv_at hl 2 rfl) ?_
  refine s_E (k := 1) C P1.1.wS l0 l4 (by decide) (by omega) ⟨dLaw_law_811, dLaw_law_812, dLaw_law_814, dLaw_law_815, dLaw_law_816⟩ ?_
  refine s_L (k := 2) (k' := 3) C P1.1.wS l0 l4 (by decide) (by decide) (by omega) (by omega) ⟨dLaw_law_817, dLaw_law_818, dLaw_law_820, dLaw_law_821, dLaw_law_822⟩ ⟨dLaw_law_827, dLaw_law_828, dLaw_law_830, dLaw_law_831, dLaw_law_832⟩ ⟨dLaw_law_823, dLaw_law_824, dLaw_law_826, dLaw_law_833, dLaw_law_834, dLaw_law_837, dLaw_law_838⟩ ?_
  refine k_Vi (K := 9) (As := [.int (xs (7 * n + 1)), .long (lw2 (xs (7 * n + 2)) (xs (7 * n + 3)))]) (rest := [.int _]) (c_Mtick l D AC o _ _ σ (xs (7 * n + 1)) (lw2 (xs (7 * n + 2)) (xs (7 * n + 3))) hO hT1 hT2) CLaw_72 ⟨by decide, by decide, _, rfl, rfl⟩ hx hb hml hown hts P1.2.1 hsM_k hl.1 rfl rfl (Nat.le_of_ble_eq_true rfl) (rm_ok2 hn5 (by have := (phi_le (S := S) (x := x)).1; omega) (by have := (phi_le (S := S) (x := x)).2; omega) (Nat.le_of_ble_eq_true rfl) (Nat.le_of_ble_eq_true rfl)) dLaw_law_839 (fun r2 S2 H2 locs2 e2 hW2 m2 F2 => ?_)
  obtain ⟨rfl, rfl⟩ := e2
  have P3 := P1.mo hW2 F2
  refine lv_icmp_eq (tgt := 910) hx hb dLaw_law_842 (by decide) (fun _ => ?_) (fun z => absurd eR z)
  exact W.widen (by have := (phi_le (S := S) (x := x)).1; omega) (by have := (phi_le (S := S) (x := x)).2; omega) (kk _ _ _ _ _ _ _ _ P3 hR3 (m1.k ko (by decide)) (m1.n ko (by decide) no) hl)
set_option maxRecDepth 20000 in
theorem law_expired {p : Program} {l : Launch} {e : Env} {s : State} {m : MethodId} {below : List Frame} {meth : Method} {c : Code} {H : Heap} {locs : List Loc} {ls : Array Slot} {b L n x o ow h0 t0 kt : Nat} {xs : Nat → Int32} {D : va_G} {AC : Nat → ClassId} {S : HS} {σ : MS} {M : AM} {T : Nat → Nat → Bool} (C : LX p s m c #[.ref b] b L xs) (P : P2 D AC s o H locs S σ) (hR : RO M x T n kt h0 t0 S σ) (ko : kd S ow = 12) (no : an S ow = 1) (hl : lv_has ls 7 (LV b x o ow n)) (hi : 7 * n + 6 < L) (kk : KK p l e s m below meth c b x o ow h0 t0 n D AC) : W p l e room_1 s m #[.ref b] below meth c H locs (36 + 24 * n) (14407 + 12012 * n) (lw_Z below #[.ref b] s) (F0 m 847 ls []) := by
  obtain ⟨hx, hb, hml, hown, hts, -, -, hL⟩ := id C
  have l0 : ls[0]? = some (.val (.ref b)) := lv_at hl 4 rfl
  have l4 : ls[4]? = some (.val (.int (nI (7 * n)))) := lv_at hl 0 rfl
  have hn5 : n < 512 := by omega
  have hI := hR.1.1.1
  have hO := hR.2.2.2.2.1.1.1
  refine lv_aload_n hx hb dLaw_law_847 rfl (lv_at hl 3 rfl) ?_
  refine s_E (k := 1) C P.1.wS l0 l4 (by decide) (by omega) ⟨dLaw_law_848, dLaw_law_849, dLaw_law_851, dLaw_law_852, dLaw_law_853⟩ ?_
  refine s_E (k := 2) C P.1.wS l0 l4 (by decide) (by omega) ⟨dLaw_law_854, dLaw_law_855, dLaw_law_857, dLaw_law_858, dLaw_law_859⟩ ?_
  refine k_Vi (K := 8) (As := [.int (xs (7 * n + 1)), .int (xs (7 * n + 2))]) (rest := []) (c_expired l D AC S x (xs (7 * n + 1)) (xs (7 * n + 2)) hI.2.1 hI.2.2.1 ⟨_, hI.2.2.2.2.1.2.1, hI.2.2.2.2.1.1⟩ hI.2.2.2.2.1.2.2.1 hI.2.2.2.1) CLaw_73 ⟨by decide, by decide, _, rfl, rfl⟩ hx hb hml hown hts P.1 hI.2.1 hl.1 rfl rfl (Nat.le_of_ble_eq_true rfl) (rm_ok hn5 (by omega) (by omega) (Nat.le_of_ble_eq_true rfl) (Nat.le_of_ble_eq_true rfl)) dLaw_law_860 (fun r1 S1 H1 locs1 e1 hW1 m1 F1 => ?_)
  obtain ⟨rfl, rfl⟩ := e1
  have P1 := P.cl hW1 F1
  refine lv_aload_n hx hb dLaw_law_863 rfl (lv_at hl 2 rfl) ?_
  refine s_E (k := 1) C P1.1.wS l0 l4 (by decide) (by omega) ⟨dLaw_law_864, dLaw_law_865, dLaw_law_867, dLaw_law_868, dLaw_law_869⟩ ?_
  refine s_E (k := 2) C P1.1.wS l0 l4 (by decide) (by omega) ⟨dLaw_law_870, dLaw_law_871, dLaw_law_873, dLaw_law_874, dLaw_law_875⟩ ?_
  refine k_Vi (K := 9) (As := [.int (xs (7 * n + 1)), .int (xs (7 * n + 2))]) (rest := [.int _]) (c_Mexpired l D AC o _ _ σ (xs (7 * n + 1)) (xs (7 * n + 2))) CLaw_76 ⟨by decide, by decide, _, rfl, rfl⟩ hx hb hml hown hts P1.2.1 hsM_k hl.1 rfl rfl (Nat.le_of_ble_eq_true rfl) (rm_ok2 hn5 (by omega) (by omega) (Nat.le_of_ble_eq_true rfl) (Nat.le_of_ble_eq_true rfl)) dLaw_law_876 (fun r2 S2 H2 locs2 e2 hW2 m2 F2 => ?_)
  obtain ⟨rfl, rfl⟩ := e2
  have P3 := P1.mo hW2 F2
  obtain ⟨eR, hR3⟩ := o_exp hR (ex_lt hR (by omega)) (xs (7 * n + 1)) (xs (7 * n + 2))
  refine lv_icmp_eq (tgt := 910) hx hb dLaw_law_879 (by decide) (fun _ => ?_) (fun z => absurd eR z)
  exact W.widen (by omega) (by omega) (kk _ _ _ _ _ _ _ _ P3 hR3 (m1.k ko (by decide)) (m1.n ko (by decide) no) hl)
set_option maxRecDepth 20000 in
theorem law_deviation {p : Program} {l : Launch} {e : Env} {s : State} {m : MethodId} {below : List Frame} {meth : Method} {c : Code} {H : Heap} {locs : List Loc} {ls : Array Slot} {b L n x o ow h0 t0 kt : Nat} {xs : Nat → Int32} {D : va_G} {AC : Nat → ClassId} {S : HS} {σ : MS} {M : AM} {T : Nat → Nat → Bool} (C : LX p s m c #[.ref b] b L xs) (P : P2 D AC s o H locs S σ) (hR : RO M x T n kt h0 t0 S σ) (ko : kd S ow = 12) (no : an S ow = 1) (hl : lv_has ls 7 (LV b x o ow n)) (hi : 7 * n + 6 < L) (kk : KK p l e s m below meth c b x o ow h0 t0 n D AC) : W p l e room_1 s m #[.ref b] below meth c H locs (36 + 24 * n) (14407 + 12012 * n) (lw_Z below #[.ref b] s) (F0 m 884 ls []) := by
  obtain ⟨hx, hb, hml, hown, hts, -, -, hL⟩ := id C
  have l0 : ls[0]? = some (.val (.ref b)) := lv_at hl 4 rfl
  have l4 : ls[4]? = some (.val (.int (nI (7 * n)))) := lv_at hl 0 rfl
  have hn5 : n < 512 := by omega
  have hI := hR.1.1.1
  have hO := hR.2.2.2.2.1.1.1
  refine lv_aload_n hx hb dLaw_law_884 rfl (lv_at hl 3 rfl) ?_
  refine s_E (k := 1) C P.1.wS l0 l4 (by decide) (by omega) ⟨dLaw_law_885, dLaw_law_886, dLaw_law_888, dLaw_law_889, dLaw_law_890⟩ ?_
  refine k_Vl (K := 8) (As := [.int (xs (7 * n + 1))]) (rest := []) (c_deviation l D AC S x (xs (7 * n + 1)) hI.2.1 hI.2.2.1 hR.2.1.2.1) CLaw_77 ⟨by decide, by decide, _, rfl, rfl⟩ hx hb hml hown hts P.1 hI.2.1 hl.1 rfl rfl (Nat.le_of_ble_eq_true rfl) (rm_ok hn5 (by omega) (by omega) (Nat.le_of_ble_eq_true rfl) (Nat.le_of_ble_eq_true rfl)) dLaw_law_891 (fun r1 S1 H1 locs1 e1 hW1 m1 F1 => ?_)
  obtain ⟨rfl, rfl⟩ := e1
  have P1 := P.cl hW1 F1
  refine lv_aload_n hx hb dLaw_law_894 rfl (lv_at hl 2 rfl) ?_
  refine s_E (k := 1) C P1.1.wS l0 l4 (by decide) (by omega) ⟨dLaw_law_895, dLaw_law_896, dLaw_law_898, dLaw_law_899, dLaw_law_900⟩ ?_
  refine k_Vl (K := 9) (As := [.int (xs (7 * n + 1))]) (rest := [.long _]) (c_Mdeviation l D AC o _ _ σ (xs (7 * n + 1)) hO) CLaw_81 ⟨by decide, by decide, _, rfl, rfl⟩ hx hb hml hown hts P1.2.1 hsM_k hl.1 rfl rfl (Nat.le_of_ble_eq_true rfl) (rm_ok2 hn5 (by omega) (by omega) (Nat.le_of_ble_eq_true rfl) (Nat.le_of_ble_eq_true rfl)) dLaw_law_901 (fun r2 S2 H2 locs2 e2 hW2 m2 F2 => ?_)
  obtain ⟨rfl, rfl⟩ := e2
  have P3 := P1.mo hW2 F2
  obtain ⟨eR, hR3⟩ := o_dev hR (xs (7 * n + 1))
  refine ll_eq (tgt := 910) hx hb dLaw_law_904 dLaw_law_905 (by decide) (fun _ => ?_) (fun z => absurd eR z)
  exact W.widen (by omega) (by omega) (kk _ _ _ _ _ _ _ _ P3 hR3 (m1.k ko (by decide)) (m1.n ko (by decide) no) hl)
