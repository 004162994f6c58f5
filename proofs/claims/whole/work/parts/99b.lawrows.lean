-- THE LAW: TWO STORES SIDE BY SIDE, ITS ROWS
theorem Wd.keep {D : va_G} {AC : Nat → ClassId} {A : Nat → Prop} {s : State} {H0 H H1 : Heap} {locs locs1 : List Loc} {S1 S1' S2 : HS} (hW2 : Wd D AC A s H0 H locs S2) (hW1 : Wd D AC A s H0 H1 locs1 S1') (hF : Fr S1 H S1' H1) (hd : ∀ q ∈ hL S2, ¬ AS (hL S1) (hz S1) q) : Wd D AC A s H0 H1 locs1 (shz S2 (hz S1') (tz S1')) := by
  refine ⟨hW2.wK, va_P.kept (H := H) hW2.wP (fun k q hq => ?_), hW2.wD, hW1.wS, hW2.wA, hW2.ok, hW1.z, hW2.nx, hW1.t⟩
  have h1 := (pl_mem hq).1
  exact hF.2.1 q.1 (by rw [hW2.z]; exact hW2.lt h1) (hd _ h1)
theorem mAd_mem {o q : Nat} : q ∈ mAd o ↔ o ≤ q ∧ q < o + 29 := by
  unfold mAd
  rw [List.mem_cons, List.mem_map]
  constructor
  · rintro (rfl | ⟨j, hj, rfl⟩)
    · omega
    · rw [List.mem_range] at hj; omega
  · intro h
    by_cases e : q = o
    · exact Or.inl e
    · exact Or.inr ⟨q - (o + 1), List.mem_range.mpr (by omega), by omega⟩
def P2 (D : va_G) (AC : Nat → ClassId) (s : State) (o : Nat) (H : Heap) (locs : List Loc) (S : HS) (σ : MS) : Prop := Wd D AC (fun q => s.heap.size ≤ q) s s.heap H locs S ∧ Wd D AC (fun q => s.heap.size ≤ q) s s.heap H locs (hsM o (hz S) (tz S) σ) ∧ ∀ q ∈ hL S, ¬ (o ≤ q ∧ q < o + 29)
theorem P2.cl {D : va_G} {AC : Nat → ClassId} {s : State} {o : Nat} {H H1 : Heap} {locs locs1 : List Loc} {S S' : HS} {σ : MS} (h : P2 D AC s o H locs S σ) (hW : Wd D AC (fun q => s.heap.size ≤ q) s s.heap H1 locs1 S') (hF : Fr S H S' H1) : P2 D AC s o H1 locs1 S' σ := by
  obtain ⟨h1, h2, h3⟩ := h
  have lt : ∀ q, o ≤ q ∧ q < o + 29 → q < hz S := fun q hq => h2.lt (mAd_mem.mpr hq)
  refine ⟨hW, h2.keep hW hF (fun q hq z => ?_), fun q hq z => ?_⟩
  · have hq := mAd_mem.mp hq
    rcases z with z | z
    · exact h3 q z hq
    · have := lt q hq; omega
  · rcases hF.2.2 q hq with y | y
    · exact h3 q y z
    · have := lt q z; omega
theorem P2.mo {D : va_G} {AC : Nat → ClassId} {s : State} {o : Nat} {H H1 : Heap} {locs locs1 : List Loc} {S : HS} {σ σ' : MS} (h : P2 D AC s o H locs S σ) (hW : Wd D AC (fun q => s.heap.size ≤ q) s s.heap H1 locs1 (hsM o (hz S) (tz S) σ')) (hF : Fr (hsM o (hz S) (tz S) σ) H (hsM o (hz S) (tz S) σ') H1) : P2 D AC s o H1 locs1 S σ' := by
  obtain ⟨h1, h2, h3⟩ := h
  have k : Wd D AC (fun q => s.heap.size ≤ q) s s.heap H1 locs1 (shz S (hz S) (tz S)) := h1.keep (S1 := hsM o (hz S) (tz S) σ) (S1' := hsM o (hz S) (tz S) σ') hW hF (fun q hq z => by
    rcases z with z | z
    · exact h3 q hq (mAd_mem.mp z)
    · have := h1.lt hq
      have z : hz S ≤ q := z
      omega)
  exact ⟨k, hW, h3⟩
/-- a long out of two ints of the script -/
def lw2 (a b : Int32) : Int64 := (a.toInt64 <<< ((32 : Int32).toInt64 &&& 63)) ||| (b.toInt64 &&& (4294967295 : Int64))
section LAWROWS
variable {p : Program} {l : Launch} {e : Env} {R : Room} {s : State} {m : MethodId} {args : Array Value} {below : List Frame} {meth : Method} {c : Code} {H : Heap} {locs : List Loc} {cells slots : Nat} {Q : State → Prop} {ls : Array Slot} {st : List Value} {b L i pc : Nat} {xs : Nat → Int32}
/-- what a row of the law stands on -/
def LX (p : Program) (s : State) (m : MethodId) (c : Code) (args : Array Value) (b L : Nat) (xs : Nat → Int32) : Prop := p.tables.exec = Jvm.exec ∧ c.code = code ∧ c.maxLocals = 7 ∧ s.vm.findClass RLaw = some m.cls ∧ (∀ w ∈ wT, w.before args s = true) ∧ va_X b L xs s s.heap ∧ b < s.heap.size ∧ L ≤ 3584
theorem s_E {n : Int} {k : Nat} (C : LX p s m c args b L xs) (hS : va_S (fun q => s.heap.size ≤ q) s.heap H locs) (l0 : ls[0]? = some (.val (.ref b))) (l4 : ls[4]? = some (.val (.int (nI i)))) (hk : Int32.ofInt n = nI k) (hi : i + k < L) (d : decode code pc = .ok (.aload_n 0, 1) ∧ decode code (pc + 1) = .ok (.iload 4, 2) ∧ decode code (pc + 3) = .ok (.iconst n, 1) ∧ decode code (pc + 4) = .ok (.iadd, 1) ∧ decode code (pc + 5) = .ok (.iaload, 1))
    (kk : W p l e R s m args below meth c H locs cells slots Q (F0 m (pc + 6) ls (.int (xs (i + k)) :: st))) : W p l e R s m args below meth c H locs cells slots Q (F0 m pc ls st) := by
  obtain ⟨hx, hb, -, -, -, hX, hbl, hL⟩ := C
  obtain ⟨d0, d1, d2, d3, d4⟩ := d
  refine lv_aload_n hx hb d0 rfl l0 ?_
  refine lv_iload hx hb d1 l4 ?_
  refine lv_iconst (v := nI k) hx hb d2 hk ?_
  refine lv_iadd hx hb d3 ?_
  rw [show nI i + nI k = nI (i + k) from (nI_add i k)]
  refine va_sld hx hb hX hbl (Nat.not_le.mpr hbl) hS (nI_in hi (by omega)) d4 ?_
  rw [nI_clamp (by omega)]
  exact kk
theorem s_B {n : Int} {k : Nat} (C : LX p s m c args b L xs) (hS : va_S (fun q => s.heap.size ≤ q) s.heap H locs) (l0 : ls[0]? = some (.val (.ref b))) (l4 : ls[4]? = some (.val (.int (nI i)))) (hk : (Int8.ofInt n).toInt32 = nI k) (hi : i + k < L) (d : decode code pc = .ok (.aload_n 0, 1) ∧ decode code (pc + 1) = .ok (.iload 4, 2) ∧ decode code (pc + 3) = .ok (.bipush n, 2) ∧ decode code (pc + 5) = .ok (.iadd, 1) ∧ decode code (pc + 6) = .ok (.iaload, 1))
    (kk : W p l e R s m args below meth c H locs cells slots Q (F0 m (pc + 7) ls (.int (xs (i + k)) :: st))) : W p l e R s m args below meth c H locs cells slots Q (F0 m pc ls st) := by
  obtain ⟨hx, hb, -, -, -, hX, hbl, hL⟩ := C
  obtain ⟨d0, d1, d2, d3, d4⟩ := d
  refine lv_aload_n hx hb d0 rfl l0 ?_
  refine lv_iload hx hb d1 l4 ?_
  refine lv_bipush (v := nI k) hx hb d2 hk ?_
  refine lv_iadd hx hb d3 ?_
  rw [show nI i + nI k = nI (i + k) from (nI_add i k)]
  refine va_sld hx hb hX hbl (Nat.not_le.mpr hbl) hS (nI_in hi (by omega)) d4 ?_
  rw [nI_clamp (by omega)]
  exact kk
def dE (pc : Nat) (n : Int) : Prop := decode code pc = .ok (.aload_n 0, 1) ∧ decode code (pc + 1) = .ok (.iload 4, 2) ∧ decode code (pc + 3) = .ok (.iconst n, 1) ∧ decode code (pc + 4) = .ok (.iadd, 1) ∧ decode code (pc + 5) = .ok (.iaload, 1)
def dL (pc : Nat) : Prop := decode code (pc + 6) = .ok (.i2l, 1) ∧ decode code (pc + 7) = .ok (.bipush 32, 2) ∧ decode code (pc + 9) = .ok (.lshl, 1) ∧ decode code (pc + 16) = .ok (.i2l, 1) ∧ decode code (pc + 17) = .ok (.ldc2_w 19, 3) ∧ decode code (pc + 20) = .ok (.land, 1) ∧ decode code (pc + 21) = .ok (.lor, 1)
theorem s_L {n n' : Int} {k k' : Nat} (C : LX p s m c args b L xs) (hS : va_S (fun q => s.heap.size ≤ q) s.heap H locs) (l0 : ls[0]? = some (.val (.ref b))) (l4 : ls[4]? = some (.val (.int (nI i)))) (hk : Int32.ofInt n = nI k) (hk' : Int32.ofInt n' = nI k') (hi : i + k < L) (hi' : i + k' < L) (d1 : dE pc n) (d2 : dE (pc + 10) n') (d3 : dL pc)
    (kk : W p l e R s m args below meth c H locs cells slots Q (F0 m (pc + 22) ls (.long (lw2 (xs (i + k)) (xs (i + k'))) :: st))) : W p l e R s m args below meth c H locs cells slots Q (F0 m pc ls st) := by
  obtain ⟨hx, hb, -, hown, hts, -⟩ := id C
  obtain ⟨e1, e2, e3, e4, e5, e6, e7⟩ := d3
  refine s_E C hS l0 l4 hk hi d1 ?_
  refine lv_i2l (v := (xs (i + k)).toInt64) hx hb e1 rfl ?_
  refine lv_bipush (v := (32 : Int32)) hx hb e2 (by decide) ?_
  refine lv_lshl (v := (xs (i + k)).toInt64 <<< ((32 : Int32).toInt64 &&& 63)) hx hb e3 rfl ?_
  refine s_E C hS l0 l4 hk' hi' d2 ?_
  refine lv_i2l (v := (xs (i + k')).toInt64) hx hb e4 rfl ?_
  refine lv_ldc2 (v := (4294967295 : Int64)) hx hb hown (hts _ QLaw_19) e5 ?_
  refine lv_land hx hb e6 ?_
  refine lv_lor hx hb e7 ?_
  exact kk
end LAWROWS
