-- ALARM
def upA (M : AM) (t q : Nat) : AM := (cA M, va_up (aA M) t q, tA M, pA M)
theorem upA_s {M : AM} {c q : Nat} : aA (upA M c q) c = q := va_up_self _ _ _
theorem upA_n {M : AM} {c q d : Nat} (h : d ≠ c) : aA (upA M c q) d = aA M d := va_up_ne _ _ h
theorem e3.ok {X Y : HS} (h : e3 X Y) (ho : hOk X) : hOk Y := by
  obtain ⟨h1, h2, h3, h4, h5, h6, h7, h8, h9, h10⟩ := h
  unfold hOk
  rw [h1, h4, h7, h10]
  exact ho
theorem e3.nn {X Y : HS} (h : e3 X Y) (ho : nn X) : nn Y := by
  obtain ⟨h1, h2, h3, h4, h5, h6, h7, h8, h9, h10⟩ := h
  intro j a hj ha
  rw [h1] at ha
  rw [h4]
  exact ho j a hj ha
/-- the store with a new alarm that is in no chain yet -/
def nwA (S : HS) (A x N own : Nat) (c0 a0 : Option Nat) : HS := sfi (sar (Alarm_init_S (mk2 S 2 c0 a0) (hz S) (nI (N + 1)) own (hz S + 1)) A N (some (hz S))) 11 x (nI (N + 1))
theorem nwA_kd {S : HS} {A x N own : Nat} {c0 a0 : Option Nat} (a : Nat) : kd (nwA S A x N own c0 a0) a = if a = hz S + 1 then 1 else if a = hz S then 2 else kd S a := rfl
theorem nwA_fi {S : HS} {A x N own : Nat} {c0 a0 : Option Nat} (j a : Nat) (h1 : a < hz S) (h2 : j ≠ 11 ∨ a ≠ x) : fi (nwA S A x N own c0 a0) j a = fi S j a := by
  have e1 : up2 (zr (zr (fi S) (hz S) 0) (hz S + 1) 0) 0 (hz S) (nI (N + 1)) j a = fi S j a := by
    rw [up2_a _ _ _ _ (by omega)]
    show (if a = hz S + 1 then (0 : Int32) else if a = hz S then 0 else fi S j a) = fi S j a
    rw [if_neg (by omega), if_neg (by omega)]
  show up2 (up2 (zr (zr (fi S) (hz S) 0) (hz S + 1) 0) 0 (hz S) (nI (N + 1))) 11 x (nI (N + 1)) j a = fi S j a
  rcases h2 with h2 | h2
  · rw [up2_k _ _ _ _ h2]; exact e1
  · rw [up2_a _ _ _ _ h2]; exact e1
theorem nwA_x {S : HS} {A x N own : Nat} {c0 a0 : Option Nat} : fi (nwA S A x N own c0 a0) 11 x = nI (N + 1) := up2_self _ _ _ _
theorem nwA_q {S : HS} {A x N own : Nat} {c0 a0 : Option Nat} (hx : x ≠ hz S) (j : Nat) : fi (nwA S A x N own c0 a0) j (hz S) = if j = 0 then nI (N + 1) else 0 := by
  show up2 (up2 (zr (zr (fi S) (hz S) 0) (hz S + 1) 0) 0 (hz S) (nI (N + 1))) 11 x (nI (N + 1)) j (hz S) = _
  rw [up2_a _ _ _ _ (fun z => hx z.symm)]
  by_cases e : j = 0
  · subst e; rw [up2_self, if_pos rfl]
  · rw [if_neg e, up2_k _ _ _ _ e]
    show (if hz S = hz S + 1 then (0 : Int32) else if hz S = hz S then 0 else fi S j (hz S)) = 0
    rw [if_neg (by omega), if_pos rfl]
theorem nwA_fl {S : HS} {A x N own : Nat} {c0 a0 : Option Nat} (j a : Nat) (h1 : a < hz S) : fl (nwA S A x N own c0 a0) j a = fl S j a := by
  show (if a = hz S + 1 then (0 : Int64) else if a = hz S then 0 else fl S j a) = fl S j a
  rw [if_neg (by omega), if_neg (by omega)]
theorem nwA_flq {S : HS} {A x N own : Nat} {c0 a0 : Option Nat} (j : Nat) : fl (nwA S A x N own c0 a0) j (hz S) = 0 := by
  show (if hz S = hz S + 1 then (0 : Int64) else if hz S = hz S then 0 else fl S j (hz S)) = 0
  rw [if_neg (by omega), if_pos rfl]
theorem nwA_fr {S : HS} {A x N own : Nat} {c0 a0 : Option Nat} (j a : Nat) (h1 : a < hz S) : fr (nwA S A x N own c0 a0) j a = fr S j a := by
  show up2 (up2 (up2 (up2 (zr (zr (fr S) (hz S) none) (hz S + 1) none) 0 (hz S + 1) c0) 1 (hz S + 1) a0) 2 (hz S) (some own)) 3 (hz S) (some (hz S + 1)) j a = fr S j a
  rw [up2_a _ _ _ _ (by omega), up2_a _ _ _ _ (by omega), up2_a _ _ _ _ (by omega), up2_a _ _ _ _ (by omega)]
  show (if a = hz S + 1 then none else if a = hz S then none else fr S j a) = fr S j a
  rw [if_neg (by omega), if_neg (by omega)]
theorem nwA_fr2 {S : HS} {A x N own : Nat} {c0 a0 : Option Nat} : fr (nwA S A x N own c0 a0) 2 (hz S) = some own := by
  show up2 (up2 (up2 (up2 (zr (zr (fr S) (hz S) none) (hz S + 1) none) 0 (hz S + 1) c0) 1 (hz S + 1) a0) 2 (hz S) (some own)) 3 (hz S) (some (hz S + 1)) 2 (hz S) = some own
  rw [up2_k _ _ _ _ (by decide), up2_self]
theorem nwA_fr3 {S : HS} {A x N own : Nat} {c0 a0 : Option Nat} : fr (nwA S A x N own c0 a0) 3 (hz S) = some (hz S + 1) := by
  show up2 (up2 (up2 (up2 (zr (zr (fr S) (hz S) none) (hz S + 1) none) 0 (hz S + 1) c0) 1 (hz S + 1) a0) 2 (hz S) (some own)) 3 (hz S) (some (hz S + 1)) 3 (hz S) = some (hz S + 1)
  rw [up2_self]
theorem nwA_fr4 {S : HS} {A x N own : Nat} {c0 a0 : Option Nat} : fr (nwA S A x N own c0 a0) 4 (hz S) = none := by
  show up2 (up2 (up2 (up2 (zr (zr (fr S) (hz S) none) (hz S + 1) none) 0 (hz S + 1) c0) 1 (hz S + 1) a0) 2 (hz S) (some own)) 3 (hz S) (some (hz S + 1)) 4 (hz S) = none
  rw [up2_k _ _ _ _ (by decide), up2_k _ _ _ _ (by decide), up2_k _ _ _ _ (by decide), up2_k _ _ _ _ (by decide)]
  show (if hz S = hz S + 1 then none else if hz S = hz S then none else fr S 4 (hz S)) = none
  rw [if_neg (by omega), if_pos rfl]
theorem nwA_fr0 {S : HS} {A x N own : Nat} {c0 a0 : Option Nat} : fr (nwA S A x N own c0 a0) 0 (hz S + 1) = c0 := by
  show up2 (up2 (up2 (up2 (zr (zr (fr S) (hz S) none) (hz S + 1) none) 0 (hz S + 1) c0) 1 (hz S + 1) a0) 2 (hz S) (some own)) 3 (hz S) (some (hz S + 1)) 0 (hz S + 1) = c0
  rw [up2_k _ _ _ _ (by decide), up2_k _ _ _ _ (by decide), up2_k _ _ _ _ (by decide), up2_self]
theorem nwA_fr1 {S : HS} {A x N own : Nat} {c0 a0 : Option Nat} : fr (nwA S A x N own c0 a0) 1 (hz S + 1) = a0 := by
  show up2 (up2 (up2 (up2 (zr (zr (fr S) (hz S) none) (hz S + 1) none) 0 (hz S + 1) c0) 1 (hz S + 1) a0) 2 (hz S) (some own)) 3 (hz S) (some (hz S + 1)) 1 (hz S + 1) = a0
  rw [up2_k _ _ _ _ (by decide), up2_k _ _ _ _ (by decide), up2_self]
theorem nwA_ar {S : HS} {A x N own : Nat} {c0 a0 : Option Nat} (a j : Nat) : ar (nwA S A x N own c0 a0) a j = if a = A ∧ j = N then some (hz S) else ar S a j := rfl
theorem nwA_an {S : HS} {A x N own : Nat} {c0 a0 : Option Nat} : an (nwA S A x N own c0 a0) = an S := rfl
theorem nwA_ai {S : HS} {A x N own : Nat} {c0 a0 : Option Nat} : ai (nwA S A x N own c0 a0) = ai S := rfl
theorem nwA_hz {S : HS} {A x N own : Nat} {c0 a0 : Option Nat} : hz (nwA S A x N own c0 a0) = hz S + 2 := rfl
theorem nwA_tz {S : HS} {A x N own : Nat} {c0 a0 : Option Nat} : tz (nwA S A x N own c0 a0) = tz S + 9 := rfl
theorem nwA_hL {S : HS} {A x N own : Nat} {c0 a0 : Option Nat} : hL (nwA S A x N own c0 a0) = (hL S ++ [hz S]) ++ [hz S + 1] := rfl
