-- THE MODEL'S STEPS IN SHORT
/-- an alarm that fires, before its act -/
def gaPre (σ : MS) (a : Int32) : MS := sml (sma (Mnote_S σ 0 a 0 (ma σ 6 a.toNatClampNeg)) 9 a.toNatClampNeg (if (0 : Int64) < ml σ 11 a.toNatClampNeg then 1 else 0)) 10 a.toNatClampNeg (ml σ 3 (ma σ 6 a.toNatClampNeg).toNatClampNeg + ml σ 11 a.toNatClampNeg)
theorem MgoAlarm_eq {σ : MS} {a : Int32} : MgoAlarm_S σ a = if ma σ 7 a.toNatClampNeg = 1 then MbyAct_S (gaPre σ a) (ma σ 8 a.toNatClampNeg) else if ma σ 7 a.toNatClampNeg = 2 then sma (gaPre σ a) 9 (ma σ 8 a.toNatClampNeg).toNatClampNeg 0 else gaPre σ a := by
  have e7 : ma (Mnote_S σ 0 a 0 (ma σ 6 a.toNatClampNeg)) 7 = ma σ 7 := Mnote_ma (by decide)
  have e8 : ma (Mnote_S σ 0 a 0 (ma σ 6 a.toNatClampNeg)) 8 = ma σ 8 := Mnote_ma (by decide)
  have el : ml (Mnote_S σ 0 a 0 (ma σ 6 a.toNatClampNeg)) = ml σ := Mnote_ml
  unfold MgoAlarm_S gaPre
  rw [e7, e8, el]
  generalize Mnote_S σ 0 a 0 (ma σ 6 a.toNatClampNeg) = Y at e7 e8
  by_cases c1 : (0 : Int64) < ml σ 11 a.toNatClampNeg
  · rw [if_pos c1, if_pos c1]
    by_cases c2 : ma σ 7 a.toNatClampNeg = 1
    · rw [if_pos c2, if_pos c2]
      rw [MbyAct_ma (by decide) (by decide)]
      show (if ma Y 7 a.toNatClampNeg = 2 then _ else _) = _
      rw [e7, c2, if_neg (by decide)]
    · rw [if_neg c2, if_neg c2]
  · rw [if_neg c1, if_neg c1]
    by_cases c2 : ma σ 7 a.toNatClampNeg = 1
    · rw [if_pos c2, if_pos c2]
      rw [MbyAct_ma (by decide) (by decide)]
      show (if ma Y 7 a.toNatClampNeg = 2 then _ else _) = _
      rw [e7, c2, if_neg (by decide)]
    · rw [if_neg c2, if_neg c2]
/-- where a table goes on to, how far, by how much it is drawn -/
def goTo (σ : MS) (t : Int32) : Int64 := if ma σ 14 t.toNatClampNeg ≤ ma σ 21 t.toNatClampNeg then ml σ 13 t.toNatClampNeg else ml σ 15 (((20 : Int32) * t) + (ma σ 21 t.toNatClampNeg)).toNatClampNeg
def drw (v d : Int64) : Int64 := let c := if (2 : Int64) < v then 2 else if v < (-2 : Int64) then -2 else v; if d + c < (1 : Int64) then 1 - d else c
theorem MgoOn_eq {σ : MS} {t : Int32} {f : Int64} : MgoOn_S σ t f = if goTo σ t - f = 0 then σ else sml (sml σ 18 t.toNatClampNeg (ml σ 18 t.toNatClampNeg - drw (ml σ 18 t.toNatClampNeg) (goTo σ t - f))) 20 t.toNatClampNeg (ml σ 3 (ma σ 12 t.toNatClampNeg).toNatClampNeg + (goTo σ t - f) + drw (ml σ 18 t.toNatClampNeg) (goTo σ t - f)) := by
  unfold MgoOn_S goTo
  by_cases c1 : ma σ 14 t.toNatClampNeg ≤ ma σ 21 t.toNatClampNeg
  · simp only [if_pos c1]
    generalize ml σ 13 t.toNatClampNeg - f = d
    unfold drw
    dsimp only
    repeat' split
    all_goals first | rfl | contradiction
  · simp only [if_neg c1]
    generalize ml σ 15 (((20 : Int32) * t) + (ma σ 21 t.toNatClampNeg)).toNatClampNeg - f = d
    unfold drw
    dsimp only
    repeat' split
    all_goals first | rfl | contradiction
theorem MgoOn_Req {σ : MS} {t : Int32} {f : Int64} : MgoOn_R σ t f = if goTo σ t - f = 0 then 1 else 0 := by
  unfold MgoOn_R goTo
  by_cases c1 : ma σ 14 t.toNatClampNeg ≤ ma σ 21 t.toNatClampNeg
  · simp only [if_pos c1]
    repeat' split
    all_goals first | rfl | contradiction
  · simp only [if_neg c1]
    repeat' split
    all_goals first | rfl | contradiction
/-- the act of the point at which a table is -/
def tAct (σ : MS) (t : Int32) : Int32 := if ma σ 21 t.toNatClampNeg < 0 then 0 else if ma σ 21 t.toNatClampNeg < ma σ 14 t.toNatClampNeg then ma σ 16 (((20 : Int32) * t) + (ma σ 21 t.toNatClampNeg)).toNatClampNeg else 0
theorem MtableGoes_ma {σ : MS} {t : Int32} {j : Nat} (h1 : j ≠ 19) (h2 : j ≠ 21) (h3 : j < 22 ∨ 25 < j) : ma (MtableGoes_S σ t) j = ma σ j := by
  have k1 : ∀ {X : MS} {i : Nat} {v : Int32}, ma (sma X 19 i v) j = ma X j := funext fun _ => up2_k _ _ _ _ h1
  have k2 : ∀ {X : MS} {i : Nat} {v : Int32}, ma (sma X 21 i v) j = ma X j := funext fun _ => up2_k _ _ _ _ h2
  have k3 : ∀ {X : MS} {i j' : Nat} {v : Int64}, ma (sml X j' i v) j = ma X j := rfl
  unfold MtableGoes_S
  repeat' split
  all_goals (simp only [MgoOn_ma, k1, k2, k3])
  all_goals first | rfl | exact Mnote_ma h3
theorem MgoTable_eq {σ : MS} {q t : Int32} : MgoTable_S σ q t = (let σ1 := sma (MtableGoes_S σ t) 27 q.toNatClampNeg (MtableGoes_R σ t); if tAct σ t ≤ 0 then (if 0 ≤ tAct σ t then σ1 else sma σ1 9 (-(tAct σ t)).toNatClampNeg 0) else MbyAct_S σ1 (tAct σ t)) := by
  have e14 : ma (MtableGoes_S σ t) 14 = ma σ 14 := MtableGoes_ma (by decide) (by decide) (by decide)
  have e16 : ma (MtableGoes_S σ t) 16 = ma σ 16 := MtableGoes_ma (by decide) (by decide) (by decide)
  unfold MgoTable_S tAct
  rw [e14, e16]
  dsimp only
  by_cases c1 : ma σ 21 t.toNatClampNeg < 0
  · simp only [if_pos c1]
    rfl
  · simp only [if_neg c1]
    by_cases c2 : ma σ 21 t.toNatClampNeg < ma σ 14 t.toNatClampNeg
    · simp only [if_pos c2]
    · simp only [if_neg c2]
      rfl
