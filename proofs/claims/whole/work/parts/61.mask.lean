-- THE MODEL WITHOUT ITS STACK
def msk (σ : MS) : MS := (va_up (mi σ) 20 0, fun j => if j = 26 ∨ j = 27 then (fun _ => 0) else ma σ j, ml σ)
theorem msk_mi {σ : MS} {k : Nat} (h : k ≠ 20) : mi (msk σ) k = mi σ k := va_up_ne _ _ h
theorem msk_ma {σ : MS} {j : Nat} (h : j ≠ 26) (h2 : j ≠ 27) : ma (msk σ) j = ma σ j := if_neg (fun q => q.elim h h2)
theorem msk_sml {σ : MS} {j i : Nat} {v : Int64} : msk (sml σ j i v) = sml (msk σ) j i v := rfl
theorem msk_smi {σ : MS} {k : Nat} {v : Int32} (h : k ≠ 20) : msk (smi σ k v) = smi (msk σ) k v := by
  refine Prod.ext (funext fun q => ?_) rfl
  show va_up (va_up (mi σ) k v) 20 0 q = va_up (va_up (mi σ) 20 0) k v q
  unfold va_up
  by_cases h1 : q = 20
  · rw [if_pos h1, if_neg (by omega), if_pos h1]
  · rw [if_neg h1]
    by_cases h2 : q = k
    · rw [if_pos h2, if_pos h2]
    · rw [if_neg h2, if_neg h2, if_neg h1]
theorem msk_20 {σ : MS} {v : Int32} : msk (smi σ 20 v) = msk σ := by
  refine Prod.ext (funext fun q => ?_) rfl
  show va_up (va_up (mi σ) 20 v) 20 0 q = va_up (mi σ) 20 0 q
  unfold va_up
  by_cases h1 : q = 20
  · rw [if_pos h1, if_pos h1]
  · rw [if_neg h1, if_neg h1, if_neg h1]
theorem msk_sma {σ : MS} {j i : Nat} {v : Int32} (h : j ≠ 26) (h2 : j ≠ 27) : msk (sma σ j i v) = sma (msk σ) j i v := by
  refine Prod.ext rfl (Prod.ext (funext fun j' => funext fun i' => ?_) rfl)
  show (if j' = 26 ∨ j' = 27 then (fun _ => (0 : Int32)) else up2 (ma σ) j i v j') i' = up2 (fun j' => if j' = 26 ∨ j' = 27 then (fun _ => (0 : Int32)) else ma σ j') j i v j' i'
  unfold up2
  dsimp only
  by_cases h1 : j' = 26 ∨ j' = 27
  · rw [if_pos h1, if_neg (by omega), if_pos h1]
  · rw [if_neg h1, if_neg h1]
theorem msk_st {σ : MS} {j i : Nat} {v : Int32} (h : j = 26 ∨ j = 27) : msk (sma σ j i v) = msk σ := by
  refine Prod.ext rfl (Prod.ext (funext fun j' => ?_) rfl)
  show (if j' = 26 ∨ j' = 27 then (fun _ => (0 : Int32)) else up2 (ma σ) j i v j') = (if j' = 26 ∨ j' = 27 then (fun _ => (0 : Int32)) else ma σ j')
  by_cases h1 : j' = 26 ∨ j' = 27
  · rw [if_pos h1, if_pos h1]
  · rw [if_neg h1, if_neg h1]
    funext i'
    exact up2_k _ _ _ _ (by omega)
theorem msk_note {σ : MS} {k0 n0 c0 : Int32} {o0 : Int64} : msk (Mnote_S σ k0 n0 o0 c0) = Mnote_S (msk σ) k0 n0 o0 c0 := by
  unfold Mnote_S
  rw [show mi (msk σ) 18 = mi σ 18 from msk_mi (by decide)]
  by_cases h : (3000 : Int32) ≤ mi σ 18
  · rw [if_pos h, if_pos h, msk_smi (by decide)]
  · rw [if_neg h, if_neg h, msk_smi (by decide), msk_sma (by decide) (by decide), msk_sma (by decide) (by decide), msk_sma (by decide) (by decide), msk_sma (by decide) (by decide)]
    rfl
theorem goTo_m {σ : MS} {t : Int32} : goTo (msk σ) t = goTo σ t := rfl
theorem msk_goOn {σ : MS} {t : Int32} {f : Int64} : msk (MgoOn_S σ t f) = MgoOn_S (msk σ) t f := by
  rw [MgoOn_eq, MgoOn_eq]
  by_cases h : goTo σ t - f = 0
  · rw [if_pos h, if_pos (show goTo (msk σ) t - f = 0 from h)]
  · rw [if_neg h, if_neg (show ¬ goTo (msk σ) t - f = 0 from h)]
    rfl
theorem MgoOn_m {σ : MS} {t : Int32} {f : Int64} : MgoOn_R (msk σ) t f = MgoOn_R σ t f := by
  rw [MgoOn_Req, MgoOn_Req]
  rfl
/-- a table at its end -/
def tgE (σ : MS) (t : Int32) : MS := if ma σ 17 t.toNatClampNeg = 0 then sma (Mnote_S σ 2 t 0 (ma σ 12 t.toNatClampNeg)) 19 t.toNatClampNeg 0 else
  if up2 (ma σ) 19 t.toNatClampNeg 0 19 (ma σ 17 t.toNatClampNeg).toNatClampNeg = 0 then sml (sma (sma (sml (sma (Mnote_S σ 2 t 0 (ma σ 12 t.toNatClampNeg)) 19 t.toNatClampNeg 0) 18 (ma σ 17 t.toNatClampNeg).toNatClampNeg (if ma σ 17 t.toNatClampNeg = t then ml σ 18 (ma σ 17 t.toNatClampNeg).toNatClampNeg else 0)) 19 (ma σ 17 t.toNatClampNeg).toNatClampNeg 1) 21 (ma σ 17 t.toNatClampNeg).toNatClampNeg (-1)) 20 (ma σ 17 t.toNatClampNeg).toNatClampNeg (ml σ 3 (ma σ 12 (ma σ 17 t.toNatClampNeg).toNatClampNeg).toNatClampNeg)
  else sma (Mnote_S σ 2 t 0 (ma σ 12 t.toNatClampNeg)) 19 t.toNatClampNeg 0
def tgR (σ : MS) (t : Int32) : Int32 := if ma σ 17 t.toNatClampNeg = 0 then 0 else if up2 (ma σ) 19 t.toNatClampNeg 0 19 (ma σ 17 t.toNatClampNeg).toNatClampNeg = 0 then ma σ 17 t.toNatClampNeg else 0
abbrev tgO (σ : MS) (t : Int32) : Int64 := ml σ 15 (((20 : Int32) * t) + (ma σ 21 t.toNatClampNeg)).toNatClampNeg
/-- a table at a point, its note made and the next place told -/
def tgP (σ : MS) (t : Int32) : MS := sma (Mnote_S σ 1 t (tgO σ t) (ma σ 12 t.toNatClampNeg)) 21 t.toNatClampNeg (ma σ 21 t.toNatClampNeg + 1)
theorem MtableGoes_eq {σ : MS} {t : Int32} : MtableGoes_S σ t = if ma σ 21 t.toNatClampNeg = -1 then MgoOn_S (sma σ 21 t.toNatClampNeg 0) t 0 else if ma σ 14 t.toNatClampNeg ≤ ma σ 21 t.toNatClampNeg then tgE σ t else MgoOn_S (tgP σ t) t (tgO σ t) := by
  have e17 : ma (Mnote_S σ 2 t 0 (ma σ 12 t.toNatClampNeg)) 17 = ma σ 17 := Mnote_ma (by decide)
  have e19 : ma (Mnote_S σ 2 t 0 (ma σ 12 t.toNatClampNeg)) 19 = ma σ 19 := Mnote_ma (by decide)
  have e12 : ma (Mnote_S σ 2 t 0 (ma σ 12 t.toNatClampNeg)) 12 = ma σ 12 := Mnote_ma (by decide)
  have el : ml (Mnote_S σ 2 t 0 (ma σ 12 t.toNatClampNeg)) = ml σ := Mnote_ml
  unfold MtableGoes_S
  by_cases c1 : ma σ 21 t.toNatClampNeg = -1
  · rw [if_pos c1, if_pos c1]
    split <;> rfl
  · rw [if_neg c1, if_neg c1]
    by_cases c2 : ma σ 14 t.toNatClampNeg ≤ ma σ 21 t.toNatClampNeg
    · rw [if_pos c2, if_pos c2]
      unfold tgE
      rw [e17, el, e12]
      have e : ∀ i, ma (sma (Mnote_S σ 2 t 0 (ma σ 12 t.toNatClampNeg)) 19 t.toNatClampNeg 0) 19 i = up2 (ma σ) 19 t.toNatClampNeg 0 19 i := fun i => by
        show up2 (ma (Mnote_S σ 2 t 0 (ma σ 12 t.toNatClampNeg))) 19 t.toNatClampNeg 0 19 i = _
        unfold up2
        rw [e19]
      rw [e]
      generalize Mnote_S σ 2 t 0 (ma σ 12 t.toNatClampNeg) = Y
      by_cases c3 : ma σ 17 t.toNatClampNeg = 0
      · rw [if_pos c3, if_pos c3]
      · rw [if_neg c3, if_neg c3]
        by_cases c4 : up2 (ma σ) 19 t.toNatClampNeg 0 19 (ma σ 17 t.toNatClampNeg).toNatClampNeg = 0
        · rw [if_pos c4, if_pos c4]
          by_cases c5 : ma σ 17 t.toNatClampNeg = t
          · rw [if_pos c5, if_pos c5]
          · rw [if_neg c5, if_neg c5]
        · rw [if_neg c4, if_neg c4]
    · rw [if_neg c2, if_neg c2]
      split <;> rfl
theorem MtableGoes_Req {σ : MS} {t : Int32} : MtableGoes_R σ t = if ma σ 21 t.toNatClampNeg = -1 then (if goTo (sma σ 21 t.toNatClampNeg 0) t - 0 = 0 then t else 0) else if ma σ 14 t.toNatClampNeg ≤ ma σ 21 t.toNatClampNeg then tgR σ t else (if goTo (tgP σ t) t - tgO σ t = 0 then t else 0) := by
  have e17 : ma (Mnote_S σ 2 t 0 (ma σ 12 t.toNatClampNeg)) 17 = ma σ 17 := Mnote_ma (by decide)
  have e19 : ma (Mnote_S σ 2 t 0 (ma σ 12 t.toNatClampNeg)) 19 = ma σ 19 := Mnote_ma (by decide)
  unfold MtableGoes_R
  by_cases c1 : ma σ 21 t.toNatClampNeg = -1
  · rw [if_pos c1, if_pos c1, MgoOn_Req]
    by_cases c2 : goTo (sma σ 21 t.toNatClampNeg 0) t - 0 = 0
    · rw [if_pos c2, if_pos c2, if_neg (by decide)]
    · rw [if_neg c2, if_neg c2, if_pos rfl]
  · rw [if_neg c1, if_neg c1]
    by_cases c2 : ma σ 14 t.toNatClampNeg ≤ ma σ 21 t.toNatClampNeg
    · rw [if_pos c2, if_pos c2]
      unfold tgR
      rw [e17]
      have e : ∀ i, ma (sma (Mnote_S σ 2 t 0 (ma σ 12 t.toNatClampNeg)) 19 t.toNatClampNeg 0) 19 i = up2 (ma σ) 19 t.toNatClampNeg 0 19 i := fun i => by
        show up2 (ma (Mnote_S σ 2 t 0 (ma σ 12 t.toNatClampNeg))) 19 t.toNatClampNeg 0 19 i = _
        unfold up2
        rw [e19]
      rw [e]
      by_cases c3 : ma σ 17 t.toNatClampNeg = 0
      · rw [if_pos c3, if_pos c3]
      · rw [if_neg c3, if_neg c3]
        by_cases c4 : up2 (ma σ) 19 t.toNatClampNeg 0 19 (ma σ 17 t.toNatClampNeg).toNatClampNeg = 0
        · rw [if_pos c4, if_pos c4]
          split <;> rfl
        · rw [if_neg c4, if_neg c4]
    · rw [if_neg c2, if_neg c2, MgoOn_Req]
      show (if (if goTo (tgP σ t) t - tgO σ t = 0 then (1 : Int32) else 0) = 0 then (0 : Int32) else t) = _
      by_cases c3 : goTo (tgP σ t) t - tgO σ t = 0
      · rw [if_pos c3, if_pos c3, if_neg (by decide)]
      · rw [if_neg c3, if_neg c3, if_pos rfl]
theorem msk_gaPre {σ : MS} {a : Int32} : msk (gaPre σ a) = gaPre (msk σ) a := by
  unfold gaPre
  rw [msk_sml, msk_sma (by decide) (by decide), msk_note]
  rfl
theorem msk_tgP {σ : MS} {t : Int32} : msk (tgP σ t) = tgP (msk σ) t := by
  unfold tgP
  rw [msk_sma (by decide) (by decide), msk_note]
  rfl
theorem msk_tgE {σ : MS} {t : Int32} : msk (tgE σ t) = tgE (msk σ) t := by
  have e17 : ma (msk σ) 17 = ma σ 17 := msk_ma (by decide) (by decide)
  have e12 : ma (msk σ) 12 = ma σ 12 := msk_ma (by decide) (by decide)
  have e19 : ∀ i, up2 (ma (msk σ)) 19 t.toNatClampNeg 0 19 i = up2 (ma σ) 19 t.toNatClampNeg 0 19 i := fun i => by
    unfold up2
    rw [show ma (msk σ) 19 = ma σ 19 from msk_ma (by decide) (by decide)]
  have em : ml (msk σ) = ml σ := rfl
  unfold tgE
  rw [e17, e12, em, e19]
  by_cases c3 : ma σ 17 t.toNatClampNeg = 0
  · rw [if_pos c3, if_pos c3, msk_sma (by decide) (by decide), msk_note]
  · rw [if_neg c3, if_neg c3]
    by_cases c4 : up2 (ma σ) 19 t.toNatClampNeg 0 19 (ma σ 17 t.toNatClampNeg).toNatClampNeg = 0
    · rw [if_pos c4, if_pos c4, msk_sml, msk_sma (by decide) (by decide), msk_sma (by decide) (by decide), msk_sml, msk_sma (by decide) (by decide), msk_note]
    · rw [if_neg c4, if_neg c4, msk_sma (by decide) (by decide), msk_note]
theorem msk_tableGoes {σ : MS} {t : Int32} : msk (MtableGoes_S σ t) = MtableGoes_S (msk σ) t := by
  rw [MtableGoes_eq, MtableGoes_eq]
  rw [show ma (msk σ) 21 = ma σ 21 from msk_ma (by decide) (by decide), show ma (msk σ) 14 = ma σ 14 from msk_ma (by decide) (by decide)]
  by_cases c1 : ma σ 21 t.toNatClampNeg = -1
  · rw [if_pos c1, if_pos c1, msk_goOn, msk_sma (by decide) (by decide)]
  · rw [if_neg c1, if_neg c1]
    by_cases c2 : ma σ 14 t.toNatClampNeg ≤ ma σ 21 t.toNatClampNeg
    · rw [if_pos c2, if_pos c2, msk_tgE]
    · rw [if_neg c2, if_neg c2, msk_goOn, msk_tgP]
      rfl
theorem MtableGoes_m {σ : MS} {t : Int32} : MtableGoes_R (msk σ) t = MtableGoes_R σ t := by
  rw [MtableGoes_Req, MtableGoes_Req]
  rw [← msk_tgP, ← msk_sma (by decide) (by decide), goTo_m, goTo_m]
  rfl
theorem tAct_m {σ : MS} {t : Int32} : tAct (msk σ) t = tAct σ t := rfl
-- WHAT A STEP DOES, WITHOUT A STACK
def spBy (rec : MS → Int32 → MS) (σ : MS) (x : Int32) : MS := if mi σ 19 = (20000 : Int32) then σ else rec (smi σ 19 (mi σ 19 + 1)) x
def spAl (rec : MS → Int32 → MS) (σ : MS) (a : Int32) : MS := if ma σ 7 a.toNatClampNeg = 1 then spBy rec (gaPre σ a) (ma σ 8 a.toNatClampNeg) else if ma σ 7 a.toNatClampNeg = 2 then sma (gaPre σ a) 9 (ma σ 8 a.toNatClampNeg).toNatClampNeg 0 else gaPre σ a
def spTb (rec : MS → Int32 → MS) (σ : MS) (t : Int32) : MS := if tAct σ t ≤ 0 then (if 0 ≤ tAct σ t then MtableGoes_S σ t else sma (MtableGoes_S σ t) 9 (-(tAct σ t)).toNatClampNeg 0) else spBy rec (MtableGoes_S σ t) (tAct σ t)
/-- a table's turns, while it goes on -/
def spLp (rec : MS → Int32 → MS) : Nat → MS → Int32 → MS
  | 0, σ, _ => σ
  | n + 1, σ, t => if t ≤ 0 then σ else spLp rec n (spTb rec σ t) (MtableGoes_R σ t)
def spA1 (rec : MS → Int32 → MS) (c : Int32) (a : Nat) (σ : MS) : MS := if ma σ 9 a = 0 then σ else if ma σ 6 a = c then (if ml σ 10 a = ml σ 3 c.toNatClampNeg then spAl rec σ (nI a) else σ) else σ
def spT1 (rec : MS → Int32 → MS) (c : Int32) (t : Nat) (σ : MS) : MS := if ma σ 19 t = 0 then σ else if ma σ 12 t = c then (if ml σ 20 t = ml σ 3 c.toNatClampNeg then spLp rec 4 (sml σ 20 t (-1)) (nI t) else σ) else σ
def spAs (rec : MS → Int32 → MS) (c : Int32) : Nat → Nat → MS → MS
  | 0, _, σ => σ
  | k + 1, a, σ => spAs rec c k (a + 1) (spA1 rec c a σ)
def spTs (rec : MS → Int32 → MS) (c : Int32) : Nat → Nat → MS → MS
  | 0, _, σ => σ
  | k + 1, a, σ => spTs rec c k (a + 1) (spT1 rec c a σ)
abbrev nC (σ : MS) : Nat := (mi σ 15).toNatClampNeg
abbrev nA (σ : MS) : Nat := (mi σ 16).toNatClampNeg
abbrev nT (σ : MS) : Nat := (mi σ 17).toNatClampNeg
def spSt : Nat → MS → Int32 → MS
  | 0, σ, _ => σ
  | k + 1, σ, c => spTs (spSt k) c (nT σ) 1 (spAs (spSt k) c (nA σ) 1 (sml σ 3 c.toNatClampNeg (ml σ 3 c.toNatClampNeg + 1)))
