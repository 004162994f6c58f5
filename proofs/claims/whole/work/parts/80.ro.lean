-- BETWEEN CALLS
abbrev nE : Nat → Prop := fun _ => False
def lsO : List Nat → Option Nat
  | [] => none
  | [x] => some x
  | _ :: y :: ys => lsO (y :: ys)
def bt (d : Nat) : Int32 := (1 : Int32) <<< ((nI d - (1 : Int32)) &&& 31)
theorem bt_all : ((List.range 20).all (fun i => (List.range 20).all (fun j => decide ((bt (i + 1) &&& bt (j + 1) = 0) ↔ i ≠ j)))) = true := by decide +kernel
theorem bt_and {i j : Nat} (i1 : 1 ≤ i) (i2 : i ≤ 20) (j1 : 1 ≤ j) (j2 : j ≤ 20) : bt i &&& bt j = 0 ↔ i ≠ j := by
  have h := List.all_eq_true.mp bt_all (i - 1) (List.mem_range.mpr (by omega))
  have h := List.all_eq_true.mp h (j - 1) (List.mem_range.mpr (by omega))
  have h := of_decide_eq_true h
  rw [show i - 1 + 1 = i by omega, show j - 1 + 1 = j by omega] at h
  rw [h]
  omega
theorem or_and0 {x y w : Int32} : (x ||| y) &&& w = 0 ↔ x &&& w = 0 ∧ y &&& w = 0 := by
  simp only [← Int32.toBitVec_inj, Int32.toBitVec_and, Int32.toBitVec_or, Int32.toBitVec_zero]
  generalize x.toBitVec = a
  generalize y.toBitVec = b
  generalize w.toBitVec = c
  constructor
  · intro h
    constructor
    · refine BitVec.eq_of_getLsbD_eq (fun i hi => ?_)
      have := congrArg (fun z => z.getLsbD i) h
      simp only [BitVec.getLsbD_and, BitVec.getLsbD_or, BitVec.getLsbD_zero] at this ⊢
      revert this
      cases a.getLsbD i <;> cases b.getLsbD i <;> cases c.getLsbD i <;> simp
    · refine BitVec.eq_of_getLsbD_eq (fun i hi => ?_)
      have := congrArg (fun z => z.getLsbD i) h
      simp only [BitVec.getLsbD_and, BitVec.getLsbD_or, BitVec.getLsbD_zero] at this ⊢
      revert this
      cases a.getLsbD i <;> cases b.getLsbD i <;> cases c.getLsbD i <;> simp
  · rintro ⟨h1, h2⟩
    refine BitVec.eq_of_getLsbD_eq (fun i hi => ?_)
    have q1 := congrArg (fun z => z.getLsbD i) h1
    have q2 := congrArg (fun z => z.getLsbD i) h2
    simp only [BitVec.getLsbD_and, BitVec.getLsbD_or, BitVec.getLsbD_zero] at q1 q2 ⊢
    revert q1 q2
    cases a.getLsbD i <;> cases b.getLsbD i <;> cases c.getLsbD i <;> simp
def RA (M : AM) (x : Nat) (S : HS) (σ : MS) : Prop := (fi S 10 x = mi σ 15 ∧ fi S 11 x = mi σ 16 ∧ fi S 12 x = mi σ 17) ∧ atOk S x ∧ (∀ c, 1 ≤ c → c ≤ nC σ → ar S (gd (fr S 18 x)) (c - 1) = some (cA M c)) ∧ (∀ a, 1 ≤ a → a ≤ nA σ → ar S (gd (fr S 19 x)) (a - 1) = some (aA M a)) ∧ (∀ t, 1 ≤ t → t ≤ nT σ → ar S (gd (fr S 20 x)) (t - 1) = some (tA M t)) ∧ (∀ b, kd S b = 3 → ∃ c, 1 ≤ c ∧ c ≤ nC σ ∧ b = cA M c) ∧ (∀ b, kd S b = 7 → ∃ t, 1 ≤ t ∧ t ≤ nT σ ∧ b = tA M t)
def RZ (M : AM) (S : HS) (σ : MS) : Prop := (∀ c, 1 ≤ c → c ≤ nC σ → fr S 6 (cA M c) = lsO (aLs M σ c (nA σ) 1) ∧ fr S 8 (cA M c) = lsO (tLs M σ c (nT σ) 1)) ∧ (∀ t, 1 ≤ t → t ≤ nT σ → fi S 7 (tA M t) = ma σ 14 t) ∧ (∀ t p t' p', 1 ≤ t → t ≤ nT σ → 1 ≤ t' → t' ≤ nT σ → p < npT σ t → p' < npT σ t' → pA M t p = pA M t' p' → t = t' ∧ p = p')
/-- what acts step is marked -/
def Lk (σ : MS) : Prop := (∀ a, 1 ≤ a → a ≤ nA σ → ma σ 7 a = 1 → ld σ (ma σ 6 a).toNatClampNeg (ma σ 8 a).toNatClampNeg) ∧ (∀ t p, 1 ≤ t → t ≤ nT σ → p < npT σ t → 0 < ma σ 16 (20 * t + p) → ld σ (ma σ 12 t).toNatClampNeg (ma σ 16 (20 * t + p)).toNatClampNeg)
def RL (M : AM) (S : HS) (σ : MS) (T : Nat → Nat → Bool) : Prop := (∀ c, 1 ≤ c → c ≤ nC σ → fi S 2 (cA M c) = bt c ∧ ∀ d, 1 ≤ d → d ≤ 20 → (T c d = true ↔ ¬ fi S 3 (cA M c) &&& bt d = 0)) ∧ Lk σ
def Zr (σ : MS) : Prop := (∀ c, nC σ < c → ml σ 2 c = 0 ∧ ml σ 3 c = 0) ∧ (∀ a, nA σ < a → ma σ 6 a = 0 ∧ ma σ 9 a = 0 ∧ ml σ 11 a = 0) ∧ (∀ t, nT σ < t → ma σ 12 t = 0 ∧ ma σ 14 t = 0 ∧ ma σ 17 t = 0 ∧ ma σ 19 t = 0 ∧ ma σ 21 t = 0 ∧ ml σ 18 t = 0)
def Iw (rk : Nat → Nat) (N : Int) (σ : MS) : Prop := Cf rk σ ∧ (mi σ 19 = nI (acN σ) ∧ acN σ ≤ 20000) ∧ (mi σ 18 = nI (exN σ)) ∧ (∀ c, 0 ≤ (ml σ 3 c).toInt ∧ (ml σ 3 c).toInt ≤ N) ∧ (∀ t, 1 ≤ t → t ≤ nT σ → rg (-1) ((ma σ 14 t).toNatClampNeg) (ma σ 21 t)) ∧ (∀ t, 1 ≤ t → t ≤ nT σ → -1000 ≤ (ml σ 18 t).toInt ∧ (ml σ 18 t).toInt ≤ 1000)
def MI (n kt : Nat) (σ : MS) (T : Nat → Nat → Bool) : Prop := (mOk σ ∧ mAc σ ∧ Zr σ ∧ Tr (nC σ) σ T) ∧ Iw (rkT (nC σ) T) (25000 * (n : Int)) σ ∧ (∀ c, 1 ≤ c → c ≤ nC σ → 0 ≤ (ml σ 2 c).toInt ∧ (ml σ 2 c).toInt ≤ 1000) ∧ exN σ ≤ 25000 * wN σ * kt ∧ kt + nA σ + nT σ ≤ n
def RH (x h0 t0 n : Nat) (S : HS) : Prop := hz S + phi S x ≤ h0 + 2 * n ∧ tz S + psi S x ≤ t0 + 12 * n
def RC (M : AM) (x : Nat) (S : HS) (σ : MS) : Prop := Sm M x nE S σ ∧ ∀ y, 1 ≤ y → y ≤ nC σ → WkP M nE y (nA σ + 1) (nT σ + 1) S σ
def RO (M : AM) (x : Nat) (T : Nat → Nat → Bool) (n kt h0 t0 : Nat) (S : HS) (σ : MS) : Prop := RC M x S σ ∧ RA M x S σ ∧ RZ M S σ ∧ RL M S σ T ∧ MI n kt σ T ∧ RH x h0 t0 n S
/-- what the numbers find -/
theorem fnd {S : HS} {v n : Int32} {A : Nat} {N : Nat} {f : Nat → Nat} (hv : v = nI N) (hN : N ≤ 100) (hA : ∀ c, 1 ≤ c → c ≤ N → ar S A (c - 1) = some (f c)) : (∃ c, 1 ≤ c ∧ c ≤ N ∧ n = nI c ∧ (if n < (1 : Int32) then none else if v < n then none else ar S A (n - (1 : Int32)).toNatClampNeg) = some (f c) ∧ ¬ n < (1 : Int32) ∧ ¬ v < n) ∨ ((if n < (1 : Int32) then none else if v < n then none else ar S A (n - (1 : Int32)).toNatClampNeg) = none ∧ (n < (1 : Int32) ∨ v < n)) := by
  subst hv
  by_cases q1 : n < (1 : Int32)
  · right
    rw [if_pos q1]
    exact ⟨rfl, Or.inl q1⟩
  · rw [if_neg q1]
    by_cases q2 : nI N < n
    · right
      rw [if_pos q2]
      exact ⟨rfl, Or.inr q2⟩
    · left
      rw [if_neg q2]
      have r1 := q1
      have r2 := q2
      rw [Int32.lt_iff_toInt_lt] at r1 r2
      rw [nI_toInt (by omega)] at r2
      have e1 : (1 : Int32).toInt = 1 := rfl
      have hn : n = nI n.toNatClampNeg := (rg_cl (hi := 100) (x := n) ⟨by omega, by omega⟩ (by decide)).1
      have hnc : (n.toNatClampNeg : Int) = n.toInt := by
        have : n.toNatClampNeg = n.toInt.toNat := rfl
        omega
      have em : (n - (1 : Int32)).toNatClampNeg = n.toNatClampNeg - 1 := by
        have : (n - (1 : Int32)).toInt = n.toInt - 1 := by rw [i32_sub (by omega) (by omega), e1]
        show (n - (1 : Int32)).toInt.toNat = _
        rw [this]
        omega
      refine ⟨n.toNatClampNeg, by omega, by omega, hn, ?_, q1, q2⟩
      rw [em]
      exact hA _ (by omega) (by omega)
theorem cnt_eq {v : Int32} {N : Nat} (h : rg 0 N v) (hN : N < 2 ^ 31) : v = nI v.toNatClampNeg ∧ v.toNatClampNeg ≤ N := rg_cl (hi := N) h hN
theorem fC {M : AM} {x : Nat} {S : HS} {σ : MS} (h : RA M x S σ) (hO : mOk σ) (n : Int32) : (∃ c, 1 ≤ c ∧ c ≤ nC σ ∧ n = nI c ∧ findCounter_R S x n = some (cA M c) ∧ Mno_R σ n = 0) ∨ (findCounter_R S x n = none ∧ Mno_R σ n = 1) := by
  obtain ⟨e1, b1⟩ := cnt_eq (N := 20) hO.1 (by decide)
  unfold findCounter_R Mno_R
  rw [h.1.1]
  rcases fnd (S := S) (n := n) e1 (by have : nC σ ≤ 20 := b1; omega) h.2.2.1 with ⟨c, c1, c2, c3, c4, c5, c6⟩ | ⟨q1, q2⟩
  · exact Or.inl ⟨c, c1, c2, c3, c4, by rw [if_neg c5, if_pos (Int32.not_lt.mp c6)]⟩
  · refine Or.inr ⟨q1, ?_⟩
    rcases q2 with q2 | q2
    · rw [if_pos q2]
    · rw [if_neg (fun z => Int32.not_le.mpr q2 z)]
      split <;> rfl
theorem fA {M : AM} {x : Nat} {S : HS} {σ : MS} (h : RA M x S σ) (hO : mOk σ) (n : Int32) : (∃ c, 1 ≤ c ∧ c ≤ nA σ ∧ n = nI c ∧ findAlarm_R S x n = some (aA M c) ∧ MnoAlarm_R σ n = 0) ∨ (findAlarm_R S x n = none ∧ MnoAlarm_R σ n = 1) := by
  obtain ⟨e1, b1⟩ := cnt_eq (N := 100) hO.2.1 (by decide)
  unfold findAlarm_R MnoAlarm_R
  rw [h.1.2.1]
  rcases fnd (S := S) (n := n) e1 b1 h.2.2.2.1 with ⟨c, c1, c2, c3, c4, c5, c6⟩ | ⟨q1, q2⟩
  · exact Or.inl ⟨c, c1, c2, c3, c4, by rw [if_neg c5, if_pos (Int32.not_lt.mp c6)]⟩
  · refine Or.inr ⟨q1, ?_⟩
    rcases q2 with q2 | q2
    · rw [if_pos q2]
    · rw [if_neg (fun z => Int32.not_le.mpr q2 z)]
      split <;> rfl
theorem fT {M : AM} {x : Nat} {S : HS} {σ : MS} (h : RA M x S σ) (hO : mOk σ) (n : Int32) : (∃ c, 1 ≤ c ∧ c ≤ nT σ ∧ n = nI c ∧ findTable_R S x n = some (tA M c) ∧ MnoTable_R σ n = 0) ∨ (findTable_R S x n = none ∧ MnoTable_R σ n = 1) := by
  obtain ⟨e1, b1⟩ := cnt_eq (N := 20) hO.2.2.1 (by decide)
  unfold findTable_R MnoTable_R
  rw [h.1.2.2]
  rcases fnd (S := S) (n := n) e1 (by have : nT σ ≤ 20 := b1; omega) h.2.2.2.2.1 with ⟨c, c1, c2, c3, c4, c5, c6⟩ | ⟨q1, q2⟩
  · exact Or.inl ⟨c, c1, c2, c3, c4, by rw [if_neg c5, if_pos (Int32.not_lt.mp c6)]⟩
  · refine Or.inr ⟨q1, ?_⟩
    rcases q2 with q2 | q2
    · rw [if_pos q2]
    · rw [if_neg (fun z => Int32.not_le.mpr q2 z)]
      split <;> rfl
