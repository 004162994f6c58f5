-- THE CLASS'S STORE AGAINST THE MODEL'S
/-- where counters, alarms, tables and points lie -/
abbrev AM : Type := (Nat → Nat) × (Nat → Nat) × (Nat → Nat) × (Nat → Nat → Nat)
def cA (M : AM) : Nat → Nat := M.1
def aA (M : AM) : Nat → Nat := M.2.1
def tA (M : AM) : Nat → Nat := M.2.2.1
def pA (M : AM) : Nat → Nat → Nat := M.2.2.2
abbrev npT (σ : MS) (t : Nat) : Nat := (ma σ 14 t).toNatClampNeg
def ptO (M : AM) (σ : MS) (t p : Nat) : Option Nat := if p < npT σ t then some (pA M t p) else none
def aLs (M : AM) (σ : MS) (c : Nat) : Nat → Nat → List Nat
  | 0, _ => []
  | k + 1, a => if ma σ 6 a = nI c then aA M a :: aLs M σ c k (a + 1) else aLs M σ c k (a + 1)
def tLs (M : AM) (σ : MS) (c : Nat) : Nat → Nat → List Nat
  | 0, _ => []
  | k + 1, a => if ma σ 12 a = nI c then tA M a :: tLs M σ c k (a + 1) else tLs M σ c k (a + 1)
def acR (S : HS) (q : Nat) (st ca : Option Nat) : Prop := kd S q = 1 ∧ fr S 0 q = st ∧ fr S 1 q = ca
def RSc (M : AM) (S : HS) (σ : MS) : Prop := ∀ c, 1 ≤ c → c ≤ nC σ → kd S (cA M c) = 3 ∧ fl S 2 (cA M c) = ml σ 0 c ∧ fl S 3 (cA M c) = ml σ 1 c ∧ fl S 4 (cA M c) = ml σ 2 c ∧ chn (fr S 4) (fr S 5 (cA M c)) (aLs M σ c (nA σ) 1) ∧ chn (fr S 17) (fr S 7 (cA M c)) (tLs M σ c (nT σ) 1)
def RSi (M : AM) (σ : MS) : Prop := (∀ c d, 1 ≤ c → c ≤ nC σ → 1 ≤ d → d ≤ nC σ → cA M c = cA M d → c = d) ∧ (∀ c d, 1 ≤ c → c ≤ nA σ → 1 ≤ d → d ≤ nA σ → aA M c = aA M d → c = d) ∧ (∀ c d, 1 ≤ c → c ≤ nT σ → 1 ≤ d → d ≤ nT σ → tA M c = tA M d → c = d)
def RSa (M : AM) (S : HS) (σ : MS) : Prop := ∀ a, 1 ≤ a → a ≤ nA σ → kd S (aA M a) = 2 ∧ fi S 0 (aA M a) = nI a ∧ fr S 2 (aA M a) = some (cA M (ma σ 6 a).toNatClampNeg) ∧ fl S 1 (aA M a) = ml σ 11 a ∧ (ma σ 7 a = 2 → rg 1 (nA σ) (ma σ 8 a)) ∧ ∃ q, fr S 3 (aA M a) = some q ∧ acR S q (if ma σ 7 a = 1 then some (cA M (ma σ 8 a).toNatClampNeg) else none) (if ma σ 7 a = 2 then some (aA M (ma σ 8 a).toNatClampNeg) else none)
def RSt (M : AM) (S : HS) (σ : MS) : Prop := ∀ t, 1 ≤ t → t ≤ nT σ → kd S (tA M t) = 7 ∧ fi S 6 (tA M t) = nI t ∧ fr S 13 (tA M t) = some (cA M (ma σ 12 t).toNatClampNeg) ∧ fl S 9 (tA M t) = ml σ 13 t ∧ fr S 16 (tA M t) = (if ma σ 17 t = 0 then none else some (tA M (ma σ 17 t).toNatClampNeg)) ∧ fr S 14 (tA M t) = ptO M σ t 0
def RSp (M : AM) (S : HS) (σ : MS) : Prop := ∀ t p, 1 ≤ t → t ≤ nT σ → p < npT σ t → kd S (pA M t p) = 6 ∧ fl S 8 (pA M t p) = ml σ 15 (20 * t + p) ∧ fr S 12 (pA M t p) = ptO M σ t (p + 1) ∧ (ma σ 16 (20 * t + p) < 0 → rg 1 (nA σ) (-(ma σ 16 (20 * t + p)))) ∧ ∃ q, fr S 11 (pA M t p) = some q ∧ acR S q (if 0 < ma σ 16 (20 * t + p) then some (cA M (ma σ 16 (20 * t + p)).toNatClampNeg) else none) (if ma σ 16 (20 * t + p) < 0 then some (aA M (-(ma σ 16 (20 * t + p))).toNatClampNeg) else none)
def RSb (σ : MS) : Prop := ∀ c, 1 ≤ c → c ≤ nC σ → (1 ≤ (ml σ 0 c).toInt ∧ (ml σ 0 c).toInt ≤ 1000000000) ∧ 1 ≤ (ml σ 1 c).toInt ∧ (ml σ 1 c).toInt ≤ 1000
def RS (M : AM) (S : HS) (σ : MS) : Prop := RSb σ ∧ RSi M σ ∧ RSc M S σ ∧ RSa M S σ ∧ RSt M S σ ∧ RSp M S σ
/-- what stays of the class's store along a step -/
def Sc (S S' : HS) : Prop := (∀ a, kd S a ≠ 0 → kd S' a = kd S a ∧ (∀ k, k ≠ 1 → k ≠ 4 → k ≠ 5 → k ≠ 8 → k ≠ 9 → k ≠ 13 → fi S' k a = fi S k a) ∧ (∀ k, k ≠ 0 → k ≠ 5 → k ≠ 6 → k ≠ 7 → k ≠ 10 → k ≠ 11 → fl S' k a = fl S k a) ∧ (∀ k, k ≠ 15 → fr S' k a = fr S k a) ∧ (kd S a ≠ 17 → ar S' a = ar S a)) ∧ (∀ b, kd S' b = 3 ∨ kd S' b = 7 → kd S b = kd S' b)
theorem Sc.rf (S : HS) : Sc S S := ⟨fun _ _ => ⟨rfl, fun _ _ _ _ _ _ _ => rfl, fun _ _ _ _ _ _ _ => rfl, fun _ _ => rfl, fun _ => rfl⟩, fun _ _ => rfl⟩
theorem Sc.tr {S S' S'' : HS} (h : Sc S S') (h' : Sc S' S'') : Sc S S'' := by
  refine ⟨fun a ha => ?_, fun b hb => ?_⟩
  case refine_2 =>
    have e := h'.2 b hb
    exact (h.2 b (by rw [e]; exact hb)).trans e
  obtain ⟨a1, a2, a3, a4, a5⟩ := h.1 a ha
  obtain ⟨b1, b2, b3, b4, b5⟩ := h'.1 a (by rw [a1]; exact ha)
  exact ⟨b1.trans a1, fun k q1 q2 q3 q4 q5 q6 => (b2 k q1 q2 q3 q4 q5 q6).trans (a2 k q1 q2 q3 q4 q5 q6), fun k q1 q2 q3 q4 q5 q6 => (b3 k q1 q2 q3 q4 q5 q6).trans (a3 k q1 q2 q3 q4 q5 q6), fun k q => (b4 k q).trans (a4 k q), fun q => (b5 (by rw [a1]; exact q)).trans (a5 q)⟩
theorem Sc_sfi {S : HS} {k a : Nat} {v : Int32} (h : k = 1 ∨ k = 4 ∨ k = 5 ∨ k = 8 ∨ k = 9 ∨ k = 13) : Sc S (sfi S k a v) := ⟨fun b _ => ⟨rfl, fun j q1 q2 q3 q4 q5 q6 => up2_k _ _ _ _ (by omega), fun _ _ _ _ _ _ _ => rfl, fun _ _ => rfl, fun _ => rfl⟩, fun _ _ => rfl⟩
theorem Sc_sfl {S : HS} {k a : Nat} {v : Int64} (h : k = 0 ∨ k = 5 ∨ k = 6 ∨ k = 7 ∨ k = 10 ∨ k = 11) : Sc S (sfl S k a v) := ⟨fun b _ => ⟨rfl, fun _ _ _ _ _ _ _ => rfl, fun j q1 q2 q3 q4 q5 q6 => up2_k _ _ _ _ (by omega), fun _ _ => rfl, fun _ => rfl⟩, fun _ _ => rfl⟩
theorem Sc_sfr {S : HS} {a : Nat} {v : Option Nat} : Sc S (sfr S 15 a v) := ⟨fun b _ => ⟨rfl, fun _ _ _ _ _ _ _ => rfl, fun _ _ _ _ _ _ _ => rfl, fun k q => up2_k _ _ _ _ q, fun _ => rfl⟩, fun _ _ => rfl⟩
theorem chn_uq {f : Nat → Option Nat} : ∀ (xs ys : List Nat) (o : Option Nat), chn f o xs → chn f o ys → xs = ys
  | [], [], _, _, _ => rfl
  | [], y :: ys, o, h, h' => by have := h.symm.trans h'.1; cases this
  | x :: xs, [], o, h, h' => by have := h'.symm.trans h.1; cases this
  | x :: xs, y :: ys, o, h, h' => by
    have e := h.1.symm.trans h'.1
    cases e
    rw [chn_uq xs ys _ h.2 h'.2]
theorem cho_eq {f : Nat → Option Nat} {o : Option Nat} {xs : List Nat} (h : chn f o xs) : cho f o = xs := chn_uq _ _ _ (cho_spec ⟨xs, h⟩) h
theorem aLs_mem {M : AM} {σ : MS} {c : Nat} : ∀ (k a : Nat) (z : Nat), z ∈ aLs M σ c k a → ∃ b, a ≤ b ∧ b < a + k ∧ z = aA M b ∧ ma σ 6 b = nI c
  | 0, _, z, h => by cases h
  | k + 1, a, z, h => by
    unfold aLs at h
    split at h
    · rename_i e
      rcases List.mem_cons.mp h with h | h
      · exact ⟨a, Nat.le_refl _, by omega, h, e⟩
      · obtain ⟨b, h1, h2, h3⟩ := aLs_mem k (a + 1) z h
        exact ⟨b, by omega, by omega, h3⟩
    · obtain ⟨b, h1, h2, h3⟩ := aLs_mem k (a + 1) z h
      exact ⟨b, by omega, by omega, h3⟩
theorem tLs_mem {M : AM} {σ : MS} {c : Nat} : ∀ (k a : Nat) (z : Nat), z ∈ tLs M σ c k a → ∃ b, a ≤ b ∧ b < a + k ∧ z = tA M b ∧ ma σ 12 b = nI c
  | 0, _, z, h => by cases h
  | k + 1, a, z, h => by
    unfold tLs at h
    split at h
    · rename_i e
      rcases List.mem_cons.mp h with h | h
      · exact ⟨a, Nat.le_refl _, by omega, h, e⟩
      · obtain ⟨b, h1, h2, h3⟩ := tLs_mem k (a + 1) z h
        exact ⟨b, by omega, by omega, h3⟩
    · obtain ⟨b, h1, h2, h3⟩ := tLs_mem k (a + 1) z h
      exact ⟨b, by omega, by omega, h3⟩
theorem aLs_cg {M : AM} {σ σ' : MS} {c : Nat} (h : ma σ' 6 = ma σ 6) : ∀ (k a : Nat), aLs M σ' c k a = aLs M σ c k a
  | 0, _ => rfl
  | k + 1, a => by unfold aLs; rw [h, aLs_cg h k (a + 1)]
theorem tLs_cg {M : AM} {σ σ' : MS} {c : Nat} (h : ma σ' 12 = ma σ 12) : ∀ (k a : Nat), tLs M σ' c k a = tLs M σ c k a
  | 0, _ => rfl
  | k + 1, a => by unfold tLs; rw [h, tLs_cg h k (a + 1)]
theorem acR_Sc {S S' : HS} {q : Nat} {u v : Option Nat} (h : Sc S S') (r : acR S q u v) : acR S' q u v := by
  obtain ⟨r1, r2, r3⟩ := r
  obtain ⟨e1, -, -, e4, -⟩ := h.1 q (by rw [r1]; decide)
  exact ⟨e1.trans r1, (e4 0 (by decide)).trans r2, (e4 1 (by decide)).trans r3⟩
theorem RS_Sc {M : AM} {S S' : HS} {σ : MS} (r : RS M S σ) (h : Sc S S') : RS M S' σ := by
  obtain ⟨rb, ri, rc, ra, rt, rp⟩ := r
  refine ⟨rb, ri, fun c c1 c2 => ?_, fun a a1 a2 => ?_, fun t t1 t2 => ?_, fun t p t1 t2 hp => ?_⟩
  · obtain ⟨k1, k2, k3, k3b, k4, k5⟩ := rc c c1 c2
    obtain ⟨e1, e2, e3, e4, -⟩ := h.1 (cA M c) (by rw [k1]; decide)
    refine ⟨e1.trans k1, (e3 2 (by decide) (by decide) (by decide) (by decide) (by decide) (by decide)).trans k2, (e3 3 (by decide) (by decide) (by decide) (by decide) (by decide) (by decide)).trans k3, (e3 4 (by decide) (by decide) (by decide) (by decide) (by decide) (by decide)).trans k3b, ?_, ?_⟩
    · rw [e4 5 (by decide)]
      refine chn_congr _ _ (fun z hz => ?_) k4
      obtain ⟨b, b1, b2, rfl, -⟩ := aLs_mem _ _ _ hz
      exact ((h.1 (aA M b) (by rw [(ra b b1 (by omega)).1]; decide)).2.2.2.1 4 (by decide)).symm
    · rw [e4 7 (by decide)]
      refine chn_congr _ _ (fun z hz => ?_) k5
      obtain ⟨b, b1, b2, rfl, -⟩ := tLs_mem _ _ _ hz
      exact ((h.1 (tA M b) (by rw [(rt b b1 (by omega)).1]; decide)).2.2.2.1 17 (by decide)).symm
  · obtain ⟨k1, k2, k3, k4, k5, q, k6, k7⟩ := ra a a1 a2
    obtain ⟨e1, e2, e3, e4, -⟩ := h.1 (aA M a) (by rw [k1]; decide)
    exact ⟨e1.trans k1, (e2 0 (by decide) (by decide) (by decide) (by decide) (by decide) (by decide)).trans k2, (e4 2 (by decide)).trans k3, (e3 1 (by decide) (by decide) (by decide) (by decide) (by decide) (by decide)).trans k4, k5, q, (e4 3 (by decide)).trans k6, acR_Sc h k7⟩
  · obtain ⟨k1, k2, k3, k4, k5, k6⟩ := rt t t1 t2
    obtain ⟨e1, e2, e3, e4, -⟩ := h.1 (tA M t) (by rw [k1]; decide)
    exact ⟨e1.trans k1, (e2 6 (by decide) (by decide) (by decide) (by decide) (by decide) (by decide)).trans k2, (e4 13 (by decide)).trans k3, (e3 9 (by decide) (by decide) (by decide) (by decide) (by decide) (by decide)).trans k4, (e4 16 (by decide)).trans k5, (e4 14 (by decide)).trans k6⟩
  · obtain ⟨k1, k2, k3, k4, q, k6, k7⟩ := rp t p t1 t2 hp
    obtain ⟨e1, e2, e3, e4, -⟩ := h.1 (pA M t p) (by rw [k1]; decide)
    exact ⟨e1.trans k1, (e3 8 (by decide) (by decide) (by decide) (by decide) (by decide) (by decide)).trans k2, (e4 12 (by decide)).trans k3, k4, q, (e4 11 (by decide)).trans k6, acR_Sc h k7⟩
theorem ptO_cg {M : AM} {σ σ' : MS} {t p : Nat} (h : ma σ' 14 = ma σ 14) : ptO M σ' t p = ptO M σ t p := by unfold ptO npT; rw [h]
theorem RS_stc {M : AM} {S : HS} {σ σ' : MS} (h : stc σ σ') (r : RS M S σ) : RS M S σ' := by
  have eC := nC_stc h
  have eA := nA_stc h
  have eT := nT_stc h
  obtain ⟨-, ha, hl⟩ := h
  have a6 := ha 6 (by decide)
  have a7 := ha 7 (by decide)
  have a8 := ha 8 (by decide)
  have a12 := ha 12 (by decide)
  have a14 := ha 14 (by decide)
  have a16 := ha 16 (by decide)
  have a17 := ha 17 (by decide)
  have l0 := hl 0 (by decide)
  have l1 := hl 1 (by decide)
  have l2 := hl 2 (by decide)
  have l11 := hl 11 (by decide)
  have l13 := hl 13 (by decide)
  have l15 := hl 15 (by decide)
  unfold RS RSb RSi RSc RSa RSt RSp at r ⊢
  rw [eC, eA, eT, a6, a7, a8, a12, a16, a17, l0, l1, l2, l11, l13, l15]
  simp only [aLs_cg a6, tLs_cg a12, ptO_cg a14, npT, a14] at r ⊢
  exact r
-- the value
def mdl (s b : Int64) : Int64 := s - s / b * b
theorem mdl_int {s b : Int64} (h0 : 0 ≤ s.toInt) (h1 : s.toInt < 2 ^ 61) (hb : 1 ≤ b.toInt) (hb2 : b.toInt ≤ 1000000000) : (mdl s b).toInt = s.toInt % b.toInt := by
  unfold mdl
  have hq0 : 0 ≤ s.toInt / b.toInt := Int.ediv_nonneg h0 (by omega)
  have hq1 : s.toInt / b.toInt ≤ s.toInt := Int.ediv_le_self _ h0
  have hd : (s / b).toInt = s.toInt / b.toInt := by
    rw [Int64.toInt_div, Int.tdiv_eq_ediv_of_nonneg h0]
    exact Int.bmod_eq_of_le (by omega) (by omega)
  have he := Int.mul_ediv_add_emod s.toInt b.toInt
  have hm0 := Int.emod_nonneg s.toInt (show b.toInt ≠ 0 by omega)
  have hm1 := Int.emod_lt_of_pos s.toInt (show 0 < b.toInt by omega)
  have hp : s.toInt / b.toInt * b.toInt = b.toInt * (s.toInt / b.toInt) := Int.mul_comm _ _
  have hm : (s / b * b).toInt = s.toInt / b.toInt * b.toInt := by
    rw [Int64.toInt_mul, hd]
    exact Int.bmod_eq_of_le (by omega) (by omega)
  rw [i64_sub (by rw [hm]; omega) (by rw [hm]; omega), hm]
  omega
theorem mdl_up {s b : Int64} (h0 : 0 ≤ s.toInt) (h1 : s.toInt < 2 ^ 60) (hb : 1 ≤ b.toInt) (hb2 : b.toInt ≤ 1000000000) : mdl (s + 1) b = if mdl s b + 1 < b then mdl s b + 1 else 0 := by
  have e1 : (1 : Int64).toInt = 1 := rfl
  have e0 : (0 : Int64).toInt = 0 := rfl
  have es : (s + 1).toInt = s.toInt + 1 := by rw [i64_add (by rw [e1]; omega) (by rw [e1]; omega), e1]
  have f1 := mdl_int h0 (by omega) hb hb2
  have f2 := mdl_int (s := s + 1) (by rw [es]; omega) (by rw [es]; omega) hb hb2
  have hm0 := Int.emod_nonneg s.toInt (show b.toInt ≠ 0 by omega)
  have hm1 := Int.emod_lt_of_pos s.toInt (show 0 < b.toInt by omega)
  have ev : (mdl s b + 1).toInt = s.toInt % b.toInt + 1 := by rw [i64_add (by rw [f1, e1]; omega) (by rw [f1, e1]; omega), f1, e1]
  refine Int64.toInt_inj.mp ?_
  rw [f2, es]
  have hx : (s.toInt + 1) % b.toInt = (s.toInt % b.toInt + 1) % b.toInt := by rw [Int.emod_add_emod]
  rw [hx]
  split
  · rename_i c
    rw [Int64.lt_iff_toInt_lt, ev] at c
    rw [ev, Int.emod_eq_of_lt (by omega) c]
  · rename_i c
    rw [Int64.lt_iff_toInt_lt, ev] at c
    have : s.toInt % b.toInt + 1 = b.toInt := by omega
    rw [this, Int.emod_self, e0]
