-- NEW OBJECTS
def CfB (σ : MS) : Prop :=
  ((∀ c, 1 ≤ c → c ≤ nC σ → ¬ ml σ 0 c = 0) ∧ nC σ ≤ 20 ∧ nA σ ≤ 100 ∧ nT σ ≤ 20) ∧
  (∀ a, 1 ≤ a → a ≤ nA σ → inC σ (ma σ 6 a) ∧ (ma σ 7 a = 1 → inC σ (ma σ 8 a)) ∧ 0 ≤ (ml σ 11 a).toInt ∧ (ml σ 11 a).toInt ≤ 1000000000) ∧
  (∀ t, 1 ≤ t → t ≤ nT σ → inC σ (ma σ 12 t) ∧ (rg 0 (nT σ) (ma σ 17 t) ∧ (ma σ 17 t ≠ 0 → ma σ 12 ((ma σ 17 t).toNatClampNeg) = ma σ 12 t)) ∧ rg 0 20 (ma σ 14 t) ∧ (1 ≤ (ml σ 13 t).toInt ∧ (ml σ 13 t).toInt ≤ 1000000) ∧
    (∀ p, p < (ma σ 14 t).toNatClampNeg → (0 ≤ (ml σ 15 (20 * t + p)).toInt ∧ (ml σ 15 (20 * t + p)).toInt ≤ (ml σ 13 t).toInt) ∧ (∀ p', p' < p → (ml σ 15 (20 * t + p')).toInt < (ml σ 15 (20 * t + p)).toInt) ∧ (¬ ma σ 16 (20 * t + p) ≤ 0 → inC σ (ma σ 16 (20 * t + p)))))
theorem Cf_B {rk : Nat → Nat} {σ : MS} (h : Cf rk σ) : CfB σ := by
  refine ⟨h.1, fun a a1 a2 => ?_, fun t t1 t2 => ?_⟩
  · obtain ⟨k1, k2, k3⟩ := h.2.1 a a1 a2
    exact ⟨k1, fun q => (k2 q).1, k3⟩
  · obtain ⟨k1, k2, k3, k4, k5⟩ := h.2.2 t t1 t2
    exact ⟨k1, k2, k3, k4, fun p hp => ⟨(k5 p hp).1, (k5 p hp).2.1, fun q => ((k5 p hp).2.2 q).1⟩⟩
theorem inC_20 {σ : MS} {v : Int32} (h : inC σ v) (hC : nC σ ≤ 20) : v = nI v.toNatClampNeg ∧ 1 ≤ v.toNatClampNeg ∧ v.toNatClampNeg ≤ nC σ := by
  obtain ⟨e, b⟩ := rg_cl (hi := nC σ) (rg.wk h (by decide) (Int.le_refl _)) (by omega)
  refine ⟨e, ?_, b⟩
  have := h.1
  rw [e, nI_toInt (by omega)] at this
  omega
theorem Cf_of {σ : MS} {T : Nat → Nat → Bool} (h : CfB σ) (hl : Lk σ) (hT : Tr (nC σ) σ T) : Cf (rkT (nC σ) T) σ := by
  have hC := h.1.2.1
  have key : ∀ c d, inC σ c → inC σ d → ld σ c.toNatClampNeg d.toNatClampNeg → rkT (nC σ) T d.toNatClampNeg < rkT (nC σ) T c.toNatClampNeg := fun c d hc hd hl => by
    obtain ⟨-, c1, c2⟩ := inC_20 hc hC
    obtain ⟨-, d1, d2⟩ := inC_20 hd hC
    exact rkT_lt hT (hT.2.1 _ _ c1 (by omega) d1 (by omega) hl)
  refine ⟨h.1, fun a a1 a2 => ?_, fun t t1 t2 => ?_⟩
  · obtain ⟨k1, k2, k3⟩ := h.2.1 a a1 a2
    exact ⟨k1, fun q => ⟨k2 q, key _ _ k1 (k2 q) (hl.1 a a1 a2 q)⟩, k3⟩
  · obtain ⟨k1, k2, k3, k4, k5⟩ := h.2.2 t t1 t2
    exact ⟨k1, k2, k3, k4, fun p hp => ⟨(k5 p hp).1, (k5 p hp).2.1, fun q => ⟨(k5 p hp).2.2 q, key _ _ k1 ((k5 p hp).2.2 q) (hl.2 t p t1 t2 hp (Int32.not_le.mp q))⟩⟩⟩
/-- the notes and their pages stay -/
def Nf (S Y : HS) : Prop := (∀ a, kd S a ≠ 0 → kd Y a = kd S a ∧ (fr Y 21 a = fr S 21 a ∧ fr Y 9 a = fr S 9 a ∧ fr Y 10 a = fr S 10 a) ∧ (fi Y 4 a = fi S 4 a ∧ fi Y 5 a = fi S 5 a) ∧ an Y a = an S a ∧ (kd S a = 17 → ar Y a = ar S a) ∧ (kd S a = 11 → ai Y a = ai S a)) ∧ (∀ b, kd Y b = 5 → kd S b = 5)
theorem Nf.ne {S Y : HS} {x : Nat} (h : Nf S Y) (hi : sInv S x) : ntA Y x = ntA S x ∧ pgA Y x = pgA S x ∧ kpN Y x = kpN S x ∧ ar Y (pgA S x) = ar S (pgA S x) ∧ fi Y 4 (ntA S x) = fi S 4 (ntA S x) ∧ fi Y 5 (ntA S x) = fi S 5 (ntA S x) ∧ an Y (pgA S x) = an S (pgA S x) := by
  obtain ⟨⟨g1, g1b⟩, g2, g3, -⟩ := hi
  have nts := gd_some (g3 21 x rfl g2)
  have ntk : kd S (ntA S x) = 4 := g1.2.1 21 x _ g2 nts
  have pgs := gd_some (g3 9 (ntA S x) rfl ntk)
  have pgk : kd S (pgA S x) = 17 := g1.2.1 9 (ntA S x) _ ntk pgs
  have hx := h.1 x (by rw [g2]; decide)
  have hnt := h.1 (ntA S x) (by rw [ntk]; decide)
  have hpg := h.1 (pgA S x) (by rw [pgk]; decide)
  have e1 : ntA Y x = ntA S x := by show gd (fr Y 21 x) = _; rw [hx.2.1.1]
  have e2 : pgA Y x = pgA S x := by show gd (fr Y 9 (ntA Y x)) = _; rw [e1, hnt.2.1.2.1]
  refine ⟨e1, e2, ?_, hpg.2.2.2.2.1 pgk, hnt.2.2.1.1, hnt.2.2.1.2, hpg.2.2.2.1⟩
  show (fi Y 4 (ntA Y x)).toNatClampNeg = _
  rw [e1, hnt.2.2.1.1]
theorem Nf.kp {S Y : HS} {x : Nat} (h : Nf S Y) (hi : sInv S x) : kpOk Y x ∧ pgOk Y ∧ phi Y x = phi S x ∧ psi Y x = psi S x := by
  obtain ⟨e1, e2, e3, e4, e5, e6, e7⟩ := h.ne hi
  obtain ⟨⟨g1, g1b⟩, g2, g3, g4, g5, -⟩ := hi
  refine ⟨?_, fun b hb => ?_, ?_, ?_⟩
  · unfold kpOk
    rw [e1, e2, e3, e4, e5, e7]
    exact g5
  · have hb5 := h.2 b hb
    have hs := gd_some (g3 10 b rfl hb5)
    have hk : kd S (gd (fr S 10 b)) = 11 := g1.2.1 10 b _ hb5 hs
    rw [(h.1 b (by rw [hb5]; decide)).2.1.2.2, (h.1 _ (by rw [hk]; decide)).2.2.2.1]
    exact g4 b hb5
  · unfold phi; rw [e3]
  · unfold psi; rw [e3]
theorem Nf.dn {S Y : HS} {x : Nat} {σ : MS} (h : Nf S Y) (hi : sInv S x) (hd : Dn x S σ) : Dn x Y σ := by
  obtain ⟨e1, e2, e3, e4, e5, e6, e7⟩ := h.ne hi
  obtain ⟨⟨g1, g1b⟩, g2, g3, g4, ⟨g5, g6, g7, g8⟩, -⟩ := hi
  have nts := gd_some (g3 21 x rfl g2)
  have ntk : kd S (ntA S x) = 4 := g1.2.1 21 x _ g2 nts
  have pgs := gd_some (g3 9 (ntA S x) rfl ntk)
  have pgk : kd S (pgA S x) = 17 := g1.2.1 9 (ntA S x) _ ntk pgs
  have hcl : ∀ j, 250 * j < kpN S x → clA Y x j = clA S x j ∧ kd S (clA S x j) = 11 := fun j hj => by
    cases hp : ar S (pgA S x) j with
    | none => exact absurd ((g8 j (by omega)).mp hp) (by omega)
    | some b =>
      have kb : kd S b = 5 := (g1.2.2 (pgA S x) j b (by rw [pgk]; decide) hp).trans (by rw [pgk]; rfl)
      have hk : kd S (gd (fr S 10 b)) = 11 := g1.2.1 10 b _ kb (gd_some (g3 10 b rfl kb))
      constructor
      · show gd (fr Y 10 (gd (ar Y (pgA Y x) j))) = gd (fr S 10 (gd (ar S (pgA S x) j)))
        rw [e2, e4, hp]
        show gd (fr Y 10 b) = gd (fr S 10 b)
        rw [(h.1 b (by rw [kb]; decide)).2.1.2.2]
      · show kd S (gd (fr S 10 (gd (ar S (pgA S x) j)))) = 11
        rw [hp]
        exact hk
  obtain ⟨d1, d2, d3, d4⟩ := hd
  refine ⟨by rw [e1, e6]; exact d1, by rw [e3]; exact d2, fun i hi w hw => ?_, fun j j' hj hj' => ?_⟩
  · rw [e3] at hi
    obtain ⟨q1, q2⟩ := hcl (i / 250) (by omega)
    rw [q1, (h.1 _ (by rw [q2]; decide)).2.2.2.2.2 q2]
    exact d3 i hi w hw
  · rw [e3] at hj hj'
    rw [(hcl j hj).1, (hcl j' hj').1]
    exact d4 j j' hj hj'
theorem sInv_mk {M : AM} {x : Nat} {S Y : HS} {σ : MS} (hi : sInv S x) (hN : Nf S Y) (hO : hOk Y ∧ hlt Y) (hn : nn Y) (hR : RS M Y σ) (h3 : ∀ b, kd Y b = 3 → ∃ c, 1 ≤ c ∧ c ≤ nC σ ∧ b = cA M c) : sInv Y x := by
  obtain ⟨k1, k2, -⟩ := hN.kp hi
  refine ⟨hO, (hN.1 x (by rw [hi.2.1]; decide)).1.trans hi.2.1, hn, k2, k1, fun b hb => ?_, fun b hb => ?_⟩
  · obtain ⟨c, c1, c2, rfl⟩ := h3 b hb
    exact ⟨_, (hR.2.2.1 c c1 c2).2.2.2.2.1⟩
  · obtain ⟨c, c1, c2, rfl⟩ := h3 b hb
    exact ⟨_, (hR.2.2.1 c c1 c2).2.2.2.2.2⟩
theorem aLs_M {M M' : AM} {σ σ' : MS} {c : Nat} : ∀ (k a : Nat), (∀ b, a ≤ b → b < a + k → aA M' b = aA M b ∧ ma σ' 6 b = ma σ 6 b) → aLs M' σ' c k a = aLs M σ c k a
  | 0, _, _ => rfl
  | k + 1, a, h => by
    unfold aLs
    rw [(h a (Nat.le_refl _) (by omega)).1, (h a (Nat.le_refl _) (by omega)).2, aLs_M k (a + 1) (fun b h1 h2 => h b (by omega) (by omega))]
theorem tLs_M {M M' : AM} {σ σ' : MS} {c : Nat} : ∀ (k a : Nat), (∀ b, a ≤ b → b < a + k → tA M' b = tA M b ∧ ma σ' 12 b = ma σ 12 b) → tLs M' σ' c k a = tLs M σ c k a
  | 0, _, _ => rfl
  | k + 1, a, h => by
    unfold tLs
    rw [(h a (Nat.le_refl _) (by omega)).1, (h a (Nat.le_refl _) (by omega)).2, tLs_M k (a + 1) (fun b h1 h2 => h b (by omega) (by omega))]
theorem aLs_nil {M : AM} {σ : MS} {c : Nat} : ∀ (k a : Nat), (∀ b, a ≤ b → b < a + k → ¬ ma σ 6 b = nI c) → aLs M σ c k a = []
  | 0, _, _ => rfl
  | k + 1, a, h => by
    unfold aLs
    rw [if_neg (h a (Nat.le_refl _) (by omega))]
    exact aLs_nil k (a + 1) (fun b h1 h2 => h b (by omega) (by omega))
theorem tLs_nil {M : AM} {σ : MS} {c : Nat} : ∀ (k a : Nat), (∀ b, a ≤ b → b < a + k → ¬ ma σ 12 b = nI c) → tLs M σ c k a = []
  | 0, _, _ => rfl
  | k + 1, a, h => by
    unfold tLs
    rw [if_neg (h a (Nat.le_refl _) (by omega))]
    exact tLs_nil k (a + 1) (fun b h1 h2 => h b (by omega) (by omega))
theorem aLs_end {M : AM} {σ : MS} {c : Nat} : ∀ (k a : Nat), aLs M σ c (k + 1) a = aLs M σ c k a ++ (if ma σ 6 (a + k) = nI c then [aA M (a + k)] else [])
  | 0, a => by
    show (if ma σ 6 a = nI c then aA M a :: [] else []) = _
    rfl
  | k + 1, a => by
    have := aLs_end (M := M) (σ := σ) (c := c) k (a + 1)
    rw [show a + 1 + k = a + (k + 1) by omega] at this
    show (if ma σ 6 a = nI c then aA M a :: aLs M σ c (k + 1) (a + 1) else aLs M σ c (k + 1) (a + 1)) = (if ma σ 6 a = nI c then aA M a :: aLs M σ c k (a + 1) else aLs M σ c k (a + 1)) ++ _
    rw [this]
    split <;> rfl
theorem tLs_end {M : AM} {σ : MS} {c : Nat} : ∀ (k a : Nat), tLs M σ c (k + 1) a = tLs M σ c k a ++ (if ma σ 12 (a + k) = nI c then [tA M (a + k)] else [])
  | 0, a => by
    show (if ma σ 12 a = nI c then tA M a :: [] else []) = _
    rfl
  | k + 1, a => by
    have := tLs_end (M := M) (σ := σ) (c := c) k (a + 1)
    rw [show a + 1 + k = a + (k + 1) by omega] at this
    show (if ma σ 12 a = nI c then tA M a :: tLs M σ c (k + 1) (a + 1) else tLs M σ c (k + 1) (a + 1)) = (if ma σ 12 a = nI c then tA M a :: tLs M σ c k (a + 1) else tLs M σ c k (a + 1)) ++ _
    rw [this]
    split <;> rfl
theorem lsO_end : ∀ (xs : List Nat) (y : Nat), lsO (xs ++ [y]) = some y
  | [], _ => rfl
  | [_], _ => rfl
  | _ :: b :: xs, y => lsO_end (b :: xs) y
theorem lsO_mem : ∀ (xs : List Nat) (y : Nat), lsO xs = some y → ∃ ys, xs = ys ++ [y]
  | [], _, h => by cases h
  | [a], y, h => by cases h; exact ⟨[], rfl⟩
  | a :: b :: xs, y, h => by
    obtain ⟨ys, e⟩ := lsO_mem (b :: xs) y h
    exact ⟨a :: ys, by rw [e]; rfl⟩
theorem lsO_none : ∀ (xs : List Nat), lsO xs = none → xs = []
  | [], _ => rfl
  | [_], h => by cases h
  | _ :: b :: xs, h => by
    have := lsO_none (b :: xs) h
    cases this
/-- a chain whose last gets one more behind it -/
theorem chn_snoc {f g : Nat → Option Nat} {y q : Nat} (hq : g q = none) (hy : g y = some q) : ∀ (xs : List Nat) (o : Option Nat), chn f o (xs ++ [y]) → (∀ z ∈ xs, g z = f z) → chn g o (xs ++ [y, q])
  | [], o, h, _ => ⟨h.1, by rw [hy]; exact ⟨rfl, hq⟩⟩
  | z :: xs, o, h, he => ⟨h.1, by rw [he z List.mem_cons_self]; exact chn_snoc hq hy xs _ h.2 (fun w hw => he w (List.mem_cons_of_mem _ hw))⟩
