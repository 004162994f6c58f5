-- LINKING
def e3 (X Y : HS) : Prop := kd Y = kd X ∧ (∀ k, k ≠ 3 → fi Y k = fi X k) ∧ fl Y = fl X ∧ fr Y = fr X ∧ an Y = an X ∧ ai Y = ai X ∧ ar Y = ar X ∧ hz Y = hz X ∧ tz Y = tz X ∧ hL Y = hL X
theorem e3.rf (X : HS) : e3 X X := ⟨rfl, fun _ _ => rfl, rfl, rfl, rfl, rfl, rfl, rfl, rfl, rfl⟩
theorem e3_w {X Y : HS} {a : Nat} {v : Int32} (h : e3 X Y) : e3 X (sfi Y 3 a v) := by
  obtain ⟨h1, h2, h3, h4, h5, h6, h7, h8, h9, h10⟩ := h
  exact ⟨h1, fun k hk => (funext fun z => up2_k _ _ _ _ hk).trans (h2 k hk), h3, h4, h5, h6, h7, h8, h9, h10⟩
theorem lk_eff {X : HS} {x c N : Nat} {ad : Int32} {f : Nat → Nat} (hA : ∀ j, 1 ≤ j → j ≤ N → ar X (gd (fr X 18 x)) (j - 1) = some (f j)) (hf : ∀ i j, 1 ≤ i → i ≤ N → 1 ≤ j → j ≤ N → f i = f j → i = j) (c1 : 1 ≤ c) (c2 : c ≤ N) (hN : N ≤ 20) : ∀ (k i : Nat) (Y : HS), i + k = N → e3 X Y → (∀ j, 1 ≤ j → j ≤ N → fi Y 3 (f j) = if j ≤ i then (if j = c ∨ ¬ fi X 3 (f j) &&& fi X 2 (f c) = 0 then fi X 3 (f j) ||| ad else fi X 3 (f j)) else fi X 3 (f j)) →
    e3 X (lkN x (f c) ad k i Y) ∧ ∀ j, 1 ≤ j → j ≤ N → fi (lkN x (f c) ad k i Y) 3 (f j) = if j = c ∨ ¬ fi X 3 (f j) &&& fi X 2 (f c) = 0 then fi X 3 (f j) ||| ad else fi X 3 (f j)
  | 0, i, Y, hk, he, h => ⟨he, fun j j1 j2 => (h j j1 j2).trans (if_pos (by omega))⟩
  | k + 1, i, Y, hk, he, h => by
    obtain ⟨h1, h2, h3, h4, h5, h6, h7, h8, h9, h10⟩ := id he
    have ea : ar Y (gd (fr Y 18 x)) (nI i).toNatClampNeg = some (f (i + 1)) := by
      rw [h4, h7, nI_clamp (by omega)]
      have := hA (i + 1) (by omega) (by omega)
      rw [show i + 1 - 1 = i by omega] at this
      exact this
    have e2 : fi Y 2 (f c) = fi X 2 (f c) := by rw [h2 2 (by decide)]
    have ei : fi Y 3 (f (i + 1)) = fi X 3 (f (i + 1)) := (h (i + 1) (by omega) (by omega)).trans (if_neg (by omega))
    have es : lkStep Y (f c) ad (ar Y (gd (fr Y 18 x)) (nI i).toNatClampNeg) = if i + 1 = c ∨ ¬ fi X 3 (f (i + 1)) &&& fi X 2 (f c) = 0 then sfi Y 3 (f (i + 1)) (fi X 3 (f (i + 1)) ||| ad) else Y := by
      unfold lkStep
      rw [op_some ea, e2, ei]
      by_cases q : i + 1 = c
      · rw [if_pos (by rw [q]), if_pos (Or.inl q)]
      · have q' : ¬ some (f (i + 1)) = some (f c) := fun z => q (hf _ _ (by omega) (by omega) c1 c2 (Option.some.inj z))
        rw [if_neg q']
        by_cases q2 : fi X 3 (f (i + 1)) &&& fi X 2 (f c) = 0
        · rw [if_pos q2, if_neg (fun z => z.elim q (fun w => w q2))]
        · rw [if_neg q2, if_pos (Or.inr q2)]
    unfold lkN
    rw [es]
    refine lk_eff hA hf c1 c2 hN k (i + 1) _ (by omega) ?_ (fun j j1 j2 => ?_)
    · split
      · exact e3_w he
      · exact he
    · by_cases q : i + 1 = c ∨ ¬ fi X 3 (f (i + 1)) &&& fi X 2 (f c) = 0
      · rw [if_pos q]
        by_cases e : j = i + 1
        · subst e
          rw [if_pos (Nat.le_refl _), if_pos q]
          exact up2_self _ _ _ _
        · have ne : f j ≠ f (i + 1) := fun z => e (hf _ _ j1 j2 (by omega) (by omega) z)
          rw [show fi (sfi Y 3 (f (i + 1)) (fi X 3 (f (i + 1)) ||| ad)) 3 (f j) = fi Y 3 (f j) from up2_a _ _ _ _ ne, h j j1 j2]
          by_cases e2 : j ≤ i
          · rw [if_pos e2, if_pos (show j ≤ i + 1 by omega)]
          · rw [if_neg e2, if_neg (show ¬ j ≤ i + 1 by omega)]
      · rw [if_neg q]
        by_cases e : j = i + 1
        · subst e
          rw [if_pos (Nat.le_refl _), if_neg q]
          exact ei
        · rw [h j j1 j2]
          by_cases e2 : j ≤ i
          · rw [if_pos e2, if_pos (show j ≤ i + 1 by omega)]
          · rw [if_neg e2, if_neg (show ¬ j ≤ i + 1 by omega)]
/-- the marks behind a new link from c to d -/
def lkT (T : Nat → Nat → Bool) (c d : Nat) : Nat → Nat → Bool := fun i j => T i j || ((i == c || T i c) && (j == d || T d j))
theorem lkT_iff {T : Nat → Nat → Bool} {c d i j : Nat} : lkT T c d i j = true ↔ T i j = true ∨ ((i = c ∨ T i c = true) ∧ (j = d ∨ T d j = true)) := by
  unfold lkT
  simp only [Bool.or_eq_true, Bool.and_eq_true, beq_iff_eq]
theorem link_bits {M : AM} {X : HS} {σ : MS} {T : Nat → Nat → Bool} {c d : Nat} (hb : ∀ j, 1 ≤ j → j ≤ nC σ → fi X 2 (cA M j) = bt j ∧ ∀ e, 1 ≤ e → e ≤ 20 → (T j e = true ↔ ¬ fi X 3 (cA M j) &&& bt e = 0)) (c1 : 1 ≤ c) (c2 : c ≤ nC σ) (d1 : 1 ≤ d) (d2 : d ≤ nC σ) (hC : nC σ ≤ 20) {j : Nat} (j1 : 1 ≤ j) (j2 : j ≤ nC σ) {v : Int32} (hv : v = if j = c ∨ ¬ fi X 3 (cA M j) &&& fi X 2 (cA M c) = 0 then fi X 3 (cA M j) ||| (fi X 3 (cA M d) ||| fi X 2 (cA M d)) else fi X 3 (cA M j)) : ∀ e, 1 ≤ e → e ≤ 20 → (lkT T c d j e = true ↔ ¬ v &&& bt e = 0) := fun e e1 e2 => by
  obtain ⟨-, b2⟩ := hb j j1 j2
  have bc := (hb c c1 c2).1
  obtain ⟨bd, bd2⟩ := hb d d1 d2
  have hjc := b2 c c1 (by omega)
  rw [bc, bd] at hv
  rw [lkT_iff, b2 e e1 e2, bd2 e e1 e2, hjc, hv]
  by_cases q : j = c ∨ ¬ fi X 3 (cA M j) &&& bt c = 0
  · rw [if_pos q, or_and0, or_and0, bt_and d1 (by omega) e1 e2]
    constructor
    · rintro (z | ⟨-, z | z⟩) w
      · exact z w.1
      · exact w.2.2 z.symm
      · exact z w.2.1
    · intro z
      by_cases p1 : fi X 3 (cA M j) &&& bt e = 0
      · right
        refine ⟨q, ?_⟩
        by_cases p2 : fi X 3 (cA M d) &&& bt e = 0
        · left
          exact Classical.byContradiction fun w => z ⟨p1, p2, fun y => w y.symm⟩
        · exact Or.inr p2
      · exact Or.inl p1
  · rw [if_neg q]
    constructor
    · rintro (z | ⟨z, -⟩)
      · exact z
      · exact absurd z q
    · exact Or.inl
theorem Tr_link {n : Nat} {σ σ' : MS} {T : Nat → Nat → Bool} {c d : Nat} (h : Tr n σ T) (hn : n ≤ 20) (c1 : 1 ≤ c) (c2 : c ≤ n) (d1 : 1 ≤ d) (d2 : d ≤ n) (hcd : ¬ (c = d ∨ T d c = true)) (h4 : ∀ i, ma σ' 4 i = if i = 21 * c + d then 1 else ma σ 4 i) : Tr n σ' (lkT T c d) := by
  obtain ⟨t1, t2, t3, t4, t5⟩ := h
  have up : ∀ a b, ld σ a b → ld σ' a b := fun a b hl => by
    show ¬ ma σ' 4 (21 * a + b) = 0
    rw [h4]
    split
    · decide
    · exact hl
  have hcdl : ld σ' c d := by
    show ¬ ma σ' 4 (21 * c + d) = 0
    rw [h4, if_pos rfl]
    decide
  refine ⟨fun a b hab => ?_, fun a b a1 a2 b1 b2 hl => ?_, fun a b e hab hbe => ?_, fun a e hae => ?_, fun a => ?_⟩
  · rcases lkT_iff.mp hab with z | ⟨z1, z2⟩
    · exact t1 a b z
    · refine ⟨?_, ?_⟩
      · rcases z1 with z1 | z1
        · omega
        · exact (t1 _ _ z1).1
      · rcases z2 with z2 | z2
        · omega
        · exact (t1 _ _ z2).2
  · refine lkT_iff.mpr ?_
    have hl : ¬ ma σ' 4 (21 * a + b) = 0 := hl
    rw [h4] at hl
    by_cases e : 21 * a + b = 21 * c + d
    · have ea : a = c := by omega
      have eb : b = d := by omega
      exact Or.inr ⟨Or.inl ea, Or.inl eb⟩
    · rw [if_neg e] at hl
      exact Or.inl (t2 a b a1 a2 b1 b2 hl)
  · refine lkT_iff.mpr ?_
    rcases lkT_iff.mp hab with z | ⟨z1, z2⟩
    · rcases lkT_iff.mp hbe with y | ⟨y1, y2⟩
      · exact Or.inl (t3 a b e z y)
      · refine Or.inr ⟨Or.inr ?_, y2⟩
        rcases y1 with y1 | y1
        · rw [← y1]; exact z
        · exact t3 a b c z y1
    · rcases lkT_iff.mp hbe with y | ⟨y1, y2⟩
      · refine Or.inr ⟨z1, Or.inr ?_⟩
        rcases z2 with z2 | z2
        · rw [← z2]; exact y
        · exact t3 d b e z2 y
      · exact Or.inr ⟨z1, y2⟩
  · rcases lkT_iff.mp hae with z | ⟨z1, z2⟩
    · rcases t4 a e z with y | ⟨b, y1, y2⟩
      · exact Or.inl (up _ _ y)
      · exact Or.inr ⟨b, lkT_iff.mpr (Or.inl y1), up _ _ y2⟩
    · rcases z2 with z2 | z2
      · subst z2
        rcases z1 with z1 | z1
        · rw [z1]; exact Or.inl hcdl
        · exact Or.inr ⟨c, lkT_iff.mpr (Or.inl z1), hcdl⟩
      · rcases t4 d e z2 with y | ⟨b, y1, y2⟩
        · exact Or.inr ⟨d, lkT_iff.mpr (Or.inr ⟨z1, Or.inl rfl⟩), up _ _ y⟩
        · exact Or.inr ⟨b, lkT_iff.mpr (Or.inr ⟨z1, Or.inr y1⟩), up _ _ y2⟩
  · refine Bool.eq_false_iff.mpr (fun z => ?_)
    rcases lkT_iff.mp z with z | ⟨z1, z2⟩
    · rw [t5] at z; cases z
    · rcases z1 with z1 | z1
      · rcases z2 with z2 | z2
        · exact hcd (Or.inl (z1.symm.trans z2))
        · rw [z1] at z2; exact hcd (Or.inr z2)
      · rcases z2 with z2 | z2
        · rw [z2] at z1; exact hcd (Or.inr z1)
        · exact hcd (Or.inr (t3 d a c z2 z1))
/-- link, as a whole -/
theorem link_eff {M : AM} {x : Nat} {X : HS} {σ : MS} {T : Nat → Nat → Bool} {c d : Nat} (h10 : fi X 10 x = nI (nC σ)) (hA : ∀ j, 1 ≤ j → j ≤ nC σ → ar X (gd (fr X 18 x)) (j - 1) = some (cA M j)) (hf : ∀ i j, 1 ≤ i → i ≤ nC σ → 1 ≤ j → j ≤ nC σ → cA M i = cA M j → i = j) (hb : ∀ j, 1 ≤ j → j ≤ nC σ → fi X 2 (cA M j) = bt j ∧ ∀ e, 1 ≤ e → e ≤ 20 → (T j e = true ↔ ¬ fi X 3 (cA M j) &&& bt e = 0)) (c1 : 1 ≤ c) (c2 : c ≤ nC σ) (d1 : 1 ≤ d) (d2 : d ≤ nC σ) (hC : nC σ ≤ 20) : e3 X (link_S X x (cA M c) (some (cA M d))) ∧ ∀ j, 1 ≤ j → j ≤ nC σ → fi (link_S X x (cA M c) (some (cA M d))) 2 (cA M j) = bt j ∧ ∀ e, 1 ≤ e → e ≤ 20 → (lkT T c d j e = true ↔ ¬ fi (link_S X x (cA M c) (some (cA M d))) 3 (cA M j) &&& bt e = 0) := by
  have hl : link_S X x (cA M c) (some (cA M d)) = lkN x (cA M c) (fi X 3 (cA M d) ||| fi X 2 (cA M d)) (nC σ) 0 X := by
    show lkN x (cA M c) (fi X 3 (cA M d) ||| fi X 2 (cA M d)) (fi X 10 x).toNatClampNeg 0 X = _
    rw [h10, nI_clamp (by omega)]
  rw [hl]
  obtain ⟨q1, q2⟩ := lk_eff (ad := fi X 3 (cA M d) ||| fi X 2 (cA M d)) hA hf c1 c2 hC (nC σ) 0 X (by omega) (e3.rf X) (fun j j1 j2 => (if_neg (by omega)).symm)
  refine ⟨q1, fun j j1 j2 => ⟨?_, link_bits hb c1 c2 d1 d2 hC j1 j2 (q2 j j1 j2)⟩⟩
  rw [q1.2.1 2 (by decide)]
  exact (hb j j1 j2).1
