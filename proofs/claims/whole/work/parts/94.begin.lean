-- THE BEGINNING
def nwI (S : HS) : HS := AT_init_S (newQ S (hz S) 8) (hz S)
abbrev M00 : AM := (fun _ => 0, fun _ => 0, fun _ => 0, fun _ _ => 0)
abbrev s00 : MS := (fun _ => 0, fun _ _ => 0, fun _ _ => 0)
theorem nwI_kd {S : HS} (a : Nat) : kd (nwI S) a = if a = hz S + 5 then 17 else if a = hz S + 4 then 4 else if a = hz S + 3 then 16 else if a = hz S + 2 then 15 else if a = hz S + 1 then 14 else if a = hz S then 8 else kd S a := rfl
theorem nwI_fi {S : HS} (j a : Nat) : fi (nwI S) j a = if a = hz S + 4 then 0 else if a = hz S then 0 else fi S j a := rfl
theorem nwI_fr {S : HS} (j a : Nat) : fr (nwI S) j a = up2 (up2 (zr (up2 (up2 (up2 (zr (fr S) (hz S) none) 18 (hz S) (some (hz S + 1))) 19 (hz S) (some (hz S + 2))) 20 (hz S) (some (hz S + 3))) (hz S + 4) none) 9 (hz S + 4) (some (hz S + 5))) 21 (hz S) (some (hz S + 4)) j a := rfl
theorem nwI_an {S : HS} (a : Nat) : an (nwI S) a = if a = hz S + 5 then 12 else if a = hz S + 3 then 20 else if a = hz S + 2 then 100 else if a = hz S + 1 then 20 else an S a := rfl
theorem nwI_ar {S : HS} (j : Nat) : ar (nwI S) (hz S + 5) j = none := by
  show va_up (va_up (va_up (va_up (ar S) (hz S + 1) (fun _ => none)) (hz S + 2) (fun _ => none)) (hz S + 3) (fun _ => none)) (hz S + 5) (fun _ => none) (hz S + 5) j = none
  rw [va_up_self]
theorem nwI_hz {S : HS} : hz (nwI S) = hz S + 6 := rfl
theorem nwI_9 {S : HS} : fr (nwI S) 9 (hz S + 4) = some (hz S + 5) := by
  rw [nwI_fr, up2_k _ _ _ _ (by decide), up2_self]
theorem nwI_21 {S : HS} : fr (nwI S) 21 (hz S) = some (hz S + 4) := by
  rw [nwI_fr, up2_self]
theorem nwI_18 {S : HS} : fr (nwI S) 18 (hz S) = some (hz S + 1) := by
  rw [nwI_fr, up2_k _ _ _ _ (by decide), up2_k _ _ _ _ (by decide)]
  show (if hz S = hz S + 4 then none else _) = _
  rw [if_neg (by omega), up2_k _ _ _ _ (by decide), up2_k _ _ _ _ (by decide), up2_self]
theorem nwI_19 {S : HS} : fr (nwI S) 19 (hz S) = some (hz S + 2) := by
  rw [nwI_fr, up2_k _ _ _ _ (by decide), up2_k _ _ _ _ (by decide)]
  show (if hz S = hz S + 4 then none else _) = _
  rw [if_neg (by omega), up2_k _ _ _ _ (by decide), up2_self]
theorem nwI_20 {S : HS} : fr (nwI S) 20 (hz S) = some (hz S + 3) := by
  rw [nwI_fr, up2_k _ _ _ _ (by decide), up2_k _ _ _ _ (by decide)]
  show (if hz S = hz S + 4 then none else _) = _
  rw [if_neg (by omega), up2_self]
theorem nnk4 {k : Nat} (h : nnk k = true) (h2 : rO k = 4) : k = 9 := by
  unfold nnk at h
  split at h <;> first | rfl | (cases h2; done) | (cases h)
theorem nnk8 {k : Nat} (h : nnk k = true) (h2 : rO k = 8) : k = 18 ∨ k = 19 ∨ k = 20 ∨ k = 21 := by
  unfold nnk at h
  split at h <;> first | exact Or.inl rfl | exact Or.inr (Or.inl rfl) | exact Or.inr (Or.inr (Or.inl rfl)) | exact Or.inr (Or.inr (Or.inr rfl)) | (cases h2; done) | (cases h)
theorem RO_base {Y : HS} {x : Nat} (hk : ∀ a, kd Y a = 0 ∨ (10 ≤ kd Y a ∧ kd Y a ≤ 20) ∨ (kd Y a = 8 ∧ a = x) ∨ (kd Y a = 4 ∧ a = x + 4)) (kx : kd Y x = 8) (ok : hOk Y) (lt : hlt Y) (fx : ∀ j, fi Y j x = 0) (fx4 : ∀ j, fi Y j (x + 4) = 0) (f9 : fr Y 9 (x + 4) = some (x + 5)) (f21 : fr Y 21 x = some (x + 4)) (f18 : fr Y 18 x = some (x + 1)) (f19 : fr Y 19 x = some (x + 2)) (f20 : fr Y 20 x = some (x + 3)) (n1 : an Y (x + 1) = 20) (n2 : an Y (x + 2) = 100) (n3 : an Y (x + 3) = 20) (n5 : an Y (x + 5) = 12) (far : ∀ j, ar Y (x + 5) j = none) : RO M00 x (fun _ _ => false) 0 0 (hz Y + 24) (tz Y + 12012) Y s00 := by
  have ko : ∀ a K, kd Y a = K → K ≠ 8 → K ≠ 4 → K < 10 → K = 0 := fun a K h h8 h4 h10 => by
    rcases hk a with z | z | z | z <;> omega
  have k8 : ∀ a, kd Y a = 8 → a = x := fun a h => by
    rcases hk a with z | z | z | z <;> omega
  have k4 : ∀ a, kd Y a = 4 → a = x + 4 := fun a h => by
    rcases hk a with z | z | z | z <;> omega
  have ent : ntA Y x = x + 4 := by show gd (fr Y 21 x) = _; rw [f21]; rfl
  have epg : pgA Y x = x + 5 := by show gd (fr Y 9 (ntA Y x)) = _; rw [ent, f9]; rfl
  have f4 : fi Y 4 (x + 4) = 0 := fx4 4
  have ekp : kpN Y x = 0 := by
    show (fi Y 4 (ntA Y x)).toNatClampNeg = 0
    rw [ent, f4]; rfl
  have hnn : nn Y := by
    intro j a hj ha
    rcases hk a with z | z | z | z
    · exact absurd (ha.symm.trans z) (rO_ne j)
    · exact absurd ha.symm (rO_obj j (kd Y a) z.1 z.2)
    · have e8 := ha.symm.trans z.1
      have := z.2
      subst this
      rcases nnk8 hj e8 with e | e | e | e
      · subst e; exact ⟨_, f18⟩
      · subst e; exact ⟨_, f19⟩
      · subst e; exact ⟨_, f20⟩
      · subst e; exact ⟨_, f21⟩
    · have e4 := nnk4 hj (ha.symm.trans z.1)
      have := z.2
      subst this
      subst e4
      exact ⟨_, f9⟩
  have hI : sInv Y x := by
    refine ⟨⟨ok, lt⟩, kx, hnn, fun b hb => absurd (ko b 5 hb (by decide) (by decide) (by decide)) (by decide), ⟨?_, ?_, ?_, ?_⟩, fun b hb => absurd (ko b 3 hb (by decide) (by decide) (by decide)) (by decide), fun b hb => absurd (ko b 3 hb (by decide) (by decide) (by decide)) (by decide)⟩
    · rw [ekp, ent, f4]; rfl
    · rw [ekp]; decide
    · rw [epg]; exact n5
    · intro j hj
      rw [epg, ekp, far]
      exact ⟨fun _ => Nat.zero_le _, fun _ => rfl⟩
  have n0 : ∀ k : Nat, 1 ≤ k → k ≤ 0 → False := fun k h1 h2 => by omega
  have z3 : ∀ b, kd Y b = 3 → False := fun b hb => absurd (ko b 3 hb (by decide) (by decide) (by decide)) (by decide)
  have z7 : ∀ b, kd Y b = 7 → False := fun b hb => absurd (ko b 7 hb (by decide) (by decide) (by decide)) (by decide)
  have r0 : ∀ lo hi : Int, lo ≤ 0 → 0 ≤ hi → rg lo hi (0 : Int32) := fun lo hi h1 h2 => ⟨h1, h2⟩
  have hO : mOk s00 := ⟨r0 _ _ (by decide) (by decide), r0 _ _ (by decide) (by decide), r0 _ _ (by decide) (by decide), fun _ => r0 _ _ (by decide) (by decide), fun _ => r0 _ _ (by decide) (by decide), fun _ => r0 _ _ (by decide) (by decide), fun _ => r0 _ _ (by decide) (by decide), fun _ => r0 _ _ (by decide) (by decide), fun _ => r0 _ _ (by decide) (by decide), fun _ => r0 _ _ (by decide) (by decide), fun _ => r0 _ _ (by decide) (by decide), fun _ => r0 _ _ (by decide) (by decide)⟩
  refine ⟨⟨⟨hI, ⟨fun c c1 c2 => (n0 c c1 c2).elim, ⟨fun c d c1 c2 => (n0 c c1 c2).elim, fun c d c1 c2 => (n0 c c1 c2).elim, fun c d c1 c2 => (n0 c c1 c2).elim⟩, fun c c1 c2 => (n0 c c1 c2).elim, fun c c1 c2 => (n0 c c1 c2).elim, fun c c1 c2 => (n0 c c1 c2).elim, fun t p c1 c2 => (n0 t c1 c2).elim⟩, fun c c1 c2 => (n0 c c1 c2).elim, fun c c1 c2 => (n0 c c1 c2).elim, fun c c1 c2 => (n0 c c1 c2).elim, ⟨?_, ?_, fun i hi => ?_, fun j j' hj => ?_⟩, fx 13⟩, fun y y1 y2 => (n0 y y1 y2).elim⟩, ⟨⟨fx 10, fx 11, fx 12⟩, ⟨⟨0, by decide, fx 10⟩, ⟨0, by decide, fx 11⟩, ⟨0, by decide, fx 12⟩, ?_, ?_, ?_⟩, fun c c1 c2 => (n0 c c1 c2).elim, fun c c1 c2 => (n0 c c1 c2).elim, fun c c1 c2 => (n0 c c1 c2).elim, fun b hb => (z3 b hb).elim, fun b hb => (z7 b hb).elim⟩, ⟨fun c c1 c2 => (n0 c c1 c2).elim, fun c c1 c2 => (n0 c c1 c2).elim, fun t p t' p' c1 c2 => (n0 t c1 c2).elim⟩, ⟨fun c c1 c2 => (n0 c c1 c2).elim, fun c c1 c2 => (n0 c c1 c2).elim, fun t p c1 c2 => (n0 t c1 c2).elim⟩, ⟨⟨hO, fun a ha => absurd ha (show ¬ (0 : Int32) = 1 by decide), ⟨fun _ _ => ⟨rfl, rfl⟩, fun _ _ => ⟨rfl, rfl, rfl⟩, fun _ _ => ⟨rfl, rfl, rfl, rfl, rfl, rfl⟩⟩, ⟨fun c d h => absurd h (show ¬ false = true by decide), fun c d _ _ _ _ h => absurd rfl h, fun c d e h => absurd h (show ¬ false = true by decide), fun c e h => absurd h (show ¬ false = true by decide), fun c => rfl⟩⟩, ⟨⟨⟨fun c c1 c2 => (n0 c c1 c2).elim, Nat.zero_le 20, Nat.zero_le 100, Nat.zero_le 20⟩, fun c c1 c2 => (n0 c c1 c2).elim, fun c c1 c2 => (n0 c c1 c2).elim⟩, ⟨rfl, Nat.zero_le 20000⟩, rfl, fun c => ⟨show (0 : Int) ≤ 0 by decide, show (0 : Int) ≤ 25000 * ((0 : Nat) : Int) by decide⟩, fun c c1 c2 => (n0 c c1 c2).elim, fun c c1 c2 => (n0 c c1 c2).elim⟩, fun c c1 c2 => (n0 c c1 c2).elim, Nat.zero_le _, Nat.le_refl 0⟩, ?_⟩
  · rw [ent, fx4]; rfl
  · rw [ekp]; rfl
  · rw [ekp] at hi; omega
  · rw [ekp] at hj; omega
  · rw [f18]; exact n1
  · rw [f19]; exact n2
  · rw [f20]; exact n3
  · unfold RH phi psi
    rw [ekp]
    show hz Y + 2 * 12 ≤ hz Y + 24 + 2 * 0 ∧ tz Y + 1001 * 12 ≤ tz Y + 12012 + 12 * 0
    omega
