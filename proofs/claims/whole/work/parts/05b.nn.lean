def gd (o : Option Nat) : Nat := o.getD 0
theorem gd_some {o : Option Nat} (h : ∃ b, o = some b) : o = some (gd o) := by
  obtain ⟨b, rfl⟩ := h
  rfl
/-- a case of an option -/
def opc {α : Type} (o : Option Nat) (x : α) (f : Nat → α) : α := match o with
  | none => x
  | some b => f b
theorem op_none {α : Type} {o : Option Nat} {x : α} {f : Nat → α} (h : o = none) : opc o x f = x := by subst h; rfl
theorem op_some {α : Type} {o : Option Nat} {x : α} {f : Nat → α} {b : Nat} (h : o = some b) : opc o x f = f b := by subst h; rfl
theorem ite_P {α : Type} {c : Prop} [Decidable c] {P : α → Prop} {a b : α} (h1 : P a) (h2 : P b) : P (if c then a else b) := by
  split
  · exact h1
  · exact h2
theorem opc_P {α : Type} {o : Option Nat} {P : α → Prop} {a : α} {f : Nat → α} (h1 : o = none → P a) (h2 : ∀ b, o = some b → P (f b)) : P (opc o a f) := by
  cases o with
  | none => exact h1 rfl
  | some b => exact h2 b rfl
/-- the fields that are never null behind their constructors -/
def nnk (k : Nat) : Bool := match k with
  | 2 => true
  | 3 => true
  | 9 => true
  | 10 => true
  | 11 => true
  | 13 => true
  | 18 => true
  | 19 => true
  | 20 => true
  | 21 => true
  | _ => false
def nn (S : HS) : Prop := ∀ k a, nnk k = true → kd S a = rO k → ∃ b, fr S k a = some b
theorem nn_sfr {S : HS} {k a : Nat} {v : Option Nat} (h : nn S) (hv : nnk k = false ∨ ∃ b, v = some b) : nn (sfr S k a v) := by
  intro k' a' hk ha
  show ∃ b, up2 (fr S) k a v k' a' = some b
  by_cases hc : k' = k ∧ a' = a
  · obtain ⟨rfl, rfl⟩ := hc
    rw [up2_self]
    rcases hv with h1 | h1
    · rw [h1] at hk; cases hk
    · exact h1
  · simp only [up2, hc, if_false]
    exact h k' a' hk ha
/-- a chain of objects by one field, from an option on -/
def chn (f : Nat → Option Nat) : Option Nat → List Nat → Prop
  | o, [] => o = none
  | o, x :: xs => o = some x ∧ chn f (f x) xs
