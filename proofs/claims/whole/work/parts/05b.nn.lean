def gd (o : Option Nat) : Nat := o.getD 0
theorem gd_some {o : Option Nat} (h : ∃ b, o = some b) : o = some (gd o) := by
  obtain ⟨b, rfl⟩ := h
  rfl
theorem fr_sfr {S : HS} {k k' a a' : Nat} {v : Option Nat} (h : a' ≠ a) : fr (sfr S k a v) k' a' = fr S k' a' := up2_a _ _ _ _ h
theorem fr_sfi {S : HS} {k a k' a' : Nat} {v : Int32} : fr (sfi S k a v) k' a' = fr S k' a' := rfl
theorem fr_sfl {S : HS} {k a k' a' : Nat} {v : Int64} : fr (sfl S k a v) k' a' = fr S k' a' := rfl
theorem fr_sar {S : HS} {k a k' a' : Nat} {v : Option Nat} : fr (sar S k a v) k' a' = fr S k' a' := rfl
theorem fr_sai {S : HS} {k a k' a' : Nat} {v : Int32} : fr (sai S k a v) k' a' = fr S k' a' := rfl
theorem fr_sal {S : HS} {k a k' a' : Nat} {v : Int64} : fr (sal S k a v) k' a' = fr S k' a' := rfl
theorem fr_newQ {S : HS} {q K k a : Nat} (h : a ≠ q) : fr (newQ S q K) k a = fr S k a := if_neg h
theorem fr_newB {S : HS} {q K n k a : Nat} : fr (newB S q K n) k a = fr S k a := rfl
theorem fi_sfr {S : HS} {k a k' a' : Nat} {v : Option Nat} : fi (sfr S k a v) k' a' = fi S k' a' := rfl
theorem fi_sfi {S : HS} {k k' a a' : Nat} {v : Int32} (h : a' ≠ a) : fi (sfi S k a v) k' a' = fi S k' a' := up2_a _ _ _ _ h
theorem fi_sfl {S : HS} {k a k' a' : Nat} {v : Int64} : fi (sfl S k a v) k' a' = fi S k' a' := rfl
theorem fi_sar {S : HS} {k a k' a' : Nat} {v : Option Nat} : fi (sar S k a v) k' a' = fi S k' a' := rfl
theorem fi_sai {S : HS} {k a k' a' : Nat} {v : Int32} : fi (sai S k a v) k' a' = fi S k' a' := rfl
theorem fi_sal {S : HS} {k a k' a' : Nat} {v : Int64} : fi (sal S k a v) k' a' = fi S k' a' := rfl
theorem fi_newQ {S : HS} {q K k a : Nat} (h : a ≠ q) : fi (newQ S q K) k a = fi S k a := if_neg h
theorem fi_newB {S : HS} {q K n k a : Nat} : fi (newB S q K n) k a = fi S k a := rfl
theorem fl_sfr {S : HS} {k a k' a' : Nat} {v : Option Nat} : fl (sfr S k a v) k' a' = fl S k' a' := rfl
theorem fl_sfi {S : HS} {k a k' a' : Nat} {v : Int32} : fl (sfi S k a v) k' a' = fl S k' a' := rfl
theorem fl_sfl {S : HS} {k k' a a' : Nat} {v : Int64} (h : a' ≠ a) : fl (sfl S k a v) k' a' = fl S k' a' := up2_a _ _ _ _ h
theorem fl_sar {S : HS} {k a k' a' : Nat} {v : Option Nat} : fl (sar S k a v) k' a' = fl S k' a' := rfl
theorem fl_sai {S : HS} {k a k' a' : Nat} {v : Int32} : fl (sai S k a v) k' a' = fl S k' a' := rfl
theorem fl_sal {S : HS} {k a k' a' : Nat} {v : Int64} : fl (sal S k a v) k' a' = fl S k' a' := rfl
theorem fl_newQ {S : HS} {q K k a : Nat} (h : a ≠ q) : fl (newQ S q K) k a = fl S k a := if_neg h
theorem fl_newB {S : HS} {q K n k a : Nat} : fl (newB S q K n) k a = fl S k a := rfl
theorem mono_sfi {S : HS} {k a : Nat} {v : Int32} : mono S (sfi S k a v) := fun _ _ => ⟨rfl, rfl⟩
theorem mono_sfl {S : HS} {k a : Nat} {v : Int64} : mono S (sfl S k a v) := fun _ _ => ⟨rfl, rfl⟩
theorem mono_sfr {S : HS} {k a : Nat} {v : Option Nat} : mono S (sfr S k a v) := fun _ _ => ⟨rfl, rfl⟩
theorem mono_sai {S : HS} {a i : Nat} {v : Int32} : mono S (sai S a i v) := fun _ _ => ⟨rfl, rfl⟩
theorem mono_sal {S : HS} {a i : Nat} {v : Int64} : mono S (sal S a i v) := fun _ _ => ⟨rfl, rfl⟩
theorem mono_sar {S : HS} {a i : Nat} {v : Option Nat} : mono S (sar S a i v) := fun _ _ => ⟨rfl, rfl⟩
/-- a case of an option -/
def opc {α : Type} (o : Option Nat) (x : α) (f : Nat → α) : α := match o with
  | none => x
  | some b => f b
theorem op_none {α : Type} {o : Option Nat} {x : α} {f : Nat → α} (h : o = none) : opc o x f = x := by subst h; rfl
theorem op_some {α : Type} {o : Option Nat} {x : α} {f : Nat → α} {b : Nat} (h : o = some b) : opc o x f = f b := by subst h; rfl
theorem ite_P {α : Type} {c : Prop} [Decidable c] {P : α → Prop} {a b : α} (h1 : P a) (h2 : P b) : P (if c then a else b) := by
  split
  · exact h1
  · exact h2
theorem opc_P {α : Type} {o : Option Nat} {P : α → Prop} {a : α} {f : Nat → α} (h1 : o = none → P a) (h2 : ∀ b, o = some b → P (f b)) : P (opc o a f) := by
  cases o with
  | none => exact h1 rfl
  | some b => exact h2 b rfl
/-- the fields that are never null behind their constructors -/
def nnk (k : Nat) : Bool := match k with
  | 2 => true
  | 3 => true
  | 9 => true
  | 10 => true
  | 11 => true
  | 13 => true
  | 18 => true
  | 19 => true
  | 20 => true
  | 21 => true
  | _ => false
theorem Wd.ne {D : va_G} {AC : Nat → ClassId} {A : Nat → Prop} {s : State} {H0 H : Heap} {locs : List Loc} {S : HS} {a K : Nat} (hW : Wd D AC A s H0 H locs S) (hk : kd S a = K) (h0 : K ≠ 0) : a ≠ hz S := fun z => hW.fresh (z ▸ hW.ok.1 a (by rw [hk]; exact h0))
def nn (S : HS) : Prop := ∀ k a, nnk k = true → kd S a = rO k → ∃ b, fr S k a = some b
theorem nn_sfr {S : HS} {k a : Nat} {v : Option Nat} (h : nn S) (hv : nnk k = false ∨ ∃ b, v = some b) : nn (sfr S k a v) := by
  intro k' a' hk ha
  show ∃ b, up2 (fr S) k a v k' a' = some b
  by_cases hc : k' = k ∧ a' = a
  · obtain ⟨rfl, rfl⟩ := hc
    rw [up2_self]
    rcases hv with h1 | h1
    · rw [h1] at hk; cases hk
    · exact h1
  · simp only [up2, hc, if_false]
    exact h k' a' hk ha
theorem nn_sfi {S : HS} {k a : Nat} {v : Int32} (h : nn S) : nn (sfi S k a v) := h
theorem nn_sfl {S : HS} {k a : Nat} {v : Int64} (h : nn S) : nn (sfl S k a v) := h
theorem nn_sai {S : HS} {a i : Nat} {v : Int32} (h : nn S) : nn (sai S a i v) := h
theorem nn_sal {S : HS} {a i : Nat} {v : Int64} (h : nn S) : nn (sal S a i v) := h
theorem nn_sar {S : HS} {a i : Nat} {v : Option Nat} (h : nn S) : nn (sar S a i v) := h
/-- a chain of objects by one field, from an option on -/
def chn (f : Nat → Option Nat) : Option Nat → List Nat → Prop
  | o, [] => o = none
  | o, x :: xs => o = some x ∧ chn f (f x) xs
