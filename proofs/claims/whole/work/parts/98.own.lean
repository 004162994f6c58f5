-- WHAT THE THROW NEEDS, IN EVERY STATE OF THE LAW
def ownL : List Cond := Bundle.ownAtoms RAT 46 AE AEn
def ownOk : Cond → Bool
  | .declares _ => true
  | .castable _ _ => true
  | .laysStatic _ _ _ => true
  | .isRef (.static C n d) => decide (Cond.laysStatic C n d ∈ ownL)
  | w => goodWord w
set_option maxRecDepth 100000 in
theorem own_all : ownL.all ownOk = true := by decide +kernel
theorem own_ls {s U : State} {a a' : Array Value} {C n d : String} (hw : s.WarmedH U.vm) (hq : ∀ q : Nat, q < s.heap.size → U.heap[q]? = s.heap[q]?) (h : (Cond.laysStatic C n d).before a s = true) : (Cond.laysStatic C n d).before a' U = true := by
  obtain ⟨c, k, i, f, ad, cell, hc, hi, hst, ha, hcell, hs, hcls, hlt, hty⟩ := Cond.laysStatic_spec h
  obtain ⟨k', hi', hek⟩ := State.fieldFound?_setVm hw.alike hi
  have hcU : U.heap[ad]? = some cell := by rw [hq ad (Array.getElem?_eq_some_iff.mp hcell).1]; exact hcell
  exact Cond.laysStatic_of (s := U) (by rw [hw.alike.findClass]; exact hc) hi' hst (by rw [hek]; exact ha) hcU hs hcls hlt (by rw [hek]; exact hty)
theorem own_ir {s U : State} {a a' : Array Value} {C n d : String} (hw : s.WarmedH U.vm) (hq : ∀ q : Nat, q < s.heap.size → U.heap[q]? = s.heap[q]?) (h1 : (Cond.laysStatic C n d).before a s = true) (h2 : (Cond.isRef (.static C n d)).before a s = true) : (Cond.isRef (.static C n d)).before a' U = true := by
  obtain ⟨c, k, i, f, ad, cell, hc, hi, hst, ha, hcell, hs, hcls, hlt, hty⟩ := Cond.laysStatic_spec h1
  obtain ⟨k', hi', hek⟩ := State.fieldFound?_setVm hw.alike hi
  have hiU : U.fieldFound? C n d = some (c, k', i, f) := hi'
  have hcU : U.heap[ad]? = some cell := by rw [hq ad (Array.getElem?_eq_some_iff.mp hcell).1]; exact hcell
  have haU : k'.statics = some ad := by rw [hek]; exact ha
  have hv : cell.slots[f.slot]? = some cell.slots[f.slot] := Array.getElem?_eq_getElem hlt
  have e1 : (Term.static C n d).eval a s none [] s = some cell.slots[f.slot] := by
    simp [Term.eval, State.fieldNamed?, hi, hst, ha, hcell, hs, hv]
  have e2 : (Term.static C n d).eval a' U none [] U = some cell.slots[f.slot] := by
    simp [Term.eval, State.fieldNamed?, hiU, hst, haU, hcU, hs, hv]
  simp only [Cond.before, Cond.holds, Cond.value, e1] at h2
  simp only [Cond.before, Cond.holds, Cond.value, e2]
  exact h2
theorem own_ride {s U : State} {a a' : Array Value} (hw : s.WarmedH U.vm) (hq : ∀ q : Nat, q < s.heap.size → U.heap[q]? = s.heap[q]?) (hO : ∀ w ∈ ownL, w.before a s = true) : ∀ w ∈ ownL, w.before a' U = true := by
  intro w hm
  have h := hO w hm
  have hk := List.all_eq_true.mp own_all w hm
  unfold ownOk at hk
  split at hk
  · exact va_Nw.use rfl (va_Nw.warmD hw (va_Nw.of rfl h))
  · exact va_Nw.use rfl (va_Nw.warmC hw (va_Nw.of rfl h))
  · exact own_ls hw hq h
  · exact own_ir hw hq (hO _ (of_decide_eq_true hk)) h
  · exact word_at hw (good_of_word hk) h
/-- the words of the throw and its text -/
def ThW (sa : Nat) (a : Array Value) (U : State) : Prop := (∀ w ∈ ownL, w.before a U = true) ∧ vk_R RAT 44 msgX sa U
theorem ThW.ride {s U : State} {a a' : Array Value} {sa : Nat} (hw : s.WarmedH U.vm) (hq : ∀ q : Nat, q < s.heap.size → U.heap[q]? = s.heap[q]?) (h : ThW sa a s) : ThW sa a' U := ⟨own_ride hw hq h.1, vk_R.warm hw h.2⟩
theorem ThW.call {U : State} {a : Array Value} {sa : Nat} (g : JFrame) (mk : MethodId) (h : ThW sa a U) : ThW sa a (U.calling g mk a) := ThW.ride (s := U) (U := U.calling g mk a) (State.WarmedH.refl U) (fun _ _ => rfl) h
