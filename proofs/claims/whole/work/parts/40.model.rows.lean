section MROWS
variable {p : Program} {l : Launch} {e : Env} {R : Room} {s : State} {m : MethodId} {args : Array Value} {below : List Frame} {meth : Method} {c : Code} {H : Heap} {locs : List Loc} {cells slots : Nat} {Q : State → Prop}
variable {cc : ByteArray} {pc : Nat} {ls : Array Slot} {rest : List Value} {D : va_G} {AC : Nat → ClassId} {A : Nat → Prop} {H0 : Heap} {S S' : HS} {o z tt : Nat} {σ : MS} {j k jj : Nat}
theorem mg_i {own ref C : String} {T : u_T} {N index : Nat} {v : Int32} (F : fdOk own ref C T N index 9 jj 0 k) (hexec : p.tables.exec = Jvm.exec) (hb : c.code = cc) (hts : ∀ w ∈ wT, w.before args s = true) (hown : s.vm.findClass own = some m.cls) (hW : Wd D AC A s H0 H locs (hsM o z tt σ)) (hdg : decode cc pc = .ok (.getfield index, 3)) (hv : mi σ k = v)
    (kk : W p l e R s m args below meth c H locs cells slots Q (F0 m (pc + 3) ls (.int v :: rest))) : W p l e R s m args below meth c H locs cells slots Q (F0 m pc ls (.ref o :: rest)) := by
  subst hv
  exact g_i F hexec hb hts hown hW hsM_k hdg kk
theorem mg_a {own ref C : String} {T : u_T} {N index : Nat} (F : fdOk own ref C T N index 9 jj 2 k) (j : Nat) (hj : k = 22 + j ∧ j < 28) (hexec : p.tables.exec = Jvm.exec) (hb : c.code = cc) (hts : ∀ w ∈ wT, w.before args s = true) (hown : s.vm.findClass own = some m.cls) (hW : Wd D AC A s H0 H locs (hsM o z tt σ)) (hdg : decode cc pc = .ok (.getfield index, 3))
    (kk : W p l e R s m args below meth c H locs cells slots Q (F0 m (pc + 3) ls (.ref (o + 1 + j) :: rest))) : W p l e R s m args below meth c H locs cells slots Q (F0 m pc ls (.ref o :: rest)) := by
  refine g_q F hexec hb hts hown hW hsM_k hdg ?_
  have : fr (hsM o z tt σ) k o = some (o + 1 + j) := by
    show mFr o k o = _
    unfold mFr
    rw [if_pos ⟨rfl, by omega, by omega⟩, hj.1, Nat.add_sub_cancel_left]
  rw [this]
  exact kk
theorem mp_i {own ref C : String} {T : u_T} {N index : Nat} {ty : FieldType} {v : Int32} (F : fdOk own ref C T N index 9 jj 0 k) (G : fdPut T N jj ty false) (hexec : p.tables.exec = Jvm.exec) (hb : c.code = cc) (hts : ∀ w ∈ wT, w.before args s = true) (hown : s.vm.findClass own = some m.cls) (hW : Wd D AC A s H0 H locs (hsM o z tt σ)) (hn : narrow ty (.int v) = .int v) (hfit : fits ty (.int v) = true) (hdg : decode cc pc = .ok (.putfield index, 3))
    (kk : ∀ (H1 : Heap) (locs1 : List Loc), Wd D AC A s H0 H1 locs1 (hsM o z tt (smi σ k v)) → W p l e R s m args below meth c H1 locs1 cells slots Q (F0 m (pc + 3) ls rest)) : W p l e R s m args below meth c H locs cells slots Q (F0 m pc ls (.int v :: .ref o :: rest)) :=
  p_i F G (fun h => by cases h) hexec hb hts hown hW hsM_k hn hfit hdg (fun H1 locs1 hW1 => kk H1 locs1 (hsM_smi hW1))
theorem m_il {i v : Int32} (hj : j < 28 ∧ mK j = 11) (hexec : p.tables.exec = Jvm.exec) (hb : c.code = cc) (hW : Wd D AC A s H0 H locs (hsM o z tt σ)) (hin : vp_in i (mN j)) (hdg : decode cc pc = .ok (.iaload, 1)) (hv : ma σ j i.toNatClampNeg = v)
    (kk : W p l e R s m args below meth c H locs cells slots Q (F0 m (pc + 1) ls (.int v :: rest))) : W p l e R s m args below meth c H locs cells slots Q (F0 m pc ls (.int i :: .ref (o + 1 + j) :: rest)) := by
  refine a_il (K := 11) (t0 := 0) ⟨by decide, rfl⟩ rfl hexec hb hW (hsM_ka.trans hj.2) (by rw [hsM_n]; exact hin) hdg ?_
  rw [hsM_ai, hv]
  exact kk
theorem m_zl {i v : Int32} (hj : j < 28 ∧ mK j = 13) (hexec : p.tables.exec = Jvm.exec) (hb : c.code = cc) (hW : Wd D AC A s H0 H locs (hsM o z tt σ)) (hin : vp_in i (mN j)) (hdg : decode cc pc = .ok (.baload, 1)) (hv : ma σ j i.toNatClampNeg = v)
    (kk : W p l e R s m args below meth c H locs cells slots Q (F0 m (pc + 1) ls (.int v :: rest))) : W p l e R s m args below meth c H locs cells slots Q (F0 m pc ls (.int i :: .ref (o + 1 + j) :: rest)) := by
  refine a_zl (K := 13) (t0 := 2) ⟨by decide, rfl⟩ rfl hexec hb hW (hsM_ka.trans hj.2) (by rw [hsM_n]; exact hin) hdg ?_
  rw [hsM_ai, hv]
  exact kk
theorem m_ll {i : Int32} {v : Int64} (hj : j < 28 ∧ mK j = 12) (hexec : p.tables.exec = Jvm.exec) (hb : c.code = cc) (hW : Wd D AC A s H0 H locs (hsM o z tt σ)) (hin : vp_in i (mN j)) (hdg : decode cc pc = .ok (.laload, 1)) (hv : ml σ j i.toNatClampNeg = v)
    (kk : W p l e R s m args below meth c H locs cells slots Q (F0 m (pc + 1) ls (.long v :: rest))) : W p l e R s m args below meth c H locs cells slots Q (F0 m pc ls (.int i :: .ref (o + 1 + j) :: rest)) := by
  refine a_ll (K := 12) (t0 := 1) ⟨by decide, rfl⟩ rfl hexec hb hW (hsM_ka.trans hj.2) (by rw [hsM_n]; exact hin) hdg ?_
  rw [hsM_al, hv]
  exact kk
theorem m_is {i v : Int32} (hj : j < 28 ∧ mK j = 11) (hexec : p.tables.exec = Jvm.exec) (hb : c.code = cc) (hW : Wd D AC A s H0 H locs (hsM o z tt σ)) (hin : vp_in i (mN j)) (hdg : decode cc pc = .ok (.iastore, 1))
    (kk : ∀ (H1 : Heap) (locs1 : List Loc), Wd D AC A s H0 H1 locs1 (hsM o z tt (sma σ j i.toNatClampNeg v)) → W p l e R s m args below meth c H1 locs1 cells slots Q (F0 m (pc + 1) ls rest)) : W p l e R s m args below meth c H locs cells slots Q (F0 m pc ls (.int v :: .int i :: .ref (o + 1 + j) :: rest)) :=
  a_is (K := 11) (t0 := 0) ⟨by decide, rfl⟩ rfl hexec hb hW (hsM_ka.trans hj.2) (by rw [hsM_n]; exact hin) hdg (fun H1 locs1 hW1 => kk H1 locs1 (hsM_sma hj.1 hW1))
theorem m_zs {i v : Int32} (hj : j < 28 ∧ mK j = 13) (hexec : p.tables.exec = Jvm.exec) (hb : c.code = cc) (hW : Wd D AC A s H0 H locs (hsM o z tt σ)) (hin : vp_in i (mN j)) (hv : v = 0 ∨ v = 1) (hdg : decode cc pc = .ok (.bastore, 1))
    (kk : ∀ (H1 : Heap) (locs1 : List Loc), Wd D AC A s H0 H1 locs1 (hsM o z tt (sma σ j i.toNatClampNeg v)) → W p l e R s m args below meth c H1 locs1 cells slots Q (F0 m (pc + 1) ls rest)) : W p l e R s m args below meth c H locs cells slots Q (F0 m pc ls (.int v :: .int i :: .ref (o + 1 + j) :: rest)) :=
  a_zs (K := 13) (t0 := 2) ⟨by decide, rfl⟩ rfl hexec hb hW (hsM_ka.trans hj.2) (by rw [hsM_n]; exact hin) hv hdg (fun H1 locs1 hW1 => kk H1 locs1 (hsM_sma hj.1 hW1))
theorem m_ls {i : Int32} {v : Int64} (hj : j < 28 ∧ mK j = 12) (hexec : p.tables.exec = Jvm.exec) (hb : c.code = cc) (hW : Wd D AC A s H0 H locs (hsM o z tt σ)) (hin : vp_in i (mN j)) (hdg : decode cc pc = .ok (.lastore, 1))
    (kk : ∀ (H1 : Heap) (locs1 : List Loc), Wd D AC A s H0 H1 locs1 (hsM o z tt (sml σ j i.toNatClampNeg v)) → W p l e R s m args below meth c H1 locs1 cells slots Q (F0 m (pc + 1) ls rest)) : W p l e R s m args below meth c H locs cells slots Q (F0 m pc ls (.long v :: .int i :: .ref (o + 1 + j) :: rest)) :=
  a_ls (K := 12) (t0 := 1) ⟨by decide, rfl⟩ rfl hexec hb hW (hsM_ka.trans hj.2) (by rw [hsM_n]; exact hin) hdg (fun H1 locs1 hW1 => kk H1 locs1 (hsM_sml hj.1 hW1))
end MROWS
