-- FROM THE LAW'S ENTRY
theorem RO_start {z t h' t' : Nat} (hh : h' = z + 35) (ok : hOk (newB (shz (nwI (empS z t)) h' t') h' 12 1)) (lt : hlt (newB (shz (nwI (empS z t)) h' t') h' 12 1)) : RO M00 z (fun _ _ => false) 0 0 (hz (newB (shz (nwI (empS z t)) h' t') h' 12 1) + 24) (tz (newB (shz (nwI (empS z t)) h' t') h' 12 1) + 12012) (newB (shz (nwI (empS z t)) h' t') h' 12 1) s00 := by
  have ek : ∀ a, kd (newB (shz (nwI (empS z t)) h' t') h' 12 1) a = if a = h' then 12 else kd (nwI (empS z t)) a := fun a => rfl
  have ei : ∀ j a, fi (newB (shz (nwI (empS z t)) h' t') h' 12 1) j a = fi (nwI (empS z t)) j a := fun j a => rfl
  have er : ∀ j a, fr (newB (shz (nwI (empS z t)) h' t') h' 12 1) j a = fr (nwI (empS z t)) j a := fun j a => rfl
  have en : ∀ a, an (newB (shz (nwI (empS z t)) h' t') h' 12 1) a = if a = h' then 1 else an (nwI (empS z t)) a := fun a => rfl
  have ea : ∀ j, ar (newB (shz (nwI (empS z t)) h' t') h' 12 1) (z + 5) j = ar (nwI (empS z t)) (z + 5) j := fun j => by
    show va_up (ar (nwI (empS z t))) h' (fun _ => none) (z + 5) j = _
    rw [va_up_ne _ _ (by omega)]
  generalize newB (shz (nwI (empS z t)) h' t') h' 12 1 = Y at ok lt ek ei er en ea
  have kS : ∀ a, kd (empS z t) a = 0 := fun a => rfl
  have hzS : hz (empS z t) = z := rfl
  refine RO_base (fun a => ?_) ?_ ok lt (fun j => ?_) (fun j => ?_) ?_ ?_ ?_ ?_ ?_ ?_ ?_ ?_ ?_ (fun j => ?_)
  · rw [ek, nwI_kd, hzS, kS]
    by_cases c0 : a = h'
    · rw [if_pos c0]; exact Or.inr (Or.inl ⟨by decide, by decide⟩)
    · rw [if_neg c0]
      by_cases c5 : a = z + 5
      · rw [if_pos c5]; exact Or.inr (Or.inl ⟨by decide, by decide⟩)
      · rw [if_neg c5]
        by_cases c4 : a = z + 4
        · rw [if_pos c4]; exact Or.inr (Or.inr (Or.inr ⟨rfl, c4⟩))
        · rw [if_neg c4]
          by_cases c3 : a = z + 3
          · rw [if_pos c3]; exact Or.inr (Or.inl ⟨by decide, by decide⟩)
          · rw [if_neg c3]
            by_cases c2 : a = z + 2
            · rw [if_pos c2]; exact Or.inr (Or.inl ⟨by decide, by decide⟩)
            · rw [if_neg c2]
              by_cases c1 : a = z + 1
              · rw [if_pos c1]; exact Or.inr (Or.inl ⟨by decide, by decide⟩)
              · rw [if_neg c1]
                by_cases c6 : a = z
                · rw [if_pos c6]; exact Or.inr (Or.inr (Or.inl ⟨rfl, c6⟩))
                · rw [if_neg c6]; exact Or.inl rfl
  · rw [ek, nwI_kd, hzS, if_neg (by omega), if_neg (by omega), if_neg (by omega), if_neg (by omega), if_neg (by omega), if_neg (by omega), if_pos rfl]
  · rw [ei, nwI_fi, hzS, if_neg (by omega), if_pos rfl]
  · rw [ei, nwI_fi, hzS, if_pos rfl]
  · rw [er]; exact nwI_9
  · rw [er]; exact nwI_21
  · rw [er]; exact nwI_18
  · rw [er]; exact nwI_19
  · rw [er]; exact nwI_20
  · rw [en, if_neg (by omega), nwI_an, hzS, if_neg (by omega), if_neg (by omega), if_neg (by omega), if_pos rfl]
  · rw [en, if_neg (by omega), nwI_an, hzS, if_neg (by omega), if_neg (by omega), if_pos rfl]
  · rw [en, if_neg (by omega), nwI_an, hzS, if_neg (by omega), if_pos rfl]
  · rw [en, if_neg (by omega), nwI_an, hzS, if_pos rfl]
  · rw [ea]; exact nwI_ar j
set_option maxRecDepth 20000 in
theorem whole_start {p : Program} {e : Env} {s : State} {m : MethodId} {below : List Frame} {meth : Method} {c : Code} (l : Launch) (hl0 : l.stackTraces = false) {b L : Nat} {xs : Nat → Int32} (hL0 : L ≤ 3584) (C0 : lw_At p s m meth c b L xs) : W p l e room_1 s m #[Value.ref b] below meth c s.heap [] 0 0 (lw_Z below #[Value.ref b] s) (entryFrame m ([Value.ref b] : List Value).toArray 7) := by
  obtain ⟨hx, hb, hr, hml, hown, hts0, hX, hbl, hlocks, hgv⟩ := id C0
  have hwT : ∀ w ∈ wT, w.before #[Value.ref b] s = true := fun w hw => hts0 w (List.mem_filter.mp hw).1
  have nx := lw_NX hts0
  obtain ⟨D, AC, hK⟩ := lw_K hwT nx
  obtain ⟨cAT, kAT, hfAT, -⟩ := Cond.instantiable_spec (hwT _ inst_in.2.2.2.2.2.2.2.1)
  obtain ⟨sa, hTh⟩ := lw_Th hts0 hgv ⟨cAT, hfAT⟩
  have C : LX p s m c #[.ref b] b L xs := ⟨hx, hb, hml, hown, hwT, hX, hbl, hL0⟩
  obtain ⟨t, hW⟩ : ∃ t, Wd D AC (fun q => s.heap.size ≤ q) s s.heap s.heap [] (empS s.heap.size t) := ⟨_, Wd0 hK nx⟩
  have hl := lv_entry ([.ref b]) (n := 7) (Nat.le_of_ble_eq_true rfl)
  rw [lg_entry_eq]
  generalize (lg_sl ([.ref b]) ++ List.replicate (7 - (lg_sl ([.ref b])).length) Slot.unset).toArray = ls at hl ⊢
  have hl : lv_has ls 7 [(0, .ref b)] := hl
  refine n_o (NLaw_8).1 rfl (NLaw_8).2.1 iwAT (NLaw_8).2.2 hx hb hwT hown hW ⟨Nat.le_of_ble_eq_true rfl, Nat.le_of_ble_eq_true rfl⟩ s.heap.size rfl dLaw_law_0 (fun H1 hW1 m1 k1 => ?_)
  refine lv_dup hx hb dLaw_law_3 rfl ?_
  refine k_Iv (As := []) (rest := [.ref s.heap.size]) (c_AT_init l D AC (newQ (empS s.heap.size t) s.heap.size 8) s.heap.size k1) CLaw_15 hx hb hml hown hwT hW1 hl.1 rfl rfl (Nat.le_of_ble_eq_true rfl) ⟨⟨Nat.le_of_ble_eq_true rfl, Nat.le_of_ble_eq_true rfl⟩, ⟨Nat.le_of_ble_eq_true rfl, Nat.le_of_ble_eq_true rfl⟩⟩ dLaw_law_4 (fun S2 H2 locs2 e2 hW2 m2 F2 => ?_)
  have e2 : S2 = nwI (empS s.heap.size t) := e2
  have hz2 : hz S2 = s.heap.size + 6 := by rw [e2]; rfl
  refine lv_astore_n hx hb dLaw_law_7 rfl hl (Nat.le_of_ble_eq_true rfl) rfl (fun ls hl => ?_)
  have hl : lv_has ls 7 [(1, .ref s.heap.size), (0, .ref b)] := hl
  have hE := Wd_em hW2
  refine n_oF (NLaw_16).1 rfl (NLaw_16).2.1 iwMod (NLaw_16).2.2 hx hb hwT hown hE ⟨Nat.le_of_ble_eq_true rfl, Nat.le_of_ble_eq_true rfl⟩ (hz S2) rfl dLaw_law_8 (fun H3 hW3 k3 o3 => ?_)
  have F3 : Fr (empS (hz S2) (tz S2)) H2 (newQ (empS (hz S2) (tz S2)) (hz S2) 9) H3 := Fr_new hE.z hW3.z o3 rfl
  have hS3 := hW2.keep hW3 F3 (fun q hq z => by
    rcases z with z | z
    · cases z
    · have h1 := hW2.lt hq
      have z : hz S2 ≤ q := z
      omega)
  have hM3 := hsP0 hW3
  refine lv_dup hx hb dLaw_law_11 rfl ?_
  refine k_Iv (As := []) (rest := [.ref (hz S2)]) (c_Minit l D AC (hz S2) (tz S2 + 35)) CLaw_18 hx hb hml hown hwT hM3 hl.1 rfl rfl (Nat.le_of_ble_eq_true rfl) ⟨⟨Nat.le_of_ble_eq_true rfl, Nat.le_of_ble_eq_true rfl⟩, ⟨Nat.le_of_ble_eq_true rfl, Nat.le_of_ble_eq_true rfl⟩⟩ dLaw_law_12 (fun S4 H4 locs4 e4 hW4 m4 F4 => ?_)
  subst e4
  have hS4 := hS3.keep hW4 F4 (fun q hq z => by
    have h1 : q < hz S2 := hW2.lt hq
    rcases z with z | z
    · have z : q ∈ [hz S2] := z
      rw [List.mem_singleton] at z
      omega
    · have z : hz S2 + 1 + 0 ≤ q := z
      omega)
  have hS4 : Wd D AC (fun q => s.heap.size ≤ q) s s.heap H4 locs4 (shz S2 (hz S2 + 29) (tz S2 + 35 + 14208)) := hS4
  refine lv_astore_n hx hb dLaw_law_15 rfl hl (Nat.le_of_ble_eq_true rfl) rfl (fun ls hl => ?_)
  have hl : lv_has ls 7 [(2, .ref (hz S2)), (1, .ref s.heap.size), (0, .ref b)] := hl
  refine lv_iconst (v := (1 : Int32)) hx hb dLaw_law_16 (by decide) ?_
  refine n_lF (K := 12) (t0 := 1) (n := 1) (x := 1) ⟨by decide, by decide, fun k => rO_obj k 12 (by decide) (by decide)⟩ rfl NI_long hx hb hwT hS4 rfl (by decide) ⟨Nat.le_of_ble_eq_true rfl, Nat.le_of_ble_eq_true rfl⟩ (hz S2 + 29) rfl dLaw_law_17 (fun H5 hW5 k5 o5 => ?_)
  have F5 : Fr (shz S2 (hz S2 + 29) (tz S2 + 35 + 14208)) H4 (newB (shz S2 (hz S2 + 29) (tz S2 + 35 + 14208)) (hz S2 + 29) 12 1) H5 := Fr_new hS4.z hW5.z o5 rfl
  have hM5 := hW4.keep hW5 F5 (fun q hq z => by
    have hq := mAd_mem.mp (show q ∈ mAd (hz S2) from hq)
    rcases z with z | z
    · have h1 := hW2.lt (show q ∈ hL S2 from z)
      omega
    · have z : hz S2 + 29 ≤ q := z
      omega)
  refine lv_astore_n hx hb dLaw_law_19 rfl hl (Nat.le_of_ble_eq_true rfl) rfl (fun ls hl => ?_)
  refine lv_iconst (v := (0 : Int32)) hx hb dLaw_law_20 (by decide) ?_
  refine lv_istore hx hb dLaw_law_21 hl (Nat.le_of_ble_eq_true rfl) rfl (fun ls hl => ?_)
  have hl : lv_has ls 7 (LV b s.heap.size (hz S2) (hz S2 + 29) 0) := hl
  have hd : ∀ q ∈ hL (newB (shz S2 (hz S2 + 29) (tz S2 + 35 + 14208)) (hz S2 + 29) 12 1), ¬ (hz S2 ≤ q ∧ q < hz S2 + 29) := fun q hq z => by
    rcases List.mem_append.mp (show q ∈ hL S2 ++ [hz S2 + 29] from hq) with h | h
    · have := hW2.lt h; omega
    · rw [List.mem_singleton] at h; omega
  have hRO := RO_start (z := s.heap.size) (t := t) (h' := hz S2 + 29) (t' := tz S2 + 35 + 14208) (by omega) (by rw [← e2]; exact hW5.ok) (by rw [← e2]; exact fun q hq => hW5.lt hq)
  rw [← e2] at hRO
  have hno : an (newB (shz S2 (hz S2 + 29) (tz S2 + 35 + 14208)) (hz S2 + 29) 12 1) (hz S2 + 29) = 1 := va_up_self _ _ _
  exact W.widen (by decide) (by decide) (law_loop hl0 hTh hr hlocks C 512 0 rfl H5 _ _ _ _ _ _ ls ⟨hW5, hM5, hd⟩ hRO k5 hno hl)
