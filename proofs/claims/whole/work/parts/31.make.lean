theorem cnt_in {x : Int32} {n N len : Nat} (h : x = nI n) (hn : n ≤ N) (hN : N < 2 ^ 31) (c : x < nI N) (hl : len = N) : vp_in x len := by
  subst h
  rw [nI_ltI (by omega) hN] at c
  rw [hl]
  exact vp_in_nI c hN
theorem Wd.k00 {D : va_G} {AC : Nat → ClassId} {A : Nat → Prop} {s : State} {H0 H : Heap} {locs : List Loc} {S : HS} (hW : Wd D AC A s H0 H locs S) : ∀ a, hz S ≤ a → kd S a = 0 := fun a ha => Classical.byContradiction fun z => by
  have := hW.lt (hW.ok.1 _ z)
  omega
theorem nnk1 {k : Nat} (h : nnk k = true) : rO k ≠ 1 := by
  unfold nnk at h
  split at h <;> first | (intro q; cases q; done) | (cases h)
theorem nn_gen {S S' : HS} (h : nn S) (P : Nat → Prop) (ho : ∀ a, ¬ P a → kd S' a = kd S a ∧ ∀ k, fr S' k a = fr S k a) (hn : ∀ a, P a → ∀ k, nnk k = true → kd S' a = rO k → ∃ b, fr S' k a = some b) : nn S' := by
  intro k a hk ha
  by_cases hp : P a
  · exact hn a hp k hk ha
  · obtain ⟨e1, e2⟩ := ho a hp
    rw [e1] at ha
    rw [e2]
    exact h k a hk ha
/-- an object with its act -/
abbrev q2 (S : HS) (K : Nat) : Nat := hz (newQ S (hz S) K)
def mk2 (S : HS) (K : Nat) (c0 a0 : Option Nat) : HS := Act_init_S (newQ (newQ S (hz S) K) (hz (newQ S (hz S) K)) 1) (hz (newQ S (hz S) K)) c0 a0
theorem mk2_fr {S : HS} {K : Nat} {c0 a0 : Option Nat} {k a : Nat} (h1 : a ≠ hz S) (h2 : a ≠ hz S + 1) : fr (mk2 S K c0 a0) k a = fr S k a := by
  show up2 (up2 (zr (zr (fr S) (hz S) none) (hz S + 1) none) 0 (hz S + 1) c0) 1 (hz S + 1) a0 k a = _
  rw [up2_a _ _ _ _ h2, up2_a _ _ _ _ h2]
  simp only [zr, h1, h2, if_false]
theorem mk2_kd {S : HS} {K : Nat} {c0 a0 : Option Nat} {a : Nat} : kd (mk2 S K c0 a0) a = if a = hz S + 1 then 1 else if a = hz S then K else kd S a := rfl
theorem mk2_fi {S : HS} {K : Nat} {c0 a0 : Option Nat} {k a : Nat} (h1 : a ≠ hz S) (h2 : a ≠ hz S + 1) : fi (mk2 S K c0 a0) k a = fi S k a := by
  show zr (zr (fi S) (hz S) 0) (hz S + 1) 0 k a = _
  simp only [zr, h1, h2, if_false]
theorem nnk2 {k : Nat} (h : nnk k = true) (h2 : rO k = 2) : k = 2 ∨ k = 3 := by
  unfold nnk at h
  split at h <;> first | exact Or.inl rfl | exact Or.inr rfl | (cases h2; done) | (cases h)
theorem nnk6 {k : Nat} (h : nnk k = true) (h2 : rO k = 6) : k = 11 := by
  unfold nnk at h
  split at h <;> first | rfl | (cases h2; done) | (cases h)
/-- nothing is null in an object and its act -/
theorem nn_mk2 {S X : HS} {K : Nat} (h : nn S) (hk : ∀ a, kd X a = if a = hz S + 1 then 1 else if a = hz S then K else kd S a) (hf : ∀ k a, a ≠ hz S → a ≠ hz S + 1 → fr X k a = fr S k a) (hn : ∀ k, nnk k = true → rO k = K → ∃ b, fr X k (hz S) = some b) : nn X := by
  refine nn_gen h (fun a => a = hz S ∨ a = hz S + 1) (fun a ha => ?_) (fun a ha k hk2 hr => ?_)
  · have h1 : a ≠ hz S := fun q => ha (Or.inl q)
    have h2 : a ≠ hz S + 1 := fun q => ha (Or.inr q)
    exact ⟨(hk a).trans ((if_neg h2).trans (if_neg h1)), fun k => hf k a h1 h2⟩
  · rcases ha with ha | ha
    · subst ha
      have e := (hk (hz S)).trans ((if_neg (show ¬ hz S = hz S + 1 by omega)).trans (if_pos rfl))
      exact hn k hk2 (hr.symm.trans e)
    · subst ha
      have e := (hk (hz S + 1)).trans (if_pos rfl)
      exact absurd (hr.symm.trans e) (nnk1 hk2)
theorem Alarm_init_fr {Y : HS} {q own x k a : Nat} {n : Int32} (h : a ≠ q) : fr (Alarm_init_S Y q n own x) k a = fr Y k a := by
  show up2 (up2 (fr Y) 2 q (some own)) 3 q (some x) k a = fr Y k a
  rw [up2_a _ _ _ _ h, up2_a _ _ _ _ h]
theorem Alarm_init_2 {Y : HS} {q own x : Nat} {n : Int32} : fr (Alarm_init_S Y q n own x) 2 q = some own := by
  show up2 (up2 (fr Y) 2 q (some own)) 3 q (some x) 2 q = some own
  rw [up2_k _ _ _ _ (by decide), up2_self]
theorem Alarm_init_3 {Y : HS} {q own x : Nat} {n : Int32} : fr (Alarm_init_S Y q n own x) 3 q = some x := by
  show up2 (up2 (fr Y) 2 q (some own)) 3 q (some x) 3 q = some x
  rw [up2_self]
theorem Alarm_init_kd {Y : HS} {q own x a : Nat} {n : Int32} : kd (Alarm_init_S Y q n own x) a = kd Y a := rfl
theorem Point_init_fr {Y : HS} {q x k a : Nat} {o : Int64} (h : a ≠ q) : fr (Point_init_S Y q o x) k a = fr Y k a := by
  show up2 (fr Y) 11 q (some x) k a = fr Y k a
  rw [up2_a _ _ _ _ h]
theorem Point_init_11 {Y : HS} {q x : Nat} {o : Int64} : fr (Point_init_S Y q o x) 11 q = some x := by
  show up2 (fr Y) 11 q (some x) 11 q = some x
  rw [up2_self]
theorem Point_init_kd {Y : HS} {q x a : Nat} {o : Int64} : kd (Point_init_S Y q o x) a = kd Y a := rfl
theorem nn_alarm {S : HS} {c0 a0 : Option Nat} {n : Int32} {own : Nat} (h : nn S) : nn (Alarm_init_S (mk2 S 2 c0 a0) (hz S) n own (hz S + 1)) := by
  refine nn_mk2 (K := 2) h (fun _ => Alarm_init_kd.trans mk2_kd) (fun k a h1 h2 => (Alarm_init_fr h1).trans (mk2_fr h1 h2)) (fun k hk hr => ?_)
  rcases nnk2 hk hr with rfl | rfl
  · exact ⟨own, Alarm_init_2⟩
  · exact ⟨hz S + 1, Alarm_init_3⟩
theorem nn_appendAlarm {S : HS} {t a : Nat} (h : nn S) : nn (appendAlarm_S S t a) := by
  unfold appendAlarm_S
  exact opc_P (P := nn) (fun _ => nn_sfr (nn_sfr h (Or.inl rfl)) (Or.inl rfl)) (fun _ _ => nn_sfr (nn_sfr h (Or.inl rfl)) (Or.inl rfl))
theorem nn_point {S : HS} {c0 a0 : Option Nat} {o : Int64} (h : nn S) : nn (Point_init_S (mk2 S 6 c0 a0) (hz S) o (hz S + 1)) := by
  refine nn_mk2 (K := 6) h (fun _ => Point_init_kd.trans mk2_kd) (fun k a h1 h2 => (Point_init_fr h1).trans (mk2_fr h1 h2)) (fun k hk hr => ?_)
  have := nnk6 hk hr
  subst this
  exact ⟨hz S + 1, Point_init_11⟩
theorem nn_insert {S : HS} {t x : Nat} {zs : List Nat} (h : nn S) : nn (insert_S S t x zs) := by
  unfold insert_S
  exact opc_P (P := nn) (fun _ => nn_sfi (nn_sfr (nn_sfr h (Or.inl rfl)) (Or.inl rfl))) (fun _ _ => nn_sfi (nn_sfr (nn_sfr h (Or.inl rfl)) (Or.inl rfl)))
theorem atOk_gen {S S' : HS} {t : Nat} (h : atOk S t) (h1 : fi S' 10 t = fi S 10 t) (h2 : ∃ n, n ≤ 100 ∧ fi S' 11 t = nI n) (h3 : fi S' 12 t = fi S 12 t) (h4 : ∀ k, 18 ≤ k → fr S' k t = fr S k t) (h5 : an S' = an S) : atOk S' t := by
  obtain ⟨g1, g2, g3, g4, g5, g6⟩ := h
  unfold atOk
  rw [h1, h3, h4 18 (by decide), h4 19 (by decide), h4 20 (by decide), h5]
  exact ⟨g1, h2, g3, g4, g5, g6⟩
theorem cnt_up {x : Int32} {N : Nat} (h : ∃ n, n ≤ N ∧ x = nI n) (hN : N < 2 ^ 31) (c : x < nI N) : ∃ n, n ≤ N ∧ x + 1 = nI n := by
  obtain ⟨n, hn, rfl⟩ := h
  rw [nI_ltI (by omega) hN] at c
  exact ⟨n + 1, c, nI_1 n⟩
theorem atOk_sfr {S : HS} {t k a : Nat} {v : Option Nat} (h : atOk S t) (hk : k < 18) : atOk (sfr S k a v) t := atOk_gen h rfl h.2.1 rfl (fun j hj => up2_k _ _ _ _ (by omega)) rfl
theorem atOk_sfi {S : HS} {t k a : Nat} {v : Int32} (h : atOk S t) (hk : k < 10) : atOk (sfi S k a v) t := atOk_gen h (up2_k _ _ _ _ (by omega)) (by
  obtain ⟨n, h1, h2⟩ := h.2.1
  exact ⟨n, h1, (up2_k _ _ _ _ (by omega)).trans h2⟩) (up2_k _ _ _ _ (by omega)) (fun j hj => rfl) rfl
theorem atOk_sar {S : HS} {t a i : Nat} {v : Option Nat} (h : atOk S t) : atOk (sar S a i v) t := h
theorem atOk_sfl {S : HS} {t k a : Nat} {v : Int64} (h : atOk S t) : atOk (sfl S k a v) t := h
theorem atOk_mk2 {S : HS} {t K : Nat} {c0 a0 : Option Nat} (h : atOk S t) (t1 : t ≠ hz S) (t2 : t ≠ hz S + 1) : atOk (mk2 S K c0 a0) t := by
  obtain ⟨n, h1, h2⟩ := h.2.1
  exact atOk_gen h (mk2_fi t1 t2) ⟨n, h1, (mk2_fi t1 t2).trans h2⟩ (mk2_fi t1 t2) (fun _ _ => mk2_fr t1 t2) rfl
theorem atOk_cnt {S : HS} {t : Nat} {v : Int32} (h : atOk S t) (hv : ∃ n, n ≤ 100 ∧ v = nI n) : atOk (sfi S 11 t v) t := by
  obtain ⟨n, h1, h2⟩ := hv
  exact atOk_gen h (up2_k (fi S) t t v (show 10 ≠ 11 by decide)) ⟨n, h1, (up2_self (fi S) 11 t v).trans h2⟩ (up2_k (fi S) t t v (show 12 ≠ 11 by decide)) (fun _ _ => rfl) rfl
theorem atOk_alarm {S : HS} {t own i : Nat} {arr : Nat} {v c0 a0 : Option Nat} {n : Int32} (h : atOk S t) (h0 : ∀ a, hz S ≤ a → kd S a = 0) (kt : kd S t = 8) (c : fi S 11 t < 100) : atOk (appendAlarm_S (sfi (sar (Alarm_init_S (mk2 S 2 c0 a0) (hz S) n own (hz S + 1)) arr i v) 11 t (fi S 11 t + 1)) own (hz S)) t := by
  have t1 : t ≠ hz S := fun q => by rw [h0 t (by omega)] at kt; cases kt
  have t2 : t ≠ hz S + 1 := fun q => by rw [h0 t (by omega)] at kt; cases kt
  have k1 : atOk (mk2 S 2 c0 a0) t := atOk_mk2 h t1 t2
  generalize mk2 S 2 c0 a0 = Y at k1
  have k2 : atOk (Alarm_init_S Y (hz S) n own (hz S + 1)) t := atOk_sfr (atOk_sfr (atOk_sfi k1 (by decide)) (by decide)) (by decide)
  generalize Alarm_init_S Y (hz S) n own (hz S + 1) = Z at k2
  have k3 : atOk (sfi (sar Z arr i v) 11 t (fi S 11 t + 1)) t := atOk_cnt (atOk_sar k2) (cnt_up h.2.1 (by decide) c)
  generalize sfi (sar Z arr i v) 11 t (fi S 11 t + 1) = X at k3
  unfold appendAlarm_S
  exact opc_P (P := fun z => atOk z t) (fun _ => atOk_sfr (atOk_sfr k3 (by decide)) (by decide)) (fun _ _ => atOk_sfr (atOk_sfr k3 (by decide)) (by decide))
theorem atOk_point {S : HS} {t b : Nat} {zs : List Nat} {c0 a0 : Option Nat} {o : Int64} (h : atOk S t) (h0 : ∀ a, hz S ≤ a → kd S a = 0) (kt : kd S t = 8) : atOk (insert_S (Point_init_S (mk2 S 6 c0 a0) (hz S) o (hz S + 1)) b (hz S) zs) t := by
  have t1 : t ≠ hz S := fun q => by rw [h0 t (by omega)] at kt; cases kt
  have t2 : t ≠ hz S + 1 := fun q => by rw [h0 t (by omega)] at kt; cases kt
  have k1 : atOk (mk2 S 6 c0 a0) t := atOk_mk2 h t1 t2
  generalize mk2 S 6 c0 a0 = Y at k1
  have k2 : atOk (Point_init_S Y (hz S) o (hz S + 1)) t := atOk_sfr (atOk_sfl k1) (by decide)
  generalize Point_init_S Y (hz S) o (hz S + 1) = X at k2
  unfold insert_S
  exact opc_P (P := fun z => atOk z t) (fun _ => atOk_sfi (atOk_sfr (atOk_sfr k2 (by decide)) (by decide)) (by decide)) (fun _ _ => atOk_sfi (atOk_sfr (atOk_sfr k2 (by decide)) (by decide)) (by decide))
theorem chn_point {S : HS} {b : Nat} {zs : List Nat} {c0 a0 : Option Nat} {o : Int64} (h : hOk S) (h0 : ∀ a, hz S ≤ a → kd S a = 0) (kb : kd S b = 7) (hc : chn (fr S 12) (fr S 14 b) zs) : chn (fr (Point_init_S (mk2 S 6 c0 a0) (hz S) o (hz S + 1)) 12) (fr (Point_init_S (mk2 S 6 c0 a0) (hz S) o (hz S + 1)) 14 b) zs := by
  have he : ∀ k a, kd S a ≠ 0 → fr (Point_init_S (mk2 S 6 c0 a0) (hz S) o (hz S + 1)) k a = fr S k a := fun k a ha => by
    have t1 : a ≠ hz S := fun q => ha (h0 a (by omega))
    have t2 : a ≠ hz S + 1 := fun q => ha (h0 a (by omega))
    exact (Point_init_fr t1).trans (mk2_fr t1 t2)
  generalize Point_init_S (mk2 S 6 c0 a0) (hz S) o (hz S + 1) = X at he
  rw [he 14 b (by rw [kb]; decide)]
  have hk := chn_kd h (b0 := 12) (K := 6) rfl rfl zs _ hc (fun z hz => h.2.1 14 b z kb hz)
  exact chn_congr zs _ (fun x hx => (he 12 x (by rw [hk x hx]; decide)).symm) hc
