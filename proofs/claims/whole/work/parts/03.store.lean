-- THE STORE: the objects of a world by their fields (a function for each field, from addresses), arrays by their contents; what a method does to the machine's heap is said of the store alone
abbrev HS : Type := Nat × Nat × List Nat × (Nat → Nat) × (Nat → Nat → Int32) × (Nat → Nat → Int64) × (Nat → Nat → Option Nat) × (Nat → Nat) × (Nat → Nat → Int32) × (Nat → Nat → Int64) × (Nat → Nat → Option Nat)
def hz (S : HS) : Nat := S.1
def tz (S : HS) : Nat := S.2.1
def hL (S : HS) : List Nat := S.2.2.1
def kd (S : HS) : Nat → Nat := S.2.2.2.1
def fi (S : HS) : Nat → Nat → Int32 := S.2.2.2.2.1
def fl (S : HS) : Nat → Nat → Int64 := S.2.2.2.2.2.1
def fr (S : HS) : Nat → Nat → Option Nat := S.2.2.2.2.2.2.1
def an (S : HS) : Nat → Nat := S.2.2.2.2.2.2.2.1
def ai (S : HS) : Nat → Nat → Int32 := S.2.2.2.2.2.2.2.2.1
def al (S : HS) : Nat → Nat → Int64 := S.2.2.2.2.2.2.2.2.2.1
def ar (S : HS) : Nat → Nat → Option Nat := S.2.2.2.2.2.2.2.2.2.2
def shz (S : HS) (n m : Nat) : HS := (n, m, S.2.2)
def up2 {α : Type} (f : Nat → Nat → α) (k a : Nat) (v : α) : Nat → Nat → α := fun k' a' => if k' = k ∧ a' = a then v else f k' a'
theorem up2_self {α : Type} (f : Nat → Nat → α) (k a : Nat) (v : α) : up2 f k a v k a = v := by simp [up2]
theorem up2_k {α : Type} (f : Nat → Nat → α) {k k' : Nat} (a a' : Nat) (v : α) (h : k' ≠ k) : up2 f k a v k' a' = f k' a' := by simp [up2, h]
theorem up2_a {α : Type} (f : Nat → Nat → α) (k k' : Nat) {a a' : Nat} (v : α) (h : a' ≠ a) : up2 f k a v k' a' = f k' a' := by simp [up2, h]
def sfi (S : HS) (k a : Nat) (v : Int32) : HS := (hz S, tz S, hL S, kd S, up2 (fi S) k a v, fl S, fr S, an S, ai S, al S, ar S)
def sfl (S : HS) (k a : Nat) (v : Int64) : HS := (hz S, tz S, hL S, kd S, fi S, up2 (fl S) k a v, fr S, an S, ai S, al S, ar S)
def sfr (S : HS) (k a : Nat) (v : Option Nat) : HS := (hz S, tz S, hL S, kd S, fi S, fl S, up2 (fr S) k a v, an S, ai S, al S, ar S)
def sai (S : HS) (a i : Nat) (v : Int32) : HS := (hz S, tz S, hL S, kd S, fi S, fl S, fr S, an S, up2 (ai S) a i v, al S, ar S)
def sal (S : HS) (a i : Nat) (v : Int64) : HS := (hz S, tz S, hL S, kd S, fi S, fl S, fr S, an S, ai S, up2 (al S) a i v, ar S)
def sar (S : HS) (a i : Nat) (v : Option Nat) : HS := (hz S, tz S, hL S, kd S, fi S, fl S, fr S, an S, ai S, al S, up2 (ar S) a i v)
/-- a new object of kind K at q, all its fields 0 and null -/
def zr {α : Type} (f : Nat → Nat → α) (q : Nat) (z : α) : Nat → Nat → α := fun k a => if a = q then z else f k a
def newQ (S : HS) (q K : Nat) : HS := (hz S + 1, tz S + (lay K).length, hL S ++ [q], va_up (kd S) q K, zr (fi S) q 0, zr (fl S) q 0, zr (fr S) q none, an S, ai S, al S, ar S)
/-- a new array of kind K and length n at q -/
abbrev newO (S : HS) (K : Nat) : HS := newQ S (hz S) K
def newB (S : HS) (q K n : Nat) : HS := (hz S + 1, tz S + n, hL S ++ [q], va_up (kd S) q K, fi S, fl S, fr S, va_up (an S) q n, va_up (ai S) q (fun _ => 0), va_up (al S) q (fun _ => 0), va_up (ar S) q (fun _ => none))
abbrev newA (S : HS) (K n : Nat) : HS := newB S (hz S) K n
def fv (S : HS) (a : Nat) (t : Nat × Nat) : Value := match t.1 with
  | 0 => .int (fi S t.2 a)
  | 1 => .long (fl S t.2 a)
  | 2 => va_rf (fr S t.2 a)
  | _ => .null
def eC (AC : Nat → ClassId) (S : HS) (a : Nat) : va_E := match aK (kd S a) with
  | 0 => .inr (kd S a - 1, (lay (kd S a)).map (fv S a))
  | 1 => .inl (AC (kd S a), an S a, .inl (ai S a))
  | 2 => .inl (AC (kd S a), an S a, .inr (.inl (al S a)))
  | _ => .inl (AC (kd S a), an S a, .inr (.inr (.inr (.inr (ar S a)))))
abbrev pool (AC : Nat → ClassId) (S : HS) : va_W := va_pl (hL S) (eC AC S)
def hOk (S : HS) : Prop := (∀ a, kd S a ≠ 0 → a ∈ hL S) ∧ (∀ k a b, kd S a = rO k → fr S k a = some b → kd S b = rT k) ∧ (∀ a j b, aE (kd S a) ≠ 0 → ar S a j = some b → kd S b = aE (kd S a))
/-- the slots of a whole heap -/
def hts (H : Heap) : Nat := (H.toList.map (fun c => c.slots.size)).sum
theorem hts_same {H H1 : Heap} (h2 : H1.size = H.size) (h : ∀ (q : Nat) (c : Cell), H[q]? = some c → ∃ c1 : Cell, H1[q]? = some c1 ∧ c1.slots.size = c.slots.size) : hts H1 = hts H := by
  unfold hts
  congr 1
  apply List.ext_getElem?
  intro i
  rw [List.getElem?_map, List.getElem?_map, Array.getElem?_toList, Array.getElem?_toList]
  cases hc : H[i]? with
  | none =>
    have : H1[i]? = none := by
      rw [Array.getElem?_eq_none_iff] at hc ⊢
      omega
    rw [this]
  | some c =>
    obtain ⟨c1, e1, e2⟩ := h i c hc
    rw [e1]
    simp [e2]
theorem hts_grow {H H1 : Heap} {c : Cell} (z : H1.size = H.size + 1) (o : ∀ q, q < H.size → H1[q]? = H[q]?) (e : H1[H.size]? = some c) : hts H1 = hts H + c.slots.size := by
  have : H1 = H.push c := by
    apply Array.ext_getElem?
    intro i
    rw [Array.getElem?_push]
    by_cases h : i = H.size
    · subst h; rw [if_pos rfl, e]
    · rw [if_neg h]
      by_cases h2 : i < H.size
      · exact o i h2
      · rw [Array.getElem?_eq_none (by omega), Array.getElem?_eq_none (by omega)]
  rw [this]
  simp [hts]
def Wd (D : va_G) (AC : Nat → ClassId) (A : Nat → Prop) (s : State) (H0 H : Heap) (locs : List Loc) (S : HS) : Prop :=
  va_K D vwCl (aTys AC) s ∧ va_P D vwCl (pool AC S) H ∧ va_D A (pool AC S) ∧ va_S A H0 H locs ∧ (∀ q, H0.size ≤ q → A q) ∧ hOk S ∧ H.size = hz S ∧ NX s ∧ hts H = tz S
/-- kinds and lengths stay -/
def mono (S S' : HS) : Prop := ∀ a, kd S a ≠ 0 → kd S' a = kd S a ∧ an S' a = an S a
theorem mono.rf (S : HS) : mono S S := fun _ _ => ⟨rfl, rfl⟩
theorem mono.tr {S S' S'' : HS} (h : mono S S') (h' : mono S' S'') : mono S S'' := fun a ha => by
  obtain ⟨h1, h2⟩ := h a ha
  obtain ⟨h3, h4⟩ := h' a (by rw [h1]; exact ha)
  exact ⟨h3.trans h1, h4.trans h2⟩
theorem mono.k {S S' : HS} (h : mono S S') {a K : Nat} (hk : kd S a = K) (hK : K ≠ 0) : kd S' a = K := (h a (by rw [hk]; exact hK)).1.trans hk
theorem mono.n {S S' : HS} (h : mono S S') {a K n : Nat} (hk : kd S a = K) (hK : K ≠ 0) (hn : an S a = n) : an S' a = n := (h a (by rw [hk]; exact hK)).2.trans hn
def AS (L : List Nat) (sz : Nat) : Nat → Prop := fun q => q ∈ L ∨ sz ≤ q
theorem pl_mem {L : List Nat} {f : Nat → va_E} {k : Nat} {q : Nat × va_E} (h : (va_pl L f)[k]? = some q) : q.1 ∈ L ∧ q.2 = f q.1 := by
  simp only [va_pl, List.getElem?_map] at h
  cases hb : L[k]? with
  | none => rw [hb] at h; cases h
  | some b =>
    rw [hb] at h
    have h2 := Option.some.inj h
    subst h2
    exact ⟨List.mem_of_getElem? hb, rfl⟩
theorem eC_obj {AC : Nat → ClassId} {S : HS} {a K : Nat} (hk : kd S a = K) (hK : aK K = 0) : eC AC S a = .inr (K - 1, (lay K).map (fv S a)) := by simp only [eC, hk, hK]
theorem eC_ints {AC : Nat → ClassId} {S : HS} {a K : Nat} (hk : kd S a = K) (hK : aK K = 1) : eC AC S a = .inl (AC K, an S a, .inl (ai S a)) := by simp only [eC, hk, hK]
theorem eC_longs {AC : Nat → ClassId} {S : HS} {a K : Nat} (hk : kd S a = K) (hK : aK K = 2) : eC AC S a = .inl (AC K, an S a, .inr (.inl (al S a))) := by simp only [eC, hk, hK]
theorem eC_refs {AC : Nat → ClassId} {S : HS} {a K : Nat} (hk : kd S a = K) (hK : aK K = 3) : eC AC S a = .inl (AC K, an S a, .inr (.inr (.inr (.inr (ar S a))))) := by simp only [eC, hk, hK]
/-- a store behind a write: equal but at one address -/
theorem eC_up {AC : Nat → ClassId} {S S' : HS} {a : Nat} {x : va_E} (h : ∀ b, b ≠ a → eC AC S' b = eC AC S b) (ha : eC AC S' a = x) : va_up (eC AC S) a x = eC AC S' := by
  funext b
  by_cases hb : b = a
  · subst hb; rw [va_up_self, ha]
  · rw [va_up_ne _ _ hb, h b hb]
theorem lay_set {S S' : HS} {a j : Nat} {t : Nat × Nat} {v : Value} (l : List (Nat × Nat)) (hn : l.Nodup) (hj : l[j]? = some t) (hv : fv S' a t = v) (ho : ∀ u, u ≠ t → fv S' a u = fv S a u) : l.map (fv S' a) = (l.map (fv S a)).set j v := by
  have hl : j < l.length := (List.getElem?_eq_some_iff.mp hj).1
  apply List.ext_getElem?
  intro i
  by_cases hi : i = j
  · subst hi
    rw [List.getElem?_set_self (by rw [List.length_map]; exact hl), List.getElem?_map, hj]
    show some (fv S' a t) = some v
    rw [hv]
  · rw [List.getElem?_set_ne (Ne.symm hi), List.getElem?_map, List.getElem?_map]
    cases hb : l[i]? with
    | none => rfl
    | some u =>
      have hu : u ≠ t := by
        intro h
        subst h
        have hil : i < l.length := (List.getElem?_eq_some_iff.mp hb).1
        exact hi ((List.getElem?_inj hil hn).mp (hb.trans hj.symm))
      show some (fv S' a u) = some (fv S a u)
      rw [ho u hu]
theorem eC_same {AC : Nat → ClassId} {S S' : HS} {b : Nat} (h1 : kd S' b = kd S b) (h2 : an S' b = an S b) (h3 : ai S' b = ai S b) (h4 : al S' b = al S b) (h5 : ar S' b = ar S b) (h6 : fv S' b = fv S b) : eC AC S' b = eC AC S b := by
  unfold eC
  rw [h1, h2, h3, h4, h5, h6]
theorem fv_b_sfi (S : HS) (k a : Nat) (v : Int32) {b : Nat} (hb : b ≠ a) : fv (sfi S k a v) b = fv S b := by
  funext t
  obtain ⟨t1, t2⟩ := t
  match t1 with
  | 0 => show Value.int (up2 (fi S) k a v t2 b) = _; rw [up2_a _ _ _ _ hb]; rfl
  | 1 => rfl
  | 2 => rfl
  | n + 3 => rfl
theorem fv_b_sfl (S : HS) (k a : Nat) (v : Int64) {b : Nat} (hb : b ≠ a) : fv (sfl S k a v) b = fv S b := by
  funext t
  obtain ⟨t1, t2⟩ := t
  match t1 with
  | 0 => rfl
  | 1 => show Value.long (up2 (fl S) k a v t2 b) = _; rw [up2_a _ _ _ _ hb]; rfl
  | 2 => rfl
  | n + 3 => rfl
theorem fv_b_sfr (S : HS) (k a : Nat) (v : Option Nat) {b : Nat} (hb : b ≠ a) : fv (sfr S k a v) b = fv S b := by
  funext t
  obtain ⟨t1, t2⟩ := t
  match t1 with
  | 0 => rfl
  | 1 => rfl
  | 2 => show va_rf (up2 (fr S) k a v t2 b) = _; rw [up2_a _ _ _ _ hb]; rfl
  | n + 3 => rfl
theorem fv_o_sfi (S : HS) (k a : Nat) (v : Int32) (t : Nat × Nat) (h : t ≠ (0, k)) : fv (sfi S k a v) a t = fv S a t := by
  obtain ⟨t1, t2⟩ := t
  match t1, h with
  | 0, h => show Value.int (up2 (fi S) k a v t2 a) = _; rw [up2_k _ _ _ _ (fun q => h (by rw [q]))]; rfl
  | 1, _ => rfl
  | 2, _ => rfl
  | n + 3, _ => rfl
theorem fv_o_sfl (S : HS) (k a : Nat) (v : Int64) (t : Nat × Nat) (h : t ≠ (1, k)) : fv (sfl S k a v) a t = fv S a t := by
  obtain ⟨t1, t2⟩ := t
  match t1, h with
  | 0, _ => rfl
  | 1, h => show Value.long (up2 (fl S) k a v t2 a) = _; rw [up2_k _ _ _ _ (fun q => h (by rw [q]))]; rfl
  | 2, _ => rfl
  | n + 3, _ => rfl
theorem fv_o_sfr (S : HS) (k a : Nat) (v : Option Nat) (t : Nat × Nat) (h : t ≠ (2, k)) : fv (sfr S k a v) a t = fv S a t := by
  obtain ⟨t1, t2⟩ := t
  match t1, h with
  | 0, _ => rfl
  | 1, _ => rfl
  | 2, h => show va_rf (up2 (fr S) k a v t2 a) = _; rw [up2_k _ _ _ _ (fun q => h (by rw [q]))]; rfl
  | n + 3, _ => rfl
theorem eC_sfi {AC : Nat → ClassId} {S : HS} {k a K j : Nat} (v : Int32) (hk : kd S a = K) (hK : aK K = 0) (hn : (lay K).Nodup) (hj : (lay K)[j]? = some (0, k)) : va_up (eC AC S) a (.inr (K - 1, ((lay K).map (fv S a)).set j (.int v))) = eC AC (sfi S k a v) := by
  refine eC_up (fun b hb => eC_same rfl rfl rfl rfl rfl (fv_b_sfi S k a v hb)) ?_
  rw [eC_obj (S := sfi S k a v) (show kd (sfi S k a v) a = K from hk) hK]
  rw [lay_set (S := S) (S' := sfi S k a v) (lay K) hn hj (v := .int v) (show Value.int (up2 (fi S) k a v k a) = _ by rw [up2_self]) (fun u hu => fv_o_sfi S k a v u hu)]
theorem eC_sfl {AC : Nat → ClassId} {S : HS} {k a K j : Nat} (v : Int64) (hk : kd S a = K) (hK : aK K = 0) (hn : (lay K).Nodup) (hj : (lay K)[j]? = some (1, k)) : va_up (eC AC S) a (.inr (K - 1, ((lay K).map (fv S a)).set j (.long v))) = eC AC (sfl S k a v) := by
  refine eC_up (fun b hb => eC_same rfl rfl rfl rfl rfl (fv_b_sfl S k a v hb)) ?_
  rw [eC_obj (S := sfl S k a v) (show kd (sfl S k a v) a = K from hk) hK]
  rw [lay_set (S := S) (S' := sfl S k a v) (lay K) hn hj (v := .long v) (show Value.long (up2 (fl S) k a v k a) = _ by rw [up2_self]) (fun u hu => fv_o_sfl S k a v u hu)]
theorem eC_sfr {AC : Nat → ClassId} {S : HS} {k a K j : Nat} (v : Option Nat) (hk : kd S a = K) (hK : aK K = 0) (hn : (lay K).Nodup) (hj : (lay K)[j]? = some (2, k)) : va_up (eC AC S) a (.inr (K - 1, ((lay K).map (fv S a)).set j (va_rf v))) = eC AC (sfr S k a v) := by
  refine eC_up (fun b hb => eC_same rfl rfl rfl rfl rfl (fv_b_sfr S k a v hb)) ?_
  rw [eC_obj (S := sfr S k a v) (show kd (sfr S k a v) a = K from hk) hK]
  rw [lay_set (S := S) (S' := sfr S k a v) (lay K) hn hj (v := va_rf v) (show va_rf (up2 (fr S) k a v k a) = _ by rw [up2_self]) (fun u hu => fv_o_sfr S k a v u hu)]
theorem up2_row {α : Type} (f : Nat → Nat → α) (a i : Nat) (v : α) : up2 f a i v a = va_up (f a) i v := by
  funext j
  simp [up2, va_up]
theorem up2_row' {α : Type} (f : Nat → Nat → α) {a b : Nat} (i : Nat) (v : α) (h : b ≠ a) : up2 f a i v b = f b := by
  funext j
  simp [up2, h]
theorem eC_sai {AC : Nat → ClassId} {S : HS} {a i K : Nat} (v : Int32) (hk : kd S a = K) (hK : aK K = 1) : va_up (eC AC S) a (.inl (AC K, an S a, .inl (upd (ai S a) i v))) = eC AC (sai S a i v) := by
  refine eC_up (fun b hb => eC_same rfl rfl (up2_row' _ _ _ hb) rfl rfl rfl) ?_
  rw [eC_ints (S := sai S a i v) (show kd (sai S a i v) a = K from hk) hK]
  show Sum.inl (AC K, an S a, Sum.inl (up2 (ai S) a i v a)) = _
  rw [up2_row]
  rfl
theorem eC_sal {AC : Nat → ClassId} {S : HS} {a i K : Nat} (v : Int64) (hk : kd S a = K) (hK : aK K = 2) : va_up (eC AC S) a (.inl (AC K, an S a, .inr (.inl (vp_updL (al S a) i v)))) = eC AC (sal S a i v) := by
  refine eC_up (fun b hb => eC_same rfl rfl rfl (up2_row' _ _ _ hb) rfl rfl) ?_
  rw [eC_longs (S := sal S a i v) (show kd (sal S a i v) a = K from hk) hK]
  show Sum.inl (AC K, an S a, Sum.inr (Sum.inl (up2 (al S) a i v a))) = _
  rw [up2_row]
  rfl
theorem eC_sar {AC : Nat → ClassId} {S : HS} {a i K : Nat} (v : Option Nat) (hk : kd S a = K) (hK : aK K = 3) : va_up (eC AC S) a (.inl (AC K, an S a, .inr (.inr (.inr (.inr (va_up (ar S a) i v)))))) = eC AC (sar S a i v) := by
  refine eC_up (fun b hb => eC_same rfl rfl rfl rfl (up2_row' _ _ _ hb) rfl) ?_
  rw [eC_refs (S := sar S a i v) (show kd (sar S a i v) a = K from hk) hK]
  show Sum.inl (AC K, an S a, Sum.inr (Sum.inr (Sum.inr (Sum.inr (up2 (ar S) a i v a))))) = _
  rw [up2_row]
-- the store's own order through each write
theorem hOk.sfi {S : HS} (h : hOk S) (k a : Nat) (v : Int32) : hOk (sfi S k a v) := h
theorem hOk.sfl {S : HS} (h : hOk S) (k a : Nat) (v : Int64) : hOk (sfl S k a v) := h
theorem hOk.sai {S : HS} (h : hOk S) (a i : Nat) (v : Int32) : hOk (sai S a i v) := h
theorem hOk.sal {S : HS} (h : hOk S) (a i : Nat) (v : Int64) : hOk (sal S a i v) := h
theorem hOk.sfr {S : HS} (h : hOk S) (k a : Nat) (v : Option Nat) (hv : ∀ b, v = some b → kd S b = rT k) : hOk (sfr S k a v) := by
  refine ⟨h.1, fun k' a' b ha hb => ?_, h.2.2⟩
  have hb' : up2 (fr S) k a v k' a' = some b := hb
  show kd S b = rT k'
  by_cases hc : k' = k ∧ a' = a
  · obtain ⟨rfl, rfl⟩ := hc
    rw [up2_self] at hb'
    exact hv b hb'
  · simp only [up2, hc, if_false] at hb'
    exact h.2.1 k' a' b ha hb'
theorem hOk.sar {S : HS} (h : hOk S) (a i : Nat) (v : Option Nat) (hv : ∀ b, v = some b → kd S b = aE (kd S a)) : hOk (sar S a i v) := by
  refine ⟨h.1, h.2.1, fun a' j b ha hb => ?_⟩
  have hb' : up2 (ar S) a i v a' j = some b := hb
  show kd S b = aE (kd S a')
  by_cases hc : a' = a ∧ j = i
  · obtain ⟨rfl, rfl⟩ := hc
    rw [up2_self] at hb'
    exact hv b hb'
  · simp only [up2, hc, if_false] at hb'
    exact h.2.2 a' j b ha hb'
theorem hOk.newQ {S : HS} (h : hOk S) {q K : Nat} (hq : q ∉ hL S) (hK : aE K = 0) (hO : ∀ k, rO k ≠ 0) (hT : ∀ k, rT k ≠ 0) (hE0 : aE 0 = 0) : hOk (newQ S q K) := by
  have k0 : kd S q = 0 := Classical.byContradiction fun z => hq (h.1 q z)
  have old : ∀ b, kd S b ≠ 0 → va_up (kd S) q K b = kd S b := fun b hb => va_up_ne _ _ (fun z => hb (by rw [z]; exact k0))
  refine ⟨fun a ha => ?_, fun k a b ha hb => ?_, fun a j b ha hb => ?_⟩
  · have ha' : va_up (kd S) q K a ≠ 0 := ha
    show a ∈ hL S ++ [q]
    by_cases hc : a = q
    · subst hc; exact List.mem_append_right _ List.mem_cons_self
    · rw [va_up_ne _ _ hc] at ha'
      exact List.mem_append_left _ (h.1 a ha')
  · have ha' : va_up (kd S) q K a = rO k := ha
    have hb' : zr (fr S) q none k a = some b := hb
    show va_up (kd S) q K b = rT k
    by_cases hc : a = q
    · simp [zr, hc] at hb'
    · rw [va_up_ne _ _ hc] at ha'
      simp only [zr, hc, if_false] at hb'
      have := h.2.1 k a b ha' hb'
      rw [old b (by rw [this]; exact hT k)]
      exact this
  · have ha' : aE (va_up (kd S) q K a) ≠ 0 := ha
    have hb' : ar S a j = some b := hb
    show va_up (kd S) q K b = aE (va_up (kd S) q K a)
    by_cases hc : a = q
    · subst hc; rw [va_up_self] at ha'; exact absurd hK ha'
    · rw [va_up_ne _ _ hc] at ha' ⊢
      have := h.2.2 a j b ha' hb'
      rw [old b (by rw [this]; exact ha')]
      exact this
theorem hOk.newB {S : HS} (h : hOk S) {q K n : Nat} (hq : q ∉ hL S) (hK : ∀ k, rO k ≠ K) (hO : ∀ k, rO k ≠ 0) (hT : ∀ k, rT k ≠ 0) : hOk (newB S q K n) := by
  have k0 : kd S q = 0 := Classical.byContradiction fun z => hq (h.1 q z)
  have old : ∀ b, kd S b ≠ 0 → va_up (kd S) q K b = kd S b := fun b hb => va_up_ne _ _ (fun z => hb (by rw [z]; exact k0))
  refine ⟨fun a ha => ?_, fun k a b ha hb => ?_, fun a j b ha hb => ?_⟩
  · have ha' : va_up (kd S) q K a ≠ 0 := ha
    show a ∈ hL S ++ [q]
    by_cases hc : a = q
    · subst hc; exact List.mem_append_right _ List.mem_cons_self
    · rw [va_up_ne _ _ hc] at ha'
      exact List.mem_append_left _ (h.1 a ha')
  · have ha' : va_up (kd S) q K a = rO k := ha
    have hb' : fr S k a = some b := hb
    show va_up (kd S) q K b = rT k
    by_cases hc : a = q
    · subst hc; rw [va_up_self] at ha'; exact absurd ha'.symm (hK k)
    · rw [va_up_ne _ _ hc] at ha'
      have := h.2.1 k a b ha' hb'
      rw [old b (by rw [this]; exact hT k)]
      exact this
  · have ha' : aE (va_up (kd S) q K a) ≠ 0 := ha
    have hb' : va_up (ar S) q (fun _ => none) a j = some b := hb
    show va_up (kd S) q K b = aE (va_up (kd S) q K a)
    by_cases hc : a = q
    · subst hc; rw [va_up_self] at hb'; cases hb'
    · rw [va_up_ne _ _ hc] at ha' ⊢ hb'
      have := h.2.2 a j b ha' hb'
      rw [old b (by rw [this]; exact ha')]
      exact this
theorem eC_newQ {AC : Nat → ClassId} {S : HS} {q K : Nat} (hq : q ∉ hL S) (hK : aK K = 0) : va_pl (hL S) (eC AC S) ++ [(q, .inr (K - 1, (lay K).map (fv (newQ S q K) q)))] = pool AC (newQ S q K) := by
  rw [va_pl_push hq]
  show va_pl (hL S ++ [q]) _ = va_pl (hL S ++ [q]) _
  congr 1
  refine eC_up (fun b hb => eC_same (va_up_ne _ _ hb) rfl rfl rfl rfl ?_) ?_
  · funext t
    obtain ⟨t1, t2⟩ := t
    match t1 with
    | 0 => show Value.int (zr (fi S) q 0 t2 b) = _; simp only [zr, hb, if_false]; rfl
    | 1 => show Value.long (zr (fl S) q 0 t2 b) = _; simp only [zr, hb, if_false]; rfl
    | 2 => show va_rf (zr (fr S) q none t2 b) = _; simp only [zr, hb, if_false]; rfl
    | n + 3 => rfl
  · exact eC_obj (show va_up (kd S) q K q = K from va_up_self _ _ _) hK
theorem fv_b_newB (S : HS) (q K n b : Nat) : fv (newB S q K n) b = fv S b := rfl
