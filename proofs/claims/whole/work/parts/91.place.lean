-- POINTS: THE PLACE
def pLs (M : AM) (u : Nat) : Nat → Nat → List Nat
  | 0, _ => []
  | k + 1, p => pA M u p :: pLs M u k (p + 1)
theorem pLs_mem {M : AM} {u z : Nat} : ∀ (k p : Nat), z ∈ pLs M u k p → ∃ i, p ≤ i ∧ i < p + k ∧ z = pA M u i
  | 0, p, h => by cases h
  | k + 1, p, h => by
    rcases List.mem_cons.mp h with h | h
    · exact ⟨p, Nat.le_refl _, by omega, h⟩
    · obtain ⟨i, i1, i2, i3⟩ := pLs_mem k (p + 1) h
      exact ⟨i, by omega, by omega, i3⟩
theorem pLs_chn {M : AM} {S : HS} {σ : MS} {u : Nat} (hp : ∀ p, p < npT σ u → fr S 12 (pA M u p) = ptO M σ u (p + 1)) : ∀ (k p : Nat), p + k = npT σ u → chn (fr S 12) (ptO M σ u p) (pLs M u k p)
  | 0, p, h => if_neg (by omega)
  | k + 1, p, h => by
    refine ⟨if_pos (by omega), ?_⟩
    rw [hp p (by omega)]
    exact pLs_chn hp k (p + 1) (by omega)
/-- q is the place of off among the first N -/
def plc (f : Nat → Int64) (off : Int64) (N q : Nat) : Prop := q ≤ N ∧ (∀ p, p < q → f p < off) ∧ (∀ p, q ≤ p → p < N → ¬ f p < off)
theorem plc_ex {f : Nat → Int64} {off : Int64} : ∀ (N : Nat), (∀ p, p < N → ∀ p', p' < p → (f p').toInt < (f p).toInt) → ∃ q, plc f off N q
  | 0, _ => ⟨0, Nat.le_refl _, fun _ h => absurd h (by omega), fun _ _ h => absurd h (by omega)⟩
  | N + 1, h => by
    obtain ⟨q, q1, q2, q3⟩ := plc_ex N (fun p hp p' hp' => h p (by omega) p' hp')
    by_cases e : q = N
    · by_cases e2 : f N < off
      · exact ⟨N + 1, Nat.le_refl _, fun p hp => by
          by_cases e3 : p = N
          · rw [e3]; exact e2
          · exact q2 p (by omega), fun p h1 h2 => absurd h1 (by omega)⟩
      · exact ⟨q, by omega, q2, fun p h1 h2 => by
          have : p = N := by omega
          rw [this]; exact e2⟩
    · refine ⟨q, by omega, q2, fun p h1 h2 => ?_⟩
      by_cases e3 : p = N
      · have a1 := q3 q (Nat.le_refl _) (by omega)
        have a2 := h N (by omega) q (by omega)
        rw [Int64.lt_iff_toInt_lt] at a1 ⊢
        rw [e3]
        omega
      · exact q3 p h1 (by omega)
theorem ptQ_eq {σ : MS} {t0 : Int32} {off : Int64} {N q : Nat} {f : Nat → Int64} (hf : ∀ p, p < N → ml σ 15 (ofs t0 p) = f p) (asc : ∀ p, p < N → ∀ p', p' < p → (f p').toInt < (f p).toInt) (hq : plc f off N q) : ∀ (k p : Nat), p + k = N → ptQ σ t0 off k p (min p q) (if q < p ∧ f q = off then 1 else 0) = (q, if q < N ∧ f q = off then 1 else 0)
  | 0, p, h => by
    have e : p = N := by omega
    have := hq.1
    subst e
    show (min p q, _) = _
    rw [Nat.min_eq_right this]
  | k + 1, p, h => by
    obtain ⟨q1, q2, q3⟩ := hq
    have ih := ptQ_eq hf asc ⟨q1, q2, q3⟩ k (p + 1) (by omega)
    have e1 : (if ml σ 15 (ofs t0 p) < off then min p q + 1 else min p q) = min (p + 1) q := by
      rw [hf p (by omega)]
      by_cases e : f p < off
      · rw [if_pos e]
        have : p < q := by
          rcases Nat.lt_or_ge p q with z | z
          · exact z
          · exact absurd e (q3 p z (by omega))
        omega
      · rw [if_neg e]
        have : q ≤ p := by
          rcases Nat.lt_or_ge p q with z | z
          · exact absurd (q2 p z) e
          · exact z
        omega
    have e2 : (if (if q < p ∧ f q = off then (1 : Int32) else 0) = 0 then (if ml σ 15 (ofs t0 p) = off then (1 : Int32) else 0) else 1) = if q < p + 1 ∧ f q = off then 1 else 0 := by
      rw [hf p (by omega)]
      by_cases c1 : q < p ∧ f q = off
      · rw [if_pos c1, if_neg (by decide), if_pos ⟨by omega, c1.2⟩]
      · rw [if_neg c1, if_pos rfl]
        by_cases c2 : f p = off
        · have hqp : q ≤ p := by
            rcases Nat.lt_or_ge p q with z | z
            · have a1 := q2 p z
              rw [c2, Int64.lt_iff_toInt_lt] at a1
              omega
            · exact z
          have e : q = p := by
            rcases Nat.lt_or_ge q p with z | z
            · have a1 := q3 q (Nat.le_refl _) (by omega)
              have a2 := asc p (by omega) q z
              rw [Int64.lt_iff_toInt_lt] at a1
              rw [c2] at a2
              omega
            · omega
          rw [if_pos c2, if_pos ⟨by omega, by rw [e]; exact c2⟩]
        · rw [if_neg c2, if_neg (fun z => by
            by_cases e : q = p
            · rw [e] at z; exact c2 z.2
            · exact c1 ⟨by omega, z.2⟩)]
    show ptQ σ t0 off k (p + 1) (if ml σ 15 (ofs t0 p) < off then min p q + 1 else min p q) (if (if q < p ∧ f q = off then (1 : Int32) else 0) = 0 then (if ml σ 15 (ofs t0 p) = off then (1 : Int32) else 0) else 1) = _
    rw [e1, e2]
    exact ih
theorem ptQ_0 {σ : MS} {t0 : Int32} {off : Int64} {N q : Nat} {f : Nat → Int64} (hf : ∀ p, p < N → ml σ 15 (ofs t0 p) = f p) (asc : ∀ p, p < N → ∀ p', p' < p → (f p').toInt < (f p).toInt) (hq : plc f off N q) : ptQ σ t0 off N 0 0 0 = (q, if q < N ∧ f q = off then 1 else 0) := by
  have := ptQ_eq (t0 := t0) hf asc hq N 0 (by omega)
  rw [Nat.min_eq_left (Nat.zero_le _), if_neg (fun z => absurd z.1 (by omega))] at this
  exact this
/-- the point before the place -/
def bfO (M : AM) (u q : Nat) : Option Nat := if q = 0 then none else some (pA M u (q - 1))
theorem pb_eq {M : AM} {S : HS} {off : Int64} {u N q : Nat} {f : Nat → Int64} (hf : ∀ p, p < N → fl S 8 (pA M u p) = f p) (hq : plc f off N q) : ∀ (k p : Nat), p + k = N → p ≤ q → pbL S off (bfO M u p) (pLs M u k p) = bfO M u q
  | 0, p, h, hp => by
    have := hq.1
    have e : p = q := by omega
    rw [e]; rfl
  | k + 1, p, h, hp => by
    obtain ⟨q1, q2, q3⟩ := hq
    show (if fl S 8 (pA M u p) < off then pbL S off (some (pA M u p)) (pLs M u k (p + 1)) else bfO M u p) = _
    rw [hf p (by omega)]
    by_cases e : f p < off
    · rw [if_pos e]
      have hlt : p < q := by
        rcases Nat.lt_or_ge p q with z | z
        · exact z
        · exact absurd e (q3 p z (by omega))
      have ih := pb_eq hf ⟨q1, q2, q3⟩ k (p + 1) (by omega) hlt
      rw [show bfO M u (p + 1) = some (pA M u p) from if_neg (by omega)] at ih
      exact ih
    · rw [if_neg e]
      have e2 : p = q := by
        rcases Nat.lt_or_ge p q with z | z
        · exact absurd (q2 p z) e
        · omega
      rw [e2]
/-- what a table's points look like in the store -/
theorem pts_ch {M : AM} {S : HS} {σ : MS} (hR : RS M S σ) {u : Nat} (u1 : 1 ≤ u) (u2 : u ≤ nT σ) : chn (fr S 12) (fr S 14 (tA M u)) (pLs M u (npT σ u) 0) := by
  rw [(hR.2.2.2.2.1 u u1 u2).2.2.2.2.2]
  exact pLs_chn (fun p hp => (hR.2.2.2.2.2 u p u1 u2 hp).2.2.1) _ _ (by omega)
theorem cho_pts {M : AM} {S : HS} {σ : MS} (hR : RS M S σ) {u : Nat} (u1 : 1 ≤ u) (u2 : u ≤ nT σ) : cho (fr S 12) (fr S 14 (tA M u)) = pLs M u (npT σ u) 0 := cho_eq (pts_ch hR u1 u2)
theorem hasPt {M : AM} {S : HS} {σ : MS} (hR : RS M S σ) {u q : Nat} {off : Int64} (u1 : 1 ≤ u) (u2 : u ≤ nT σ) (hq : plc (fun p => ml σ 15 (20 * u + p)) off (npT σ u) q) : hasPointAt_R S (tA M u) off (pLs M u (npT σ u) 0) = if q < npT σ u ∧ ml σ 15 (20 * u + q) = off then 1 else 0 := by
  have hb := pb_eq (M := M) (S := S) (u := u) (f := fun p => ml σ 15 (20 * u + p)) (fun p hp => (hR.2.2.2.2.2 u p u1 u2 hp).2.1) hq (npT σ u) 0 (by omega) (Nat.zero_le _)
  have hb : pbL S off none (pLs M u (npT σ u) 0) = bfO M u q := hb
  have nx : ∀ o, o = ptO M σ u q → opc o (0 : Int32) (fun b => if fl S 8 b = off then (1 : Int32) else 0) = if q < npT σ u ∧ ml σ 15 (20 * u + q) = off then 1 else 0 := fun o ho => by
    by_cases e : q < npT σ u
    · rw [op_some (ho.trans (if_pos e)), (hR.2.2.2.2.2 u q u1 u2 e).2.1]
      by_cases e2 : ml σ 15 (20 * u + q) = off
      · rw [if_pos e2, if_pos ⟨e, e2⟩]
      · rw [if_neg e2, if_neg (fun z => e2 z.2)]
    · rw [op_none (ho.trans (if_neg e)), if_neg (fun z => e z.1)]
  unfold hasPointAt_R
  by_cases e : q = 0
  · rw [op_none (hb.trans (if_pos e))]
    refine nx _ ?_
    rw [(hR.2.2.2.2.1 u u1 u2).2.2.2.2.2, e]
  · rw [op_some (hb.trans (if_neg e))]
    refine nx _ ?_
    have h1 := hq.1
    rw [(hR.2.2.2.2.2 u (q - 1) u1 u2 (by omega)).2.2.1, show q - 1 + 1 = q by omega]
-- THE STORE WITH A NEW POINT
def upP (M : AM) (u q w : Nat) : AM := (cA M, aA M, tA M, fun t p => if t = u then (if p < q then pA M u p else if p = q then w else pA M u (p - 1)) else pA M t p)
theorem upP_n {M : AM} {u q w t p : Nat} (h : t ≠ u) : pA (upP M u q w) t p = pA M t p := if_neg h
theorem upP_l {M : AM} {u q w p : Nat} (h : p < q) : pA (upP M u q w) u p = pA M u p := by
  show (if u = u then (if p < q then pA M u p else if p = q then w else pA M u (p - 1)) else pA M u p) = _
  rw [if_pos rfl, if_pos h]
theorem upP_s {M : AM} {u q w : Nat} : pA (upP M u q w) u q = w := by
  show (if u = u then (if q < q then pA M u q else if q = q then w else pA M u (q - 1)) else pA M u q) = _
  rw [if_pos rfl, if_neg (Nat.lt_irrefl _), if_pos rfl]
theorem upP_g {M : AM} {u q w p : Nat} (h : q < p) : pA (upP M u q w) u p = pA M u (p - 1) := by
  show (if u = u then (if p < q then pA M u p else if p = q then w else pA M u (p - 1)) else pA M u p) = _
  rw [if_pos rfl, if_neg (by omega), if_neg (by omega)]
def ptX (S : HS) (off : Int64) (c0 a0 : Option Nat) : HS := Point_init_S (mk2 S 6 c0 a0) (hz S) off (hz S + 1)
theorem ptX_kd {S : HS} {off : Int64} {c0 a0 : Option Nat} (a : Nat) : kd (ptX S off c0 a0) a = if a = hz S + 1 then 1 else if a = hz S then 6 else kd S a := rfl
theorem ptX_fi {S : HS} {off : Int64} {c0 a0 : Option Nat} (j a : Nat) (h : a < hz S) : fi (ptX S off c0 a0) j a = fi S j a := by
  show (if a = hz S + 1 then (0 : Int32) else if a = hz S then 0 else fi S j a) = fi S j a
  rw [if_neg (by omega), if_neg (by omega)]
theorem ptX_fl {S : HS} {off : Int64} {c0 a0 : Option Nat} (j a : Nat) (h : a < hz S) : fl (ptX S off c0 a0) j a = fl S j a := by
  show up2 (zr (zr (fl S) (hz S) 0) (hz S + 1) 0) 8 (hz S) off j a = fl S j a
  rw [up2_a _ _ _ _ (by omega)]
  show (if a = hz S + 1 then (0 : Int64) else if a = hz S then 0 else fl S j a) = fl S j a
  rw [if_neg (by omega), if_neg (by omega)]
theorem ptX_fl8 {S : HS} {off : Int64} {c0 a0 : Option Nat} : fl (ptX S off c0 a0) 8 (hz S) = off := by
  show up2 (zr (zr (fl S) (hz S) 0) (hz S + 1) 0) 8 (hz S) off 8 (hz S) = off
  exact up2_self _ _ _ _
theorem ptX_fr {S : HS} {off : Int64} {c0 a0 : Option Nat} (j a : Nat) (h : a < hz S) : fr (ptX S off c0 a0) j a = fr S j a := by
  show up2 (up2 (up2 (zr (zr (fr S) (hz S) none) (hz S + 1) none) 0 (hz S + 1) c0) 1 (hz S + 1) a0) 11 (hz S) (some (hz S + 1)) j a = fr S j a
  rw [up2_a _ _ _ _ (by omega), up2_a _ _ _ _ (by omega), up2_a _ _ _ _ (by omega)]
  show (if a = hz S + 1 then none else if a = hz S then none else fr S j a) = fr S j a
  rw [if_neg (by omega), if_neg (by omega)]
theorem ptX_fr11 {S : HS} {off : Int64} {c0 a0 : Option Nat} : fr (ptX S off c0 a0) 11 (hz S) = some (hz S + 1) := by
  show up2 (up2 (up2 (zr (zr (fr S) (hz S) none) (hz S + 1) none) 0 (hz S + 1) c0) 1 (hz S + 1) a0) 11 (hz S) (some (hz S + 1)) 11 (hz S) = some (hz S + 1)
  rw [up2_self]
theorem ptX_fr0 {S : HS} {off : Int64} {c0 a0 : Option Nat} : fr (ptX S off c0 a0) 0 (hz S + 1) = c0 := by
  show up2 (up2 (up2 (zr (zr (fr S) (hz S) none) (hz S + 1) none) 0 (hz S + 1) c0) 1 (hz S + 1) a0) 11 (hz S) (some (hz S + 1)) 0 (hz S + 1) = c0
  rw [up2_k _ _ _ _ (by decide), up2_k _ _ _ _ (by decide), up2_self]
theorem ptX_fr1 {S : HS} {off : Int64} {c0 a0 : Option Nat} : fr (ptX S off c0 a0) 1 (hz S + 1) = a0 := by
  show up2 (up2 (up2 (zr (zr (fr S) (hz S) none) (hz S + 1) none) 0 (hz S + 1) c0) 1 (hz S + 1) a0) 11 (hz S) (some (hz S + 1)) 1 (hz S + 1) = a0
  rw [up2_k _ _ _ _ (by decide), up2_self]
theorem ptX_st {S : HS} {off : Int64} {c0 a0 : Option Nat} : an (ptX S off c0 a0) = an S ∧ ai (ptX S off c0 a0) = ai S ∧ ar (ptX S off c0 a0) = ar S ∧ hz (ptX S off c0 a0) = hz S + 2 ∧ tz (ptX S off c0 a0) = tz S + 5 ∧ hL (ptX S off c0 a0) = (hL S ++ [hz S]) ++ [hz S + 1] := ⟨rfl, rfl, rfl, rfl, rfl, rfl⟩
theorem ptX_ok {S : HS} {off : Int64} {c0 a0 : Option Nat} (o1 : hOk S) (o2 : hlt S) (hc : ∀ b, c0 = some b → kd S b = 3) (ha : ∀ b, a0 = some b → kd S b = 2) : hOk (ptX S off c0 a0) := by
  have q2 := mk2_ok (K := 6) o1 o2 rfl hc ha
  have eq1 : kd (mk2 S 6 c0 a0) (hz S + 1) = 1 := by rw [mk2_kd, if_pos rfl]
  unfold ptX Point_init_S
  generalize mk2 S 6 c0 a0 = X at q2 eq1
  have q3 := q2.sfl 8 (hz S) off
  have eq1 := kk_sfl (k := 8) (a := hz S) (v := off) eq1
  generalize sfl X 8 (hz S) off = X1 at q3 eq1
  exact q3.sfr 11 (hz S) (some (hz S + 1)) (fun b hb => by cases hb; exact eq1)
/-- X with w put behind bq, or first -/
def inS (X : HS) (tb w : Nat) (bq : Option Nat) : HS := opc bq (sfi (sfr (sfr X 12 w (fr X 14 tb)) 14 tb (some w)) 7 tb (fi X 7 tb + 1)) (fun b => sfi (sfr (sfr X 12 w (fr X 12 b)) 12 b (some w)) 7 tb (fi X 7 tb + 1))
theorem inS_st {X : HS} {tb w : Nat} {bq : Option Nat} : kd (inS X tb w bq) = kd X ∧ fl (inS X tb w bq) = fl X ∧ an (inS X tb w bq) = an X ∧ ai (inS X tb w bq) = ai X ∧ ar (inS X tb w bq) = ar X ∧ hz (inS X tb w bq) = hz X ∧ tz (inS X tb w bq) = tz X ∧ hL (inS X tb w bq) = hL X := by
  unfold inS
  cases bq with
  | none => exact ⟨rfl, rfl, rfl, rfl, rfl, rfl, rfl, rfl⟩
  | some b => exact ⟨rfl, rfl, rfl, rfl, rfl, rfl, rfl, rfl⟩
theorem inS_fi {X : HS} {tb w : Nat} {bq : Option Nat} : fi (inS X tb w bq) = up2 (fi X) 7 tb (fi X 7 tb + 1) := by
  unfold inS
  cases bq with
  | none => rfl
  | some b => rfl
theorem inS_k {X : HS} {tb w : Nat} {bq : Option Nat} (j a : Nat) (h1 : j ≠ 12) (h2 : j ≠ 14) : fr (inS X tb w bq) j a = fr X j a := by
  unfold inS
  cases bq with
  | none =>
    show up2 (up2 (fr X) 12 w (fr X 14 tb)) 14 tb (some w) j a = _
    rw [up2_k _ _ _ _ h2, up2_k _ _ _ _ h1]
  | some b =>
    show up2 (up2 (fr X) 12 w (fr X 12 b)) 12 b (some w) j a = _
    rw [up2_k _ _ _ _ h1, up2_k _ _ _ _ h1]
theorem inS_12 {X : HS} {tb w : Nat} {bq : Option Nat} (a : Nat) (h1 : a ≠ w) (h2 : bq ≠ some a) : fr (inS X tb w bq) 12 a = fr X 12 a := by
  unfold inS
  cases bq with
  | none =>
    show up2 (up2 (fr X) 12 w (fr X 14 tb)) 14 tb (some w) 12 a = _
    rw [up2_k _ _ _ _ (by decide), up2_a _ _ _ _ h1]
  | some b =>
    show up2 (up2 (fr X) 12 w (fr X 12 b)) 12 b (some w) 12 a = _
    rw [up2_a _ _ _ _ (fun z => h2 (by rw [z])), up2_a _ _ _ _ h1]
theorem inS_14 {X : HS} {tb w : Nat} {bq : Option Nat} (a : Nat) (h : a ≠ tb ∨ bq ≠ none) : fr (inS X tb w bq) 14 a = fr X 14 a := by
  unfold inS
  cases bq with
  | none =>
    show up2 (up2 (fr X) 12 w (fr X 14 tb)) 14 tb (some w) 14 a = _
    rcases h with h | h
    · rw [up2_a _ _ _ _ h, up2_k _ _ _ _ (by decide)]
    · exact absurd rfl h
  | some b =>
    show up2 (up2 (fr X) 12 w (fr X 12 b)) 12 b (some w) 14 a = _
    rw [up2_k _ _ _ _ (by decide), up2_k _ _ _ _ (by decide)]
theorem inS_w0 {X : HS} {tb w : Nat} : fr (inS X tb w none) 14 tb = some w ∧ fr (inS X tb w none) 12 w = fr X 14 tb := by
  refine ⟨up2_self _ _ _ _, ?_⟩
  show up2 (up2 (fr X) 12 w (fr X 14 tb)) 14 tb (some w) 12 w = _
  rw [up2_k _ _ _ _ (by decide), up2_self]
theorem inS_w1 {X : HS} {tb w b : Nat} (h : w ≠ b) : fr (inS X tb w (some b)) 12 b = some w ∧ fr (inS X tb w (some b)) 12 w = fr X 12 b := by
  refine ⟨up2_self _ _ _ _, ?_⟩
  show up2 (up2 (fr X) 12 w (fr X 12 b)) 12 b (some w) 12 w = _
  rw [up2_a _ _ _ _ h, up2_self]
theorem inS_ok {X : HS} {tb w : Nat} {bq : Option Nat} (o : hOk X) (kw : kd X w = 6) (kt : kd X tb = 7) (kb : ∀ b, bq = some b → kd X b = 6) : hOk (inS X tb w bq) := by
  unfold inS
  cases bq with
  | none =>
    have q1 := o.sfr 12 w (fr X 14 tb) (fun b hb => o.2.1 14 tb b kt hb)
    exact (q1.sfr 14 tb (some w) (fun b hb => by cases hb; exact kw)).sfi 7 tb _
  | some b0 =>
    have q1 := o.sfr 12 w (fr X 12 b0) (fun b hb => o.2.1 12 b0 b (kb b0 rfl) hb)
    exact (q1.sfr 12 b0 (some w) (fun b hb => by cases hb; exact kw)).sfi 7 tb _
theorem nn_inS {X : HS} {tb w : Nat} {bq : Option Nat} (h : nn X) : nn (inS X tb w bq) := by
  intro j a hj ha
  rw [inS_st.1] at ha
  have h1 : j ≠ 12 := fun e => by subst e; cases hj
  have h2 : j ≠ 14 := fun e => by subst e; cases hj
  rw [inS_k j a h1 h2]
  exact h j a hj ha
