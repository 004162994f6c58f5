-- THE MODEL'S STORE: one object at o, its arrays at o + 1 .. o + 28; what it holds: ints by field, arrays by their place among the arrays
abbrev MS : Type := (Nat → Int32) × (Nat → Nat → Int32) × (Nat → Nat → Int64)
def mi (σ : MS) : Nat → Int32 := σ.1
def ma (σ : MS) : Nat → Nat → Int32 := σ.2.1
def ml (σ : MS) : Nat → Nat → Int64 := σ.2.2
def smi (σ : MS) (k : Nat) (v : Int32) : MS := (va_up (mi σ) k v, ma σ, ml σ)
def sma (σ : MS) (j i : Nat) (v : Int32) : MS := (mi σ, up2 (ma σ) j i v, ml σ)
def sml (σ : MS) (j i : Nat) (v : Int64) : MS := (mi σ, ma σ, up2 (ml σ) j i v)
/-- the kind of the j-th array, its length -/
def mK (j : Nat) : Nat := match j with
  | 0 => 12 | 1 => 12 | 2 => 12 | 3 => 12 | 4 => 13 | 5 => 13 | 6 => 11 | 7 => 11 | 8 => 11 | 9 => 13 | 10 => 12 | 11 => 12 | 12 => 11 | 13 => 12 | 14 => 11 | 15 => 12 | 16 => 11 | 17 => 11 | 18 => 12 | 19 => 13 | 20 => 12 | 21 => 11 | 22 => 11 | 23 => 11 | 24 => 11 | 25 => 11 | 26 => 11 | 27 => 11
  | _ => 0
def mN (j : Nat) : Nat := match j with
  | 0 => 21 | 1 => 21 | 2 => 21 | 3 => 21 | 4 => 441 | 5 => 21 | 6 => 101 | 7 => 101 | 8 => 101 | 9 => 101 | 10 => 101 | 11 => 101 | 12 => 21 | 13 => 21 | 14 => 21 | 15 => 420 | 16 => 420 | 17 => 21 | 18 => 21 | 19 => 21 | 20 => 21 | 21 => 21 | 22 => 3000 | 23 => 3000 | 24 => 3000 | 25 => 3000 | 26 => 24 | 27 => 24
  | _ => 0
def mAd (o : Nat) : List Nat := o :: (List.range 28).map (fun j => o + 1 + j)
def mKd (o a : Nat) : Nat := if a = o then 9 else if o < a then mK (a - (o + 1)) else 0
def mFr (o k a : Nat) : Option Nat := if a = o ∧ 22 ≤ k ∧ k < 50 then some (o + 1 + (k - 22)) else none
def hsM (o z tt : Nat) (σ : MS) : HS := (z, tt, mAd o, mKd o, fun k _ => mi σ k, fun _ _ => 0, mFr o, fun a => mN (a - (o + 1)), fun a i => ma σ (a - (o + 1)) i, fun a i => ml σ (a - (o + 1)) i, fun _ _ => none)
theorem jhz_sfi (S : HS) (k a : Nat) (v : Int32) : hz (sfi S k a v) = hz S := rfl
theorem jtz_sfi (S : HS) (k a : Nat) (v : Int32) : tz (sfi S k a v) = tz S := rfl
theorem jhL_sfi (S : HS) (k a : Nat) (v : Int32) : hL (sfi S k a v) = hL S := rfl
theorem jkd_sfi (S : HS) (k a : Nat) (v : Int32) : kd (sfi S k a v) = kd S := rfl
theorem jfi_sfi (S : HS) (k a : Nat) (v : Int32) : fi (sfi S k a v) = up2 (fi S) k a v := rfl
theorem jfl_sfi (S : HS) (k a : Nat) (v : Int32) : fl (sfi S k a v) = fl S := rfl
theorem jfr_sfi (S : HS) (k a : Nat) (v : Int32) : fr (sfi S k a v) = fr S := rfl
theorem jan_sfi (S : HS) (k a : Nat) (v : Int32) : an (sfi S k a v) = an S := rfl
theorem jai_sfi (S : HS) (k a : Nat) (v : Int32) : ai (sfi S k a v) = ai S := rfl
theorem jal_sfi (S : HS) (k a : Nat) (v : Int32) : al (sfi S k a v) = al S := rfl
theorem jar_sfi (S : HS) (k a : Nat) (v : Int32) : ar (sfi S k a v) = ar S := rfl
theorem jhz_sfr (S : HS) (k a : Nat) (v : Option Nat) : hz (sfr S k a v) = hz S := rfl
theorem jtz_sfr (S : HS) (k a : Nat) (v : Option Nat) : tz (sfr S k a v) = tz S := rfl
theorem jhL_sfr (S : HS) (k a : Nat) (v : Option Nat) : hL (sfr S k a v) = hL S := rfl
theorem jkd_sfr (S : HS) (k a : Nat) (v : Option Nat) : kd (sfr S k a v) = kd S := rfl
theorem jfi_sfr (S : HS) (k a : Nat) (v : Option Nat) : fi (sfr S k a v) = fi S := rfl
theorem jfl_sfr (S : HS) (k a : Nat) (v : Option Nat) : fl (sfr S k a v) = fl S := rfl
theorem jfr_sfr (S : HS) (k a : Nat) (v : Option Nat) : fr (sfr S k a v) = up2 (fr S) k a v := rfl
theorem jan_sfr (S : HS) (k a : Nat) (v : Option Nat) : an (sfr S k a v) = an S := rfl
theorem jai_sfr (S : HS) (k a : Nat) (v : Option Nat) : ai (sfr S k a v) = ai S := rfl
theorem jal_sfr (S : HS) (k a : Nat) (v : Option Nat) : al (sfr S k a v) = al S := rfl
theorem jar_sfr (S : HS) (k a : Nat) (v : Option Nat) : ar (sfr S k a v) = ar S := rfl
theorem jhz_sai (S : HS) (a i : Nat) (v : Int32) : hz (sai S a i v) = hz S := rfl
theorem jtz_sai (S : HS) (a i : Nat) (v : Int32) : tz (sai S a i v) = tz S := rfl
theorem jhL_sai (S : HS) (a i : Nat) (v : Int32) : hL (sai S a i v) = hL S := rfl
theorem jkd_sai (S : HS) (a i : Nat) (v : Int32) : kd (sai S a i v) = kd S := rfl
theorem jfi_sai (S : HS) (a i : Nat) (v : Int32) : fi (sai S a i v) = fi S := rfl
theorem jfl_sai (S : HS) (a i : Nat) (v : Int32) : fl (sai S a i v) = fl S := rfl
theorem jfr_sai (S : HS) (a i : Nat) (v : Int32) : fr (sai S a i v) = fr S := rfl
theorem jan_sai (S : HS) (a i : Nat) (v : Int32) : an (sai S a i v) = an S := rfl
theorem jai_sai (S : HS) (a i : Nat) (v : Int32) : ai (sai S a i v) = up2 (ai S) a i v := rfl
theorem jal_sai (S : HS) (a i : Nat) (v : Int32) : al (sai S a i v) = al S := rfl
theorem jar_sai (S : HS) (a i : Nat) (v : Int32) : ar (sai S a i v) = ar S := rfl
theorem jhz_sal (S : HS) (a i : Nat) (v : Int64) : hz (sal S a i v) = hz S := rfl
theorem jtz_sal (S : HS) (a i : Nat) (v : Int64) : tz (sal S a i v) = tz S := rfl
theorem jhL_sal (S : HS) (a i : Nat) (v : Int64) : hL (sal S a i v) = hL S := rfl
theorem jkd_sal (S : HS) (a i : Nat) (v : Int64) : kd (sal S a i v) = kd S := rfl
theorem jfi_sal (S : HS) (a i : Nat) (v : Int64) : fi (sal S a i v) = fi S := rfl
theorem jfl_sal (S : HS) (a i : Nat) (v : Int64) : fl (sal S a i v) = fl S := rfl
theorem jfr_sal (S : HS) (a i : Nat) (v : Int64) : fr (sal S a i v) = fr S := rfl
theorem jan_sal (S : HS) (a i : Nat) (v : Int64) : an (sal S a i v) = an S := rfl
theorem jai_sal (S : HS) (a i : Nat) (v : Int64) : ai (sal S a i v) = ai S := rfl
theorem jal_sal (S : HS) (a i : Nat) (v : Int64) : al (sal S a i v) = up2 (al S) a i v := rfl
theorem jar_sal (S : HS) (a i : Nat) (v : Int64) : ar (sal S a i v) = ar S := rfl
theorem jhz_newB (S : HS) (q K n : Nat) : hz (newB S q K n) = hz S + 1 := rfl
theorem jtz_newB (S : HS) (q K n : Nat) : tz (newB S q K n) = tz S + n := rfl
theorem jhL_newB (S : HS) (q K n : Nat) : hL (newB S q K n) = hL S ++ [q] := rfl
theorem jkd_newB (S : HS) (q K n : Nat) : kd (newB S q K n) = va_up (kd S) q K := rfl
theorem jfi_newB (S : HS) (q K n : Nat) : fi (newB S q K n) = fi S := rfl
theorem jfl_newB (S : HS) (q K n : Nat) : fl (newB S q K n) = fl S := rfl
theorem jfr_newB (S : HS) (q K n : Nat) : fr (newB S q K n) = fr S := rfl
theorem jan_newB (S : HS) (q K n : Nat) : an (newB S q K n) = va_up (an S) q n := rfl
theorem jai_newB (S : HS) (q K n : Nat) : ai (newB S q K n) = va_up (ai S) q (fun _ => 0) := rfl
theorem jal_newB (S : HS) (q K n : Nat) : al (newB S q K n) = va_up (al S) q (fun _ => 0) := rfl
theorem jar_newB (S : HS) (q K n : Nat) : ar (newB S q K n) = va_up (ar S) q (fun _ => none) := rfl
theorem jhz_M (o z tt : Nat) (σ : MS) : hz (hsM o z tt σ) = z := rfl
theorem jtz_M (o z tt : Nat) (σ : MS) : tz (hsM o z tt σ) = tt := rfl
theorem jhL_M (o z tt : Nat) (σ : MS) : hL (hsM o z tt σ) = mAd o := rfl
theorem jkd_M (o z tt : Nat) (σ : MS) : kd (hsM o z tt σ) = mKd o := rfl
theorem jfi_M (o z tt : Nat) (σ : MS) : fi (hsM o z tt σ) = fun k _ => mi σ k := rfl
theorem jfl_M (o z tt : Nat) (σ : MS) : fl (hsM o z tt σ) = fun _ _ => 0 := rfl
theorem jfr_M (o z tt : Nat) (σ : MS) : fr (hsM o z tt σ) = mFr o := rfl
theorem jan_M (o z tt : Nat) (σ : MS) : an (hsM o z tt σ) = fun a => mN (a - (o + 1)) := rfl
theorem jai_M (o z tt : Nat) (σ : MS) : ai (hsM o z tt σ) = fun a i => ma σ (a - (o + 1)) i := rfl
theorem jal_M (o z tt : Nat) (σ : MS) : al (hsM o z tt σ) = fun a i => ml σ (a - (o + 1)) i := rfl
theorem jar_M (o z tt : Nat) (σ : MS) : ar (hsM o z tt σ) = fun _ _ => none := rfl
theorem mK_lt {j : Nat} (h : mK j ≠ 0) : j < 28 := by
  rcases Nat.lt_or_ge j 28 with h1 | h1
  · exact h1
  · exfalso
    apply h
    obtain ⟨i, rfl⟩ : ∃ i, j = i + 28 := ⟨j - 28, by omega⟩
    rfl
theorem mAd_in {o j : Nat} (h : j < 28) : o + 1 + j ∈ mAd o := List.mem_cons_of_mem _ (List.mem_map.mpr ⟨j, List.mem_range.mpr h, rfl⟩)
theorem hsM_k {o z tt : Nat} {σ : MS} : kd (hsM o z tt σ) o = 9 := if_pos rfl
theorem mKd_a {o j : Nat} : mKd o (o + 1 + j) = mK j := by
  unfold mKd
  rw [if_neg (by omega), if_pos (by omega), Nat.add_sub_cancel_left]
theorem hsM_ka {o z tt : Nat} {σ : MS} {j : Nat} : kd (hsM o z tt σ) (o + 1 + j) = mK j := mKd_a
theorem hsM_n {o z tt : Nat} {σ : MS} {j : Nat} : an (hsM o z tt σ) (o + 1 + j) = mN j := by
  show mN (o + 1 + j - (o + 1)) = mN j
  rw [Nat.add_sub_cancel_left]
theorem hsM_ai {o z tt : Nat} {σ : MS} {j i : Nat} : ai (hsM o z tt σ) (o + 1 + j) i = ma σ j i := by
  show ma σ (o + 1 + j - (o + 1)) i = ma σ j i
  rw [Nat.add_sub_cancel_left]
theorem hsM_al {o z tt : Nat} {σ : MS} {j i : Nat} : al (hsM o z tt σ) (o + 1 + j) i = ml σ j i := by
  show ml σ (o + 1 + j - (o + 1)) i = ml σ j i
  rw [Nat.add_sub_cancel_left]
theorem mK_rT : ∀ j, j < 28 → mK j = rT (22 + j) := by decide
theorem hsM_ok {o z tt : Nat} {σ : MS} : hOk (hsM o z tt σ) := by
  refine ⟨fun a ha => ?_, fun k a b _ hb => ?_, fun a j b _ hb => ?_⟩
  · have ha : mKd o a ≠ 0 := ha
    show a ∈ mAd o
    unfold mKd at ha
    by_cases h1 : a = o
    · subst h1; exact List.mem_cons_self
    · rw [if_neg h1] at ha
      by_cases h2 : o < a
      · rw [if_pos h2] at ha
        obtain ⟨j, rfl⟩ : ∃ j, a = o + 1 + j := ⟨a - (o + 1), by omega⟩
        rw [Nat.add_sub_cancel_left] at ha
        exact mAd_in (mK_lt ha)
      · rw [if_neg h2] at ha
        exact absurd rfl ha
  · have hb : mFr o k a = some b := hb
    show mKd o b = rT k
    unfold mFr at hb
    by_cases h : a = o ∧ 22 ≤ k ∧ k < 50
    · rw [if_pos h] at hb
      have hb := Option.some.inj hb
      subst hb
      rw [mKd_a, mK_rT _ (by omega)]
      congr 1
      omega
    · rw [if_neg h] at hb
      cases hb
  · cases hb
theorem mono_hsM {o z tt : Nat} {σ σ' : MS} : mono (hsM o z tt σ) (hsM o z tt σ') := fun _ _ => ⟨rfl, rfl⟩
theorem fv_eq {S S' : HS} {a : Nat} (h1 : ∀ k, fi S' k a = fi S k a) (h2 : ∀ k, fl S' k a = fl S k a) (h3 : ∀ k, fr S' k a = fr S k a) : fv S' a = fv S a := by
  funext t
  obtain ⟨t1, t2⟩ := t
  match t1 with
  | 0 => show Value.int (fi S' t2 a) = Value.int (fi S t2 a); rw [h1]
  | 1 => show Value.long (fl S' t2 a) = Value.long (fl S t2 a); rw [h2]
  | 2 => show va_rf (fr S' t2 a) = va_rf (fr S t2 a); rw [h3]
  | n + 3 => rfl
theorem eC_fv {AC : Nat → ClassId} {S S' : HS} {a K : Nat} (h1 : kd S a = K) (h2 : kd S' a = K) (hK : aK K = 0) (h : fv S' a = fv S a) : eC AC S' a = eC AC S a := by
  rw [eC_obj h1 hK, eC_obj h2 hK, h]
theorem eC_arr {AC : Nat → ClassId} {S S' : HS} {a K : Nat} (h1 : kd S a = K) (h2 : kd S' a = K) (hK : aK K ≠ 0) (hn : an S' a = an S a) (h3 : ai S' a = ai S a) (h4 : al S' a = al S a) (h5 : ar S' a = ar S a) : eC AC S' a = eC AC S a := by
  unfold eC
  rw [h1, h2, hn, h3, h4, h5]
  generalize aK K = q at hK
  match q, hK with
  | 1, _ => rfl
  | 2, _ => rfl
  | n + 3, _ => rfl
theorem aK_mK : ∀ j, j < 28 → aK (mK j) ≠ 0 := by decide
section MROWS
variable {p : Program} {l : Launch} {e : Env} {R : Room} {s : State} {m : MethodId} {args : Array Value} {below : List Frame} {meth : Method} {c : Code} {H : Heap} {locs : List Loc} {cells slots : Nat} {Q : State → Prop}
variable {cc : ByteArray} {pc : Nat} {ls : Array Slot} {rest : List Value} {D : va_G} {AC : Nat → ClassId} {A : Nat → Prop} {H0 : Heap} {S S' : HS} {o z tt : Nat} {σ : MS} {j k jj : Nat}
theorem Wd.same (hW : Wd D AC A s H0 H locs S) (h1 : hL S' = hL S) (h2 : hz S' = hz S ∧ tz S' = tz S) (he : ∀ a ∈ hL S, eC AC S' a = eC AC S a) (hok : hOk S') : Wd D AC A s H0 H locs S' := by
  have hp : pool AC S' = pool AC S := by
    show (hL S').map (fun a => (a, eC AC S' a)) = (hL S).map (fun a => (a, eC AC S a))
    rw [h1]
    exact List.map_congr_left (fun a ha => by rw [he a ha])
  refine ⟨hW.wK, by rw [hp]; exact hW.wP, by rw [hp]; exact hW.wD, hW.wS, hW.wA, hok, by rw [h2.1]; exact hW.z, hW.nx, by rw [h2.2]; exact hW.t⟩
theorem hsM_smi {v : Int32} (hW : Wd D AC A s H0 H locs (sfi (hsM o z tt σ) k o v)) : Wd D AC A s H0 H locs (hsM o z tt (smi σ k v)) := by
  refine hW.same (by rw [jhL_sfi, jhL_M, jhL_M]) ⟨by rw [jhz_sfi, jhz_M, jhz_M], by rw [jtz_sfi, jtz_M, jtz_M]⟩ (fun a ha => ?_) hsM_ok
  rw [jhL_sfi, jhL_M] at ha
  rcases List.mem_cons.mp ha with ha | ha
  · rw [ha]
    refine eC_fv (S := sfi (hsM o z tt σ) k o v) (S' := hsM o z tt (smi σ k v)) (K := 9) (by rw [jkd_sfi]; exact hsM_k) hsM_k rfl (fv_eq (fun q => ?_) (fun _ => by rw [jfl_sfi, jfl_M, jfl_M]) (fun _ => by rw [jfr_sfi, jfr_M, jfr_M]))
    rw [jfi_sfi, jfi_M, jfi_M]
    show va_up (mi σ) k v q = up2 (fun k _ => mi σ k) k o v q o
    unfold up2 va_up
    by_cases h : q = k
    · rw [if_pos h, if_pos ⟨h, rfl⟩]
    · rw [if_neg h, if_neg (fun z => h z.1)]
  · obtain ⟨j, hj, e⟩ := List.mem_map.mp ha
    rw [← e]
    exact eC_arr (S := sfi (hsM o z tt σ) k o v) (S' := hsM o z tt (smi σ k v)) (K := mK j) (by rw [jkd_sfi]; exact hsM_ka) hsM_ka (aK_mK j (List.mem_range.mp hj)) (by rw [jan_sfi, jan_M, jan_M]) (by rw [jai_sfi, jai_M, jai_M]; rfl) (by rw [jal_sfi, jal_M, jal_M]; rfl) (by rw [jar_sfi, jar_M, jar_M])
theorem hsM_sma {i : Nat} {v : Int32} (hj : j < 28) (hW : Wd D AC A s H0 H locs (sai (hsM o z tt σ) (o + 1 + j) i v)) : Wd D AC A s H0 H locs (hsM o z tt (sma σ j i v)) := by
  refine hW.same (by rw [jhL_sai, jhL_M, jhL_M]) ⟨by rw [jhz_sai, jhz_M, jhz_M], by rw [jtz_sai, jtz_M, jtz_M]⟩ (fun a ha => ?_) hsM_ok
  rw [jhL_sai, jhL_M] at ha
  rcases List.mem_cons.mp ha with ha | ha
  · rw [ha]
    exact eC_fv (S := sai (hsM o z tt σ) (o + 1 + j) i v) (S' := hsM o z tt (sma σ j i v)) (K := 9) (by rw [jkd_sai]; exact hsM_k) hsM_k rfl (fv_eq (fun _ => by rw [jfi_sai, jfi_M, jfi_M]; rfl) (fun _ => by rw [jfl_sai, jfl_M, jfl_M]) (fun _ => by rw [jfr_sai, jfr_M, jfr_M]))
  · obtain ⟨j', hj', e⟩ := List.mem_map.mp ha
    rw [← e]
    refine eC_arr (S := sai (hsM o z tt σ) (o + 1 + j) i v) (S' := hsM o z tt (sma σ j i v)) (K := mK j') (by rw [jkd_sai]; exact hsM_ka) hsM_ka (aK_mK j' (List.mem_range.mp hj')) (by rw [jan_sai, jan_M, jan_M]) ?_ (by rw [jal_sai, jal_M, jal_M]; rfl) (by rw [jar_sai, jar_M, jar_M])
    rw [jai_sai, jai_M, jai_M]
    funext i'
    show up2 (ma σ) j i v (o + 1 + j' - (o + 1)) i' = up2 (fun a i => ma σ (a - (o + 1)) i) (o + 1 + j) i v (o + 1 + j') i'
    rw [Nat.add_sub_cancel_left]
    unfold up2
    dsimp only
    rw [Nat.add_sub_cancel_left]
    by_cases h : j' = j ∧ i' = i
    · rw [if_pos h, if_pos ⟨by omega, h.2⟩]
    · rw [if_neg h, if_neg (fun z => h ⟨by omega, z.2⟩)]
theorem hsM_sml {i : Nat} {v : Int64} (hj : j < 28) (hW : Wd D AC A s H0 H locs (sal (hsM o z tt σ) (o + 1 + j) i v)) : Wd D AC A s H0 H locs (hsM o z tt (sml σ j i v)) := by
  refine hW.same (by rw [jhL_sal, jhL_M, jhL_M]) ⟨by rw [jhz_sal, jhz_M, jhz_M], by rw [jtz_sal, jtz_M, jtz_M]⟩ (fun a ha => ?_) hsM_ok
  rw [jhL_sal, jhL_M] at ha
  rcases List.mem_cons.mp ha with ha | ha
  · rw [ha]
    exact eC_fv (S := sal (hsM o z tt σ) (o + 1 + j) i v) (S' := hsM o z tt (sml σ j i v)) (K := 9) (by rw [jkd_sal]; exact hsM_k) hsM_k rfl (fv_eq (fun _ => by rw [jfi_sal, jfi_M, jfi_M]; rfl) (fun _ => by rw [jfl_sal, jfl_M, jfl_M]) (fun _ => by rw [jfr_sal, jfr_M, jfr_M]))
  · obtain ⟨j', hj', e⟩ := List.mem_map.mp ha
    rw [← e]
    refine eC_arr (S := sal (hsM o z tt σ) (o + 1 + j) i v) (S' := hsM o z tt (sml σ j i v)) (K := mK j') (by rw [jkd_sal]; exact hsM_ka) hsM_ka (aK_mK j' (List.mem_range.mp hj')) (by rw [jan_sal, jan_M, jan_M]) (by rw [jai_sal, jai_M, jai_M]; rfl) ?_ (by rw [jar_sal, jar_M, jar_M])
    rw [jal_sal, jal_M, jal_M]
    funext i'
    show up2 (ml σ) j i v (o + 1 + j' - (o + 1)) i' = up2 (fun a i => ml σ (a - (o + 1)) i) (o + 1 + j) i v (o + 1 + j') i'
    rw [Nat.add_sub_cancel_left]
    unfold up2
    dsimp only
    rw [Nat.add_sub_cancel_left]
    by_cases h : j' = j ∧ i' = i
    · rw [if_pos h, if_pos ⟨by omega, h.2⟩]
    · rw [if_neg h, if_neg (fun z => h ⟨by omega, z.2⟩)]
end MROWS
