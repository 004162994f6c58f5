theorem nI_m1 (n : Nat) : nI (n + 1) + (-1 : Int32) = nI n := by
  rw [← nI_1]
  have : (1 : Int32) + (-1) = 0 := by decide
  rw [Int32.add_assoc, this, Int32.add_zero]
theorem le_p0 {q k : Nat} (h : q + k < 1000) (h0 : k = 0) : nI (q + k) ≤ nI q := by
  rw [nI_leI (by omega) (by omega)]
  omega
theorem le_p1 {q k : Nat} (h : q + (k + 1) < 1000) : ¬ nI (q + (k + 1)) ≤ nI q := by
  rw [nI_leI (by omega) (by omega)]
  omega
theorem le_np {x : Int32} {n p k : Nat} (h : x = nI n) (hn : n < 1000) (hk : p + k = n) (h0 : k = 0) : x ≤ nI p := by
  subst h
  rw [nI_leI (by omega) (by omega)]
  omega
theorem le_np1 {x : Int32} {n p k : Nat} (h : x = nI n) (hn : n < 1000) (hk : p + (k + 1) = n) : ¬ x ≤ nI p := by
  subst h
  rw [nI_leI (by omega) (by omega)]
  omega
abbrev ofs (t0 : Int32) (p : Nat) : Nat := (((20 : Int32) * t0) + (nI p)).toNatClampNeg
abbrev ofs1 (t0 : Int32) (p : Nat) : Nat := ((((20 : Int32) * t0) + (nI p)) - (1 : Int32)).toNatClampNeg
/-- the place of an offset among the points, and whether it is there -/
def ptQ (σ : MS) (t0 : Int32) (o0 : Int64) : Nat → Nat → Nat → Int32 → Nat × Int32
  | 0, _, q, th => (q, th)
  | k + 1, p, q, th => ptQ σ t0 o0 k (p + 1) (if ml σ 15 (ofs t0 p) < o0 then q + 1 else q) (if th = 0 then (if ml σ 15 (ofs t0 p) = o0 then 1 else 0) else 1)
/-- the points from q on move up by one -/
def ptS (t0 : Int32) (q : Nat) : Nat → MS → MS
  | 0, σ => σ
  | k + 1, σ => ptS t0 q k (sma (sml σ 15 (ofs t0 (q + (k + 1))) (ml σ 15 (ofs1 t0 (q + (k + 1))))) 16 (ofs t0 (q + (k + 1))) (ma σ 16 (ofs1 t0 (q + (k + 1)))))

def Mp4_S (σ1 : MS) (t0 : Int32) (o0 : Int64) (a0 : Int32) (q : Nat) : MS := (sma (sma (sml σ1 15 (((20 : Int32) * t0) + (nI q)).toNatClampNeg o0) 16 (((20 : Int32) * t0) + (nI q)).toNatClampNeg a0) 14 t0.toNatClampNeg ((ma σ1 14 t0.toNatClampNeg) + (1 : Int32)))
def Mp4_R (σ1 : MS) (t0 : Int32) (o0 : Int64) (a0 : Int32) (q : Nat) : Int32 := ((ma σ1 14 t0.toNatClampNeg) + (1 : Int32))

abbrev npt (σ1 : MS) (t0 : Int32) : Nat := (ma σ1 14 t0.toNatClampNeg).toNatClampNeg
def Mp3_S (σ1 : MS) (t0 : Int32) (o0 : Int64) (a0 : Int32) (q n : Nat) : MS := Mp4_S (ptS t0 q (n - q) σ1) t0 o0 a0 q
def Mp3_R (σ1 : MS) (t0 : Int32) (o0 : Int64) (a0 : Int32) (q n : Nat) : Int32 := Mp4_R (ptS t0 q (n - q) σ1) t0 o0 a0 q
theorem np19 {x : Int32} {n : Nat} (h : x = nI n ∧ n ≤ 20) (c : ¬ x = (20 : Int32)) : n ≤ 19 := by
  rcases Nat.lt_or_ge n 20 with h1 | h1
  · omega
  · exact absurd (by rw [h.1, show n = 20 by have := h.2; omega]; rfl) c
theorem rg_ac {σ : MS} {x : Int32} (h : mOk σ) (h2 : ¬ mi σ 15 < x) (h1 : ¬ x ≤ 0) : rg 1 20 x := by
  rw [Int32.le_iff_toInt_le] at h1
  rw [Int32.lt_iff_toInt_lt] at h2
  have e : (0 : Int32).toInt = 0 := rfl
  have := h.1.2
  exact ⟨by omega, by omega⟩

def Mp2_R (σ1 : MS) (t0 : Int32) (o0 : Int64) (a0 : Int32) (q : Nat) (th : Int32) : Int32 :=
  if th = 0 then
    if (ma σ1 19 t0.toNatClampNeg) = 0 then
      if a0 ≤ 0 then
        if (ma σ1 14 t0.toNatClampNeg) = (20 : Int32) then
          (-4 : Int32)
        else
          Mp3_R σ1 t0 o0 a0 q (npt σ1 t0)
      else
        if (MleadsTo_R σ1 a0 (ma σ1 12 t0.toNatClampNeg)) = 0 then
          if (ma σ1 14 t0.toNatClampNeg) = (20 : Int32) then
            (-4 : Int32)
          else
            Mp3_R (sma (MleadsTo_S σ1 a0 (ma σ1 12 t0.toNatClampNeg)) 4 (((21 : Int32) * (ma σ1 12 t0.toNatClampNeg)) + a0).toNatClampNeg (1 : Int32)) t0 o0 a0 q (npt σ1 t0)
        else
          (-3 : Int32)
    else
      (-3 : Int32)
  else
    (-3 : Int32)
def Mp1_R (σ1 : MS) (t0 : Int32) (o0 : Int64) (a0 : Int32) : Int32 := Mp2_R σ1 t0 o0 a0 (ptQ σ1 t0 o0 (npt σ1 t0) 0 0 0).1 (ptQ σ1 t0 o0 (npt σ1 t0) 0 0 0).2
def Mp2_S (σ1 : MS) (t0 : Int32) (o0 : Int64) (a0 : Int32) (q : Nat) (th : Int32) : MS :=
  if th = 0 then
    if (ma σ1 19 t0.toNatClampNeg) = 0 then
      if a0 ≤ 0 then
        if (ma σ1 14 t0.toNatClampNeg) = (20 : Int32) then
          σ1
        else
          Mp3_S σ1 t0 o0 a0 q (npt σ1 t0)
      else
        if (MleadsTo_R σ1 a0 (ma σ1 12 t0.toNatClampNeg)) = 0 then
          if (ma σ1 14 t0.toNatClampNeg) = (20 : Int32) then
            (MleadsTo_S σ1 a0 (ma σ1 12 t0.toNatClampNeg))
          else
            Mp3_S (sma (MleadsTo_S σ1 a0 (ma σ1 12 t0.toNatClampNeg)) 4 (((21 : Int32) * (ma σ1 12 t0.toNatClampNeg)) + a0).toNatClampNeg (1 : Int32)) t0 o0 a0 q (npt σ1 t0)
        else
          (MleadsTo_S σ1 a0 (ma σ1 12 t0.toNatClampNeg))
    else
      σ1
  else
    σ1
def Mp1_S (σ1 : MS) (t0 : Int32) (o0 : Int64) (a0 : Int32) : MS := Mp2_S σ1 t0 o0 a0 (ptQ σ1 t0 o0 (npt σ1 t0) 0 0 0).1 (ptQ σ1 t0 o0 (npt σ1 t0) 0 0 0).2
def Mpoint_R (σ : MS) (t0 : Int32) (o0 : Int64) (a0 : Int32) : Int32 :=
  if (MnoTable_R σ t0) = 0 then
    if (mi (MnoTable_S σ t0) 15) < a0 then
      (-1 : Int32)
    else
      if 0 ≤ a0 then
        if o0 < (0 : Int64) then
          (-2 : Int32)
        else
          if (ml (MnoTable_S σ t0) 13 t0.toNatClampNeg) < o0 then
            (-2 : Int32)
          else
            Mp1_R (MnoTable_S σ t0) t0 o0 a0
      else
        if a0 < (-100 : Int32) then
          (-1 : Int32)
        else
          if (MnoAlarm_R (MnoTable_S σ t0) (-a0)) = 0 then
            if o0 < (0 : Int64) then
              (-2 : Int32)
            else
              if (ml (MnoTable_S σ t0) 13 t0.toNatClampNeg) < o0 then
                (-2 : Int32)
              else
                Mp1_R (MnoTable_S σ t0) t0 o0 a0
          else
            (-1 : Int32)
  else
    (-1 : Int32)
def Mpoint_S (σ : MS) (t0 : Int32) (o0 : Int64) (a0 : Int32) : MS :=
  if (MnoTable_R σ t0) = 0 then
    if (mi (MnoTable_S σ t0) 15) < a0 then
      (MnoTable_S σ t0)
    else
      if 0 ≤ a0 then
        if o0 < (0 : Int64) then
          (MnoTable_S σ t0)
        else
          if (ml (MnoTable_S σ t0) 13 t0.toNatClampNeg) < o0 then
            (MnoTable_S σ t0)
          else
            Mp1_S (MnoTable_S σ t0) t0 o0 a0
      else
        if a0 < (-100 : Int32) then
          (MnoTable_S σ t0)
        else
          if (MnoAlarm_R (MnoTable_S σ t0) (-a0)) = 0 then
            if o0 < (0 : Int64) then
              (MnoTable_S σ t0)
            else
              if (ml (MnoTable_S σ t0) 13 t0.toNatClampNeg) < o0 then
                (MnoTable_S σ t0)
              else
                Mp1_S (MnoTable_S σ t0) t0 o0 a0
          else
            (MnoTable_S σ t0)
  else
    (MnoTable_S σ t0)
set_option maxRecDepth 20000 in
set_option maxHeartbeats 2000000 in
theorem c_Mpoint (l : Launch) (D : va_G) (AC : Nat → ClassId) (o z tt : Nat) (σ : MS) (t0 : Int32) (o0 : Int64) (a0 : Int32) (hO : mOk σ) : CtI l yMod_point (Cond.code yMod_point cMod_point 8 (some .int) :: wT) 1 30 D AC (hsM o z tt σ) [.ref o, .int t0, .long o0, .int a0] 0 0 (fun r S' => r = Mpoint_R σ t0 o0 a0 ∧ S' = hsM o z tt (Mpoint_S σ t0 o0 a0)) := by
  refine met_of (by decide) (Nat.le_of_ble_eq_true rfl) ?_
  intro p e s m below meth c ls hsz X hW hl
  obtain ⟨hx, hb, hml, hr, hlk, hown, hnm, hts⟩ := X
  have hl : lv_has ls 8 [(0, .ref o), (1, .int t0), (2, .long o0), (4, .int a0)] := hl
  have seg291 : ∀ (σ1 : MS) (q : Nat), rg 1 20 t0 → rg 0 19 (nI q) → Mp4_R σ1 t0 o0 a0 q = Mpoint_R σ t0 o0 a0 → Mp4_S σ1 t0 o0 a0 q = Mpoint_S σ t0 o0 a0 → ∀ H locs ls, Wd D AC (AS (hL (hsM o z tt σ)) s.heap.size) s s.heap H locs (hsM o z tt σ1) → lv_has ls 8 [(0, .ref o), (1, .int t0), (2, .long o0), (4, .int a0), (5, .int (nI q))] → W p l e (rmOf 1 0 0 30) s m ([.ref o, .int t0, .long o0, .int a0] : List Value).toArray below meth c H locs 0 0 (MQ below (va_Qi (fun r S' => r = Mpoint_R σ t0 o0 a0 ∧ S' = hsM o z tt (Mpoint_S σ t0 o0 a0)) (CB D AC (hsM o z tt σ)) (AS (hL (hsM o z tt σ)) (hz (hsM o z tt σ)))) ([.ref o, .int t0, .long o0, .int a0] : List Value).toArray s 0 0 (AS (hL (hsM o z tt σ)) (hz (hsM o z tt σ)))) (F0 m 291 ls []) := by
    intro σ1 q ht hq hvR hvS H locs ls hW hl
    refine lv_aload_n hx hb dMod_point_291 rfl (lv_at hl 0 rfl) ?_
    refine mg_a FMod_57 15 ⟨rfl, by decide⟩ hx hb hts hown hW dMod_point_292 ?_
    refine lv_bipush (v := (20 : Int32)) hx hb dMod_point_295 (by decide) ?_
    refine lv_iload_n hx hb dMod_point_297 rfl (lv_at hl 1 rfl) ?_
    refine lv_imul hx hb dMod_point_298 ?_
    refine lv_iload hx hb dMod_point_299 (lv_at hl 4 rfl) ?_
    refine lv_iadd hx hb dMod_point_301 ?_
    refine lv_lload_n hx hb dMod_point_302 rfl (lv_at hl 2 rfl) ?_
    refine m_ls (j := 15) (v := o0) ⟨by decide, rfl⟩ hx hb hW (rg.in (rg.add (rg.m20 ht (by decide) (by decide)) hq (by decide) (by decide)) (by decide) (by decide)) dMod_point_303 (fun H locs hW => ?_)
    refine lv_aload_n hx hb dMod_point_304 rfl (lv_at hl 0 rfl) ?_
    refine mg_a FMod_60 16 ⟨rfl, by decide⟩ hx hb hts hown hW dMod_point_305 ?_
    refine lv_bipush (v := (20 : Int32)) hx hb dMod_point_308 (by decide) ?_
    refine lv_iload_n hx hb dMod_point_310 rfl (lv_at hl 1 rfl) ?_
    refine lv_imul hx hb dMod_point_311 ?_
    refine lv_iload hx hb dMod_point_312 (lv_at hl 4 rfl) ?_
    refine lv_iadd hx hb dMod_point_314 ?_
    refine lv_iload hx hb dMod_point_315 (lv_at hl 3 rfl) ?_
    refine m_is (j := 16) (v := a0) ⟨by decide, rfl⟩ hx hb hW (rg.in (rg.add (rg.m20 ht (by decide) (by decide)) hq (by decide) (by decide)) (by decide) (by decide)) dMod_point_317 (fun H locs hW => ?_)
    refine lv_aload_n hx hb dMod_point_318 rfl (lv_at hl 0 rfl) ?_
    refine mg_a FMod_54 14 ⟨rfl, by decide⟩ hx hb hts hown hW dMod_point_319 ?_
    refine lv_iload_n hx hb dMod_point_322 rfl (lv_at hl 1 rfl) ?_
    refine lv_dup2_11 hx hb dMod_point_323 rfl rfl ?_
    refine m_il (j := 14) (v := ma σ1 14 t0.toNatClampNeg) ⟨by decide, rfl⟩ hx hb hW (rg.in ht (by decide) (by decide)) dMod_point_324 ((ra_a (by decide)).trans (ra_l)) ?_
    refine lv_iconst (v := (1 : Int32)) hx hb dMod_point_325 (by decide) ?_
    refine lv_iadd hx hb dMod_point_326 ?_
    refine m_is (j := 14) (v := ((ma σ1 14 t0.toNatClampNeg) + (1 : Int32))) ⟨by decide, rfl⟩ hx hb hW (rg.in ht (by decide) (by decide)) dMod_point_327 (fun H locs hW => ?_)
    refine lv_aload_n hx hb dMod_point_328 rfl (lv_at hl 0 rfl) ?_
    refine mg_a FMod_54 14 ⟨rfl, by decide⟩ hx hb hts hown hW dMod_point_329 ?_
    refine lv_iload_n hx hb dMod_point_332 rfl (lv_at hl 1 rfl) ?_
    refine m_il (j := 14) (v := ((ma σ1 14 t0.toNatClampNeg) + (1 : Int32))) ⟨by decide, rfl⟩ hx hb hW (rg.in ht (by decide) (by decide)) dMod_point_333 (ra_s) ?_
    exact e_i hsz hx hb hr hlk hW mono_hsM (Nat.le_refl _) (Nat.le_refl _) dMod_point_334 ⟨hvR, congrArg (hsM o z tt) hvS⟩
  have loop2 : ∀ (q : Nat), rg 1 20 t0 → rg 0 19 (nI q) → ∀ (k : Nat) (σ1 : MS), q + k ≤ 19 → Mp4_R (ptS t0 q k σ1) t0 o0 a0 q = Mpoint_R σ t0 o0 a0 → Mp4_S (ptS t0 q k σ1) t0 o0 a0 q = Mpoint_S σ t0 o0 a0 → ∀ H locs ls, Wd D AC (AS (hL (hsM o z tt σ)) s.heap.size) s s.heap H locs (hsM o z tt σ1) → lv_has ls 8 [(0, .ref o), (1, .int t0), (2, .long o0), (4, .int a0), (5, .int (nI q)), (7, .int (nI (q + k)))] → W p l e (rmOf 1 0 0 30) s m ([.ref o, .int t0, .long o0, .int a0] : List Value).toArray below meth c H locs 0 0 (MQ below (va_Qi (fun r S' => r = Mpoint_R σ t0 o0 a0 ∧ S' = hsM o z tt (Mpoint_S σ t0 o0 a0)) (CB D AC (hsM o z tt σ)) (AS (hL (hsM o z tt σ)) (hz (hsM o z tt σ)))) ([.ref o, .int t0, .long o0, .int a0] : List Value).toArray s 0 0 (AS (hL (hsM o z tt σ)) (hz (hsM o z tt σ)))) (F0 m 226 ls []) := by
    intro q ht hq k
    induction k with
    | zero =>
      intro σ1 hk hvR hvS H locs ls hW hl
      refine lv_iload hx hb dMod_point_226 (lv_at hl 5 rfl) ?_
      refine lv_iload hx hb dMod_point_228 (lv_at hl 4 rfl) ?_
      refine lv_icmp_le (tgt := 291) hx hb dMod_point_230 (by decide) (fun c_1 => ?_) (fun c_1 => ?_)
      · exact seg291 σ1 q ht hq hvR hvS H locs ls hW (lv_sub hl [0, 1, 2, 3, 4] rfl)
      · exact absurd (le_p0 (by omega) rfl) c_1
    | succ k ih =>
      intro σ1 hk hvR hvS H locs ls hW hl
      have hp : rg 1 19 (nI (q + (k + 1))) := rg_nI (N := 19) (by omega) hk (by decide)
      refine lv_iload hx hb dMod_point_226 (lv_at hl 5 rfl) ?_
      refine lv_iload hx hb dMod_point_228 (lv_at hl 4 rfl) ?_
      refine lv_icmp_le (tgt := 291) hx hb dMod_point_230 (by decide) (fun c_1 => ?_) (fun c_1 => ?_)
      · exact absurd c_1 (le_p1 (by omega))
      · refine lv_aload_n hx hb dMod_point_233 rfl (lv_at hl 0 rfl) ?_
        refine mg_a FMod_57 15 ⟨rfl, by decide⟩ hx hb hts hown hW dMod_point_234 ?_
        refine lv_bipush (v := (20 : Int32)) hx hb dMod_point_237 (by decide) ?_
        refine lv_iload_n hx hb dMod_point_239 rfl (lv_at hl 1 rfl) ?_
        refine lv_imul hx hb dMod_point_240 ?_
        refine lv_iload hx hb dMod_point_241 (lv_at hl 5 rfl) ?_
        refine lv_iadd hx hb dMod_point_243 ?_
        refine lv_aload_n hx hb dMod_point_244 rfl (lv_at hl 0 rfl) ?_
        refine mg_a FMod_57 15 ⟨rfl, by decide⟩ hx hb hts hown hW dMod_point_245 ?_
        refine lv_bipush (v := (20 : Int32)) hx hb dMod_point_248 (by decide) ?_
        refine lv_iload_n hx hb dMod_point_250 rfl (lv_at hl 1 rfl) ?_
        refine lv_imul hx hb dMod_point_251 ?_
        refine lv_iload hx hb dMod_point_252 (lv_at hl 5 rfl) ?_
        refine lv_iadd hx hb dMod_point_254 ?_
        refine lv_iconst (v := (1 : Int32)) hx hb dMod_point_255 (by decide) ?_
        refine lv_isub hx hb dMod_point_256 ?_
        refine m_ll (j := 15) (v := ml σ1 15 ((((20 : Int32) * t0) + (nI (q + (k + 1)))) - (1 : Int32)).toNatClampNeg) ⟨by decide, rfl⟩ hx hb hW (rg.in (rg.sub (rg.add (rg.m20 ht (by decide) (by decide)) hp (by decide) (by decide)) (show rg (1) (1) (1 : Int32) from ⟨by decide, by decide⟩) (by decide) (by decide)) (by decide) (by decide)) dMod_point_257 rfl ?_
        refine m_ls (j := 15) (v := (ml σ1 15 ((((20 : Int32) * t0) + (nI (q + (k + 1)))) - (1 : Int32)).toNatClampNeg)) ⟨by decide, rfl⟩ hx hb hW (rg.in (rg.add (rg.m20 ht (by decide) (by decide)) hp (by decide) (by decide)) (by decide) (by decide)) dMod_point_258 (fun H locs hW => ?_)
        refine lv_aload_n hx hb dMod_point_259 rfl (lv_at hl 0 rfl) ?_
        refine mg_a FMod_60 16 ⟨rfl, by decide⟩ hx hb hts hown hW dMod_point_260 ?_
        refine lv_bipush (v := (20 : Int32)) hx hb dMod_point_263 (by decide) ?_
        refine lv_iload_n hx hb dMod_point_265 rfl (lv_at hl 1 rfl) ?_
        refine lv_imul hx hb dMod_point_266 ?_
        refine lv_iload hx hb dMod_point_267 (lv_at hl 5 rfl) ?_
        refine lv_iadd hx hb dMod_point_269 ?_
        refine lv_aload_n hx hb dMod_point_270 rfl (lv_at hl 0 rfl) ?_
        refine mg_a FMod_60 16 ⟨rfl, by decide⟩ hx hb hts hown hW dMod_point_271 ?_
        refine lv_bipush (v := (20 : Int32)) hx hb dMod_point_274 (by decide) ?_
        refine lv_iload_n hx hb dMod_point_276 rfl (lv_at hl 1 rfl) ?_
        refine lv_imul hx hb dMod_point_277 ?_
        refine lv_iload hx hb dMod_point_278 (lv_at hl 5 rfl) ?_
        refine lv_iadd hx hb dMod_point_280 ?_
        refine lv_iconst (v := (1 : Int32)) hx hb dMod_point_281 (by decide) ?_
        refine lv_isub hx hb dMod_point_282 ?_
        refine m_il (j := 16) (v := ma σ1 16 ((((20 : Int32) * t0) + (nI (q + (k + 1)))) - (1 : Int32)).toNatClampNeg) ⟨by decide, rfl⟩ hx hb hW (rg.in (rg.sub (rg.add (rg.m20 ht (by decide) (by decide)) hp (by decide) (by decide)) (show rg (1) (1) (1 : Int32) from ⟨by decide, by decide⟩) (by decide) (by decide)) (by decide) (by decide)) dMod_point_283 (ra_l) ?_
        refine m_is (j := 16) (v := (ma σ1 16 ((((20 : Int32) * t0) + (nI (q + (k + 1)))) - (1 : Int32)).toNatClampNeg)) ⟨by decide, rfl⟩ hx hb hW (rg.in (rg.add (rg.m20 ht (by decide) (by decide)) hp (by decide) (by decide)) (by decide) (by decide)) dMod_point_284 (fun H locs hW => ?_)
        refine lv_iinc (v := ((nI (q + (k + 1))) + (-1 : Int32))) (lv' := [(7, .int ((nI (q + (k + 1))) + (-1 : Int32))), (0, .ref o), (1, .int t0), (2, .long o0), (4, .int a0), (5, .int (nI q))]) hx hb dMod_point_285 hl (k := 5) rfl rfl (by decide) rfl (fun ls hl => ?_)
        refine lv_goto (tgt := 226) hx hb dMod_point_288 (by decide) ?_
        have e9 : ptS t0 q (k + 1) σ1 = ptS t0 q k (sma (sml σ1 15 (ofs t0 (q + (k + 1))) (ml σ1 15 (ofs1 t0 (q + (k + 1))))) 16 (ofs t0 (q + (k + 1))) (ma σ1 16 (ofs1 t0 (q + (k + 1))))) := rfl
        rw [e9] at hvR hvS
        exact ih (sma (sml σ1 15 (ofs t0 (q + (k + 1))) (ml σ1 15 (ofs1 t0 (q + (k + 1))))) 16 (ofs t0 (q + (k + 1))) (ma σ1 16 (ofs1 t0 (q + (k + 1))))) (by omega) hvR hvS H locs ls hW (by rw [← nI_m1 (q + k)]; exact (lv_sub hl [1, 2, 3, 4, 5, 0] rfl))
  have seg144 : ∀ (σ1 : MS), mOk σ1 → rg 1 20 t0 → (¬ a0 ≤ 0 → rg 1 20 a0) → ∀ (q : Nat) (th : Int32), q ≤ npt σ1 t0 → Mp2_R σ1 t0 o0 a0 q th = Mpoint_R σ t0 o0 a0 → Mp2_S σ1 t0 o0 a0 q th = Mpoint_S σ t0 o0 a0 → ∀ H locs ls, Wd D AC (AS (hL (hsM o z tt σ)) s.heap.size) s s.heap H locs (hsM o z tt σ1) → lv_has ls 8 [(0, .ref o), (1, .int t0), (2, .long o0), (4, .int a0), (5, .int (nI q)), (6, .int th)] → W p l e (rmOf 1 0 0 30) s m ([.ref o, .int t0, .long o0, .int a0] : List Value).toArray below meth c H locs 0 0 (MQ below (va_Qi (fun r S' => r = Mpoint_R σ t0 o0 a0 ∧ S' = hsM o z tt (Mpoint_S σ t0 o0 a0)) (CB D AC (hsM o z tt σ)) (AS (hL (hsM o z tt σ)) (hz (hsM o z tt σ)))) ([.ref o, .int t0, .long o0, .int a0] : List Value).toArray s 0 0 (AS (hL (hsM o z tt σ)) (hz (hsM o z tt σ)))) (F0 m 144 ls []) := by
    intro σ1 hO1 ht ha0 q th hq hvR hvS H locs ls hW hl
    have hn1 : ma σ1 14 t0.toNatClampNeg = nI (npt σ1 t0) ∧ npt σ1 t0 ≤ 20 := rg_cl (hi := 20) (hO1.2.2.2.2.2.2.1 t0.toNatClampNeg) (by decide)
    have hpp : ma σ1 14 t0.toNatClampNeg = nI (q + (npt σ1 t0 - q)) := by rw [Nat.add_sub_cancel' hq]; exact hn1.1
    refine lv_iload hx hb dMod_point_144 (lv_at hl 5 rfl) ?_
    refine lv_if_ne (tgt := 178) hx hb dMod_point_146 (by decide) (fun c_1 => ?_) (fun c_1 => ?_)
    · refine lv_bipush (v := (-3 : Int32)) hx hb dMod_point_178 (by decide) ?_
      exact e_i hsz hx hb hr hlk hW mono_hsM (Nat.le_refl _) (Nat.le_refl _) dMod_point_180 ⟨((Eq.symm (by refine (if_neg c_1).trans ?_; rfl)).trans hvR), congrArg (hsM o z tt) ((Eq.symm (by refine (if_neg c_1).trans ?_; rfl)).trans hvS)⟩
    · refine lv_aload_n hx hb dMod_point_149 rfl (lv_at hl 0 rfl) ?_
      refine mg_a FMod_69 19 ⟨rfl, by decide⟩ hx hb hts hown hW dMod_point_150 ?_
      refine lv_iload_n hx hb dMod_point_153 rfl (lv_at hl 1 rfl) ?_
      refine m_zl (j := 19) (v := ma σ1 19 t0.toNatClampNeg) ⟨by decide, rfl⟩ hx hb hW (rg.in ht (by decide) (by decide)) dMod_point_154 rfl ?_
      refine lv_if_ne (tgt := 178) hx hb dMod_point_155 (by decide) (fun c_2 => ?_) (fun c_2 => ?_)
      · refine lv_bipush (v := (-3 : Int32)) hx hb dMod_point_178 (by decide) ?_
        exact e_i hsz hx hb hr hlk hW mono_hsM (Nat.le_refl _) (Nat.le_refl _) dMod_point_180 ⟨((Eq.symm (by refine (if_pos c_1).trans ?_; refine (if_neg c_2).trans ?_; rfl)).trans hvR), congrArg (hsM o z tt) ((Eq.symm (by refine (if_pos c_1).trans ?_; refine (if_neg c_2).trans ?_; rfl)).trans hvS)⟩
      · refine lv_iload hx hb dMod_point_158 (lv_at hl 3 rfl) ?_
        refine lv_if_le (tgt := 181) hx hb dMod_point_160 (by decide) (fun c_3 => ?_) (fun c_3 => ?_)
        · refine lv_aload_n hx hb dMod_point_181 rfl (lv_at hl 0 rfl) ?_
          refine mg_a FMod_54 14 ⟨rfl, by decide⟩ hx hb hts hown hW dMod_point_182 ?_
          refine lv_iload_n hx hb dMod_point_185 rfl (lv_at hl 1 rfl) ?_
          refine m_il (j := 14) (v := ma σ1 14 t0.toNatClampNeg) ⟨by decide, rfl⟩ hx hb hW (rg.in ht (by decide) (by decide)) dMod_point_186 rfl ?_
          refine lv_bipush (v := (20 : Int32)) hx hb dMod_point_187 (by decide) ?_
          refine lv_icmp_ne (tgt := 195) hx hb dMod_point_189 (by decide) (fun c_4 => ?_) (fun c_4 => ?_)
          · refine lv_iload hx hb dMod_point_195 (lv_at hl 3 rfl) ?_
            refine lv_if_le (tgt := 218) hx hb dMod_point_197 (by decide) (fun c_5 => ?_) (fun c_5 => ?_)
            · refine lv_aload_n hx hb dMod_point_218 rfl (lv_at hl 0 rfl) ?_
              refine mg_a FMod_54 14 ⟨rfl, by decide⟩ hx hb hts hown hW dMod_point_219 ?_
              refine lv_iload_n hx hb dMod_point_222 rfl (lv_at hl 1 rfl) ?_
              refine m_il (j := 14) (v := ma σ1 14 t0.toNatClampNeg) ⟨by decide, rfl⟩ hx hb hW (rg.in ht (by decide) (by decide)) dMod_point_223 rfl ?_
              refine lv_istore (lv' := [(7, .int (ma σ1 14 t0.toNatClampNeg)), (0, .ref o), (1, .int t0), (2, .long o0), (4, .int a0), (5, .int (nI q)), (6, .int th)]) hx hb dMod_point_224 hl (by decide) rfl (fun ls hl => ?_)
              have hn19 : npt σ1 t0 ≤ 19 := np19 hn1 c_4
              exact loop2 q ht (rg_nI0 (N := 19) (by omega) (by decide)) (npt σ1 t0 - q) σ1 (by omega) ((Eq.symm (by refine (if_pos c_1).trans ?_; refine (if_pos c_2).trans ?_; refine (if_pos c_3).trans ?_; refine (if_neg c_4).trans ?_; rfl)).trans hvR) ((Eq.symm (by refine (if_pos c_1).trans ?_; refine (if_pos c_2).trans ?_; refine (if_pos c_3).trans ?_; refine (if_neg c_4).trans ?_; rfl)).trans hvS) H locs ls hW (by have hl2 := (lv_sub hl [1, 2, 3, 4, 5, 0] rfl); rw [hpp] at hl2; exact hl2)
            · exact absurd c_3 c_5
          · refine lv_bipush (v := (-4 : Int32)) hx hb dMod_point_192 (by decide) ?_
            exact e_i hsz hx hb hr hlk hW mono_hsM (Nat.le_refl _) (Nat.le_refl _) dMod_point_194 ⟨((Eq.symm (by refine (if_pos c_1).trans ?_; refine (if_pos c_2).trans ?_; refine (if_pos c_3).trans ?_; refine (if_pos c_4).trans ?_; rfl)).trans hvR), congrArg (hsM o z tt) ((Eq.symm (by refine (if_pos c_1).trans ?_; refine (if_pos c_2).trans ?_; refine (if_pos c_3).trans ?_; refine (if_pos c_4).trans ?_; rfl)).trans hvS)⟩
        · refine lv_aload_n hx hb dMod_point_163 rfl (lv_at hl 0 rfl) ?_
          refine lv_iload hx hb dMod_point_164 (lv_at hl 3 rfl) ?_
          refine lv_aload_n hx hb dMod_point_166 rfl (lv_at hl 0 rfl) ?_
          refine mg_a FMod_48 12 ⟨rfl, by decide⟩ hx hb hts hown hW dMod_point_167 ?_
          refine lv_iload_n hx hb dMod_point_170 rfl (lv_at hl 1 rfl) ?_
          refine m_il (j := 12) (v := ma σ1 12 t0.toNatClampNeg) ⟨by decide, rfl⟩ hx hb hW (rg.in ht (by decide) (by decide)) dMod_point_171 rfl ?_
          refine k_Vi (K := 9) (As := [.int a0, .int (ma σ1 12 t0.toNatClampNeg)]) (rest := []) (c_MleadsTo l D AC o z tt σ1 a0 (ma σ1 12 t0.toNatClampNeg) (hO1.2.2.2.2.2.1 _)) CMod_120 ⟨by decide, by decide, _, rfl, rfl⟩ hx hb hml hown hts hW hsM_k hl.1 rfl rfl (Nat.le_of_ble_eq_true rfl) ⟨⟨Nat.le_of_ble_eq_true rfl, Nat.le_of_ble_eq_true rfl⟩, ⟨Nat.le_of_ble_eq_true rfl, Nat.le_of_ble_eq_true rfl⟩⟩ dMod_point_172 (fun r_6 S_6 H locs e_6 hW _ _ => ?_)
          obtain ⟨e1_6, e2_6⟩ := e_6
          rw [e2_6] at hW
          rw [e1_6]
          have hO_7 : mOk (MleadsTo_S σ1 a0 (ma σ1 12 t0.toNatClampNeg)) := mOk_leadsTo hO1
          refine lv_if_eq (tgt := 181) hx hb dMod_point_175 (by decide) (fun c_8 => ?_) (fun c_8 => ?_)
          · refine lv_aload_n hx hb dMod_point_181 rfl (lv_at hl 0 rfl) ?_
            refine mg_a FMod_54 14 ⟨rfl, by decide⟩ hx hb hts hown hW dMod_point_182 ?_
            refine lv_iload_n hx hb dMod_point_185 rfl (lv_at hl 1 rfl) ?_
            refine m_il (j := 14) (v := ma σ1 14 t0.toNatClampNeg) ⟨by decide, rfl⟩ hx hb hW (rg.in ht (by decide) (by decide)) dMod_point_186 (congrFun (eq5_L.2.2 14 (by decide)) _) ?_
            refine lv_bipush (v := (20 : Int32)) hx hb dMod_point_187 (by decide) ?_
            refine lv_icmp_ne (tgt := 195) hx hb dMod_point_189 (by decide) (fun c_9 => ?_) (fun c_9 => ?_)
            · refine lv_iload hx hb dMod_point_195 (lv_at hl 3 rfl) ?_
              refine lv_if_le (tgt := 218) hx hb dMod_point_197 (by decide) (fun c_10 => ?_) (fun c_10 => ?_)
              · exact absurd c_10 c_3
              · refine lv_aload_n hx hb dMod_point_200 rfl (lv_at hl 0 rfl) ?_
                refine mg_a FMod_22 4 ⟨rfl, by decide⟩ hx hb hts hown hW dMod_point_201 ?_
                refine lv_bipush (v := (21 : Int32)) hx hb dMod_point_204 (by decide) ?_
                refine lv_aload_n hx hb dMod_point_206 rfl (lv_at hl 0 rfl) ?_
                refine mg_a FMod_48 12 ⟨rfl, by decide⟩ hx hb hts hown hW dMod_point_207 ?_
                refine lv_iload_n hx hb dMod_point_210 rfl (lv_at hl 1 rfl) ?_
                refine m_il (j := 12) (v := ma σ1 12 t0.toNatClampNeg) ⟨by decide, rfl⟩ hx hb hW (rg.in ht (by decide) (by decide)) dMod_point_211 (congrFun (eq5_L.2.2 12 (by decide)) _) ?_
                refine lv_imul hx hb dMod_point_212 ?_
                refine lv_iload hx hb dMod_point_213 (lv_at hl 3 rfl) ?_
                refine lv_iadd hx hb dMod_point_215 ?_
                refine lv_iconst (v := (1 : Int32)) hx hb dMod_point_216 (by decide) ?_
                refine m_zs (j := 4) (v := (1 : Int32)) ⟨by decide, rfl⟩ hx hb hW (rg.in (rg.add (rg.m21 (hO1.2.2.2.2.2.1 _) (by decide) (by decide)) (ha0 c_10) (by decide) (by decide)) (by decide) (by decide)) (by decide) dMod_point_217 (fun H locs hW => ?_)
                refine lv_aload_n hx hb dMod_point_218 rfl (lv_at hl 0 rfl) ?_
                refine mg_a FMod_54 14 ⟨rfl, by decide⟩ hx hb hts hown hW dMod_point_219 ?_
                refine lv_iload_n hx hb dMod_point_222 rfl (lv_at hl 1 rfl) ?_
                refine m_il (j := 14) (v := ma σ1 14 t0.toNatClampNeg) ⟨by decide, rfl⟩ hx hb hW (rg.in ht (by decide) (by decide)) dMod_point_223 ((ra_a (by decide)).trans (congrFun (eq5_L.2.2 14 (by decide)) _)) ?_
                refine lv_istore (lv' := [(7, .int (ma σ1 14 t0.toNatClampNeg)), (0, .ref o), (1, .int t0), (2, .long o0), (4, .int a0), (5, .int (nI q)), (6, .int th)]) hx hb dMod_point_224 hl (by decide) rfl (fun ls hl => ?_)
                have hn19 : npt σ1 t0 ≤ 19 := np19 hn1 c_9
                exact loop2 q ht (rg_nI0 (N := 19) (by omega) (by decide)) (npt σ1 t0 - q) (sma (MleadsTo_S σ1 a0 (ma σ1 12 t0.toNatClampNeg)) 4 (((21 : Int32) * (ma σ1 12 t0.toNatClampNeg)) + a0).toNatClampNeg (1 : Int32)) (by omega) ((Eq.symm (by refine (if_pos c_1).trans ?_; refine (if_pos c_2).trans ?_; refine (if_neg c_3).trans ?_; refine (if_pos c_8).trans ?_; refine (if_neg c_9).trans ?_; rfl)).trans hvR) ((Eq.symm (by refine (if_pos c_1).trans ?_; refine (if_pos c_2).trans ?_; refine (if_neg c_3).trans ?_; refine (if_pos c_8).trans ?_; refine (if_neg c_9).trans ?_; rfl)).trans hvS) H locs ls hW (by have hl2 := (lv_sub hl [1, 2, 3, 4, 5, 0] rfl); rw [hpp] at hl2; exact hl2)
            · refine lv_bipush (v := (-4 : Int32)) hx hb dMod_point_192 (by decide) ?_
              exact e_i hsz hx hb hr hlk hW mono_hsM (Nat.le_refl _) (Nat.le_refl _) dMod_point_194 ⟨((Eq.symm (by refine (if_pos c_1).trans ?_; refine (if_pos c_2).trans ?_; refine (if_neg c_3).trans ?_; refine (if_pos c_8).trans ?_; refine (if_pos c_9).trans ?_; rfl)).trans hvR), congrArg (hsM o z tt) ((Eq.symm (by refine (if_pos c_1).trans ?_; refine (if_pos c_2).trans ?_; refine (if_neg c_3).trans ?_; refine (if_pos c_8).trans ?_; refine (if_pos c_9).trans ?_; rfl)).trans hvS)⟩
          · refine lv_bipush (v := (-3 : Int32)) hx hb dMod_point_178 (by decide) ?_
            exact e_i hsz hx hb hr hlk hW mono_hsM (Nat.le_refl _) (Nat.le_refl _) dMod_point_180 ⟨((Eq.symm (by refine (if_pos c_1).trans ?_; refine (if_pos c_2).trans ?_; refine (if_neg c_3).trans ?_; refine (if_neg c_8).trans ?_; rfl)).trans hvR), congrArg (hsM o z tt) ((Eq.symm (by refine (if_pos c_1).trans ?_; refine (if_pos c_2).trans ?_; refine (if_neg c_3).trans ?_; refine (if_neg c_8).trans ?_; rfl)).trans hvS)⟩
  have loop1 : ∀ (σ1 : MS), mOk σ1 → rg 1 20 t0 → (¬ a0 ≤ 0 → rg 1 20 a0) → ∀ (k p1 q : Nat) (th : Int32), p1 + k = npt σ1 t0 → q ≤ p1 → Mp2_R σ1 t0 o0 a0 (ptQ σ1 t0 o0 k p1 q th).1 (ptQ σ1 t0 o0 k p1 q th).2 = Mpoint_R σ t0 o0 a0 → Mp2_S σ1 t0 o0 a0 (ptQ σ1 t0 o0 k p1 q th).1 (ptQ σ1 t0 o0 k p1 q th).2 = Mpoint_S σ t0 o0 a0 → ∀ H locs ls, Wd D AC (AS (hL (hsM o z tt σ)) s.heap.size) s s.heap H locs (hsM o z tt σ1) → lv_has ls 8 [(0, .ref o), (1, .int t0), (2, .long o0), (4, .int a0), (5, .int (nI q)), (6, .int th), (7, .int (nI p1))] → W p l e (rmOf 1 0 0 30) s m ([.ref o, .int t0, .long o0, .int a0] : List Value).toArray below meth c H locs 0 0 (MQ below (va_Qi (fun r S' => r = Mpoint_R σ t0 o0 a0 ∧ S' = hsM o z tt (Mpoint_S σ t0 o0 a0)) (CB D AC (hsM o z tt σ)) (AS (hL (hsM o z tt σ)) (hz (hsM o z tt σ)))) ([.ref o, .int t0, .long o0, .int a0] : List Value).toArray s 0 0 (AS (hL (hsM o z tt σ)) (hz (hsM o z tt σ)))) (F0 m 70 ls []) := by
    intro σ1 hO1 ht ha0 k
    have hn1 : ma σ1 14 t0.toNatClampNeg = nI (npt σ1 t0) ∧ npt σ1 t0 ≤ 20 := rg_cl (hi := 20) (hO1.2.2.2.2.2.2.1 t0.toNatClampNeg) (by decide)
    induction k with
    | zero =>
      intro p1 q th hk hq hvR hvS H locs ls hW hl
      refine lv_iload hx hb dMod_point_70 (lv_at hl 6 rfl) ?_
      refine lv_aload_n hx hb dMod_point_72 rfl (lv_at hl 0 rfl) ?_
      refine mg_a FMod_54 14 ⟨rfl, by decide⟩ hx hb hts hown hW dMod_point_73 ?_
      refine lv_iload_n hx hb dMod_point_76 rfl (lv_at hl 1 rfl) ?_
      refine m_il (j := 14) (v := ma σ1 14 t0.toNatClampNeg) ⟨by decide, rfl⟩ hx hb hW (rg.in ht (by decide) (by decide)) dMod_point_77 rfl ?_
      refine lv_icmp_ge (tgt := 144) hx hb dMod_point_78 (by decide) (fun c_1 => ?_) (fun c_1 => ?_)
      · exact seg144 σ1 hO1 ht ha0 q th (by omega) hvR hvS H locs ls hW (lv_sub hl [0, 1, 2, 3, 4, 5] rfl)
      · exact absurd (le_np hn1.1 (by have := hn1.2; omega) hk rfl) c_1
    | succ k ih =>
      intro p1 q th hk hq hvR hvS H locs ls hW hl
      have hp1 : rg 0 19 (nI p1) := rg_nI0 (N := 19) (by have := hn1.2; omega) (by decide)
      refine lv_iload hx hb dMod_point_70 (lv_at hl 6 rfl) ?_
      refine lv_aload_n hx hb dMod_point_72 rfl (lv_at hl 0 rfl) ?_
      refine mg_a FMod_54 14 ⟨rfl, by decide⟩ hx hb hts hown hW dMod_point_73 ?_
      refine lv_iload_n hx hb dMod_point_76 rfl (lv_at hl 1 rfl) ?_
      refine m_il (j := 14) (v := ma σ1 14 t0.toNatClampNeg) ⟨by decide, rfl⟩ hx hb hW (rg.in ht (by decide) (by decide)) dMod_point_77 rfl ?_
      refine lv_icmp_ge (tgt := 144) hx hb dMod_point_78 (by decide) (fun c_1 => ?_) (fun c_1 => ?_)
      · exact absurd c_1 (le_np1 hn1.1 (by have := hn1.2; omega) hk)
      · refine lv_iload hx hb dMod_point_81 (lv_at hl 5 rfl) ?_
        refine lv_if_ne (tgt := 103) hx hb dMod_point_83 (by decide) (fun c_2 => ?_) (fun c_2 => ?_)
        · refine lv_iconst (v := (1 : Int32)) hx hb dMod_point_103 (by decide) ?_
          refine lv_goto (tgt := 108) hx hb dMod_point_104 (by decide) ?_
          refine lv_istore (lv' := [(6, .int (1 : Int32)), (0, .ref o), (1, .int t0), (2, .long o0), (4, .int a0), (5, .int (nI q)), (7, .int (nI p1))]) hx hb dMod_point_108 hl (by decide) rfl (fun ls hl => ?_)
          refine lv_aload_n hx hb dMod_point_110 rfl (lv_at hl 1 rfl) ?_
          refine mg_a FMod_57 15 ⟨rfl, by decide⟩ hx hb hts hown hW dMod_point_111 ?_
          refine lv_bipush (v := (20 : Int32)) hx hb dMod_point_114 (by decide) ?_
          refine lv_iload_n hx hb dMod_point_116 rfl (lv_at hl 2 rfl) ?_
          refine lv_imul hx hb dMod_point_117 ?_
          refine lv_iload hx hb dMod_point_118 (lv_at hl 6 rfl) ?_
          refine lv_iadd hx hb dMod_point_120 ?_
          refine m_ll (j := 15) (v := ml σ1 15 (((20 : Int32) * t0) + (nI p1)).toNatClampNeg) ⟨by decide, rfl⟩ hx hb hW (rg.in (rg.add (rg.m20 ht (by decide) (by decide)) hp1 (by decide) (by decide)) (by decide) (by decide)) dMod_point_121 rfl ?_
          refine lv_lload_n hx hb dMod_point_122 rfl (lv_at hl 3 rfl) ?_
          refine ll_ge (tgt := 134) hx hb dMod_point_123 dMod_point_124 (by decide) (fun c_3 => ?_) (fun c_3 => ?_)
          · refine lv_iload hx hb dMod_point_134 (lv_at hl 5 rfl) ?_
            refine lv_istore (lv' := [(5, .int (nI q)), (6, .int (1 : Int32)), (0, .ref o), (1, .int t0), (2, .long o0), (4, .int a0), (7, .int (nI p1))]) hx hb dMod_point_136 hl (by decide) rfl (fun ls hl => ?_)
            refine lv_iinc (v := ((nI p1) + (1 : Int32))) (lv' := [(7, .int ((nI p1) + (1 : Int32))), (5, .int (nI q)), (6, .int (1 : Int32)), (0, .ref o), (1, .int t0), (2, .long o0), (4, .int a0)]) hx hb dMod_point_138 hl (k := 6) rfl rfl (by decide) rfl (fun ls hl => ?_)
            refine lv_goto (tgt := 70) hx hb dMod_point_141 (by decide) ?_
            have e9 : ptQ σ1 t0 o0 (k + 1) p1 q th = ptQ σ1 t0 o0 k (p1 + 1) q (1 : Int32) := by show ptQ σ1 t0 o0 k (p1 + 1) (if ml σ1 15 (ofs t0 p1) < o0 then q + 1 else q) (if th = 0 then (if ml σ1 15 (ofs t0 p1) = o0 then 1 else 0) else 1) = _; rw [if_neg c_3, if_neg c_2]
            rw [e9] at hvR hvS
            exact ih (p1 + 1) q (1 : Int32) (by omega) (by omega) hvR hvS H locs ls hW (by rw [← nI_1 p1]; exact (lv_sub hl [3, 4, 5, 6, 1, 2, 0] rfl))
          · refine lv_iload hx hb dMod_point_127 (lv_at hl 5 rfl) ?_
            refine lv_iconst (v := (1 : Int32)) hx hb dMod_point_129 (by decide) ?_
            refine lv_iadd hx hb dMod_point_130 ?_
            refine lv_goto (tgt := 136) hx hb dMod_point_131 (by decide) ?_
            refine lv_istore (lv' := [(5, .int ((nI q) + (1 : Int32))), (6, .int (1 : Int32)), (0, .ref o), (1, .int t0), (2, .long o0), (4, .int a0), (7, .int (nI p1))]) hx hb dMod_point_136 hl (by decide) rfl (fun ls hl => ?_)
            refine lv_iinc (v := ((nI p1) + (1 : Int32))) (lv' := [(7, .int ((nI p1) + (1 : Int32))), (5, .int ((nI q) + (1 : Int32))), (6, .int (1 : Int32)), (0, .ref o), (1, .int t0), (2, .long o0), (4, .int a0)]) hx hb dMod_point_138 hl (k := 6) rfl rfl (by decide) rfl (fun ls hl => ?_)
            refine lv_goto (tgt := 70) hx hb dMod_point_141 (by decide) ?_
            have e9 : ptQ σ1 t0 o0 (k + 1) p1 q th = ptQ σ1 t0 o0 k (p1 + 1) (q + 1) (1 : Int32) := by show ptQ σ1 t0 o0 k (p1 + 1) (if ml σ1 15 (ofs t0 p1) < o0 then q + 1 else q) (if th = 0 then (if ml σ1 15 (ofs t0 p1) = o0 then 1 else 0) else 1) = _; rw [if_pos c_3, if_neg c_2]
            rw [e9] at hvR hvS
            exact ih (p1 + 1) (q + 1) (1 : Int32) (by omega) (by omega) hvR hvS H locs ls hW (by rw [← nI_1 p1, ← nI_1 q]; exact (lv_sub hl [3, 4, 5, 6, 1, 2, 0] rfl))
        · refine lv_aload_n hx hb dMod_point_86 rfl (lv_at hl 0 rfl) ?_
          refine mg_a FMod_57 15 ⟨rfl, by decide⟩ hx hb hts hown hW dMod_point_87 ?_
          refine lv_bipush (v := (20 : Int32)) hx hb dMod_point_90 (by decide) ?_
          refine lv_iload_n hx hb dMod_point_92 rfl (lv_at hl 1 rfl) ?_
          refine lv_imul hx hb dMod_point_93 ?_
          refine lv_iload hx hb dMod_point_94 (lv_at hl 6 rfl) ?_
          refine lv_iadd hx hb dMod_point_96 ?_
          refine m_ll (j := 15) (v := ml σ1 15 (((20 : Int32) * t0) + (nI p1)).toNatClampNeg) ⟨by decide, rfl⟩ hx hb hW (rg.in (rg.add (rg.m20 ht (by decide) (by decide)) hp1 (by decide) (by decide)) (by decide) (by decide)) dMod_point_97 rfl ?_
          refine lv_lload_n hx hb dMod_point_98 rfl (lv_at hl 2 rfl) ?_
          refine ll_ne (tgt := 107) hx hb dMod_point_99 dMod_point_100 (by decide) (fun c_4 => ?_) (fun c_4 => ?_)
          · refine lv_iconst (v := (0 : Int32)) hx hb dMod_point_107 (by decide) ?_
            refine lv_istore (lv' := [(6, .int (0 : Int32)), (0, .ref o), (1, .int t0), (2, .long o0), (4, .int a0), (5, .int (nI q)), (7, .int (nI p1))]) hx hb dMod_point_108 hl (by decide) rfl (fun ls hl => ?_)
            refine lv_aload_n hx hb dMod_point_110 rfl (lv_at hl 1 rfl) ?_
            refine mg_a FMod_57 15 ⟨rfl, by decide⟩ hx hb hts hown hW dMod_point_111 ?_
            refine lv_bipush (v := (20 : Int32)) hx hb dMod_point_114 (by decide) ?_
            refine lv_iload_n hx hb dMod_point_116 rfl (lv_at hl 2 rfl) ?_
            refine lv_imul hx hb dMod_point_117 ?_
            refine lv_iload hx hb dMod_point_118 (lv_at hl 6 rfl) ?_
            refine lv_iadd hx hb dMod_point_120 ?_
            refine m_ll (j := 15) (v := ml σ1 15 (((20 : Int32) * t0) + (nI p1)).toNatClampNeg) ⟨by decide, rfl⟩ hx hb hW (rg.in (rg.add (rg.m20 ht (by decide) (by decide)) hp1 (by decide) (by decide)) (by decide) (by decide)) dMod_point_121 rfl ?_
            refine lv_lload_n hx hb dMod_point_122 rfl (lv_at hl 3 rfl) ?_
            refine ll_ge (tgt := 134) hx hb dMod_point_123 dMod_point_124 (by decide) (fun c_5 => ?_) (fun c_5 => ?_)
            · refine lv_iload hx hb dMod_point_134 (lv_at hl 5 rfl) ?_
              refine lv_istore (lv' := [(5, .int (nI q)), (6, .int (0 : Int32)), (0, .ref o), (1, .int t0), (2, .long o0), (4, .int a0), (7, .int (nI p1))]) hx hb dMod_point_136 hl (by decide) rfl (fun ls hl => ?_)
              refine lv_iinc (v := ((nI p1) + (1 : Int32))) (lv' := [(7, .int ((nI p1) + (1 : Int32))), (5, .int (nI q)), (6, .int (0 : Int32)), (0, .ref o), (1, .int t0), (2, .long o0), (4, .int a0)]) hx hb dMod_point_138 hl (k := 6) rfl rfl (by decide) rfl (fun ls hl => ?_)
              refine lv_goto (tgt := 70) hx hb dMod_point_141 (by decide) ?_
              have e9 : ptQ σ1 t0 o0 (k + 1) p1 q th = ptQ σ1 t0 o0 k (p1 + 1) q (0 : Int32) := by show ptQ σ1 t0 o0 k (p1 + 1) (if ml σ1 15 (ofs t0 p1) < o0 then q + 1 else q) (if th = 0 then (if ml σ1 15 (ofs t0 p1) = o0 then 1 else 0) else 1) = _; rw [if_neg c_5, if_pos c_2, if_neg c_4]
              rw [e9] at hvR hvS
              exact ih (p1 + 1) q (0 : Int32) (by omega) (by omega) hvR hvS H locs ls hW (by rw [← nI_1 p1]; exact (lv_sub hl [3, 4, 5, 6, 1, 2, 0] rfl))
            · refine lv_iload hx hb dMod_point_127 (lv_at hl 5 rfl) ?_
              refine lv_iconst (v := (1 : Int32)) hx hb dMod_point_129 (by decide) ?_
              refine lv_iadd hx hb dMod_point_130 ?_
              refine lv_goto (tgt := 136) hx hb dMod_point_131 (by decide) ?_
              refine lv_istore (lv' := [(5, .int ((nI q) + (1 : Int32))), (6, .int (0 : Int32)), (0, .ref o), (1, .int t0), (2, .long o0), (4, .int a0), (7, .int (nI p1))]) hx hb dMod_point_136 hl (by decide) rfl (fun ls hl => ?_)
              refine lv_iinc (v := ((nI p1) + (1 : Int32))) (lv' := [(7, .int ((nI p1) + (1 : Int32))), (5, .int ((nI q) + (1 : Int32))), (6, .int (0 : Int32)), (0, .ref o), (1, .int t0), (2, .long o0), (4, .int a0)]) hx hb dMod_point_138 hl (k := 6) rfl rfl (by decide) rfl (fun ls hl => ?_)
              refine lv_goto (tgt := 70) hx hb dMod_point_141 (by decide) ?_
              have e9 : ptQ σ1 t0 o0 (k + 1) p1 q th = ptQ σ1 t0 o0 k (p1 + 1) (q + 1) (0 : Int32) := by show ptQ σ1 t0 o0 k (p1 + 1) (if ml σ1 15 (ofs t0 p1) < o0 then q + 1 else q) (if th = 0 then (if ml σ1 15 (ofs t0 p1) = o0 then 1 else 0) else 1) = _; rw [if_pos c_5, if_pos c_2, if_neg c_4]
              rw [e9] at hvR hvS
              exact ih (p1 + 1) (q + 1) (0 : Int32) (by omega) (by omega) hvR hvS H locs ls hW (by rw [← nI_1 p1, ← nI_1 q]; exact (lv_sub hl [3, 4, 5, 6, 1, 2, 0] rfl))
          · refine lv_iconst (v := (1 : Int32)) hx hb dMod_point_103 (by decide) ?_
            refine lv_goto (tgt := 108) hx hb dMod_point_104 (by decide) ?_
            refine lv_istore (lv' := [(6, .int (1 : Int32)), (0, .ref o), (1, .int t0), (2, .long o0), (4, .int a0), (5, .int (nI q)), (7, .int (nI p1))]) hx hb dMod_point_108 hl (by decide) rfl (fun ls hl => ?_)
            refine lv_aload_n hx hb dMod_point_110 rfl (lv_at hl 1 rfl) ?_
            refine mg_a FMod_57 15 ⟨rfl, by decide⟩ hx hb hts hown hW dMod_point_111 ?_
            refine lv_bipush (v := (20 : Int32)) hx hb dMod_point_114 (by decide) ?_
            refine lv_iload_n hx hb dMod_point_116 rfl (lv_at hl 2 rfl) ?_
            refine lv_imul hx hb dMod_point_117 ?_
            refine lv_iload hx hb dMod_point_118 (lv_at hl 6 rfl) ?_
            refine lv_iadd hx hb dMod_point_120 ?_
            refine m_ll (j := 15) (v := ml σ1 15 (((20 : Int32) * t0) + (nI p1)).toNatClampNeg) ⟨by decide, rfl⟩ hx hb hW (rg.in (rg.add (rg.m20 ht (by decide) (by decide)) hp1 (by decide) (by decide)) (by decide) (by decide)) dMod_point_121 rfl ?_
            refine lv_lload_n hx hb dMod_point_122 rfl (lv_at hl 3 rfl) ?_
            refine ll_ge (tgt := 134) hx hb dMod_point_123 dMod_point_124 (by decide) (fun c_6 => ?_) (fun c_6 => ?_)
            · refine lv_iload hx hb dMod_point_134 (lv_at hl 5 rfl) ?_
              refine lv_istore (lv' := [(5, .int (nI q)), (6, .int (1 : Int32)), (0, .ref o), (1, .int t0), (2, .long o0), (4, .int a0), (7, .int (nI p1))]) hx hb dMod_point_136 hl (by decide) rfl (fun ls hl => ?_)
              refine lv_iinc (v := ((nI p1) + (1 : Int32))) (lv' := [(7, .int ((nI p1) + (1 : Int32))), (5, .int (nI q)), (6, .int (1 : Int32)), (0, .ref o), (1, .int t0), (2, .long o0), (4, .int a0)]) hx hb dMod_point_138 hl (k := 6) rfl rfl (by decide) rfl (fun ls hl => ?_)
              refine lv_goto (tgt := 70) hx hb dMod_point_141 (by decide) ?_
              have e9 : ptQ σ1 t0 o0 (k + 1) p1 q th = ptQ σ1 t0 o0 k (p1 + 1) q (1 : Int32) := by show ptQ σ1 t0 o0 k (p1 + 1) (if ml σ1 15 (ofs t0 p1) < o0 then q + 1 else q) (if th = 0 then (if ml σ1 15 (ofs t0 p1) = o0 then 1 else 0) else 1) = _; rw [if_neg c_6, if_pos c_2, if_pos c_4]
              rw [e9] at hvR hvS
              exact ih (p1 + 1) q (1 : Int32) (by omega) (by omega) hvR hvS H locs ls hW (by rw [← nI_1 p1]; exact (lv_sub hl [3, 4, 5, 6, 1, 2, 0] rfl))
            · refine lv_iload hx hb dMod_point_127 (lv_at hl 5 rfl) ?_
              refine lv_iconst (v := (1 : Int32)) hx hb dMod_point_129 (by decide) ?_
              refine lv_iadd hx hb dMod_point_130 ?_
              refine lv_goto (tgt := 136) hx hb dMod_point_131 (by decide) ?_
              refine lv_istore (lv' := [(5, .int ((nI q) + (1 : Int32))), (6, .int (1 : Int32)), (0, .ref o), (1, .int t0), (2, .long o0), (4, .int a0), (7, .int (nI p1))]) hx hb dMod_point_136 hl (by decide) rfl (fun ls hl => ?_)
              refine lv_iinc (v := ((nI p1) + (1 : Int32))) (lv' := [(7, .int ((nI p1) + (1 : Int32))), (5, .int ((nI q) + (1 : Int32))), (6, .int (1 : Int32)), (0, .ref o), (1, .int t0), (2, .long o0), (4, .int a0)]) hx hb dMod_point_138 hl (k := 6) rfl rfl (by decide) rfl (fun ls hl => ?_)
              refine lv_goto (tgt := 70) hx hb dMod_point_141 (by decide) ?_
              have e9 : ptQ σ1 t0 o0 (k + 1) p1 q th = ptQ σ1 t0 o0 k (p1 + 1) (q + 1) (1 : Int32) := by show ptQ σ1 t0 o0 k (p1 + 1) (if ml σ1 15 (ofs t0 p1) < o0 then q + 1 else q) (if th = 0 then (if ml σ1 15 (ofs t0 p1) = o0 then 1 else 0) else 1) = _; rw [if_pos c_6, if_pos c_2, if_pos c_4]
              rw [e9] at hvR hvS
              exact ih (p1 + 1) (q + 1) (1 : Int32) (by omega) (by omega) hvR hvS H locs ls hW (by rw [← nI_1 p1, ← nI_1 q]; exact (lv_sub hl [3, 4, 5, 6, 1, 2, 0] rfl))
  refine lv_aload_n hx hb dMod_point_0 rfl (lv_at hl 0 rfl) ?_
  refine lv_iload_n hx hb dMod_point_1 rfl (lv_at hl 1 rfl) ?_
  refine k_Vi (K := 9) (As := [.int t0]) (rest := []) (c_MnoTable l D AC o z tt σ t0) CMod_128 ⟨by decide, by decide, _, rfl, rfl⟩ hx hb hml hown hts hW hsM_k hl.1 rfl rfl (Nat.le_of_ble_eq_true rfl) ⟨⟨Nat.le_of_ble_eq_true rfl, Nat.le_of_ble_eq_true rfl⟩, ⟨Nat.le_of_ble_eq_true rfl, Nat.le_of_ble_eq_true rfl⟩⟩ dMod_point_2 (fun r_1 S_1 H locs e_1 hW _ _ => ?_)
  obtain ⟨e1_1, e2_1⟩ := e_1
  rw [e2_1] at hW
  rw [e1_1]
  have hO_2 : mOk (MnoTable_S σ t0) := mOk_noTable hO
  refine lv_if_ne (tgt := 39) hx hb dMod_point_5 (by decide) (fun c_3 => ?_) (fun c_3 => ?_)
  · refine lv_iconst (v := (-1 : Int32)) hx hb dMod_point_39 (by decide) ?_
    exact e_i hsz hx hb hr hlk hW mono_hsM (Nat.le_refl _) (Nat.le_refl _) dMod_point_40 ⟨(Eq.symm (by refine (if_neg c_3).trans ?_; rfl)), congrArg (hsM o z tt) (Eq.symm (by refine (if_neg c_3).trans ?_; rfl))⟩
  · refine lv_iload hx hb dMod_point_8 (lv_at hl 3 rfl) ?_
    refine lv_aload_n hx hb dMod_point_10 rfl (lv_at hl 0 rfl) ?_
    refine mg_i (v := mi (MnoTable_S σ t0) 15) FMod_100 hx hb hts hown hW dMod_point_11 rfl ?_
    refine lv_icmp_gt (tgt := 39) hx hb dMod_point_14 (by decide) (fun c_4 => ?_) (fun c_4 => ?_)
    · refine lv_iconst (v := (-1 : Int32)) hx hb dMod_point_39 (by decide) ?_
      exact e_i hsz hx hb hr hlk hW mono_hsM (Nat.le_refl _) (Nat.le_refl _) dMod_point_40 ⟨(Eq.symm (by refine (if_pos c_3).trans ?_; refine (if_pos c_4).trans ?_; rfl)), congrArg (hsM o z tt) (Eq.symm (by refine (if_pos c_3).trans ?_; refine (if_pos c_4).trans ?_; rfl))⟩
    · refine lv_iload hx hb dMod_point_17 (lv_at hl 3 rfl) ?_
      refine lv_if_ge (tgt := 41) hx hb dMod_point_19 (by decide) (fun c_5 => ?_) (fun c_5 => ?_)
      · refine lv_lload_n hx hb dMod_point_41 rfl (lv_at hl 2 rfl) ?_
        refine lv_lconst (v := (0 : Int64)) hx hb dMod_point_42 (by decide) ?_
        refine ll_lt (tgt := 58) hx hb dMod_point_43 dMod_point_44 (by decide) (fun c_6 => ?_) (fun c_6 => ?_)
        · refine lv_bipush (v := (-2 : Int32)) hx hb dMod_point_58 (by decide) ?_
          exact e_i hsz hx hb hr hlk hW mono_hsM (Nat.le_refl _) (Nat.le_refl _) dMod_point_60 ⟨(Eq.symm (by refine (if_pos c_3).trans ?_; refine (if_neg c_4).trans ?_; refine (if_pos c_5).trans ?_; refine (if_pos c_6).trans ?_; rfl)), congrArg (hsM o z tt) (Eq.symm (by refine (if_pos c_3).trans ?_; refine (if_neg c_4).trans ?_; refine (if_pos c_5).trans ?_; refine (if_pos c_6).trans ?_; rfl))⟩
        · refine lv_lload_n hx hb dMod_point_47 rfl (lv_at hl 2 rfl) ?_
          refine lv_aload_n hx hb dMod_point_48 rfl (lv_at hl 0 rfl) ?_
          refine mg_a FMod_51 13 ⟨rfl, by decide⟩ hx hb hts hown hW dMod_point_49 ?_
          refine lv_iload_n hx hb dMod_point_52 rfl (lv_at hl 1 rfl) ?_
          refine m_ll (j := 13) (v := ml (MnoTable_S σ t0) 13 t0.toNatClampNeg) ⟨by decide, rfl⟩ hx hb hW (rg.in (MnoTable_rg hO c_3) (by decide) (by decide)) dMod_point_53 rfl ?_
          refine ll_le (tgt := 61) hx hb dMod_point_54 dMod_point_55 (by decide) (fun c_7 => ?_) (fun c_7 => ?_)
          · refine lv_iconst (v := (0 : Int32)) hx hb dMod_point_61 (by decide) ?_
            refine lv_istore (lv' := [(5, .int (0 : Int32)), (0, .ref o), (1, .int t0), (2, .long o0), (4, .int a0)]) hx hb dMod_point_62 hl (by decide) rfl (fun ls hl => ?_)
            refine lv_iconst (v := (0 : Int32)) hx hb dMod_point_64 (by decide) ?_
            refine lv_istore (lv' := [(6, .int (0 : Int32)), (5, .int (0 : Int32)), (0, .ref o), (1, .int t0), (2, .long o0), (4, .int a0)]) hx hb dMod_point_65 hl (by decide) rfl (fun ls hl => ?_)
            refine lv_iconst (v := (0 : Int32)) hx hb dMod_point_67 (by decide) ?_
            refine lv_istore (lv' := [(7, .int (0 : Int32)), (6, .int (0 : Int32)), (5, .int (0 : Int32)), (0, .ref o), (1, .int t0), (2, .long o0), (4, .int a0)]) hx hb dMod_point_68 hl (by decide) rfl (fun ls hl => ?_)
            exact loop1 (MnoTable_S σ t0) (mOk_noTable hO) (MnoTable_rg hO c_3) (rg_ac (mOk_noTable hO) c_4) (npt (MnoTable_S σ t0) t0) 0 0 0 (Nat.zero_add _) (Nat.le_refl _) (Eq.symm (by refine (if_pos c_3).trans ?_; refine (if_neg c_4).trans ?_; refine (if_pos c_5).trans ?_; refine (if_neg c_6).trans ?_; refine (if_neg c_7).trans ?_; rfl)) (Eq.symm (by refine (if_pos c_3).trans ?_; refine (if_neg c_4).trans ?_; refine (if_pos c_5).trans ?_; refine (if_neg c_6).trans ?_; refine (if_neg c_7).trans ?_; rfl)) H locs ls hW (lv_sub hl [3, 4, 5, 6, 2, 1, 0] rfl)
          · refine lv_bipush (v := (-2 : Int32)) hx hb dMod_point_58 (by decide) ?_
            exact e_i hsz hx hb hr hlk hW mono_hsM (Nat.le_refl _) (Nat.le_refl _) dMod_point_60 ⟨(Eq.symm (by refine (if_pos c_3).trans ?_; refine (if_neg c_4).trans ?_; refine (if_pos c_5).trans ?_; refine (if_neg c_6).trans ?_; refine (if_pos c_7).trans ?_; rfl)), congrArg (hsM o z tt) (Eq.symm (by refine (if_pos c_3).trans ?_; refine (if_neg c_4).trans ?_; refine (if_pos c_5).trans ?_; refine (if_neg c_6).trans ?_; refine (if_pos c_7).trans ?_; rfl))⟩
      · refine lv_iload hx hb dMod_point_22 (lv_at hl 3 rfl) ?_
        refine lv_bipush (v := (-100 : Int32)) hx hb dMod_point_24 (by decide) ?_
        refine lv_icmp_lt (tgt := 39) hx hb dMod_point_26 (by decide) (fun c_8 => ?_) (fun c_8 => ?_)
        · refine lv_iconst (v := (-1 : Int32)) hx hb dMod_point_39 (by decide) ?_
          exact e_i hsz hx hb hr hlk hW mono_hsM (Nat.le_refl _) (Nat.le_refl _) dMod_point_40 ⟨(Eq.symm (by refine (if_pos c_3).trans ?_; refine (if_neg c_4).trans ?_; refine (if_neg c_5).trans ?_; refine (if_pos c_8).trans ?_; rfl)), congrArg (hsM o z tt) (Eq.symm (by refine (if_pos c_3).trans ?_; refine (if_neg c_4).trans ?_; refine (if_neg c_5).trans ?_; refine (if_pos c_8).trans ?_; rfl))⟩
        · refine lv_aload_n hx hb dMod_point_29 rfl (lv_at hl 0 rfl) ?_
          refine lv_iload hx hb dMod_point_30 (lv_at hl 3 rfl) ?_
          refine lv_ineg hx hb dMod_point_32 ?_
          refine k_Vi (K := 9) (As := [.int (-a0)]) (rest := []) (c_MnoAlarm l D AC o z tt (MnoTable_S σ t0) (-a0)) CMod_117 ⟨by decide, by decide, _, rfl, rfl⟩ hx hb hml hown hts hW hsM_k hl.1 rfl rfl (Nat.le_of_ble_eq_true rfl) ⟨⟨Nat.le_of_ble_eq_true rfl, Nat.le_of_ble_eq_true rfl⟩, ⟨Nat.le_of_ble_eq_true rfl, Nat.le_of_ble_eq_true rfl⟩⟩ dMod_point_33 (fun r_9 S_9 H locs e_9 hW _ _ => ?_)
          obtain ⟨e1_9, e2_9⟩ := e_9
          rw [e2_9] at hW
          rw [e1_9]
          refine lv_if_eq (tgt := 41) hx hb dMod_point_36 (by decide) (fun c_10 => ?_) (fun c_10 => ?_)
          · refine lv_lload_n hx hb dMod_point_41 rfl (lv_at hl 2 rfl) ?_
            refine lv_lconst (v := (0 : Int64)) hx hb dMod_point_42 (by decide) ?_
            refine ll_lt (tgt := 58) hx hb dMod_point_43 dMod_point_44 (by decide) (fun c_11 => ?_) (fun c_11 => ?_)
            · refine lv_bipush (v := (-2 : Int32)) hx hb dMod_point_58 (by decide) ?_
              exact e_i hsz hx hb hr hlk hW mono_hsM (Nat.le_refl _) (Nat.le_refl _) dMod_point_60 ⟨(Eq.symm (by refine (if_pos c_3).trans ?_; refine (if_neg c_4).trans ?_; refine (if_neg c_5).trans ?_; refine (if_neg c_8).trans ?_; refine (if_pos c_10).trans ?_; refine (if_pos c_11).trans ?_; rfl)), congrArg (hsM o z tt) (Eq.symm (by refine (if_pos c_3).trans ?_; refine (if_neg c_4).trans ?_; refine (if_neg c_5).trans ?_; refine (if_neg c_8).trans ?_; refine (if_pos c_10).trans ?_; refine (if_pos c_11).trans ?_; rfl))⟩
            · refine lv_lload_n hx hb dMod_point_47 rfl (lv_at hl 2 rfl) ?_
              refine lv_aload_n hx hb dMod_point_48 rfl (lv_at hl 0 rfl) ?_
              refine mg_a FMod_51 13 ⟨rfl, by decide⟩ hx hb hts hown hW dMod_point_49 ?_
              refine lv_iload_n hx hb dMod_point_52 rfl (lv_at hl 1 rfl) ?_
              refine m_ll (j := 13) (v := ml (MnoTable_S σ t0) 13 t0.toNatClampNeg) ⟨by decide, rfl⟩ hx hb hW (rg.in (MnoTable_rg hO c_3) (by decide) (by decide)) dMod_point_53 rfl ?_
              refine ll_le (tgt := 61) hx hb dMod_point_54 dMod_point_55 (by decide) (fun c_12 => ?_) (fun c_12 => ?_)
              · refine lv_iconst (v := (0 : Int32)) hx hb dMod_point_61 (by decide) ?_
                refine lv_istore (lv' := [(5, .int (0 : Int32)), (0, .ref o), (1, .int t0), (2, .long o0), (4, .int a0)]) hx hb dMod_point_62 hl (by decide) rfl (fun ls hl => ?_)
                refine lv_iconst (v := (0 : Int32)) hx hb dMod_point_64 (by decide) ?_
                refine lv_istore (lv' := [(6, .int (0 : Int32)), (5, .int (0 : Int32)), (0, .ref o), (1, .int t0), (2, .long o0), (4, .int a0)]) hx hb dMod_point_65 hl (by decide) rfl (fun ls hl => ?_)
                refine lv_iconst (v := (0 : Int32)) hx hb dMod_point_67 (by decide) ?_
                refine lv_istore (lv' := [(7, .int (0 : Int32)), (6, .int (0 : Int32)), (5, .int (0 : Int32)), (0, .ref o), (1, .int t0), (2, .long o0), (4, .int a0)]) hx hb dMod_point_68 hl (by decide) rfl (fun ls hl => ?_)
                exact loop1 (MnoTable_S σ t0) (mOk_noTable hO) (MnoTable_rg hO c_3) (rg_ac (mOk_noTable hO) c_4) (npt (MnoTable_S σ t0) t0) 0 0 0 (Nat.zero_add _) (Nat.le_refl _) (Eq.symm (by refine (if_pos c_3).trans ?_; refine (if_neg c_4).trans ?_; refine (if_neg c_5).trans ?_; refine (if_neg c_8).trans ?_; refine (if_pos c_10).trans ?_; refine (if_neg c_11).trans ?_; refine (if_neg c_12).trans ?_; rfl)) (Eq.symm (by refine (if_pos c_3).trans ?_; refine (if_neg c_4).trans ?_; refine (if_neg c_5).trans ?_; refine (if_neg c_8).trans ?_; refine (if_pos c_10).trans ?_; refine (if_neg c_11).trans ?_; refine (if_neg c_12).trans ?_; rfl)) H locs ls hW (lv_sub hl [3, 4, 5, 6, 2, 1, 0] rfl)
              · refine lv_bipush (v := (-2 : Int32)) hx hb dMod_point_58 (by decide) ?_
                exact e_i hsz hx hb hr hlk hW mono_hsM (Nat.le_refl _) (Nat.le_refl _) dMod_point_60 ⟨(Eq.symm (by refine (if_pos c_3).trans ?_; refine (if_neg c_4).trans ?_; refine (if_neg c_5).trans ?_; refine (if_neg c_8).trans ?_; refine (if_pos c_10).trans ?_; refine (if_neg c_11).trans ?_; refine (if_pos c_12).trans ?_; rfl)), congrArg (hsM o z tt) (Eq.symm (by refine (if_pos c_3).trans ?_; refine (if_neg c_4).trans ?_; refine (if_neg c_5).trans ?_; refine (if_neg c_8).trans ?_; refine (if_pos c_10).trans ?_; refine (if_neg c_11).trans ?_; refine (if_pos c_12).trans ?_; rfl))⟩
          · refine lv_iconst (v := (-1 : Int32)) hx hb dMod_point_39 (by decide) ?_
            exact e_i hsz hx hb hr hlk hW mono_hsM (Nat.le_refl _) (Nat.le_refl _) dMod_point_40 ⟨(Eq.symm (by refine (if_pos c_3).trans ?_; refine (if_neg c_4).trans ?_; refine (if_neg c_5).trans ?_; refine (if_neg c_8).trans ?_; refine (if_neg c_10).trans ?_; rfl)), congrArg (hsM o z tt) (Eq.symm (by refine (if_pos c_3).trans ?_; refine (if_neg c_4).trans ?_; refine (if_neg c_5).trans ?_; refine (if_neg c_8).trans ?_; refine (if_neg c_10).trans ?_; rfl))⟩
