-- STORES OF TWO NEW OBJECTS
/-- two new objects, the second an act -/
theorem mk2_ok {S : HS} {K : Nat} {c0 a0 : Option Nat} (o1 : hOk S) (o2 : hlt S) (hK : aE K = 0) (hc : ∀ b, c0 = some b → kd S b = 3) (ha : ∀ b, a0 = some b → kd S b = 2) : hOk (mk2 S K c0 a0) := by
  have lt : ∀ b, kd S b ≠ 0 → b < hz S := fun b hb => o2 b (o1.1 b hb)
  have q1 : hOk (newQ S (hz S) K) := o1.newQ (fun q => Nat.lt_irrefl _ (o2 _ q)) hK rO_ne rT_ne rfl
  have f2 : hz S + 1 ∉ hL (newQ S (hz S) K) := fun q => by
    rcases List.mem_append.mp (show hz S + 1 ∈ hL S ++ [hz S] from q) with q | q
    · have := o2 _ q; omega
    · rw [List.mem_singleton] at q; omega
  have q2 : hOk (newQ (newQ S (hz S) K) (hz S + 1) 1) := q1.newQ f2 rfl rO_ne rT_ne rfl
  have e2 : ∀ b, kd S b ≠ 0 → kd (newQ (newQ S (hz S) K) (hz S + 1) 1) b = kd S b := fun b hb => by
    have := lt b hb
    exact (if_neg (show ¬ b = hz S + 1 by omega)).trans (if_neg (show ¬ b = hz S by omega))
  have q3 := q2.sfr 0 (hz S + 1) c0 (fun b hb => (e2 b (by rw [hc b hb]; decide)).trans (hc b hb))
  have q4 := q3.sfr 1 (hz S + 1) a0 (fun b hb => (e2 b (by rw [ha b hb]; decide)).trans (ha b hb))
  show hOk (sfr (sfr (newQ (newQ S (hz S) K) (hz S + 1) 1) 0 (hz S + 1) c0) 1 (hz S + 1) a0)
  exact q4
theorem nwA_ok {S : HS} {A x N own : Nat} {c0 a0 : Option Nat} (o1 : hOk S) (o2 : hlt S) (kA : kd S A = 15) (ko : kd S own = 3) (hc : ∀ b, c0 = some b → kd S b = 3) (ha : ∀ b, a0 = some b → kd S b = 2) : hOk (nwA S A x N own c0 a0) := by
  have lt : ∀ b, kd S b ≠ 0 → b < hz S := fun b hb => o2 b (o1.1 b hb)
  have q2 := mk2_ok (K := 2) o1 o2 rfl hc ha
  have l1 := lt A (by rw [kA]; decide)
  have l2 := lt own (by rw [ko]; decide)
  have eA : kd (mk2 S 2 c0 a0) A = 15 := by rw [mk2_kd, if_neg (by omega), if_neg (by omega)]; exact kA
  have eo : kd (mk2 S 2 c0 a0) own = 3 := by rw [mk2_kd, if_neg (by omega), if_neg (by omega)]; exact ko
  have eq1 : kd (mk2 S 2 c0 a0) (hz S + 1) = 1 := by rw [mk2_kd, if_pos rfl]
  have eq0 : kd (mk2 S 2 c0 a0) (hz S) = 2 := by rw [mk2_kd, if_neg (by omega), if_pos rfl]
  unfold nwA
  generalize mk2 S 2 c0 a0 = X at q2 eA eo eq1 eq0
  unfold Alarm_init_S
  have q3 := q2.sfi 0 (hz S) (nI (N + 1))
  have eA := kk_sfi (k := 0) (a := hz S) (v := nI (N + 1)) eA
  have eo := kk_sfi (k := 0) (a := hz S) (v := nI (N + 1)) eo
  have eq1 := kk_sfi (k := 0) (a := hz S) (v := nI (N + 1)) eq1
  have eq0 := kk_sfi (k := 0) (a := hz S) (v := nI (N + 1)) eq0
  generalize sfi X 0 (hz S) (nI (N + 1)) = X1 at q3 eA eo eq1 eq0
  have q4 := q3.sfr 2 (hz S) (some own) (fun b hb => by cases hb; exact eo)
  have eA := kk_sfr (k := 2) (a := hz S) (v := some own) eA
  have eq1 := kk_sfr (k := 2) (a := hz S) (v := some own) eq1
  have eq0 := kk_sfr (k := 2) (a := hz S) (v := some own) eq0
  generalize sfr X1 2 (hz S) (some own) = X2 at q4 eA eq1 eq0
  have q5 := q4.sfr 3 (hz S) (some (hz S + 1)) (fun b hb => by cases hb; exact eq1)
  have eA := kk_sfr (k := 3) (a := hz S) (v := some (hz S + 1)) eA
  have eq0 := kk_sfr (k := 3) (a := hz S) (v := some (hz S + 1)) eq0
  generalize sfr X2 3 (hz S) (some (hz S + 1)) = Z at q5 eA eq0
  have q6 : hOk (sar Z A N (some (hz S))) := by
    refine q5.sar _ _ _ (fun z hz' => ?_)
    cases hz'
    rw [eq0, eA]
    rfl
  exact q6.sfi 11 x _
