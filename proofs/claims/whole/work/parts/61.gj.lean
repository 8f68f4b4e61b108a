/-! Elimination of whole rows, exact. -/
def BX (n : Nat) (T : Mx) : Mx := fun i j => if i < n then T i j else if j + n = i then -1 else 0
theorem BX_lt {n i j : Nat} {T : Mx} (h : i < n) : BX n T i j = T i j := by unfold BX; rw [if_pos h]
theorem det_BX {n t : Nat} {T : Mx} (h : t ≤ n) : det t (BX n T) = det t T := det_congr (fun x y hx hy => BX_lt (by omega))
def GI (n : Nat) (T : Mx) (k i j : Nat) : Int := if j < k then (if i = j then det k T else 0) else if i < k then DK k (BX n T) (n + i) j else DK k (BX n T) i j
section
variable {n k i j : Nat} {T : Mx}
theorem GI_0 (hi : i < n) : GI n T 0 i j = T i j := by
  unfold GI
  rw [if_neg (by omega), if_neg (by omega), DK_0, BX_lt hi]
theorem GI_kk (hk : k < n) : GI n T k k k = det (k + 1) T := by
  unfold GI
  rw [if_neg (by omega), if_neg (by omega), DK_kk, det_BX (by omega)]
theorem GI_lo (hj : j < k) : GI n T k i j = if i = j then det k T else 0 := by
  unfold GI
  rw [if_pos hj]
theorem GI_v (hj : k ≤ j) (hi : i < k) : GI n T k i j = DK k (BX n T) (n + i) j := by
  unfold GI
  rw [if_neg (by omega), if_pos hi]
theorem GI_r (hj : k ≤ j) (hi : k ≤ i) : GI n T k i j = DK k (BX n T) i j := by
  unfold GI
  rw [if_neg (by omega), if_neg (by omega)]
theorem GI_row (hk : k < n) (hd : ∀ t, t ≤ k → det t T ≠ 0) : GI n T (k + 1) k j = GI n T k k j := by
  by_cases h1 : j < k
  · rw [GI_lo h1, GI_lo (show j < k + 1 by omega), if_neg (by omega), if_neg (by omega)]
  · by_cases h2 : j = k
    · subst h2
      rw [GI_kk hk, GI_lo (by omega), if_pos rfl]
    · have hB : ∀ t, t ≤ k → det t (BX n T) ≠ 0 := fun t ht => by rw [det_BX (by omega)]; exact hd t ht
      have e := bareiss k (B := BX n T) (i := n + k) (j := j) hB (by omega) (by omega)
      have r1 : ∀ y, y < k → BX n T (n + k) y = 0 := fun y hy => by unfold BX; rw [if_neg (by omega), if_neg (by omega)]
      rw [DK_last (i := n + k) (j := j) r1, DK_last (i := n + k) (j := k) r1] at e
      have b1 : BX n T (n + k) j = 0 := by unfold BX; rw [if_neg (by omega), if_neg (by omega)]
      have b2 : BX n T (n + k) k = -1 := by unfold BX; rw [if_neg (by omega), if_pos (by omega)]
      rw [b1, b2] at e
      unfold GI
      rw [if_neg (by omega), if_pos (by omega), if_neg (by omega), if_neg (by omega)]
      apply Int.eq_of_mul_eq_mul_left (hB k (Nat.le_refl _))
      rw [← e]
      grind
theorem GI_step (hk : k < n) (hi : i < n) (hik : i ≠ k) (hd : ∀ t, t ≤ k → det t T ≠ 0) : GI n T k k k * GI n T k i j - GI n T k i k * GI n T k k j = det k T * GI n T (k + 1) i j := by
  have hB : ∀ t, t ≤ k → det t (BX n T) ≠ 0 := fun t ht => by rw [det_BX (by omega)]; exact hd t ht
  by_cases h1 : j < k
  · rw [GI_kk hk, GI_lo h1, GI_lo h1, GI_lo (show j < k + 1 by omega), if_neg (show ¬ k = j by omega)]
    split <;> grind
  · by_cases h2 : j = k
    · subst h2
      rw [GI_lo (show j < j + 1 by omega), if_neg hik]
      grind
    · rw [← det_BX (show k ≤ n by omega)]
      rw [GI_r (k := k) (i := k) (j := k) (by omega) (by omega), GI_r (k := k) (i := k) (j := j) (by omega) (by omega)]
      by_cases h3 : i < k
      · rw [GI_v (k := k) (j := j) (by omega) h3, GI_v (k := k) (j := k) (by omega) h3, GI_v (k := k + 1) (by omega) (by omega)]
        exact bareiss k hB (by omega) (by omega)
      · rw [GI_r (k := k) (j := j) (by omega) (by omega), GI_r (k := k) (i := i) (j := k) (by omega) (by omega), GI_r (k := k + 1) (by omega) (by omega)]
        exact bareiss k hB (by omega) (by omega)
end
/-! the same in 64 bits -/
theorem i64_ex {a b c e pv : Int64} {P X : Int} (hp : pv.toInt = P) (h0 : P ≠ 0) (hb : (P * X).natAbs < 2 ^ 63) (he : a.toInt * b.toInt - c.toInt * e.toInt = P * X) : ((a * b - c * e) / pv).toInt = X := by
  have e1 : (a * b - c * e).toInt = P * X := by
    rw [Int64.toInt_sub, Int64.toInt_mul, Int64.toInt_mul, Int.bmod_sub_bmod, Int.sub_bmod_bmod, he]
    exact Int.bmod_eq_of_le (by omega) (by omega)
  have hX : X.natAbs ≤ (P * X).natAbs := by
    rw [Int.natAbs_mul]
    exact Nat.le_mul_of_pos_left _ (by omega)
  rw [Int64.toInt_div, e1, hp, Int.mul_tdiv_cancel_left _ h0]
  exact Int.bmod_eq_of_le (by omega) (by omega)
def ti (T : Nat → Nat → Int64) : Mx := fun i j => (T i j).toInt
theorem gj_exact {n c : Nat} {T : Nat → Nat → Int64} (hc : n ≤ c) : ∀ k, k ≤ n → (∀ t, t < k → det t (ti T) ≠ 0) → (∀ t, t < k → ∀ i j, i < n → j < c → (det t (ti T) * GI n (ti T) (t + 1) i j).natAbs < 2 ^ 63) →
    (gjT n T k).2.toInt = det k (ti T) ∧ ∀ i j, i < n → j < c → ((gjT n T k).1 i j).toInt = GI n (ti T) k i j := by
  intro k
  induction k with
  | zero =>
    intro _ _ _
    refine ⟨show (1 : Int64).toInt = (1 : Int) by decide, fun i j hi hj => ?_⟩
    rw [GI_0 hi]
    rfl
  | succ k ih =>
    intro hk hd hb
    obtain ⟨i1, i2⟩ := ih (by omega) (fun t ht => hd t (by omega)) (fun t ht => hb t (by omega))
    have hd' : ∀ t, t ≤ k → det t (ti T) ≠ 0 := fun t ht => hd t (by omega)
    refine ⟨?_, fun i j hi hj => ?_⟩
    · show ((gjT n T k).1 k k).toInt = _
      rw [i2 k k (by omega) (by omega), GI_kk (by omega)]
    · show (gjS n k (gjT n T k).2 (gjT n T k).1 i j).toInt = _
      unfold gjS
      by_cases e : i = k
      · subst e
        rw [if_neg (fun z => z.2 rfl), i2 i j hi hj, GI_row hi hd']
      · rw [if_pos ⟨hi, e⟩]
        refine i64_ex i1 (hd' k (Nat.le_refl _)) (hb k (by omega) i j hi hj) ?_
        rw [i2 k k (by omega) (by omega), i2 i j hi hj, i2 i k hi (by omega), i2 k j (by omega) hj]
        exact GI_step (by omega) hi e hd'
