/-! What falls, how great it is; fractions in least terms. -/
section
variable {n m : Nat} {we g : Nat → Int} {c : Nat → Nat → Int}
theorem fall_le (hs : sepd n m we c) {k : Nat} (hk : k < m) {d d' : Int} {y y' u : Nat → Int} (hd : 0 < d) (hd' : 0 < d') (h : sol n m we c d y (bV m we g c)) (h' : sol n m (wo we k) c d' y' (bV m (wo we k) g c)) (hu : sol n m we c d u (c k)) :
    we k * (dt n (c k) y' - d' * g k) * (dt n (c k) y - d * g k) ≤ d' * sm m (fun l => we l * (dt n (c l) y - d * g l) * (- g l)) := by
  have e : ∀ i, i < n → d * y' i = d' * y i + we k * (dt n (c k) y' - d' * g k) * u i := by
    refine pd_uniq (Am_PD (T := Am m we c) hs (fun _ _ _ _ => rfl)) (fun i hi => ?_)
    have a1 := h' i hi
    rw [wo_Ax hk, wo_b hk] at a1
    have a2 := h i hi
    have a3 := hu i hi
    rw [sm_congr (g := fun j => d * (Am m we c i j * y' j)) (fun j _ => by grind), sm_mul]
    rw [sm_congr (f := fun j => Am m we c i j * (d' * y j + we k * (dt n (c k) y' - d' * g k) * u j)) (g := fun j => d' * (Am m we c i j * y j) + (we k * (dt n (c k) y' - d' * g k)) * (Am m we c i j * u j)) (fun j _ => by grind), sm_add, sm_mul, sm_mul, a2, a3]
    have a4 : sm n (fun j => Am m we c i j * y' j) = d' * (bV m we g c i - we k * c k i * g k) + we k * c k i * dt n (c k) y' := by omega
    rw [a4]
    grind
  have f : ∀ l, d * dt n (c l) y' = d' * dt n (c l) y + we k * (dt n (c k) y' - d' * g k) * dt n (c l) u := by
    intro l
    have : d * dt n (c l) y' = sm n (fun i => c l i * (d * y' i)) := by unfold dt; rw [← sm_mul]; exact sm_congr (fun i _ => by grind)
    rw [this, sm_congr (g := fun i => d' * (c l i * y i) + (we k * (dt n (c k) y' - d' * g k)) * (c l i * u i)) (fun i hi => by rw [e i hi]; grind), sm_add, sm_mul, sm_mul]
    rfl
  have q0 : 0 ≤ sm m (fun l => wo we k l * ((dt n (c l) y' - d' * g l) * (dt n (c l) y' - d' * g l))) := sm_nn (fun l hl => Int.mul_nonneg (by unfold wo; split; exact Int.le_refl _; exact hs.1 l hl) (sq_nn _))
  rw [off_sum h'] at q0
  have q1 : 0 ≤ sm m (fun l => wo we k l * (dt n (c l) y' - d' * g l) * (- g l)) := Int.nonneg_of_mul_nonneg_right q0 hd'
  have q2 : 0 ≤ d * sm m (fun l => wo we k l * (dt n (c l) y' - d' * g l) * (- g l)) := Int.mul_nonneg (Int.le_of_lt hd) q1
  have b1 : sm m (fun l => we l * dt n (c l) u * g l) = dt n (bV m we g c) u := by
    unfold dt bV
    rw [sm_congr (f := fun i => sm m (fun l => we l * c l i * g l) * u i) (g := fun i => sm m (fun l => we l * c l i * g l * u i)) (fun i _ => by rw [sm_mulr]), sm_swap]
    refine sm_congr (fun l _ => ?_)
    rw [show we l * sm n (fun i => c l i * u i) * g l = (we l * g l) * sm n (fun i => c l i * u i) by grind, ← sm_mul]
    exact sm_congr (fun i _ => by grind)
  have b2 : dt n (bV m we g c) u = dt n (c k) y := Int.eq_of_mul_eq_mul_left (by omega) (sol_sym h hu)
  have q3 : d * sm m (fun l => wo we k l * (dt n (c l) y' - d' * g l) * (- g l)) = d' * sm m (fun l => we l * (dt n (c l) y - d * g l) * (- g l)) - we k * (dt n (c k) y' - d' * g k) * (dt n (c k) y - d * g k) := by
    rw [← sm_mul, sm_congr (g := fun l => wo we k l * ((d' * (dt n (c l) y - d * g l) + we k * (dt n (c k) y' - d' * g k) * dt n (c l) u) * (- g l))) (fun l _ => by have := f l; grind), wo_sm hk]
    have s1 : sm m (fun l => we l * ((d' * (dt n (c l) y - d * g l) + we k * (dt n (c k) y' - d' * g k) * dt n (c l) u) * (- g l))) = d' * sm m (fun l => we l * (dt n (c l) y - d * g l) * (- g l)) - (we k * (dt n (c k) y' - d' * g k)) * sm m (fun l => we l * dt n (c l) u * g l) := by
      rw [← sm_mul, ← sm_mul, ← sm_sub]
      exact sm_congr (fun l _ => by grind)
    rw [s1, b1, b2]
    have := f k
    grind
  omega
end
/-! least terms -/
def rN (a : Int) (b : Nat) : Int := a / (Nat.gcd a.natAbs b : Nat)
def rD (a : Int) (b : Nat) : Nat := b / Nat.gcd a.natAbs b
theorem r_eq {a a' : Int} {b b' : Nat} (hb : 0 < b) (hb' : 0 < b') (h : a * b' = a' * b) : rN a b = rN a' b' ∧ rD a b = rD a' b' := by
  have hg : 0 < Nat.gcd a.natAbs b := Nat.gcd_pos_of_pos_right _ hb
  have hg' : 0 < Nat.gcd a'.natAbs b' := Nat.gcd_pos_of_pos_right _ hb'
  have hn : a.natAbs * b' = a'.natAbs * b := by
    have := congrArg Int.natAbs h
    rw [Int.natAbs_mul, Int.natAbs_mul, Int.natAbs_natCast, Int.natAbs_natCast] at this
    exact this
  -- b * gcd(a', b') = b' * gcd(a, b)
  have k1 : b * Nat.gcd a'.natAbs b' = b' * Nat.gcd a.natAbs b := by
    rw [← Nat.gcd_mul_left, ← Nat.gcd_mul_left, Nat.mul_comm b a'.natAbs, ← hn, Nat.mul_comm b' a.natAbs, Nat.mul_comm b b']
  have d1 := Nat.gcd_dvd_right a.natAbs b
  have d2 := Nat.gcd_dvd_right a'.natAbs b'
  have d3 : ((Nat.gcd a.natAbs b : Nat) : Int) ∣ a := Int.ofNat_dvd_left.mpr (Nat.gcd_dvd_left _ _)
  have d4 : ((Nat.gcd a'.natAbs b' : Nat) : Int) ∣ a' := Int.ofNat_dvd_left.mpr (Nat.gcd_dvd_left _ _)
  constructor
  · unfold rN
    obtain ⟨x, hx⟩ := d3
    obtain ⟨x', hx'⟩ := d4
    generalize hG : Nat.gcd a.natAbs b = G at *
    generalize hG' : Nat.gcd a'.natAbs b' = G' at *
    rw [hx, hx', Int.mul_ediv_cancel_left _ (by omega), Int.mul_ediv_cancel_left _ (by omega)]
    have h1 : (G : Int) * x * b' = G' * x' * b := by rw [← hx, ← hx']; exact h
    have h2 : (b : Int) * G' = b' * G := by exact_mod_cast k1
    have h3 : ((b' : Int) * G) * x = (b' * G) * x' := by
      calc ((b' : Int) * G) * x = (G : Int) * x * b' := by grind
        _ = G' * x' * b := h1
        _ = (b * G') * x' := by grind
        _ = (b' * G) * x' := by rw [h2]
    have hne : (b' : Int) * G ≠ 0 := by
      intro z
      rcases Int.mul_eq_zero.mp z with y | y <;> omega
    exact Int.eq_of_mul_eq_mul_left hne h3
  · unfold rD
    generalize hG : Nat.gcd a.natAbs b = G at *
    generalize hG' : Nat.gcd a'.natAbs b' = G' at *
    obtain ⟨x, hx⟩ := d1
    obtain ⟨x', hx'⟩ := d2
    rw [hx, hx', Nat.mul_div_cancel_left _ hg, Nat.mul_div_cancel_left _ hg']
    rw [hx, hx'] at k1
    have : (G * G') * x = (G * G') * x' := by grind
    exact Nat.eq_of_mul_eq_mul_left (Nat.mul_pos hg hg') this
theorem rD_pos {a : Int} {b : Nat} (hb : 0 < b) : 0 < rD a b := Nat.div_pos (Nat.le_of_dvd hb (Nat.gcd_dvd_right _ _)) (Nat.gcd_pos_of_pos_right _ hb)
theorem rD_le {a : Int} {b : Nat} : rD a b ≤ b := Nat.div_le_self _ _
theorem r_back {a : Int} {b : Nat} : rN a b * b = a * rD a b ∧ (rN a b).natAbs ≤ a.natAbs ∧ (0 ≤ a → 0 ≤ rN a b) := by
  have d1 := Nat.gcd_dvd_right a.natAbs b
  have d3 : ((Nat.gcd a.natAbs b : Nat) : Int) ∣ a := Int.ofNat_dvd_left.mpr (Nat.gcd_dvd_left _ _)
  unfold rN rD
  generalize hG : Nat.gcd a.natAbs b = G at *
  obtain ⟨x, hx⟩ := d1
  obtain ⟨y, hy⟩ := d3
  by_cases z : G = 0
  · subst z
    have a0 : a = 0 := by rw [hy]; simp
    have b0 : b = 0 := by rw [hx]; simp
    subst a0 b0
    simp
  · have e1 : (a / (G : Int)) = y := by rw [hy]; exact Int.mul_ediv_cancel_left _ (by omega)
    have e2 : b / G = x := by rw [hx]; exact Nat.mul_div_cancel_left _ (by omega)
    rw [e1, e2]
    refine ⟨by rw [hx, hy, Int.natCast_mul]; grind, ?_, fun h => ?_⟩
    · rw [hy, Int.natAbs_mul, Int.natAbs_natCast]
      exact Nat.le_mul_of_pos_left _ (by omega)
    · rw [hy] at h
      exact Int.nonneg_of_mul_nonneg_right h (by omega)
