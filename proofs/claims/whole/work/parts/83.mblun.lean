/-! The model's blunder. -/
theorem r_cmp {a c : Nat} {b e : Nat} (hb : 0 < b) (he : 0 < e) : ((rN (c : Int) e).toNat * rD (a : Int) b < (rN (a : Int) b).toNat * rD (c : Int) e ↔ c * b < a * e) := by
  have ga : 0 < Nat.gcd a b := Nat.gcd_pos_of_pos_right _ hb
  have gc : 0 < Nat.gcd c e := Nat.gcd_pos_of_pos_right _ he
  have f : ∀ a b : Nat, (rN (a : Int) b).toNat = a / Nat.gcd a b ∧ rD (a : Int) b = b / Nat.gcd a b := fun a b => by
    unfold rN rD
    rw [Int.natAbs_natCast]
    exact ⟨by rw [← Int.natCast_ediv, Int.toNat_natCast], rfl⟩
  rw [(f a b).1, (f a b).2, (f c e).1, (f c e).2]
  obtain ⟨x, hx⟩ := Nat.gcd_dvd_left a b
  obtain ⟨y, hy⟩ := Nat.gcd_dvd_right a b
  obtain ⟨z, hz⟩ := Nat.gcd_dvd_left c e
  obtain ⟨w, hw⟩ := Nat.gcd_dvd_right c e
  generalize Nat.gcd a b = G at *
  generalize Nat.gcd c e = H at *
  subst hx
  subst hy
  subst hz
  subst hw
  rw [Nat.mul_div_cancel_left _ ga, Nat.mul_div_cancel_left _ ga, Nat.mul_div_cancel_left _ gc, Nat.mul_div_cancel_left _ gc]
  have e1 : H * z * (G * y) = (G * H) * (z * y) := by grind
  have e2 : G * x * (H * w) = (G * H) * (x * w) := by grind
  rw [e1, e2]
  exact (Nat.mul_lt_mul_left (Nat.mul_pos ga gc)).symm
