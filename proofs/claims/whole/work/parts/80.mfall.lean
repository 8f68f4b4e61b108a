/-! The model's wanted and fall. -/
section
variable {d : Nat} {h : Hp} {Q : Option (Option Value) → Hp → Prop} {x y z t : Int32} {u w v rs : Int64} {k l p q : Nat} {r : Nat → Int32}
theorem m_isBridgeX (hr : h.1 95 = r) (hV : VR r) (hl : l < rL r) : WP (d + 4) 143 0 [some (.ref 93), some (.int (nI l))] [] h Q ↔ Q (some (some (.int (pb (brg r l))))) h := by
  subst hr
  exact m_isBridge hV hl
/-- off by what it would be off, in least terms of least terms -/
theorem fall_r (hV : VR r) (hl : snd r l) (hb : ¬ brg r l) {V2 : Int} {B2 : Nat} (e1 : V2 = rN (wanI r l) (dN (strk r l)) - (r (36 + l)).toInt * (rD (wanI r l) (dN (strk r l)) : Nat)) (e2 : B2 = rD (wanI r l) (dN (strk r l))) :
    V2.natAbs < 2 ^ 63 ∧ 0 < B2 ∧ B2 ≤ 2226204 ∧ ((r (47 + l)).toInt * rN (offI r l) (dN r) * rN V2 B2).natAbs < 2 ^ 63 ∧ 0 < rD (offI r l) (dN r) * rD V2 B2 ∧ rD (offI r l) (dN r) * rD V2 B2 < 2 ^ 63 ∧
    rN ((r (47 + l)).toInt * rN (offI r l) (dN r) * rN V2 B2) (rD (offI r l) (dN r) * rD V2 B2) = rN (fA r l) (fB r l) ∧ rD ((r (47 + l)).toInt * rN (offI r l) (dN r) * rN V2 B2) (rD (offI r l) (dN r) * rD V2 B2) = rD (fA r l) (fB r l) := by
  have hV' := strk_V (k := l) hV
  have hd := dN_b hV
  have hdi := dN_i hV
  have hd' := dN_b hV'
  have hdi' := dN_i hV'
  have hc := chk_nb hV hl hb
  have hw := wan_b (l := l) hV
  have hri := (s_eI hV hl.1).2
  have w1 := r_back (a := wanI r l) (b := dN (strk r l))
  have wp : 0 < rD (wanI r l) (dN (strk r l)) := rD_pos hd'.1
  have wl : rD (wanI r l) (dN (strk r l)) ≤ dN (strk r l) := rD_le
  have o1 := r_back (a := offI r l) (b := dN r)
  have op : 0 < rD (offI r l) (dN r) := rD_pos hd.1
  have ol : rD (offI r l) (dN r) ≤ dN r := rD_le
  have hB2 : 0 < B2 := by omega
  have v1 := r_back (a := V2) (b := B2)
  have vp : 0 < rD V2 B2 := rD_pos hB2
  have vl : rD V2 B2 ≤ B2 := rD_le
  have hm : ((r (36 + l)).toInt * (rD (wanI r l) (dN (strk r l)) : Nat)).natAbs ≤ 99 * 2226204 := by
    rw [Int.natAbs_mul]
    exact Nat.mul_le_mul hri (by omega)
  -- V2 by B2 is out by d'
  have q1 : V2 * (dN (strk r l) : Int) = outI r l * B2 := by
    unfold outI
    rw [e1, e2, ← hdi']
    have := w1.1
    grind
  have q2 : rN V2 B2 * (dN (strk r l) : Int) = outI r l * rD V2 B2 := by
    have h1 := v1.1
    apply Int.eq_of_mul_eq_mul_left (a := (B2 : Int)) (by omega)
    calc (B2 : Int) * (rN V2 B2 * (dN (strk r l) : Int)) = (rN V2 B2 * B2) * (dN (strk r l) : Int) := by grind
      _ = (V2 * rD V2 B2) * (dN (strk r l) : Int) := by rw [h1]
      _ = (V2 * (dN (strk r l) : Int)) * rD V2 B2 := by grind
      _ = (outI r l * B2) * rD V2 B2 := by rw [q1]
      _ = _ := by grind
  have q3 : (rN V2 B2).natAbs ≤ (outI r l).natAbs := by
    have := congrArg Int.natAbs q2
    rw [Int.natAbs_mul, Int.natAbs_mul, Int.natAbs_natCast, Int.natAbs_natCast] at this
    have h1 : (outI r l).natAbs * rD V2 B2 ≤ (outI r l).natAbs * dN (strk r l) := Nat.mul_le_mul_left _ (by omega)
    have h2 : (rN V2 B2).natAbs * dN (strk r l) ≤ (outI r l).natAbs * dN (strk r l) := by omega
    exact Nat.le_of_mul_le_mul_right h2 hd'.1
  have ob := out_b hV hl hb
  rw [w_of hl] at ob
  have nb : ((r (47 + l)).toInt * rN (offI r l) (dN r) * rN V2 B2).natAbs < 2 ^ 63 := by
    rw [Int.natAbs_mul, Int.natAbs_mul]
    have h1 : (r (47 + l)).toInt.natAbs * (rN (offI r l) (dN r)).natAbs * (rN V2 B2).natAbs ≤ (r (47 + l)).toInt.natAbs * (offI r l).natAbs * (outI r l).natAbs := Nat.mul_le_mul (Nat.mul_le_mul_left _ o1.2.1) q3
    have h2 : (r (47 + l)).toInt.natAbs * (offI r l).natAbs * (outI r l).natAbs = ((r (47 + l)).toInt * outI r l * offI r l).natAbs := by
      rw [Int.natAbs_mul, Int.natAbs_mul, Nat.mul_right_comm]
    omega
  have dp : 0 < rD (offI r l) (dN r) * rD V2 B2 := Nat.mul_pos op vp
  have dl : rD (offI r l) (dN r) * rD V2 B2 ≤ 2226204 * 2226204 := Nat.mul_le_mul (by omega) (by omega)
  have key := r_eq (a := (r (47 + l)).toInt * rN (offI r l) (dN r) * rN V2 B2) (a' := (fA r l : Int)) (b := rD (offI r l) (dN r) * rD V2 B2) (b' := fB r l) dp (fB_b hV hl).1 (by
    rw [fA_n hV hl hb, fB_n hV hl hb, w_of hl, Int.natCast_mul]
    have h1 := out_off hV hl hb
    rw [← hdi'] at h1
    rw [← hdi]
    have ho := o1.1
    apply Int.eq_of_mul_eq_mul_left (a := (dN (strk r l) : Int)) (by omega)
    calc (dN (strk r l) : Int) * ((r (47 + l)).toInt * rN (offI r l) (dN r) * rN V2 B2 * (chkI r l * dN r))
        = (r (47 + l)).toInt * (rN (offI r l) (dN r) * dN r) * (rN V2 B2 * (dN (strk r l) : Int)) * chkI r l := by grind
      _ = (r (47 + l)).toInt * (offI r l * rD (offI r l) (dN r)) * (outI r l * rD V2 B2) * chkI r l := by rw [ho, q2]
      _ = (r (47 + l)).toInt * offI r l * (rD (offI r l) (dN r) * rD V2 B2) * (outI r l * chkI r l) := by grind
      _ = (r (47 + l)).toInt * offI r l * (rD (offI r l) (dN r) * rD V2 B2) * ((dN (strk r l) : Int) * offI r l) := by rw [h1]
      _ = _ := by grind)
  exact ⟨by omega, hB2, by omega, nb, dp, by omega, key.1, key.2⟩
end
