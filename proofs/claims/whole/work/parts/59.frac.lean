/-! Fractions: the class's, and how two are compared. -/
theorem halve {b m : Nat} (hm : 0 < m) (hmb : m ≤ b) : 2 * (b % m) < b := by
  have h1 := Nat.mod_lt b hm
  have h2 := Nat.div_add_mod b m
  have h3 : 1 ≤ b / m := (Nat.one_le_div_iff hm).mpr hmb
  have h4 : m ≤ m * (b / m) := Nat.le_mul_of_pos_right m h3
  omega
theorem lN_ne {b : Nat} (h : b ≠ 0) (hb : b < 2 ^ 63) : lN b ≠ 0 := fun z => h ((pk_lEQ (b := 0) hb (by decide)).mp z)
theorem lN_pos {b : Nat} (h : 0 < b) (hb : b < 2 ^ 63) : (0 : Int64) < lN b := (pk_lLT (a := 0) (by decide) hb).mpr h
theorem lt200 {n : Nat} (h : n < 200) : ¬ (200 : Int32) ≤ nI n := by
  have : ∀ n, n < 200 → ¬ (200 : Int32) ≤ nI n := by decide +kernel
  exact this n h
section
variable {d : Nat} {h : Hp} {Q : Option (Option Value) → Hp → Prop} {x y z t : Int32} {u w v rs : Int64} {k l p q : Nat} {r : Nat → Int32}
theorem c_absJ : WP d 202 0 [some (.long u), none] [] h Q ↔ Q (some (some (.long (if 0 ≤ u then u else -u)))) h := by
  simp only [S202_0, S202_1, S202_2, S202_3, S202_6, S202_7, S202_8, S202_11, S202_12, lg_cmp_ge]
  split <;> rfl
theorem c_absI : WP d 201 0 [some (.int x)] [] h Q ↔ Q (some (some (.int (if 0 ≤ x then x else -x)))) h := by
  simp only [S201_0, S201_1, S201_4, S201_5, S201_6, S201_9, S201_10]
  split <;> rfl
theorem abs_lN {A : Nat} (hA : u.toInt.natAbs = A) (hA2 : A < 2 ^ 63) : (if 0 ≤ u then u else -u) = lN A := by
  have hlit : (0 : Int64).toInt = 0 := by decide
  by_cases hp : 0 ≤ u
  · rw [if_pos hp]
    apply Int64.toInt_inj.mp
    rw [pk_lT hA2]
    rw [Int64.le_iff_toInt_le, hlit] at hp
    omega
  · rw [if_neg hp]
    apply Int64.toInt_inj.mp
    rw [pk_lT hA2, Int64.toInt_neg]
    rw [Int64.le_iff_toInt_le, hlit] at hp
    rw [Int.bmod_eq_of_le (by omega) (by omega)]
    omega
theorem c_div_exit {a i : Nat} {o0 o2 o9 : Option Value} (hi : i ≤ 200) : WP d 22 9 [o0, none, o2, none, some (.long (lN a)), none, some (.long (lN 0)), none, some (.int (nI i)), o9, none] [] h Q ↔ Q (some (some (.long (lN a)))) h := by
  rw [S22_9]
  simp only [S22_0, S22_1, S22_3, S22_4, S22_6, S22_7, S22_11, S22_14, S22_17, S22_19, S22_20, S22_21, S22_24, S22_26, S22_28, S22_29, S22_31, S22_33, S22_35, S22_37, S22_39, S22_42, S22_45, S22_47, lg_cmp_eq]
  by_cases h2 : i < 200
  · rw [if_neg (lt200 h2), if_pos (by decide)]
  · have : i = 200 := by omega
    subst this
    rw [if_pos (by decide)]
theorem c_div_step {a b i : Nat} {o0 o2 o9 : Option Value} (hi : i < 200) (ha : a < 2 ^ 63) (hb : 0 < b) (hb2 : b < 2 ^ 63) : WP d 22 9 [o0, none, o2, none, some (.long (lN a)), none, some (.long (lN b)), none, some (.int (nI i)), o9, none] [] h Q ↔ WP d 22 9 [o0, none, o2, none, some (.long (lN b)), none, some (.long (lN (a % b))), none, some (.int (nI (i + 1))), some (.long (lN (a % b))), none] [] h Q := by
  have hne := lN_ne (show b ≠ 0 by omega) hb2
  rw [S22_9]
  simp only [S22_0, S22_1, S22_3, S22_4, S22_6, S22_7, S22_11, S22_14, S22_17, S22_19, S22_20, S22_21, S22_24, S22_26, S22_28, S22_29, S22_31, S22_33, S22_35, S22_37, S22_39, S22_42, S22_45, S22_47, lg_cmp_eq, if_neg (lt200 hi), if_neg hne, hne, ne_eq, not_false_eq_true, pk_lRem ha hb hb2, kl_none, kl_int, nI_add1, if_false, ↓reduceIte]
theorem c_div_loop {o0 o2 : Option Value} : ∀ (k a b i : Nat) (o9 : Option Value), a < 2 ^ 63 → b < 2 ^ 63 → b < 2 ^ k → i + 2 * k ≤ 200 → (WP d 22 9 [o0, none, o2, none, some (.long (lN a)), none, some (.long (lN b)), none, some (.int (nI i)), o9, none] [] h Q ↔ Q (some (some (.long (lN (Nat.gcd a b))))) h) := by
  intro k
  induction k with
  | zero =>
    intro a b i o9 ha hb hk hi
    have : b = 0 := by omega
    subst this
    rw [c_div_exit (by omega), Nat.gcd_zero_right]
  | succ k ih =>
    intro a b i o9 ha hb hk hi
    by_cases h0 : b = 0
    · subst h0
      rw [c_div_exit (by omega), Nat.gcd_zero_right]
    · have hlt := Nat.mod_lt a (show 0 < b by omega)
      have eg : Nat.gcd b (a % b) = Nat.gcd a b := by rw [Nat.gcd_comm b, ← Nat.gcd_rec, Nat.gcd_comm]
      rw [c_div_step (by omega) ha (by omega) hb, ← eg]
      by_cases h1 : a % b = 0
      · rw [h1, c_div_exit (by omega), Nat.gcd_zero_right]
      · have hh := halve (b := b) (m := a % b) (by omega) (by omega)
        have e2 : Nat.gcd (a % b) (b % (a % b)) = Nat.gcd b (a % b) := by rw [Nat.gcd_comm (a % b), ← Nat.gcd_rec, Nat.gcd_comm]
        rw [c_div_step (by omega) hb (by omega) (by omega), ih _ _ _ _ (by omega) (by omega) (by rw [Nat.pow_succ] at hk; omega) (by omega), e2]
theorem c_divisor {a b : Nat} (ha : a < 2 ^ 63) (hb : b < 2 ^ 63) : WP d 22 0 [some (.long (lN a)), none, some (.long (lN b)), none, none, none, none, none, none, none, none] [] h Q ↔ Q (some (some (.long (lN (Nat.gcd a b))))) h := by
  simp only [S22_0, S22_1, S22_3, S22_4, S22_6, S22_7, S22_11, S22_14, S22_17, S22_19, S22_20, S22_21, S22_24, S22_26, S22_28, S22_29, S22_31, S22_33, S22_35, S22_37, S22_39, S22_42, S22_45, S22_47, kl_none]
  rw [nI_l0]
  exact c_div_loop 63 a b 0 none ha hb hb (by omega)
theorem c_half {A B : Nat} (hA : u.toInt.natAbs = A) (hA2 : A < 2 ^ 63) (hB : 0 < B) (hB2 : B < 2 ^ 63) : WP (d + 1) 19 0 [some (.long u), none, some (.long (lN B)), none, some (.int x)] [] h Q ↔ Q (some (some (.long (if x = 0 then u / lN (Nat.gcd A B) else lN B / lN (Nat.gcd A B))))) h := by
  have hg : 0 < Nat.gcd A B := Nat.gcd_pos_of_pos_right _ hB
  have hg2 : Nat.gcd A B ≤ B := Nat.gcd_le_right _ hB
  have hne := lN_ne (show Nat.gcd A B ≠ 0 by omega) (by omega)
  simp only [S19_0, S19_2, S19_5, S19_6, S19_9, S19_10, S19_11, S19_14, S19_15, S19_18, S19_21, c_absJ, abs_lN hA hA2, kR_at, c_divisor hA2 hB2, c_quotient, if_neg hne]
  split <;> rfl
theorem c_floorDiv (hw : w ≠ 0) : WP d 200 0 [some (.long u), none, some (.long w), none, none, none] [] h Q ↔ Q (some (some (.long (if 0 ≤ u ^^^ w then u / w else if u / w * w = u then u / w else u / w - 1)))) h := by
  simp only [S200_0, S200_1, S200_2, S200_3, S200_5, S200_6, S200_7, S200_8, S200_9, S200_10, S200_13, S200_15, S200_16, S200_17, S200_18, S200_19, S200_22, S200_24, S200_25, S200_26, S200_27, S200_29, hw, ne_eq, not_false_eq_true, lg_cmp_ge, lg_cmp_eq, kl_none]
  by_cases h1 : 0 ≤ u ^^^ w
  · simp only [if_pos h1]
  · simp only [if_neg h1]
    split <;> rfl
theorem c_floor (hw : w ≠ 0) : WP (d + 1) 21 0 [some (.long u), none, some (.long w), none] [] h Q ↔ Q (some (some (.long (if 0 ≤ u ^^^ w then u / w else if u / w * w = u then u / w else u / w - 1)))) h := by
  simp only [S21_0, S21_1, S21_2, S21_3, S21_6, S21_7, S21_10, S21_11, S21_12, S21_15, lg_cmp_eq, if_neg hw, c_floorDiv hw, kR_at]
/-! which of two is more: a by b above c by d -/
theorem cmp_fl {a b c e : Nat} (hb : 0 < b) (he : 0 < e) (h : a / b < c / e) : a * e < c * b := by
  have h1 := Nat.lt_mul_div_succ a hb
  have h2 := Nat.mul_div_le c e
  have h3 : b * (a / b + 1) * e ≤ b * (e * (c / e)) := by
    rw [Nat.mul_assoc]
    refine Nat.mul_le_mul_left b ?_
    rw [Nat.mul_comm e]
    exact Nat.mul_le_mul_right e h
  have h4 : a * e < b * (a / b + 1) * e := Nat.mul_lt_mul_of_pos_right h1 he
  have h5 : b * (e * (c / e)) ≤ b * c := Nat.mul_le_mul_left b h2
  rw [Nat.mul_comm c b]
  omega
theorem cmp_eq {a b c e : Nat} (h : a / b = c / e) : (c * b < a * e ↔ (c % e) * b < (a % b) * e) := by
  have h1 := Nat.div_add_mod a b
  have h2 := Nat.div_add_mod c e
  have e1 : a * e = b * (a / b) * e + a % b * e := by rw [← Nat.add_mul, h1]
  have e2 : c * b = b * (a / b) * e + c % e * b := by
    rw [show b * (a / b) * e = e * (c / e) * b by rw [h, Nat.mul_comm b, Nat.mul_comm e, Nat.mul_right_comm], ← Nat.add_mul, h2]
  rw [e1, e2]
  omega
theorem dvL {a b : Nat} (ha : a < 2 ^ 63) (hb : 0 < b) (hb2 : b < 2 ^ 63) : lN a / lN b = lN (a / b) := pk_lDiv ha hb hb2
theorem rmL {a b : Nat} (ha : a < 2 ^ 63) (hb : 0 < b) (hb2 : b < 2 ^ 63) : lN a - lN (a / b) * lN b = lN (a % b) := by
  rw [← dvL ha hb hb2, pk_lRem ha hb hb2]
theorem m_isMore : ∀ (k a b c e : Nat) (D : Nat), a < 2 ^ 63 → 0 < b → b < 2 ^ 63 → c < 2 ^ 63 → 0 < e → e < 2 ^ 63 → b < 2 ^ k → 2 * k ≤ D → ∀ Q : Option (Option Value) → Hp → Prop, (WP D 176 0 [some (.long (lN a)), none, some (.long (lN b)), none, some (.long (lN c)), none, some (.long (lN e)), none] [] h Q ↔ Q (some (some (.int (pb (c * b < a * e))))) h) := by
  intro k
  induction k with
  | zero => intro a b c e D _ hb _ _ _ _ hk _ _; omega
  | succ k ih =>
    have step : ∀ (a b c e : Nat) (D : Nat), a < 2 ^ 63 → 0 < b → b < 2 ^ 63 → c < 2 ^ 63 → 0 < e → e < 2 ^ 63 → (a / b = c / e → a % b ≠ 0 → c % e ≠ 0 → (∀ Q' : Option (Option Value) → Hp → Prop, WP D 176 0 [some (.long (lN e)), none, some (.long (lN (c % e))), none, some (.long (lN b)), none, some (.long (lN (a % b))), none] [] h Q' ↔ Q' (some (some (.int (pb (b * (c % e) < e * (a % b)))))) h)) → ∀ Q : Option (Option Value) → Hp → Prop, (WP (D + 1) 176 0 [some (.long (lN a)), none, some (.long (lN b)), none, some (.long (lN c)), none, some (.long (lN e)), none] [] h Q ↔ Q (some (some (.int (pb (c * b < a * e))))) h) := by
      intro a b c e D ha hb hb2 hc he he2 rec Q
      have nb := lN_ne (show b ≠ 0 by omega) hb2
      have ne := lN_ne (show e ≠ 0 by omega) he2
      have q1 := Nat.div_le_self a b
      have q2 := Nat.div_le_self c e
      have r1 := Nat.mod_lt a hb
      have r2 := Nat.mod_lt c he
      have z1 : (lN (a % b) = 0) ↔ a % b = 0 := pk_lEQ (b := 0) (by omega) (by decide)
      have z2 : (lN (c % e) = 0) ↔ c % e = 0 := pk_lEQ (b := 0) (by omega) (by decide)
      have z3 : (lN (a / b) = lN (c / e)) ↔ a / b = c / e := pk_lEQ (by omega) (by omega)
      have z4 : (lN (a / b) ≤ lN (c / e)) ↔ a / b ≤ c / e := pk_lLE (by omega) (by omega)
      rw [S176_0]
      simp only [S176_1, S176_2, S176_3, S176_5, S176_7, S176_8, S176_9, S176_12, S176_13, S176_14, S176_15, S176_17, S176_19, S176_20, S176_21, S176_24, S176_25, S176_28, S176_29, S176_30, S176_31, S176_32, S176_33, S176_34, S176_35, S176_38, S176_40, S176_42, S176_43, S176_44, S176_45, S176_48, S176_49, S176_50, S176_51, S176_52, S176_53, S176_56, S176_58, S176_60, S176_61, S176_62, S176_63, S176_66, S176_67, S176_70, S176_71, S176_72, S176_74, S176_76, S176_78, S176_79, S176_80, S176_81, S176_82, S176_83, S176_86, nb, ne, ne_eq, not_false_eq_true, rmL ha hb hb2, rmL hc he he2, dvL ha hb hb2, dvL hc he he2, lg_cmp_eq, lg_cmp_le, z1, z2, z3, z4, isB_0, isB_1]
      by_cases h1 : a / b = c / e
      · rw [if_pos h1, pb_congr (cmp_eq h1)]
        by_cases h2 : a % b = 0
        · rw [if_pos h2, if_pos h2, h2, pb_f (by simp)]
        · rw [if_neg h2]
          by_cases h3 : c % e = 0
          · rw [if_pos h3, if_neg h2, if_pos h3, h3, pb_t (by rw [Nat.zero_mul]; exact Nat.mul_pos (by omega) he)]
          · rw [if_neg h3, rec h1 h2 h3]
            simp only [kR_at, S176_1, S176_2, S176_3, S176_5, S176_7, S176_8, S176_9, S176_12, S176_13, S176_14, S176_15, S176_17, S176_19, S176_20, S176_21, S176_24, S176_25, S176_28, S176_29, S176_30, S176_31, S176_32, S176_33, S176_34, S176_35, S176_38, S176_40, S176_42, S176_43, S176_44, S176_45, S176_48, S176_49, S176_50, S176_51, S176_52, S176_53, S176_56, S176_58, S176_60, S176_61, S176_62, S176_63, S176_66, S176_67, S176_70, S176_71, S176_72, S176_74, S176_76, S176_78, S176_79, S176_80, S176_81, S176_82, S176_83, S176_86, isB_pb]
            rw [pb_congr (show b * (c % e) < e * (a % b) ↔ c % e * b < a % b * e by rw [Nat.mul_comm b, Nat.mul_comm e])]
      · rw [if_neg h1]
        by_cases h2 : a / b ≤ c / e
        · rw [if_pos h2, pb_f (by have := cmp_fl (a := a) (c := c) hb he (by omega); omega)]
        · rw [if_neg h2, pb_t (cmp_fl (a := c) (b := e) (c := a) (e := b) he hb (by omega))]
    intro a b c e D ha hb hb2 hc he he2 hk hD Q
    obtain ⟨D2, rfl⟩ : ∃ D2, D = D2 + 1 + 1 := ⟨D - 2, by omega⟩
    refine step a b c e (D2 + 1) ha hb hb2 hc he he2 (fun h1 h2 h3 Q' => ?_) Q
    have r1 := Nat.mod_lt a hb
    have r2 := Nat.mod_lt c he
    refine step e (c % e) b (a % b) D2 he2 (by omega) (by omega) hb2 (by omega) (by omega) (fun g1 g2 g3 Q'' => ?_) Q'
    have hh := halve (b := b) (m := a % b) (by omega) (by omega)
    have r3 := Nat.mod_lt e (show 0 < c % e by omega)
    have := ih (a % b) (b % (a % b)) (c % e) (e % (c % e)) D2 (by omega) (by omega) (by omega) (by omega) (by omega) (by omega) (by rw [Nat.pow_succ] at hk; omega) (by omega) Q''
    exact this
theorem c_greater_step {a b c e i : Nat} (hi : i < 200) (ha : a < 2 ^ 63) (hb : 0 < b) (hb2 : b < 2 ^ 63) (hc : c < 2 ^ 63) (he : 0 < e) (he2 : e < 2 ^ 63) {o9 o11 o13 o15 : Option Value}
    (rec : a / b = c / e → a % b ≠ 0 → c % e ≠ 0 → (WP d 23 3 [some (.long (lN e)), none, some (.long (lN (c % e))), none, some (.long (lN b)), none, some (.long (lN (a % b))), none, some (.int (nI (i + 1))), some (.long (lN (a / b))), none, some (.long (lN (c / e))), none, some (.long (lN (a % b))), none, some (.long (lN (c % e))), none] [] h Q ↔ Q (some (some (.int (pb (b * (c % e) < e * (a % b)))))) h)) :
    (WP d 23 3 [some (.long (lN a)), none, some (.long (lN b)), none, some (.long (lN c)), none, some (.long (lN e)), none, some (.int (nI i)), o9, none, o11, none, o13, none, o15, none] [] h Q ↔ Q (some (some (.int (pb (c * b < a * e))))) h) := by
  have nb := lN_ne (show b ≠ 0 by omega) hb2
  have ne := lN_ne (show e ≠ 0 by omega) he2
  have nb' : ¬ (lN b ≤ 0) := fun z => by have := (pk_lLE (b := 0) hb2 (by decide)).mp z; omega
  have ne' : ¬ (lN e ≤ 0) := fun z => by have := (pk_lLE (b := 0) he2 (by decide)).mp z; omega
  have q1 := Nat.div_le_self a b
  have q2 := Nat.div_le_self c e
  have r1 := Nat.mod_lt a hb
  have r2 := Nat.mod_lt c he
  have z1 : (lN (a % b) = 0) ↔ a % b = 0 := pk_lEQ (b := 0) (by omega) (by decide)
  have z2 : (lN (c % e) = 0) ↔ c % e = 0 := pk_lEQ (b := 0) (by omega) (by decide)
  have z3 : (lN (a / b) = lN (c / e)) ↔ a / b = c / e := pk_lEQ (by omega) (by omega)
  have z4 : (lN (a / b) ≤ lN (c / e)) ↔ a / b ≤ c / e := pk_lLE (by omega) (by omega)
  have z5 : (lN (a % b) ≤ lN (c % e)) ↔ a % b ≤ c % e := pk_lLE (by omega) (by omega)
  rw [S23_3]
  simp only [S23_0, S23_1, S23_5, S23_8, S23_11, S23_12, S23_13, S23_14, S23_17, S23_19, S23_20, S23_21, S23_24, S23_25, S23_26, S23_27, S23_29, S23_31, S23_33, S23_34, S23_36, S23_38, S23_40, S23_41, S23_44, S23_46, S23_48, S23_49, S23_52, S23_53, S23_56, S23_57, S23_58, S23_59, S23_61, S23_62, S23_63, S23_64, S23_66, S23_68, S23_70, S23_72, S23_73, S23_74, S23_76, S23_78, S23_79, S23_80, S23_83, S23_85, S23_86, S23_87, S23_90, S23_92, S23_94, S23_95, S23_98, S23_99, S23_102, S23_103, S23_104, S23_106, S23_107, S23_108, S23_110, S23_112, S23_113, S23_115, S23_117, S23_120, S23_123, S23_124, nb, ne, nb', ne', lt200 hi, ne_eq, not_false_eq_true, rmL ha hb hb2, rmL hc he he2, dvL ha hb hb2, dvL hc he he2, lg_cmp_eq, lg_cmp_le, z1, z2, z3, z4, z5, isB_0, isB_1, kl_none, kl_int, nI_add1, if_false, ↓reduceIte]
  by_cases h1 : a / b = c / e
  · rw [if_pos h1, pb_congr (cmp_eq h1)]
    by_cases h2 : a % b = 0
    · rw [if_pos h2, if_pos (by omega), h2, pb_f (by simp)]
    · rw [if_neg h2]
      by_cases h3 : c % e = 0
      · rw [if_pos h3, if_neg (by omega), h3, pb_t (by rw [Nat.zero_mul]; exact Nat.mul_pos (by omega) he)]
      · rw [if_neg h3, rec h1 h2 h3]
        rw [pb_congr (show b * (c % e) < e * (a % b) ↔ c % e * b < a % b * e by rw [Nat.mul_comm b, Nat.mul_comm e])]
  · rw [if_neg h1]
    by_cases h2 : a / b ≤ c / e
    · rw [if_pos h2, pb_f (by have := cmp_fl (a := a) (c := c) hb he (by omega); omega)]
    · rw [if_neg h2, pb_t (cmp_fl (a := c) (b := e) (c := a) (e := b) he hb (by omega))]
theorem c_greater_loop : ∀ (k a b c e i : Nat) {o9 o11 o13 o15 : Option Value}, a < 2 ^ 63 → 0 < b → b < 2 ^ 63 → c < 2 ^ 63 → 0 < e → e < 2 ^ 63 → b < 2 ^ k → i + 2 * k ≤ 200 → (WP d 23 3 [some (.long (lN a)), none, some (.long (lN b)), none, some (.long (lN c)), none, some (.long (lN e)), none, some (.int (nI i)), o9, none, o11, none, o13, none, o15, none] [] h Q ↔ Q (some (some (.int (pb (c * b < a * e))))) h) := by
  intro k
  induction k with
  | zero => intro a b c e i _ _ _ _ _ hb _ _ _ _ hk _; omega
  | succ k ih =>
    intro a b c e i _ _ _ _ ha hb hb2 hc he he2 hk hi
    refine c_greater_step (by omega) ha hb hb2 hc he he2 (fun h1 h2 h3 => ?_)
    have r1 := Nat.mod_lt a hb
    have r2 := Nat.mod_lt c he
    refine c_greater_step (by omega) he2 (by omega) (by omega) hb2 (by omega) (by omega) (fun g1 g2 g3 => ?_)
    have hh := halve (b := b) (m := a % b) (by omega) (by omega)
    have r3 := Nat.mod_lt e (show 0 < c % e by omega)
    exact ih (a % b) (b % (a % b)) (c % e) (e % (c % e)) (i + 1 + 1) (by omega) (by omega) (by omega) (by omega) (by omega) (by omega) (by rw [Nat.pow_succ] at hk; omega) (by omega)
theorem c_isGreater {a b c e : Nat} (ha : a < 2 ^ 63) (hb : 0 < b) (hb2 : b < 2 ^ 63) (hc : c < 2 ^ 63) (he : 0 < e) (he2 : e < 2 ^ 63) : WP d 23 0 [some (.long (lN a)), none, some (.long (lN b)), none, some (.long (lN c)), none, some (.long (lN e)), none, none, none, none, none, none, none, none, none, none] [] h Q ↔ Q (some (some (.int (pb (c * b < a * e))))) h := by
  simp only [S23_0, S23_1, S23_5, S23_8, S23_11, S23_12, S23_13, S23_14, S23_17, S23_19, S23_20, S23_21, S23_24, S23_25, S23_26, S23_27, S23_29, S23_31, S23_33, S23_34, S23_36, S23_38, S23_40, S23_41, S23_44, S23_46, S23_48, S23_49, S23_52, S23_53, S23_56, S23_57, S23_58, S23_59, S23_61, S23_62, S23_63, S23_64, S23_66, S23_68, S23_70, S23_72, S23_73, S23_74, S23_76, S23_78, S23_79, S23_80, S23_83, S23_85, S23_86, S23_87, S23_90, S23_92, S23_94, S23_95, S23_98, S23_99, S23_102, S23_103, S23_104, S23_106, S23_107, S23_108, S23_110, S23_112, S23_113, S23_115, S23_117, S23_120, S23_123, S23_124, kl_none]
  rw [nI_l0]
  exact c_greater_loop 63 a b c e 0 ha hb hb2 hc he he2 hb2 (by omega)
end
