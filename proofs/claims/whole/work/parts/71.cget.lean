/-! What the class asks of its balance. -/
abbrev iL (v : Int) : Int64 := Int64.ofInt v
theorem eI_of {x : Int64} {v : Int} {B : Nat} (h : eI x v B) : x = iL v := by rw [← h.1]; exact (Int64.ofInt_toInt x).symm
theorem iL_T {v : Int} {B : Nat} (h : v.natAbs ≤ B) (hB : B < 2 ^ 63) : (iL v).toInt = v := by
  rw [Int64.toInt_ofInt]
  show v.bmod (2 ^ 64) = v
  exact Int.bmod_eq_of_le (by omega) (by omega)
theorem iL_e {v : Int} {B : Nat} (h : v.natAbs ≤ B) (hB : B < 2 ^ 63) : eI (iL v) v B := ⟨iL_T h hB, h⟩
theorem iL_N {n : Nat} : iL (n : Int) = lN n := rfl
theorem iL_0 {v : Int} {B : Nat} (h : v.natAbs ≤ B) (hB : B < 2 ^ 63) : iL v = 0 ↔ v = 0 := by
  constructor
  · intro z
    have := iL_T h hB
    rw [z] at this
    have e : (0 : Int64).toInt = 0 := by decide
    omega
  · intro z; rw [z]; rfl
theorem iL_le {u v : Int} {B : Nat} (hu : u.natAbs ≤ B) (hv : v.natAbs ≤ B) (hB : B < 2 ^ 63) : iL u ≤ iL v ↔ u ≤ v := by
  rw [Int64.le_iff_toInt_le, iL_T hu hB, iL_T hv hB]
/-- mod 2^64 all is one -/
theorem iL_mul (u v : Int) : iL u * iL v = iL (u * v) := (Int64.ofInt_mul u v).symm
theorem iL_add (u v : Int) : iL u + iL v = iL (u + v) := (Int64.ofInt_add u v).symm
theorem iL_sub (u v : Int) : iL u - iL v = iL (u - v) := (Int64.ofInt_sub u v).symm
theorem iL_32 (a : Int32) : a.toInt64 = iL a.toInt := by
  apply Int64.toInt_inj.mp
  rw [Int32.toInt_toInt64]
  have h1 := Int32.toInt_lt a
  have h2 := Int32.le_toInt a
  exact (iL_T (B := 2147483648) (by omega) (by decide)).symm
def stl (r : Nat → Int32) (h : Hp) : Prop := VR r ∧ CN h 21 r ∧ tiOK r h ∧ balOK r h
noncomputable def dN (r : Nat → Int32) : Nat := (dd r).toNat
section
variable {d : Nat} {h : Hp} {Q : Option (Option Value) → Hp → Prop} {x y z t : Int32} {u w v rs : Int64} {k l p q : Nat} {r : Nat → Int32}
theorem dN_i (hV : VR r) : (dN r : Int) = dd r := by have := (dd_U hV).1; unfold dN; omega
theorem dN_b (hV : VR r) : 0 < dN r ∧ dN r ≤ 2226204 := by have := dd_U hV; have := dN_i hV; omega
theorem c_offAbove (hS : stl r h) (hl : l < rL r) : WP d 4 0 [some (.ref 12), some (.ref 21), some (.int (nI l))] [] h Q ↔ Q (some (some (.long (iL (offI r l))))) h := by
  obtain ⟨hV, hN, hT, hB⟩ := hS
  have h6 := hV.1.2
  have h11 := hV.2.1.2
  have hl11 : l < 11 := by omega
  have hVl := hV.2.2.2 l hl
  have hNl := hN.2.2.2.2.2 l hl
  have c0 := nI_cl (n := l) (by omega)
  have cA := nI_cl (n := rA r l) (by omega)
  have cB := nI_cl (n := rB r l) (by omega)
  simp only [S4_0, S4_1, S4_4, S4_5, S4_8, S4_9, S4_10, S4_11, S4_12, S4_15, S4_16, S4_19, S4_20, S4_21, S4_22, S4_23, S4_24, S4_27, S4_28, S4_29, S4_30, S4_31, S4_34, S4_35, S4_36, shp_12, RV_12_1, RV_12_2, RV_12_3, shp_21, RV_21_2, RV_21_5, RV_21_6, RV_21_7, RV_21_8, ok23 hl11, ok24 hl11, ok25 hl11, c0, hNl.1, hNl.2.1, hNl.2.2.1, hVl.1.1, hVl.2.1.1, ok20 (show rA r l < 6 by omega), ok20 (show rB r l < 6 by omega), cA, cB, hB.2.2.2.2 _ hVl.1.2, hB.2.2.2.2 _ hVl.2.1.2, hB.2.2.1, eI_of (off_eI hV hl)]
theorem c_inverse (hS : stl r h) (hp : p < rP r) (hq : q < rP r) : WP d 12 0 [some (.ref 12), some (.int (nI p)), some (.int (nI q))] [] h Q ↔ Q (some (some (.long (iL (inv r p q))))) h := by
  obtain ⟨hV, hN, hT, hB⟩ := hS
  have h6 := hV.1.2
  have h5 := wd_5 hV
  have c1 := nI_cl (n := p) (by omega)
  have c2 := nI_cl (n := q) (by omega)
  have e1 := hB.2.1 p (by omega)
  have e2 := hB.2.1 q (by omega)
  simp only [S12_0, S12_1, S12_4, S12_5, S12_6, S12_7, S12_10, S12_11, S12_14, S12_15, S12_16, S12_17, S12_20, S12_21, S12_24, S12_25, S12_28, S12_29, S12_32, S12_33, S12_34, S12_35, S12_36, S12_37, S12_40, S12_41, S12_42, S12_43, S12_44, shp_12, RV_12_1, RV_12_2, RV_12_3, ok13 (show p < 6 by omega), ok13 (show q < 6 by omega), c1, c2, e1, e2]
  by_cases hs : soug r p
  · have hlt := rowN_lt hs
    have hne : ¬ nI (rowN r p) = -1 := fun z => (rowV_ne hV).mp (by rw [rowV_y hs]; exact z) hs
    by_cases hs2 : soug r q
    · have hlt2 := rowN_lt hs2
      have hne2 : ¬ nI (rowN r q) = -1 := fun z => (rowV_ne hV).mp (by rw [rowV_y hs2]; exact z) hs2
      have e5 := hB.2.2.2.1 (rowN r p) (5 + rowN r q) (by omega) (by omega)
      unfold BV at e5
      have e6 : (TCf r).1 (rowN r p) (5 + rowN r q) = iL (inv r p q) := by
        unfold inv
        rw [dI_t ⟨hs, hs2⟩]
        exact (Int64.ofInt_toInt _).symm
      simp only [rowV_y hs, rowV_y hs2, if_neg hne, if_neg hne2, hne2, ne_eq, not_false_eq_true, if_true, ↓reduceIte, S12_0, S12_1, S12_4, S12_5, S12_6, S12_7, S12_10, S12_11, S12_14, S12_15, S12_16, S12_17, S12_20, S12_21, S12_24, S12_25, S12_28, S12_29, S12_32, S12_33, S12_34, S12_35, S12_36, S12_37, S12_40, S12_41, S12_42, S12_43, S12_44, shp_12, RV_12_1, RV_12_2, RV_12_3, ok13 (show p < 6 by omega), ok13 (show q < 6 by omega), c1, c2, e1, e2, ok14 (show rowN r p < 5 by omega), nI_cl (show rowN r p < 2147483648 by omega), RV14 _ (show rowN r p < 5 by omega), la_5, ok15 (show rowN r p < 5 by omega) (show 5 + rowN r q < 11 by omega), nI_cl (show 5 + rowN r q < 2147483648 by omega), e5, e6]
    · have e6 : inv r p q = 0 := by unfold inv; exact dI_f (fun z => hs2 z.2)
      simp only [rowV_y hs, rowV_n hs2, if_neg hne, if_true, ↓reduceIte, ne_eq, not_true_eq_false, if_false, S12_0, S12_1, S12_4, S12_5, S12_6, S12_7, S12_10, S12_11, S12_14, S12_15, S12_16, S12_17, S12_20, S12_21, S12_24, S12_25, S12_28, S12_29, S12_32, S12_33, S12_34, S12_35, S12_36, S12_37, S12_40, S12_41, S12_42, S12_43, S12_44, e6]
      rfl
  · have e6 : inv r p q = 0 := by unfold inv; exact dI_f (fun z => hs z.1)
    simp only [rowV_n hs, if_true, ↓reduceIte, S12_0, S12_1, S12_4, S12_5, S12_6, S12_7, S12_10, S12_11, S12_14, S12_15, S12_16, S12_17, S12_20, S12_21, S12_24, S12_25, S12_28, S12_29, S12_32, S12_33, S12_34, S12_35, S12_36, S12_37, S12_40, S12_41, S12_42, S12_43, S12_44, e6]
    rfl
theorem c_doubtAbove (hS : stl r h) (hp : p < rP r) (hq : q < rP r) : WP (d + 1) 11 0 [some (.ref 12), some (.int (nI p)), some (.int (nI q))] [] h Q ↔ Q (some (some (.long (iL (dbt r p q))))) h := by
  simp only [S11_0, S11_1, S11_2, S11_3, S11_6, S11_7, S11_8, S11_9, S11_12, S11_13, S11_16, S11_17, S11_18, S11_19, S11_22, S11_23, S11_24, shp_12, RV_12_1, RV_12_2, RV_12_3, c_inverse hS hp hp, c_inverse hS hq hq, c_inverse hS hp hq, kR_at]
  have e : iL (inv r p p) + iL (inv r q q) - 2 * iL (inv r p q) = iL (dbt r p q) := by
    rw [show (2 : Int64) = iL 2 from rfl, iL_mul, iL_add, iL_sub]
    rfl
  rw [e]
theorem c_weightedSquare (hS : stl r h) (hl : snd r l) : WP (d + 1) 13 0 [some (.ref 12), some (.ref 21), some (.int (nI l)), none, none] [] h Q ↔ Q (some (some (.long (iL (wE r l * (offI r l * offI r l)))))) h := by
  have hV := hS.1
  have h11 := hV.2.1.2
  have hl11 : l < 11 := by have := hl.1; omega
  have hNl := hS.2.1.2.2.2.2.2 l hl.1
  have c0 := nI_cl (n := l) (by omega)
  simp only [S13_0, S13_1, S13_2, S13_3, S13_6, S13_7, S13_8, S13_11, S13_12, S13_13, S13_14, S13_15, S13_16, S13_17, S13_18, shp_12, RV_12_1, RV_12_2, RV_12_3, shp_21, RV_21_2, RV_21_5, RV_21_6, RV_21_7, RV_21_8, c_offAbove hS hl.1, kR_at, ok26 hl11, c0, hNl.2.2.2, kl_none, kl_int]
  rw [iL_32, iL_mul, iL_mul, w_of hl, Int.mul_assoc]
theorem c_checkAbove (hS : stl r h) (hl : l < rL r) : WP (d + 2) 6 0 [some (.ref 12), some (.ref 21), some (.int (nI l))] [] h Q ↔ Q (some (some (.long (iL (chkI r l))))) h := by
  have hV := hS.1
  have h11 := hV.2.1.2
  have hl11 : l < 11 := by omega
  have hVl := hV.2.2.2 l hl
  have hNl := hS.2.1.2.2.2.2.2 l hl
  have c0 := nI_cl (n := l) (by omega)
  simp only [S6_0, S6_1, S6_4, S6_5, S6_8, S6_9, S6_10, S6_11, S6_12, S6_13, S6_16, S6_17, S6_18, S6_19, S6_22, S6_23, S6_24, S6_27, S6_28, S6_29, shp_12, RV_12_1, RV_12_2, RV_12_3, shp_21, RV_21_2, RV_21_5, RV_21_6, RV_21_7, RV_21_8, ok23 hl11, ok24 hl11, ok26 hl11, c0, hNl.1, hNl.2.1, hNl.2.2.2, hVl.1.1, hVl.2.1.1, c_doubtAbove hS hVl.1.2 hVl.2.1.2, kR_at, hS.2.2.2.2.2.1]
  rw [eI_of (d_eI hV), iL_32, iL_mul, iL_sub]
  rfl
end
