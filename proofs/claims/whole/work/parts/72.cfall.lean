/-! The class's falls, sum, blunder; halves. -/
noncomputable def fA (r : Nat → Int32) (l : Nat) : Nat := (dI (¬ brg r l) (wE r l * (offI r l * offI r l))).toNat
noncomputable def fB (r : Nat → Int32) (l : Nat) : Nat := (dI (¬ brg r l) (chkI r l * dd r) + dI (brg r l) 1).toNat
noncomputable def gf (r : Nat → Int32) : Nat → Int32 × Nat × Nat
  | 0 => (-1, 0, 1)
  | m + 1 => @ite _ (snd r m ∧ (gf r m).2.1 * fB r m < fA r m * (gf r m).2.2) (Classical.propDecidable _) (nI m, fA r m, fB r m) (gf r m)
section
variable {d : Nat} {h : Hp} {Q : Option (Option Value) → Hp → Prop} {x y z t : Int32} {u w v rs : Int64} {k l p q : Nat} {r : Nat → Int32}
theorem chk_iff (hV : VR r) (hl : snd r l) : chkI r l = 0 ↔ brg r l := by
  constructor
  · intro z
    refine Classical.byContradiction (fun y => ?_)
    have := chk_nb hV hl y
    omega
  · exact chk_brg hV
theorem fA_n (hV : VR r) (hl : snd r l) (hb : ¬ brg r l) : (fA r l : Int) = wE r l * (offI r l * offI r l) := by
  have := (wsq_b hV hl).1
  unfold fA
  rw [dI_t hb]
  omega
theorem fA_y (hb : brg r l) : fA r l = 0 := by
  unfold fA
  rw [dI_f (fun z => z hb)]
  rfl
theorem fB_n (hV : VR r) (hl : snd r l) (hb : ¬ brg r l) : (fB r l : Int) = chkI r l * dd r := by
  have h1 := chk_nb hV hl hb
  have h2 := (dd_U hV).1
  have := Int.mul_pos h1 h2
  unfold fB
  rw [dI_t hb, dI_f hb]
  omega
theorem fB_y (hb : brg r l) : fB r l = 1 := by
  unfold fB
  rw [dI_f (fun z => z hb), dI_t hb]
  rfl
theorem fA_b (hV : VR r) (hl : snd r l) : fA r l < 9000000000000000000 := by
  by_cases hb : brg r l
  · rw [fA_y hb]; decide
  · have := fA_n hV hl hb
    have := (wsq_b hV hl).2
    omega
theorem fB_b (hV : VR r) (hl : snd r l) : 0 < fB r l ∧ fB r l ≤ 4955984249616 := by
  by_cases hb : brg r l
  · rw [fB_y hb]; decide
  · have e := fB_n hV hl hb
    have h1 := chk_nb hV hl hb
    have h2 := dd_U hV
    have h3 := (chk_b hV hl).2.1
    have h4 := Int.mul_pos h1 h2.1
    have h5 : chkI r l * dd r ≤ 2226204 * 2226204 := Int.mul_le_mul (by omega) h2.2 (by omega) (by decide)
    omega
theorem c_fallAbove (hS : stl r h) (hl : snd r l) : WP (d + 3) 7 0 [some (.ref 12), some (.ref 21), some (.int (nI l))] [] h Q ↔ Q (some (some (.long (lN (fA r l))))) h := by
  have hV := hS.1
  have hc := chk_b hV hl
  have hd := dd_U hV
  have z0 := iL_0 (v := chkI r l) (B := 2226204) (by omega) (by decide)
  simp only [S7_0, S7_1, S7_2, S7_3, S7_6, S7_7, S7_8, S7_11, S7_12, S7_15, S7_16, S7_17, S7_18, S7_21, shp_12, RV_12_1, RV_12_2, RV_12_3, c_checkAbove hS hl.1, kR_at, lg_cmp_eq, z0, c_weightedSquare hS hl]
  by_cases hb : brg r l
  · have e : lN (fA r l) = 0 := by rw [fA_y hb]; rfl
    rw [e, if_pos ((chk_iff hV hl).mpr hb)]
  · have e : iL (wE r l * (offI r l * offI r l)) = lN (fA r l) := by rw [← fA_n hV hl hb]; rfl
    rw [e, if_neg (fun z => hb ((chk_iff hV hl).mp z))]
theorem c_fallBelow (hS : stl r h) (hl : snd r l) : WP (d + 3) 8 0 [some (.ref 12), some (.ref 21), some (.int (nI l)), none, none] [] h Q ↔ Q (some (some (.long (lN (fB r l))))) h := by
  have hV := hS.1
  have hc := chk_b hV hl
  have hd := dd_U hV
  have z0 := iL_0 (v := chkI r l) (B := 2226204) (by omega) (by decide)
  simp only [S8_0, S8_1, S8_2, S8_3, S8_6, S8_7, S8_8, S8_9, S8_10, S8_13, S8_14, S8_17, S8_18, S8_19, S8_22, S8_23, shp_12, RV_12_1, RV_12_2, RV_12_3, c_checkAbove hS hl.1, kR_at, lg_cmp_eq, z0, kl_none, kl_int, hS.2.2.2.2.2.1]
  by_cases hb : brg r l
  · have e : lN (fB r l) = 1 := by rw [fB_y hb]; rfl
    rw [e, if_pos ((chk_iff hV hl).mpr hb)]
  · have e : iL (chkI r l) * (TCf r).2 = lN (fB r l) := by rw [eI_of (d_eI hV), iL_mul, ← fB_n hV hl hb]; rfl
    rw [e, if_neg (fun z => hb ((chk_iff hV hl).mp z))]
theorem c_fallsAbove {n : Nat} (hS : stl r h) (hl : snd r l) (hn : n ≤ 9999) : WP (d + 4) 9 0 [some (.ref 12), some (.ref 21), some (.int (nI l)), some (.int (nI n))] [] h Q ↔ Q (some (some (.int (pb (n * fB r l < fA r l))))) h := by
  have hV := hS.1
  have h1 := fA_b hV hl
  have h2 := fB_b hV hl
  have h3 : n * fB r l ≤ 9999 * 4955984249616 := Nat.mul_le_mul hn h2.2
  have e : (nI n).toInt64 * lN (fB r l) = lN (n * fB r l) := by
    rw [nI_l (by omega), lN_mul]
  have z : lN (fA r l) ≤ lN (n * fB r l) ↔ fA r l ≤ n * fB r l := pk_lLE (by omega) (by omega)
  simp only [S9_0, S9_1, S9_2, S9_3, S9_6, S9_7, S9_8, S9_9, S9_10, S9_11, S9_14, S9_15, S9_16, S9_19, S9_20, S9_23, S9_24, shp_12, RV_12_1, RV_12_2, RV_12_3, c_fallAbove hS hl, c_fallBelow hS hl, kR_at, e, lg_cmp_le, z, isB_0, isB_1]
  by_cases q : fA r l ≤ n * fB r l
  · rw [if_pos q, pb_f (by omega)]
  · rw [if_neg q, pb_t (by omega)]
theorem c_sum_loop (hS : stl r h) : ∀ (m l : Nat), l + m = rL r → (WP (d + 2) 5 5 [some (.ref 12), some (.ref 21), some (.long (iL (sm l (fun l => wE r l * (offI r l * offI r l))))), none, some (.int (nI l))] [] h Q ↔ Q (some (some (.long (iL (sumI r))))) h) := by
  have hV := hS.1
  have h11 := hV.2.1
  intro m
  induction m with
  | zero =>
    intro l hl
    have : l = rL r := by omega
    subst this
    have hcd : nI (rL r) ≤ nI (rL r) := nI_le (Nat.le_refl _) (by omega)
    rw [S5_5]
    simp only [S5_0, S5_1, S5_2, S5_3, S5_7, S5_8, S5_11, S5_14, S5_15, S5_18, S5_20, S5_23, S5_24, S5_27, S5_28, S5_29, S5_30, S5_32, S5_35, S5_36, S5_37, S5_40, S5_43, S5_44, shp_12, RV_12_1, RV_12_2, RV_12_3, shp_21, RV_21_2, RV_21_5, RV_21_6, RV_21_7, RV_21_8, hS.2.1.2.2.1, h11.1, if_pos hcd]
    rfl
  | succ m ih =>
    intro l hl
    have hcd : ¬ nI (rL r) ≤ nI l := nI_ge (by omega) (by omega)
    have ih := ih (l + 1) (by omega)
    rw [← ih, S5_5]
    show _ ↔ WP (d + 2) 5 5 [some (.ref 12), some (.ref 21), some (.long (iL (sm l (fun l => wE r l * (offI r l * offI r l)) + wE r l * (offI r l * offI r l)))), none, some (.int (nI (l + 1)))] [] h Q
    simp only [S5_0, S5_1, S5_2, S5_3, S5_7, S5_8, S5_11, S5_14, S5_15, S5_18, S5_20, S5_23, S5_24, S5_27, S5_28, S5_29, S5_30, S5_32, S5_35, S5_36, S5_37, S5_40, S5_43, S5_44, shp_12, RV_12_1, RV_12_2, RV_12_3, shp_21, RV_21_2, RV_21_5, RV_21_6, RV_21_7, RV_21_8, hS.2.1.2.2.1, hS.2.1.2.2.2.1, h11.1, if_neg hcd, c_bit, bitm (show l < 32 by omega), kR_at]
    by_cases hs : snd r l
    · rw [if_pos (pb_1.mpr hs), c_weightedSquare hS hs]
      simp only [kR_at, S5_0, S5_1, S5_2, S5_3, S5_7, S5_8, S5_11, S5_14, S5_15, S5_18, S5_20, S5_23, S5_24, S5_27, S5_28, S5_29, S5_30, S5_32, S5_35, S5_36, S5_37, S5_40, S5_43, S5_44, kl_none, kl_ref, iL_add, nI_add1]
    · have e : wE r l = 0 := by unfold wE; exact dI_f hs
      rw [if_neg (fun z => hs (pb_1.mp z)), e, Int.zero_mul, Int.add_zero]
      simp only [S5_0, S5_1, S5_2, S5_3, S5_7, S5_8, S5_11, S5_14, S5_15, S5_18, S5_20, S5_23, S5_24, S5_27, S5_28, S5_29, S5_30, S5_32, S5_35, S5_36, S5_37, S5_40, S5_43, S5_44, kl_none, kl_ref, kl_long, nI_add1]
theorem c_sumAbove (hS : stl r h) : WP (d + 2) 5 0 [some (.ref 12), some (.ref 21), none, none, none] [] h Q ↔ Q (some (some (.long (iL (sumI r))))) h := by
  simp only [S5_0, S5_1, S5_2, S5_3, S5_7, S5_8, S5_11, S5_14, S5_15, S5_18, S5_20, S5_23, S5_24, S5_27, S5_28, S5_29, S5_30, S5_32, S5_35, S5_36, S5_37, S5_40, S5_43, S5_44, kl_none]
  rw [nI_l0]
  exact c_sum_loop hS (rL r) 0 (by omega)
theorem gf_b (hV : VR r) : ∀ m, m ≤ rL r → (gf r m).2.1 < 9000000000000000000 ∧ 0 < (gf r m).2.2 ∧ (gf r m).2.2 ≤ 4955984249616 := by
  intro m
  induction m with
  | zero => intro _; exact ⟨by show 0 < _; decide, by show 0 < 1; decide, by show 1 ≤ _; decide⟩
  | succ m ih =>
    intro hm
    by_cases hc : snd r m ∧ (gf r m).2.1 * fB r m < fA r m * (gf r m).2.2
    · have e : gf r (m + 1) = (nI m, fA r m, fB r m) := @if_pos _ (Classical.propDecidable _) hc _ _ _
      rw [e]
      exact ⟨fA_b hV hc.1, fB_b hV hc.1⟩
    · have e : gf r (m + 1) = gf r m := @if_neg _ (Classical.propDecidable _) hc _ _ _
      rw [e]
      exact ih (by omega)
theorem c_gf_loop (hS : stl r h) : ∀ (m l : Nat) (o8 o10 : Option Value), l + m = rL r → (WP (d + 4) 10 10 [some (.ref 12), some (.ref 21), some (.int (gf r l).1), some (.long (lN (gf r l).2.1)), none, some (.long (lN (gf r l).2.2)), none, some (.int (nI l)), o8, none, o10, none] [] h Q ↔ Q (some (some (.int (gf r (rL r)).1))) h) := by
  have hV := hS.1
  have h11 := hV.2.1
  intro m
  induction m with
  | zero =>
    intro l o8 o10 hl
    have : l = rL r := by omega
    subst this
    have hcd : nI (rL r) ≤ nI (rL r) := nI_le (Nat.le_refl _) (by omega)
    rw [S10_10]
    simp only [S10_0, S10_1, S10_2, S10_3, S10_4, S10_5, S10_7, S10_8, S10_12, S10_13, S10_16, S10_19, S10_20, S10_23, S10_25, S10_28, S10_31, S10_34, S10_35, S10_36, S10_38, S10_41, S10_43, S10_44, S10_45, S10_47, S10_50, S10_52, S10_54, S10_56, S10_57, S10_59, S10_62, S10_65, S10_67, S10_68, S10_70, S10_71, S10_73, S10_75, S10_78, S10_81, S10_82, shp_12, RV_12_1, RV_12_2, RV_12_3, shp_21, RV_21_2, RV_21_5, RV_21_6, RV_21_7, RV_21_8, hS.2.1.2.2.1, h11.1, if_pos hcd]
  | succ m ih =>
    intro l o8 o10 hl
    have hcd : ¬ nI (rL r) ≤ nI l := nI_ge (by omega) (by omega)
    have gb := gf_b hV l (by omega)
    rw [S10_10]
    simp only [S10_0, S10_1, S10_2, S10_3, S10_4, S10_5, S10_7, S10_8, S10_12, S10_13, S10_16, S10_19, S10_20, S10_23, S10_25, S10_28, S10_31, S10_34, S10_35, S10_36, S10_38, S10_41, S10_43, S10_44, S10_45, S10_47, S10_50, S10_52, S10_54, S10_56, S10_57, S10_59, S10_62, S10_65, S10_67, S10_68, S10_70, S10_71, S10_73, S10_75, S10_78, S10_81, S10_82, shp_12, RV_12_1, RV_12_2, RV_12_3, shp_21, RV_21_2, RV_21_5, RV_21_6, RV_21_7, RV_21_8, hS.2.1.2.2.1, hS.2.1.2.2.2.1, h11.1, if_neg hcd, c_bit, bitm (show l < 32 by omega), kR_at]
    by_cases hs : snd r l
    · have fa := fA_b hV hs
      have fb := fB_b hV hs
      have ne : ¬ pb (snd r l) = 0 := fun z => pb_0.mp z hs
      simp only [ne, if_false, if_true, not_false_eq_true, ne_eq, ↓reduceIte, c_fallAbove hS hs, c_fallBelow hS hs, kR_at, S10_0, S10_1, S10_2, S10_3, S10_4, S10_5, S10_7, S10_8, S10_12, S10_13, S10_16, S10_19, S10_20, S10_23, S10_25, S10_28, S10_31, S10_34, S10_35, S10_36, S10_38, S10_41, S10_43, S10_44, S10_45, S10_47, S10_50, S10_52, S10_54, S10_56, S10_57, S10_59, S10_62, S10_65, S10_67, S10_68, S10_70, S10_71, S10_73, S10_75, S10_78, S10_81, S10_82, shp_12, RV_12_1, RV_12_2, RV_12_3, shp_21, RV_21_2, RV_21_5, RV_21_6, RV_21_7, RV_21_8, kl_none, kl_int, kl_long, c_isGreater (d := d + 3) (h := h) (a := fA r l) (b := fB r l) (c := (gf r l).2.1) (e := (gf r l).2.2) (by omega) fb.1 (by omega) (by omega) gb.2.1 (by omega)]
      by_cases hc : (gf r l).2.1 * fB r l < fA r l * (gf r l).2.2
      · have e : gf r (l + 1) = (nI l, fA r l, fB r l) := @if_pos _ (Classical.propDecidable _) ⟨hs, hc⟩ _ _ _
        have ih := ih (l + 1) (some (.long (lN (fA r l)))) (some (.long (lN (fB r l)))) (by omega)
        rw [e] at ih
        rw [← ih, if_neg (fun z => pb_0.mp z hc)]
        simp only [S10_0, S10_1, S10_2, S10_3, S10_4, S10_5, S10_7, S10_8, S10_12, S10_13, S10_16, S10_19, S10_20, S10_23, S10_25, S10_28, S10_31, S10_34, S10_35, S10_36, S10_38, S10_41, S10_43, S10_44, S10_45, S10_47, S10_50, S10_52, S10_54, S10_56, S10_57, S10_59, S10_62, S10_65, S10_67, S10_68, S10_70, S10_71, S10_73, S10_75, S10_78, S10_81, S10_82, kl_none, kl_int, kl_long, kl_ref, nI_add1]
      · have e : gf r (l + 1) = gf r l := @if_neg _ (Classical.propDecidable _) (fun z => hc z.2) _ _ _
        have ih := ih (l + 1) (some (.long (lN (fA r l)))) (some (.long (lN (fB r l)))) (by omega)
        rw [e] at ih
        rw [← ih, if_pos (pb_0.mpr hc)]
        simp only [S10_0, S10_1, S10_2, S10_3, S10_4, S10_5, S10_7, S10_8, S10_12, S10_13, S10_16, S10_19, S10_20, S10_23, S10_25, S10_28, S10_31, S10_34, S10_35, S10_36, S10_38, S10_41, S10_43, S10_44, S10_45, S10_47, S10_50, S10_52, S10_54, S10_56, S10_57, S10_59, S10_62, S10_65, S10_67, S10_68, S10_70, S10_71, S10_73, S10_75, S10_78, S10_81, S10_82, kl_none, kl_int, kl_long, kl_ref, nI_add1]
    · have e : gf r (l + 1) = gf r l := @if_neg _ (Classical.propDecidable _) (fun z => hs z.1) _ _ _
      have ih := ih (l + 1) o8 o10 (by omega)
      rw [e] at ih
      have y : pb (snd r l) = 0 := pb_0.mpr hs
      rw [← ih]
      simp only [y, ne_eq, not_true_eq_false, if_false, if_true, ↓reduceIte, S10_0, S10_1, S10_2, S10_3, S10_4, S10_5, S10_7, S10_8, S10_12, S10_13, S10_16, S10_19, S10_20, S10_23, S10_25, S10_28, S10_31, S10_34, S10_35, S10_36, S10_38, S10_41, S10_43, S10_44, S10_45, S10_47, S10_50, S10_52, S10_54, S10_56, S10_57, S10_59, S10_62, S10_65, S10_67, S10_68, S10_70, S10_71, S10_73, S10_75, S10_78, S10_81, S10_82, kl_none, kl_int, kl_long, kl_ref, nI_add1]
theorem c_greatestFall (hS : stl r h) : WP (d + 4) 10 0 [some (.ref 12), some (.ref 21), none, none, none, none, none, none, none, none, none, none] [] h Q ↔ Q (some (some (.int (gf r (rL r)).1))) h := by
  simp only [S10_0, S10_1, S10_2, S10_3, S10_4, S10_5, S10_7, S10_8, S10_12, S10_13, S10_16, S10_19, S10_20, S10_23, S10_25, S10_28, S10_31, S10_34, S10_35, S10_36, S10_38, S10_41, S10_43, S10_44, S10_45, S10_47, S10_50, S10_52, S10_54, S10_56, S10_57, S10_59, S10_62, S10_65, S10_67, S10_68, S10_70, S10_71, S10_73, S10_75, S10_78, S10_81, S10_82, kl_none, kl_int, kl_long]
  rw [nI_l0]
  exact c_gf_loop hS (rL r) 0 none none (by omega)
end
