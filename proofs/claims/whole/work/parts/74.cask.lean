/-! What the class answers of one net. -/
abbrev cPost (r : Nat → Int32) (h : Hp) (Q : Option (Option Value) → Hp → Prop) (res : Option (Option Value)) : Prop := ∀ h' : Hp, frmF stS h h' → cls r h' → Q res h'
section
variable {d : Nat} {h : Hp} {Q : Option (Option Value) → Hp → Prop} {x y z t : Int32} {u w v rs : Int64} {k l p q : Nat} {r : Nat → Int32}
theorem d_lN (hV : VR r) : (TCf r).2 = lN (dN r) := by rw [eI_of (d_eI hV), ← dN_i hV]; rfl
theorem c_height_no (hC : cls r h) (hx : ¬ (isP r x ∧ isH y)) (kk : cPost r h Q none) : WP (d + 6) 60 0 [some (.ref 0), some (.int x), some (.int y)] [] h Q := by
  have k1 := kk h frmF_rf hC
  simp only [S60_0, S60_1, S60_2, S60_5, S60_8, S60_9, S60_12, S60_15, S60_23, S60_24, S60_27, S60_28, S60_31, S60_34, S60_35, S60_36, S60_37, S60_40, S60_43, S60_44, S60_47, shp_0, RV_0_0, RV_0_1, RV_0_2, RV_0_3, RV_0_4, RV_0_5, RV_0_9, RV_0_10, c_isPointX hC.1 hC.2.1, c_isHalfX, kR_at]
  by_cases h1 : isP r x
  · rw [if_neg (fun z => pb_0.mp z h1)]
    have h2 : pb (isH y) = 0 := pb_0.mpr (fun z => hx ⟨h1, z⟩)
    simp only [h2, ne_eq, not_true_eq_false, if_false, if_true, ↓reduceIte]
    exact k1
  · rw [if_pos (pb_0.mpr h1)]
    exact k1
theorem c_height_yes (hC : cls r h) (hp : p < rP r) (hy : isH y) (kk : cPost r h Q (some (some (.long (hlf (hI r p) (dN r) y))))) : WP (d + 6) 60 0 [some (.ref 0), some (.int (nI p)), some (.int y)] [] h Q := by
  have hV := hC.1
  have h6 := hV.1.2
  have h1 : ¬ pb (isP r (nI p)) = 0 := fun z => pb_0.mp z ⟨p, hp, rfl⟩
  have h2 : ¬ pb (isH y) = 0 := fun z => pb_0.mp z hy
  have hd := dN_b hV
  have ha := (ab_eI (p := p) hV).2
  simp only [S60_0, S60_1, S60_2, S60_5, S60_8, S60_9, S60_12, S60_15, S60_23, S60_24, S60_27, S60_28, S60_31, S60_34, S60_35, S60_36, S60_37, S60_40, S60_43, S60_44, S60_47, shp_0, RV_0_0, RV_0_1, RV_0_2, RV_0_3, RV_0_4, RV_0_5, RV_0_9, RV_0_10, shp_12, RV_12_1, RV_12_2, RV_12_3, c_isPointX hC.1 hC.2.1, c_isHalfX, kR_at, if_neg h1, h2, ne_eq, not_false_eq_true, if_false, if_true, ↓reduceIte]
  refine c_settle (d := d) hC (fun h' f s z => ?_)
  have k1 := kk h' f (stl_cls s z)
  simp only [kV_at, S60_0, S60_1, S60_2, S60_5, S60_8, S60_9, S60_12, S60_15, S60_23, S60_24, S60_27, S60_28, S60_31, S60_34, S60_35, S60_36, S60_37, S60_40, S60_43, S60_44, S60_47, shp_0, RV_0_0, RV_0_1, RV_0_2, RV_0_3, RV_0_4, RV_0_5, RV_0_9, RV_0_10, shp_12, RV_12_1, RV_12_2, RV_12_3, ok20 (show p < 6 by omega), nI_cl (show p < 2147483648 by omega), s.2.2.2.2.2.2.2 p hp, s.2.2.2.2.2.1, d_lN hV, eI_of (ab_eI (p := p) hV), c_halfI (d := d + 4) (v := hI r p) (B := dN r) (by omega) hd.1 (by omega), kR_at]
  exact k1
theorem c_off_no (hC : cls r h) (hx : ¬ (isS r x ∧ isH y)) (kk : cPost r h Q none) : WP (d + 6) 62 0 [some (.ref 0), some (.int x), some (.int y)] [] h Q := by
  have k1 := kk h frmF_rf hC
  simp only [S62_0, S62_1, S62_2, S62_5, S62_8, S62_9, S62_12, S62_15, S62_23, S62_24, S62_27, S62_28, S62_31, S62_32, S62_35, S62_36, S62_39, S62_40, S62_43, S62_46, S62_47, S62_50, shp_0, RV_0_0, RV_0_1, RV_0_2, RV_0_3, RV_0_4, RV_0_5, RV_0_9, RV_0_10, c_isSoundLineX hC.1 hC.2.1, c_isHalfX, kR_at]
  by_cases h1 : isS r x
  · rw [if_neg (fun z => pb_0.mp z h1)]
    have h2 : pb (isH y) = 0 := pb_0.mpr (fun z => hx ⟨h1, z⟩)
    simp only [h2, ne_eq, not_true_eq_false, if_false, if_true, ↓reduceIte]
    exact k1
  · rw [if_pos (pb_0.mpr h1)]
    exact k1
theorem c_off_yes (hC : cls r h) (hl : snd r l) (hy : isH y) (kk : cPost r h Q (some (some (.long (hlf (offI r l) (dN r) y))))) : WP (d + 6) 62 0 [some (.ref 0), some (.int (nI l)), some (.int y)] [] h Q := by
  have hV := hC.1
  have h1 : ¬ pb (isS r (nI l)) = 0 := fun z => pb_0.mp z ⟨l, hl, rfl⟩
  have h2 : ¬ pb (isH y) = 0 := fun z => pb_0.mp z hy
  have hd := dN_b hV
  have ha := (off_eI hV hl.1).2
  simp only [S62_0, S62_1, S62_2, S62_5, S62_8, S62_9, S62_12, S62_15, S62_23, S62_24, S62_27, S62_28, S62_31, S62_32, S62_35, S62_36, S62_39, S62_40, S62_43, S62_46, S62_47, S62_50, shp_0, RV_0_0, RV_0_1, RV_0_2, RV_0_3, RV_0_4, RV_0_5, RV_0_9, RV_0_10, shp_12, RV_12_1, RV_12_2, RV_12_3, c_isSoundLineX hC.1 hC.2.1, c_isHalfX, kR_at, if_neg h1, h2, ne_eq, not_false_eq_true, if_false, if_true, ↓reduceIte]
  refine c_settle (d := d) hC (fun h' f s z => ?_)
  have k1 := kk h' f (stl_cls s z)
  simp only [kV_at, S62_0, S62_1, S62_2, S62_5, S62_8, S62_9, S62_12, S62_15, S62_23, S62_24, S62_27, S62_28, S62_31, S62_32, S62_35, S62_36, S62_39, S62_40, S62_43, S62_46, S62_47, S62_50, shp_0, RV_0_0, RV_0_1, RV_0_2, RV_0_3, RV_0_4, RV_0_5, RV_0_9, RV_0_10, shp_12, RV_12_1, RV_12_2, RV_12_3, c_offAbove s hl.1, s.2.2.2.2.2.1, d_lN hV, c_halfI (d := d + 4) (v := offI r l) (B := dN r) (by omega) hd.1 (by omega), kR_at]
  exact k1
theorem c_check_no (hC : cls r h) (hx : ¬ (isS r x ∧ isH y)) (kk : cPost r h Q none) : WP (d + 6) 68 0 [some (.ref 0), some (.int x), some (.int y)] [] h Q := by
  have k1 := kk h frmF_rf hC
  simp only [S68_0, S68_1, S68_2, S68_5, S68_8, S68_9, S68_12, S68_15, S68_23, S68_24, S68_27, S68_28, S68_31, S68_32, S68_35, S68_36, S68_39, S68_40, S68_43, S68_46, S68_47, S68_50, shp_0, RV_0_0, RV_0_1, RV_0_2, RV_0_3, RV_0_4, RV_0_5, RV_0_9, RV_0_10, c_isSoundLineX hC.1 hC.2.1, c_isHalfX, kR_at]
  by_cases h1 : isS r x
  · rw [if_neg (fun z => pb_0.mp z h1)]
    have h2 : pb (isH y) = 0 := pb_0.mpr (fun z => hx ⟨h1, z⟩)
    simp only [h2, ne_eq, not_true_eq_false, if_false, if_true, ↓reduceIte]
    exact k1
  · rw [if_pos (pb_0.mpr h1)]
    exact k1
theorem c_check_yes (hC : cls r h) (hl : snd r l) (hy : isH y) (kk : cPost r h Q (some (some (.long (hlf (chkI r l) (dN r) y))))) : WP (d + 6) 68 0 [some (.ref 0), some (.int (nI l)), some (.int y)] [] h Q := by
  have hV := hC.1
  have h1 : ¬ pb (isS r (nI l)) = 0 := fun z => pb_0.mp z ⟨l, hl, rfl⟩
  have h2 : ¬ pb (isH y) = 0 := fun z => pb_0.mp z hy
  have hd := dN_b hV
  have hdi := dN_i hV
  have ha := chk_b hV hl
  simp only [S68_0, S68_1, S68_2, S68_5, S68_8, S68_9, S68_12, S68_15, S68_23, S68_24, S68_27, S68_28, S68_31, S68_32, S68_35, S68_36, S68_39, S68_40, S68_43, S68_46, S68_47, S68_50, shp_0, RV_0_0, RV_0_1, RV_0_2, RV_0_3, RV_0_4, RV_0_5, RV_0_9, RV_0_10, shp_12, RV_12_1, RV_12_2, RV_12_3, c_isSoundLineX hC.1 hC.2.1, c_isHalfX, kR_at, if_neg h1, h2, ne_eq, not_false_eq_true, if_false, if_true, ↓reduceIte]
  refine c_settle (d := d) hC (fun h' f s z => ?_)
  have k1 := kk h' f (stl_cls s z)
  simp only [kV_at, S68_0, S68_1, S68_2, S68_5, S68_8, S68_9, S68_12, S68_15, S68_23, S68_24, S68_27, S68_28, S68_31, S68_32, S68_35, S68_36, S68_39, S68_40, S68_43, S68_46, S68_47, S68_50, shp_0, RV_0_0, RV_0_1, RV_0_2, RV_0_3, RV_0_4, RV_0_5, RV_0_9, RV_0_10, shp_12, RV_12_1, RV_12_2, RV_12_3, c_checkAbove s hl.1, s.2.2.2.2.2.1, d_lN hV, c_halfI (d := d + 4) (v := chkI r l) (B := dN r) (by omega) hd.1 (by omega), kR_at]
  exact k1
theorem c_fall_no (hC : cls r h) (hx : ¬ (isS r x ∧ isH y)) (kk : cPost r h Q none) : WP (d + 6) 69 0 [some (.ref 0), some (.int x), some (.int y)] [] h Q := by
  have k1 := kk h frmF_rf hC
  simp only [S69_0, S69_1, S69_2, S69_5, S69_8, S69_9, S69_12, S69_15, S69_23, S69_24, S69_27, S69_28, S69_31, S69_32, S69_35, S69_36, S69_39, S69_40, S69_43, S69_44, S69_47, S69_48, S69_51, S69_52, S69_55, shp_0, RV_0_0, RV_0_1, RV_0_2, RV_0_3, RV_0_4, RV_0_5, RV_0_9, RV_0_10, c_isSoundLineX hC.1 hC.2.1, c_isHalfX, kR_at]
  by_cases h1 : isS r x
  · rw [if_neg (fun z => pb_0.mp z h1)]
    have h2 : pb (isH y) = 0 := pb_0.mpr (fun z => hx ⟨h1, z⟩)
    simp only [h2, ne_eq, not_true_eq_false, if_false, if_true, ↓reduceIte]
    exact k1
  · rw [if_pos (pb_0.mpr h1)]
    exact k1
theorem c_fall_yes (hC : cls r h) (hl : snd r l) (hy : isH y) (kk : cPost r h Q (some (some (.long (hlf (fA r l) (fB r l) y))))) : WP (d + 6) 69 0 [some (.ref 0), some (.int (nI l)), some (.int y)] [] h Q := by
  have hV := hC.1
  have h1 : ¬ pb (isS r (nI l)) = 0 := fun z => pb_0.mp z ⟨l, hl, rfl⟩
  have h2 : ¬ pb (isH y) = 0 := fun z => pb_0.mp z hy
  have ha := fA_b hV hl
  have hb := fB_b hV hl
  simp only [S69_0, S69_1, S69_2, S69_5, S69_8, S69_9, S69_12, S69_15, S69_23, S69_24, S69_27, S69_28, S69_31, S69_32, S69_35, S69_36, S69_39, S69_40, S69_43, S69_44, S69_47, S69_48, S69_51, S69_52, S69_55, shp_0, RV_0_0, RV_0_1, RV_0_2, RV_0_3, RV_0_4, RV_0_5, RV_0_9, RV_0_10, shp_12, RV_12_1, RV_12_2, RV_12_3, c_isSoundLineX hC.1 hC.2.1, c_isHalfX, kR_at, if_neg h1, h2, ne_eq, not_false_eq_true, if_false, if_true, ↓reduceIte]
  refine c_settle (d := d) hC (fun h' f s z => ?_)
  have k1 := kk h' f (stl_cls s z)
  simp only [kV_at, S69_0, S69_1, S69_2, S69_5, S69_8, S69_9, S69_12, S69_15, S69_23, S69_24, S69_27, S69_28, S69_31, S69_32, S69_35, S69_36, S69_39, S69_40, S69_43, S69_44, S69_47, S69_48, S69_51, S69_52, S69_55, shp_0, RV_0_0, RV_0_1, RV_0_2, RV_0_3, RV_0_4, RV_0_5, RV_0_9, RV_0_10, shp_12, RV_12_1, RV_12_2, RV_12_3, c_fallAbove s hl, c_fallBelow s hl, kR_at]
  have e := c_halfI (d := d + 4) (h := h') (Q := kR (d + 6) 69 55 [some (.ref 0), some (.int (nI l)), some (.int y)] [] Q) (x := y) (v := (fA r l : Int)) (B := fB r l) (by omega) hb.1 (by omega)
  rw [iL_N] at e
  rw [e]
  simp only [kR_at, S69_0, S69_1, S69_2, S69_5, S69_8, S69_9, S69_12, S69_15, S69_23, S69_24, S69_27, S69_28, S69_31, S69_32, S69_35, S69_36, S69_39, S69_40, S69_43, S69_44, S69_47, S69_48, S69_51, S69_52, S69_55]
  exact k1
theorem c_sum_no (hC : cls r h) (hx : ¬ isH y) (kk : cPost r h Q none) : WP (d + 6) 63 0 [some (.ref 0), some (.int y)] [] h Q := by
  have k1 := kk h frmF_rf hC
  have h2 : pb (isH y) = 0 := pb_0.mpr hx
  simp only [S63_0, S63_1, S63_4, S63_7, S63_15, S63_16, S63_19, S63_20, S63_23, S63_24, S63_27, S63_30, S63_31, S63_34, S63_37, S63_38, S63_41, S63_44, S63_45, S63_46, S63_49, shp_0, RV_0_0, RV_0_1, RV_0_2, RV_0_3, RV_0_4, RV_0_5, RV_0_9, RV_0_10, c_isHalfX, kR_at, h2, ne_eq, not_true_eq_false, if_false, if_true, ↓reduceIte]
  exact k1
theorem c_sum_yes (hC : cls r h) (hy : isH y) (kk : cPost r h Q (some (some (.long (hlf (sumI r) (dN r * dN r) y))))) : WP (d + 6) 63 0 [some (.ref 0), some (.int y)] [] h Q := by
  have hV := hC.1
  have h2 : ¬ pb (isH y) = 0 := fun z => pb_0.mp z hy
  have hd := dN_b hV
  have hdd : dN r * dN r ≤ 2226204 * 2226204 := Nat.mul_le_mul hd.2 hd.2
  have hdp : 0 < dN r * dN r := Nat.mul_pos hd.1 hd.1
  have h3 := (sum_gg hV).1
  have h4 := sum_b hV
  simp only [S63_0, S63_1, S63_4, S63_7, S63_15, S63_16, S63_19, S63_20, S63_23, S63_24, S63_27, S63_30, S63_31, S63_34, S63_37, S63_38, S63_41, S63_44, S63_45, S63_46, S63_49, shp_0, RV_0_0, RV_0_1, RV_0_2, RV_0_3, RV_0_4, RV_0_5, RV_0_9, RV_0_10, shp_12, RV_12_1, RV_12_2, RV_12_3, c_isHalfX, kR_at, h2, ne_eq, not_false_eq_true, if_false, if_true, ↓reduceIte]
  refine c_settle (d := d) hC (fun h' f s z => ?_)
  have k1 := kk h' f (stl_cls s z)
  simp only [kV_at, S63_0, S63_1, S63_4, S63_7, S63_15, S63_16, S63_19, S63_20, S63_23, S63_24, S63_27, S63_30, S63_31, S63_34, S63_37, S63_38, S63_41, S63_44, S63_45, S63_46, S63_49, shp_0, RV_0_0, RV_0_1, RV_0_2, RV_0_3, RV_0_4, RV_0_5, RV_0_9, RV_0_10, shp_12, RV_12_1, RV_12_2, RV_12_3, c_sumAbove s, s.2.2.2.2.2.1, d_lN hV, lN_mul, c_halfI (d := d + 4) (v := sumI r) (B := dN r * dN r) (by omega) hdp (by omega), kR_at]
  exact k1
theorem c_blunder (hC : cls r h) (kk : cPost r h Q (some (some (.int (gf r (rL r)).1)))) : WP (d + 6) 71 0 [some (.ref 0)] [] h Q := by
  simp only [S71_0, S71_1, S71_4, S71_5, S71_8, S71_9, S71_12, S71_15, shp_0, RV_0_0, RV_0_1, RV_0_2, RV_0_3, RV_0_4, RV_0_5, RV_0_9, RV_0_10, shp_12, RV_12_1, RV_12_2, RV_12_3]
  refine c_settle (d := d) hC (fun h' f s z => ?_)
  have k1 := kk h' f (stl_cls s z)
  simp only [kV_at, S71_0, S71_1, S71_4, S71_5, S71_8, S71_9, S71_12, S71_15, shp_0, RV_0_0, RV_0_1, RV_0_2, RV_0_3, RV_0_4, RV_0_5, RV_0_9, RV_0_10, shp_12, RV_12_1, RV_12_2, RV_12_3, c_greatestFall s, kR_at]
  exact k1
theorem c_rings (hC : cls r h) (kk : cPost r h Q (some (some (.int (nI (cnt11 (maskOf (rngL r)))))))) : WP (d + 6) 64 0 [some (.ref 0)] [] h Q := by
  have hV := hC.1
  have h11 := hV.2.1.2
  simp only [S64_0, S64_1, S64_4, S64_5, S64_8, S64_11, S64_14, shp_0, RV_0_0, RV_0_1, RV_0_2, RV_0_3, RV_0_4, RV_0_5, RV_0_9, RV_0_10, shp_8, RV_8_0, RV_8_5, RV_8_6]
  refine c_settle (d := d) hC (fun h' f s z => ?_)
  have k1 := kk h' f (stl_cls s z)
  have hm : ∀ i, 11 ≤ i → i < 32 → bt (maskOf (rngL r)) i = false := fun i h1 h2 => by
    have := mt (bt_mask (S := rngL r) h2).mp (fun z => by have := z.1.1; omega)
    exact Bool.eq_false_iff.mpr this
  simp only [kV_at, S64_0, S64_1, S64_4, S64_5, S64_8, S64_11, S64_14, shp_0, RV_0_0, RV_0_1, RV_0_2, RV_0_3, RV_0_4, RV_0_5, RV_0_9, RV_0_10, shp_8, RV_8_0, RV_8_5, RV_8_6, s.2.2.1.2.1, c_bitCount hm, kR_at]
  exact k1
end
