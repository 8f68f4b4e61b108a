/-! More of what the model answers. -/
section
variable {d : Nat} {h : Hp} {Q : Option (Option Value) → Hp → Prop} {x y z t : Int32} {u w v rs : Int64} {k l p q : Nat} {r : Nat → Int32}
theorem m_check_no (hr : h.1 95 = r) (hV : VR r) (hx : ¬ (isS r x ∧ isH y)) (kk : mPost r h Q 1 (some (.long 0))) : WP (d + 9) 171 0 [some (.ref 93), some (.int x), some (.int y), none, none] [] h Q := by
  have k1 := ref_post hr kk
  simp only [S171_0, S171_1, S171_2, S171_5, S171_6, S171_7, S171_10, S171_13, S171_14, S171_15, S171_18, S171_21, S171_22, S171_25, S171_28, S171_29, S171_32, S171_33, S171_34, S171_35, S171_36, S171_37, S171_40, S171_41, S171_42, S171_45, S171_48, S171_49, S171_50, S171_51, S171_54, S171_55, S171_58, S171_60, S171_61, S171_62, S171_63, S171_64, S171_65, S171_66, S171_67, S171_68, S171_71, S171_74, S171_75, S171_76, S171_79, shp_93, RV_93_1, RV_93_13, RV_93_14, RV_93_15, RV_93_16, RV_93_17, RV_93_18, RV_93_19, RV_93_20, RV_93_23, RV_93_24, RV_93_27, RV_93_28, RV_93_29, m_isLineX (r0 (x := 0) hr) hV, m_isPartX, m_refuse, kR_at, i2l0]
  by_cases h1 : isL r x
  · obtain ⟨l, hl, rfl⟩ := h1
    rw [if_neg (fun z => pb_0.mp z ⟨l, hl, rfl⟩), m_isSoundX (r0 (x := 0) hr) hV hl]
    simp only [kR_at, S171_0, S171_1, S171_2, S171_5, S171_6, S171_7, S171_10, S171_13, S171_14, S171_15, S171_18, S171_21, S171_22, S171_25, S171_28, S171_29, S171_32, S171_33, S171_34, S171_35, S171_36, S171_37, S171_40, S171_41, S171_42, S171_45, S171_48, S171_49, S171_50, S171_51, S171_54, S171_55, S171_58, S171_60, S171_61, S171_62, S171_63, S171_64, S171_65, S171_66, S171_67, S171_68, S171_71, S171_74, S171_75, S171_76, S171_79, m_isPartX, m_refuse, shp_93, RV_93_1, RV_93_13, RV_93_14, RV_93_15, RV_93_16, RV_93_17, RV_93_18, RV_93_19, RV_93_20, RV_93_23, RV_93_24, RV_93_27, RV_93_28, RV_93_29, i2l0]
    by_cases hs : snd r l
    · rw [if_neg (fun z => pb_0.mp z hs)]
      have h2 : pb (isH y) = 0 := pb_0.mpr (fun z => hx ⟨⟨l, hs, rfl⟩, z⟩)
      simp only [h2, ne_eq, not_true_eq_false, if_false, if_true, ↓reduceIte]
      exact k1
    · rw [if_pos (pb_0.mpr hs)]
      exact k1
  · rw [if_pos (pb_0.mpr h1)]
    exact k1
theorem m_check_yes (hr : h.1 95 = r) (hV : VR r) (hl : snd r l) (hy : isH y) (kk : mPost r h Q 0 (some (.long (hlf (chkI r l) (dN r) y)))) : WP (d + 9) 171 0 [some (.ref 93), some (.int (nI l)), some (.int y), none, none] [] h Q := by
  have h11 := hV.2.1.2
  have hll := hl.1
  have hl11 : l < 11 := by omega
  have hVl := hV.2.2.2 l hl.1
  have h1 : ¬ pb (isL r (nI l)) = 0 := fun z => pb_0.mp z ⟨l, hl.1, rfl⟩
  have h2 : ¬ pb (isH y) = 0 := fun z => pb_0.mp z hy
  have h3 : ¬ pb (snd r l) = 0 := fun z => pb_0.mp z hl
  have hd := dN_b hV
  have hdi := dN_i hV
  have hc := chk_b hV hl
  have ec : lN (dN r) - (r (47 + l)).toInt64 * dbV r (rA r l) (rB r l) = iL (chkI r l) := by
    rw [eI_of (db_V hV), iL_32, iL_mul, ← iL_N, dN_i hV, iL_sub]
    rfl
  simp only [S171_0, S171_1, S171_2, S171_5, S171_6, S171_7, S171_10, S171_13, S171_14, S171_15, S171_18, S171_21, S171_22, S171_25, S171_28, S171_29, S171_32, S171_33, S171_34, S171_35, S171_36, S171_37, S171_40, S171_41, S171_42, S171_45, S171_48, S171_49, S171_50, S171_51, S171_54, S171_55, S171_58, S171_60, S171_61, S171_62, S171_63, S171_64, S171_65, S171_66, S171_67, S171_68, S171_71, S171_74, S171_75, S171_76, S171_79, shp_93, RV_93_1, RV_93_13, RV_93_14, RV_93_15, RV_93_16, RV_93_17, RV_93_18, RV_93_19, RV_93_20, RV_93_23, RV_93_24, RV_93_27, RV_93_28, RV_93_29, m_isLineX (r0 (x := 0) hr) hV, m_isSoundX (r0 (x := 0) hr) hV hl.1, m_isPartX, m_refuse, kR_at, if_neg h1, if_neg h3, h2, ne_eq, not_false_eq_true, if_false, if_true, ↓reduceIte, m_first hl11, m_second hl11, r0 (x := 0) hr, hVl.1.1, hVl.2.1.1]
  refine m_doubtOf (d := d + 1) (r0 hr) hV hVl.1.2 hVl.2.1.2 (db_nz hV) (fun h1 f1 m1 s1 => ?_)
  rw [db_d hV, d_lN hV] at s1
  simp only [kR_at, S171_0, S171_1, S171_2, S171_5, S171_6, S171_7, S171_10, S171_13, S171_14, S171_15, S171_18, S171_21, S171_22, S171_25, S171_28, S171_29, S171_32, S171_33, S171_34, S171_35, S171_36, S171_37, S171_40, S171_41, S171_42, S171_45, S171_48, S171_49, S171_50, S171_51, S171_54, S171_55, S171_58, S171_60, S171_61, S171_62, S171_63, S171_64, S171_65, S171_66, S171_67, S171_68, S171_71, S171_74, S171_75, S171_76, S171_79, shp_93, RV_93_1, RV_93_13, RV_93_14, RV_93_15, RV_93_16, RV_93_17, RV_93_18, RV_93_19, RV_93_20, RV_93_23, RV_93_24, RV_93_27, RV_93_28, RV_93_29, s1, m1.1, la_47, ok95 (show 47 + l < 69 by omega), nI_cl (show 47 + l < 2147483648 by omega), ec, kl_none, kl_int]
  refine m_tellsI (by omega) hd.1 (by omega) (fun h2 f2 e1 e2 e3 e4 e5 => ?_)
  simp only [kV_at, S171_0, S171_1, S171_2, S171_5, S171_6, S171_7, S171_10, S171_13, S171_14, S171_15, S171_18, S171_21, S171_22, S171_25, S171_28, S171_29, S171_32, S171_33, S171_34, S171_35, S171_36, S171_37, S171_40, S171_41, S171_42, S171_45, S171_48, S171_49, S171_50, S171_51, S171_54, S171_55, S171_58, S171_60, S171_61, S171_62, S171_63, S171_64, S171_65, S171_66, S171_67, S171_68, S171_71, S171_74, S171_75, S171_76, S171_79, shp_93, RV_93_1, RV_93_13, RV_93_14, RV_93_15, RV_93_16, RV_93_17, RV_93_18, RV_93_19, RV_93_20, RV_93_23, RV_93_24, RV_93_27, RV_93_28, RV_93_29, m_saidX hy e4 e5, kR_at]
  exact kk h2 (frmF_tr M0 (frmF_tr (pfr_m f1) (pfr_m f2))) (by rw [e1]; exact m1.1) (by rw [e1, mfr_t f1]; exact t0)
end
