/-! More of what the model answers. -/
section
variable {d : Nat} {h : Hp} {Q : Option (Option Value) → Hp → Prop} {x y z t : Int32} {u w v rs : Int64} {k l p q : Nat} {r : Nat → Int32}
theorem m_check_no (hr : h.1 95 = r) (hV : VR r) (hx : ¬ (isS r x ∧ isH y)) (kk : mPost r h Q 1 (some (.long 0))) : WP (d + 9) 171 0 [some (.ref 93), some (.int x), some (.int y), none, none] [] h Q := by
  have k1 := ref_post hr kk
  simp only [S171_0, S171_1, S171_2, S171_5, S171_6, S171_7, S171_10, S171_13, S171_14, S171_15, S171_18, S171_21, S171_22, S171_25, S171_28, S171_29, S171_32, S171_33, S171_34, S171_35, S171_36, S171_37, S171_40, S171_41, S171_42, S171_45, S171_48, S171_49, S171_50, S171_51, S171_54, S171_55, S171_58, S171_60, S171_61, S171_62, S171_63, S171_64, S171_65, S171_66, S171_67, S171_68, S171_71, S171_74, S171_75, S171_76, S171_79, shp_93, RV_93_1, RV_93_13, RV_93_14, RV_93_15, RV_93_16, RV_93_17, RV_93_18, RV_93_19, RV_93_20, RV_93_23, RV_93_24, RV_93_27, RV_93_28, RV_93_29, m_isLineX (r0 (x := 0) hr) hV, m_isPartX, m_refuse, kR_at, i2l0]
  by_cases h1 : isL r x
  · obtain ⟨l, hl, rfl⟩ := h1
    rw [if_neg (fun z => pb_0.mp z ⟨l, hl, rfl⟩), m_isSoundX (r0 (x := 0) hr) hV hl]
    simp only [kR_at, S171_0, S171_1, S171_2, S171_5, S171_6, S171_7, S171_10, S171_13, S171_14, S171_15, S171_18, S171_21, S171_22, S171_25, S171_28, S171_29, S171_32, S171_33, S171_34, S171_35, S171_36, S171_37, S171_40, S171_41, S171_42, S171_45, S171_48, S171_49, S171_50, S171_51, S171_54, S171_55, S171_58, S171_60, S171_61, S171_62, S171_63, S171_64, S171_65, S171_66, S171_67, S171_68, S171_71, S171_74, S171_75, S171_76, S171_79, m_isPartX, m_refuse, shp_93, RV_93_1, RV_93_13, RV_93_14, RV_93_15, RV_93_16, RV_93_17, RV_93_18, RV_93_19, RV_93_20, RV_93_23, RV_93_24, RV_93_27, RV_93_28, RV_93_29, i2l0]
    by_cases hs : snd r l
    · rw [if_neg (fun z => pb_0.mp z hs)]
      have h2 : pb (isH y) = 0 := pb_0.mpr (fun z => hx ⟨⟨l, hs, rfl⟩, z⟩)
      simp only [h2, ne_eq, not_true_eq_false, if_false, if_true, ↓reduceIte]
      exact k1
    · rw [if_pos (pb_0.mpr hs)]
      exact k1
  · rw [if_pos (pb_0.mpr h1)]
    exact k1
theorem m_check_yes (hr : h.1 95 = r) (hV : VR r) (hl : snd r l) (hy : isH y) (kk : mPost r h Q 0 (some (.long (hlf (chkI r l) (dN r) y)))) : WP (d + 9) 171 0 [some (.ref 93), some (.int (nI l)), some (.int y), none, none] [] h Q := by
  have h11 := hV.2.1.2
  have hll := hl.1
  have hl11 : l < 11 := by omega
  have hVl := hV.2.2.2 l hl.1
  have h1 : ¬ pb (isL r (nI l)) = 0 := fun z => pb_0.mp z ⟨l, hl.1, rfl⟩
  have h2 : ¬ pb (isH y) = 0 := fun z => pb_0.mp z hy
  have h3 : ¬ pb (snd r l) = 0 := fun z => pb_0.mp z hl
  have hd := dN_b hV
  have hdi := dN_i hV
  have hc := chk_b hV hl
  have ec : lN (dN r) - (r (47 + l)).toInt64 * dbV r (rA r l) (rB r l) = iL (chkI r l) := by
    rw [eI_of (db_V hV), iL_32, iL_mul, ← iL_N, dN_i hV, iL_sub]
    rfl
  simp only [S171_0, S171_1, S171_2, S171_5, S171_6, S171_7, S171_10, S171_13, S171_14, S171_15, S171_18, S171_21, S171_22, S171_25, S171_28, S171_29, S171_32, S171_33, S171_34, S171_35, S171_36, S171_37, S171_40, S171_41, S171_42, S171_45, S171_48, S171_49, S171_50, S171_51, S171_54, S171_55, S171_58, S171_60, S171_61, S171_62, S171_63, S171_64, S171_65, S171_66, S171_67, S171_68, S171_71, S171_74, S171_75, S171_76, S171_79, shp_93, RV_93_1, RV_93_13, RV_93_14, RV_93_15, RV_93_16, RV_93_17, RV_93_18, RV_93_19, RV_93_20, RV_93_23, RV_93_24, RV_93_27, RV_93_28, RV_93_29, m_isLineX (r0 (x := 0) hr) hV, m_isSoundX (r0 (x := 0) hr) hV hl.1, m_isPartX, m_refuse, kR_at, if_neg h1, if_neg h3, h2, ne_eq, not_false_eq_true, if_false, if_true, ↓reduceIte, m_first hl11, m_second hl11, r0 (x := 0) hr, hVl.1.1, hVl.2.1.1]
  refine m_doubtOf (d := d + 1) (r0 hr) hV hVl.1.2 hVl.2.1.2 (db_nz hV) (fun h1 f1 m1 s1 => ?_)
  rw [db_d hV, d_lN hV] at s1
  simp only [kR_at, S171_0, S171_1, S171_2, S171_5, S171_6, S171_7, S171_10, S171_13, S171_14, S171_15, S171_18, S171_21, S171_22, S171_25, S171_28, S171_29, S171_32, S171_33, S171_34, S171_35, S171_36, S171_37, S171_40, S171_41, S171_42, S171_45, S171_48, S171_49, S171_50, S171_51, S171_54, S171_55, S171_58, S171_60, S171_61, S171_62, S171_63, S171_64, S171_65, S171_66, S171_67, S171_68, S171_71, S171_74, S171_75, S171_76, S171_79, shp_93, RV_93_1, RV_93_13, RV_93_14, RV_93_15, RV_93_16, RV_93_17, RV_93_18, RV_93_19, RV_93_20, RV_93_23, RV_93_24, RV_93_27, RV_93_28, RV_93_29, s1, m1.1, la_47, ok95 (show 47 + l < 69 by omega), nI_cl (show 47 + l < 2147483648 by omega), ec, kl_none, kl_int]
  refine m_tellsI (by omega) hd.1 (by omega) (fun h2 f2 e1 e2 e3 e4 e5 => ?_)
  simp only [kV_at, S171_0, S171_1, S171_2, S171_5, S171_6, S171_7, S171_10, S171_13, S171_14, S171_15, S171_18, S171_21, S171_22, S171_25, S171_28, S171_29, S171_32, S171_33, S171_34, S171_35, S171_36, S171_37, S171_40, S171_41, S171_42, S171_45, S171_48, S171_49, S171_50, S171_51, S171_54, S171_55, S171_58, S171_60, S171_61, S171_62, S171_63, S171_64, S171_65, S171_66, S171_67, S171_68, S171_71, S171_74, S171_75, S171_76, S171_79, shp_93, RV_93_1, RV_93_13, RV_93_14, RV_93_15, RV_93_16, RV_93_17, RV_93_18, RV_93_19, RV_93_20, RV_93_23, RV_93_24, RV_93_27, RV_93_28, RV_93_29, m_saidX hy e4 e5, kR_at]
  exact kk h2 (frmF_tr M0 (frmF_tr (pfr_m f1) (pfr_m f2))) (by rw [e1]; exact m1.1) (by rw [e1, mfr_t f1]; exact t0)
theorem m_doubt_no (hr : h.1 95 = r) (hV : VR r) (hx : ¬ (isP r x ∧ isP r z ∧ isH y)) (kk : mPost r h Q 1 (some (.long 0))) : WP (d + 9) 169 0 [some (.ref 93), some (.int x), some (.int z), some (.int y), none, none] [] h Q := by
  have k1 := ref_post hr kk
  simp only [S169_0, S169_1, S169_2, S169_5, S169_6, S169_7, S169_10, S169_13, S169_14, S169_15, S169_18, S169_21, S169_22, S169_25, S169_28, S169_29, S169_30, S169_31, S169_32, S169_35, S169_38, S169_41, S169_42, S169_45, S169_46, S169_47, S169_48, S169_49, S169_52, S169_53, S169_56, S169_57, S169_58, S169_59, S169_62, S169_64, S169_65, S169_67, S169_68, S169_69, S169_72, S169_73, S169_76, S169_77, S169_80, S169_83, S169_84, S169_85, S169_88, shp_93, RV_93_1, RV_93_13, RV_93_14, RV_93_15, RV_93_16, RV_93_17, RV_93_18, RV_93_19, RV_93_20, RV_93_23, RV_93_24, RV_93_27, RV_93_28, RV_93_29, m_isPointX (r0 (x := 0) hr) hV, m_isPartX, m_refuse, kR_at, i2l0]
  by_cases h1 : isP r x
  · rw [if_neg (fun z => pb_0.mp z h1)]
    by_cases h3 : isP r z
    · rw [if_neg (fun z => pb_0.mp z h3)]
      have h2 : pb (isH y) = 0 := pb_0.mpr (fun z => hx ⟨h1, h3, z⟩)
      rw [if_pos h2]
      exact k1
    · rw [if_pos (pb_0.mpr h3)]
      exact k1
  · rw [if_pos (pb_0.mpr h1)]
    exact k1
theorem dbt_pp (p : Nat) : dbt r p p = 0 := by unfold dbt; omega
theorem m_doubt_yes (hr : h.1 95 = r) (hV : VR r) (hp : p < rP r) (hq : q < rP r) (hy : isH y) (k0 : ¬ Td r (snd r) p q → mPost r h Q 1 (some (.long 0))) (kk : Td r (snd r) p q → mPost r h Q 0 (some (.long (hlf (dbt r p q) (dN r) y)))) : WP (d + 9) 169 0 [some (.ref 93), some (.int (nI p)), some (.int (nI q)), some (.int y), none, none] [] h Q := by
  have h6 := hV.1.2
  have h1 : ¬ pb (isP r (nI p)) = 0 := fun z => pb_0.mp z ⟨p, hp, rfl⟩
  have h3 : ¬ pb (isP r (nI q)) = 0 := fun z => pb_0.mp z ⟨q, hq, rfl⟩
  have h2 : ¬ pb (isH y) = 0 := fun z => pb_0.mp z hy
  have hd := dN_b hV
  have hb := dbt_b (p := p) (q := q) hV
  have hr1 := r0 (h := h) (x := 0) hr
  have hV1 : VR ((setI h 93 0 0).1 95) := by rw [hr1]; exact hV
  have hp1 : p < rP ((setI h 93 0 0).1 95) := by rw [hr1]; exact hp
  have hq1 : q < rP ((setI h 93 0 0).1 95) := by rw [hr1]; exact hq
  simp only [S169_0, S169_1, S169_2, S169_5, S169_6, S169_7, S169_10, S169_13, S169_14, S169_15, S169_18, S169_21, S169_22, S169_25, S169_28, S169_29, S169_30, S169_31, S169_32, S169_35, S169_38, S169_41, S169_42, S169_45, S169_46, S169_47, S169_48, S169_49, S169_52, S169_53, S169_56, S169_57, S169_58, S169_59, S169_62, S169_64, S169_65, S169_67, S169_68, S169_69, S169_72, S169_73, S169_76, S169_77, S169_80, S169_83, S169_84, S169_85, S169_88, shp_93, RV_93_1, RV_93_13, RV_93_14, RV_93_15, RV_93_16, RV_93_17, RV_93_18, RV_93_19, RV_93_20, RV_93_23, RV_93_24, RV_93_27, RV_93_28, RV_93_29, m_isPointX hr1 hV, m_isPartX, m_refuse, kR_at, if_neg h1, if_neg h3, if_neg h2, i2l0, m_sound hV1]
  rw [m_areTiedX (d := d + 5) hV1 (S := snd ((setI h 93 0 0).1 95)) (fun i hi => bt_mask (by omega)) hp1 hq1]
  simp only [kR_at, S169_0, S169_1, S169_2, S169_5, S169_6, S169_7, S169_10, S169_13, S169_14, S169_15, S169_18, S169_21, S169_22, S169_25, S169_28, S169_29, S169_30, S169_31, S169_32, S169_35, S169_38, S169_41, S169_42, S169_45, S169_46, S169_47, S169_48, S169_49, S169_52, S169_53, S169_56, S169_57, S169_58, S169_59, S169_62, S169_64, S169_65, S169_67, S169_68, S169_69, S169_72, S169_73, S169_76, S169_77, S169_80, S169_83, S169_84, S169_85, S169_88, shp_93, RV_93_1, RV_93_13, RV_93_14, RV_93_15, RV_93_16, RV_93_17, RV_93_18, RV_93_19, RV_93_20, RV_93_23, RV_93_24, RV_93_27, RV_93_28, RV_93_29, m_refuse, i2l0, hr1]
  by_cases ht : Td r (snd r) p q
  · have ne : ¬ pb (Td r (snd r) p q) = 0 := fun z => pb_0.mp z ht
    simp only [ne, ne_eq, not_false_eq_true, if_false, if_true, ↓reduceIte, nI_eq (show p < 2 ^ 31 by omega) (show q < 2 ^ 31 by omega), S169_0, S169_1, S169_2, S169_5, S169_6, S169_7, S169_10, S169_13, S169_14, S169_15, S169_18, S169_21, S169_22, S169_25, S169_28, S169_29, S169_30, S169_31, S169_32, S169_35, S169_38, S169_41, S169_42, S169_45, S169_46, S169_47, S169_48, S169_49, S169_52, S169_53, S169_56, S169_57, S169_58, S169_59, S169_62, S169_64, S169_65, S169_67, S169_68, S169_69, S169_72, S169_73, S169_76, S169_77, S169_80, S169_83, S169_84, S169_85, S169_88, shp_93, RV_93_1, RV_93_13, RV_93_14, RV_93_15, RV_93_16, RV_93_17, RV_93_18, RV_93_19, RV_93_20, RV_93_23, RV_93_24, RV_93_27, RV_93_28, RV_93_29]
    have k1 := kk ht
    by_cases e : p = q
    · subst e
      simp only [not_true_eq_false, if_false, if_true, ↓reduceIte, S169_0, S169_1, S169_2, S169_5, S169_6, S169_7, S169_10, S169_13, S169_14, S169_15, S169_18, S169_21, S169_22, S169_25, S169_28, S169_29, S169_30, S169_31, S169_32, S169_35, S169_38, S169_41, S169_42, S169_45, S169_46, S169_47, S169_48, S169_49, S169_52, S169_53, S169_56, S169_57, S169_58, S169_59, S169_62, S169_64, S169_65, S169_67, S169_68, S169_69, S169_72, S169_73, S169_76, S169_77, S169_80, S169_83, S169_84, S169_85, S169_88, shp_93, RV_93_1, RV_93_13, RV_93_14, RV_93_15, RV_93_16, RV_93_17, RV_93_18, RV_93_19, RV_93_20, RV_93_23, RV_93_24, RV_93_27, RV_93_28, RV_93_29, kl_none, kl_int]
      have er := r_eq (a := 0) (a' := dbt r p p) (b := 1) (b' := dN r) (by omega) hd.1 (by rw [dbt_pp]; omega)
      refine m_tellsI (v := 0) (B := 1) (by decide) (by decide) (by decide) (fun h2 f2 e1 e2 e3 e4 e5 => ?_)
      rw [er.1] at e4
      rw [er.2] at e5
      simp only [kV_at, S169_0, S169_1, S169_2, S169_5, S169_6, S169_7, S169_10, S169_13, S169_14, S169_15, S169_18, S169_21, S169_22, S169_25, S169_28, S169_29, S169_30, S169_31, S169_32, S169_35, S169_38, S169_41, S169_42, S169_45, S169_46, S169_47, S169_48, S169_49, S169_52, S169_53, S169_56, S169_57, S169_58, S169_59, S169_62, S169_64, S169_65, S169_67, S169_68, S169_69, S169_72, S169_73, S169_76, S169_77, S169_80, S169_83, S169_84, S169_85, S169_88, shp_93, RV_93_1, RV_93_13, RV_93_14, RV_93_15, RV_93_16, RV_93_17, RV_93_18, RV_93_19, RV_93_20, RV_93_23, RV_93_24, RV_93_27, RV_93_28, RV_93_29, m_saidX hy e4 e5, kR_at]
      exact k1 h2 (frmF_tr M0 (pfr_m f2)) (by rw [e1]; exact hr1) (by rw [e1]; exact t0)
    · simp only [e, not_false_eq_true, if_true, ↓reduceIte, S169_0, S169_1, S169_2, S169_5, S169_6, S169_7, S169_10, S169_13, S169_14, S169_15, S169_18, S169_21, S169_22, S169_25, S169_28, S169_29, S169_30, S169_31, S169_32, S169_35, S169_38, S169_41, S169_42, S169_45, S169_46, S169_47, S169_48, S169_49, S169_52, S169_53, S169_56, S169_57, S169_58, S169_59, S169_62, S169_64, S169_65, S169_67, S169_68, S169_69, S169_72, S169_73, S169_76, S169_77, S169_80, S169_83, S169_84, S169_85, S169_88, shp_93, RV_93_1, RV_93_13, RV_93_14, RV_93_15, RV_93_16, RV_93_17, RV_93_18, RV_93_19, RV_93_20, RV_93_23, RV_93_24, RV_93_27, RV_93_28, RV_93_29]
      refine m_doubtOf (d := d + 1) hr1 hV hp hq (db_nz hV) (fun h1 f1 m1 s1 => ?_)
      rw [db_d hV, d_lN hV] at s1
      simp only [kR_at, S169_0, S169_1, S169_2, S169_5, S169_6, S169_7, S169_10, S169_13, S169_14, S169_15, S169_18, S169_21, S169_22, S169_25, S169_28, S169_29, S169_30, S169_31, S169_32, S169_35, S169_38, S169_41, S169_42, S169_45, S169_46, S169_47, S169_48, S169_49, S169_52, S169_53, S169_56, S169_57, S169_58, S169_59, S169_62, S169_64, S169_65, S169_67, S169_68, S169_69, S169_72, S169_73, S169_76, S169_77, S169_80, S169_83, S169_84, S169_85, S169_88, shp_93, RV_93_1, RV_93_13, RV_93_14, RV_93_15, RV_93_16, RV_93_17, RV_93_18, RV_93_19, RV_93_20, RV_93_23, RV_93_24, RV_93_27, RV_93_28, RV_93_29, s1, kl_none, kl_int, nI_eq (show p < 2 ^ 31 by omega) (show q < 2 ^ 31 by omega), e, not_false_eq_true, if_true, ↓reduceIte, eI_of (db_V (p := p) (q := q) hV)]
      refine m_tellsI (by omega) hd.1 (by omega) (fun h2 f2 e1 e2 e3 e4 e5 => ?_)
      simp only [kV_at, S169_0, S169_1, S169_2, S169_5, S169_6, S169_7, S169_10, S169_13, S169_14, S169_15, S169_18, S169_21, S169_22, S169_25, S169_28, S169_29, S169_30, S169_31, S169_32, S169_35, S169_38, S169_41, S169_42, S169_45, S169_46, S169_47, S169_48, S169_49, S169_52, S169_53, S169_56, S169_57, S169_58, S169_59, S169_62, S169_64, S169_65, S169_67, S169_68, S169_69, S169_72, S169_73, S169_76, S169_77, S169_80, S169_83, S169_84, S169_85, S169_88, shp_93, RV_93_1, RV_93_13, RV_93_14, RV_93_15, RV_93_16, RV_93_17, RV_93_18, RV_93_19, RV_93_20, RV_93_23, RV_93_24, RV_93_27, RV_93_28, RV_93_29, m_saidX hy e4 e5, kR_at]
      exact k1 h2 (frmF_tr M0 (frmF_tr (pfr_m f1) (pfr_m f2))) (by rw [e1]; exact m1.1) (by rw [e1, mfr_t f1]; exact t0)
  · have k1 := ref_post hr (k0 ht)
    have e : pb (Td r (snd r) p q) = 0 := pb_0.mpr ht
    simp only [e, ne_eq, not_true_eq_false, if_false, if_true, ↓reduceIte, S169_0, S169_1, S169_2, S169_5, S169_6, S169_7, S169_10, S169_13, S169_14, S169_15, S169_18, S169_21, S169_22, S169_25, S169_28, S169_29, S169_30, S169_31, S169_32, S169_35, S169_38, S169_41, S169_42, S169_45, S169_46, S169_47, S169_48, S169_49, S169_52, S169_53, S169_56, S169_57, S169_58, S169_59, S169_62, S169_64, S169_65, S169_67, S169_68, S169_69, S169_72, S169_73, S169_76, S169_77, S169_80, S169_83, S169_84, S169_85, S169_88, shp_93, RV_93_1, RV_93_13, RV_93_14, RV_93_15, RV_93_16, RV_93_17, RV_93_18, RV_93_19, RV_93_20, RV_93_23, RV_93_24, RV_93_27, RV_93_28, RV_93_29, m_refuse, kR_at, i2l0]
    exact k1
end
