/-! The model's wanted and fall, run. -/
section
variable {d : Nat} {h : Hp} {Q : Option (Option Value) → Hp → Prop} {x y z t : Int32} {u w v rs : Int64} {k l p q : Nat} {r : Nat → Int32}
theorem m_said0 : WP d 152 0 [some (.ref 93), some (.int 0)] [] h Q ↔ Q (some (some (.long (h.2.1 106 0)))) h := m_said (k := 0) (by omega)
theorem m_said1 : WP d 152 0 [some (.ref 93), some (.int 1)] [] h Q ↔ Q (some (some (.long (h.2.1 106 1)))) h := m_said (k := 1) (by omega)
theorem m_laysFall (hr : h.1 95 = r) (hV : VR r) (hl : snd r l)
    (kk : ∀ h' : Hp, frmF WFs h h' → h'.1 95 = r → h'.2.1 106 0 = iL (rN (fA r l) (fB r l)) → h'.2.1 106 1 = lN (rD (fA r l) (fB r l)) → Q (some none) h') :
    WP (d + 9) 174 0 [some (.ref 93), some (.int (nI l)), none, none, none, none, none, none] [] h Q := by
  simp only [S174_0, S174_1, S174_2, S174_5, S174_8, S174_9, S174_10, S174_11, S174_14, S174_15, S174_16, S174_17, S174_20, S174_21, S174_24, S174_25, S174_26, S174_27, S174_30, S174_31, S174_34, S174_37, S174_38, S174_39, S174_42, S174_43, S174_44, S174_45, S174_48, S174_50, S174_51, S174_52, S174_55, S174_56, S174_59, S174_61, S174_62, S174_63, S174_64, S174_65, S174_66, S174_69, S174_70, S174_71, S174_72, S174_75, S174_78, S174_79, S174_80, S174_83, S174_85, S174_86, S174_87, S174_90, S174_92, S174_93, S174_94, S174_95, S174_96, S174_97, S174_98, S174_100, S174_101, S174_103, S174_104, S174_105, S174_108, S174_109, S174_112, shp_93, RV_93_1, RV_93_13, RV_93_14, RV_93_15, RV_93_16, RV_93_17, RV_93_18, RV_93_19, RV_93_20, RV_93_23, RV_93_24, RV_93_27, RV_93_28, RV_93_29, m_isBridgeX (d := d + 4) hr hV hl.1, kR_at]
  by_cases hb : brg r l
  · rw [if_neg (fun z => pb_0.mp z hb)]
    refine m_tellsI (v := 0) (B := 1) (by decide) (by decide) (by decide) (fun h2 f2 e1 e2 e3 e4 e5 => ?_)
    simp only [kV_at, S174_0, S174_1, S174_2, S174_5, S174_8, S174_9, S174_10, S174_11, S174_14, S174_15, S174_16, S174_17, S174_20, S174_21, S174_24, S174_25, S174_26, S174_27, S174_30, S174_31, S174_34, S174_37, S174_38, S174_39, S174_42, S174_43, S174_44, S174_45, S174_48, S174_50, S174_51, S174_52, S174_55, S174_56, S174_59, S174_61, S174_62, S174_63, S174_64, S174_65, S174_66, S174_69, S174_70, S174_71, S174_72, S174_75, S174_78, S174_79, S174_80, S174_83, S174_85, S174_86, S174_87, S174_90, S174_92, S174_93, S174_94, S174_95, S174_96, S174_97, S174_98, S174_100, S174_101, S174_103, S174_104, S174_105, S174_108, S174_109, S174_112]
    refine kk h2 (wfs_m f2) (by rw [e1]; exact hr) ?_ ?_
    · rw [fA_y hb, fB_y hb]; exact e4
    · rw [fA_y hb, fB_y hb]; exact e5
  · rw [if_pos (pb_0.mpr hb)]
    have h11 := hV.2.1.2
    have hll := hl.1
    have hV' := strk_V (k := l) hV
    have hd := dN_b hV
    have hob := (off_eI hV hl.1).2
    obtain ⟨v1, v2, v3, v4, v5, v6, v7, v8⟩ := fall_r (V2 := rN (wanI r l) (dN (strk r l)) - (r (36 + l)).toInt * (rD (wanI r l) (dN (strk r l)) : Nat)) (B2 := rD (wanI r l) (dN (strk r l))) hV hl hb rfl rfl
    refine m_laysWanted (d := d) hr hV hl (fun h1 f1 r1 a1 a2 => ?_)
    simp only [kV_at, S174_0, S174_1, S174_2, S174_5, S174_8, S174_9, S174_10, S174_11, S174_14, S174_15, S174_16, S174_17, S174_20, S174_21, S174_24, S174_25, S174_26, S174_27, S174_30, S174_31, S174_34, S174_37, S174_38, S174_39, S174_42, S174_43, S174_44, S174_45, S174_48, S174_50, S174_51, S174_52, S174_55, S174_56, S174_59, S174_61, S174_62, S174_63, S174_64, S174_65, S174_66, S174_69, S174_70, S174_71, S174_72, S174_75, S174_78, S174_79, S174_80, S174_83, S174_85, S174_86, S174_87, S174_90, S174_92, S174_93, S174_94, S174_95, S174_96, S174_97, S174_98, S174_100, S174_101, S174_103, S174_104, S174_105, S174_108, S174_109, S174_112, shp_93, RV_93_1, RV_93_13, RV_93_14, RV_93_15, RV_93_16, RV_93_17, RV_93_18, RV_93_19, RV_93_20, RV_93_23, RV_93_24, RV_93_27, RV_93_28, RV_93_29]
    refine m_solveNow (d := d + 1) r1 hV (LS_nz hV) (fun h2 f2 m2 s2 => ?_)
    simp only [kV_at, S174_0, S174_1, S174_2, S174_5, S174_8, S174_9, S174_10, S174_11, S174_14, S174_15, S174_16, S174_17, S174_20, S174_21, S174_24, S174_25, S174_26, S174_27, S174_30, S174_31, S174_34, S174_37, S174_38, S174_39, S174_42, S174_43, S174_44, S174_45, S174_48, S174_50, S174_51, S174_52, S174_55, S174_56, S174_59, S174_61, S174_62, S174_63, S174_64, S174_65, S174_66, S174_69, S174_70, S174_71, S174_72, S174_75, S174_78, S174_79, S174_80, S174_83, S174_85, S174_86, S174_87, S174_90, S174_92, S174_93, S174_94, S174_95, S174_96, S174_97, S174_98, S174_100, S174_101, S174_103, S174_104, S174_105, S174_108, S174_109, S174_112, shp_93, RV_93_1, RV_93_13, RV_93_14, RV_93_15, RV_93_16, RV_93_17, RV_93_18, RV_93_19, RV_93_20, RV_93_23, RV_93_24, RV_93_27, RV_93_28, RV_93_29, m_offOf (d := d + 7) hV m2.1 s2 hl.1, kR_at, s2.1, gjN_d hV, off_N hV hl.1]
    refine m_tellsI (by omega) hd.1 (by omega) (fun h3 f3 e1 e2 e3 e4 e5 => ?_)
    have b1 : h3.2.1 93 30 = iL (rN (wanI r l) (dN (strk r l))) := by rw [e2, mfr_f f2 (by omega)]; exact a1
    have b2 : h3.2.1 93 31 = lN (rD (wanI r l) (dN (strk r l))) := by rw [e2, mfr_f f2 (by omega)]; exact a2
    have b3 : h3.1 95 = r := by rw [e1]; exact m2.1
    have ev : iL (rN (wanI r l) (dN (strk r l))) - (r (36 + l)).toInt64 * lN (rD (wanI r l) (dN (strk r l))) = iL (rN (wanI r l) (dN (strk r l)) - (r (36 + l)).toInt * (rD (wanI r l) (dN (strk r l)) : Nat)) := by rw [iL_32, ← iL_N, iL_mul, iL_sub]
    simp only [kV_at, S174_0, S174_1, S174_2, S174_5, S174_8, S174_9, S174_10, S174_11, S174_14, S174_15, S174_16, S174_17, S174_20, S174_21, S174_24, S174_25, S174_26, S174_27, S174_30, S174_31, S174_34, S174_37, S174_38, S174_39, S174_42, S174_43, S174_44, S174_45, S174_48, S174_50, S174_51, S174_52, S174_55, S174_56, S174_59, S174_61, S174_62, S174_63, S174_64, S174_65, S174_66, S174_69, S174_70, S174_71, S174_72, S174_75, S174_78, S174_79, S174_80, S174_83, S174_85, S174_86, S174_87, S174_90, S174_92, S174_93, S174_94, S174_95, S174_96, S174_97, S174_98, S174_100, S174_101, S174_103, S174_104, S174_105, S174_108, S174_109, S174_112, shp_93, RV_93_1, RV_93_13, RV_93_14, RV_93_15, RV_93_16, RV_93_17, RV_93_18, RV_93_19, RV_93_20, RV_93_23, RV_93_24, RV_93_27, RV_93_28, RV_93_29, m_said0, m_said1, kR_at, e4, e5, b1, b2, b3, la_36, ok95 (show 36 + l < 69 by omega), nI_cl (show 36 + l < 2147483648 by omega), ev, kl_none, kl_int, kl_long]
    refine m_tellsI v1 v2 (by omega) (fun h4 f4 g1 g2 g3 g4 g5 => ?_)
    have b4 : h4.1 95 = r := by rw [g1]; exact b3
    simp only [kV_at, S174_0, S174_1, S174_2, S174_5, S174_8, S174_9, S174_10, S174_11, S174_14, S174_15, S174_16, S174_17, S174_20, S174_21, S174_24, S174_25, S174_26, S174_27, S174_30, S174_31, S174_34, S174_37, S174_38, S174_39, S174_42, S174_43, S174_44, S174_45, S174_48, S174_50, S174_51, S174_52, S174_55, S174_56, S174_59, S174_61, S174_62, S174_63, S174_64, S174_65, S174_66, S174_69, S174_70, S174_71, S174_72, S174_75, S174_78, S174_79, S174_80, S174_83, S174_85, S174_86, S174_87, S174_90, S174_92, S174_93, S174_94, S174_95, S174_96, S174_97, S174_98, S174_100, S174_101, S174_103, S174_104, S174_105, S174_108, S174_109, S174_112, shp_93, RV_93_1, RV_93_13, RV_93_14, RV_93_15, RV_93_16, RV_93_17, RV_93_18, RV_93_19, RV_93_20, RV_93_23, RV_93_24, RV_93_27, RV_93_28, RV_93_29, m_said0, m_said1, kR_at, g4, g5, b4, la_47, ok95 (show 47 + l < 69 by omega), nI_cl (show 47 + l < 2147483648 by omega), kl_none, kl_int, kl_long]
    rw [iL_32, iL_mul, iL_mul, lN_mul]
    refine m_tellsI v4 v5 v6 (fun h5 f5 k1 k2 k3 k4 k5 => ?_)
    simp only [kV_at, S174_0, S174_1, S174_2, S174_5, S174_8, S174_9, S174_10, S174_11, S174_14, S174_15, S174_16, S174_17, S174_20, S174_21, S174_24, S174_25, S174_26, S174_27, S174_30, S174_31, S174_34, S174_37, S174_38, S174_39, S174_42, S174_43, S174_44, S174_45, S174_48, S174_50, S174_51, S174_52, S174_55, S174_56, S174_59, S174_61, S174_62, S174_63, S174_64, S174_65, S174_66, S174_69, S174_70, S174_71, S174_72, S174_75, S174_78, S174_79, S174_80, S174_83, S174_85, S174_86, S174_87, S174_90, S174_92, S174_93, S174_94, S174_95, S174_96, S174_97, S174_98, S174_100, S174_101, S174_103, S174_104, S174_105, S174_108, S174_109, S174_112]
    rw [v7] at k4
    rw [v8] at k5
    exact kk h5 (frmF_tr f1 (frmF_tr (wfs_m f2) (frmF_tr (wfs_m f3) (frmF_tr (wfs_m f4) (wfs_m f5))))) (by rw [k1]; exact b4) k4 k5
end
