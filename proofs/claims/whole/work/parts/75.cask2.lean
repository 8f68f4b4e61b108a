/-! More of what the class answers. -/
section
variable {d : Nat} {h : Hp} {Q : Option (Option Value) → Hp → Prop} {x y z t : Int32} {u w v rs : Int64} {k l p q : Nat} {r : Nat → Int32}
theorem c_wanted_no (hC : cls r h) (hx : ¬ (isS r x ∧ isH y)) (kk : cPost r h Q none) : WP (d + 6) 70 0 [some (.ref 0), some (.int x), some (.int y), none, none] [] h Q := by
  have k1 := kk h frmF_rf hC
  simp only [S70_0, S70_1, S70_2, S70_5, S70_8, S70_9, S70_12, S70_15, S70_23, S70_24, S70_27, S70_28, S70_31, S70_34, S70_35, S70_38, S70_39, S70_42, S70_50, S70_51, S70_54, S70_55, S70_58, S70_59, S70_62, S70_63, S70_64, S70_67, S70_70, S70_71, S70_72, S70_73, S70_74, S70_75, S70_76, S70_79, S70_80, S70_83, S70_84, S70_87, S70_88, S70_89, S70_90, S70_93, shp_0, RV_0_0, RV_0_1, RV_0_2, RV_0_3, RV_0_4, RV_0_5, RV_0_9, RV_0_10, c_isSoundLineX hC.1 hC.2.1, c_isHalfX, kR_at]
  by_cases h1 : isS r x
  · rw [if_neg (fun z => pb_0.mp z h1)]
    have h2 : pb (isH y) = 0 := pb_0.mpr (fun z => hx ⟨h1, z⟩)
    simp only [h2, ne_eq, not_true_eq_false, if_false, if_true, ↓reduceIte]
    exact k1
  · rw [if_pos (pb_0.mpr h1)]
    exact k1
theorem c_wanted_br (hC : cls r h) (hl : brg r l) (hy : isH y) (kk : cPost r h Q none) : WP (d + 6) 70 0 [some (.ref 0), some (.int (nI l)), some (.int y), none, none] [] h Q := by
  have hV := hC.1
  have h11 := hV.2.1.2
  have h1 : ¬ pb (isS r (nI l)) = 0 := fun z => pb_0.mp z ⟨l, hl.1, rfl⟩
  have h2 : ¬ pb (isH y) = 0 := fun z => pb_0.mp z hy
  simp only [S70_0, S70_1, S70_2, S70_5, S70_8, S70_9, S70_12, S70_15, S70_23, S70_24, S70_27, S70_28, S70_31, S70_34, S70_35, S70_38, S70_39, S70_42, S70_50, S70_51, S70_54, S70_55, S70_58, S70_59, S70_62, S70_63, S70_64, S70_67, S70_70, S70_71, S70_72, S70_73, S70_74, S70_75, S70_76, S70_79, S70_80, S70_83, S70_84, S70_87, S70_88, S70_89, S70_90, S70_93, shp_0, RV_0_0, RV_0_1, RV_0_2, RV_0_3, RV_0_4, RV_0_5, RV_0_9, RV_0_10, shp_8, RV_8_0, RV_8_5, RV_8_6, shp_12, RV_12_1, RV_12_2, RV_12_3, c_isSoundLineX hC.1 hC.2.1, c_isHalfX, kR_at, if_neg h1, h2, ne_eq, not_false_eq_true, if_false, if_true, ↓reduceIte]
  refine c_settle (d := d) hC (fun h' f s z => ?_)
  have k1 := kk h' f (stl_cls s z)
  simp only [kV_at, S70_0, S70_1, S70_2, S70_5, S70_8, S70_9, S70_12, S70_15, S70_23, S70_24, S70_27, S70_28, S70_31, S70_34, S70_35, S70_38, S70_39, S70_42, S70_50, S70_51, S70_54, S70_55, S70_58, S70_59, S70_62, S70_63, S70_64, S70_67, S70_70, S70_71, S70_72, S70_73, S70_74, S70_75, S70_76, S70_79, S70_80, S70_83, S70_84, S70_87, S70_88, S70_89, S70_90, S70_93, shp_0, RV_0_0, RV_0_1, RV_0_2, RV_0_3, RV_0_4, RV_0_5, RV_0_9, RV_0_10, shp_8, RV_8_0, RV_8_5, RV_8_6, shp_12, RV_12_1, RV_12_2, RV_12_3, s.2.2.1.2.2.1, c_bit, bitm (show l < 32 by have := hl.1.1; omega), kR_at]
  rw [if_pos (pb_1.mpr hl)]
  exact k1
theorem c_wanted_yes (hC : cls r h) (hl : snd r l) (hb : ¬ brg r l) (hy : isH y) (kk : cPost r h Q (some (some (.long (hlf ((r (36 + l)).toInt * chkI r l + offI r l) (chkI r l).toNat y))))) : WP (d + 6) 70 0 [some (.ref 0), some (.int (nI l)), some (.int y), none, none] [] h Q := by
  have hV := hC.1
  have h11 := hV.2.1.2
  have hll := hl.1
  have hl11 : l < 11 := by omega
  have h1 : ¬ pb (isS r (nI l)) = 0 := fun z => pb_0.mp z ⟨l, hl, rfl⟩
  have h2 : ¬ pb (isH y) = 0 := fun z => pb_0.mp z hy
  have hd := dd_U hV
  have hc := chk_b hV hl
  have hc2 := chk_nb hV hl hb
  have ho := (off_eI hV hl.1).2
  have hr := (s_eI hV hl.1).2
  have hm : ((r (36 + l)).toInt * chkI r l).natAbs ≤ 99 * 2226204 := by rw [Int.natAbs_mul]; exact Nat.mul_le_mul hr (by omega)
  have ec : iL (chkI r l) = lN (chkI r l).toNat := by
    rw [← iL_N, Int.toNat_of_nonneg hc.1]
  simp only [S70_0, S70_1, S70_2, S70_5, S70_8, S70_9, S70_12, S70_15, S70_23, S70_24, S70_27, S70_28, S70_31, S70_34, S70_35, S70_38, S70_39, S70_42, S70_50, S70_51, S70_54, S70_55, S70_58, S70_59, S70_62, S70_63, S70_64, S70_67, S70_70, S70_71, S70_72, S70_73, S70_74, S70_75, S70_76, S70_79, S70_80, S70_83, S70_84, S70_87, S70_88, S70_89, S70_90, S70_93, shp_0, RV_0_0, RV_0_1, RV_0_2, RV_0_3, RV_0_4, RV_0_5, RV_0_9, RV_0_10, shp_8, RV_8_0, RV_8_5, RV_8_6, shp_12, RV_12_1, RV_12_2, RV_12_3, c_isSoundLineX hC.1 hC.2.1, c_isHalfX, kR_at, if_neg h1, h2, ne_eq, not_false_eq_true, if_false, if_true, ↓reduceIte]
  refine c_settle (d := d) hC (fun h' f s z => ?_)
  have k1 := kk h' f (stl_cls s z)
  have hNl := s.2.1.2.2.2.2.2 l hl.1
  simp only [kV_at, S70_0, S70_1, S70_2, S70_5, S70_8, S70_9, S70_12, S70_15, S70_23, S70_24, S70_27, S70_28, S70_31, S70_34, S70_35, S70_38, S70_39, S70_42, S70_50, S70_51, S70_54, S70_55, S70_58, S70_59, S70_62, S70_63, S70_64, S70_67, S70_70, S70_71, S70_72, S70_73, S70_74, S70_75, S70_76, S70_79, S70_80, S70_83, S70_84, S70_87, S70_88, S70_89, S70_90, S70_93, shp_0, RV_0_0, RV_0_1, RV_0_2, RV_0_3, RV_0_4, RV_0_5, RV_0_9, RV_0_10, shp_8, RV_8_0, RV_8_5, RV_8_6, shp_12, RV_12_1, RV_12_2, RV_12_3, shp_21, RV_21_2, RV_21_5, RV_21_6, RV_21_7, RV_21_8, s.2.2.1.2.2.1, c_bit, bitm (show l < 32 by omega), kR_at]
  rw [if_neg (fun z => hb (pb_1.mp z))]
  simp only [S70_0, S70_1, S70_2, S70_5, S70_8, S70_9, S70_12, S70_15, S70_23, S70_24, S70_27, S70_28, S70_31, S70_34, S70_35, S70_38, S70_39, S70_42, S70_50, S70_51, S70_54, S70_55, S70_58, S70_59, S70_62, S70_63, S70_64, S70_67, S70_70, S70_71, S70_72, S70_73, S70_74, S70_75, S70_76, S70_79, S70_80, S70_83, S70_84, S70_87, S70_88, S70_89, S70_90, S70_93, shp_0, RV_0_0, RV_0_1, RV_0_2, RV_0_3, RV_0_4, RV_0_5, RV_0_9, RV_0_10, shp_8, RV_8_0, RV_8_5, RV_8_6, shp_12, RV_12_1, RV_12_2, RV_12_3, shp_21, RV_21_2, RV_21_5, RV_21_6, RV_21_7, RV_21_8, c_checkAbove s hl.1, c_offAbove s hl.1, kR_at, kl_none, kl_int, ok25 hl11, nI_cl (show l < 2147483648 by omega), hNl.2.2.1, iL_32, ec]
  rw [show iL (r (36 + l)).toInt * lN (chkI r l).toNat + iL (offI r l) = iL ((r (36 + l)).toInt * chkI r l + offI r l) by rw [← ec, iL_mul, iL_add], c_halfI (d := d + 4) (by omega) (by omega) (by omega)]
  simp only [kR_at, S70_0, S70_1, S70_2, S70_5, S70_8, S70_9, S70_12, S70_15, S70_23, S70_24, S70_27, S70_28, S70_31, S70_34, S70_35, S70_38, S70_39, S70_42, S70_50, S70_51, S70_54, S70_55, S70_58, S70_59, S70_62, S70_63, S70_64, S70_67, S70_70, S70_71, S70_72, S70_73, S70_74, S70_75, S70_76, S70_79, S70_80, S70_83, S70_84, S70_87, S70_88, S70_89, S70_90, S70_93]
  exact k1
theorem c_doubt_no (hC : cls r h) (hx : ¬ (isP r x ∧ isP r z ∧ isH y)) (kk : cPost r h Q none) : WP (d + 6) 72 0 [some (.ref 0), some (.int x), some (.int z), some (.int y)] [] h Q := by
  have k1 := kk h frmF_rf hC
  simp only [S72_0, S72_1, S72_2, S72_5, S72_8, S72_9, S72_10, S72_13, S72_16, S72_17, S72_20, S72_23, S72_31, S72_32, S72_35, S72_36, S72_39, S72_42, S72_43, S72_44, S72_45, S72_48, S72_51, S72_52, S72_53, S72_56, S72_64, S72_65, S72_68, S72_69, S72_70, S72_73, S72_74, S72_77, S72_80, S72_81, S72_84, shp_0, RV_0_0, RV_0_1, RV_0_2, RV_0_3, RV_0_4, RV_0_5, RV_0_9, RV_0_10, c_isPointX hC.1 hC.2.1, c_isHalfX, kR_at]
  by_cases h1 : isP r x
  · rw [if_neg (fun z => pb_0.mp z h1)]
    by_cases h3 : isP r z
    · rw [if_neg (fun z => pb_0.mp z h3)]
      have h2 : pb (isH y) = 0 := pb_0.mpr (fun z => hx ⟨h1, h3, z⟩)
      simp only [h2, ne_eq, not_true_eq_false, if_false, if_true, ↓reduceIte]
      exact k1
    · rw [if_pos (pb_0.mpr h3)]
      exact k1
  · rw [if_pos (pb_0.mpr h1)]
    exact k1
theorem dbt_b (hV : VR r) : (dbt r p q).natAbs ≤ 569908224 := (db_V hV).2
theorem c_doubt_yes (hC : cls r h) (hp : p < rP r) (hq : q < rP r) (hy : isH y) (k0 : ¬ Td r (snd r) p q → cPost r h Q none) (kk : Td r (snd r) p q → cPost r h Q (some (some (.long (hlf (dbt r p q) (dN r) y))))) : WP (d + 6) 72 0 [some (.ref 0), some (.int (nI p)), some (.int (nI q)), some (.int y)] [] h Q := by
  have hV := hC.1
  have h6 := hV.1.2
  have h1 : ¬ pb (isP r (nI p)) = 0 := fun z => pb_0.mp z ⟨p, hp, rfl⟩
  have h3 : ¬ pb (isP r (nI q)) = 0 := fun z => pb_0.mp z ⟨q, hq, rfl⟩
  have h2 : ¬ pb (isH y) = 0 := fun z => pb_0.mp z hy
  have hd := dN_b hV
  have hb := dbt_b (p := p) (q := q) hV
  simp only [S72_0, S72_1, S72_2, S72_5, S72_8, S72_9, S72_10, S72_13, S72_16, S72_17, S72_20, S72_23, S72_31, S72_32, S72_35, S72_36, S72_39, S72_42, S72_43, S72_44, S72_45, S72_48, S72_51, S72_52, S72_53, S72_56, S72_64, S72_65, S72_68, S72_69, S72_70, S72_73, S72_74, S72_77, S72_80, S72_81, S72_84, shp_0, RV_0_0, RV_0_1, RV_0_2, RV_0_3, RV_0_4, RV_0_5, RV_0_9, RV_0_10, shp_8, RV_8_0, RV_8_5, RV_8_6, shp_12, RV_12_1, RV_12_2, RV_12_3, c_isPointX hC.1 hC.2.1, c_isHalfX, kR_at, if_neg h1, if_neg h3, h2, ne_eq, not_false_eq_true, if_false, if_true, ↓reduceIte]
  refine c_settle (d := d) hC (fun h' f s z => ?_)
  have e1 := s.2.2.1.1.2.1 p (by omega)
  have e2 := s.2.2.1.1.2.1 q (by omega)
  have hpp := (ptOf_ok r p).2.1
  have hqq := (ptOf_ok r q).2.1
  simp only [kV_at, S72_0, S72_1, S72_2, S72_5, S72_8, S72_9, S72_10, S72_13, S72_16, S72_17, S72_20, S72_23, S72_31, S72_32, S72_35, S72_36, S72_39, S72_42, S72_43, S72_44, S72_45, S72_48, S72_51, S72_52, S72_53, S72_56, S72_64, S72_65, S72_68, S72_69, S72_70, S72_73, S72_74, S72_77, S72_80, S72_81, S72_84, shp_0, RV_0_0, RV_0_1, RV_0_2, RV_0_3, RV_0_4, RV_0_5, RV_0_9, RV_0_10, shp_8, RV_8_0, RV_8_5, RV_8_6, shp_12, RV_12_1, RV_12_2, RV_12_3, ok9 (show p < 6 by omega), ok9 (show q < 6 by omega), nI_cl (show p < 2147483648 by omega), nI_cl (show q < 2147483648 by omega), e1, e2, nI_eq (show ptOf r p < 2 ^ 31 by omega) (show ptOf r q < 2 ^ 31 by omega)]
  by_cases ht : Td r (snd r) p q
  · have k1 := kk ht h' f (stl_cls s z)
    rw [if_pos (ptOf_td.mpr ht)]
    simp only [S72_0, S72_1, S72_2, S72_5, S72_8, S72_9, S72_10, S72_13, S72_16, S72_17, S72_20, S72_23, S72_31, S72_32, S72_35, S72_36, S72_39, S72_42, S72_43, S72_44, S72_45, S72_48, S72_51, S72_52, S72_53, S72_56, S72_64, S72_65, S72_68, S72_69, S72_70, S72_73, S72_74, S72_77, S72_80, S72_81, S72_84, shp_0, RV_0_0, RV_0_1, RV_0_2, RV_0_3, RV_0_4, RV_0_5, RV_0_9, RV_0_10, shp_8, RV_8_0, RV_8_5, RV_8_6, shp_12, RV_12_1, RV_12_2, RV_12_3, c_doubtAbove s hp hq, s.2.2.2.2.2.1, d_lN hV, c_halfI (d := d + 4) (v := dbt r p q) (B := dN r) (by omega) hd.1 (by omega), kR_at]
    exact k1
  · rw [if_neg (fun z => ht (ptOf_td.mp z))]
    exact k0 ht h' f (stl_cls s z)
/-! rings -/
theorem clsd_no (hx : ¬ isL r x) : ¬ clsd r x := fun z => by
  obtain ⟨l, h1, h2, _⟩ := z
  exact hx ⟨l, h1, h2⟩
theorem clsd_nI (hV : VR r) (hl : l < rL r) : clsd r (nI l) ↔ rngL r l := by
  have h11 := hV.2.1.2
  constructor
  · intro z
    obtain ⟨l', h1, h2, h3⟩ := z
    have := (nI_eq (by omega) (by omega)).mp h2
    rw [this]
    exact h3
  · exact fun z => ⟨l, hl, rfl, z⟩
theorem c_hasRing (s : stl r h) : WP (d + 6) 92 0 [some (.ref 0), some (.int x)] [] h Q ↔ Q (some (some (.int (pb (clsd r x))))) h := by
  have hV := s.1
  have h11 := hV.2.1.2
  simp only [S92_0, S92_1, S92_2, S92_5, S92_8, S92_9, S92_12, S92_15, S92_16, S92_19, S92_20, S92_23, S92_24, S92_27, S92_28, shp_0, RV_0_0, RV_0_1, RV_0_2, RV_0_3, RV_0_4, RV_0_5, RV_0_9, RV_0_10, shp_8, RV_8_0, RV_8_5, RV_8_6, c_isLineX hV s.2.1, kR_at, isB_0, isB_1]
  by_cases hx : isL r x
  · obtain ⟨l, hl, rfl⟩ := hx
    have hx : isL r (nI l) := ⟨l, hl, rfl⟩
    rw [if_neg (fun z => pb_0.mp z hx)]
    simp only [c_bit, s.2.2.1.2.1, bitm (show l < 32 by omega), kR_at, S92_0, S92_1, S92_2, S92_5, S92_8, S92_9, S92_12, S92_15, S92_16, S92_19, S92_20, S92_23, S92_24, S92_27, S92_28, isB_0, isB_1]
    by_cases hs : rngL r l
    · rw [if_pos (pb_1.mpr hs), pb_t ((clsd_nI hV hl).mpr hs)]
    · rw [if_neg (fun z => hs (pb_1.mp z)), pb_f (fun z => hs ((clsd_nI hV hl).mp z))]
  · rw [if_pos (pb_0.mpr hx), pb_f (clsd_no hx)]
theorem c_ring_no (hC : cls r h) (hx : ¬ clsd r x) (kk : cPost r h Q (some (some (.int (-1))))) : WP (d + 7) 65 0 [some (.ref 0), some (.int x)] [] h Q := by
  simp only [S65_0, S65_1, S65_4, S65_5, S65_6, S65_9, S65_12, S65_13, S65_16, S65_17, S65_20, S65_21, S65_24, S65_27, S65_28, shp_0, RV_0_0, RV_0_1, RV_0_2, RV_0_3, RV_0_4, RV_0_5, RV_0_9, RV_0_10, shp_8, RV_8_0, RV_8_5, RV_8_6]
  refine c_settle (d := d + 1) hC (fun h' f s z => ?_)
  have k1 := kk h' f (stl_cls s z)
  simp only [kV_at, S65_0, S65_1, S65_4, S65_5, S65_6, S65_9, S65_12, S65_13, S65_16, S65_17, S65_20, S65_21, S65_24, S65_27, S65_28, shp_0, RV_0_0, RV_0_1, RV_0_2, RV_0_3, RV_0_4, RV_0_5, RV_0_9, RV_0_10, shp_8, RV_8_0, RV_8_5, RV_8_6, c_hasRing s, kR_at]
  rw [if_pos (pb_0.mpr hx)]
  exact k1
theorem c_ring_yes (hC : cls r h) (hl : rngL r l) (kk : cPost r h Q (some (some (.int (maskOf (rng r l)))))) : WP (d + 7) 65 0 [some (.ref 0), some (.int (nI l))] [] h Q := by
  have hV := hC.1
  have hVl := hV.2.2.2 l hl.1.1
  simp only [S65_0, S65_1, S65_4, S65_5, S65_6, S65_9, S65_12, S65_13, S65_16, S65_17, S65_20, S65_21, S65_24, S65_27, S65_28, shp_0, RV_0_0, RV_0_1, RV_0_2, RV_0_3, RV_0_4, RV_0_5, RV_0_9, RV_0_10, shp_8, RV_8_0, RV_8_5, RV_8_6]
  refine c_settle (d := d + 1) hC (fun h' f s z => ?_)
  have k1 := kk h' f (stl_cls s z)
  have e1 := (s.2.2.1.2.2.2 _ hVl.1.2).2
  have e2 := (s.2.2.1.2.2.2 _ hVl.2.1.2).2
  simp only [kV_at, S65_0, S65_1, S65_4, S65_5, S65_6, S65_9, S65_12, S65_13, S65_16, S65_17, S65_20, S65_21, S65_24, S65_27, S65_28, shp_0, RV_0_0, RV_0_1, RV_0_2, RV_0_3, RV_0_4, RV_0_5, RV_0_9, RV_0_10, shp_8, RV_8_0, RV_8_5, RV_8_6, c_hasRing s, kR_at]
  rw [if_neg (fun z => pb_0.mp z ((clsd_nI hV hl.1.1).mpr hl))]
  simp only [c_ringOf hV s.2.1 hl.1.1, kR_at, S65_0, S65_1, S65_4, S65_5, S65_6, S65_9, S65_12, S65_13, S65_16, S65_17, S65_20, S65_21, S65_24, S65_27, S65_28, e1, e2, wy_ring hV hl]
  exact k1
noncomputable def clsV (r : Nat → Int32) (l : Nat) : Int32 := r (36 + l) - ((alF r).2 (rB r l) - (alF r).2 (rA r l))
theorem c_closes_no (hC : cls r h) (hx : ¬ clsd r x) (kk : cPost r h Q (some (some (.int (-1000000))))) : WP (d + 7) 66 0 [some (.ref 0), some (.int x)] [] h Q := by
  simp only [S66_0, S66_1, S66_4, S66_5, S66_6, S66_9, S66_12, S66_13, S66_16, S66_17, S66_20, S66_21, S66_24, S66_27, S66_29, shp_0, RV_0_0, RV_0_1, RV_0_2, RV_0_3, RV_0_4, RV_0_5, RV_0_9, RV_0_10, shp_8, RV_8_0, RV_8_5, RV_8_6]
  refine c_settle (d := d + 1) hC (fun h' f s z => ?_)
  have k1 := kk h' f (stl_cls s z)
  simp only [kV_at, S66_0, S66_1, S66_4, S66_5, S66_6, S66_9, S66_12, S66_13, S66_16, S66_17, S66_20, S66_21, S66_24, S66_27, S66_29, shp_0, RV_0_0, RV_0_1, RV_0_2, RV_0_3, RV_0_4, RV_0_5, RV_0_9, RV_0_10, shp_8, RV_8_0, RV_8_5, RV_8_6, c_hasRing s, kR_at]
  rw [if_pos (pb_0.mpr hx)]
  exact k1
theorem c_closes_yes (hC : cls r h) (hl : rngL r l) (kk : cPost r h Q (some (some (.int (clsV r l))))) : WP (d + 7) 66 0 [some (.ref 0), some (.int (nI l))] [] h Q := by
  have hV := hC.1
  have hVl := hV.2.2.2 l hl.1.1
  simp only [S66_0, S66_1, S66_4, S66_5, S66_6, S66_9, S66_12, S66_13, S66_16, S66_17, S66_20, S66_21, S66_24, S66_27, S66_29, shp_0, RV_0_0, RV_0_1, RV_0_2, RV_0_3, RV_0_4, RV_0_5, RV_0_9, RV_0_10, shp_8, RV_8_0, RV_8_5, RV_8_6]
  refine c_settle (d := d + 1) hC (fun h' f s z => ?_)
  have k1 := kk h' f (stl_cls s z)
  have e1 := (s.2.2.1.2.2.2 _ hVl.1.2).1
  have e2 := (s.2.2.1.2.2.2 _ hVl.2.1.2).1
  simp only [kV_at, S66_0, S66_1, S66_4, S66_5, S66_6, S66_9, S66_12, S66_13, S66_16, S66_17, S66_20, S66_21, S66_24, S66_27, S66_29, shp_0, RV_0_0, RV_0_1, RV_0_2, RV_0_3, RV_0_4, RV_0_5, RV_0_9, RV_0_10, shp_8, RV_8_0, RV_8_5, RV_8_6, c_hasRing s, kR_at]
  rw [if_neg (fun z => pb_0.mp z ((clsd_nI hV hl.1.1).mpr hl))]
  simp only [c_closingOf hV s.2.1 hl.1.1, kR_at, S66_0, S66_1, S66_4, S66_5, S66_6, S66_9, S66_12, S66_13, S66_16, S66_17, S66_20, S66_21, S66_24, S66_27, S66_29, e1, e2]
  exact k1
end
