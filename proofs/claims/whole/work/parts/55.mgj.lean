/-! The model's rows: what lines lay, and how they are freed. -/
noncomputable def tC (r : Nat → Int32) (told : Prop) (p q : Nat) (w rise : Int64) (i j : Nat) : Int64 :=
  dv (soug r p ∧ i = rowN r p ∧ j = rowN r p) w + dv (soug r p ∧ i = rowN r p ∧ j = 5) (w * rise) + dv (soug r p ∧ i = rowN r p ∧ soug r q ∧ j = rowN r q) (-w) + dv (soug r p ∧ i = rowN r p ∧ ¬ soug r q ∧ told ∧ j = 5) (w * (r (8 + q)).toInt64 * (r (2 + q)).toInt64)
noncomputable def riT (r : Nat → Int32) (told : Prop) (l : Nat) : Int64 := dv told (r (36 + l)).toInt64
noncomputable def lC (r : Nat → Int32) (told : Prop) (l i j : Nat) : Int64 := tC r told (rB r l) (rA r l) (r (47 + l)).toInt64 (riT r told l) i j + tC r told (rA r l) (rB r l) (r (47 + l)).toInt64 (-riT r told l) i j
noncomputable def LSm (r : Nat → Int32) (told : Prop) : Nat → Nat → Nat → Int64
  | 0, _, _ => 0
  | n + 1, i, j => LSm r told n i j + dv (snd r n) (lC r told n i j)
/-- one freeing: all rows below n but k -/
def gjS (n k : Nat) (pv : Int64) (T : Nat → Nat → Int64) (i j : Nat) : Int64 := if i < n ∧ i ≠ k then (T k k * T i j - T i k * T k j) / pv else T i j
def gjT (n : Nat) (T : Nat → Nat → Int64) : Nat → (Nat → Nat → Int64) × Int64
  | 0 => (T, 1)
  | k + 1 => (gjS n k (gjT n T k).2 (gjT n T k).1, (gjT n T k).1 k k)
section
variable {d : Nat} {h : Hp} {Q : Option (Option Value) → Hp → Prop} {x y z t : Int32} {u w v rs : Int64} {k l p q : Nat} {r : Nat → Int32}
theorem a64 (a b c : Int64) : a + b + c = a + (b + c) := Int64.add_assoc a b c
theorem m_ties (hV : VR r) (hm : rowsM r h) (hp : p < rP r) (hq : q < rP r)
    (kk : ∀ h' : Hp, mfr h h' → rowsM r h' → (∀ i j, i < 6 → j < 6 → MV h' i j = MV h i j + tC r (t ≠ 0) p q w rs i j) → Q (some none) h') :
    WP (d + 1) 146 0 [some (.ref 93), some (.int (nI p)), some (.int (nI q)), some (.long w), none, some (.long rs), none, some (.int t)] [] h Q := by
  have hP := hV.1
  have hw := wd_5 hV
  have hp6 : p < 6 := by omega
  have hq6 : q < 6 := by omega
  have c1 := nI_cl (n := p) (by omega)
  have c2 := nI_cl (n := q) (by omega)
  by_cases hs : soug r p
  · have hlt := rowN_lt hs
    have hne : ¬ nI (rowN r p) = -1 := fun z => (rowV_ne hV).mp (by rw [rowV_y hs]; exact z) hs
    simp only [S146_0, S146_1, S146_4, S146_5, S146_6, S146_7, S146_10, S146_11, S146_12, S146_13, S146_14, S146_17, S146_18, S146_19, S146_20, S146_23, S146_24, S146_25, S146_26, S146_27, S146_29, S146_30, S146_33, S146_34, S146_37, S146_38, S146_39, S146_40, S146_43, S146_44, S146_45, S146_46, S146_49, S146_50, S146_51, S146_52, S146_53, S146_56, S146_59, S146_61, S146_64, S146_65, S146_66, S146_67, S146_68, S146_69, S146_72, S146_74, S146_75, S146_76, S146_77, S146_78, S146_79, S146_80, S146_83, S146_84, S146_85, S146_86, S146_87, S146_88, S146_89, S146_92, shp_93, RV_93_1, RV_93_13, RV_93_14, RV_93_15, RV_93_16, RV_93_17, RV_93_18, RV_93_19, RV_93_20, RV_93_23, RV_93_24, RV_93_27, RV_93_28, RV_93_29, ok104 hp6, c1, hm.2.2 p hp, rowV_y hs, if_neg hne]
    refine m_adds hV hm hp (show rowN r p < 6 by omega) (fun h1 f1 m1 e1 => ?_)
    simp only [kV_at, S146_0, S146_1, S146_4, S146_5, S146_6, S146_7, S146_10, S146_11, S146_12, S146_13, S146_14, S146_17, S146_18, S146_19, S146_20, S146_23, S146_24, S146_25, S146_26, S146_27, S146_29, S146_30, S146_33, S146_34, S146_37, S146_38, S146_39, S146_40, S146_43, S146_44, S146_45, S146_46, S146_49, S146_50, S146_51, S146_52, S146_53, S146_56, S146_59, S146_61, S146_64, S146_65, S146_66, S146_67, S146_68, S146_69, S146_72, S146_74, S146_75, S146_76, S146_77, S146_78, S146_79, S146_80, S146_83, S146_84, S146_85, S146_86, S146_87, S146_88, S146_89, S146_92, shp_93, RV_93_1, RV_93_13, RV_93_14, RV_93_15, RV_93_16, RV_93_17, RV_93_18, RV_93_19, RV_93_20, RV_93_23, RV_93_24, RV_93_27, RV_93_28, RV_93_29]
    rw [n5]
    refine m_adds hV m1 hp (show 5 < 6 by omega) (fun h2 f2 m2 e2 => ?_)
    simp only [kV_at, S146_0, S146_1, S146_4, S146_5, S146_6, S146_7, S146_10, S146_11, S146_12, S146_13, S146_14, S146_17, S146_18, S146_19, S146_20, S146_23, S146_24, S146_25, S146_26, S146_27, S146_29, S146_30, S146_33, S146_34, S146_37, S146_38, S146_39, S146_40, S146_43, S146_44, S146_45, S146_46, S146_49, S146_50, S146_51, S146_52, S146_53, S146_56, S146_59, S146_61, S146_64, S146_65, S146_66, S146_67, S146_68, S146_69, S146_72, S146_74, S146_75, S146_76, S146_77, S146_78, S146_79, S146_80, S146_83, S146_84, S146_85, S146_86, S146_87, S146_88, S146_89, S146_92, shp_93, RV_93_1, RV_93_13, RV_93_14, RV_93_15, RV_93_16, RV_93_17, RV_93_18, RV_93_19, RV_93_20, RV_93_23, RV_93_24, RV_93_27, RV_93_28, RV_93_29, ok104 hq6, c2, m2.2.2 q hq]
    by_cases hsq : soug r q
    · have hltq := rowN_lt hsq
      have hneq : ¬ nI (rowN r q) = -1 := fun z => (rowV_ne hV).mp (by rw [rowV_y hsq]; exact z) hsq
      simp only [rowV_y hsq, if_neg hneq, S146_0, S146_1, S146_4, S146_5, S146_6, S146_7, S146_10, S146_11, S146_12, S146_13, S146_14, S146_17, S146_18, S146_19, S146_20, S146_23, S146_24, S146_25, S146_26, S146_27, S146_29, S146_30, S146_33, S146_34, S146_37, S146_38, S146_39, S146_40, S146_43, S146_44, S146_45, S146_46, S146_49, S146_50, S146_51, S146_52, S146_53, S146_56, S146_59, S146_61, S146_64, S146_65, S146_66, S146_67, S146_68, S146_69, S146_72, S146_74, S146_75, S146_76, S146_77, S146_78, S146_79, S146_80, S146_83, S146_84, S146_85, S146_86, S146_87, S146_88, S146_89, S146_92, shp_93, RV_93_1, RV_93_13, RV_93_14, RV_93_15, RV_93_16, RV_93_17, RV_93_18, RV_93_19, RV_93_20, RV_93_23, RV_93_24, RV_93_27, RV_93_28, RV_93_29]
      refine m_adds hV m2 hp (show rowN r q < 6 by omega) (fun h3 f3 m3 e3 => ?_)
      simp only [kV_at, S146_0, S146_1, S146_4, S146_5, S146_6, S146_7, S146_10, S146_11, S146_12, S146_13, S146_14, S146_17, S146_18, S146_19, S146_20, S146_23, S146_24, S146_25, S146_26, S146_27, S146_29, S146_30, S146_33, S146_34, S146_37, S146_38, S146_39, S146_40, S146_43, S146_44, S146_45, S146_46, S146_49, S146_50, S146_51, S146_52, S146_53, S146_56, S146_59, S146_61, S146_64, S146_65, S146_66, S146_67, S146_68, S146_69, S146_72, S146_74, S146_75, S146_76, S146_77, S146_78, S146_79, S146_80, S146_83, S146_84, S146_85, S146_86, S146_87, S146_88, S146_89, S146_92]
      refine kk h3 (frmF_tr f1 (frmF_tr f2 f3)) m3 (fun i j hi hj => ?_)
      rw [e3 i j hi hj, e2 i j hi hj, e1 i j hi hj]
      unfold tC
      rw [dv_f (show ¬ (soug r p ∧ i = rowN r p ∧ ¬ soug r q ∧ t ≠ 0 ∧ j = 5) from fun z => z.2.2.1 hsq), Int64.add_zero]
      have : dv (soug r p ∧ i = rowN r p ∧ soug r q ∧ j = rowN r q) (-w) = dv (soug r p ∧ i = rowN r p ∧ j = rowN r q) (-w) := by
        by_cases z : soug r p ∧ i = rowN r p ∧ j = rowN r q
        · rw [dv_t z, dv_t ⟨z.1, z.2.1, hsq, z.2.2⟩]
        · rw [dv_f z, dv_f (fun y => z ⟨y.1, y.2.1, y.2.2.2⟩)]
      rw [this]
      simp only [a64]
    · simp only [rowV_n hsq, if_true, S146_0, S146_1, S146_4, S146_5, S146_6, S146_7, S146_10, S146_11, S146_12, S146_13, S146_14, S146_17, S146_18, S146_19, S146_20, S146_23, S146_24, S146_25, S146_26, S146_27, S146_29, S146_30, S146_33, S146_34, S146_37, S146_38, S146_39, S146_40, S146_43, S146_44, S146_45, S146_46, S146_49, S146_50, S146_51, S146_52, S146_53, S146_56, S146_59, S146_61, S146_64, S146_65, S146_66, S146_67, S146_68, S146_69, S146_72, S146_74, S146_75, S146_76, S146_77, S146_78, S146_79, S146_80, S146_83, S146_84, S146_85, S146_86, S146_87, S146_88, S146_89, S146_92, shp_93, RV_93_1, RV_93_13, RV_93_14, RV_93_15, RV_93_16, RV_93_17, RV_93_18, RV_93_19, RV_93_20, RV_93_23, RV_93_24, RV_93_27, RV_93_28, RV_93_29]
      have tail : ∀ vv : Int64, tC r (t ≠ 0) p q w rs = (fun i j => dv (soug r p ∧ i = rowN r p ∧ j = rowN r p) w + dv (soug r p ∧ i = rowN r p ∧ j = 5) (w * rs) + dv (soug r p ∧ i = rowN r p ∧ j = 5) vv) → ∀ h3 : Hp, mfr h2 h3 → rowsM r h3 → (∀ i j, i < 6 → j < 6 → MV h3 i j = MV h2 i j + dv (soug r p ∧ i = rowN r p ∧ j = 5) vv) → Q (some none) h3 := by
        intro vv et h3 f3 m3 e3
        refine kk h3 (frmF_tr f1 (frmF_tr f2 f3)) m3 (fun i j hi hj => ?_)
        rw [e3 i j hi hj, e2 i j hi hj, e1 i j hi hj, et]
        simp only [a64]
      have etc : ∀ vv : Int64, (∀ i j, dv (soug r p ∧ i = rowN r p ∧ ¬ soug r q ∧ t ≠ 0 ∧ j = 5) (w * (r (8 + q)).toInt64 * (r (2 + q)).toInt64) = dv (soug r p ∧ i = rowN r p ∧ j = 5) vv) → tC r (t ≠ 0) p q w rs = (fun i j => dv (soug r p ∧ i = rowN r p ∧ j = rowN r p) w + dv (soug r p ∧ i = rowN r p ∧ j = 5) (w * rs) + dv (soug r p ∧ i = rowN r p ∧ j = 5) vv) := by
        intro vv ev
        funext i j
        unfold tC
        rw [dv_f (show ¬ (soug r p ∧ i = rowN r p ∧ soug r q ∧ j = rowN r q) from fun z => hsq z.2.2.1), Int64.add_zero, ev]
      by_cases h0 : t = 0
      · simp only [h0, if_true]
        refine tail 0 (etc 0 (fun i j => ?_)) h2 frmF_rf m2 (fun i j hi hj => ?_)
        · rw [dv_f (fun z => z.2.2.2.1 h0)]
          by_cases z : soug r p ∧ i = rowN r p ∧ j = 5
          · rw [dv_t z]
          · rw [dv_f z]
        · by_cases z : soug r p ∧ i = rowN r p ∧ j = 5
          · rw [dv_t z, Int64.add_zero]
          · rw [dv_f z, Int64.add_zero]
      · have hr2 := m2.1
        simp only [h0, if_false, S146_0, S146_1, S146_4, S146_5, S146_6, S146_7, S146_10, S146_11, S146_12, S146_13, S146_14, S146_17, S146_18, S146_19, S146_20, S146_23, S146_24, S146_25, S146_26, S146_27, S146_29, S146_30, S146_33, S146_34, S146_37, S146_38, S146_39, S146_40, S146_43, S146_44, S146_45, S146_46, S146_49, S146_50, S146_51, S146_52, S146_53, S146_56, S146_59, S146_61, S146_64, S146_65, S146_66, S146_67, S146_68, S146_69, S146_72, S146_74, S146_75, S146_76, S146_77, S146_78, S146_79, S146_80, S146_83, S146_84, S146_85, S146_86, S146_87, S146_88, S146_89, S146_92, shp_93, RV_93_1, RV_93_13, RV_93_14, RV_93_15, RV_93_16, RV_93_17, RV_93_18, RV_93_19, RV_93_20, RV_93_23, RV_93_24, RV_93_27, RV_93_28, RV_93_29, la_8, la_2, ok95 (show 8 + q < 69 by omega), ok95 (show 2 + q < 69 by omega), nI_cl (show 8 + q < 2147483648 by omega), nI_cl (show 2 + q < 2147483648 by omega), hr2]
        rw [n5]
        refine m_adds hV m2 hp (show 5 < 6 by omega) (fun h3 f3 m3 e3 => ?_)
        simp only [kV_at, S146_0, S146_1, S146_4, S146_5, S146_6, S146_7, S146_10, S146_11, S146_12, S146_13, S146_14, S146_17, S146_18, S146_19, S146_20, S146_23, S146_24, S146_25, S146_26, S146_27, S146_29, S146_30, S146_33, S146_34, S146_37, S146_38, S146_39, S146_40, S146_43, S146_44, S146_45, S146_46, S146_49, S146_50, S146_51, S146_52, S146_53, S146_56, S146_59, S146_61, S146_64, S146_65, S146_66, S146_67, S146_68, S146_69, S146_72, S146_74, S146_75, S146_76, S146_77, S146_78, S146_79, S146_80, S146_83, S146_84, S146_85, S146_86, S146_87, S146_88, S146_89, S146_92]
        refine tail _ (etc _ (fun i j => ?_)) h3 f3 m3 e3
        by_cases z : soug r p ∧ i = rowN r p ∧ j = 5
        · rw [dv_t z, dv_t ⟨z.1, z.2.1, hsq, h0, z.2.2⟩]
        · rw [dv_f z, dv_f (fun y => z ⟨y.1, y.2.1, y.2.2.2.2⟩)]
  · simp only [S146_0, S146_1, S146_4, S146_5, S146_6, S146_7, S146_10, S146_11, S146_12, S146_13, S146_14, S146_17, S146_18, S146_19, S146_20, S146_23, S146_24, S146_25, S146_26, S146_27, S146_29, S146_30, S146_33, S146_34, S146_37, S146_38, S146_39, S146_40, S146_43, S146_44, S146_45, S146_46, S146_49, S146_50, S146_51, S146_52, S146_53, S146_56, S146_59, S146_61, S146_64, S146_65, S146_66, S146_67, S146_68, S146_69, S146_72, S146_74, S146_75, S146_76, S146_77, S146_78, S146_79, S146_80, S146_83, S146_84, S146_85, S146_86, S146_87, S146_88, S146_89, S146_92, shp_93, RV_93_1, RV_93_13, RV_93_14, RV_93_15, RV_93_16, RV_93_17, RV_93_18, RV_93_19, RV_93_20, RV_93_23, RV_93_24, RV_93_27, RV_93_28, RV_93_29, ok104 hp6, c1, hm.2.2 p hp, rowV_n hs, if_true]
    refine kk h frmF_rf hm (fun i j hi hj => ?_)
    unfold tC
    rw [dv_f (fun z => hs z.1), dv_f (fun z => hs z.1), dv_f (fun z => hs z.1), dv_f (fun z => hs z.1)]
    simp
theorem m_laysAll_loop (hV : VR r) : ∀ (n l : Nat) (hc : Hp) (o3 o4 : Option Value), l + n = rL r → mfr h hc → rowsM r hc → (∀ i j, i < 6 → j < 6 → MV hc i j = LSm r (t ≠ 0) l i j) →
    (∀ hc' : Hp, mfr h hc' → rowsM r hc' → (∀ i j, i < 6 → j < 6 → MV hc' i j = LSm r (t ≠ 0) (rL r) i j) → Q (some none) hc') →
    WP (d + 2) 147 6 [some (.ref 93), some (.int t), some (.int (nI l)), o3, o4] [] hc Q := by
  have hP := hV.1
  have hL := hV.2.1
  intro n
  induction n with
  | zero =>
    intro l hc o3 o4 hl hf hm he kk
    have hcd : nI (rL r) ≤ nI l := nI_le (by omega) (by omega)
    have : l = rL r := by omega
    subst this
    rw [S147_6]
    simp only [S147_0, S147_1, S147_4, S147_5, S147_7, S147_8, S147_11, S147_14, S147_15, S147_16, S147_19, S147_22, S147_25, S147_26, S147_29, S147_30, S147_33, S147_35, S147_36, S147_37, S147_38, S147_39, S147_42, S147_43, S147_44, S147_45, S147_46, S147_47, S147_50, S147_51, S147_52, S147_55, S147_56, S147_59, S147_61, S147_62, S147_63, S147_64, S147_65, S147_66, S147_67, S147_70, S147_71, S147_72, S147_73, S147_76, S147_77, S147_78, S147_81, S147_82, S147_85, S147_87, S147_88, S147_89, S147_90, S147_91, S147_92, S147_93, S147_94, S147_97, S147_100, S147_103, shp_93, RV_93_1, RV_93_13, RV_93_14, RV_93_15, RV_93_16, RV_93_17, RV_93_18, RV_93_19, RV_93_20, RV_93_23, RV_93_24, RV_93_27, RV_93_28, RV_93_29, m_lines, kR_at, hm.1, hL.1, if_pos hcd]
    exact kk hc hf hm he
  | succ n ih =>
    intro l hc o3 o4 hl hf hm he kk
    have hcd : ¬ nI (rL r) ≤ nI l := nI_ge (by omega) (by omega)
    have hlt : l < rL r := by omega
    have hl11 : l < 11 := by omega
    have hVl := hV.2.2.2 l hlt
    rw [S147_6]
    simp only [S147_0, S147_1, S147_4, S147_5, S147_7, S147_8, S147_11, S147_14, S147_15, S147_16, S147_19, S147_22, S147_25, S147_26, S147_29, S147_30, S147_33, S147_35, S147_36, S147_37, S147_38, S147_39, S147_42, S147_43, S147_44, S147_45, S147_46, S147_47, S147_50, S147_51, S147_52, S147_55, S147_56, S147_59, S147_61, S147_62, S147_63, S147_64, S147_65, S147_66, S147_67, S147_70, S147_71, S147_72, S147_73, S147_76, S147_77, S147_78, S147_81, S147_82, S147_85, S147_87, S147_88, S147_89, S147_90, S147_91, S147_92, S147_93, S147_94, S147_97, S147_100, S147_103, shp_93, RV_93_1, RV_93_13, RV_93_14, RV_93_15, RV_93_16, RV_93_17, RV_93_18, RV_93_19, RV_93_20, RV_93_23, RV_93_24, RV_93_27, RV_93_28, RV_93_29, m_lines, kR_at, hm.1, hL.1, if_neg hcd, m_isSound hl11, ite1, kl_int, kl_ref, nI_add1]
    by_cases hs : r (58 + l) = 1
    · rw [if_neg (fun z => z hs)]
      have hsl : snd r l := ⟨hlt, hs⟩
      have main : WP (d + 2) 147 43 [some (.ref 93), some (.int t), some (.int (nI l)), o3, o4] [.long (riT r (t ≠ 0) l)] hc Q := by
        simp only [S147_0, S147_1, S147_4, S147_5, S147_7, S147_8, S147_11, S147_14, S147_15, S147_16, S147_19, S147_22, S147_25, S147_26, S147_29, S147_30, S147_33, S147_35, S147_36, S147_37, S147_38, S147_39, S147_42, S147_43, S147_44, S147_45, S147_46, S147_47, S147_50, S147_51, S147_52, S147_55, S147_56, S147_59, S147_61, S147_62, S147_63, S147_64, S147_65, S147_66, S147_67, S147_70, S147_71, S147_72, S147_73, S147_76, S147_77, S147_78, S147_81, S147_82, S147_85, S147_87, S147_88, S147_89, S147_90, S147_91, S147_92, S147_93, S147_94, S147_97, S147_100, S147_103, shp_93, RV_93_1, RV_93_13, RV_93_14, RV_93_15, RV_93_16, RV_93_17, RV_93_18, RV_93_19, RV_93_20, RV_93_23, RV_93_24, RV_93_27, RV_93_28, RV_93_29, kR_at, hm.1, m_first hl11, m_second hl11, hVl.1.1, hVl.2.1.1, la_47, ok95 (show 47 + l < 69 by omega), nI_cl (show 47 + l < 2147483648 by omega), kl_int]
        refine m_ties (d := d) hV hm hVl.2.1.2 hVl.1.2 (fun h1 f1 m1 e1 => ?_)
        simp only [kV_at, S147_0, S147_1, S147_4, S147_5, S147_7, S147_8, S147_11, S147_14, S147_15, S147_16, S147_19, S147_22, S147_25, S147_26, S147_29, S147_30, S147_33, S147_35, S147_36, S147_37, S147_38, S147_39, S147_42, S147_43, S147_44, S147_45, S147_46, S147_47, S147_50, S147_51, S147_52, S147_55, S147_56, S147_59, S147_61, S147_62, S147_63, S147_64, S147_65, S147_66, S147_67, S147_70, S147_71, S147_72, S147_73, S147_76, S147_77, S147_78, S147_81, S147_82, S147_85, S147_87, S147_88, S147_89, S147_90, S147_91, S147_92, S147_93, S147_94, S147_97, S147_100, S147_103, shp_93, RV_93_1, RV_93_13, RV_93_14, RV_93_15, RV_93_16, RV_93_17, RV_93_18, RV_93_19, RV_93_20, RV_93_23, RV_93_24, RV_93_27, RV_93_28, RV_93_29, kR_at, m1.1, m_first hl11, m_second hl11, hVl.1.1, hVl.2.1.1, la_47, ok95 (show 47 + l < 69 by omega), nI_cl (show 47 + l < 2147483648 by omega)]
        refine m_ties (d := d) hV m1 hVl.1.2 hVl.2.1.2 (fun h2 f2 m2 e2 => ?_)
        simp only [kV_at, S147_0, S147_1, S147_4, S147_5, S147_7, S147_8, S147_11, S147_14, S147_15, S147_16, S147_19, S147_22, S147_25, S147_26, S147_29, S147_30, S147_33, S147_35, S147_36, S147_37, S147_38, S147_39, S147_42, S147_43, S147_44, S147_45, S147_46, S147_47, S147_50, S147_51, S147_52, S147_55, S147_56, S147_59, S147_61, S147_62, S147_63, S147_64, S147_65, S147_66, S147_67, S147_70, S147_71, S147_72, S147_73, S147_76, S147_77, S147_78, S147_81, S147_82, S147_85, S147_87, S147_88, S147_89, S147_90, S147_91, S147_92, S147_93, S147_94, S147_97, S147_100, S147_103, shp_93, RV_93_1, RV_93_13, RV_93_14, RV_93_15, RV_93_16, RV_93_17, RV_93_18, RV_93_19, RV_93_20, RV_93_23, RV_93_24, RV_93_27, RV_93_28, RV_93_29, kl_int, kl_ref, nI_add1]
        refine ih (l + 1) h2 _ _ (by omega) (frmF_tr hf (frmF_tr f1 f2)) m2 (fun i j hi hj => ?_) kk
        rw [e2 i j hi hj, e1 i j hi hj, he i j hi hj]
        show _ = LSm r (t ≠ 0) l i j + dv (snd r l) (lC r (t ≠ 0) l i j)
        rw [dv_t hsl]
        unfold lC
        simp only [a64]
      by_cases h0 : t = 0
      · rw [if_pos h0]
        have e0 : riT r (t ≠ 0) l = 0 := dv_f (fun z => z h0)
        rw [e0] at main
        simp only [S147_0, S147_1, S147_4, S147_5, S147_7, S147_8, S147_11, S147_14, S147_15, S147_16, S147_19, S147_22, S147_25, S147_26, S147_29, S147_30, S147_33, S147_35, S147_36, S147_37, S147_38, S147_39, S147_42, S147_43, S147_44, S147_45, S147_46, S147_47, S147_50, S147_51, S147_52, S147_55, S147_56, S147_59, S147_61, S147_62, S147_63, S147_64, S147_65, S147_66, S147_67, S147_70, S147_71, S147_72, S147_73, S147_76, S147_77, S147_78, S147_81, S147_82, S147_85, S147_87, S147_88, S147_89, S147_90, S147_91, S147_92, S147_93, S147_94, S147_97, S147_100, S147_103, shp_93, RV_93_1, RV_93_13, RV_93_14, RV_93_15, RV_93_16, RV_93_17, RV_93_18, RV_93_19, RV_93_20, RV_93_23, RV_93_24, RV_93_27, RV_93_28, RV_93_29, kl_int] at main ⊢
        exact main
      · rw [if_neg h0]
        have e0 : riT r (t ≠ 0) l = (r (36 + l)).toInt64 := dv_t h0
        rw [e0] at main
        simp only [S147_0, S147_1, S147_4, S147_5, S147_7, S147_8, S147_11, S147_14, S147_15, S147_16, S147_19, S147_22, S147_25, S147_26, S147_29, S147_30, S147_33, S147_35, S147_36, S147_37, S147_38, S147_39, S147_42, S147_43, S147_44, S147_45, S147_46, S147_47, S147_50, S147_51, S147_52, S147_55, S147_56, S147_59, S147_61, S147_62, S147_63, S147_64, S147_65, S147_66, S147_67, S147_70, S147_71, S147_72, S147_73, S147_76, S147_77, S147_78, S147_81, S147_82, S147_85, S147_87, S147_88, S147_89, S147_90, S147_91, S147_92, S147_93, S147_94, S147_97, S147_100, S147_103, shp_93, RV_93_1, RV_93_13, RV_93_14, RV_93_15, RV_93_16, RV_93_17, RV_93_18, RV_93_19, RV_93_20, RV_93_23, RV_93_24, RV_93_27, RV_93_28, RV_93_29, kl_int, la_36, ok95 (show 36 + l < 69 by omega), nI_cl (show 36 + l < 2147483648 by omega), hm.1] at main ⊢
        exact main
    · rw [if_pos hs]
      refine ih (l + 1) hc _ _ (by omega) hf hm (fun i j hi hj => ?_) kk
      show _ = LSm r (t ≠ 0) l i j + dv (snd r l) (lC r (t ≠ 0) l i j)
      rw [dv_f (fun z => hs z.2), Int64.add_zero]
      exact he i j hi hj
theorem m_laysAll (hr : h.1 95 = r) (hV : VR r) (kk : ∀ hc' : Hp, mfr h hc' → rowsM r hc' → (∀ i j, i < 6 → j < 6 → MV hc' i j = LSm r (t ≠ 0) (rL r) i j) → Q (some none) hc') : WP (d + 6) 147 0 [some (.ref 93), some (.int t), none, none, none] [] h Q := by
  simp only [S147_0, S147_1, S147_4, S147_5, S147_7, S147_8, S147_11, S147_14, S147_15, S147_16, S147_19, S147_22, S147_25, S147_26, S147_29, S147_30, S147_33, S147_35, S147_36, S147_37, S147_38, S147_39, S147_42, S147_43, S147_44, S147_45, S147_46, S147_47, S147_50, S147_51, S147_52, S147_55, S147_56, S147_59, S147_61, S147_62, S147_63, S147_64, S147_65, S147_66, S147_67, S147_70, S147_71, S147_72, S147_73, S147_76, S147_77, S147_78, S147_81, S147_82, S147_85, S147_87, S147_88, S147_89, S147_90, S147_91, S147_92, S147_93, S147_94, S147_97, S147_100, S147_103, shp_93, RV_93_1, RV_93_13, RV_93_14, RV_93_15, RV_93_16, RV_93_17, RV_93_18, RV_93_19, RV_93_20, RV_93_23, RV_93_24, RV_93_27, RV_93_28, RV_93_29]
  refine m_laysRows (d := d) hr hV (fun h1 f1 m1 z1 => ?_)
  simp only [kV_at, S147_0, S147_1, S147_4, S147_5, S147_7, S147_8, S147_11, S147_14, S147_15, S147_16, S147_19, S147_22, S147_25, S147_26, S147_29, S147_30, S147_33, S147_35, S147_36, S147_37, S147_38, S147_39, S147_42, S147_43, S147_44, S147_45, S147_46, S147_47, S147_50, S147_51, S147_52, S147_55, S147_56, S147_59, S147_61, S147_62, S147_63, S147_64, S147_65, S147_66, S147_67, S147_70, S147_71, S147_72, S147_73, S147_76, S147_77, S147_78, S147_81, S147_82, S147_85, S147_87, S147_88, S147_89, S147_90, S147_91, S147_92, S147_93, S147_94, S147_97, S147_100, S147_103, kl_int]
  rw [nI_l0]
  exact m_laysAll_loop (d := d + 4) hV (rL r) 0 h1 _ _ (by omega) f1 m1 (fun i j hi hj => z1 _ (by omega)) kk
/-! freeing -/
theorem m_frees_j (hV : VR r) {T : Nat → Nat → Int64} {n k i : Nat} {pv : Int64} (hn : n ≤ 5) (hk : k < n) (hi : i < n) (hik : i ≠ k) (hpv : pv ≠ 0) {nw : Int32} : ∀ (m j : Nat) (hc : Hp), j + m = 6 → mfr h hc → rowsM r hc → hc.2.1 93 26 = T k k → (∀ a b, a < 6 → b < 6 → MV hc a b = if (a < i ∧ a < n ∧ a ≠ k) ∨ (a = i ∧ b < j) then (T k k * T a b - T a k * T k b) / pv else T a b) →
    (∀ hc' : Hp, mfr h hc' → rowsM r hc' → hc'.2.1 93 26 = T k k → (∀ a b, a < 6 → b < 6 → MV hc' a b = if a < i + 1 ∧ a < n ∧ a ≠ k then (T k k * T a b - T a k * T k b) / pv else T a b) → WP d 148 133 [some (.ref 93), some (.int (nI k)), some (.long pv), none, some (.int (nI i)), some (.long (T i k)), none, some (.int 6)] [] hc' Q) →
    WP d 148 71 [some (.ref 93), some (.int (nI k)), some (.long pv), none, some (.int (nI i)), some (.long (T i k)), none, some (.int (nI j))] [] hc Q := by
  intro m
  induction m with
  | zero =>
    intro j hc hj hf hm hh he kk
    have : j = 6 := by omega
    subst this
    have k1 := kk hc hf hm hh (fun a b ha hb => by
      rw [he a b ha hb]
      by_cases z : a < i + 1 ∧ a < n ∧ a ≠ k
      · rw [if_pos z, if_pos (by by_cases q : a = i; exact Or.inr ⟨q, hb⟩; exact Or.inl ⟨by omega, z.2⟩)]
      · rw [if_neg z, if_neg]
        rintro (q | q)
        · exact z ⟨by omega, q.2⟩
        · exact z ⟨by omega, by omega, by rw [q.1]; exact hik⟩)
    rw [S148_71]
    simp only [S148_0, S148_1, S148_2, S148_5, S148_6, S148_8, S148_9, S148_12, S148_15, S148_16, S148_19, S148_20, S148_21, S148_22, S148_25, S148_27, S148_28, S148_29, S148_30, S148_33, S148_34, S148_38, S148_39, S148_42, S148_45, S148_47, S148_48, S148_51, S148_54, S148_55, S148_58, S148_60, S148_62, S148_63, S148_64, S148_65, S148_66, S148_68, S148_69, S148_73, S148_75, S148_78, S148_79, S148_82, S148_84, S148_86, S148_87, S148_89, S148_90, S148_91, S148_94, S148_95, S148_98, S148_100, S148_102, S148_103, S148_105, S148_106, S148_107, S148_108, S148_110, S148_111, S148_114, S148_116, S148_117, S148_118, S148_120, S148_121, S148_122, S148_123, S148_124, S148_125, S148_126, S148_127, S148_130, S148_133, S148_136, S148_139, S148_142, S148_145, shp_93, RV_93_1, RV_93_13, RV_93_14, RV_93_15, RV_93_16, RV_93_17, RV_93_18, RV_93_19, RV_93_20, RV_93_23, RV_93_24, RV_93_27, RV_93_28, RV_93_29, kl_int] at k1 ⊢
    rw [if_pos (by decide)]
    exact k1
  | succ m ih =>
    intro j hc hj hf hm hh he kk
    have hj6 : j < 6 := by omega
    have q1 := he i j (by omega) hj6
    rw [if_neg (by rintro (z | z); exact absurd z.1 (by omega); exact absurd z.2 (by omega))] at q1
    have q2 := he k j (by omega) hj6
    rw [if_neg (by rintro (z | z); exact z.2.2 rfl; exact hik z.1.symm)] at q2
    unfold MV at q1 q2
    rw [S148_71]
    simp only [S148_0, S148_1, S148_2, S148_5, S148_6, S148_8, S148_9, S148_12, S148_15, S148_16, S148_19, S148_20, S148_21, S148_22, S148_25, S148_27, S148_28, S148_29, S148_30, S148_33, S148_34, S148_38, S148_39, S148_42, S148_45, S148_47, S148_48, S148_51, S148_54, S148_55, S148_58, S148_60, S148_62, S148_63, S148_64, S148_65, S148_66, S148_68, S148_69, S148_73, S148_75, S148_78, S148_79, S148_82, S148_84, S148_86, S148_87, S148_89, S148_90, S148_91, S148_94, S148_95, S148_98, S148_100, S148_102, S148_103, S148_105, S148_106, S148_107, S148_108, S148_110, S148_111, S148_114, S148_116, S148_117, S148_118, S148_120, S148_121, S148_122, S148_123, S148_124, S148_125, S148_126, S148_127, S148_130, S148_133, S148_136, S148_139, S148_142, S148_145, shp_93, RV_93_1, RV_93_13, RV_93_14, RV_93_15, RV_93_16, RV_93_17, RV_93_18, RV_93_19, RV_93_20, RV_93_23, RV_93_24, RV_93_27, RV_93_28, RV_93_29, if_neg (lt6 hj6), m6, nI_add, ok103 (show 6 * i + j < 36 by omega), ok103 (show 6 * k + j < 36 by omega), nI_cl (show 6 * i + j < 2147483648 by omega), nI_cl (show 6 * k + j < 2147483648 by omega), hh, q1, q2, hpv, ne_eq, not_false_eq_true, kl_none, kl_int, nI_add1]
    refine ih (j + 1) _ (by omega) (frmF_tr hf (frmF_L (Or.inl ⟨by decide, by decide⟩))) hm (by rw [setL_rd, if_neg (fun z => absurd z.1 (by decide))]; exact hh) (fun a b ha hb => ?_) kk
    unfold MV
    rw [setL_rd]
    by_cases z : a = i ∧ b = j
    · rw [if_pos ⟨rfl, by rw [z.1, z.2]⟩, if_pos (Or.inr ⟨z.1, by omega⟩), z.1, z.2]
    · rw [if_neg (fun y => z (by omega))]
      have := he a b ha hb
      unfold MV at this
      rw [this]
      by_cases y : (a < i ∧ a < n ∧ a ≠ k) ∨ (a = i ∧ b < j)
      · rw [if_pos y, if_pos (y.imp id (fun w => ⟨w.1, by omega⟩))]
      · rw [if_neg y, if_neg]
        rintro (w | w)
        · exact y (Or.inl w)
        · exact y (Or.inr ⟨w.1, by omega⟩)
theorem m_frees_i (hV : VR r) {T : Nat → Nat → Int64} {n k : Nat} {pv : Int64} (hn : n ≤ 5) (hnw : n = wd r) (hk : k < n) (hpv : pv ≠ 0) : ∀ (m i : Nat) (hc : Hp) (o5 o7 : Option Value), i + m = n → mfr h hc → rowsM r hc → hc.2.1 93 26 = T k k → (∀ a b, a < 6 → b < 6 → MV hc a b = if a < i ∧ a < n ∧ a ≠ k then (T k k * T a b - T a k * T k b) / pv else T a b) →
    (∀ (hc' : Hp) (o4 o5 o7 : Option Value), mfr h hc' → rowsM r hc' → hc'.2.1 93 26 = T k k → (∀ a b, a < 6 → b < 6 → MV hc' a b = gjS n k pv T a b) → WP d 148 139 [some (.ref 93), some (.int (nI k)), some (.long pv), none, o4, o5, none, o7] [] hc' Q) →
    WP d 148 36 [some (.ref 93), some (.int (nI k)), some (.long pv), none, some (.int (nI i)), o5, none, o7] [] hc Q := by
  intro m
  induction m with
  | zero =>
    intro i hc o5 o7 hi hf hm hh he kk
    have : i = n := by omega
    subst this
    have hcd : nI (wd r) ≤ nI i := nI_le (by omega) (by omega)
    have k1 := kk hc (some (.int (nI i))) o5 o7 hf hm hh (fun a b ha hb => by
      rw [he a b ha hb]
      unfold gjS
      by_cases z : a < i ∧ a ≠ k
      · rw [if_pos z, if_pos ⟨z.1, z.1, z.2⟩]
      · rw [if_neg z, if_neg (fun y => z y.2)])
    rw [S148_36]
    simp only [S148_0, S148_1, S148_2, S148_5, S148_6, S148_8, S148_9, S148_12, S148_15, S148_16, S148_19, S148_20, S148_21, S148_22, S148_25, S148_27, S148_28, S148_29, S148_30, S148_33, S148_34, S148_38, S148_39, S148_42, S148_45, S148_47, S148_48, S148_51, S148_54, S148_55, S148_58, S148_60, S148_62, S148_63, S148_64, S148_65, S148_66, S148_68, S148_69, S148_73, S148_75, S148_78, S148_79, S148_82, S148_84, S148_86, S148_87, S148_89, S148_90, S148_91, S148_94, S148_95, S148_98, S148_100, S148_102, S148_103, S148_105, S148_106, S148_107, S148_108, S148_110, S148_111, S148_114, S148_116, S148_117, S148_118, S148_120, S148_121, S148_122, S148_123, S148_124, S148_125, S148_126, S148_127, S148_130, S148_133, S148_136, S148_139, S148_142, S148_145, shp_93, RV_93_1, RV_93_13, RV_93_14, RV_93_15, RV_93_16, RV_93_17, RV_93_18, RV_93_19, RV_93_20, RV_93_23, RV_93_24, RV_93_27, RV_93_28, RV_93_29, hm.2.1, if_pos hcd] at k1 ⊢
    exact k1
  | succ m ih =>
    intro i hc o5 o7 hi hf hm hh he kk
    have hcd : ¬ nI (wd r) ≤ nI i := nI_ge (by omega) (by omega)
    rw [S148_36]
    simp only [S148_0, S148_1, S148_2, S148_5, S148_6, S148_8, S148_9, S148_12, S148_15, S148_16, S148_19, S148_20, S148_21, S148_22, S148_25, S148_27, S148_28, S148_29, S148_30, S148_33, S148_34, S148_38, S148_39, S148_42, S148_45, S148_47, S148_48, S148_51, S148_54, S148_55, S148_58, S148_60, S148_62, S148_63, S148_64, S148_65, S148_66, S148_68, S148_69, S148_73, S148_75, S148_78, S148_79, S148_82, S148_84, S148_86, S148_87, S148_89, S148_90, S148_91, S148_94, S148_95, S148_98, S148_100, S148_102, S148_103, S148_105, S148_106, S148_107, S148_108, S148_110, S148_111, S148_114, S148_116, S148_117, S148_118, S148_120, S148_121, S148_122, S148_123, S148_124, S148_125, S148_126, S148_127, S148_130, S148_133, S148_136, S148_139, S148_142, S148_145, shp_93, RV_93_1, RV_93_13, RV_93_14, RV_93_15, RV_93_16, RV_93_17, RV_93_18, RV_93_19, RV_93_20, RV_93_23, RV_93_24, RV_93_27, RV_93_28, RV_93_29, hm.2.1, if_neg hcd, nI_eq (show i < 2 ^ 31 by omega) (show k < 2 ^ 31 by omega), kl_int, nI_add1]
    by_cases hik : i = k
    · rw [if_pos hik]
      refine ih (i + 1) hc o5 o7 (by omega) hf hm hh (fun a b ha hb => ?_) kk
      rw [he a b ha hb]
      by_cases z : a < i ∧ a < n ∧ a ≠ k
      · rw [if_pos z, if_pos ⟨by omega, z.2⟩]
      · rw [if_neg z, if_neg (fun y => z ⟨by omega, y.2⟩)]
    · rw [if_neg hik]
      have q1 := he i k (by omega) (by omega)
      rw [if_neg (by rintro z; exact absurd z.1 (by omega))] at q1
      unfold MV at q1
      simp only [S148_0, S148_1, S148_2, S148_5, S148_6, S148_8, S148_9, S148_12, S148_15, S148_16, S148_19, S148_20, S148_21, S148_22, S148_25, S148_27, S148_28, S148_29, S148_30, S148_33, S148_34, S148_38, S148_39, S148_42, S148_45, S148_47, S148_48, S148_51, S148_54, S148_55, S148_58, S148_60, S148_62, S148_63, S148_64, S148_65, S148_66, S148_68, S148_69, S148_73, S148_75, S148_78, S148_79, S148_82, S148_84, S148_86, S148_87, S148_89, S148_90, S148_91, S148_94, S148_95, S148_98, S148_100, S148_102, S148_103, S148_105, S148_106, S148_107, S148_108, S148_110, S148_111, S148_114, S148_116, S148_117, S148_118, S148_120, S148_121, S148_122, S148_123, S148_124, S148_125, S148_126, S148_127, S148_130, S148_133, S148_136, S148_139, S148_142, S148_145, shp_93, RV_93_1, RV_93_13, RV_93_14, RV_93_15, RV_93_16, RV_93_17, RV_93_18, RV_93_19, RV_93_20, RV_93_23, RV_93_24, RV_93_27, RV_93_28, RV_93_29, m6, nI_add, ok103 (show 6 * i + k < 36 by omega), nI_cl (show 6 * i + k < 2147483648 by omega), q1, kl_int, kl_none, kl_long]
      rw [nI_l0]
      refine m_frees_j (h := h) hV hn hk (by omega) hik hpv (nw := 0) 6 0 hc (by omega) hf hm hh (fun a b ha hb => ?_) (fun hc' f2 m2 h2 e2 => ?_)
      · rw [he a b ha hb]
        by_cases z : a < i ∧ a < n ∧ a ≠ k
        · rw [if_pos z, if_pos (Or.inl z)]
        · rw [if_neg z, if_neg (fun y => y.elim z (fun w => by omega))]
      · simp only [S148_0, S148_1, S148_2, S148_5, S148_6, S148_8, S148_9, S148_12, S148_15, S148_16, S148_19, S148_20, S148_21, S148_22, S148_25, S148_27, S148_28, S148_29, S148_30, S148_33, S148_34, S148_38, S148_39, S148_42, S148_45, S148_47, S148_48, S148_51, S148_54, S148_55, S148_58, S148_60, S148_62, S148_63, S148_64, S148_65, S148_66, S148_68, S148_69, S148_73, S148_75, S148_78, S148_79, S148_82, S148_84, S148_86, S148_87, S148_89, S148_90, S148_91, S148_94, S148_95, S148_98, S148_100, S148_102, S148_103, S148_105, S148_106, S148_107, S148_108, S148_110, S148_111, S148_114, S148_116, S148_117, S148_118, S148_120, S148_121, S148_122, S148_123, S148_124, S148_125, S148_126, S148_127, S148_130, S148_133, S148_136, S148_139, S148_142, S148_145, kl_int, kl_none, nI_add1]
        exact ih (i + 1) hc' _ _ (by omega) f2 m2 h2 e2 kk
theorem m_frees_k (hV : VR r) {T0 : Nat → Nat → Int64} (hnz : ∀ k, k < wd r → (gjT (wd r) T0 k).2 ≠ 0) : ∀ (m k : Nat) (hc : Hp) (o2 o4 o5 o7 : Option Value), k + m = wd r → mfr h hc → rowsM r hc → hc.2.1 93 26 = (gjT (wd r) T0 k).2 → (∀ a b, a < 6 → b < 6 → MV hc a b = (gjT (wd r) T0 k).1 a b) →
    (∀ hc' : Hp, mfr h hc' → rowsM r hc' → hc'.2.1 93 26 = (gjT (wd r) T0 (wd r)).2 → (∀ a b, a < 6 → b < 6 → MV hc' a b = (gjT (wd r) T0 (wd r)).1 a b) → Q (some none) hc') →
    WP d 148 7 [some (.ref 93), some (.int (nI k)), o2, none, o4, o5, none, o7] [] hc Q := by
  have hw := wd_5 hV
  intro m
  induction m with
  | zero =>
    intro k hc o2 o4 o5 o7 hk hf hm hh he kk
    have hcd : nI (wd r) ≤ nI k := nI_le (by omega) (by omega)
    have : k = wd r := by omega
    subst this
    rw [S148_7]
    simp only [S148_0, S148_1, S148_2, S148_5, S148_6, S148_8, S148_9, S148_12, S148_15, S148_16, S148_19, S148_20, S148_21, S148_22, S148_25, S148_27, S148_28, S148_29, S148_30, S148_33, S148_34, S148_38, S148_39, S148_42, S148_45, S148_47, S148_48, S148_51, S148_54, S148_55, S148_58, S148_60, S148_62, S148_63, S148_64, S148_65, S148_66, S148_68, S148_69, S148_73, S148_75, S148_78, S148_79, S148_82, S148_84, S148_86, S148_87, S148_89, S148_90, S148_91, S148_94, S148_95, S148_98, S148_100, S148_102, S148_103, S148_105, S148_106, S148_107, S148_108, S148_110, S148_111, S148_114, S148_116, S148_117, S148_118, S148_120, S148_121, S148_122, S148_123, S148_124, S148_125, S148_126, S148_127, S148_130, S148_133, S148_136, S148_139, S148_142, S148_145, shp_93, RV_93_1, RV_93_13, RV_93_14, RV_93_15, RV_93_16, RV_93_17, RV_93_18, RV_93_19, RV_93_20, RV_93_23, RV_93_24, RV_93_27, RV_93_28, RV_93_29, hm.2.1, if_pos hcd]
    exact kk hc hf hm hh he
  | succ m ih =>
    intro k hc o2 o4 o5 o7 hk hf hm hh he kk
    have hcd : ¬ nI (wd r) ≤ nI k := nI_ge (by omega) (by omega)
    have q1 := he k k (by omega) (by omega)
    unfold MV at q1
    rw [show 6 * k + k = 7 * k by omega] at q1
    rw [S148_7]
    simp only [S148_0, S148_1, S148_2, S148_5, S148_6, S148_8, S148_9, S148_12, S148_15, S148_16, S148_19, S148_20, S148_21, S148_22, S148_25, S148_27, S148_28, S148_29, S148_30, S148_33, S148_34, S148_38, S148_39, S148_42, S148_45, S148_47, S148_48, S148_51, S148_54, S148_55, S148_58, S148_60, S148_62, S148_63, S148_64, S148_65, S148_66, S148_68, S148_69, S148_73, S148_75, S148_78, S148_79, S148_82, S148_84, S148_86, S148_87, S148_89, S148_90, S148_91, S148_94, S148_95, S148_98, S148_100, S148_102, S148_103, S148_105, S148_106, S148_107, S148_108, S148_110, S148_111, S148_114, S148_116, S148_117, S148_118, S148_120, S148_121, S148_122, S148_123, S148_124, S148_125, S148_126, S148_127, S148_130, S148_133, S148_136, S148_139, S148_142, S148_145, shp_93, RV_93_1, RV_93_13, RV_93_14, RV_93_15, RV_93_16, RV_93_17, RV_93_18, RV_93_19, RV_93_20, RV_93_23, RV_93_24, RV_93_27, RV_93_28, RV_93_29, hm.2.1, if_neg hcd, hh, m7, ok103 (show 7 * k < 36 by omega), nI_cl (show 7 * k < 2147483648 by omega), q1, kl_int, kl_none, kl_long]
    rw [nI_l0]
    refine m_frees_i (h := h) hV (T := (gjT (wd r) T0 k).1) hw rfl (by omega) (hnz k (by omega)) (wd r) 0 _ _ _ (by omega) (frmF_tr hf (frmF_L (Or.inr ⟨rfl, by decide⟩))) hm (by rw [setL_rd, if_pos ⟨rfl, rfl⟩]) (fun a b ha hb => ?_) (fun hc' p4 p5 p7 f2 m2 h2 e2 => ?_)
    · rw [if_neg (fun z => by omega), ← he a b ha hb]
      unfold MV
      rw [setL_rd, if_neg (fun z => absurd z.1 (by decide))]
    · simp only [S148_0, S148_1, S148_2, S148_5, S148_6, S148_8, S148_9, S148_12, S148_15, S148_16, S148_19, S148_20, S148_21, S148_22, S148_25, S148_27, S148_28, S148_29, S148_30, S148_33, S148_34, S148_38, S148_39, S148_42, S148_45, S148_47, S148_48, S148_51, S148_54, S148_55, S148_58, S148_60, S148_62, S148_63, S148_64, S148_65, S148_66, S148_68, S148_69, S148_73, S148_75, S148_78, S148_79, S148_82, S148_84, S148_86, S148_87, S148_89, S148_90, S148_91, S148_94, S148_95, S148_98, S148_100, S148_102, S148_103, S148_105, S148_106, S148_107, S148_108, S148_110, S148_111, S148_114, S148_116, S148_117, S148_118, S148_120, S148_121, S148_122, S148_123, S148_124, S148_125, S148_126, S148_127, S148_130, S148_133, S148_136, S148_139, S148_142, S148_145, kl_ref, nI_add1]
      exact ih (k + 1) hc' _ _ _ _ (by omega) f2 m2 h2 e2 kk
theorem m_frees (hV : VR r) {T0 : Nat → Nat → Int64} (hnz : ∀ k, k < wd r → (gjT (wd r) T0 k).2 ≠ 0) (hm : rowsM r h) (he : ∀ a b, a < 6 → b < 6 → MV h a b = T0 a b)
    (kk : ∀ hc' : Hp, mfr h hc' → rowsM r hc' → hc'.2.1 93 26 = (gjT (wd r) T0 (wd r)).2 → (∀ a b, a < 6 → b < 6 → MV hc' a b = (gjT (wd r) T0 (wd r)).1 a b) → Q (some none) hc') :
    WP d 148 0 [some (.ref 93), none, none, none, none, none, none, none] [] h Q := by
  simp only [S148_0, S148_1, S148_2, S148_5, S148_6, S148_8, S148_9, S148_12, S148_15, S148_16, S148_19, S148_20, S148_21, S148_22, S148_25, S148_27, S148_28, S148_29, S148_30, S148_33, S148_34, S148_38, S148_39, S148_42, S148_45, S148_47, S148_48, S148_51, S148_54, S148_55, S148_58, S148_60, S148_62, S148_63, S148_64, S148_65, S148_66, S148_68, S148_69, S148_73, S148_75, S148_78, S148_79, S148_82, S148_84, S148_86, S148_87, S148_89, S148_90, S148_91, S148_94, S148_95, S148_98, S148_100, S148_102, S148_103, S148_105, S148_106, S148_107, S148_108, S148_110, S148_111, S148_114, S148_116, S148_117, S148_118, S148_120, S148_121, S148_122, S148_123, S148_124, S148_125, S148_126, S148_127, S148_130, S148_133, S148_136, S148_139, S148_142, S148_145, shp_93, RV_93_1, RV_93_13, RV_93_14, RV_93_15, RV_93_16, RV_93_17, RV_93_18, RV_93_19, RV_93_20, RV_93_23, RV_93_24, RV_93_27, RV_93_28, RV_93_29, kl_ref]
  rw [nI_l0]
  refine m_frees_k (h := h) hV hnz (wd r) 0 _ _ _ _ _ (by omega) (frmF_L (Or.inr ⟨rfl, by decide⟩)) hm (by rw [setL_rd, if_pos ⟨rfl, rfl⟩]; rfl) (fun a b ha hb => ?_) kk
  unfold MV
  rw [setL_rd, if_neg (fun z => absurd z.1 (by decide))]
  exact he a b ha hb
end
