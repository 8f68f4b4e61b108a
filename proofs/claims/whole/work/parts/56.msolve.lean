/-! The model solves; fractions in least terms. -/
noncomputable def hgV (r : Nat → Int32) (told : Prop) (T : (Nat → Nat → Int64) × Int64) (p : Nat) : Int64 := dv (soug r p) (T.1 (rowN r p) 5) + dv (¬ soug r p ∧ told ∧ fxd r p) ((r (8 + p)).toInt64 * T.2)
def solM (r : Nat → Int32) (told : Prop) (T : (Nat → Nat → Int64) × Int64) (h : Hp) : Prop := h.2.1 93 26 = T.2 ∧ ∀ p, p < rP r → h.2.1 105 p = hgV r told T p
theorem ok106 {n : Nat} (h : n < 2) : okA 4 106 (nI n) := okA_nI shp_106 h (by decide)
theorem ok106_0 : okA 4 106 0 := ok106 (n := 0) (by decide)
theorem ok106_1 : okA 4 106 1 := ok106 (n := 1) (by decide)
section
variable {d : Nat} {h : Hp} {Q : Option (Option Value) → Hp → Prop} {x y z t : Int32} {u w v rs : Int64} {k l p q : Nat} {r : Nat → Int32} {T0 : Nat → Nat → Int64}
theorem m_solve_loop (hV : VR r) {T : (Nat → Nat → Int64) × Int64} : ∀ (n p : Nat) (hc : Hp), p + n = rP r → mfr h hc → rowsM r hc → hc.2.1 93 26 = T.2 → (∀ a b, a < 6 → b < 6 → MV hc a b = T.1 a b) → (∀ j, j < p → hc.2.1 105 j = hgV r (t ≠ 0) T j) →
    (∀ hc' : Hp, mfr h hc' → rowsM r hc' → solM r (t ≠ 0) T hc' → Q (some none) hc') →
    WP (d + 1) 149 6 [some (.ref 93), some (.int t), some (.int (nI p))] [] hc Q := by
  have hP := hV.1
  have hw := wd_5 hV
  intro n
  induction n with
  | zero =>
    intro p hc hp hf hm hh he hj kk
    have hcd : nI (rP r) ≤ nI p := nI_le (by omega) (by omega)
    have : p = rP r := by omega
    subst this
    rw [S149_6]
    simp only [S149_0, S149_1, S149_4, S149_5, S149_7, S149_8, S149_11, S149_14, S149_15, S149_18, S149_19, S149_20, S149_23, S149_24, S149_25, S149_26, S149_29, S149_30, S149_33, S149_35, S149_36, S149_39, S149_40, S149_41, S149_42, S149_43, S149_44, S149_45, S149_48, S149_49, S149_52, S149_53, S149_54, S149_57, S149_60, S149_61, S149_64, S149_66, S149_67, S149_68, S149_69, S149_70, S149_71, S149_74, S149_75, S149_78, S149_79, S149_80, S149_83, S149_86, shp_93, RV_93_1, RV_93_13, RV_93_14, RV_93_15, RV_93_16, RV_93_17, RV_93_18, RV_93_19, RV_93_20, RV_93_23, RV_93_24, RV_93_27, RV_93_28, RV_93_29, m_points, kR_at, hm.1, hP.1, if_pos hcd]
    exact kk hc hf hm ⟨hh, hj⟩
  | succ n ih =>
    intro p hc hp hf hm hh he hj kk
    have hcd : ¬ nI (rP r) ≤ nI p := nI_ge (by omega) (by omega)
    have hpl : p < rP r := by omega
    have hp6 : p < 6 := by omega
    have c1 := nI_cl (n := p) (by omega)
    have key : ∀ v, v = hgV r (t ≠ 0) T p → WP (d + 1) 149 79 [some (.ref 93), some (.int t), some (.int (nI p))] [.long v, .int (nI p), .ref 105] hc Q := by
      intro v hv
      simp only [S149_0, S149_1, S149_4, S149_5, S149_7, S149_8, S149_11, S149_14, S149_15, S149_18, S149_19, S149_20, S149_23, S149_24, S149_25, S149_26, S149_29, S149_30, S149_33, S149_35, S149_36, S149_39, S149_40, S149_41, S149_42, S149_43, S149_44, S149_45, S149_48, S149_49, S149_52, S149_53, S149_54, S149_57, S149_60, S149_61, S149_64, S149_66, S149_67, S149_68, S149_69, S149_70, S149_71, S149_74, S149_75, S149_78, S149_79, S149_80, S149_83, S149_86, shp_93, RV_93_1, RV_93_13, RV_93_14, RV_93_15, RV_93_16, RV_93_17, RV_93_18, RV_93_19, RV_93_20, RV_93_23, RV_93_24, RV_93_27, RV_93_28, RV_93_29, ok105 hp6, c1, kl_int, nI_add1]
      refine ih (p + 1) _ (by omega) (frmF_tr hf (frmF_L (Or.inl ⟨by decide, by decide⟩))) hm (by rw [setL_rd, if_neg (fun z => absurd z.1 (by decide))]; exact hh) (fun a b ha hb => ?_) (fun j hjp => ?_) kk
      · unfold MV
        rw [setL_rd, if_neg (fun z => absurd z.1 (by decide))]
        exact he a b ha hb
      · rw [setL_rd]
        by_cases e : j = p
        · subst e; rw [if_pos ⟨rfl, rfl⟩]; exact hv
        · rw [if_neg (fun z => e z.2)]; exact hj j (by omega)
    rw [S149_6]
    simp only [S149_0, S149_1, S149_4, S149_5, S149_7, S149_8, S149_11, S149_14, S149_15, S149_18, S149_19, S149_20, S149_23, S149_24, S149_25, S149_26, S149_29, S149_30, S149_33, S149_35, S149_36, S149_39, S149_40, S149_41, S149_42, S149_43, S149_44, S149_45, S149_48, S149_49, S149_52, S149_53, S149_54, S149_57, S149_60, S149_61, S149_64, S149_66, S149_67, S149_68, S149_69, S149_70, S149_71, S149_74, S149_75, S149_78, S149_79, S149_80, S149_83, S149_86, shp_93, RV_93_1, RV_93_13, RV_93_14, RV_93_15, RV_93_16, RV_93_17, RV_93_18, RV_93_19, RV_93_20, RV_93_23, RV_93_24, RV_93_27, RV_93_28, RV_93_29, m_points, kR_at, hm.1, hP.1, if_neg hcd, ok104 hp6, c1, hm.2.2 p hpl]
    by_cases hs : soug r p
    · have hlt := rowN_lt hs
      have hne : ¬ nI (rowN r p) = -1 := fun z => (rowV_ne hV).mp (by rw [rowV_y hs]; exact z) hs
      have e5 := he (rowN r p) 5 (by omega) (by omega)
      unfold MV at e5
      have k1 := key (T.1 (rowN r p) 5) (by unfold hgV; rw [dv_t hs, dv_f (fun z => z.1 hs), Int64.add_zero])
      simp only [rowV_y hs, if_neg hne, m6, a5, ok103 (show 6 * rowN r p + 5 < 36 by omega), nI_cl (show 6 * rowN r p + 5 < 2147483648 by omega), e5, S149_0, S149_1, S149_4, S149_5, S149_7, S149_8, S149_11, S149_14, S149_15, S149_18, S149_19, S149_20, S149_23, S149_24, S149_25, S149_26, S149_29, S149_30, S149_33, S149_35, S149_36, S149_39, S149_40, S149_41, S149_42, S149_43, S149_44, S149_45, S149_48, S149_49, S149_52, S149_53, S149_54, S149_57, S149_60, S149_61, S149_64, S149_66, S149_67, S149_68, S149_69, S149_70, S149_71, S149_74, S149_75, S149_78, S149_79, S149_80, S149_83, S149_86, shp_93, RV_93_1, RV_93_13, RV_93_14, RV_93_15, RV_93_16, RV_93_17, RV_93_18, RV_93_19, RV_93_20, RV_93_23, RV_93_24, RV_93_27, RV_93_28, RV_93_29] at k1 ⊢
      exact k1
    · simp only [rowV_n hs, if_true]
      have k0 : ¬ (t ≠ 0 ∧ fxd r p) → WP (d + 1) 149 79 [some (.ref 93), some (.int t), some (.int (nI p))] [.long 0, .int (nI p), .ref 105] hc Q := fun z => key 0 (by unfold hgV; rw [dv_f hs, dv_f (fun y => z y.2), Int64.add_zero])
      by_cases h0 : t = 0
      · have k1 := k0 (fun z => z.1 h0)
        simp only [h0, if_true, S149_0, S149_1, S149_4, S149_5, S149_7, S149_8, S149_11, S149_14, S149_15, S149_18, S149_19, S149_20, S149_23, S149_24, S149_25, S149_26, S149_29, S149_30, S149_33, S149_35, S149_36, S149_39, S149_40, S149_41, S149_42, S149_43, S149_44, S149_45, S149_48, S149_49, S149_52, S149_53, S149_54, S149_57, S149_60, S149_61, S149_64, S149_66, S149_67, S149_68, S149_69, S149_70, S149_71, S149_74, S149_75, S149_78, S149_79, S149_80, S149_83, S149_86, shp_93, RV_93_1, RV_93_13, RV_93_14, RV_93_15, RV_93_16, RV_93_17, RV_93_18, RV_93_19, RV_93_20, RV_93_23, RV_93_24, RV_93_27, RV_93_28, RV_93_29] at k1 ⊢
        exact k1
      · simp only [h0, if_false, m_isFixed hp6, kR_at, hm.1, ite1, la_8, ok95 (show 8 + p < 69 by omega), nI_cl (show 8 + p < 2147483648 by omega), hh, S149_0, S149_1, S149_4, S149_5, S149_7, S149_8, S149_11, S149_14, S149_15, S149_18, S149_19, S149_20, S149_23, S149_24, S149_25, S149_26, S149_29, S149_30, S149_33, S149_35, S149_36, S149_39, S149_40, S149_41, S149_42, S149_43, S149_44, S149_45, S149_48, S149_49, S149_52, S149_53, S149_54, S149_57, S149_60, S149_61, S149_64, S149_66, S149_67, S149_68, S149_69, S149_70, S149_71, S149_74, S149_75, S149_78, S149_79, S149_80, S149_83, S149_86, shp_93, RV_93_1, RV_93_13, RV_93_14, RV_93_15, RV_93_16, RV_93_17, RV_93_18, RV_93_19, RV_93_20, RV_93_23, RV_93_24, RV_93_27, RV_93_28, RV_93_29]
        by_cases hx : r (2 + p) = 1
        · have k1 := key ((r (8 + p)).toInt64 * T.2) (by unfold hgV; rw [dv_f hs, dv_t ⟨hs, h0, hpl, hx⟩, Int64.zero_add])
          rw [if_neg (fun z => z hx)]
          exact k1
        · have k1 := k0 (fun z => hx z.2.2)
          rw [if_pos hx]
          exact k1
theorem m_solve (hV : VR r) (hnz : ∀ k, k < wd r → (gjT (wd r) T0 k).2 ≠ 0) (hm : rowsM r h) (he : ∀ a b, a < 6 → b < 6 → MV h a b = T0 a b)
    (kk : ∀ hc' : Hp, mfr h hc' → rowsM r hc' → solM r (t ≠ 0) (gjT (wd r) T0 (wd r)) hc' → Q (some none) hc') :
    WP (d + 1) 149 0 [some (.ref 93), some (.int t), none] [] h Q := by
  simp only [S149_0, S149_1, S149_4, S149_5, S149_7, S149_8, S149_11, S149_14, S149_15, S149_18, S149_19, S149_20, S149_23, S149_24, S149_25, S149_26, S149_29, S149_30, S149_33, S149_35, S149_36, S149_39, S149_40, S149_41, S149_42, S149_43, S149_44, S149_45, S149_48, S149_49, S149_52, S149_53, S149_54, S149_57, S149_60, S149_61, S149_64, S149_66, S149_67, S149_68, S149_69, S149_70, S149_71, S149_74, S149_75, S149_78, S149_79, S149_80, S149_83, S149_86, shp_93, RV_93_1, RV_93_13, RV_93_14, RV_93_15, RV_93_16, RV_93_17, RV_93_18, RV_93_19, RV_93_20, RV_93_23, RV_93_24, RV_93_27, RV_93_28, RV_93_29]
  refine m_frees hV hnz hm he (fun h1 f1 m1 h1' e1 => ?_)
  simp only [kV_at, S149_0, S149_1, S149_4, S149_5, S149_7, S149_8, S149_11, S149_14, S149_15, S149_18, S149_19, S149_20, S149_23, S149_24, S149_25, S149_26, S149_29, S149_30, S149_33, S149_35, S149_36, S149_39, S149_40, S149_41, S149_42, S149_43, S149_44, S149_45, S149_48, S149_49, S149_52, S149_53, S149_54, S149_57, S149_60, S149_61, S149_64, S149_66, S149_67, S149_68, S149_69, S149_70, S149_71, S149_74, S149_75, S149_78, S149_79, S149_80, S149_83, S149_86, kl_int]
  rw [nI_l0]
  exact m_solve_loop (h := h) hV (rP r) 0 h1 (by omega) f1 m1 h1' e1 (fun j hj => by omega) kk
/-- as told: the heights -/
noncomputable def gjN (r : Nat → Int32) : (Nat → Nat → Int64) × Int64 := gjT (wd r) (LSm r True (rL r)) (wd r)
theorem LSm_1 : LSm r ((1 : Int32) ≠ 0) = LSm r True := by rw [show ((1 : Int32) ≠ 0) = True by simp]
theorem m_solveNow (hr : h.1 95 = r) (hV : VR r) (hnz : ∀ k, k < wd r → (gjT (wd r) (LSm r True (rL r)) k).2 ≠ 0)
    (kk : ∀ hc' : Hp, mfr h hc' → rowsM r hc' → solM r True (gjN r) hc' → Q (some none) hc') :
    WP (d + 7) 150 0 [some (.ref 93)] [] h Q := by
  simp only [S150_0, S150_1, S150_2, S150_5, S150_6, S150_7, S150_10, shp_93, RV_93_1, RV_93_13, RV_93_14, RV_93_15, RV_93_16, RV_93_17, RV_93_18, RV_93_19, RV_93_20, RV_93_23, RV_93_24, RV_93_27, RV_93_28, RV_93_29]
  refine m_laysAll (d := d) hr hV (fun h1 f1 m1 e1 => ?_)
  simp only [kV_at, S150_0, S150_1, S150_2, S150_5, S150_6, S150_7, S150_10, shp_93, RV_93_1, RV_93_13, RV_93_14, RV_93_15, RV_93_16, RV_93_17, RV_93_18, RV_93_19, RV_93_20, RV_93_23, RV_93_24, RV_93_27, RV_93_28, RV_93_29]
  rw [LSm_1] at e1
  refine m_solve (d := d + 5) hV hnz m1 e1 (fun h2 f2 m2 e2 => ?_)
  simp only [kV_at, S150_0, S150_1, S150_2, S150_5, S150_6, S150_7, S150_10]
  rw [show ((1 : Int32) ≠ 0) = True by simp] at e2
  exact kk h2 (frmF_tr f1 f2) m2 e2
theorem m_offOf {T : (Nat → Nat → Int64) × Int64} (hV : VR r) (hr : h.1 95 = r) (hs : solM r True T h) (hl : l < rL r) : WP (d + 1) 156 0 [some (.ref 93), some (.int (nI l))] [] h Q ↔ Q (some (some (.long (hgV r True T (rB r l) - hgV r True T (rA r l) - (r (36 + l)).toInt64 * T.2)))) h := by
  have hP := hV.1
  have hL := hV.2.1
  have hl11 : l < 11 := by omega
  have hVl := hV.2.2.2 l hl
  simp only [S156_0, S156_1, S156_4, S156_5, S156_6, S156_9, S156_10, S156_11, S156_14, S156_15, S156_16, S156_19, S156_20, S156_21, S156_22, S156_25, S156_27, S156_28, S156_29, S156_30, S156_31, S156_32, S156_35, S156_36, S156_37, shp_93, RV_93_1, RV_93_13, RV_93_14, RV_93_15, RV_93_16, RV_93_17, RV_93_18, RV_93_19, RV_93_20, RV_93_23, RV_93_24, RV_93_27, RV_93_28, RV_93_29, kR_at, hr, m_first hl11, m_second hl11, hVl.1.1, hVl.2.1.1, ok105 (show rA r l < 6 by omega), ok105 (show rB r l < 6 by omega), nI_cl (show rA r l < 2147483648 by omega), nI_cl (show rB r l < 2147483648 by omega), hs.2 _ hVl.1.2, hs.2 _ hVl.2.1.2, hs.1, la_36, ok95 (show 36 + l < 69 by omega), nI_cl (show 36 + l < 2147483648 by omega)]
theorem m_heldBy (hr : h.1 95 = r) (hp : p < 6) : WP (d + 1) 158 0 [some (.ref 93), some (.int (nI p))] [] h Q ↔ Q (some (some (.long (if r (2 + p) = 1 then (r (8 + p)).toInt64 else 0)))) h := by
  simp only [S158_0, S158_1, S158_2, S158_5, S158_8, S158_9, S158_12, S158_14, S158_15, S158_16, S158_17, S158_18, S158_21, S158_22, shp_93, RV_93_1, RV_93_13, RV_93_14, RV_93_15, RV_93_16, RV_93_17, RV_93_18, RV_93_19, RV_93_20, RV_93_23, RV_93_24, RV_93_27, RV_93_28, RV_93_29, kR_at, hr, m_isFixed hp, ite1, la_8, ok95 (show 8 + p < 69 by omega), nI_cl (show 8 + p < 2147483648 by omega)]
  by_cases hx : r (2 + p) = 1
  · rw [if_neg (fun z => z hx), if_pos hx]
  · rw [if_pos hx, if_neg hx]
/-- the system of a doubt -/
noncomputable def dbT (r : Nat → Int32) (p q : Nat) (i j : Nat) : Int64 := LSm r False (rL r) i j + dv (soug r p ∧ i = rowN r p ∧ j = 5) 1 + dv (soug r q ∧ i = rowN r q ∧ j = 5) (-1)
noncomputable def dbV (r : Nat → Int32) (p q : Nat) : Int64 := hgV r False (gjT (wd r) (dbT r p q) (wd r)) p - hgV r False (gjT (wd r) (dbT r p q) (wd r)) q
theorem m_doubtOf (hr : h.1 95 = r) (hV : VR r) (hp : p < rP r) (hq : q < rP r) (hnz : ∀ k, k < wd r → (gjT (wd r) (dbT r p q) k).2 ≠ 0)
    (kk : ∀ hc' : Hp, mfr h hc' → rowsM r hc' → hc'.2.1 93 26 = (gjT (wd r) (dbT r p q) (wd r)).2 → Q (some (some (.long (dbV r p q)))) hc') :
    WP (d + 7) 168 0 [some (.ref 93), some (.int (nI p)), some (.int (nI q))] [] h Q := by
  have hP := hV.1
  simp only [S168_0, S168_1, S168_2, S168_5, S168_6, S168_7, S168_8, S168_9, S168_12, S168_13, S168_14, S168_15, S168_18, S168_21, S168_22, S168_23, S168_26, S168_27, S168_30, S168_31, S168_32, S168_33, S168_36, S168_37, S168_38, S168_39, shp_93, RV_93_1, RV_93_13, RV_93_14, RV_93_15, RV_93_16, RV_93_17, RV_93_18, RV_93_19, RV_93_20, RV_93_23, RV_93_24, RV_93_27, RV_93_28, RV_93_29]
  refine m_laysAll (d := d) hr hV (fun h1 f1 m1 e1 => ?_)
  simp only [kV_at, S168_0, S168_1, S168_2, S168_5, S168_6, S168_7, S168_8, S168_9, S168_12, S168_13, S168_14, S168_15, S168_18, S168_21, S168_22, S168_23, S168_26, S168_27, S168_30, S168_31, S168_32, S168_33, S168_36, S168_37, S168_38, S168_39, shp_93, RV_93_1, RV_93_13, RV_93_14, RV_93_15, RV_93_16, RV_93_17, RV_93_18, RV_93_19, RV_93_20, RV_93_23, RV_93_24, RV_93_27, RV_93_28, RV_93_29]
  rw [show ((0 : Int32) ≠ 0) = False by simp] at e1
  rw [n5]
  refine m_adds hV m1 hp (show 5 < 6 by omega) (fun h2 f2 m2 e2 => ?_)
  simp only [kV_at, S168_0, S168_1, S168_2, S168_5, S168_6, S168_7, S168_8, S168_9, S168_12, S168_13, S168_14, S168_15, S168_18, S168_21, S168_22, S168_23, S168_26, S168_27, S168_30, S168_31, S168_32, S168_33, S168_36, S168_37, S168_38, S168_39, shp_93, RV_93_1, RV_93_13, RV_93_14, RV_93_15, RV_93_16, RV_93_17, RV_93_18, RV_93_19, RV_93_20, RV_93_23, RV_93_24, RV_93_27, RV_93_28, RV_93_29]
  rw [n5]
  refine m_adds hV m2 hq (show 5 < 6 by omega) (fun h3 f3 m3 e3 => ?_)
  simp only [kV_at, S168_0, S168_1, S168_2, S168_5, S168_6, S168_7, S168_8, S168_9, S168_12, S168_13, S168_14, S168_15, S168_18, S168_21, S168_22, S168_23, S168_26, S168_27, S168_30, S168_31, S168_32, S168_33, S168_36, S168_37, S168_38, S168_39, shp_93, RV_93_1, RV_93_13, RV_93_14, RV_93_15, RV_93_16, RV_93_17, RV_93_18, RV_93_19, RV_93_20, RV_93_23, RV_93_24, RV_93_27, RV_93_28, RV_93_29]
  refine m_solve (d := d + 5) hV hnz m3 (fun a b ha hb => by rw [e3 a b ha hb, e2 a b ha hb, e1 a b ha hb]; rfl) (fun h4 f4 m4 e4 => ?_)
  rw [show ((0 : Int32) ≠ 0) = False by simp] at e4
  simp only [kV_at, S168_0, S168_1, S168_2, S168_5, S168_6, S168_7, S168_8, S168_9, S168_12, S168_13, S168_14, S168_15, S168_18, S168_21, S168_22, S168_23, S168_26, S168_27, S168_30, S168_31, S168_32, S168_33, S168_36, S168_37, S168_38, S168_39, shp_93, RV_93_1, RV_93_13, RV_93_14, RV_93_15, RV_93_16, RV_93_17, RV_93_18, RV_93_19, RV_93_20, RV_93_23, RV_93_24, RV_93_27, RV_93_28, RV_93_29, ok105 (show p < 6 by omega), ok105 (show q < 6 by omega), nI_cl (show p < 2147483648 by omega), nI_cl (show q < 2147483648 by omega), e4.2 p hp, e4.2 q hq]
  exact kk h4 (frmF_tr f1 (frmF_tr f2 (frmF_tr f3 f4))) m4 e4.1
/-! least terms -/
theorem m_tells_loop {ab be : Int64} : ∀ (n a b : Nat) (o9 : Option Value), b ≤ n → a < 2 ^ 63 → b < 2 ^ 63 → Nat.gcd a b ≠ 0 →
    (∀ o9' : Option Value, WP d 151 42 [some (.ref 93), some (.long ab), none, some (.long be), none, some (.long (lN (Nat.gcd a b))), none, some (.long 0), none, o9', none] [] h Q) →
    WP d 151 17 [some (.ref 93), some (.long ab), none, some (.long be), none, some (.long (lN a)), none, some (.long (lN b)), none, o9, none] [] h Q := by
  intro n
  induction n with
  | zero =>
    intro a b o9 hb ha hb2 hg kk
    have : b = 0 := by omega
    subst this
    have k1 := kk o9
    rw [Nat.gcd_zero_right] at k1
    rw [S151_17]
    simp only [S151_0, S151_1, S151_2, S151_3, S151_6, S151_7, S151_8, S151_11, S151_12, S151_14, S151_15, S151_19, S151_20, S151_21, S151_24, S151_26, S151_28, S151_29, S151_31, S151_33, S151_35, S151_37, S151_39, S151_42, S151_43, S151_46, S151_47, S151_48, S151_50, S151_51, S151_52, S151_53, S151_56, S151_57, S151_58, S151_60, S151_61, S151_62, shp_93, RV_93_1, RV_93_13, RV_93_14, RV_93_15, RV_93_16, RV_93_17, RV_93_18, RV_93_19, RV_93_20, RV_93_23, RV_93_24, RV_93_27, RV_93_28, RV_93_29] at k1 ⊢
    rw [if_pos (by decide)]
    exact k1
  | succ n ih =>
    intro a b o9 hb ha hb2 hg kk
    by_cases h0 : b = 0
    · exact ih a b o9 (by omega) ha hb2 hg kk
    · have hne : lN b ≠ 0 := fun z => h0 ((pk_lEQ (b := 0) hb2 (by decide)).mp z)
      have hc : ¬ lg_cmp (lN b) 0 = 0 := by
        unfold lg_cmp
        have : lN b > 0 := (pk_lLT (a := 0) (by decide) hb2).mpr (by omega)
        rw [if_pos this]; decide
      have hlt := Nat.mod_lt a (show 0 < b by omega)
      have eg : Nat.gcd b (a % b) = Nat.gcd a b := by rw [Nat.gcd_comm b, ← Nat.gcd_rec, Nat.gcd_comm]
      rw [S151_17]
      simp only [S151_0, S151_1, S151_2, S151_3, S151_6, S151_7, S151_8, S151_11, S151_12, S151_14, S151_15, S151_19, S151_20, S151_21, S151_24, S151_26, S151_28, S151_29, S151_31, S151_33, S151_35, S151_37, S151_39, S151_42, S151_43, S151_46, S151_47, S151_48, S151_50, S151_51, S151_52, S151_53, S151_56, S151_57, S151_58, S151_60, S151_61, S151_62, shp_93, RV_93_1, RV_93_13, RV_93_14, RV_93_15, RV_93_16, RV_93_17, RV_93_18, RV_93_19, RV_93_20, RV_93_23, RV_93_24, RV_93_27, RV_93_28, RV_93_29, if_neg hc, hne, ne_eq, not_false_eq_true, pk_lRem ha (show 0 < b by omega) hb2, kl_none, kl_long]
      refine ih b (a % b) _ (by omega) hb2 (by omega) (by rw [eg]; exact hg) (fun o9' => ?_)
      rw [eg]
      exact kk o9'
theorem m_tells {ab : Int64} {A : Nat} {B : Nat} (hA : ab.toInt.natAbs = A) (hA2 : A < 2 ^ 63) (hB : 0 < B) (hB2 : B < 2 ^ 63)
    (kk : ∀ h' : Hp, mfr h h' → h'.1 = h.1 → h'.2.1 93 = h.2.1 93 → h'.2.1 105 = h.2.1 105 → h'.2.1 106 0 = ab / lN (Nat.gcd A B) → h'.2.1 106 1 = lN B / lN (Nat.gcd A B) → Q (some none) h') :
    WP d 151 0 [some (.ref 93), some (.long ab), none, some (.long (lN B)), none, none, none, none, none, none, none] [] h Q := by
  have hg : 0 < Nat.gcd A B := Nat.gcd_pos_of_pos_right _ hB
  have hg2 : Nat.gcd A B ≤ B := Nat.gcd_le_right _ hB
  have hgn : lN (Nat.gcd A B) ≠ 0 := fun z => by
    have := (pk_lEQ (b := 0) (show Nat.gcd A B < 2 ^ 63 by omega) (by decide)).mp z
    omega
  have main : WP d 151 17 [some (.ref 93), some (.long ab), none, some (.long (lN B)), none, some (.long (lN A)), none, some (.long (lN B)), none, none, none] [] h Q := by
    refine m_tells_loop B A B none (Nat.le_refl _) hA2 hB2 (by omega) (fun o9 => ?_)
    simp only [S151_0, S151_1, S151_2, S151_3, S151_6, S151_7, S151_8, S151_11, S151_12, S151_14, S151_15, S151_19, S151_20, S151_21, S151_24, S151_26, S151_28, S151_29, S151_31, S151_33, S151_35, S151_37, S151_39, S151_42, S151_43, S151_46, S151_47, S151_48, S151_50, S151_51, S151_52, S151_53, S151_56, S151_57, S151_58, S151_60, S151_61, S151_62, shp_93, RV_93_1, RV_93_13, RV_93_14, RV_93_15, RV_93_16, RV_93_17, RV_93_18, RV_93_19, RV_93_20, RV_93_23, RV_93_24, RV_93_27, RV_93_28, RV_93_29, ok106_0, ok106_1, cl_0, cl_1, hgn, ne_eq, not_false_eq_true]
    refine kk _ (frmF_tr (frmF_L (Or.inl ⟨by decide, by decide⟩)) (frmF_L (Or.inl ⟨by decide, by decide⟩))) rfl ?_ ?_ ?_ ?_
    · rw [setL_1 (by decide), setL_1 (by decide)]
    · rw [setL_1 (by decide), setL_1 (by decide)]
    · rw [setL_rd, if_neg (by decide), setL_rd, if_pos ⟨rfl, rfl⟩]
    · rw [setL_rd, if_pos ⟨rfl, rfl⟩]
  have hlit : (0 : Int64).toInt = 0 := by decide
  simp only [S151_0, S151_1, S151_2, S151_3, S151_6, S151_7, S151_8, S151_11, S151_12, S151_14, S151_15, S151_19, S151_20, S151_21, S151_24, S151_26, S151_28, S151_29, S151_31, S151_33, S151_35, S151_37, S151_39, S151_42, S151_43, S151_46, S151_47, S151_48, S151_50, S151_51, S151_52, S151_53, S151_56, S151_57, S151_58, S151_60, S151_61, S151_62, kl_none, kl_long, lg_cmp_ge]
  by_cases hp : 0 ≤ ab
  · rw [if_pos hp]
    have e : ab = lN A := by
      apply Int64.toInt_inj.mp
      rw [pk_lT hA2]
      rw [Int64.le_iff_toInt_le, hlit] at hp
      omega
    rw [← e] at main
    exact main
  · rw [if_neg hp]
    have e : -ab = lN A := by
      apply Int64.toInt_inj.mp
      rw [pk_lT hA2, Int64.toInt_neg]
      rw [Int64.le_iff_toInt_le, hlit] at hp
      rw [Int.bmod_eq_of_le (by omega) (by omega)]
      omega
    rw [e]
    exact main
theorem m_said (hx : k < 2) : WP d 152 0 [some (.ref 93), some (.int (nI k))] [] h Q ↔ Q (some (some (.long (h.2.1 106 k)))) h := by
  simp only [S152_0, S152_1, S152_4, S152_5, S152_6, shp_93, RV_93_1, RV_93_13, RV_93_14, RV_93_15, RV_93_16, RV_93_17, RV_93_18, RV_93_19, RV_93_20, RV_93_23, RV_93_24, RV_93_27, RV_93_28, RV_93_29, ok106 hx, nI_cl (show k < 2147483648 by omega)]
end
