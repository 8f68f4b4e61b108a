/-! The model's sum; what a line would have to tell. -/
section
variable {d : Nat} {h : Hp} {Q : Option (Option Value) → Hp → Prop} {x y z t : Int32} {u w v rs : Int64} {k l p q : Nat} {r : Nat → Int32}
theorem all_b (hV : VR r) : 0 ≤ allI r ∧ allI r < 9000000000000000000 := by
  have h1 := sum_all hV
  have h2 := (sum_gg hV).1
  have h3 := sum_b hV
  have hd := (dd_U hV).1
  have h4 : 0 ≤ allI r := by
    rw [h1] at h2
    exact Int.nonneg_of_mul_nonneg_right h2 hd
  have h5 : 1 * allI r ≤ dd r * allI r := Int.mul_le_mul_of_nonneg_right (by omega) h4
  omega
theorem sum_hlf (hV : VR r) : hlf (allI r) (dN r) y = hlf (sumI r) (dN r * dN r) y := by
  have hd := dN_b hV
  have e := r_eq (a := allI r) (a' := sumI r) (b := dN r) (b' := dN r * dN r) hd.1 (Nat.mul_pos hd.1 hd.1) (by
    rw [sum_all hV, Int.natCast_mul, dN_i hV]
    grind)
  unfold hlf
  rw [e.1, e.2]
theorem held_kE (hV : VR r) (hp : p < rP r) : (if r (2 + p) = 1 then (r (8 + p)).toInt64 else 0) = iL (kE r p) := by
  unfold kE
  by_cases c : r (2 + p) = 1
  · rw [if_pos c, dI_t ⟨hp, c⟩, iL_32]
  · rw [if_neg c, dI_f (fun z => c z.2)]
    rfl
theorem off_N (hV : VR r) (hl : l < rL r) : hgV r True (gjN r) (rB r l) - hgV r True (gjN r) (rA r l) - (r (36 + l)).toInt64 * lN (dN r) = iL (offI r l) := by
  rw [← eI_of (off_eI hV hl), ← d_lN hV, gjN_h hV, gjN_h hV, eI_of (ab_eI (p := rB r l) hV), eI_of (ab_eI (p := rA r l) hV)]
theorem m_sum_loop (hr : h.1 95 = r) (hV : VR r) (hs : solM r True (gjN r) h) : ∀ (m l : Nat), l + m = rL r → (WP (d + 2) 159 106 [some (.ref 93), some (.int y), some (.long (iL (allI r))), none, some (.int (nI (rL r)))] [] h Q → WP (d + 2) 159 27 [some (.ref 93), some (.int y), some (.long (iL (sm l (fun l => wE r l * offI r l * (- gE r l))))), none, some (.int (nI l))] [] h Q) := by
  have h11 := hV.2.1
  intro m
  induction m with
  | zero =>
    intro l hl kk
    have : l = rL r := by omega
    subst this
    have hcd : nI (rL r) ≤ nI (rL r) := nI_le (Nat.le_refl _) (by omega)
    rw [S159_27]
    simp only [S159_0, S159_1, S159_2, S159_5, S159_6, S159_9, S159_12, S159_13, S159_16, S159_17, S159_18, S159_19, S159_22, S159_23, S159_24, S159_25, S159_29, S159_30, S159_33, S159_36, S159_37, S159_39, S159_42, S159_45, S159_46, S159_47, S159_50, S159_52, S159_54, S159_55, S159_56, S159_57, S159_58, S159_60, S159_63, S159_64, S159_65, S159_66, S159_68, S159_71, S159_74, S159_75, S159_76, S159_78, S159_81, S159_84, S159_85, S159_86, S159_89, S159_91, S159_93, S159_94, S159_95, S159_96, S159_97, S159_98, S159_99, S159_100, S159_103, S159_106, S159_107, S159_108, S159_109, S159_112, S159_115, S159_116, S159_117, S159_120, shp_93, RV_93_1, RV_93_13, RV_93_14, RV_93_15, RV_93_16, RV_93_17, RV_93_18, RV_93_19, RV_93_20, RV_93_23, RV_93_24, RV_93_27, RV_93_28, RV_93_29, m_lines, kR_at, hr, h11.1, if_pos hcd] at kk ⊢
    exact kk
  | succ m ih =>
    intro l hl kk
    have hcd : ¬ nI (rL r) ≤ nI l := nI_ge (by omega) (by omega)
    have hlt : l < rL r := by omega
    have hl11 : l < 11 := by omega
    have hVl := hV.2.2.2 l hlt
    have ih := ih (l + 1) (by omega) kk
    have ih' : WP (d + 2) 159 27 [some (.ref 93), some (.int y), some (.long (iL (sm l (fun l => wE r l * offI r l * (- gE r l)) + wE r l * offI r l * (- gE r l)))), none, some (.int (nI (l + 1)))] [] h Q := ih
    rw [S159_27]
    simp only [S159_0, S159_1, S159_2, S159_5, S159_6, S159_9, S159_12, S159_13, S159_16, S159_17, S159_18, S159_19, S159_22, S159_23, S159_24, S159_25, S159_29, S159_30, S159_33, S159_36, S159_37, S159_39, S159_42, S159_45, S159_46, S159_47, S159_50, S159_52, S159_54, S159_55, S159_56, S159_57, S159_58, S159_60, S159_63, S159_64, S159_65, S159_66, S159_68, S159_71, S159_74, S159_75, S159_76, S159_78, S159_81, S159_84, S159_85, S159_86, S159_89, S159_91, S159_93, S159_94, S159_95, S159_96, S159_97, S159_98, S159_99, S159_100, S159_103, S159_106, S159_107, S159_108, S159_109, S159_112, S159_115, S159_116, S159_117, S159_120, shp_93, RV_93_1, RV_93_13, RV_93_14, RV_93_15, RV_93_16, RV_93_17, RV_93_18, RV_93_19, RV_93_20, RV_93_23, RV_93_24, RV_93_27, RV_93_28, RV_93_29, m_lines, m_isSoundX hr hV hlt, kR_at, hr, h11.1, if_neg hcd]
    by_cases hsn : snd r l
    · rw [if_neg (fun z => pb_0.mp z hsn)]
      simp only [S159_0, S159_1, S159_2, S159_5, S159_6, S159_9, S159_12, S159_13, S159_16, S159_17, S159_18, S159_19, S159_22, S159_23, S159_24, S159_25, S159_29, S159_30, S159_33, S159_36, S159_37, S159_39, S159_42, S159_45, S159_46, S159_47, S159_50, S159_52, S159_54, S159_55, S159_56, S159_57, S159_58, S159_60, S159_63, S159_64, S159_65, S159_66, S159_68, S159_71, S159_74, S159_75, S159_76, S159_78, S159_81, S159_84, S159_85, S159_86, S159_89, S159_91, S159_93, S159_94, S159_95, S159_96, S159_97, S159_98, S159_99, S159_100, S159_103, S159_106, S159_107, S159_108, S159_109, S159_112, S159_115, S159_116, S159_117, S159_120, shp_93, RV_93_1, RV_93_13, RV_93_14, RV_93_15, RV_93_16, RV_93_17, RV_93_18, RV_93_19, RV_93_20, RV_93_23, RV_93_24, RV_93_27, RV_93_28, RV_93_29, kR_at, hr, m_offOf (d := d) hV hr hs hlt, hs.1, gjN_d hV, off_N hV hlt, m_first hl11, m_second hl11, hVl.1.1, hVl.2.1.1, m_heldBy (d := d) hr (show rA r l < 6 by have := hV.1.2; omega), m_heldBy (d := d) hr (show rB r l < 6 by have := hV.1.2; omega), held_kE hV hVl.1.2, held_kE hV hVl.2.1.2, la_47, la_36, ok95 (show 47 + l < 69 by omega), ok95 (show 36 + l < 69 by omega), nI_cl (show 47 + l < 2147483648 by omega), nI_cl (show 36 + l < 2147483648 by omega), kl_none, kl_int, kl_ref, nI_add1]
      have e : iL (sm l (fun l => wE r l * offI r l * (- gE r l))) + (r (47 + l)).toInt64 * iL (offI r l) * (iL (kE r (rB r l)) - iL (kE r (rA r l)) - (r (36 + l)).toInt64) = iL (sm l (fun l => wE r l * offI r l * (- gE r l)) + wE r l * offI r l * (- gE r l)) := by
        rw [iL_32, iL_32, iL_mul, iL_sub, iL_sub, iL_mul, iL_add, w_of hsn]
        unfold gE
        rw [show -((r (36 + l)).toInt - (kE r (rB r l) - kE r (rA r l))) = kE r (rB r l) - kE r (rA r l) - (r (36 + l)).toInt by omega]
      rw [e]
      exact ih'
    · have e : wE r l = 0 := by unfold wE; exact dI_f hsn
      rw [e, Int.zero_mul, Int.zero_mul, Int.add_zero] at ih'
      rw [if_pos (pb_0.mpr hsn)]
      simp only [S159_0, S159_1, S159_2, S159_5, S159_6, S159_9, S159_12, S159_13, S159_16, S159_17, S159_18, S159_19, S159_22, S159_23, S159_24, S159_25, S159_29, S159_30, S159_33, S159_36, S159_37, S159_39, S159_42, S159_45, S159_46, S159_47, S159_50, S159_52, S159_54, S159_55, S159_56, S159_57, S159_58, S159_60, S159_63, S159_64, S159_65, S159_66, S159_68, S159_71, S159_74, S159_75, S159_76, S159_78, S159_81, S159_84, S159_85, S159_86, S159_89, S159_91, S159_93, S159_94, S159_95, S159_96, S159_97, S159_98, S159_99, S159_100, S159_103, S159_106, S159_107, S159_108, S159_109, S159_112, S159_115, S159_116, S159_117, S159_120, kl_none, kl_ref, kl_long, kl_int, nI_add1]
      exact ih'
theorem m_sum_no (hr : h.1 95 = r) (hx : ¬ isH y) (kk : mPost r h Q 1 (some (.long 0))) : WP (d + 9) 159 0 [some (.ref 93), some (.int y), none, none, none] [] h Q := by
  have k1 := ref_post hr kk
  have h2 : pb (isH y) = 0 := pb_0.mpr hx
  simp only [S159_0, S159_1, S159_2, S159_5, S159_6, S159_9, S159_12, S159_13, S159_16, S159_17, S159_18, S159_19, S159_22, S159_23, S159_24, S159_25, S159_29, S159_30, S159_33, S159_36, S159_37, S159_39, S159_42, S159_45, S159_46, S159_47, S159_50, S159_52, S159_54, S159_55, S159_56, S159_57, S159_58, S159_60, S159_63, S159_64, S159_65, S159_66, S159_68, S159_71, S159_74, S159_75, S159_76, S159_78, S159_81, S159_84, S159_85, S159_86, S159_89, S159_91, S159_93, S159_94, S159_95, S159_96, S159_97, S159_98, S159_99, S159_100, S159_103, S159_106, S159_107, S159_108, S159_109, S159_112, S159_115, S159_116, S159_117, S159_120, shp_93, RV_93_1, RV_93_13, RV_93_14, RV_93_15, RV_93_16, RV_93_17, RV_93_18, RV_93_19, RV_93_20, RV_93_23, RV_93_24, RV_93_27, RV_93_28, RV_93_29, m_isPartX, m_refuse, kR_at, i2l0, h2, ne_eq, not_true_eq_false, if_false, if_true, ↓reduceIte]
  exact k1
theorem m_sum_yes (hr : h.1 95 = r) (hV : VR r) (hy : isH y) (kk : mPost r h Q 0 (some (.long (hlf (sumI r) (dN r * dN r) y)))) : WP (d + 9) 159 0 [some (.ref 93), some (.int y), none, none, none] [] h Q := by
  have h2 : ¬ pb (isH y) = 0 := fun z => pb_0.mp z hy
  have hd := dN_b hV
  have ha := all_b hV
  simp only [S159_0, S159_1, S159_2, S159_5, S159_6, S159_9, S159_12, S159_13, S159_16, S159_17, S159_18, S159_19, S159_22, S159_23, S159_24, S159_25, S159_29, S159_30, S159_33, S159_36, S159_37, S159_39, S159_42, S159_45, S159_46, S159_47, S159_50, S159_52, S159_54, S159_55, S159_56, S159_57, S159_58, S159_60, S159_63, S159_64, S159_65, S159_66, S159_68, S159_71, S159_74, S159_75, S159_76, S159_78, S159_81, S159_84, S159_85, S159_86, S159_89, S159_91, S159_93, S159_94, S159_95, S159_96, S159_97, S159_98, S159_99, S159_100, S159_103, S159_106, S159_107, S159_108, S159_109, S159_112, S159_115, S159_116, S159_117, S159_120, shp_93, RV_93_1, RV_93_13, RV_93_14, RV_93_15, RV_93_16, RV_93_17, RV_93_18, RV_93_19, RV_93_20, RV_93_23, RV_93_24, RV_93_27, RV_93_28, RV_93_29, m_isPartX, m_refuse, kR_at, h2, ne_eq, not_false_eq_true, if_false, if_true, ↓reduceIte]
  refine m_solveNow (d := d + 1) (r0 hr) hV (LS_nz hV) (fun h1 f1 m1 s1 => ?_)
  simp only [kV_at, S159_0, S159_1, S159_2, S159_5, S159_6, S159_9, S159_12, S159_13, S159_16, S159_17, S159_18, S159_19, S159_22, S159_23, S159_24, S159_25, S159_29, S159_30, S159_33, S159_36, S159_37, S159_39, S159_42, S159_45, S159_46, S159_47, S159_50, S159_52, S159_54, S159_55, S159_56, S159_57, S159_58, S159_60, S159_63, S159_64, S159_65, S159_66, S159_68, S159_71, S159_74, S159_75, S159_76, S159_78, S159_81, S159_84, S159_85, S159_86, S159_89, S159_91, S159_93, S159_94, S159_95, S159_96, S159_97, S159_98, S159_99, S159_100, S159_103, S159_106, S159_107, S159_108, S159_109, S159_112, S159_115, S159_116, S159_117, S159_120, kl_none, kl_int, kl_long]
  rw [nI_l0]
  refine m_sum_loop (d := d + 7) m1.1 hV s1 (rL r) 0 (by omega) ?_
  simp only [S159_0, S159_1, S159_2, S159_5, S159_6, S159_9, S159_12, S159_13, S159_16, S159_17, S159_18, S159_19, S159_22, S159_23, S159_24, S159_25, S159_29, S159_30, S159_33, S159_36, S159_37, S159_39, S159_42, S159_45, S159_46, S159_47, S159_50, S159_52, S159_54, S159_55, S159_56, S159_57, S159_58, S159_60, S159_63, S159_64, S159_65, S159_66, S159_68, S159_71, S159_74, S159_75, S159_76, S159_78, S159_81, S159_84, S159_85, S159_86, S159_89, S159_91, S159_93, S159_94, S159_95, S159_96, S159_97, S159_98, S159_99, S159_100, S159_103, S159_106, S159_107, S159_108, S159_109, S159_112, S159_115, S159_116, S159_117, S159_120, shp_93, RV_93_1, RV_93_13, RV_93_14, RV_93_15, RV_93_16, RV_93_17, RV_93_18, RV_93_19, RV_93_20, RV_93_23, RV_93_24, RV_93_27, RV_93_28, RV_93_29, s1.1, gjN_d hV]
  refine m_tellsI (by omega) hd.1 (by omega) (fun h2 f2 e1 e2 e3 e4 e5 => ?_)
  simp only [kV_at, S159_0, S159_1, S159_2, S159_5, S159_6, S159_9, S159_12, S159_13, S159_16, S159_17, S159_18, S159_19, S159_22, S159_23, S159_24, S159_25, S159_29, S159_30, S159_33, S159_36, S159_37, S159_39, S159_42, S159_45, S159_46, S159_47, S159_50, S159_52, S159_54, S159_55, S159_56, S159_57, S159_58, S159_60, S159_63, S159_64, S159_65, S159_66, S159_68, S159_71, S159_74, S159_75, S159_76, S159_78, S159_81, S159_84, S159_85, S159_86, S159_89, S159_91, S159_93, S159_94, S159_95, S159_96, S159_97, S159_98, S159_99, S159_100, S159_103, S159_106, S159_107, S159_108, S159_109, S159_112, S159_115, S159_116, S159_117, S159_120, shp_93, RV_93_1, RV_93_13, RV_93_14, RV_93_15, RV_93_16, RV_93_17, RV_93_18, RV_93_19, RV_93_20, RV_93_23, RV_93_24, RV_93_27, RV_93_28, RV_93_29, m_saidX hy e4 e5, kR_at]
  rw [sum_hlf hV]
  exact kk h2 (frmF_tr M0 (frmF_tr (pfr_m f1) (pfr_m f2))) (by rw [e1]; exact m1.1) (by rw [e1, mfr_t f1]; exact t0)
end
