/-! The model's fall and wanted, asked. -/
section
variable {d : Nat} {h : Hp} {Q : Option (Option Value) → Hp → Prop} {x y z t : Int32} {u w v rs : Int64} {k l p q : Nat} {r : Nat → Int32}
theorem m_fall_no (hr : h.1 95 = r) (hV : VR r) (hx : ¬ (isS r x ∧ isH y)) (kk : mPost r h Q 1 (some (.long 0))) : WP (d + 10) 175 0 [some (.ref 93), some (.int x), some (.int y)] [] h Q := by
  have k1 := ref_post hr kk
  simp only [S175_0, S175_1, S175_2, S175_5, S175_6, S175_7, S175_10, S175_13, S175_14, S175_15, S175_18, S175_21, S175_22, S175_25, S175_28, S175_29, S175_32, S175_33, S175_34, S175_35, S175_36, S175_39, S175_40, S175_41, S175_44, shp_93, RV_93_1, RV_93_13, RV_93_14, RV_93_15, RV_93_16, RV_93_17, RV_93_18, RV_93_19, RV_93_20, RV_93_23, RV_93_24, RV_93_27, RV_93_28, RV_93_29, m_isLineX (r0 (x := 0) hr) hV, m_isPartX, m_refuse, kR_at, i2l0]
  by_cases h1 : isL r x
  · obtain ⟨l, hl, rfl⟩ := h1
    rw [if_neg (fun z => pb_0.mp z ⟨l, hl, rfl⟩), m_isSoundX (r0 (x := 0) hr) hV hl]
    simp only [kR_at, S175_0, S175_1, S175_2, S175_5, S175_6, S175_7, S175_10, S175_13, S175_14, S175_15, S175_18, S175_21, S175_22, S175_25, S175_28, S175_29, S175_32, S175_33, S175_34, S175_35, S175_36, S175_39, S175_40, S175_41, S175_44, m_isPartX, m_refuse, shp_93, RV_93_1, RV_93_13, RV_93_14, RV_93_15, RV_93_16, RV_93_17, RV_93_18, RV_93_19, RV_93_20, RV_93_23, RV_93_24, RV_93_27, RV_93_28, RV_93_29, i2l0]
    by_cases hs : snd r l
    · rw [if_neg (fun z => pb_0.mp z hs)]
      have h2 : pb (isH y) = 0 := pb_0.mpr (fun z => hx ⟨⟨l, hs, rfl⟩, z⟩)
      simp only [h2, ne_eq, not_true_eq_false, if_false, if_true, ↓reduceIte]
      exact k1
    · rw [if_pos (pb_0.mpr hs)]
      exact k1
  · rw [if_pos (pb_0.mpr h1)]
    exact k1
theorem m_fall_yes (hr : h.1 95 = r) (hV : VR r) (hl : snd r l) (hy : isH y) (kk : mPost r h Q 0 (some (.long (hlf (fA r l) (fB r l) y)))) : WP (d + 10) 175 0 [some (.ref 93), some (.int (nI l)), some (.int y)] [] h Q := by
  have h1 : ¬ pb (isL r (nI l)) = 0 := fun z => pb_0.mp z ⟨l, hl.1, rfl⟩
  have h2 : ¬ pb (isH y) = 0 := fun z => pb_0.mp z hy
  have h3 : ¬ pb (snd r l) = 0 := fun z => pb_0.mp z hl
  simp only [S175_0, S175_1, S175_2, S175_5, S175_6, S175_7, S175_10, S175_13, S175_14, S175_15, S175_18, S175_21, S175_22, S175_25, S175_28, S175_29, S175_32, S175_33, S175_34, S175_35, S175_36, S175_39, S175_40, S175_41, S175_44, shp_93, RV_93_1, RV_93_13, RV_93_14, RV_93_15, RV_93_16, RV_93_17, RV_93_18, RV_93_19, RV_93_20, RV_93_23, RV_93_24, RV_93_27, RV_93_28, RV_93_29, m_isLineX (r0 (x := 0) hr) hV, m_isSoundX (r0 (x := 0) hr) hV hl.1, m_isPartX, m_refuse, kR_at, if_neg h1, if_neg h3, h2, ne_eq, not_false_eq_true, if_false, if_true, ↓reduceIte]
  refine m_laysFall (d := d) (r0 hr) hV hl (fun h1 f1 r1 e4 e5 => ?_)
  simp only [kV_at, S175_0, S175_1, S175_2, S175_5, S175_6, S175_7, S175_10, S175_13, S175_14, S175_15, S175_18, S175_21, S175_22, S175_25, S175_28, S175_29, S175_32, S175_33, S175_34, S175_35, S175_36, S175_39, S175_40, S175_41, S175_44, shp_93, RV_93_1, RV_93_13, RV_93_14, RV_93_15, RV_93_16, RV_93_17, RV_93_18, RV_93_19, RV_93_20, RV_93_23, RV_93_24, RV_93_27, RV_93_28, RV_93_29, m_saidX hy e4 e5, kR_at]
  exact kk h1 (frmF_tr M0 (pfr_w f1)) r1 (by rw [wfs_t f1]; exact t0)
theorem m_wanted_no (hr : h.1 95 = r) (hV : VR r) (hx : ¬ (isS r x ∧ isH y) ∨ ∃ l, x = nI l ∧ brg r l) (kk : mPost r h Q 1 (some (.long 0))) : WP (d + 10) 173 0 [some (.ref 93), some (.int x), some (.int y)] [] h Q := by
  have k1 := ref_post hr kk
  simp only [S173_0, S173_1, S173_2, S173_5, S173_6, S173_7, S173_10, S173_13, S173_14, S173_15, S173_18, S173_21, S173_22, S173_25, S173_28, S173_29, S173_30, S173_33, S173_36, S173_37, S173_40, S173_41, S173_42, S173_43, S173_44, S173_47, S173_48, S173_51, S173_52, S173_55, S173_58, S173_59, S173_62, shp_93, RV_93_1, RV_93_13, RV_93_14, RV_93_15, RV_93_16, RV_93_17, RV_93_18, RV_93_19, RV_93_20, RV_93_23, RV_93_24, RV_93_27, RV_93_28, RV_93_29, m_isLineX (r0 (x := 0) hr) hV, m_isPartX, m_refuse, kR_at, i2l0]
  by_cases h1 : isL r x
  · obtain ⟨l, hl, rfl⟩ := h1
    rw [if_neg (fun z => pb_0.mp z ⟨l, hl, rfl⟩), m_isSoundX (r0 (x := 0) hr) hV hl]
    simp only [kR_at, S173_0, S173_1, S173_2, S173_5, S173_6, S173_7, S173_10, S173_13, S173_14, S173_15, S173_18, S173_21, S173_22, S173_25, S173_28, S173_29, S173_30, S173_33, S173_36, S173_37, S173_40, S173_41, S173_42, S173_43, S173_44, S173_47, S173_48, S173_51, S173_52, S173_55, S173_58, S173_59, S173_62, m_isPartX, m_refuse, shp_93, RV_93_1, RV_93_13, RV_93_14, RV_93_15, RV_93_16, RV_93_17, RV_93_18, RV_93_19, RV_93_20, RV_93_23, RV_93_24, RV_93_27, RV_93_28, RV_93_29, i2l0]
    by_cases hs : snd r l
    · rw [if_neg (fun z => pb_0.mp z hs)]
      by_cases hy : isH y
      · rw [if_neg (fun z => pb_0.mp z hy), m_isBridgeX (d := d + 5) (r0 (x := 0) hr) hV hl]
        simp only [kR_at, S173_0, S173_1, S173_2, S173_5, S173_6, S173_7, S173_10, S173_13, S173_14, S173_15, S173_18, S173_21, S173_22, S173_25, S173_28, S173_29, S173_30, S173_33, S173_36, S173_37, S173_40, S173_41, S173_42, S173_43, S173_44, S173_47, S173_48, S173_51, S173_52, S173_55, S173_58, S173_59, S173_62, m_refuse, shp_93, RV_93_1, RV_93_13, RV_93_14, RV_93_15, RV_93_16, RV_93_17, RV_93_18, RV_93_19, RV_93_20, RV_93_23, RV_93_24, RV_93_27, RV_93_28, RV_93_29, i2l0]
        have hb : brg r l := by
          rcases hx with z | z
          · exact absurd ⟨⟨l, hs, rfl⟩, hy⟩ z
          · obtain ⟨l', e, hb⟩ := z
            have := (nI_eq (by have := hV.2.1.2; omega) (by have := hV.2.1.2; have := hb.1.1; omega)).mp e
            rw [this]; exact hb
        rw [if_neg (fun z => pb_0.mp z hb)]
        exact k1
      · rw [if_pos (pb_0.mpr hy)]
        exact k1
    · rw [if_pos (pb_0.mpr hs)]
      exact k1
  · rw [if_pos (pb_0.mpr h1)]
    exact k1
theorem m_wanted_yes (hr : h.1 95 = r) (hV : VR r) (hl : snd r l) (hb : ¬ brg r l) (hy : isH y) (kk : mPost r h Q 0 (some (.long (hlf ((r (36 + l)).toInt * chkI r l + offI r l) (chkI r l).toNat y)))) : WP (d + 10) 173 0 [some (.ref 93), some (.int (nI l)), some (.int y)] [] h Q := by
  have h1 : ¬ pb (isL r (nI l)) = 0 := fun z => pb_0.mp z ⟨l, hl.1, rfl⟩
  have h2 : ¬ pb (isH y) = 0 := fun z => pb_0.mp z hy
  have h3 : ¬ pb (snd r l) = 0 := fun z => pb_0.mp z hl
  have h4 : pb (brg r l) = 0 := pb_0.mpr hb
  have e := wan_hlf hV hl hb
  simp only [S173_0, S173_1, S173_2, S173_5, S173_6, S173_7, S173_10, S173_13, S173_14, S173_15, S173_18, S173_21, S173_22, S173_25, S173_28, S173_29, S173_30, S173_33, S173_36, S173_37, S173_40, S173_41, S173_42, S173_43, S173_44, S173_47, S173_48, S173_51, S173_52, S173_55, S173_58, S173_59, S173_62, shp_93, RV_93_1, RV_93_13, RV_93_14, RV_93_15, RV_93_16, RV_93_17, RV_93_18, RV_93_19, RV_93_20, RV_93_23, RV_93_24, RV_93_27, RV_93_28, RV_93_29, m_isLineX (r0 (x := 0) hr) hV, m_isSoundX (r0 (x := 0) hr) hV hl.1, m_isBridgeX (d := d + 5) (r0 (x := 0) hr) hV hl.1, m_isPartX, m_refuse, kR_at, if_neg h1, if_neg h3, if_neg h2, if_pos h4]
  refine m_laysWanted (d := d + 1) (r0 hr) hV hl (fun h1 f1 r1 a1 a2 => ?_)
  rw [e.1] at a1
  rw [e.2] at a2
  have k1 := kk h1 (frmF_tr M0 (pfr_w f1)) r1 (by rw [wfs_t f1]; exact t0)
  unfold hlf at k1
  simp only [kV_at, S173_0, S173_1, S173_2, S173_5, S173_6, S173_7, S173_10, S173_13, S173_14, S173_15, S173_18, S173_21, S173_22, S173_25, S173_28, S173_29, S173_30, S173_33, S173_36, S173_37, S173_40, S173_41, S173_42, S173_43, S173_44, S173_47, S173_48, S173_51, S173_52, S173_55, S173_58, S173_59, S173_62, shp_93, RV_93_1, RV_93_13, RV_93_14, RV_93_15, RV_93_16, RV_93_17, RV_93_18, RV_93_19, RV_93_20, RV_93_23, RV_93_24, RV_93_27, RV_93_28, RV_93_29, a1, a2]
  by_cases c : y = 0
  · rw [if_pos c] at k1
    simp only [c, ne_eq, not_true_eq_false, if_false, if_true, ↓reduceIte]
    exact k1
  · rw [if_neg c] at k1
    simp only [c, ne_eq, not_false_eq_true, if_false, if_true, ↓reduceIte]
    exact k1
end
