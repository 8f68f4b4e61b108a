/-! Acts as they are called: the model's strike .. add, the class's add; undo, image, restore of both. -/
section
variable {d : Nat} {h h' : Hp} {Q : Option (Option Value) → Hp → Prop} {x y z w v : Int32} {k l p q t n a b : Nat} {r : Nat → Int32}
theorem m_strike_no (hr : h.1 95 = r) (hV : VR r) (hx : ¬ isL r x) (kk : mPost r h Q 0 (some (.int (-1)))) : WP (d + 3) 182 0 [some (.ref 93), some (.int x)] [] h Q := by
  simp only [S182_0, S182_1, S182_3, S182_4, S182_5, S182_6, S182_7, S182_8, S182_11, S182_14, shp_93, RV_93_1, RV_93_13, RV_93_14, RV_93_15, RV_93_16, RV_93_17, RV_93_18, RV_93_19, RV_93_20, RV_93_23, RV_93_24, RV_93_27, RV_93_28, RV_93_29, m_isLineX hr hV, kR_at, pb_f hx]
  refine m_becomes_no hr (fun h1 f1 r1 t1 => ?_)
  simp only [kR_at, S182_0, S182_1, S182_3, S182_4, S182_5, S182_6, S182_7, S182_8, S182_11, S182_14]
  exact kk h1 f1 r1 t1
theorem m_strike_1 (hr : h.1 95 = r) (hV : VR r) (hl : l < rL r) (hs : ¬ snd r l) (kk : mPost r h Q 0 (some (.int 1))) : WP (d + 3) 182 0 [some (.ref 93), some (.int (nI l))] [] h Q := by
  have h11 := hV.2.1.2
  simp only [S182_0, S182_1, S182_3, S182_4, S182_5, S182_6, S182_7, S182_8, S182_11, S182_14, shp_93, RV_93_1, RV_93_13, RV_93_14, RV_93_15, RV_93_16, RV_93_17, RV_93_18, RV_93_19, RV_93_20, RV_93_23, RV_93_24, RV_93_27, RV_93_28, RV_93_29, m_isLineX hr hV, kR_at, pb_t (show isL r (nI l) from ⟨l, hl, rfl⟩), la_58]
  refine m_becomes_1 hr (by omega) (by rw [← pb_sn hV hl, pb_f hs]) (fun h1 f1 r1 t1 => ?_)
  simp only [kR_at, S182_0, S182_1, S182_3, S182_4, S182_5, S182_6, S182_7, S182_8, S182_11, S182_14]
  exact kk h1 f1 r1 t1
theorem m_strike_do (hr : h.1 95 = r) (hV : VR r) (hn : n ≤ 8) (h21 : h.1 93 21 = nI n) (hs : snd r l) (kk : mAct n r (upd r (58 + l) 0) h Q (some (.int 0))) : WP (d + 3) 182 0 [some (.ref 93), some (.int (nI l))] [] h Q := by
  have h11 := hV.2.1.2
  have hl := hs.1
  simp only [S182_0, S182_1, S182_3, S182_4, S182_5, S182_6, S182_7, S182_8, S182_11, S182_14, shp_93, RV_93_1, RV_93_13, RV_93_14, RV_93_15, RV_93_16, RV_93_17, RV_93_18, RV_93_19, RV_93_20, RV_93_23, RV_93_24, RV_93_27, RV_93_28, RV_93_29, m_isLineX hr hV, kR_at, pb_t (show isL r (nI l) from ⟨l, hl, rfl⟩), la_58]
  refine m_becomes_do hr hn h21 (by omega) (by rw [hs.2]; decide) (fun h1 f1 r1 t1 => ?_)
  simp only [kR_at, S182_0, S182_1, S182_3, S182_4, S182_5, S182_6, S182_7, S182_8, S182_11, S182_14]
  exact kk h1 f1 r1 t1
theorem m_mend_no (hr : h.1 95 = r) (hV : VR r) (hx : ¬ isL r x) (kk : mPost r h Q 0 (some (.int (-1)))) : WP (d + 3) 183 0 [some (.ref 93), some (.int x)] [] h Q := by
  simp only [S183_0, S183_1, S183_3, S183_4, S183_5, S183_6, S183_7, S183_8, S183_11, S183_14, shp_93, RV_93_1, RV_93_13, RV_93_14, RV_93_15, RV_93_16, RV_93_17, RV_93_18, RV_93_19, RV_93_20, RV_93_23, RV_93_24, RV_93_27, RV_93_28, RV_93_29, m_isLineX hr hV, kR_at, pb_f hx]
  refine m_becomes_no hr (fun h1 f1 r1 t1 => ?_)
  simp only [kR_at, S183_0, S183_1, S183_3, S183_4, S183_5, S183_6, S183_7, S183_8, S183_11, S183_14]
  exact kk h1 f1 r1 t1
theorem m_mend_1 (hr : h.1 95 = r) (hV : VR r) (hs : snd r l) (kk : mPost r h Q 0 (some (.int 1))) : WP (d + 3) 183 0 [some (.ref 93), some (.int (nI l))] [] h Q := by
  have h11 := hV.2.1.2
  have hl := hs.1
  simp only [S183_0, S183_1, S183_3, S183_4, S183_5, S183_6, S183_7, S183_8, S183_11, S183_14, shp_93, RV_93_1, RV_93_13, RV_93_14, RV_93_15, RV_93_16, RV_93_17, RV_93_18, RV_93_19, RV_93_20, RV_93_23, RV_93_24, RV_93_27, RV_93_28, RV_93_29, m_isLineX hr hV, kR_at, pb_t (show isL r (nI l) from ⟨l, hl, rfl⟩), la_58]
  refine m_becomes_1 hr (by omega) hs.2 (fun h1 f1 r1 t1 => ?_)
  simp only [kR_at, S183_0, S183_1, S183_3, S183_4, S183_5, S183_6, S183_7, S183_8, S183_11, S183_14]
  exact kk h1 f1 r1 t1
theorem m_mend_do (hr : h.1 95 = r) (hV : VR r) (hn : n ≤ 8) (h21 : h.1 93 21 = nI n) (hl : l < rL r) (hs : ¬ snd r l) (kk : mAct n r (upd r (58 + l) 1) h Q (some (.int 0))) : WP (d + 3) 183 0 [some (.ref 93), some (.int (nI l))] [] h Q := by
  have h11 := hV.2.1.2
  simp only [S183_0, S183_1, S183_3, S183_4, S183_5, S183_6, S183_7, S183_8, S183_11, S183_14, shp_93, RV_93_1, RV_93_13, RV_93_14, RV_93_15, RV_93_16, RV_93_17, RV_93_18, RV_93_19, RV_93_20, RV_93_23, RV_93_24, RV_93_27, RV_93_28, RV_93_29, m_isLineX hr hV, kR_at, pb_t (show isL r (nI l) from ⟨l, hl, rfl⟩), la_58]
  refine m_becomes_do hr hn h21 (by omega) (fun z => hs ⟨hl, z⟩) (fun h1 f1 r1 t1 => ?_)
  simp only [kR_at, S183_0, S183_1, S183_3, S183_4, S183_5, S183_6, S183_7, S183_8, S183_11, S183_14]
  exact kk h1 f1 r1 t1
theorem m_read_no (hr : h.1 95 = r) (hV : VR r) (hx : ¬ (isL r x ∧ inH y)) (kk : mPost r h Q 0 (some (.int (-1)))) : WP (d + 3) 184 0 [some (.ref 93), some (.int x), some (.int y)] [] h Q := by
  have go : ∀ u, WP (d + 3) 184 30 [some (.ref 93), some (.int x), some (.int y)] [.int 0, .int y, .int u, .ref 93] h Q := fun u => by
    simp only [S184_0, S184_1, S184_3, S184_4, S184_5, S184_6, S184_7, S184_8, S184_11, S184_14, S184_15, S184_17, S184_19, S184_22, S184_25, S184_26, S184_29, S184_30, S184_33, shp_93, RV_93_1, RV_93_13, RV_93_14, RV_93_15, RV_93_16, RV_93_17, RV_93_18, RV_93_19, RV_93_20, RV_93_23, RV_93_24, RV_93_27, RV_93_28, RV_93_29]
    refine m_becomes_no hr (fun h1 f1 r1 t1 => ?_)
    simp only [kR_at, S184_0, S184_1, S184_3, S184_4, S184_5, S184_6, S184_7, S184_8, S184_11, S184_14, S184_15, S184_17, S184_19, S184_22, S184_25, S184_26, S184_29, S184_30, S184_33]
    exact kk h1 f1 r1 t1
  simp only [S184_0, S184_1, S184_3, S184_4, S184_5, S184_6, S184_7, S184_8, S184_11, S184_14, S184_15, S184_17, S184_19, S184_22, S184_25, S184_26, S184_29, S184_33, shp_93, RV_93_1, RV_93_13, RV_93_14, RV_93_15, RV_93_16, RV_93_17, RV_93_18, RV_93_19, RV_93_20, RV_93_23, RV_93_24, RV_93_27, RV_93_28, RV_93_29, m_isLineX hr hV, m_isInH, kR_at]
  by_cases h1 : isL r x
  · rw [if_neg (fun z => pb_0.mp z h1), if_pos (pb_0.mpr (fun z => hx ⟨h1, z⟩))]
    exact go _
  · rw [if_pos (pb_0.mpr h1)]
    exact go _
theorem m_read_1 (hr : h.1 95 = r) (hV : VR r) (hl : l < rL r) (hy : inH y) (he : r (36 + l) = y) (kk : mPost r h Q 0 (some (.int 1))) : WP (d + 3) 184 0 [some (.ref 93), some (.int (nI l)), some (.int y)] [] h Q := by
  have h11 := hV.2.1.2
  have h1 : ¬ pb (isL r (nI l)) = 0 := fun z => pb_0.mp z ⟨l, hl, rfl⟩
  have h2 : ¬ pb (inH y) = 0 := fun z => pb_0.mp z hy
  simp only [S184_0, S184_1, S184_3, S184_4, S184_5, S184_6, S184_7, S184_8, S184_11, S184_14, S184_15, S184_17, S184_19, S184_22, S184_25, S184_26, S184_29, S184_30, S184_33, shp_93, RV_93_1, RV_93_13, RV_93_14, RV_93_15, RV_93_16, RV_93_17, RV_93_18, RV_93_19, RV_93_20, RV_93_23, RV_93_24, RV_93_27, RV_93_28, RV_93_29, m_isLineX hr hV, m_isInH, kR_at, if_neg h1, if_neg h2, la_36]
  refine m_becomes_1 hr (by omega) he (fun h1 f1 r1 t1 => ?_)
  simp only [kR_at, S184_0, S184_1, S184_3, S184_4, S184_5, S184_6, S184_7, S184_8, S184_11, S184_14, S184_15, S184_17, S184_19, S184_22, S184_25, S184_26, S184_29, S184_30, S184_33]
  exact kk h1 f1 r1 t1
theorem m_read_do (hr : h.1 95 = r) (hV : VR r) (hn : n ≤ 8) (h21 : h.1 93 21 = nI n) (hl : l < rL r) (hy : inH y) (he : ¬ r (36 + l) = y) (kk : mAct n r (upd r (36 + l) y) h Q (some (.int 0))) : WP (d + 3) 184 0 [some (.ref 93), some (.int (nI l)), some (.int y)] [] h Q := by
  have h11 := hV.2.1.2
  have h1 : ¬ pb (isL r (nI l)) = 0 := fun z => pb_0.mp z ⟨l, hl, rfl⟩
  have h2 : ¬ pb (inH y) = 0 := fun z => pb_0.mp z hy
  simp only [S184_0, S184_1, S184_3, S184_4, S184_5, S184_6, S184_7, S184_8, S184_11, S184_14, S184_15, S184_17, S184_19, S184_22, S184_25, S184_26, S184_29, S184_30, S184_33, shp_93, RV_93_1, RV_93_13, RV_93_14, RV_93_15, RV_93_16, RV_93_17, RV_93_18, RV_93_19, RV_93_20, RV_93_23, RV_93_24, RV_93_27, RV_93_28, RV_93_29, m_isLineX hr hV, m_isInH, kR_at, if_neg h1, if_neg h2, la_36]
  refine m_becomes_do hr hn h21 (by omega) he (fun h1 f1 r1 t1 => ?_)
  simp only [kR_at, S184_0, S184_1, S184_3, S184_4, S184_5, S184_6, S184_7, S184_8, S184_11, S184_14, S184_15, S184_17, S184_19, S184_22, S184_25, S184_26, S184_29, S184_30, S184_33]
  exact kk h1 f1 r1 t1
theorem m_weigh_no (hr : h.1 95 = r) (hV : VR r) (hx : ¬ (isL r x ∧ inW y)) (kk : mPost r h Q 0 (some (.int (-1)))) : WP (d + 3) 185 0 [some (.ref 93), some (.int x), some (.int y)] [] h Q := by
  have go : ∀ u, WP (d + 3) 185 28 [some (.ref 93), some (.int x), some (.int y)] [.int 0, .int y, .int u, .ref 93] h Q := fun u => by
    simp only [S185_0, S185_1, S185_3, S185_4, S185_5, S185_6, S185_7, S185_8, S185_11, S185_14, S185_15, S185_16, S185_17, S185_20, S185_23, S185_24, S185_27, S185_28, S185_31, shp_93, RV_93_1, RV_93_13, RV_93_14, RV_93_15, RV_93_16, RV_93_17, RV_93_18, RV_93_19, RV_93_20, RV_93_23, RV_93_24, RV_93_27, RV_93_28, RV_93_29]
    refine m_becomes_no hr (fun h1 f1 r1 t1 => ?_)
    simp only [kR_at, S185_0, S185_1, S185_3, S185_4, S185_5, S185_6, S185_7, S185_8, S185_11, S185_14, S185_15, S185_16, S185_17, S185_20, S185_23, S185_24, S185_27, S185_28, S185_31]
    exact kk h1 f1 r1 t1
  simp only [S185_0, S185_1, S185_3, S185_4, S185_5, S185_6, S185_7, S185_8, S185_11, S185_14, S185_15, S185_16, S185_17, S185_20, S185_23, S185_24, S185_27, S185_31, shp_93, RV_93_1, RV_93_13, RV_93_14, RV_93_15, RV_93_16, RV_93_17, RV_93_18, RV_93_19, RV_93_20, RV_93_23, RV_93_24, RV_93_27, RV_93_28, RV_93_29, m_isLineX hr hV, m_isInW, kR_at]
  by_cases h1 : isL r x
  · rw [if_neg (fun z => pb_0.mp z h1), if_pos (pb_0.mpr (fun z => hx ⟨h1, z⟩))]
    exact go _
  · rw [if_pos (pb_0.mpr h1)]
    exact go _
theorem m_weigh_1 (hr : h.1 95 = r) (hV : VR r) (hl : l < rL r) (hy : inW y) (he : r (47 + l) = y) (kk : mPost r h Q 0 (some (.int 1))) : WP (d + 3) 185 0 [some (.ref 93), some (.int (nI l)), some (.int y)] [] h Q := by
  have h11 := hV.2.1.2
  have h1 : ¬ pb (isL r (nI l)) = 0 := fun z => pb_0.mp z ⟨l, hl, rfl⟩
  have h2 : ¬ pb (inW y) = 0 := fun z => pb_0.mp z hy
  simp only [S185_0, S185_1, S185_3, S185_4, S185_5, S185_6, S185_7, S185_8, S185_11, S185_14, S185_15, S185_16, S185_17, S185_20, S185_23, S185_24, S185_27, S185_28, S185_31, shp_93, RV_93_1, RV_93_13, RV_93_14, RV_93_15, RV_93_16, RV_93_17, RV_93_18, RV_93_19, RV_93_20, RV_93_23, RV_93_24, RV_93_27, RV_93_28, RV_93_29, m_isLineX hr hV, m_isInW, kR_at, if_neg h1, if_neg h2, la_47]
  refine m_becomes_1 hr (by omega) he (fun h1 f1 r1 t1 => ?_)
  simp only [kR_at, S185_0, S185_1, S185_3, S185_4, S185_5, S185_6, S185_7, S185_8, S185_11, S185_14, S185_15, S185_16, S185_17, S185_20, S185_23, S185_24, S185_27, S185_28, S185_31]
  exact kk h1 f1 r1 t1
theorem m_weigh_do (hr : h.1 95 = r) (hV : VR r) (hn : n ≤ 8) (h21 : h.1 93 21 = nI n) (hl : l < rL r) (hy : inW y) (he : ¬ r (47 + l) = y) (kk : mAct n r (upd r (47 + l) y) h Q (some (.int 0))) : WP (d + 3) 185 0 [some (.ref 93), some (.int (nI l)), some (.int y)] [] h Q := by
  have h11 := hV.2.1.2
  have h1 : ¬ pb (isL r (nI l)) = 0 := fun z => pb_0.mp z ⟨l, hl, rfl⟩
  have h2 : ¬ pb (inW y) = 0 := fun z => pb_0.mp z hy
  simp only [S185_0, S185_1, S185_3, S185_4, S185_5, S185_6, S185_7, S185_8, S185_11, S185_14, S185_15, S185_16, S185_17, S185_20, S185_23, S185_24, S185_27, S185_28, S185_31, shp_93, RV_93_1, RV_93_13, RV_93_14, RV_93_15, RV_93_16, RV_93_17, RV_93_18, RV_93_19, RV_93_20, RV_93_23, RV_93_24, RV_93_27, RV_93_28, RV_93_29, m_isLineX hr hV, m_isInW, kR_at, if_neg h1, if_neg h2, la_47]
  refine m_becomes_do hr hn h21 (by omega) he (fun h1 f1 r1 t1 => ?_)
  simp only [kR_at, S185_0, S185_1, S185_3, S185_4, S185_5, S185_6, S185_7, S185_8, S185_11, S185_14, S185_15, S185_16, S185_17, S185_20, S185_23, S185_24, S185_27, S185_28, S185_31]
  exact kk h1 f1 r1 t1
theorem m_free_no (hr : h.1 95 = r) (hV : VR r) (hx : ¬ isP r x) (kk : mPost r h Q 0 (some (.int (-1)))) : WP (d + 3) 186 0 [some (.ref 93), some (.int x)] [] h Q := by
  simp only [S186_0, S186_1, S186_2, S186_3, S186_4, S186_5, S186_6, S186_7, S186_10, S186_13, shp_93, RV_93_1, RV_93_13, RV_93_14, RV_93_15, RV_93_16, RV_93_17, RV_93_18, RV_93_19, RV_93_20, RV_93_23, RV_93_24, RV_93_27, RV_93_28, RV_93_29, m_isPointX hr hV, kR_at, pb_f hx]
  refine m_becomes_no hr (fun h1 f1 r1 t1 => ?_)
  simp only [kR_at, S186_0, S186_1, S186_2, S186_3, S186_4, S186_5, S186_6, S186_7, S186_10, S186_13]
  exact kk h1 f1 r1 t1
theorem m_free_1 (hr : h.1 95 = r) (hV : VR r) (hp : p < rP r) (hs : ¬ fxd r p) (kk : mPost r h Q 0 (some (.int 1))) : WP (d + 3) 186 0 [some (.ref 93), some (.int (nI p))] [] h Q := by
  have h6 := hV.1.2
  simp only [S186_0, S186_1, S186_2, S186_3, S186_4, S186_5, S186_6, S186_7, S186_10, S186_13, shp_93, RV_93_1, RV_93_13, RV_93_14, RV_93_15, RV_93_16, RV_93_17, RV_93_18, RV_93_19, RV_93_20, RV_93_23, RV_93_24, RV_93_27, RV_93_28, RV_93_29, m_isPointX hr hV, kR_at, pb_t (show isP r (nI p) from ⟨p, hp, rfl⟩), la_2]
  refine m_becomes_1 hr (by omega) (by rw [← pb_fx hV hp, pb_f hs]) (fun h1 f1 r1 t1 => ?_)
  simp only [kR_at, S186_0, S186_1, S186_2, S186_3, S186_4, S186_5, S186_6, S186_7, S186_10, S186_13]
  exact kk h1 f1 r1 t1
theorem m_free_do (hr : h.1 95 = r) (hV : VR r) (hn : n ≤ 8) (h21 : h.1 93 21 = nI n) (hs : fxd r p) (kk : mAct n r (upd r (2 + p) 0) h Q (some (.int 0))) : WP (d + 3) 186 0 [some (.ref 93), some (.int (nI p))] [] h Q := by
  have h6 := hV.1.2
  have hp := hs.1
  simp only [S186_0, S186_1, S186_2, S186_3, S186_4, S186_5, S186_6, S186_7, S186_10, S186_13, shp_93, RV_93_1, RV_93_13, RV_93_14, RV_93_15, RV_93_16, RV_93_17, RV_93_18, RV_93_19, RV_93_20, RV_93_23, RV_93_24, RV_93_27, RV_93_28, RV_93_29, m_isPointX hr hV, kR_at, pb_t (show isP r (nI p) from ⟨p, hp, rfl⟩), la_2]
  refine m_becomes_do hr hn h21 (by omega) (by rw [hs.2]; decide) (fun h1 f1 r1 t1 => ?_)
  simp only [kR_at, S186_0, S186_1, S186_2, S186_3, S186_4, S186_5, S186_6, S186_7, S186_10, S186_13]
  exact kk h1 f1 r1 t1
theorem m_fix_no (hr : h.1 95 = r) (hV : VR r) (hx : ¬ (isP r x ∧ inH y)) (kk : mPost r h Q 0 (some (.int (-1)))) : WP (d + 3) 187 0 [some (.ref 93), some (.int x), some (.int y)] [] h Q := by
  have k1 := kk _ M0 (r0 (x := 0) hr) t0
  simp only [S187_0, S187_1, S187_2, S187_5, S187_6, S187_7, S187_10, S187_13, S187_14, S187_16, S187_18, S187_21, S187_24, S187_25, S187_27, S187_28, S187_31, S187_34, S187_35, S187_38, S187_40, S187_41, S187_42, S187_43, S187_44, S187_47, S187_48, S187_49, S187_50, S187_53, S187_54, S187_57, S187_58, S187_59, S187_60, S187_61, S187_62, S187_63, S187_66, S187_68, S187_69, S187_70, S187_71, S187_72, S187_73, shp_93, RV_93_1, RV_93_13, RV_93_14, RV_93_15, RV_93_16, RV_93_17, RV_93_18, RV_93_19, RV_93_20, RV_93_23, RV_93_24, RV_93_27, RV_93_28, RV_93_29, m_isPointX (r0 (x := 0) hr) hV, m_isInH, kR_at]
  by_cases h1 : isP r x
  · rw [if_neg (fun z => pb_0.mp z h1), if_pos (pb_0.mpr (fun z => hx ⟨h1, z⟩))]
    exact k1
  · rw [if_pos (pb_0.mpr h1)]
    exact k1
theorem m_fix_1 (hr : h.1 95 = r) (hV : VR r) (hy : inH y) (hs : fxd r p) (he : r (8 + p) = y) (kk : mPost r h Q 0 (some (.int 1))) : WP (d + 3) 187 0 [some (.ref 93), some (.int (nI p)), some (.int y)] [] h Q := by
  have h6 := hV.1.2
  have hp := hs.1
  have k1 := kk _ M0 (r0 (x := 0) hr) t0
  have h1 : ¬ pb (isP r (nI p)) = 0 := fun z => pb_0.mp z ⟨p, hp, rfl⟩
  have h2 : ¬ pb (inH y) = 0 := fun z => pb_0.mp z hy
  simp only [S187_0, S187_1, S187_2, S187_5, S187_6, S187_7, S187_10, S187_13, S187_14, S187_16, S187_18, S187_21, S187_24, S187_25, S187_26, S187_27, S187_28, S187_31, S187_34, S187_35, S187_38, S187_40, S187_41, S187_42, S187_43, S187_44, S187_47, S187_48, S187_49, S187_50, S187_53, S187_54, S187_57, S187_58, S187_59, S187_60, S187_61, S187_62, S187_63, S187_66, S187_68, S187_69, S187_70, S187_71, S187_72, S187_73, shp_93, RV_93_1, RV_93_13, RV_93_14, RV_93_15, RV_93_16, RV_93_17, RV_93_18, RV_93_19, RV_93_20, RV_93_23, RV_93_24, RV_93_27, RV_93_28, RV_93_29, m_isPointX (r0 (x := 0) hr) hV, m_isInH, m_isFixed (show p < 6 by omega), kR_at, if_neg h1, if_neg h2, r0 (x := 0) hr, hs.2, if_true, i10, if_false, la_8, ok95 (show 8 + p < 69 by omega), nI_cl (show 8 + p < 2147483648 by omega), he]
  exact k1
theorem m_fix_do (hr : h.1 95 = r) (hV : VR r) (hn : n ≤ 8) (h21 : h.1 93 21 = nI n) (hp : p < rP r) (hy : inH y) (hs : ¬ (fxd r p ∧ r (8 + p) = y)) (kk : mAct n r (upd (upd r (2 + p) 1) (8 + p) y) h Q (some (.int 0))) : WP (d + 3) 187 0 [some (.ref 93), some (.int (nI p)), some (.int y)] [] h Q := by
  have h6 := hV.1.2
  have hr1 := r0 (h := h) (x := 0) hr
  have h1 : ¬ pb (isP r (nI p)) = 0 := fun z => pb_0.mp z ⟨p, hp, rfl⟩
  have h2 : ¬ pb (inH y) = 0 := fun z => pb_0.mp z hy
  have go : WP (d + 3) 187 49 [some (.ref 93), some (.int (nI p)), some (.int y)] [] (setI h 93 0 0) Q := by
    simp only [S187_0, S187_1, S187_2, S187_5, S187_6, S187_7, S187_10, S187_13, S187_14, S187_16, S187_18, S187_21, S187_24, S187_25, S187_26, S187_27, S187_28, S187_31, S187_34, S187_35, S187_38, S187_40, S187_41, S187_42, S187_43, S187_44, S187_47, S187_48, S187_49, S187_50, S187_53, S187_54, S187_57, S187_58, S187_59, S187_60, S187_61, S187_62, S187_63, S187_66, S187_68, S187_69, S187_70, S187_71, S187_72, S187_73, shp_93, RV_93_1, RV_93_13, RV_93_14, RV_93_15, RV_93_16, RV_93_17, RV_93_18, RV_93_19, RV_93_20, RV_93_23, RV_93_24, RV_93_27, RV_93_28, RV_93_29]
    refine m_snap (d := d + 1) hn (by rw [setI_rd, if_neg (by decide)]; exact h21) (fun h1 f1 s1 => ?_)
    rw [hr1] at s1
    simp only [kV_at, S187_0, S187_1, S187_2, S187_5, S187_6, S187_7, S187_10, S187_13, S187_14, S187_16, S187_18, S187_21, S187_24, S187_25, S187_26, S187_27, S187_28, S187_31, S187_34, S187_35, S187_38, S187_40, S187_41, S187_42, S187_43, S187_44, S187_47, S187_48, S187_49, S187_50, S187_53, S187_54, S187_57, S187_58, S187_59, S187_60, S187_61, S187_62, S187_63, S187_66, S187_68, S187_69, S187_70, S187_71, S187_72, S187_73, shp_93, RV_93_1, RV_93_13, RV_93_14, RV_93_15, RV_93_16, RV_93_17, RV_93_18, RV_93_19, RV_93_20, RV_93_23, RV_93_24, RV_93_27, RV_93_28, RV_93_29, la_2, la_8, ok95 (show 2 + p < 69 by omega), ok95 (show 8 + p < 69 by omega), nI_cl (show 2 + p < 2147483648 by omega), nI_cl (show 8 + p < 2147483648 by omega)]
    have e95 : h1.1 95 = r := by
      rw [← hr1]
      exact funext (fun j => (f1.1 95 j (by unfold SNs; omega)).1)
    refine kk _ (frmF_tr (frmF_I (Or.inr (Or.inr (Or.inr ⟨rfl, Or.inl rfl⟩)))) (frmF_tr ⟨fun a j hq => f1.1 a j (fun z => hq (mas_s z)), f1.2⟩ (frmF_tr (frmF_I (Or.inr (Or.inl rfl))) (frmF_I (Or.inr (Or.inl rfl)))))) ⟨?_, ?_, ?_⟩ ?_
    · rw [setI_1 (by decide), setI_1 (by decide)]; exact s1.1
    · intro j hj; show (setI (setI h1 95 (2 + p) 1) 95 (8 + p) y).1 98 _ = _; rw [setI_1 (by decide), setI_1 (by decide)]; exact s1.2.1 j hj
    · intro i hi j hj; show (setI (setI h1 95 (2 + p) 1) 95 (8 + p) y).1 98 _ = _; rw [setI_1 (by decide), setI_1 (by decide)]
      refine (s1.2.2 i hi j hj).trans ?_
      show (setI h 93 0 0).1 98 _ = _
      rw [setI_1 (by decide)]; rfl
    · rw [setI_s, setI_s, e95]
  simp only [S187_0, S187_1, S187_2, S187_5, S187_6, S187_7, S187_10, S187_13, S187_14, S187_16, S187_18, S187_21, S187_24, S187_25, S187_26, S187_27, S187_28, S187_31, S187_34, S187_35, S187_38, S187_40, S187_41, S187_42, S187_43, S187_44, S187_47, S187_48, S187_50, S187_53, S187_54, S187_57, S187_58, S187_59, S187_60, S187_61, S187_62, S187_63, S187_66, S187_68, S187_69, S187_70, S187_71, S187_72, S187_73, shp_93, RV_93_1, RV_93_13, RV_93_14, RV_93_15, RV_93_16, RV_93_17, RV_93_18, RV_93_19, RV_93_20, RV_93_23, RV_93_24, RV_93_27, RV_93_28, RV_93_29, m_isPointX hr1 hV, m_isInH, m_isFixed (show p < 6 by omega), kR_at, if_neg h1, if_neg h2, hr1, la_8, ok95 (show 8 + p < 69 by omega), nI_cl (show 8 + p < 2147483648 by omega)]
  by_cases h3 : r (2 + p) = 1
  · rw [if_pos h3, if_neg (by decide), if_neg (fun z => hs ⟨⟨hp, h3⟩, z⟩)]
    exact go
  · rw [if_neg h3, if_pos rfl]
    exact go
/-! add -/
theorem c_add_j (hC : cls r h) (kk : WP (d + 4) 79 28 [some (.ref 0), some (.int x), some (.int y), some (.int z), some (.int w), some (.int (pb (isP r x ∧ isP r y ∧ ¬ x = y)))] [] h Q) : WP (d + 4) 79 0 [some (.ref 0), some (.int x), some (.int y), some (.int z), some (.int w), none] [] h Q := by
  simp only [S79_0, S79_1, S79_2, S79_5, S79_8, S79_9, S79_10, S79_13, S79_16, S79_17, S79_18, S79_21, S79_22, S79_25, S79_26, S79_29, S79_32, S79_35, S79_37, S79_40, S79_42, S79_45, S79_46, S79_49, S79_52, S79_54, S79_57, S79_60, S79_61, S79_62, S79_63, S79_66, S79_67, S79_70, S79_71, S79_72, S79_73, S79_75, S79_78, shp_0, RV_0_0, RV_0_1, RV_0_2, RV_0_3, RV_0_4, RV_0_5, RV_0_9, RV_0_10, c_isPointX hC.1 hC.2.1, kR_at, kl_int]
  by_cases h1 : isP r x
  · rw [if_neg (fun z => pb_0.mp z h1)]
    by_cases h2 : isP r y
    · rw [if_neg (fun z => pb_0.mp z h2)]
      by_cases h3 : x = y
      · rw [if_pos h3]
        rw [pb_f (fun z => z.2.2 h3)] at kk
        exact kk
      · rw [if_neg h3]
        rw [pb_t ⟨h1, h2, h3⟩] at kk
        exact kk
    · rw [if_pos (pb_0.mpr h2)]
      rw [pb_f (fun z => h2 z.2.1)] at kk
      exact kk
  · rw [if_pos (pb_0.mpr h1)]
    rw [pb_f (fun z => h1 z.1)] at kk
    exact kk
theorem le11 (hV : VR r) : (11 : Int32) ≤ r 1 ↔ ¬ rL r < 11 := by
  rw [hV.2.1.1, show (11 : Int32) = nI 11 by decide, nI_leI (by omega) (by have := hV.2.1.2; omega)]
  omega
theorem c_add_no (hC : cls r h) (hx : ¬ isAdd r x y z w) (kk : Q (some (some (.int (-1)))) h) : WP (d + 4) 79 0 [some (.ref 0), some (.int x), some (.int y), some (.int z), some (.int w), none] [] h Q := by
  refine c_add_j hC ?_
  simp only [S79_0, S79_1, S79_2, S79_5, S79_8, S79_9, S79_10, S79_13, S79_16, S79_17, S79_18, S79_21, S79_22, S79_25, S79_26, S79_28, S79_29, S79_32, S79_35, S79_37, S79_40, S79_42, S79_45, S79_46, S79_49, S79_52, S79_54, S79_57, S79_60, S79_61, S79_63, S79_66, S79_67, S79_70, S79_71, S79_72, S79_73, S79_75, S79_78, shp_0, RV_0_0, RV_0_1, RV_0_2, RV_0_3, RV_0_4, RV_0_5, RV_0_9, RV_0_10, shp_21, RV_21_2, RV_21_5, RV_21_6, RV_21_7, RV_21_8, c_isHeightX, c_isWeightX, kR_at, hC.2.1.2.2.1, le11 hC.1]
  by_cases h1 : rL r < 11
  · rw [if_neg (fun z => z h1)]
    by_cases h2 : isP r x ∧ isP r y ∧ ¬ x = y
    · rw [if_neg (fun z => pb_0.mp z h2)]
      by_cases h3 : inH z
      · rw [if_neg (fun z => pb_0.mp z h3), if_pos (pb_0.mpr (fun q => hx ⟨h1, h2, h3, q⟩))]
        exact kk
      · rw [if_pos (pb_0.mpr h3)]
        exact kk
    · rw [if_pos (pb_0.mpr h2)]
      exact kk
  · rw [if_pos h1]
    exact kk
theorem c_add_do (hC : cls r h) (hA : actA t n h) (hx : isAdd r x y z w) (kk : cAct t n r (layR (rL r) r x y z w) h Q (some (.int (nI (rL r))))) : WP (d + 4) 79 0 [some (.ref 0), some (.int x), some (.int y), some (.int z), some (.int w), none] [] h Q := by
  have hV := hC.1
  obtain ⟨h1, h2, h3, h4⟩ := hx
  refine c_add_j hC ?_
  simp only [S79_0, S79_1, S79_2, S79_5, S79_8, S79_9, S79_10, S79_13, S79_16, S79_17, S79_18, S79_21, S79_22, S79_25, S79_26, S79_28, S79_29, S79_32, S79_35, S79_37, S79_40, S79_42, S79_45, S79_46, S79_49, S79_52, S79_54, S79_57, S79_60, S79_61, S79_62, S79_63, S79_66, S79_67, S79_70, S79_71, S79_72, S79_73, S79_75, S79_78, shp_0, RV_0_0, RV_0_1, RV_0_2, RV_0_3, RV_0_4, RV_0_5, RV_0_9, RV_0_10, shp_21, RV_21_2, RV_21_5, RV_21_6, RV_21_7, RV_21_8, c_isHeightX, c_isWeightX, kR_at, hC.2.1.2.2.1, le11 hC.1, h1, not_true_eq_false, if_false, if_neg (fun z => pb_0.mp z h2), if_neg (fun z => pb_0.mp z h3), if_neg (fun z => pb_0.mp z h4)]
  refine c_beginAct (d := d) hV hC.2.1 hA (fun h1 f1 p1 n1 s1 => ?_)
  simp only [kV_at, S79_0, S79_1, S79_2, S79_5, S79_8, S79_9, S79_10, S79_13, S79_16, S79_17, S79_18, S79_21, S79_22, S79_25, S79_26, S79_28, S79_29, S79_32, S79_35, S79_37, S79_40, S79_42, S79_45, S79_46, S79_49, S79_52, S79_54, S79_57, S79_60, S79_61, S79_62, S79_63, S79_66, S79_67, S79_70, S79_71, S79_72, S79_73, S79_75, S79_78, shp_0, RV_0_0, RV_0_1, RV_0_2, RV_0_3, RV_0_4, RV_0_5, RV_0_9, RV_0_10, shp_21, RV_21_2, RV_21_5, RV_21_6, RV_21_7, RV_21_8]
  refine c_putLine (b := 21) (NO_nid (k := 0) (by omega)) (by rw [n1.2.2.1]; exact hV.2.1.1) (by assumption) (fun h2 f2 e2 => ?_)
  simp only [kR_at, S79_0, S79_1, S79_2, S79_5, S79_8, S79_9, S79_10, S79_13, S79_16, S79_17, S79_18, S79_21, S79_22, S79_25, S79_26, S79_28, S79_29, S79_32, S79_35, S79_37, S79_40, S79_42, S79_45, S79_46, S79_49, S79_52, S79_54, S79_57, S79_60, S79_61, S79_62, S79_63, S79_66, S79_67, S79_70, S79_71, S79_72, S79_73, S79_75, S79_78]
  refine kk h2 (frmF_tr f1 (frmF_frm (fun a j z => Or.inl (by omega)) f2)) ?_ (e2 r hV n1 rfl) (by rw [(f2.1 0 (by omega)).1]; exact s1)
  refine ⟨by rw [(f2.1 5 (by omega)).1]; exact p1.1, by rw [(f2.1 5 (by omega)).1]; exact p1.2.1, CN_frm f2 (fun a z1 z2 z3 => by unfold nid at z1; omega) p1.2.2.1, fun a ha hn => by rw [(f2.1 a (by omega)).1]; exact p1.2.2.2 a ha hn⟩
theorem eq11 (hV : VR r) : r 1 = (11 : Int32) ↔ ¬ rL r < 11 := by
  rw [hV.2.1.1, show (11 : Int32) = nI 11 by decide, nI_eq (by have := hV.2.1.2; omega) (by omega)]
  have := hV.2.1.2
  omega
theorem m_add_no (hr : h.1 95 = r) (hV : VR r) (hx : ¬ isAdd r x y z w) (kk : mPost r h Q 0 (some (.int (-1)))) : WP (d + 3) 188 0 [some (.ref 93), some (.int x), some (.int y), some (.int z), some (.int w)] [] h Q := by
  have k1 := kk _ M0 (r0 (x := 0) hr) t0
  have hr1 := r0 (h := h) (x := 0) hr
  simp only [S188_0, S188_1, S188_2, S188_5, S188_6, S188_9, S188_11, S188_14, S188_15, S188_16, S188_19, S188_22, S188_23, S188_24, S188_27, S188_30, S188_31, S188_32, S188_35, S188_36, S188_38, S188_40, S188_43, S188_46, S188_48, S188_49, S188_50, S188_53, S188_56, S188_57, S188_59, S188_62, S188_63, S188_66, S188_67, S188_68, S188_69, S188_71, S188_74, S188_75, S188_78, S188_79, S188_80, shp_93, RV_93_1, RV_93_13, RV_93_14, RV_93_15, RV_93_16, RV_93_17, RV_93_18, RV_93_19, RV_93_20, RV_93_23, RV_93_24, RV_93_27, RV_93_28, RV_93_29, m_lines, m_isPointX hr1 hV, m_isInH, m_isInW, kR_at, hr1, eq11 hV]
  by_cases h1 : rL r < 11
  · rw [if_neg (fun z => z h1)]
    by_cases h2 : isP r x
    · rw [if_neg (fun z => pb_0.mp z h2)]
      by_cases h3 : isP r y
      · rw [if_neg (fun z => pb_0.mp z h3)]
        by_cases h4 : x = y
        · rw [if_pos h4]
          exact k1
        · rw [if_neg h4]
          by_cases h5 : inH z
          · rw [if_neg (fun z => pb_0.mp z h5), if_pos (pb_0.mpr (fun q => hx ⟨h1, ⟨h2, h3, h4⟩, h5, q⟩))]
            exact k1
          · rw [if_pos (pb_0.mpr h5)]
            exact k1
      · rw [if_pos (pb_0.mpr h3)]
        exact k1
    · rw [if_pos (pb_0.mpr h2)]
      exact k1
  · rw [if_pos h1]
    exact k1
theorem m_add_do (hr : h.1 95 = r) (hV : VR r) (hn : n ≤ 8) (h21 : h.1 93 21 = nI n) (hx : isAdd r x y z w) (kk : mAct n r (layR (rL r) r x y z w) h Q (some (.int (nI (rL r))))) : WP (d + 3) 188 0 [some (.ref 93), some (.int x), some (.int y), some (.int z), some (.int w)] [] h Q := by
  have hr1 := r0 (h := h) (x := 0) hr
  obtain ⟨h1, h2, h3, h4⟩ := hx
  simp only [S188_0, S188_1, S188_2, S188_5, S188_6, S188_9, S188_11, S188_14, S188_15, S188_16, S188_19, S188_22, S188_23, S188_24, S188_27, S188_30, S188_31, S188_32, S188_35, S188_36, S188_38, S188_40, S188_43, S188_46, S188_48, S188_49, S188_50, S188_53, S188_56, S188_57, S188_58, S188_59, S188_62, S188_63, S188_66, S188_67, S188_68, S188_69, S188_71, S188_74, S188_75, S188_78, S188_79, S188_80, shp_93, RV_93_1, RV_93_13, RV_93_14, RV_93_15, RV_93_16, RV_93_17, RV_93_18, RV_93_19, RV_93_20, RV_93_23, RV_93_24, RV_93_27, RV_93_28, RV_93_29, m_lines, m_isPointX hr1 hV, m_isInH, m_isInW, kR_at, hr1, eq11 hV, h1, not_true_eq_false, if_false, if_neg (fun z => pb_0.mp z h2.1), if_neg (fun z => pb_0.mp z h2.2.1), if_neg h2.2.2, if_neg (fun z => pb_0.mp z h3), if_neg (fun z => pb_0.mp z h4)]
  refine m_snap (d := d + 1) hn (by rw [setI_rd, if_neg (by decide)]; exact h21) (fun h1 f1 s1 => ?_)
  rw [hr1] at s1
  have e95 : h1.1 95 = r := by
    rw [← hr1]
    exact funext (fun j => (f1.1 95 j (by unfold SNs; omega)).1)
  simp only [kV_at, S188_0, S188_1, S188_2, S188_5, S188_6, S188_9, S188_11, S188_14, S188_15, S188_16, S188_19, S188_22, S188_23, S188_24, S188_27, S188_30, S188_31, S188_32, S188_35, S188_36, S188_38, S188_40, S188_43, S188_46, S188_48, S188_49, S188_50, S188_53, S188_56, S188_57, S188_58, S188_59, S188_62, S188_63, S188_66, S188_67, S188_68, S188_69, S188_71, S188_74, S188_75, S188_78, S188_79, S188_80, shp_93, RV_93_1, RV_93_13, RV_93_14, RV_93_15, RV_93_16, RV_93_17, RV_93_18, RV_93_19, RV_93_20, RV_93_23, RV_93_24, RV_93_27, RV_93_28, RV_93_29]
  refine m_lays shp_95 (by rw [e95]; exact hV.2.1.1) (by assumption) (fun h2 f2 e2 => ?_)
  have el : nI (rL r + 1) - 1 = nI (rL r) := nI_pred _
  simp only [kV_at, S188_0, S188_1, S188_2, S188_5, S188_6, S188_9, S188_11, S188_14, S188_15, S188_16, S188_19, S188_22, S188_23, S188_24, S188_27, S188_30, S188_31, S188_32, S188_35, S188_36, S188_38, S188_40, S188_43, S188_46, S188_48, S188_49, S188_50, S188_53, S188_56, S188_57, S188_58, S188_59, S188_62, S188_63, S188_66, S188_67, S188_68, S188_69, S188_71, S188_74, S188_75, S188_78, S188_79, S188_80, shp_93, RV_93_1, RV_93_13, RV_93_14, RV_93_15, RV_93_16, RV_93_17, RV_93_18, RV_93_19, RV_93_20, RV_93_23, RV_93_24, RV_93_27, RV_93_28, RV_93_29, m_lines, kR_at, e2, lay_1, el]
  refine kk h2 (frmF_tr (frmF_I (Or.inr (Or.inr (Or.inr ⟨rfl, Or.inl rfl⟩)))) (frmF_tr ⟨fun a j hq => f1.1 a j (fun z => hq (mas_s z)), f1.2⟩ (frmF_frm (fun a j z => Or.inr (Or.inl z)) f2))) ⟨?_, ?_, ?_⟩ ?_
  · rw [(f2.1 93 (by decide)).1]; exact s1.1
  · intro j hj; show h2.1 98 _ = _; rw [(f2.1 98 (by decide)).1]; exact s1.2.1 j hj
  · intro i hi j hj; show h2.1 98 _ = _; rw [(f2.1 98 (by decide)).1]
    refine (s1.2.2 i hi j hj).trans ?_
    show (setI h 93 0 0).1 98 _ = _
    rw [setI_1 (by decide)]; rfl
  · rw [e2, e95]
end
