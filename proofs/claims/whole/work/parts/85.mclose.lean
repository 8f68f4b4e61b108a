/-! The model's closes. -/
section
variable {d : Nat} {h : Hp} {Q : Option (Option Value) → Hp → Prop} {x : Int32} {l : Nat} {r : Nat → Int32}
theorem m_closes_no (hr : h.1 95 = r) (hV : VR r) (hx : ¬ clsd r x) (kk : mPost r h Q 0 (some (.int (-1000000)))) : WP (d + 6) 165 0 [some (.ref 93), some (.int x)] [] h Q := by
  have k1 := kk _ M0 (r0 (x := 0) hr) t0
  simp only [S165_0, S165_1, S165_2, S165_5, S165_6, S165_7, S165_10, S165_13, S165_16, S165_17, S165_18, S165_21, S165_22, S165_23, S165_26, shp_93, RV_93_1, RV_93_13, RV_93_14, RV_93_15, RV_93_16, RV_93_17, RV_93_18, RV_93_19, RV_93_20, RV_93_23, RV_93_24, RV_93_27, RV_93_28, RV_93_29, m_isClosedX (r0 (x := 0) hr) hV, kR_at]
  have e : pb (clsd r x) = 0 := pb_0.mpr hx
  simp only [e, ne_eq, not_true_eq_false, if_false, if_true, ↓reduceIte]
  exact k1
theorem clsV_eq : r (36 + l) - (alF r).2 (rB r l) + (alF r).2 (rA r l) = clsV r l := by
  unfold clsV
  generalize r (36 + l) = a
  generalize (alF r).2 (rB r l) = b
  generalize (alF r).2 (rA r l) = c
  grind
theorem m_closes_yes (hr : h.1 95 = r) (hV : VR r) (hl : rngL r l) (kk : mPost r h Q 0 (some (.int (clsV r l)))) : WP (d + 6) 165 0 [some (.ref 93), some (.int (nI l))] [] h Q := by
  have hVl := hV.2.2.2 l hl.1.1
  have e : ¬ pb (clsd r (nI l)) = 0 := fun z => pb_0.mp z ((clsd_nI hV hl.1.1).mpr hl)
  simp only [S165_0, S165_1, S165_2, S165_5, S165_6, S165_7, S165_10, S165_13, S165_16, S165_17, S165_18, S165_21, S165_22, S165_23, S165_26, shp_93, RV_93_1, RV_93_13, RV_93_14, RV_93_15, RV_93_16, RV_93_17, RV_93_18, RV_93_19, RV_93_20, RV_93_23, RV_93_24, RV_93_27, RV_93_28, RV_93_29, m_isClosedX (r0 (x := 0) hr) hV, kR_at, e, ne_eq, not_false_eq_true, if_false, if_true, ↓reduceIte]
  refine m_laysAlong (d := d) (r0 hr) hV (fun h1 e1 f1 => ?_)
  have r1 : h1.1 95 = r := by rw [(f1.1 95 (by decide)).1]; exact r0 hr
  simp only [kV_at, S165_0, S165_1, S165_2, S165_5, S165_6, S165_7, S165_10, S165_13, S165_16, S165_17, S165_18, S165_21, S165_22, S165_23, S165_26, shp_93, RV_93_1, RV_93_13, RV_93_14, RV_93_15, RV_93_16, RV_93_17, RV_93_18, RV_93_19, RV_93_20, RV_93_23, RV_93_24, RV_93_27, RV_93_28, RV_93_29, m_closing (d := d + 4) r1 hV hl.1.1, kR_at, e1 _ hVl.1.2, e1 _ hVl.2.1.2, clsV_eq]
  refine kk h1 (frmF_tr M0 (frmF_frm (fun a j z => Or.inl (Or.inl (by have : a = 107 := z; omega))) f1)) r1 ?_
  rw [(f1.1 93 (by decide)).1]
  exact t0
end
