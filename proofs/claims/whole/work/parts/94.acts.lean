/-! The acts of both sides that change one place. -/
def CAs (a j : Nat) : Prop := (21 ≤ a ∧ a ≤ 80) ∨ (a = 5 ∧ (j = 1 ∨ j = 2)) ∨ stS a j
def MAs (a j : Nat) : Prop := MS a j ∨ a = 95 ∨ (98 ≤ a ∧ a ≤ 100) ∨ (a = 93 ∧ (j = 0 ∨ j = 21 ∨ (30 ≤ j ∧ j ≤ 34)))
abbrev cAct (t n : Nat) (r r' : Nat → Int32) (h : Hp) (Q : Option (Option Value) → Hp → Prop) (res : Option Value) : Prop := ∀ h' : Hp, frmF CAs h h' → pushed t n h h' r → CN h' 21 r' → h'.1 0 11 = 1 → Q (some res) h'
abbrev mAct (n : Nat) (r r' : Nat → Int32) (h : Hp) (Q : Option (Option Value) → Hp → Prop) (res : Option Value) : Prop := ∀ h' : Hp, frmF MAs h h' → snapped n h h' r → h'.1 95 = r' → Q (some res) h'
def actA (t n : Nat) (h : Hp) : Prop := t < 8 ∧ n ≤ 8 ∧ h.1 5 1 = nI t ∧ h.1 5 2 = nI n
section
variable {d : Nat} {h h' : Hp} {Q : Option (Option Value) → Hp → Prop} {x y z v : Int32} {k l p q t n : Nat} {r : Nat → Int32}
theorem eq69_rf : eq69 r r := fun _ _ => rfl
/-! the class's -/
theorem pushed_I {a j : Nat} (hp : pushed t n h h' r) (ht : t < 8) (ha : a < 5 ∨ (5 < a ∧ a < 33) ∨ 80 < a) : pushed t n h (setI h' a j x) r := by
  refine ⟨by rw [setI_1 (by omega)]; exact hp.1, by rw [setI_1 (by omega)]; exact hp.2.1, ?_, fun c hc hn => by rw [setI_1 (by omega)]; exact hp.2.2.2 c hc hn⟩
  exact CN_frm (S := fun c => c = a) (frm_I rfl) (fun c z1 z2 z3 => by unfold nid at z1 z2; omega) hp.2.2.1
theorem c_beginAct (hV : VR r) (hN : CN h 21 r) (hA : actA t n h) (kk : ∀ h' : Hp, frmF CAs h h' → pushed t n h h' r → CN h' 21 r → h'.1 0 11 = 1 → Q (some none) h') : WP (d + 3) 88 0 [some (.ref 0)] [] h Q := by
  obtain ⟨ht, hn, e1, e2⟩ := hA
  simp only [S88_0, S88_1, S88_4, S88_5, S88_8, S88_11, S88_12, S88_13, S88_16, shp_0, RV_0_0, RV_0_1, RV_0_2, RV_0_3, RV_0_4, RV_0_5, RV_0_9, RV_0_10, shp_5, RV_5_0]
  refine c_push (k := 0) (d := d) (by omega) hV hN ht hn e1 e2 (fun h1 f1 p1 => ?_)
  simp only [kV_at, S88_0, S88_1, S88_4, S88_5, S88_8, S88_11, S88_12, S88_13, S88_16, shp_0, RV_0_0, RV_0_1, RV_0_2, RV_0_3, RV_0_4, RV_0_5, RV_0_9, RV_0_10, shp_5, RV_5_0, isB_1]
  have F : frmF CAs h h1 := ⟨fun a j hq => f1.1 a j (fun z => hq (by
    rcases z with z | z
    · exact Or.inl (by omega)
    · exact Or.inr (Or.inl z))), f1.2⟩
  refine kk _ (frmF_tr F (frmF_I (Or.inr (Or.inr (Or.inr ⟨rfl, rfl⟩))))) (pushed_I p1 ht (by omega)) ?_ (by rw [setI_rd, if_pos ⟨rfl, rfl⟩])
  have n1 : CN h1 21 r := CN_fF f1 (fun a j z1 z2 z3 => by unfold PSs at z3; omega) hN
  exact CN_frm (S := fun a => a = 0) (frm_I rfl) (fun a z1 z2 z3 => by omega) n1
theorem c_strike_no (hC : cls r h) (hx : ¬ isL r x) (kk : Q (some (some (.int (-1)))) h) : WP (d + 4) 74 0 [some (.ref 0), some (.int x)] [] h Q := by
  simp only [S74_0, S74_1, S74_2, S74_5, S74_8, S74_9, S74_11, S74_12, S74_15, S74_18, S74_19, S74_20, S74_21, S74_24, S74_25, S74_28, S74_29, S74_32, S74_33, S74_34, S74_35, S74_36, S74_37, S74_38, S74_41, S74_42, shp_0, RV_0_0, RV_0_1, RV_0_2, RV_0_3, RV_0_4, RV_0_5, RV_0_9, RV_0_10, c_isLineX hC.1 hC.2.1, kR_at, if_pos (pb_0.mpr hx)]
  exact kk
theorem c_strike_1 (hC : cls r h) (hl : l < rL r) (hs : ¬ snd r l) (kk : Q (some (some (.int 1))) h) : WP (d + 4) 74 0 [some (.ref 0), some (.int (nI l))] [] h Q := by
  have h1 : ¬ pb (isL r (nI l)) = 0 := fun z => pb_0.mp z ⟨l, hl, rfl⟩
  have h2 : pb (isS r (nI l)) = 0 := pb_0.mpr (fun z => hs ((isS_nI hC.1 hl).mp z))
  simp only [S74_0, S74_1, S74_2, S74_5, S74_8, S74_9, S74_10, S74_11, S74_12, S74_15, S74_18, S74_19, S74_21, S74_24, S74_25, S74_28, S74_29, S74_32, S74_33, S74_34, S74_35, S74_36, S74_37, S74_38, S74_41, S74_42, shp_0, RV_0_0, RV_0_1, RV_0_2, RV_0_3, RV_0_4, RV_0_5, RV_0_9, RV_0_10, c_isLineX hC.1 hC.2.1, c_isSoundLineX hC.1 hC.2.1, kR_at, if_neg h1, if_pos h2]
  exact kk
theorem c_strike_do (hC : cls r h) (hA : actA t n h) (hs : snd r l) (kk : cAct t n r (upd r (58 + l) 0) h Q (some (.int 0))) : WP (d + 4) 74 0 [some (.ref 0), some (.int (nI l))] [] h Q := by
  have hV := hC.1
  have h1 : ¬ pb (isL r (nI l)) = 0 := fun z => pb_0.mp z ⟨l, hs.1, rfl⟩
  have h2 : ¬ pb (isS r (nI l)) = 0 := fun z => pb_0.mp z ⟨l, hs, rfl⟩
  simp only [S74_0, S74_1, S74_2, S74_5, S74_8, S74_9, S74_10, S74_11, S74_12, S74_15, S74_18, S74_19, S74_20, S74_21, S74_24, S74_25, S74_28, S74_29, S74_32, S74_33, S74_34, S74_35, S74_36, S74_37, S74_38, S74_41, S74_42, shp_0, RV_0_0, RV_0_1, RV_0_2, RV_0_3, RV_0_4, RV_0_5, RV_0_9, RV_0_10, c_isLineX hC.1 hC.2.1, c_isSoundLineX hC.1 hC.2.1, kR_at, if_neg h1, if_neg h2]
  refine c_beginAct (d := d) hV hC.2.1 hA (fun h1 f1 p1 n1 s1 => ?_)
  simp only [kV_at, S74_0, S74_1, S74_2, S74_5, S74_8, S74_9, S74_10, S74_11, S74_12, S74_15, S74_18, S74_19, S74_20, S74_21, S74_24, S74_25, S74_28, S74_29, S74_32, S74_33, S74_34, S74_35, S74_36, S74_37, S74_38, S74_41, S74_42, shp_0, RV_0_0, RV_0_1, RV_0_2, RV_0_3, RV_0_4, RV_0_5, RV_0_9, RV_0_10, shp_21, RV_21_2, RV_21_5, RV_21_6, RV_21_7, RV_21_8]
  exact kk _ (frmF_tr f1 (frmF_I (Or.inl (by omega)))) (pushed_I p1 hA.1 (by omega)) (CN_s0 hV n1 hs.1) (by rw [setI_1 (by decide)]; exact s1)
theorem c_mend_no (hC : cls r h) (hx : ¬ isL r x) (kk : Q (some (some (.int (-1)))) h) : WP (d + 4) 75 0 [some (.ref 0), some (.int x)] [] h Q := by
  simp only [S75_0, S75_1, S75_2, S75_5, S75_8, S75_9, S75_11, S75_12, S75_15, S75_18, S75_19, S75_20, S75_21, S75_24, S75_25, S75_28, S75_29, S75_32, S75_33, S75_34, S75_35, S75_36, S75_39, S75_40, shp_0, RV_0_0, RV_0_1, RV_0_2, RV_0_3, RV_0_4, RV_0_5, RV_0_9, RV_0_10, c_isLineX hC.1 hC.2.1, kR_at, if_pos (pb_0.mpr hx)]
  exact kk
theorem c_mend_1 (hC : cls r h) (hs : snd r l) (kk : Q (some (some (.int 1))) h) : WP (d + 4) 75 0 [some (.ref 0), some (.int (nI l))] [] h Q := by
  have h1 : ¬ pb (isL r (nI l)) = 0 := fun z => pb_0.mp z ⟨l, hs.1, rfl⟩
  have h2 : ¬ pb (isS r (nI l)) = 0 := fun z => pb_0.mp z ⟨l, hs, rfl⟩
  simp only [S75_0, S75_1, S75_2, S75_5, S75_8, S75_9, S75_10, S75_11, S75_12, S75_15, S75_18, S75_19, S75_21, S75_24, S75_25, S75_28, S75_29, S75_32, S75_33, S75_34, S75_35, S75_36, S75_39, S75_40, shp_0, RV_0_0, RV_0_1, RV_0_2, RV_0_3, RV_0_4, RV_0_5, RV_0_9, RV_0_10, c_isLineX hC.1 hC.2.1, c_isSoundLineX hC.1 hC.2.1, kR_at, if_neg h1, if_neg h2]
  exact kk
theorem c_mend_do (hC : cls r h) (hA : actA t n h) (hl : l < rL r) (hs : ¬ snd r l) (kk : cAct t n r (upd r (58 + l) 1) h Q (some (.int 0))) : WP (d + 4) 75 0 [some (.ref 0), some (.int (nI l))] [] h Q := by
  have hV := hC.1
  have h1 : ¬ pb (isL r (nI l)) = 0 := fun z => pb_0.mp z ⟨l, hl, rfl⟩
  have h2 : pb (isS r (nI l)) = 0 := pb_0.mpr (fun z => hs ((isS_nI hC.1 hl).mp z))
  simp only [S75_0, S75_1, S75_2, S75_5, S75_8, S75_9, S75_10, S75_11, S75_12, S75_15, S75_18, S75_19, S75_20, S75_21, S75_24, S75_25, S75_28, S75_29, S75_32, S75_33, S75_34, S75_35, S75_36, S75_39, S75_40, shp_0, RV_0_0, RV_0_1, RV_0_2, RV_0_3, RV_0_4, RV_0_5, RV_0_9, RV_0_10, c_isLineX hC.1 hC.2.1, c_isSoundLineX hC.1 hC.2.1, kR_at, if_neg h1, if_pos h2]
  refine c_beginAct (d := d) hV hC.2.1 hA (fun h1 f1 p1 n1 s1 => ?_)
  simp only [kV_at, S75_0, S75_1, S75_2, S75_5, S75_8, S75_9, S75_10, S75_11, S75_12, S75_15, S75_18, S75_19, S75_20, S75_21, S75_24, S75_25, S75_28, S75_29, S75_32, S75_33, S75_34, S75_35, S75_36, S75_39, S75_40, shp_0, RV_0_0, RV_0_1, RV_0_2, RV_0_3, RV_0_4, RV_0_5, RV_0_9, RV_0_10, shp_21, RV_21_2, RV_21_5, RV_21_6, RV_21_7, RV_21_8]
  exact kk _ (frmF_tr f1 (frmF_I (Or.inl (by omega)))) (pushed_I p1 hA.1 (by omega)) (CN_s1 hV n1 hl) (by rw [setI_1 (by decide)]; exact s1)
theorem inH_if : (if x < -99 then (0 : Int32) else if 99 < x then 0 else 1) = pb (inH x) := by
  have e1 : x < -99 ↔ x.toInt < -99 := by rw [Int32.lt_iff_toInt_lt]; exact Iff.rfl
  have e2 : 99 < x ↔ 99 < x.toInt := by rw [Int32.lt_iff_toInt_lt]; exact Iff.rfl
  unfold inH
  by_cases c1 : x < -99
  · rw [if_pos c1, pb_f (by have := e1.mp c1; omega)]
  · rw [if_neg c1]
    have n1 := mt e1.mpr c1
    by_cases c2 : 99 < x
    · rw [if_pos c2, pb_f (by have := e2.mp c2; omega)]
    · rw [if_neg c2, pb_t (by have := mt e2.mpr c2; omega)]
theorem inW_if : (if x < 1 then (0 : Int32) else if 4 < x then 0 else 1) = pb (inW x) := by
  have e1 : x < 1 ↔ x.toInt < 1 := by rw [Int32.lt_iff_toInt_lt]; exact Iff.rfl
  have e2 : 4 < x ↔ 4 < x.toInt := by rw [Int32.lt_iff_toInt_lt]; exact Iff.rfl
  unfold inW
  by_cases c1 : x < 1
  · rw [if_pos c1, pb_f (by have := e1.mp c1; omega)]
  · rw [if_neg c1]
    have n1 := mt e1.mpr c1
    by_cases c2 : 4 < x
    · rw [if_pos c2, pb_f (by have := e2.mp c2; omega)]
    · rw [if_neg c2, pb_t (by have := mt e2.mpr c2; omega)]
theorem c_isHeightX : WP d 94 0 [some (.int x)] [] h Q ↔ Q (some (some (.int (pb (inH x))))) h := by rw [c_isHeight, inH_if]
theorem c_isWeightX : WP d 95 0 [some (.int x)] [] h Q ↔ Q (some (some (.int (pb (inW x))))) h := by rw [c_isWeight, inW_if]
theorem m_isInH : WP d 101 0 [some (.int x), some (.int (-99)), some (.int 99)] [] h Q ↔ Q (some (some (.int (pb (inH x))))) h := by rw [m_isIn, inH_if]
theorem m_isInW : WP d 101 0 [some (.int x), some (.int 1), some (.int 4)] [] h Q ↔ Q (some (some (.int (pb (inW x))))) h := by rw [m_isIn, inW_if]
theorem c_read_no (hC : cls r h) (hx : ¬ (isL r x ∧ inH y)) (kk : Q (some (some (.int (-1)))) h) : WP (d + 4) 77 0 [some (.ref 0), some (.int x), some (.int y)] [] h Q := by
  simp only [S77_0, S77_1, S77_2, S77_5, S77_8, S77_9, S77_12, S77_15, S77_16, S77_18, S77_21, S77_24, S77_25, S77_26, S77_27, S77_30, S77_31, S77_32, S77_33, S77_36, S77_37, S77_40, S77_43, S77_44, S77_45, S77_46, S77_47, shp_0, RV_0_0, RV_0_1, RV_0_2, RV_0_3, RV_0_4, RV_0_5, RV_0_9, RV_0_10, c_isLineX hC.1 hC.2.1, c_isHeightX, kR_at]
  by_cases h1 : isL r x
  · rw [if_neg (fun z => pb_0.mp z h1), if_pos (pb_0.mpr (fun z => hx ⟨h1, z⟩))]
    exact kk
  · rw [if_pos (pb_0.mpr h1)]
    exact kk
theorem c_read_1 (hC : cls r h) (hl : l < rL r) (hy : inH y) (he : r (36 + l) = y) (kk : Q (some (some (.int 1))) h) : WP (d + 4) 77 0 [some (.ref 0), some (.int (nI l)), some (.int y)] [] h Q := by
  have h1 : ¬ pb (isL r (nI l)) = 0 := fun z => pb_0.mp z ⟨l, hl, rfl⟩
  have h2 : ¬ pb (inH y) = 0 := fun z => pb_0.mp z hy
  have h11 := hC.1.2.1.2
  simp only [S77_0, S77_1, S77_2, S77_5, S77_8, S77_9, S77_12, S77_15, S77_16, S77_17, S77_18, S77_21, S77_24, S77_25, S77_26, S77_27, S77_30, S77_31, S77_32, S77_33, S77_36, S77_37, S77_40, S77_43, S77_44, S77_45, S77_46, S77_47, shp_0, RV_0_0, RV_0_1, RV_0_2, RV_0_3, RV_0_4, RV_0_5, RV_0_9, RV_0_10, shp_21, RV_21_2, RV_21_5, RV_21_6, RV_21_7, RV_21_8, c_isLineX hC.1 hC.2.1, c_isHeightX, kR_at, if_neg h1, if_neg h2, ok25 (show l < 11 by omega), nI_cl (show l < 2147483648 by omega), (hC.2.1.2.2.2.2.2 l hl).2.2.1, he, if_true]
  exact kk
theorem c_read_do (hC : cls r h) (hA : actA t n h) (hl : l < rL r) (hy : inH y) (he : ¬ r (36 + l) = y) (kk : cAct t n r (upd r (36 + l) y) h Q (some (.int 0))) : WP (d + 4) 77 0 [some (.ref 0), some (.int (nI l)), some (.int y)] [] h Q := by
  have hV := hC.1
  have h1 : ¬ pb (isL r (nI l)) = 0 := fun z => pb_0.mp z ⟨l, hl, rfl⟩
  have h2 : ¬ pb (inH y) = 0 := fun z => pb_0.mp z hy
  have h11 := hC.1.2.1.2
  simp only [S77_0, S77_1, S77_2, S77_5, S77_8, S77_9, S77_12, S77_15, S77_16, S77_17, S77_18, S77_21, S77_24, S77_25, S77_26, S77_27, S77_30, S77_31, S77_32, S77_33, S77_36, S77_37, S77_40, S77_43, S77_44, S77_45, S77_46, S77_47, shp_0, RV_0_0, RV_0_1, RV_0_2, RV_0_3, RV_0_4, RV_0_5, RV_0_9, RV_0_10, shp_21, RV_21_2, RV_21_5, RV_21_6, RV_21_7, RV_21_8, c_isLineX hC.1 hC.2.1, c_isHeightX, kR_at, if_neg h1, if_neg h2, ok25 (show l < 11 by omega), nI_cl (show l < 2147483648 by omega), (hC.2.1.2.2.2.2.2 l hl).2.2.1, if_neg he]
  refine c_beginAct (d := d) hV hC.2.1 hA (fun h1 f1 p1 n1 s1 => ?_)
  simp only [kV_at, S77_0, S77_1, S77_2, S77_5, S77_8, S77_9, S77_12, S77_15, S77_16, S77_17, S77_18, S77_21, S77_24, S77_25, S77_26, S77_27, S77_30, S77_31, S77_32, S77_33, S77_36, S77_37, S77_40, S77_43, S77_44, S77_45, S77_46, S77_47, shp_0, RV_0_0, RV_0_1, RV_0_2, RV_0_3, RV_0_4, RV_0_5, RV_0_9, RV_0_10, shp_21, RV_21_2, RV_21_5, RV_21_6, RV_21_7, RV_21_8, ok25 (show l < 11 by omega), nI_cl (show l < 2147483648 by omega)]
  exact kk _ (frmF_tr f1 (frmF_I (Or.inl (by omega)))) (pushed_I p1 hA.1 (by omega)) (CN_r hV n1 hl) (by rw [setI_1 (by decide)]; exact s1)
theorem c_weigh_no (hC : cls r h) (hx : ¬ (isL r x ∧ inW y)) (kk : Q (some (some (.int (-1)))) h) : WP (d + 4) 78 0 [some (.ref 0), some (.int x), some (.int y)] [] h Q := by
  simp only [S78_0, S78_1, S78_2, S78_5, S78_8, S78_9, S78_12, S78_15, S78_16, S78_18, S78_21, S78_24, S78_25, S78_26, S78_27, S78_30, S78_31, S78_32, S78_33, S78_36, S78_37, S78_40, S78_43, S78_44, S78_45, S78_46, S78_47, shp_0, RV_0_0, RV_0_1, RV_0_2, RV_0_3, RV_0_4, RV_0_5, RV_0_9, RV_0_10, c_isLineX hC.1 hC.2.1, c_isWeightX, kR_at]
  by_cases h1 : isL r x
  · rw [if_neg (fun z => pb_0.mp z h1), if_pos (pb_0.mpr (fun z => hx ⟨h1, z⟩))]
    exact kk
  · rw [if_pos (pb_0.mpr h1)]
    exact kk
theorem c_weigh_1 (hC : cls r h) (hl : l < rL r) (hy : inW y) (he : r (47 + l) = y) (kk : Q (some (some (.int 1))) h) : WP (d + 4) 78 0 [some (.ref 0), some (.int (nI l)), some (.int y)] [] h Q := by
  have h1 : ¬ pb (isL r (nI l)) = 0 := fun z => pb_0.mp z ⟨l, hl, rfl⟩
  have h2 : ¬ pb (inW y) = 0 := fun z => pb_0.mp z hy
  have h11 := hC.1.2.1.2
  simp only [S78_0, S78_1, S78_2, S78_5, S78_8, S78_9, S78_12, S78_15, S78_16, S78_17, S78_18, S78_21, S78_24, S78_25, S78_26, S78_27, S78_30, S78_31, S78_32, S78_33, S78_36, S78_37, S78_40, S78_43, S78_44, S78_45, S78_46, S78_47, shp_0, RV_0_0, RV_0_1, RV_0_2, RV_0_3, RV_0_4, RV_0_5, RV_0_9, RV_0_10, shp_21, RV_21_2, RV_21_5, RV_21_6, RV_21_7, RV_21_8, c_isLineX hC.1 hC.2.1, c_isWeightX, kR_at, if_neg h1, if_neg h2, ok26 (show l < 11 by omega), nI_cl (show l < 2147483648 by omega), (hC.2.1.2.2.2.2.2 l hl).2.2.2, he, if_true]
  exact kk
theorem c_weigh_do (hC : cls r h) (hA : actA t n h) (hl : l < rL r) (hy : inW y) (he : ¬ r (47 + l) = y) (kk : cAct t n r (upd r (47 + l) y) h Q (some (.int 0))) : WP (d + 4) 78 0 [some (.ref 0), some (.int (nI l)), some (.int y)] [] h Q := by
  have hV := hC.1
  have h1 : ¬ pb (isL r (nI l)) = 0 := fun z => pb_0.mp z ⟨l, hl, rfl⟩
  have h2 : ¬ pb (inW y) = 0 := fun z => pb_0.mp z hy
  have h11 := hC.1.2.1.2
  simp only [S78_0, S78_1, S78_2, S78_5, S78_8, S78_9, S78_12, S78_15, S78_16, S78_17, S78_18, S78_21, S78_24, S78_25, S78_26, S78_27, S78_30, S78_31, S78_32, S78_33, S78_36, S78_37, S78_40, S78_43, S78_44, S78_45, S78_46, S78_47, shp_0, RV_0_0, RV_0_1, RV_0_2, RV_0_3, RV_0_4, RV_0_5, RV_0_9, RV_0_10, shp_21, RV_21_2, RV_21_5, RV_21_6, RV_21_7, RV_21_8, c_isLineX hC.1 hC.2.1, c_isWeightX, kR_at, if_neg h1, if_neg h2, ok26 (show l < 11 by omega), nI_cl (show l < 2147483648 by omega), (hC.2.1.2.2.2.2.2 l hl).2.2.2, if_neg he]
  refine c_beginAct (d := d) hV hC.2.1 hA (fun h1 f1 p1 n1 s1 => ?_)
  simp only [kV_at, S78_0, S78_1, S78_2, S78_5, S78_8, S78_9, S78_12, S78_15, S78_16, S78_17, S78_18, S78_21, S78_24, S78_25, S78_26, S78_27, S78_30, S78_31, S78_32, S78_33, S78_36, S78_37, S78_40, S78_43, S78_44, S78_45, S78_46, S78_47, shp_0, RV_0_0, RV_0_1, RV_0_2, RV_0_3, RV_0_4, RV_0_5, RV_0_9, RV_0_10, shp_21, RV_21_2, RV_21_5, RV_21_6, RV_21_7, RV_21_8, ok26 (show l < 11 by omega), nI_cl (show l < 2147483648 by omega)]
  exact kk _ (frmF_tr f1 (frmF_I (Or.inl (by omega)))) (pushed_I p1 hA.1 (by omega)) (CN_w hV n1 hl) (by rw [setI_1 (by decide)]; exact s1)
theorem c_free_no (hC : cls r h) (hx : ¬ isP r x) (kk : Q (some (some (.int (-1)))) h) : WP (d + 4) 81 0 [some (.ref 0), some (.int x)] [] h Q := by
  simp only [S81_0, S81_1, S81_2, S81_5, S81_8, S81_9, S81_11, S81_14, S81_15, S81_18, S81_21, S81_22, S81_23, S81_24, S81_27, S81_28, S81_31, S81_32, S81_35, S81_36, S81_37, S81_38, S81_39, S81_40, S81_41, S81_44, S81_45, shp_0, RV_0_0, RV_0_1, RV_0_2, RV_0_3, RV_0_4, RV_0_5, RV_0_9, RV_0_10, c_isPointX hC.1 hC.2.1, kR_at, if_pos (pb_0.mpr hx)]
  exact kk
theorem c_free_1 (hC : cls r h) (hp : p < rP r) (hs : ¬ fxd r p) (kk : Q (some (some (.int 1))) h) : WP (d + 4) 81 0 [some (.ref 0), some (.int (nI p))] [] h Q := by
  have h6 := hC.1.1.2
  have h1 : ¬ pb (isP r (nI p)) = 0 := fun z => pb_0.mp z ⟨p, hp, rfl⟩
  have h2 : pb (fxd r p) = 0 := pb_0.mpr hs
  simp only [S81_0, S81_1, S81_2, S81_5, S81_8, S81_9, S81_10, S81_11, S81_14, S81_15, S81_18, S81_21, S81_22, S81_24, S81_27, S81_28, S81_31, S81_32, S81_35, S81_36, S81_37, S81_38, S81_39, S81_40, S81_41, S81_44, S81_45, shp_0, RV_0_0, RV_0_1, RV_0_2, RV_0_3, RV_0_4, RV_0_5, RV_0_9, RV_0_10, shp_21, RV_21_2, RV_21_5, RV_21_6, RV_21_7, RV_21_8, c_isPointX hC.1 hC.2.1, c_isFixed21 hC.2.1 (show p < 32 by omega), kR_at, if_neg h1, if_pos h2]
  exact kk
theorem c_free_do (hC : cls r h) (hA : actA t n h) (hs : fxd r p) (kk : cAct t n r (upd r (2 + p) 0) h Q (some (.int 0))) : WP (d + 4) 81 0 [some (.ref 0), some (.int (nI p))] [] h Q := by
  have hV := hC.1
  have h6 := hC.1.1.2
  have hp := hs.1
  have h1 : ¬ pb (isP r (nI p)) = 0 := fun z => pb_0.mp z ⟨p, hs.1, rfl⟩
  have h2 : ¬ pb (fxd r p) = 0 := fun z => pb_0.mp z hs
  simp only [S81_0, S81_1, S81_2, S81_5, S81_8, S81_9, S81_10, S81_11, S81_14, S81_15, S81_18, S81_21, S81_22, S81_23, S81_24, S81_27, S81_28, S81_31, S81_32, S81_35, S81_36, S81_37, S81_38, S81_39, S81_40, S81_41, S81_44, S81_45, shp_0, RV_0_0, RV_0_1, RV_0_2, RV_0_3, RV_0_4, RV_0_5, RV_0_9, RV_0_10, shp_21, RV_21_2, RV_21_5, RV_21_6, RV_21_7, RV_21_8, c_isPointX hC.1 hC.2.1, c_isFixed21 hC.2.1 (show p < 32 by omega), kR_at, if_neg h1, if_neg h2]
  refine c_beginAct (d := d) hV hC.2.1 hA (fun h1 f1 p1 n1 s1 => ?_)
  simp only [kV_at, S81_0, S81_1, S81_2, S81_5, S81_8, S81_9, S81_10, S81_11, S81_14, S81_15, S81_18, S81_21, S81_22, S81_23, S81_24, S81_27, S81_28, S81_31, S81_32, S81_35, S81_36, S81_37, S81_38, S81_39, S81_40, S81_41, S81_44, S81_45, shp_0, RV_0_0, RV_0_1, RV_0_2, RV_0_3, RV_0_4, RV_0_5, RV_0_9, RV_0_10, shp_21, RV_21_2, RV_21_5, RV_21_6, RV_21_7, RV_21_8]
  exact kk _ (frmF_tr f1 (frmF_I (Or.inl (by omega)))) (pushed_I p1 hA.1 (by omega)) (CN_f0 hV n1 hs.1) (by rw [setI_1 (by decide)]; exact s1)
theorem c_fix_no (hC : cls r h) (hx : ¬ (isP r x ∧ inH y)) (kk : Q (some (some (.int (-1)))) h) : WP (d + 4) 80 0 [some (.ref 0), some (.int x), some (.int y)] [] h Q := by
  simp only [S80_0, S80_1, S80_2, S80_5, S80_8, S80_9, S80_12, S80_15, S80_16, S80_18, S80_21, S80_22, S80_25, S80_28, S80_29, S80_32, S80_35, S80_36, S80_37, S80_38, S80_41, S80_42, S80_43, S80_44, S80_47, S80_48, S80_51, S80_52, S80_55, S80_56, S80_57, S80_58, S80_59, S80_62, S80_63, S80_66, S80_69, S80_70, S80_71, S80_72, S80_73, shp_0, RV_0_0, RV_0_1, RV_0_2, RV_0_3, RV_0_4, RV_0_5, RV_0_9, RV_0_10, c_isPointX hC.1 hC.2.1, c_isHeightX, kR_at]
  by_cases h1 : isP r x
  · rw [if_neg (fun z => pb_0.mp z h1), if_pos (pb_0.mpr (fun z => hx ⟨h1, z⟩))]
    exact kk
  · rw [if_pos (pb_0.mpr h1)]
    exact kk
theorem c_fix_1 (hC : cls r h) (hy : inH y) (hs : fxd r p) (he : r (8 + p) = y) (kk : Q (some (some (.int 1))) h) : WP (d + 4) 80 0 [some (.ref 0), some (.int (nI p)), some (.int y)] [] h Q := by
  have h6 := hC.1.1.2
  have hp := hs.1
  have h1 : ¬ pb (isP r (nI p)) = 0 := fun z => pb_0.mp z ⟨p, hs.1, rfl⟩
  have h2 : ¬ pb (inH y) = 0 := fun z => pb_0.mp z hy
  have h3 : ¬ pb (fxd r p) = 0 := fun z => pb_0.mp z hs
  simp only [S80_0, S80_1, S80_2, S80_5, S80_8, S80_9, S80_12, S80_15, S80_16, S80_17, S80_18, S80_21, S80_22, S80_25, S80_28, S80_29, S80_32, S80_35, S80_36, S80_37, S80_38, S80_41, S80_42, S80_43, S80_44, S80_47, S80_48, S80_51, S80_52, S80_55, S80_56, S80_57, S80_58, S80_59, S80_62, S80_63, S80_66, S80_69, S80_70, S80_71, S80_72, S80_73, shp_0, RV_0_0, RV_0_1, RV_0_2, RV_0_3, RV_0_4, RV_0_5, RV_0_9, RV_0_10, shp_21, RV_21_2, RV_21_5, RV_21_6, RV_21_7, RV_21_8, c_isPointX hC.1 hC.2.1, c_isHeightX, c_isFixed21 hC.2.1 (show p < 32 by omega), kR_at, if_neg h1, if_neg h2, if_neg h3, ok22 (show p < 6 by omega), nI_cl (show p < 2147483648 by omega), hC.2.1.2.2.2.2.1 p hp, he, if_true]
  exact kk
theorem c_fix_do (hC : cls r h) (hA : actA t n h) (hp : p < rP r) (hy : inH y) (hs : ¬ (fxd r p ∧ r (8 + p) = y)) (kk : cAct t n r (upd (upd r (2 + p) 1) (8 + p) y) h Q (some (.int 0))) : WP (d + 4) 80 0 [some (.ref 0), some (.int (nI p)), some (.int y)] [] h Q := by
  have hV := hC.1
  have h6 := hC.1.1.2
  have h1 : ¬ pb (isP r (nI p)) = 0 := fun z => pb_0.mp z ⟨p, hp, rfl⟩
  have h2 : ¬ pb (inH y) = 0 := fun z => pb_0.mp z hy
  have go : WP (d + 4) 80 43 [some (.ref 0), some (.int (nI p)), some (.int y)] [] h Q := by
    simp only [S80_0, S80_1, S80_2, S80_5, S80_8, S80_9, S80_12, S80_15, S80_16, S80_17, S80_18, S80_21, S80_22, S80_25, S80_28, S80_29, S80_32, S80_35, S80_36, S80_37, S80_38, S80_41, S80_42, S80_43, S80_44, S80_47, S80_48, S80_51, S80_52, S80_55, S80_56, S80_57, S80_58, S80_59, S80_62, S80_63, S80_66, S80_69, S80_70, S80_71, S80_72, S80_73, shp_0, RV_0_0, RV_0_1, RV_0_2, RV_0_3, RV_0_4, RV_0_5, RV_0_9, RV_0_10, shp_21, RV_21_2, RV_21_5, RV_21_6, RV_21_7, RV_21_8]
    refine c_beginAct (d := d) hV hC.2.1 hA (fun h1 f1 p1 n1 s1 => ?_)
    simp only [kV_at, S80_0, S80_1, S80_2, S80_5, S80_8, S80_9, S80_12, S80_15, S80_16, S80_17, S80_18, S80_21, S80_22, S80_25, S80_28, S80_29, S80_32, S80_35, S80_36, S80_37, S80_38, S80_41, S80_42, S80_43, S80_44, S80_47, S80_48, S80_51, S80_52, S80_55, S80_56, S80_57, S80_58, S80_59, S80_62, S80_63, S80_66, S80_69, S80_70, S80_71, S80_72, S80_73, shp_0, RV_0_0, RV_0_1, RV_0_2, RV_0_3, RV_0_4, RV_0_5, RV_0_9, RV_0_10, shp_21, RV_21_2, RV_21_5, RV_21_6, RV_21_7, RV_21_8, ok22 (show p < 6 by omega), nI_cl (show p < 2147483648 by omega)]
    refine kk _ (frmF_tr f1 (frmF_tr (frmF_I (Or.inl (by omega))) (frmF_I (Or.inl (by omega))))) (pushed_I (pushed_I p1 hA.1 (by omega)) hA.1 (by omega)) ?_ (by rw [setI_1 (by decide), setI_1 (by decide)]; exact s1)
    exact CN_h (VR_f hV hp isB_1) (CN_f1 hV n1 hp) (by rw [upd_P (by omega)]; exact hp)
  simp only [S80_0, S80_1, S80_2, S80_5, S80_8, S80_9, S80_12, S80_15, S80_16, S80_17, S80_18, S80_21, S80_22, S80_25, S80_28, S80_29, S80_32, S80_35, S80_36, S80_37, S80_38, S80_41, S80_42, S80_44, S80_47, S80_48, S80_51, S80_52, S80_55, S80_56, S80_57, S80_58, S80_59, S80_62, S80_63, S80_66, S80_69, S80_70, S80_71, S80_72, S80_73, shp_0, RV_0_0, RV_0_1, RV_0_2, RV_0_3, RV_0_4, RV_0_5, RV_0_9, RV_0_10, shp_21, RV_21_2, RV_21_5, RV_21_6, RV_21_7, RV_21_8, c_isPointX hC.1 hC.2.1, c_isHeightX, c_isFixed21 hC.2.1 (show p < 32 by omega), kR_at, if_neg h1, if_neg h2, ok22 (show p < 6 by omega), nI_cl (show p < 2147483648 by omega), hC.2.1.2.2.2.2.1 p hp]
  by_cases h3 : fxd r p
  · rw [if_neg (fun z => pb_0.mp z h3), if_neg (fun z => hs ⟨h3, z⟩)]
    exact go
  · rw [if_pos (pb_0.mpr h3)]
    exact go
end
