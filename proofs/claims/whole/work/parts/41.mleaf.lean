/-! The model's small methods. -/
theorem ok95 {n : Nat} (h : n < 69) : okA 1 95 (nI n) := okA_nI shp_95 h (by decide)
theorem ok95_0 : okA 1 95 0 := ok95 (n := 0) (by decide)
theorem ok95_1 : okA 1 95 1 := ok95 (n := 1) (by decide)
theorem la_2 (n : Nat) : (2 : Int32) + nI n = nI (2 + n) := lit_add 2 n
theorem la_8 (n : Nat) : (8 : Int32) + nI n = nI (8 + n) := lit_add 8 n
theorem la_14 (n : Nat) : (14 : Int32) + nI n = nI (14 + n) := lit_add 14 n
theorem la_25 (n : Nat) : (25 : Int32) + nI n = nI (25 + n) := lit_add 25 n
theorem la_36 (n : Nat) : (36 : Int32) + nI n = nI (36 + n) := lit_add 36 n
theorem la_47 (n : Nat) : (47 : Int32) + nI n = nI (47 + n) := lit_add 47 n
theorem la_58 (n : Nat) : (58 : Int32) + nI n = nI (58 + n) := lit_add 58 n
theorem cl_0 : (0 : Int32).toNatClampNeg = 0 := by decide
theorem cl_1 : (1 : Int32).toNatClampNeg = 1 := by decide
section
variable {d : Nat} {h : Hp} {Q : Option (Option Value) → Hp → Prop} {x y z : Int32} {u w : Int64} {a k l p : Nat}
theorem m_thrown : WP d 99 0 [some (.ref 93)] [] h Q ↔ Q (some (some (.int (h.1 93 0)))) h := by
  simp only [S99_0, S99_1, S99_4, shp_93, RV_93_1, RV_93_13, RV_93_14, RV_93_15, RV_93_16, RV_93_17, RV_93_18, RV_93_19, RV_93_20, RV_93_23, RV_93_24, RV_93_27, RV_93_28, RV_93_29]
theorem m_refuse : WP d 100 0 [some (.ref 93)] [] h Q ↔ Q (some (some (.int 0))) (setI h 93 0 1) := by
  simp only [S100_0, S100_1, S100_2, S100_5, S100_6, shp_93, RV_93_1, RV_93_13, RV_93_14, RV_93_15, RV_93_16, RV_93_17, RV_93_18, RV_93_19, RV_93_20, RV_93_23, RV_93_24, RV_93_27, RV_93_28, RV_93_29]
theorem m_isIn : WP d 101 0 [some (.int x), some (.int y), some (.int z)] [] h Q ↔ Q (some (some (.int (if x < y then 0 else if z < x then 0 else 1)))) h := by
  simp only [S101_0, S101_1, S101_2, S101_5, S101_6, S101_7, S101_10, S101_11, S101_14, S101_15, isB_0, isB_1]
  split
  · rfl
  · split <;> rfl
theorem m_has (hk : k < 32) : WP d 102 0 [some (.int x), some (.int (nI k))] [] h Q ↔ Q (some (some (.int (b2i (bt x k))))) h := by
  simp only [S102_0, S102_1, S102_2, S102_3, S102_4, S102_5, S102_6, S102_9, S102_10, S102_13, S102_14, isB_0, isB_1, hasv_bt hk, b2i_1]
  cases bt x k
  · simp only [Bool.false_eq_true, if_false]; rfl
  · simp only [if_true]; rfl
theorem m_points : WP d 128 0 [some (.ref 93)] [] h Q ↔ Q (some (some (.int (h.1 95 0)))) h := by
  simp only [S128_0, S128_1, S128_4, S128_5, S128_6, shp_93, RV_93_1, RV_93_13, RV_93_14, RV_93_15, RV_93_16, RV_93_17, RV_93_18, RV_93_19, RV_93_20, RV_93_23, RV_93_24, RV_93_27, RV_93_28, RV_93_29, ok95_0, cl_0]
theorem m_lines : WP d 129 0 [some (.ref 93)] [] h Q ↔ Q (some (some (.int (h.1 95 1)))) h := by
  simp only [S129_0, S129_1, S129_4, S129_5, S129_6, shp_93, RV_93_1, RV_93_13, RV_93_14, RV_93_15, RV_93_16, RV_93_17, RV_93_18, RV_93_19, RV_93_20, RV_93_23, RV_93_24, RV_93_27, RV_93_28, RV_93_29, ok95_1, cl_1]
theorem m_first (hl : l < 11) : WP d 134 0 [some (.ref 93), some (.int (nI l))] [] h Q ↔ Q (some (some (.int (h.1 95 (14 + l))))) h := by
  have o1 := ok95 (n := 14 + l) (by omega)
  have c1 := nI_cl (n := 14 + l) (by omega)
  simp only [S134_0, S134_1, S134_4, S134_6, S134_7, S134_8, S134_9, shp_93, RV_93_1, RV_93_13, RV_93_14, RV_93_15, RV_93_16, RV_93_17, RV_93_18, RV_93_19, RV_93_20, RV_93_23, RV_93_24, RV_93_27, RV_93_28, RV_93_29, la_2, la_8, la_14, la_25, la_36, la_47, la_58, o1, c1]
theorem m_second (hl : l < 11) : WP d 135 0 [some (.ref 93), some (.int (nI l))] [] h Q ↔ Q (some (some (.int (h.1 95 (25 + l))))) h := by
  have o1 := ok95 (n := 25 + l) (by omega)
  have c1 := nI_cl (n := 25 + l) (by omega)
  simp only [S135_0, S135_1, S135_4, S135_6, S135_7, S135_8, S135_9, shp_93, RV_93_1, RV_93_13, RV_93_14, RV_93_15, RV_93_16, RV_93_17, RV_93_18, RV_93_19, RV_93_20, RV_93_23, RV_93_24, RV_93_27, RV_93_28, RV_93_29, la_2, la_8, la_14, la_25, la_36, la_47, la_58, o1, c1]
theorem m_isFixed (hp : p < 6) : WP d 132 0 [some (.ref 93), some (.int (nI p))] [] h Q ↔ Q (some (some (.int (if h.1 95 (2 + p) = 1 then 1 else 0)))) h := by
  have o1 := ok95 (n := 2 + p) (by omega)
  have c1 := nI_cl (n := 2 + p) (by omega)
  simp only [S132_0, S132_1, S132_4, S132_5, S132_6, S132_7, S132_8, S132_9, S132_12, S132_13, S132_16, S132_17, shp_93, RV_93_1, RV_93_13, RV_93_14, RV_93_15, RV_93_16, RV_93_17, RV_93_18, RV_93_19, RV_93_20, RV_93_23, RV_93_24, RV_93_27, RV_93_28, RV_93_29, la_2, la_8, la_14, la_25, la_36, la_47, la_58, o1, c1, isB_0, isB_1]
  split <;> rfl
theorem m_isSound (hl : l < 11) : WP d 133 0 [some (.ref 93), some (.int (nI l))] [] h Q ↔ Q (some (some (.int (if h.1 95 (58 + l) = 1 then 1 else 0)))) h := by
  have o1 := ok95 (n := 58 + l) (by omega)
  have c1 := nI_cl (n := 58 + l) (by omega)
  simp only [S133_0, S133_1, S133_4, S133_6, S133_7, S133_8, S133_9, S133_10, S133_13, S133_14, S133_17, S133_18, shp_93, RV_93_1, RV_93_13, RV_93_14, RV_93_15, RV_93_16, RV_93_17, RV_93_18, RV_93_19, RV_93_20, RV_93_23, RV_93_24, RV_93_27, RV_93_28, RV_93_29, la_2, la_8, la_14, la_25, la_36, la_47, la_58, o1, c1, isB_0, isB_1]
  split <;> rfl
theorem m_isPoint : WP (d + 1) 130 0 [some (.ref 93), some (.int x)] [] h Q ↔ Q (some (some (.int (if x < 0 then 0 else if h.1 95 0 - 1 < x then 0 else 1)))) h := by
  simp only [S130_0, S130_1, S130_2, S130_3, S130_6, S130_7, S130_8, S130_11, shp_93, RV_93_1, RV_93_13, RV_93_14, RV_93_15, RV_93_16, RV_93_17, RV_93_18, RV_93_19, RV_93_20, RV_93_23, RV_93_24, RV_93_27, RV_93_28, RV_93_29, m_points, m_isIn, kR_at]
  split
  · simp only [S130_0, S130_1, S130_2, S130_3, S130_6, S130_7, S130_8, S130_11, isB_0, isB_1]
  · split <;> simp only [S130_0, S130_1, S130_2, S130_3, S130_6, S130_7, S130_8, S130_11, isB_0, isB_1]
theorem m_isLine : WP (d + 1) 131 0 [some (.ref 93), some (.int x)] [] h Q ↔ Q (some (some (.int (if x < 0 then 0 else if h.1 95 1 - 1 < x then 0 else 1)))) h := by
  simp only [S131_0, S131_1, S131_2, S131_3, S131_6, S131_7, S131_8, S131_11, shp_93, RV_93_1, RV_93_13, RV_93_14, RV_93_15, RV_93_16, RV_93_17, RV_93_18, RV_93_19, RV_93_20, RV_93_23, RV_93_24, RV_93_27, RV_93_28, RV_93_29, m_lines, m_isIn, kR_at]
  split
  · simp only [S131_0, S131_1, S131_2, S131_3, S131_6, S131_7, S131_8, S131_11, isB_0, isB_1]
  · split <;> simp only [S131_0, S131_1, S131_2, S131_3, S131_6, S131_7, S131_8, S131_11, isB_0, isB_1]
theorem m_isPart : WP (d + 1) 153 0 [some (.int x)] [] h Q ↔ Q (some (some (.int (if x < 0 then 0 else if 1 < x then 0 else 1)))) h := by
  simp only [S153_0, S153_1, S153_2, S153_3, S153_6, m_isIn, kR_at]
  split
  · simp only [S153_0, S153_1, S153_2, S153_3, S153_6, isB_0, isB_1]
  · split <;> simp only [S153_0, S153_1, S153_2, S153_3, S153_6, isB_0, isB_1]
theorem m_amount : WP d 166 0 [some (.int x)] [] h Q ↔ Q (some (some (.int (if 0 ≤ x then x else -x)))) h := by
  simp only [S166_0, S166_1, S166_4, S166_5, S166_6, S166_9, S166_10]
  split <;> rfl
theorem m_isDigit : WP d 108 0 [some (.int x)] [] h Q ↔ Q (some (some (.int (if x < 48 then 0 else if 57 < x then 0 else 1)))) h := by
  simp only [S108_0, S108_1, S108_3, S108_6, S108_7, S108_9, S108_12, S108_13, S108_16, S108_17, isB_0, isB_1]
  split
  · rfl
  · split <;> rfl
theorem m_isLetter : WP d 109 0 [some (.int x)] [] h Q ↔ Q (some (some (.int (if x < 97 then 0 else if 122 < x then 0 else 1)))) h := by
  simp only [S109_0, S109_1, S109_3, S109_6, S109_7, S109_9, S109_12, S109_13, S109_16, S109_17, isB_0, isB_1]
  split
  · rfl
  · split <;> rfl
end
