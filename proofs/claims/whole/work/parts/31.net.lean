/-! Small methods of the class, and of its nets. -/
section
variable {d : Nat} {h : Hp} {Q : Option (Option Value) → Hp → Prop} {x y z : Int32} {u w : Int64} {a k : Nat}
theorem c_bit : WP d 97 0 [some (.int x), some (.int y)] [] h Q ↔ Q (some (some (.int (bitv x y)))) h := by
  simp only [S97_0, S97_1, S97_2, S97_3, S97_4, S97_5, bitv]
theorem c_seedBehind : WP d 98 0 [some (.int x)] [] h Q ↔ Q (some (some (.int (x * 1103515245 + 12345)))) h := by
  simp only [S98_0, S98_1, S98_4, S98_5, S98_8, S98_9]
theorem c_isFixed (hs : shp a = some (0, 3)) : WP (d + 1) 28 0 [some (.ref a), some (.int x)] [] h Q ↔ Q (some (some (.int (if bitv (h.1 a 1) x = 1 then 1 else 0)))) h := by
  simp only [S28_0, S28_1, S28_4, S28_5, S28_8, S28_9, S28_12, S28_13, S28_16, S28_17, c_bit, kR_at, hs, isB_0, isB_1]
  split <;> rfl
theorem c_isPoint : WP d 89 0 [some (.ref 0), some (.int x)] [] h Q ↔ Q (some (some (.int (if x < 0 then 0 else if h.1 21 0 ≤ x then 0 else 1)))) h := by
  simp only [S89_0, S89_1, S89_4, S89_5, S89_6, S89_9, S89_12, S89_15, S89_16, S89_19, S89_20, shp_0, RV_0_0, RV_0_1, RV_0_2, RV_0_3, RV_0_4, RV_0_5, RV_0_9, RV_0_10, shp_21, RV_21_2, RV_21_5, RV_21_6, RV_21_7, RV_21_8, isB_0, isB_1]
  split
  · rfl
  · split <;> rfl
theorem c_isLine : WP d 90 0 [some (.ref 0), some (.int x)] [] h Q ↔ Q (some (some (.int (if x < 0 then 0 else if h.1 21 3 ≤ x then 0 else 1)))) h := by
  simp only [S90_0, S90_1, S90_4, S90_5, S90_6, S90_9, S90_12, S90_15, S90_16, S90_19, S90_20, shp_0, RV_0_0, RV_0_1, RV_0_2, RV_0_3, RV_0_4, RV_0_5, RV_0_9, RV_0_10, shp_21, RV_21_2, RV_21_5, RV_21_6, RV_21_7, RV_21_8, isB_0, isB_1]
  split
  · rfl
  · split <;> rfl
theorem c_isHalf : WP d 93 0 [some (.int x)] [] h Q ↔ Q (some (some (.int (if x = 0 then 1 else if x = 1 then 1 else 0)))) h := by
  simp only [S93_0, S93_1, S93_4, S93_5, S93_6, S93_9, S93_10, S93_13, S93_14, isB_0, isB_1]
  split
  · rfl
  · split <;> rfl
theorem c_isHeight : WP d 94 0 [some (.int x)] [] h Q ↔ Q (some (some (.int (if x < -99 then 0 else if 99 < x then 0 else 1)))) h := by
  simp only [S94_0, S94_1, S94_3, S94_6, S94_7, S94_9, S94_12, S94_13, S94_16, S94_17, isB_0, isB_1]
  split
  · rfl
  · split <;> rfl
theorem c_isWeight : WP d 95 0 [some (.int x)] [] h Q ↔ Q (some (some (.int (if x < 1 then 0 else if 4 < x then 0 else 1)))) h := by
  simp only [S95_0, S95_1, S95_2, S95_5, S95_6, S95_7, S95_10, S95_11, S95_14, S95_15, isB_0, isB_1]
  split
  · rfl
  · split <;> rfl
theorem c_isImage : WP d 96 0 [some (.int x)] [] h Q ↔ Q (some (some (.int (if x < 0 then 0 else if 2 ≤ x then 0 else 1)))) h := by
  simp only [S96_0, S96_1, S96_4, S96_5, S96_6, S96_9, S96_10, S96_13, S96_14, isB_0, isB_1]
  split
  · rfl
  · split <;> rfl
theorem c_clear (hs : shp a = some (0, 3)) : WP d 24 0 [some (.ref a)] [] h Q ↔ Q (some none) (setI (setI (setI (setI h a 0 0) a 1 0) a 3 0) a 4 0) := by
  simp only [S24_0, S24_1, S24_2, S24_5, S24_6, S24_7, S24_10, S24_11, S24_12, S24_15, S24_16, S24_17, S24_20, hs]
end
