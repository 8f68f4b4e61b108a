theorem WP_swD {d mi pc : Nat} {lv : LV} {st : List Value} {h : Hp} {Q : Option (Option Value) → Hp → Prop} {n r : Nat} {dflt lo hi : Int} {offs : Array Int} {x : Int32} {t : Nat} (hc : mCd mi pc = some (.tableswitch dflt lo hi offs, n, r)) (hx : x.toInt < lo ∨ hi < x.toInt) (hj : (jok pc dflt, jmp pc dflt) = (true, t)) : WP d mi pc lv (.int x :: st) h Q ↔ WP d mi t lv st h Q := WP_st (by
  have h1 := (Prod.mk.inj hj).1
  have h2 := (Prod.mk.inj hj).2
  rw [stpAt_of hc rfl]
  simp only [stp, swT, if_pos hx]
  rw [if_pos ⟨by rcases hx with q | q; exact Or.inl q; exact Or.inr (Or.inl q), h1⟩, h2])
theorem WP_lkD {d mi pc : Nat} {lv : LV} {st : List Value} {h : Hp} {Q : Option (Option Value) → Hp → Prop} {n r : Nat} {dflt : Int} {ps : Array (Int × Int)} {x : Int32} {t : Nat} (hc : mCd mi pc = some (.lookupswitch dflt ps, n, r)) (hp : (ps.toList.zip (ps.toList.drop 1)).all (fun (a, next) => a.1 < next.1) = true) (hx : Op.lookupswitch.offset ps.toList dflt x.toInt = dflt) (hj : (jok pc dflt, jmp pc dflt) = (true, t)) : WP d mi pc lv (.int x :: st) h Q ↔ WP d mi t lv st h Q := WP_st (by
  have h1 := (Prod.mk.inj hj).1
  have h2 := (Prod.mk.inj hj).2
  rw [stpAt_of hc rfl]
  simp only [stp, hx]
  rw [if_pos ⟨hp, h1⟩, h2])
theorem shp_0 : shp 0 = some (0, 7) := by decide
theorem shp_1 : shp 1 = some (0, 5) := by decide
theorem shp_2 : shp 2 = some (2, 540) := by decide
theorem shp_3 : shp 3 = some (0, 4) := by decide
theorem shp_4 : shp 4 = some (4, 6) := by decide
theorem shp_5 : shp 5 = some (0, 0) := by decide
theorem shp_6 : shp 6 = some (5, 8) := by decide
theorem shp_7 : shp 7 = some (5, 2) := by decide
theorem shp_8 : shp 8 = some (0, 6) := by decide
theorem shp_9 : shp 9 = some (1, 6) := by decide
theorem shp_10 : shp 10 = some (1, 6) := by decide
theorem shp_11 : shp 11 = some (1, 6) := by decide
theorem shp_12 : shp 12 = some (0, 1) := by decide
theorem shp_13 : shp 13 = some (1, 6) := by decide
theorem shp_14 : shp 14 = some (6, 5) := by decide
theorem shp_15 : shp 15 = some (4, 11) := by decide
theorem shp_16 : shp 16 = some (4, 11) := by decide
theorem shp_17 : shp 17 = some (4, 11) := by decide
theorem shp_18 : shp 18 = some (4, 11) := by decide
theorem shp_19 : shp 19 = some (4, 11) := by decide
theorem shp_20 : shp 20 = some (4, 6) := by decide
theorem shp_21 : shp 21 = some (0, 3) := by decide
theorem shp_22 : shp 22 = some (1, 6) := by decide
theorem shp_23 : shp 23 = some (1, 11) := by decide
theorem shp_24 : shp 24 = some (1, 11) := by decide
theorem shp_25 : shp 25 = some (1, 11) := by decide
theorem shp_26 : shp 26 = some (1, 11) := by decide
theorem shp_27 : shp 27 = some (0, 3) := by decide
theorem shp_28 : shp 28 = some (1, 6) := by decide
theorem shp_29 : shp 29 = some (1, 11) := by decide
theorem shp_30 : shp 30 = some (1, 11) := by decide
theorem shp_31 : shp 31 = some (1, 11) := by decide
theorem shp_32 : shp 32 = some (1, 11) := by decide
theorem shp_33 : shp 33 = some (0, 3) := by decide
theorem shp_34 : shp 34 = some (1, 6) := by decide
theorem shp_35 : shp 35 = some (1, 11) := by decide
theorem shp_36 : shp 36 = some (1, 11) := by decide
theorem shp_37 : shp 37 = some (1, 11) := by decide
theorem shp_38 : shp 38 = some (1, 11) := by decide
theorem shp_39 : shp 39 = some (0, 3) := by decide
theorem shp_40 : shp 40 = some (1, 6) := by decide
theorem shp_41 : shp 41 = some (1, 11) := by decide
theorem shp_42 : shp 42 = some (1, 11) := by decide
theorem shp_43 : shp 43 = some (1, 11) := by decide
theorem shp_44 : shp 44 = some (1, 11) := by decide
theorem shp_45 : shp 45 = some (0, 3) := by decide
theorem shp_46 : shp 46 = some (1, 6) := by decide
theorem shp_47 : shp 47 = some (1, 11) := by decide
theorem shp_48 : shp 48 = some (1, 11) := by decide
theorem shp_49 : shp 49 = some (1, 11) := by decide
theorem shp_50 : shp 50 = some (1, 11) := by decide
theorem shp_51 : shp 51 = some (0, 3) := by decide
theorem shp_52 : shp 52 = some (1, 6) := by decide
theorem shp_53 : shp 53 = some (1, 11) := by decide
theorem shp_54 : shp 54 = some (1, 11) := by decide
theorem shp_55 : shp 55 = some (1, 11) := by decide
theorem shp_56 : shp 56 = some (1, 11) := by decide
theorem shp_57 : shp 57 = some (0, 3) := by decide
theorem shp_58 : shp 58 = some (1, 6) := by decide
theorem shp_59 : shp 59 = some (1, 11) := by decide
theorem shp_60 : shp 60 = some (1, 11) := by decide
theorem shp_61 : shp 61 = some (1, 11) := by decide
theorem shp_62 : shp 62 = some (1, 11) := by decide
theorem shp_63 : shp 63 = some (0, 3) := by decide
theorem shp_64 : shp 64 = some (1, 6) := by decide
theorem shp_65 : shp 65 = some (1, 11) := by decide
theorem shp_66 : shp 66 = some (1, 11) := by decide
theorem shp_67 : shp 67 = some (1, 11) := by decide
theorem shp_68 : shp 68 = some (1, 11) := by decide
theorem shp_69 : shp 69 = some (0, 3) := by decide
theorem shp_70 : shp 70 = some (1, 6) := by decide
theorem shp_71 : shp 71 = some (1, 11) := by decide
theorem shp_72 : shp 72 = some (1, 11) := by decide
theorem shp_73 : shp 73 = some (1, 11) := by decide
theorem shp_74 : shp 74 = some (1, 11) := by decide
theorem shp_75 : shp 75 = some (0, 3) := by decide
theorem shp_76 : shp 76 = some (1, 6) := by decide
theorem shp_77 : shp 77 = some (1, 11) := by decide
theorem shp_78 : shp 78 = some (1, 11) := by decide
theorem shp_79 : shp 79 = some (1, 11) := by decide
theorem shp_80 : shp 80 = some (1, 11) := by decide
theorem shp_81 : shp 81 = some (0, 3) := by decide
theorem shp_82 : shp 82 = some (1, 6) := by decide
theorem shp_83 : shp 83 = some (1, 11) := by decide
theorem shp_84 : shp 84 = some (1, 11) := by decide
theorem shp_85 : shp 85 = some (1, 11) := by decide
theorem shp_86 : shp 86 = some (1, 11) := by decide
theorem shp_87 : shp 87 = some (0, 3) := by decide
theorem shp_88 : shp 88 = some (1, 6) := by decide
theorem shp_89 : shp 89 = some (1, 11) := by decide
theorem shp_90 : shp 90 = some (1, 11) := by decide
theorem shp_91 : shp 91 = some (1, 11) := by decide
theorem shp_92 : shp 92 = some (1, 11) := by decide
theorem shp_93 : shp 93 = some (0, 8) := by decide
theorem shp_94 : shp 94 = some (1, 540) := by decide
theorem shp_95 : shp 95 = some (1, 69) := by decide
theorem shp_96 : shp 96 = some (1, 69) := by decide
theorem shp_97 : shp 97 = some (1, 138) := by decide
theorem shp_98 : shp 98 = some (1, 552) := by decide
theorem shp_99 : shp 99 = some (1, 69) := by decide
theorem shp_100 : shp 100 = some (1, 69) := by decide
theorem shp_101 : shp 101 = some (4, 6) := by decide
theorem shp_102 : shp 102 = some (3, 2) := by decide
theorem shp_103 : shp 103 = some (4, 36) := by decide
theorem shp_104 : shp 104 = some (1, 6) := by decide
theorem shp_105 : shp 105 = some (4, 6) := by decide
theorem shp_106 : shp 106 = some (4, 2) := by decide
theorem shp_107 : shp 107 = some (1, 6) := by decide
theorem shp_108 : shp 108 = some (4, 1) := by decide
theorem RV_0_0 : RV 0 0 = 3 := by decide
theorem RV_0_1 : RV 0 1 = 1 := by decide
theorem RV_0_2 : RV 0 2 = 21 := by decide
theorem RV_0_3 : RV 0 3 = 27 := by decide
theorem RV_0_4 : RV 0 4 = 5 := by decide
theorem RV_0_5 : RV 0 5 = 7 := by decide
theorem RV_0_9 : RV 0 9 = 8 := by decide
theorem RV_0_10 : RV 0 10 = 12 := by decide
theorem RV_1_0 : RV 1 0 = 2 := by decide
theorem RV_3_0 : RV 3 0 = 1 := by decide
theorem RV_3_1 : RV 3 1 = 4 := by decide
theorem RV_5_0 : RV 5 0 = 6 := by decide
theorem RV_6_0 : RV 6 0 = 33 := by decide
theorem RV_6_1 : RV 6 1 = 39 := by decide
theorem RV_6_2 : RV 6 2 = 45 := by decide
theorem RV_6_3 : RV 6 3 = 51 := by decide
theorem RV_6_4 : RV 6 4 = 57 := by decide
theorem RV_6_5 : RV 6 5 = 63 := by decide
theorem RV_6_6 : RV 6 6 = 69 := by decide
theorem RV_6_7 : RV 6 7 = 75 := by decide
theorem RV_7_0 : RV 7 0 = 81 := by decide
theorem RV_7_1 : RV 7 1 = 87 := by decide
theorem RV_8_0 : RV 8 0 = 9 := by decide
theorem RV_8_5 : RV 8 5 = 10 := by decide
theorem RV_8_6 : RV 8 6 = 11 := by decide
theorem RV_12_1 : RV 12 1 = 13 := by decide
theorem RV_12_2 : RV 12 2 = 14 := by decide
theorem RV_12_3 : RV 12 3 = 20 := by decide
theorem RV_14_0 : RV 14 0 = 15 := by decide
theorem RV_14_1 : RV 14 1 = 16 := by decide
theorem RV_14_2 : RV 14 2 = 17 := by decide
theorem RV_14_3 : RV 14 3 = 18 := by decide
theorem RV_14_4 : RV 14 4 = 19 := by decide
theorem RV_21_2 : RV 21 2 = 22 := by decide
theorem RV_21_5 : RV 21 5 = 23 := by decide
theorem RV_21_6 : RV 21 6 = 24 := by decide
theorem RV_21_7 : RV 21 7 = 25 := by decide
theorem RV_21_8 : RV 21 8 = 26 := by decide
theorem RV_27_2 : RV 27 2 = 28 := by decide
theorem RV_27_5 : RV 27 5 = 29 := by decide
theorem RV_27_6 : RV 27 6 = 30 := by decide
theorem RV_27_7 : RV 27 7 = 31 := by decide
theorem RV_27_8 : RV 27 8 = 32 := by decide
theorem RV_33_2 : RV 33 2 = 34 := by decide
theorem RV_33_5 : RV 33 5 = 35 := by decide
theorem RV_33_6 : RV 33 6 = 36 := by decide
theorem RV_33_7 : RV 33 7 = 37 := by decide
theorem RV_33_8 : RV 33 8 = 38 := by decide
theorem RV_39_2 : RV 39 2 = 40 := by decide
theorem RV_39_5 : RV 39 5 = 41 := by decide
theorem RV_39_6 : RV 39 6 = 42 := by decide
theorem RV_39_7 : RV 39 7 = 43 := by decide
theorem RV_39_8 : RV 39 8 = 44 := by decide
theorem RV_45_2 : RV 45 2 = 46 := by decide
theorem RV_45_5 : RV 45 5 = 47 := by decide
theorem RV_45_6 : RV 45 6 = 48 := by decide
theorem RV_45_7 : RV 45 7 = 49 := by decide
theorem RV_45_8 : RV 45 8 = 50 := by decide
theorem RV_51_2 : RV 51 2 = 52 := by decide
theorem RV_51_5 : RV 51 5 = 53 := by decide
theorem RV_51_6 : RV 51 6 = 54 := by decide
theorem RV_51_7 : RV 51 7 = 55 := by decide
theorem RV_51_8 : RV 51 8 = 56 := by decide
theorem RV_57_2 : RV 57 2 = 58 := by decide
theorem RV_57_5 : RV 57 5 = 59 := by decide
theorem RV_57_6 : RV 57 6 = 60 := by decide
theorem RV_57_7 : RV 57 7 = 61 := by decide
theorem RV_57_8 : RV 57 8 = 62 := by decide
theorem RV_63_2 : RV 63 2 = 64 := by decide
theorem RV_63_5 : RV 63 5 = 65 := by decide
theorem RV_63_6 : RV 63 6 = 66 := by decide
theorem RV_63_7 : RV 63 7 = 67 := by decide
theorem RV_63_8 : RV 63 8 = 68 := by decide
theorem RV_69_2 : RV 69 2 = 70 := by decide
theorem RV_69_5 : RV 69 5 = 71 := by decide
theorem RV_69_6 : RV 69 6 = 72 := by decide
theorem RV_69_7 : RV 69 7 = 73 := by decide
theorem RV_69_8 : RV 69 8 = 74 := by decide
theorem RV_75_2 : RV 75 2 = 76 := by decide
theorem RV_75_5 : RV 75 5 = 77 := by decide
theorem RV_75_6 : RV 75 6 = 78 := by decide
theorem RV_75_7 : RV 75 7 = 79 := by decide
theorem RV_75_8 : RV 75 8 = 80 := by decide
theorem RV_81_2 : RV 81 2 = 82 := by decide
theorem RV_81_5 : RV 81 5 = 83 := by decide
theorem RV_81_6 : RV 81 6 = 84 := by decide
theorem RV_81_7 : RV 81 7 = 85 := by decide
theorem RV_81_8 : RV 81 8 = 86 := by decide
theorem RV_87_2 : RV 87 2 = 88 := by decide
theorem RV_87_5 : RV 87 5 = 89 := by decide
theorem RV_87_6 : RV 87 6 = 90 := by decide
theorem RV_87_7 : RV 87 7 = 91 := by decide
theorem RV_87_8 : RV 87 8 = 92 := by decide
theorem RV_93_1 : RV 93 1 = 94 := by decide
theorem RV_93_13 : RV 93 13 = 95 := by decide
theorem RV_93_14 : RV 93 14 = 96 := by decide
theorem RV_93_15 : RV 93 15 = 97 := by decide
theorem RV_93_16 : RV 93 16 = 98 := by decide
theorem RV_93_17 : RV 93 17 = 99 := by decide
theorem RV_93_18 : RV 93 18 = 100 := by decide
theorem RV_93_19 : RV 93 19 = 101 := by decide
theorem RV_93_20 : RV 93 20 = 102 := by decide
theorem RV_93_23 : RV 93 23 = 103 := by decide
theorem RV_93_24 : RV 93 24 = 104 := by decide
theorem RV_93_27 : RV 93 27 = 105 := by decide
theorem RV_93_28 : RV 93 28 = 106 := by decide
theorem RV_93_29 : RV 93 29 = 107 := by decide
section
variable {d : Nat} {lv : LV} {st : List Value} {h : Hp} {Q : Option (Option Value) → Hp → Prop} {x y i : Int32} {u w : Int64} {a a2 : Nat} {a0 a1 a2v a3 a4 a5 a6 a7 a8 a9 a10 a11 a12 a13 a14 a15 a16 a17 a18 a19 a20 : Option Value}
theorem S0_0 : WP d 0 0 (some (.ref a) :: lv) st h Q ↔ WP d 0 1 (some (.ref a) :: lv) (.ref a :: st) h Q := WP_st rfl
theorem S0_1 (hs : shp a = some (0, 0)) : WP d 0 1 lv (.ref a :: st) h Q ↔ WP d 0 4 lv (.ref (RV a 0) :: st) h Q := WP_getR (r := 0) rfl hs (by decide)
theorem S0_4 : WP d 0 4 (some (.ref a) :: lv) st h Q ↔ WP d 0 5 (some (.ref a) :: lv) (.ref a :: st) h Q := WP_st rfl
theorem S0_5 (hs : shp a = some (0, 0)) : WP d 0 5 lv (.ref a :: st) h Q ↔ WP d 0 8 lv (.int (h.1 a 1) :: st) h Q := WP_getI (r := 1) rfl hs (by decide)
theorem S0_8 (hi : okR a i) : WP d 0 8 lv (.int i :: .ref a :: st) h Q ↔ WP d 0 9 lv (.ref (RV a i.toNatClampNeg) :: st) h Q := WP_aald rfl hi
theorem S0_9 : WP d 0 9 (a0 :: some (.ref a) :: lv) st h Q ↔ WP d 0 10 (a0 :: some (.ref a) :: lv) (.ref a :: st) h Q := WP_st rfl
theorem S0_10 {pr0 : Nat} {pr1 : Nat} (hs : shp pr0 = some (0, 3)) : WP (d + 1) 0 10 lv [.ref pr1, .ref pr0] h Q ↔ WP d 25 0 [some (.ref pr0), some (.ref pr1), none] [] h (kV (d + 1) 0 13 lv [] Q) := WP_callVV rfl rfl rfl rfl rfl hs
theorem S0_13 : WP d 0 13 (some (.ref a) :: lv) st h Q ↔ WP d 0 14 (some (.ref a) :: lv) (.ref a :: st) h Q := WP_st rfl
theorem S0_14 : WP d 0 14 (some (.ref a) :: lv) st h Q ↔ WP d 0 15 (some (.ref a) :: lv) (.ref a :: st) h Q := WP_st rfl
theorem S0_15 (hs : shp a = some (0, 0)) : WP d 0 15 lv (.ref a :: st) h Q ↔ WP d 0 18 lv (.int (h.1 a 1) :: st) h Q := WP_getI (r := 1) rfl hs (by decide)
theorem S0_18 : WP d 0 18 lv st h Q ↔ WP d 0 19 lv (.int 1 :: st) h Q := WP_st rfl
theorem S0_19 : WP d 0 19 lv (.int y :: .int x :: st) h Q ↔ WP d 0 20 lv (.int (x + y) :: st) h Q := WP_st rfl
theorem S0_20 : WP d 0 20 lv st h Q ↔ WP d 0 22 lv (.int 8 :: st) h Q := WP_st rfl
theorem S0_22 (hy : y ≠ 0) : WP d 0 22 lv (.int y :: .int x :: st) h Q ↔ WP d 0 23 lv (.int (x - x / y * y) :: st) h Q := WP_irem rfl hy
theorem S0_23 (hs : shp a = some (0, 0)) : WP d 0 23 lv (.int x :: .ref a :: st) h Q ↔ WP d 0 26 lv st (setI h a 1 x) Q := WP_putI (r := 1) rfl hs (by decide)
theorem S0_26 : WP d 0 26 (some (.ref a) :: lv) st h Q ↔ WP d 0 27 (some (.ref a) :: lv) (.ref a :: st) h Q := WP_st rfl
theorem S0_27 : WP d 0 27 (some (.ref a) :: lv) st h Q ↔ WP d 0 28 (some (.ref a) :: lv) (.ref a :: st) h Q := WP_st rfl
theorem S0_28 (hs : shp a = some (0, 0)) : WP d 0 28 lv (.ref a :: st) h Q ↔ WP d 0 31 lv (.int (h.1 a 2) :: st) h Q := WP_getI (r := 2) rfl hs (by decide)
theorem S0_31 : WP d 0 31 lv st h Q ↔ WP d 0 32 lv (.int 1 :: st) h Q := WP_st rfl
theorem S0_32 : WP d 0 32 lv (.int y :: .int x :: st) h Q ↔ WP d 0 33 lv (.int (x + y) :: st) h Q := WP_st rfl
theorem S0_33 : WP d 0 33 lv st h Q ↔ WP d 0 35 lv (.int 8 :: st) h Q := WP_st rfl
theorem S0_35 {pi0 : Int32} {pi1 : Int32} {qr0 : Nat} : WP (d + 1) 0 35 lv [.int pi1, .int pi0, .ref qr0] h Q ↔ WP d 204 0 [some (.int pi0), some (.int pi1)] [] h (kR (d + 1) 0 38 lv [.ref qr0] Q) := WP_callSR rfl rfl rfl rfl rfl
theorem S0_38 (hs : shp a = some (0, 0)) : WP d 0 38 lv (.int x :: .ref a :: st) h Q ↔ WP d 0 41 lv st (setI h a 2 x) Q := WP_putI (r := 2) rfl hs (by decide)
theorem S0_41 : WP d 0 41 lv [] h Q ↔ Q (some none) h := WP_end rfl rfl rfl
theorem S1_0 : WP d 1 0 (some (.ref a) :: lv) st h Q ↔ WP d 1 1 (some (.ref a) :: lv) (.ref a :: st) h Q := WP_st rfl
theorem S1_1 (hs : shp a = some (0, 0)) : WP d 1 1 lv (.ref a :: st) h Q ↔ WP d 1 4 lv (.int (h.1 a 2) :: st) h Q := WP_getI (r := 2) rfl hs (by decide)
theorem S1_4 : WP d 1 4 lv (.int x :: st) h Q ↔ if 0 < x then WP d 1 8 lv st h Q else WP d 1 7 lv st h Q := WP_br rfl
theorem S1_7 : WP d 1 7 lv [] h Q ↔ Q (some none) h := WP_end rfl rfl rfl
theorem S1_8 : WP d 1 8 (some (.ref a) :: lv) st h Q ↔ WP d 1 9 (some (.ref a) :: lv) (.ref a :: st) h Q := WP_st rfl
theorem S1_9 : WP d 1 9 (some (.ref a) :: lv) st h Q ↔ WP d 1 10 (some (.ref a) :: lv) (.ref a :: st) h Q := WP_st rfl
theorem S1_10 (hs : shp a = some (0, 0)) : WP d 1 10 lv (.ref a :: st) h Q ↔ WP d 1 13 lv (.int (h.1 a 1) :: st) h Q := WP_getI (r := 1) rfl hs (by decide)
theorem S1_13 : WP d 1 13 lv st h Q ↔ WP d 1 15 lv (.int 8 :: st) h Q := WP_st rfl
theorem S1_15 : WP d 1 15 lv (.int y :: .int x :: st) h Q ↔ WP d 1 16 lv (.int (x + y) :: st) h Q := WP_st rfl
theorem S1_16 : WP d 1 16 lv st h Q ↔ WP d 1 17 lv (.int 1 :: st) h Q := WP_st rfl
theorem S1_17 : WP d 1 17 lv (.int y :: .int x :: st) h Q ↔ WP d 1 18 lv (.int (x - y) :: st) h Q := WP_st rfl
theorem S1_18 : WP d 1 18 lv st h Q ↔ WP d 1 20 lv (.int 8 :: st) h Q := WP_st rfl
theorem S1_20 (hy : y ≠ 0) : WP d 1 20 lv (.int y :: .int x :: st) h Q ↔ WP d 1 21 lv (.int (x - x / y * y) :: st) h Q := WP_irem rfl hy
theorem S1_21 (hs : shp a = some (0, 0)) : WP d 1 21 lv (.int x :: .ref a :: st) h Q ↔ WP d 1 24 lv st (setI h a 1 x) Q := WP_putI (r := 1) rfl hs (by decide)
theorem S1_24 : WP d 1 24 (some (.ref a) :: lv) st h Q ↔ WP d 1 25 (some (.ref a) :: lv) (.ref a :: st) h Q := WP_st rfl
theorem S1_25 : WP d 1 25 lv (.ref a :: st) h Q ↔ WP d 1 26 lv (.ref a :: .ref a :: st) h Q := WP_st rfl
theorem S1_26 (hs : shp a = some (0, 0)) : WP d 1 26 lv (.ref a :: st) h Q ↔ WP d 1 29 lv (.int (h.1 a 2) :: st) h Q := WP_getI (r := 2) rfl hs (by decide)
theorem S1_29 : WP d 1 29 lv st h Q ↔ WP d 1 30 lv (.int 1 :: st) h Q := WP_st rfl
theorem S1_30 : WP d 1 30 lv (.int y :: .int x :: st) h Q ↔ WP d 1 31 lv (.int (x - y) :: st) h Q := WP_st rfl
theorem S1_31 (hs : shp a = some (0, 0)) : WP d 1 31 lv (.int x :: .ref a :: st) h Q ↔ WP d 1 34 lv st (setI h a 2 x) Q := WP_putI (r := 2) rfl hs (by decide)
theorem S1_34 : WP d 1 34 (a0 :: some (.ref a) :: lv) st h Q ↔ WP d 1 35 (a0 :: some (.ref a) :: lv) (.ref a :: st) h Q := WP_st rfl
theorem S1_35 : WP d 1 35 (some (.ref a) :: lv) st h Q ↔ WP d 1 36 (some (.ref a) :: lv) (.ref a :: st) h Q := WP_st rfl
theorem S1_36 (hs : shp a = some (0, 0)) : WP d 1 36 lv (.ref a :: st) h Q ↔ WP d 1 39 lv (.ref (RV a 0) :: st) h Q := WP_getR (r := 0) rfl hs (by decide)
theorem S1_39 : WP d 1 39 (some (.ref a) :: lv) st h Q ↔ WP d 1 40 (some (.ref a) :: lv) (.ref a :: st) h Q := WP_st rfl
theorem S1_40 (hs : shp a = some (0, 0)) : WP d 1 40 lv (.ref a :: st) h Q ↔ WP d 1 43 lv (.int (h.1 a 1) :: st) h Q := WP_getI (r := 1) rfl hs (by decide)
theorem S1_43 (hi : okR a i) : WP d 1 43 lv (.int i :: .ref a :: st) h Q ↔ WP d 1 44 lv (.ref (RV a i.toNatClampNeg) :: st) h Q := WP_aald rfl hi
theorem S1_44 {pr0 : Nat} {pr1 : Nat} (hs : shp pr0 = some (0, 3)) : WP (d + 1) 1 44 lv [.ref pr1, .ref pr0] h Q ↔ WP d 25 0 [some (.ref pr0), some (.ref pr1), none] [] h (kV (d + 1) 1 47 lv [] Q) := WP_callVV rfl rfl rfl rfl rfl hs
theorem S1_47 : WP d 1 47 lv [] h Q ↔ Q (some none) h := WP_end rfl rfl rfl
theorem S2_0 : WP d 2 0 (some (.ref a) :: lv) st h Q ↔ WP d 2 1 (some (.ref a) :: lv) (.ref a :: st) h Q := WP_st rfl
theorem S2_1 : WP d 2 1 lv st h Q ↔ WP d 2 2 lv (.int 0 :: st) h Q := WP_st rfl
theorem S2_2 (hs : shp a = some (0, 0)) : WP d 2 2 lv (.int x :: .ref a :: st) h Q ↔ WP d 2 5 lv st (setI h a 2 x) Q := WP_putI (r := 2) rfl hs (by decide)
theorem S2_5 : WP d 2 5 lv [] h Q ↔ Q (some none) h := WP_end rfl rfl rfl
theorem S3_0 : WP d 3 0 (some (.ref a) :: lv) st h Q ↔ WP d 3 1 (some (.ref a) :: lv) (.ref a :: st) h Q := WP_st rfl
theorem S3_1 : WP d 3 1 (a0 :: some (.ref a) :: lv) st h Q ↔ WP d 3 2 (a0 :: some (.ref a) :: lv) (.ref a :: st) h Q := WP_st rfl
theorem S3_2 : WP d 3 2 (a0 :: a1 :: some (.ref a) :: lv) st h Q ↔ WP d 3 3 (a0 :: a1 :: some (.ref a) :: lv) (.ref a :: st) h Q := WP_st rfl
theorem S3_3 {pr0 : Nat} {pr1 : Nat} {pr2 : Nat} (hs : shp pr0 = some (0, 1)) : WP (d + 1) 3 3 lv [.ref pr2, .ref pr1, .ref pr0] h Q ↔ WP d 14 0 [some (.ref pr0), some (.ref pr1), some (.ref pr2), none, none] [] h (kV (d + 1) 3 6 lv [] Q) := WP_callVV rfl rfl rfl rfl rfl hs
theorem S3_6 : WP d 3 6 lv st h Q ↔ WP d 3 7 lv (.int 0 :: st) h Q := WP_st rfl
theorem S3_7 : WP d 3 7 (a0 :: a1 :: a2v :: a3 :: lv) (.int x :: st) h Q ↔ WP d 3 8 (a0 :: a1 :: kl a2v :: some (.int x) :: lv) st h Q := WP_st (by rfl)
theorem S3_8 : WP d 3 8 (a0 :: a1 :: a2v :: some (.int x) :: lv) st h Q ↔ WP d 3 9 (a0 :: a1 :: a2v :: some (.int x) :: lv) (.int x :: st) h Q := WP_st rfl
theorem S3_9 : WP d 3 9 lv st h Q ↔ WP d 3 10 lv (.int 5 :: st) h Q := WP_st rfl
theorem S3_10 : WP d 3 10 lv (.int y :: .int x :: st) h Q ↔ if y ≤ x then WP d 3 56 lv st h Q else WP d 3 13 lv st h Q := WP_br rfl
theorem S3_13 : WP d 3 13 lv st h Q ↔ WP d 3 14 lv (.int 0 :: st) h Q := WP_st rfl
theorem S3_14 : WP d 3 14 (a0 :: a1 :: a2v :: a3 :: a4 :: lv) (.int x :: st) h Q ↔ WP d 3 16 (a0 :: a1 :: a2v :: kl a3 :: some (.int x) :: lv) st h Q := WP_st (by rfl)
theorem S3_16 : WP d 3 16 (a0 :: a1 :: a2v :: a3 :: some (.int x) :: lv) st h Q ↔ WP d 3 18 (a0 :: a1 :: a2v :: a3 :: some (.int x) :: lv) (.int x :: st) h Q := WP_st rfl
theorem S3_18 : WP d 3 18 lv st h Q ↔ WP d 3 20 lv (.int 11 :: st) h Q := WP_st rfl
theorem S3_20 : WP d 3 20 lv (.int y :: .int x :: st) h Q ↔ if y ≤ x then WP d 3 39 lv st h Q else WP d 3 23 lv st h Q := WP_br rfl
theorem S3_23 : WP d 3 23 (some (.ref a) :: lv) st h Q ↔ WP d 3 24 (some (.ref a) :: lv) (.ref a :: st) h Q := WP_st rfl
theorem S3_24 (hs : shp a = some (0, 1)) : WP d 3 24 lv (.ref a :: st) h Q ↔ WP d 3 27 lv (.ref (RV a 2) :: st) h Q := WP_getR (r := 66) rfl hs (by decide)
theorem S3_27 : WP d 3 27 (a0 :: a1 :: a2v :: some (.int x) :: lv) st h Q ↔ WP d 3 28 (a0 :: a1 :: a2v :: some (.int x) :: lv) (.int x :: st) h Q := WP_st rfl
theorem S3_28 (hi : okR a i) : WP d 3 28 lv (.int i :: .ref a :: st) h Q ↔ WP d 3 29 lv (.ref (RV a i.toNatClampNeg) :: st) h Q := WP_aald rfl hi
theorem S3_29 : WP d 3 29 (a0 :: a1 :: a2v :: a3 :: some (.int x) :: lv) st h Q ↔ WP d 3 31 (a0 :: a1 :: a2v :: a3 :: some (.int x) :: lv) (.int x :: st) h Q := WP_st rfl
theorem S3_31 : WP d 3 31 lv st h Q ↔ WP d 3 32 lv (.long 0 :: st) h Q := WP_st rfl
theorem S3_32 (hi : okA 4 a i) : WP d 3 32 lv (.long u :: .int i :: .ref a :: st) h Q ↔ WP d 3 33 lv st (setL h a i.toNatClampNeg u) Q := WP_last rfl hi
theorem S3_33 : WP d 3 33 (a0 :: a1 :: a2v :: a3 :: some (.int x) :: lv) st h Q ↔ WP d 3 36 (a0 :: a1 :: a2v :: kl a3 :: some (.int (x + 1)) :: lv) st h Q := WP_st (by rfl)
theorem S3_36 : WP d 3 36 lv st h Q ↔ WP d 3 16 lv st h Q := WP_st rfl
theorem S3_39 : WP d 3 39 (some (.ref a) :: lv) st h Q ↔ WP d 3 40 (some (.ref a) :: lv) (.ref a :: st) h Q := WP_st rfl
theorem S3_40 (hs : shp a = some (0, 1)) : WP d 3 40 lv (.ref a :: st) h Q ↔ WP d 3 43 lv (.ref (RV a 2) :: st) h Q := WP_getR (r := 66) rfl hs (by decide)
theorem S3_43 : WP d 3 43 (a0 :: a1 :: a2v :: some (.int x) :: lv) st h Q ↔ WP d 3 44 (a0 :: a1 :: a2v :: some (.int x) :: lv) (.int x :: st) h Q := WP_st rfl
theorem S3_44 (hi : okR a i) : WP d 3 44 lv (.int i :: .ref a :: st) h Q ↔ WP d 3 45 lv (.ref (RV a i.toNatClampNeg) :: st) h Q := WP_aald rfl hi
theorem S3_45 : WP d 3 45 lv st h Q ↔ WP d 3 46 lv (.int 5 :: st) h Q := WP_st rfl
theorem S3_46 : WP d 3 46 (a0 :: a1 :: a2v :: some (.int x) :: lv) st h Q ↔ WP d 3 47 (a0 :: a1 :: a2v :: some (.int x) :: lv) (.int x :: st) h Q := WP_st rfl
theorem S3_47 : WP d 3 47 lv (.int y :: .int x :: st) h Q ↔ WP d 3 48 lv (.int (x + y) :: st) h Q := WP_st rfl
theorem S3_48 : WP d 3 48 lv st h Q ↔ WP d 3 49 lv (.long 1 :: st) h Q := WP_st rfl
theorem S3_49 (hi : okA 4 a i) : WP d 3 49 lv (.long u :: .int i :: .ref a :: st) h Q ↔ WP d 3 50 lv st (setL h a i.toNatClampNeg u) Q := WP_last rfl hi
theorem S3_50 : WP d 3 50 (a0 :: a1 :: a2v :: some (.int x) :: lv) st h Q ↔ WP d 3 53 (a0 :: a1 :: kl a2v :: some (.int (x + 1)) :: lv) st h Q := WP_st (by rfl)
theorem S3_53 : WP d 3 53 lv st h Q ↔ WP d 3 8 lv st h Q := WP_st rfl
theorem S3_56 : WP d 3 56 lv st h Q ↔ WP d 3 57 lv (.int 0 :: st) h Q := WP_st rfl
theorem S3_57 : WP d 3 57 (a0 :: a1 :: a2v :: a3 :: lv) (.int x :: st) h Q ↔ WP d 3 58 (a0 :: a1 :: kl a2v :: some (.int x) :: lv) st h Q := WP_st (by rfl)
theorem S3_58 : WP d 3 58 (a0 :: a1 :: a2v :: some (.int x) :: lv) st h Q ↔ WP d 3 59 (a0 :: a1 :: a2v :: some (.int x) :: lv) (.int x :: st) h Q := WP_st rfl
theorem S3_59 : WP d 3 59 (a0 :: some (.ref a) :: lv) st h Q ↔ WP d 3 60 (a0 :: some (.ref a) :: lv) (.ref a :: st) h Q := WP_st rfl
theorem S3_60 (hs : shp a = some (0, 3)) : WP d 3 60 lv (.ref a :: st) h Q ↔ WP d 3 63 lv (.int (h.1 a 3) :: st) h Q := WP_getI (r := 195) rfl hs (by decide)
theorem S3_63 : WP d 3 63 lv (.int y :: .int x :: st) h Q ↔ if y ≤ x then WP d 3 154 lv st h Q else WP d 3 66 lv st h Q := WP_br rfl
theorem S3_66 : WP d 3 66 (a0 :: some (.ref a) :: lv) st h Q ↔ WP d 3 67 (a0 :: some (.ref a) :: lv) (.ref a :: st) h Q := WP_st rfl
theorem S3_67 (hs : shp a = some (0, 3)) : WP d 3 67 lv (.ref a :: st) h Q ↔ WP d 3 70 lv (.int (h.1 a 4) :: st) h Q := WP_getI (r := 196) rfl hs (by decide)
theorem S3_70 : WP d 3 70 (a0 :: a1 :: a2v :: some (.int x) :: lv) st h Q ↔ WP d 3 71 (a0 :: a1 :: a2v :: some (.int x) :: lv) (.int x :: st) h Q := WP_st rfl
theorem S3_71 {pi0 : Int32} {pi1 : Int32} : WP (d + 1) 3 71 lv [.int pi1, .int pi0] h Q ↔ WP d 97 0 [some (.int pi0), some (.int pi1)] [] h (kR (d + 1) 3 74 lv [] Q) := WP_callSR rfl rfl rfl rfl rfl
theorem S3_74 : WP d 3 74 lv st h Q ↔ WP d 3 75 lv (.int 1 :: st) h Q := WP_st rfl
theorem S3_75 : WP d 3 75 lv (.int y :: .int x :: st) h Q ↔ if x = y then WP d 3 78 lv st h Q else WP d 3 148 lv st h Q := WP_br rfl
theorem S3_78 : WP d 3 78 (a0 :: some (.ref a) :: lv) st h Q ↔ WP d 3 79 (a0 :: some (.ref a) :: lv) (.ref a :: st) h Q := WP_st rfl
theorem S3_79 (hs : shp a = some (0, 3)) : WP d 3 79 lv (.ref a :: st) h Q ↔ WP d 3 82 lv (.ref (RV a 8) :: st) h Q := WP_getR (r := 200) rfl hs (by decide)
theorem S3_82 : WP d 3 82 (a0 :: a1 :: a2v :: some (.int x) :: lv) st h Q ↔ WP d 3 83 (a0 :: a1 :: a2v :: some (.int x) :: lv) (.int x :: st) h Q := WP_st rfl
theorem S3_83 (hi : okA 1 a i) : WP d 3 83 lv (.int i :: .ref a :: st) h Q ↔ WP d 3 84 lv (.int (h.1 a i.toNatClampNeg) :: st) h Q := WP_iald rfl hi
theorem S3_84 : WP d 3 84 lv (.int x :: st) h Q ↔ WP d 3 85 lv (.long x.toInt64 :: st) h Q := WP_st rfl
theorem S3_85 : WP d 3 85 (a0 :: some (.ref a) :: lv) st h Q ↔ WP d 3 86 (a0 :: some (.ref a) :: lv) (.ref a :: st) h Q := WP_st rfl
theorem S3_86 (hs : shp a = some (0, 3)) : WP d 3 86 lv (.ref a :: st) h Q ↔ WP d 3 89 lv (.ref (RV a 7) :: st) h Q := WP_getR (r := 199) rfl hs (by decide)
theorem S3_89 : WP d 3 89 (a0 :: a1 :: a2v :: some (.int x) :: lv) st h Q ↔ WP d 3 90 (a0 :: a1 :: a2v :: some (.int x) :: lv) (.int x :: st) h Q := WP_st rfl
theorem S3_90 (hi : okA 1 a i) : WP d 3 90 lv (.int i :: .ref a :: st) h Q ↔ WP d 3 91 lv (.int (h.1 a i.toNatClampNeg) :: st) h Q := WP_iald rfl hi
theorem S3_91 : WP d 3 91 lv (.int x :: st) h Q ↔ WP d 3 92 lv (.long x.toInt64 :: st) h Q := WP_st rfl
theorem S3_92 : WP d 3 92 lv (.long w :: .long u :: st) h Q ↔ WP d 3 93 lv (.long (u * w) :: st) h Q := WP_st rfl
theorem S3_93 : WP d 3 93 (a0 :: a1 :: a2v :: a3 :: a4 :: a5 :: lv) (.long u :: st) h Q ↔ WP d 3 95 (a0 :: a1 :: a2v :: kl a3 :: some (.long u) :: none :: lv) st h Q := WP_st (by rfl)
theorem S3_95 : WP d 3 95 (some (.ref a) :: lv) st h Q ↔ WP d 3 96 (some (.ref a) :: lv) (.ref a :: st) h Q := WP_st rfl
theorem S3_96 : WP d 3 96 (a0 :: some (.ref a) :: lv) st h Q ↔ WP d 3 97 (a0 :: some (.ref a) :: lv) (.ref a :: st) h Q := WP_st rfl
theorem S3_97 : WP d 3 97 (a0 :: some (.ref a) :: lv) st h Q ↔ WP d 3 98 (a0 :: some (.ref a) :: lv) (.ref a :: st) h Q := WP_st rfl
theorem S3_98 (hs : shp a = some (0, 3)) : WP d 3 98 lv (.ref a :: st) h Q ↔ WP d 3 101 lv (.ref (RV a 5) :: st) h Q := WP_getR (r := 197) rfl hs (by decide)
theorem S3_101 : WP d 3 101 (a0 :: a1 :: a2v :: some (.int x) :: lv) st h Q ↔ WP d 3 102 (a0 :: a1 :: a2v :: some (.int x) :: lv) (.int x :: st) h Q := WP_st rfl
theorem S3_102 (hi : okA 1 a i) : WP d 3 102 lv (.int i :: .ref a :: st) h Q ↔ WP d 3 103 lv (.int (h.1 a i.toNatClampNeg) :: st) h Q := WP_iald rfl hi
theorem S3_103 : WP d 3 103 (a0 :: some (.ref a) :: lv) st h Q ↔ WP d 3 104 (a0 :: some (.ref a) :: lv) (.ref a :: st) h Q := WP_st rfl
theorem S3_104 (hs : shp a = some (0, 3)) : WP d 3 104 lv (.ref a :: st) h Q ↔ WP d 3 107 lv (.ref (RV a 6) :: st) h Q := WP_getR (r := 198) rfl hs (by decide)
theorem S3_107 : WP d 3 107 (a0 :: a1 :: a2v :: some (.int x) :: lv) st h Q ↔ WP d 3 108 (a0 :: a1 :: a2v :: some (.int x) :: lv) (.int x :: st) h Q := WP_st rfl
theorem S3_108 (hi : okA 1 a i) : WP d 3 108 lv (.int i :: .ref a :: st) h Q ↔ WP d 3 109 lv (.int (h.1 a i.toNatClampNeg) :: st) h Q := WP_iald rfl hi
theorem S3_109 : WP d 3 109 (a0 :: some (.ref a) :: lv) st h Q ↔ WP d 3 110 (a0 :: some (.ref a) :: lv) (.ref a :: st) h Q := WP_st rfl
theorem S3_110 (hs : shp a = some (0, 3)) : WP d 3 110 lv (.ref a :: st) h Q ↔ WP d 3 113 lv (.ref (RV a 8) :: st) h Q := WP_getR (r := 200) rfl hs (by decide)
theorem S3_113 : WP d 3 113 (a0 :: a1 :: a2v :: some (.int x) :: lv) st h Q ↔ WP d 3 114 (a0 :: a1 :: a2v :: some (.int x) :: lv) (.int x :: st) h Q := WP_st rfl
theorem S3_114 (hi : okA 1 a i) : WP d 3 114 lv (.int i :: .ref a :: st) h Q ↔ WP d 3 115 lv (.int (h.1 a i.toNatClampNeg) :: st) h Q := WP_iald rfl hi
theorem S3_115 : WP d 3 115 lv (.int x :: st) h Q ↔ WP d 3 116 lv (.long x.toInt64 :: st) h Q := WP_st rfl
theorem S3_116 : WP d 3 116 (a0 :: a1 :: a2v :: a3 :: some (.long u) :: lv) st h Q ↔ WP d 3 118 (a0 :: a1 :: a2v :: a3 :: some (.long u) :: lv) (.long u :: st) h Q := WP_st rfl
theorem S3_118 : WP d 3 118 lv (.long u :: st) h Q ↔ WP d 3 119 lv (.long (-u) :: st) h Q := WP_st rfl
theorem S3_119 {pr0 : Nat} {pr1 : Nat} {pi0 : Int32} {pi1 : Int32} {pj0 : Int64} {pj1 : Int64} (hs : shp pr0 = some (0, 1)) : WP (d + 1) 3 119 lv [.long pj1, .long pj0, .int pi1, .int pi0, .ref pr1, .ref pr0] h Q ↔ WP d 16 0 [some (.ref pr0), some (.ref pr1), some (.int pi0), some (.int pi1), some (.long pj0), none, some (.long pj1), none, none] [] h (kV (d + 1) 3 122 lv [] Q) := WP_callVV rfl rfl rfl rfl rfl hs
theorem S3_122 : WP d 3 122 (some (.ref a) :: lv) st h Q ↔ WP d 3 123 (some (.ref a) :: lv) (.ref a :: st) h Q := WP_st rfl
theorem S3_123 : WP d 3 123 (a0 :: some (.ref a) :: lv) st h Q ↔ WP d 3 124 (a0 :: some (.ref a) :: lv) (.ref a :: st) h Q := WP_st rfl
theorem S3_124 : WP d 3 124 (a0 :: some (.ref a) :: lv) st h Q ↔ WP d 3 125 (a0 :: some (.ref a) :: lv) (.ref a :: st) h Q := WP_st rfl
theorem S3_125 (hs : shp a = some (0, 3)) : WP d 3 125 lv (.ref a :: st) h Q ↔ WP d 3 128 lv (.ref (RV a 6) :: st) h Q := WP_getR (r := 198) rfl hs (by decide)
theorem S3_128 : WP d 3 128 (a0 :: a1 :: a2v :: some (.int x) :: lv) st h Q ↔ WP d 3 129 (a0 :: a1 :: a2v :: some (.int x) :: lv) (.int x :: st) h Q := WP_st rfl
set_option maxRecDepth 20000 in
theorem S3_129 (hi : okA 1 a i) : WP d 3 129 lv (.int i :: .ref a :: st) h Q ↔ WP d 3 130 lv (.int (h.1 a i.toNatClampNeg) :: st) h Q := WP_iald rfl hi
set_option maxRecDepth 20000 in
theorem S3_130 : WP d 3 130 (a0 :: some (.ref a) :: lv) st h Q ↔ WP d 3 131 (a0 :: some (.ref a) :: lv) (.ref a :: st) h Q := WP_st rfl
set_option maxRecDepth 20000 in
theorem S3_131 (hs : shp a = some (0, 3)) : WP d 3 131 lv (.ref a :: st) h Q ↔ WP d 3 134 lv (.ref (RV a 5) :: st) h Q := WP_getR (r := 197) rfl hs (by decide)
set_option maxRecDepth 20000 in
theorem S3_134 : WP d 3 134 (a0 :: a1 :: a2v :: some (.int x) :: lv) st h Q ↔ WP d 3 135 (a0 :: a1 :: a2v :: some (.int x) :: lv) (.int x :: st) h Q := WP_st rfl
set_option maxRecDepth 20000 in
theorem S3_135 (hi : okA 1 a i) : WP d 3 135 lv (.int i :: .ref a :: st) h Q ↔ WP d 3 136 lv (.int (h.1 a i.toNatClampNeg) :: st) h Q := WP_iald rfl hi
set_option maxRecDepth 20000 in
theorem S3_136 : WP d 3 136 (a0 :: some (.ref a) :: lv) st h Q ↔ WP d 3 137 (a0 :: some (.ref a) :: lv) (.ref a :: st) h Q := WP_st rfl
set_option maxRecDepth 20000 in
theorem S3_137 (hs : shp a = some (0, 3)) : WP d 3 137 lv (.ref a :: st) h Q ↔ WP d 3 140 lv (.ref (RV a 8) :: st) h Q := WP_getR (r := 200) rfl hs (by decide)
set_option maxRecDepth 20000 in
theorem S3_140 : WP d 3 140 (a0 :: a1 :: a2v :: some (.int x) :: lv) st h Q ↔ WP d 3 141 (a0 :: a1 :: a2v :: some (.int x) :: lv) (.int x :: st) h Q := WP_st rfl
set_option maxRecDepth 20000 in
theorem S3_141 (hi : okA 1 a i) : WP d 3 141 lv (.int i :: .ref a :: st) h Q ↔ WP d 3 142 lv (.int (h.1 a i.toNatClampNeg) :: st) h Q := WP_iald rfl hi
set_option maxRecDepth 20000 in
theorem S3_142 : WP d 3 142 lv (.int x :: st) h Q ↔ WP d 3 143 lv (.long x.toInt64 :: st) h Q := WP_st rfl
set_option maxRecDepth 20000 in
theorem S3_143 : WP d 3 143 (a0 :: a1 :: a2v :: a3 :: some (.long u) :: lv) st h Q ↔ WP d 3 145 (a0 :: a1 :: a2v :: a3 :: some (.long u) :: lv) (.long u :: st) h Q := WP_st rfl
set_option maxRecDepth 20000 in
theorem S3_145 {pr0 : Nat} {pr1 : Nat} {pi0 : Int32} {pi1 : Int32} {pj0 : Int64} {pj1 : Int64} (hs : shp pr0 = some (0, 1)) : WP (d + 1) 3 145 lv [.long pj1, .long pj0, .int pi1, .int pi0, .ref pr1, .ref pr0] h Q ↔ WP d 16 0 [some (.ref pr0), some (.ref pr1), some (.int pi0), some (.int pi1), some (.long pj0), none, some (.long pj1), none, none] [] h (kV (d + 1) 3 148 lv [] Q) := WP_callVV rfl rfl rfl rfl rfl hs
set_option maxRecDepth 20000 in
theorem S3_148 : WP d 3 148 (a0 :: a1 :: a2v :: some (.int x) :: lv) st h Q ↔ WP d 3 151 (a0 :: a1 :: kl a2v :: some (.int (x + 1)) :: lv) st h Q := WP_st (by rfl)
set_option maxRecDepth 20000 in
theorem S3_151 : WP d 3 151 lv st h Q ↔ WP d 3 58 lv st h Q := WP_st rfl
set_option maxRecDepth 20000 in
theorem S3_154 : WP d 3 154 (some (.ref a) :: lv) st h Q ↔ WP d 3 155 (some (.ref a) :: lv) (.ref a :: st) h Q := WP_st rfl
set_option maxRecDepth 20000 in
theorem S3_155 {pr0 : Nat} (hs : shp pr0 = some (0, 1)) : WP (d + 1) 3 155 lv [.ref pr0] h Q ↔ WP d 17 0 [some (.ref pr0), none, none, none, none] [] h (kV (d + 1) 3 158 lv [] Q) := WP_callVV rfl rfl rfl rfl rfl hs
set_option maxRecDepth 20000 in
theorem S3_158 : WP d 3 158 lv st h Q ↔ WP d 3 159 lv (.int 0 :: st) h Q := WP_st rfl
set_option maxRecDepth 20000 in
theorem S3_159 : WP d 3 159 (a0 :: a1 :: a2v :: a3 :: lv) (.int x :: st) h Q ↔ WP d 3 160 (a0 :: a1 :: kl a2v :: some (.int x) :: lv) st h Q := WP_st (by rfl)
set_option maxRecDepth 20000 in
theorem S3_160 : WP d 3 160 (a0 :: a1 :: a2v :: some (.int x) :: lv) st h Q ↔ WP d 3 161 (a0 :: a1 :: a2v :: some (.int x) :: lv) (.int x :: st) h Q := WP_st rfl
set_option maxRecDepth 20000 in
theorem S3_161 : WP d 3 161 (a0 :: some (.ref a) :: lv) st h Q ↔ WP d 3 162 (a0 :: some (.ref a) :: lv) (.ref a :: st) h Q := WP_st rfl
set_option maxRecDepth 20000 in
theorem S3_162 (hs : shp a = some (0, 3)) : WP d 3 162 lv (.ref a :: st) h Q ↔ WP d 3 165 lv (.int (h.1 a 0) :: st) h Q := WP_getI (r := 192) rfl hs (by decide)
set_option maxRecDepth 20000 in
theorem S3_165 : WP d 3 165 lv (.int y :: .int x :: st) h Q ↔ if y ≤ x then WP d 3 217 lv st h Q else WP d 3 168 lv st h Q := WP_br rfl
set_option maxRecDepth 20000 in
theorem S3_168 : WP d 3 168 (some (.ref a) :: lv) st h Q ↔ WP d 3 169 (some (.ref a) :: lv) (.ref a :: st) h Q := WP_st rfl
set_option maxRecDepth 20000 in
theorem S3_169 (hs : shp a = some (0, 1)) : WP d 3 169 lv (.ref a :: st) h Q ↔ WP d 3 172 lv (.ref (RV a 3) :: st) h Q := WP_getR (r := 67) rfl hs (by decide)
set_option maxRecDepth 20000 in
theorem S3_172 : WP d 3 172 (a0 :: a1 :: a2v :: some (.int x) :: lv) st h Q ↔ WP d 3 173 (a0 :: a1 :: a2v :: some (.int x) :: lv) (.int x :: st) h Q := WP_st rfl
set_option maxRecDepth 20000 in
theorem S3_173 : WP d 3 173 (some (.ref a) :: lv) st h Q ↔ WP d 3 174 (some (.ref a) :: lv) (.ref a :: st) h Q := WP_st rfl
set_option maxRecDepth 20000 in
theorem S3_174 (hs : shp a = some (0, 1)) : WP d 3 174 lv (.ref a :: st) h Q ↔ WP d 3 177 lv (.ref (RV a 1) :: st) h Q := WP_getR (r := 65) rfl hs (by decide)
set_option maxRecDepth 20000 in
theorem S3_177 : WP d 3 177 (a0 :: a1 :: a2v :: some (.int x) :: lv) st h Q ↔ WP d 3 178 (a0 :: a1 :: a2v :: some (.int x) :: lv) (.int x :: st) h Q := WP_st rfl
set_option maxRecDepth 20000 in
theorem S3_178 (hi : okA 1 a i) : WP d 3 178 lv (.int i :: .ref a :: st) h Q ↔ WP d 3 179 lv (.int (h.1 a i.toNatClampNeg) :: st) h Q := WP_iald rfl hi
set_option maxRecDepth 20000 in
theorem S3_179 : WP d 3 179 lv st h Q ↔ WP d 3 180 lv (.int (-1) :: st) h Q := WP_st rfl
set_option maxRecDepth 20000 in
theorem S3_180 : WP d 3 180 lv (.int y :: .int x :: st) h Q ↔ if x = y then WP d 3 183 lv st h Q else WP d 3 196 lv st h Q := WP_br rfl
set_option maxRecDepth 20000 in
theorem S3_183 : WP d 3 183 (a0 :: some (.ref a) :: lv) st h Q ↔ WP d 3 184 (a0 :: some (.ref a) :: lv) (.ref a :: st) h Q := WP_st rfl
set_option maxRecDepth 20000 in
theorem S3_184 : WP d 3 184 (a0 :: a1 :: a2v :: some (.int x) :: lv) st h Q ↔ WP d 3 185 (a0 :: a1 :: a2v :: some (.int x) :: lv) (.int x :: st) h Q := WP_st rfl
set_option maxRecDepth 20000 in
theorem S3_185 {pr0 : Nat} {pi0 : Int32} {qr1 : Nat} {qi1 : Int32} : WP (d + 1) 3 185 lv [.int pi0, .ref pr0, .int qi1, .ref qr1] h Q ↔ WP d 15 0 [some (.ref pr0), some (.int pi0)] [] h (kR (d + 1) 3 188 lv [.int qi1, .ref qr1] Q) := WP_callSR rfl rfl rfl rfl rfl
set_option maxRecDepth 20000 in
theorem S3_188 : WP d 3 188 (some (.ref a) :: lv) st h Q ↔ WP d 3 189 (some (.ref a) :: lv) (.ref a :: st) h Q := WP_st rfl
set_option maxRecDepth 20000 in
theorem S3_189 (hs : shp a = some (0, 1)) : WP d 3 189 lv (.ref a :: st) h Q ↔ WP d 3 192 lv (.long (h.2.1 a 4) :: st) h Q := WP_getL (r := 68) rfl hs (by decide)
set_option maxRecDepth 20000 in
theorem S3_192 : WP d 3 192 lv (.long w :: .long u :: st) h Q ↔ WP d 3 193 lv (.long (u * w) :: st) h Q := WP_st rfl
set_option maxRecDepth 20000 in
theorem S3_193 : WP d 3 193 lv st h Q ↔ WP d 3 210 lv st h Q := WP_st rfl
set_option maxRecDepth 20000 in
theorem S3_196 : WP d 3 196 (some (.ref a) :: lv) st h Q ↔ WP d 3 197 (some (.ref a) :: lv) (.ref a :: st) h Q := WP_st rfl
set_option maxRecDepth 20000 in
theorem S3_197 (hs : shp a = some (0, 1)) : WP d 3 197 lv (.ref a :: st) h Q ↔ WP d 3 200 lv (.ref (RV a 2) :: st) h Q := WP_getR (r := 66) rfl hs (by decide)
set_option maxRecDepth 20000 in
theorem S3_200 : WP d 3 200 (some (.ref a) :: lv) st h Q ↔ WP d 3 201 (some (.ref a) :: lv) (.ref a :: st) h Q := WP_st rfl
set_option maxRecDepth 20000 in
theorem S3_201 (hs : shp a = some (0, 1)) : WP d 3 201 lv (.ref a :: st) h Q ↔ WP d 3 204 lv (.ref (RV a 1) :: st) h Q := WP_getR (r := 65) rfl hs (by decide)
set_option maxRecDepth 20000 in
theorem S3_204 : WP d 3 204 (a0 :: a1 :: a2v :: some (.int x) :: lv) st h Q ↔ WP d 3 205 (a0 :: a1 :: a2v :: some (.int x) :: lv) (.int x :: st) h Q := WP_st rfl
set_option maxRecDepth 20000 in
theorem S3_205 (hi : okA 1 a i) : WP d 3 205 lv (.int i :: .ref a :: st) h Q ↔ WP d 3 206 lv (.int (h.1 a i.toNatClampNeg) :: st) h Q := WP_iald rfl hi
set_option maxRecDepth 20000 in
theorem S3_206 (hi : okR a i) : WP d 3 206 lv (.int i :: .ref a :: st) h Q ↔ WP d 3 207 lv (.ref (RV a i.toNatClampNeg) :: st) h Q := WP_aald rfl hi
set_option maxRecDepth 20000 in
theorem S3_207 : WP d 3 207 lv st h Q ↔ WP d 3 209 lv (.int 10 :: st) h Q := WP_st rfl
set_option maxRecDepth 20000 in
theorem S3_209 (hi : okA 4 a i) : WP d 3 209 lv (.int i :: .ref a :: st) h Q ↔ WP d 3 210 lv (.long (h.2.1 a i.toNatClampNeg) :: st) h Q := WP_lald rfl hi
set_option maxRecDepth 20000 in
theorem S3_210 (hi : okA 4 a i) : WP d 3 210 lv (.long u :: .int i :: .ref a :: st) h Q ↔ WP d 3 211 lv st (setL h a i.toNatClampNeg u) Q := WP_last rfl hi
set_option maxRecDepth 20000 in
theorem S3_211 : WP d 3 211 (a0 :: a1 :: a2v :: some (.int x) :: lv) st h Q ↔ WP d 3 214 (a0 :: a1 :: kl a2v :: some (.int (x + 1)) :: lv) st h Q := WP_st (by rfl)
set_option maxRecDepth 20000 in
theorem S3_214 : WP d 3 214 lv st h Q ↔ WP d 3 160 lv st h Q := WP_st rfl
set_option maxRecDepth 20000 in
theorem S3_217 : WP d 3 217 lv [] h Q ↔ Q (some none) h := WP_end rfl rfl rfl
theorem S4_0 : WP d 4 0 (some (.ref a) :: lv) st h Q ↔ WP d 4 1 (some (.ref a) :: lv) (.ref a :: st) h Q := WP_st rfl
theorem S4_1 (hs : shp a = some (0, 1)) : WP d 4 1 lv (.ref a :: st) h Q ↔ WP d 4 4 lv (.ref (RV a 3) :: st) h Q := WP_getR (r := 67) rfl hs (by decide)
theorem S4_4 : WP d 4 4 (a0 :: some (.ref a) :: lv) st h Q ↔ WP d 4 5 (a0 :: some (.ref a) :: lv) (.ref a :: st) h Q := WP_st rfl
theorem S4_5 (hs : shp a = some (0, 3)) : WP d 4 5 lv (.ref a :: st) h Q ↔ WP d 4 8 lv (.ref (RV a 6) :: st) h Q := WP_getR (r := 198) rfl hs (by decide)
theorem S4_8 : WP d 4 8 (a0 :: a1 :: some (.int x) :: lv) st h Q ↔ WP d 4 9 (a0 :: a1 :: some (.int x) :: lv) (.int x :: st) h Q := WP_st rfl
theorem S4_9 (hi : okA 1 a i) : WP d 4 9 lv (.int i :: .ref a :: st) h Q ↔ WP d 4 10 lv (.int (h.1 a i.toNatClampNeg) :: st) h Q := WP_iald rfl hi
theorem S4_10 (hi : okA 4 a i) : WP d 4 10 lv (.int i :: .ref a :: st) h Q ↔ WP d 4 11 lv (.long (h.2.1 a i.toNatClampNeg) :: st) h Q := WP_lald rfl hi
theorem S4_11 : WP d 4 11 (some (.ref a) :: lv) st h Q ↔ WP d 4 12 (some (.ref a) :: lv) (.ref a :: st) h Q := WP_st rfl
theorem S4_12 (hs : shp a = some (0, 1)) : WP d 4 12 lv (.ref a :: st) h Q ↔ WP d 4 15 lv (.ref (RV a 3) :: st) h Q := WP_getR (r := 67) rfl hs (by decide)
theorem S4_15 : WP d 4 15 (a0 :: some (.ref a) :: lv) st h Q ↔ WP d 4 16 (a0 :: some (.ref a) :: lv) (.ref a :: st) h Q := WP_st rfl
theorem S4_16 (hs : shp a = some (0, 3)) : WP d 4 16 lv (.ref a :: st) h Q ↔ WP d 4 19 lv (.ref (RV a 5) :: st) h Q := WP_getR (r := 197) rfl hs (by decide)
theorem S4_19 : WP d 4 19 (a0 :: a1 :: some (.int x) :: lv) st h Q ↔ WP d 4 20 (a0 :: a1 :: some (.int x) :: lv) (.int x :: st) h Q := WP_st rfl
theorem S4_20 (hi : okA 1 a i) : WP d 4 20 lv (.int i :: .ref a :: st) h Q ↔ WP d 4 21 lv (.int (h.1 a i.toNatClampNeg) :: st) h Q := WP_iald rfl hi
theorem S4_21 (hi : okA 4 a i) : WP d 4 21 lv (.int i :: .ref a :: st) h Q ↔ WP d 4 22 lv (.long (h.2.1 a i.toNatClampNeg) :: st) h Q := WP_lald rfl hi
theorem S4_22 : WP d 4 22 lv (.long w :: .long u :: st) h Q ↔ WP d 4 23 lv (.long (u - w) :: st) h Q := WP_st rfl
theorem S4_23 : WP d 4 23 (a0 :: some (.ref a) :: lv) st h Q ↔ WP d 4 24 (a0 :: some (.ref a) :: lv) (.ref a :: st) h Q := WP_st rfl
theorem S4_24 (hs : shp a = some (0, 3)) : WP d 4 24 lv (.ref a :: st) h Q ↔ WP d 4 27 lv (.ref (RV a 7) :: st) h Q := WP_getR (r := 199) rfl hs (by decide)
theorem S4_27 : WP d 4 27 (a0 :: a1 :: some (.int x) :: lv) st h Q ↔ WP d 4 28 (a0 :: a1 :: some (.int x) :: lv) (.int x :: st) h Q := WP_st rfl
theorem S4_28 (hi : okA 1 a i) : WP d 4 28 lv (.int i :: .ref a :: st) h Q ↔ WP d 4 29 lv (.int (h.1 a i.toNatClampNeg) :: st) h Q := WP_iald rfl hi
theorem S4_29 : WP d 4 29 lv (.int x :: st) h Q ↔ WP d 4 30 lv (.long x.toInt64 :: st) h Q := WP_st rfl
theorem S4_30 : WP d 4 30 (some (.ref a) :: lv) st h Q ↔ WP d 4 31 (some (.ref a) :: lv) (.ref a :: st) h Q := WP_st rfl
theorem S4_31 (hs : shp a = some (0, 1)) : WP d 4 31 lv (.ref a :: st) h Q ↔ WP d 4 34 lv (.long (h.2.1 a 4) :: st) h Q := WP_getL (r := 68) rfl hs (by decide)
theorem S4_34 : WP d 4 34 lv (.long w :: .long u :: st) h Q ↔ WP d 4 35 lv (.long (u * w) :: st) h Q := WP_st rfl
theorem S4_35 : WP d 4 35 lv (.long w :: .long u :: st) h Q ↔ WP d 4 36 lv (.long (u - w) :: st) h Q := WP_st rfl
theorem S4_36 : WP d 4 36 lv [.long u] h Q ↔ Q (some (some (.long u))) h := WP_end rfl rfl rfl
theorem S5_0 : WP d 5 0 lv st h Q ↔ WP d 5 1 lv (.long 0 :: st) h Q := WP_st rfl
theorem S5_1 : WP d 5 1 (a0 :: a1 :: a2v :: a3 :: lv) (.long u :: st) h Q ↔ WP d 5 2 (a0 :: kl a1 :: some (.long u) :: none :: lv) st h Q := WP_st (by rfl)
theorem S5_2 : WP d 5 2 lv st h Q ↔ WP d 5 3 lv (.int 0 :: st) h Q := WP_st rfl
theorem S5_3 : WP d 5 3 (a0 :: a1 :: a2v :: a3 :: a4 :: lv) (.int x :: st) h Q ↔ WP d 5 5 (a0 :: a1 :: a2v :: kl a3 :: some (.int x) :: lv) st h Q := WP_st (by rfl)
theorem S5_5 : WP d 5 5 (a0 :: a1 :: a2v :: a3 :: some (.int x) :: lv) st h Q ↔ WP d 5 7 (a0 :: a1 :: a2v :: a3 :: some (.int x) :: lv) (.int x :: st) h Q := WP_st rfl
theorem S5_7 : WP d 5 7 (a0 :: some (.ref a) :: lv) st h Q ↔ WP d 5 8 (a0 :: some (.ref a) :: lv) (.ref a :: st) h Q := WP_st rfl
theorem S5_8 (hs : shp a = some (0, 3)) : WP d 5 8 lv (.ref a :: st) h Q ↔ WP d 5 11 lv (.int (h.1 a 3) :: st) h Q := WP_getI (r := 195) rfl hs (by decide)
theorem S5_11 : WP d 5 11 lv (.int y :: .int x :: st) h Q ↔ if y ≤ x then WP d 5 43 lv st h Q else WP d 5 14 lv st h Q := WP_br rfl
theorem S5_14 : WP d 5 14 (a0 :: some (.ref a) :: lv) st h Q ↔ WP d 5 15 (a0 :: some (.ref a) :: lv) (.ref a :: st) h Q := WP_st rfl
theorem S5_15 (hs : shp a = some (0, 3)) : WP d 5 15 lv (.ref a :: st) h Q ↔ WP d 5 18 lv (.int (h.1 a 4) :: st) h Q := WP_getI (r := 196) rfl hs (by decide)
theorem S5_18 : WP d 5 18 (a0 :: a1 :: a2v :: a3 :: some (.int x) :: lv) st h Q ↔ WP d 5 20 (a0 :: a1 :: a2v :: a3 :: some (.int x) :: lv) (.int x :: st) h Q := WP_st rfl
theorem S5_20 {pi0 : Int32} {pi1 : Int32} : WP (d + 1) 5 20 lv [.int pi1, .int pi0] h Q ↔ WP d 97 0 [some (.int pi0), some (.int pi1)] [] h (kR (d + 1) 5 23 lv [] Q) := WP_callSR rfl rfl rfl rfl rfl
theorem S5_23 : WP d 5 23 lv st h Q ↔ WP d 5 24 lv (.int 1 :: st) h Q := WP_st rfl
theorem S5_24 : WP d 5 24 lv (.int y :: .int x :: st) h Q ↔ if x = y then WP d 5 27 lv st h Q else WP d 5 37 lv st h Q := WP_br rfl
theorem S5_27 : WP d 5 27 (a0 :: a1 :: some (.long u) :: lv) st h Q ↔ WP d 5 28 (a0 :: a1 :: some (.long u) :: lv) (.long u :: st) h Q := WP_st rfl
theorem S5_28 : WP d 5 28 (some (.ref a) :: lv) st h Q ↔ WP d 5 29 (some (.ref a) :: lv) (.ref a :: st) h Q := WP_st rfl
theorem S5_29 : WP d 5 29 (a0 :: some (.ref a) :: lv) st h Q ↔ WP d 5 30 (a0 :: some (.ref a) :: lv) (.ref a :: st) h Q := WP_st rfl
theorem S5_30 : WP d 5 30 (a0 :: a1 :: a2v :: a3 :: some (.int x) :: lv) st h Q ↔ WP d 5 32 (a0 :: a1 :: a2v :: a3 :: some (.int x) :: lv) (.int x :: st) h Q := WP_st rfl
theorem S5_32 {pr0 : Nat} {pr1 : Nat} {pi0 : Int32} {qj0 : Int64} (hs : shp pr0 = some (0, 1)) : WP (d + 1) 5 32 lv [.int pi0, .ref pr1, .ref pr0, .long qj0] h Q ↔ WP d 13 0 [some (.ref pr0), some (.ref pr1), some (.int pi0), none, none] [] h (kR (d + 1) 5 35 lv [.long qj0] Q) := WP_callVR rfl rfl rfl rfl rfl hs
theorem S5_35 : WP d 5 35 lv (.long w :: .long u :: st) h Q ↔ WP d 5 36 lv (.long (u + w) :: st) h Q := WP_st rfl
theorem S5_36 : WP d 5 36 (a0 :: a1 :: a2v :: a3 :: lv) (.long u :: st) h Q ↔ WP d 5 37 (a0 :: kl a1 :: some (.long u) :: none :: lv) st h Q := WP_st (by rfl)
theorem S5_37 : WP d 5 37 (a0 :: a1 :: a2v :: a3 :: some (.int x) :: lv) st h Q ↔ WP d 5 40 (a0 :: a1 :: a2v :: kl a3 :: some (.int (x + 1)) :: lv) st h Q := WP_st (by rfl)
theorem S5_40 : WP d 5 40 lv st h Q ↔ WP d 5 5 lv st h Q := WP_st rfl
theorem S5_43 : WP d 5 43 (a0 :: a1 :: some (.long u) :: lv) st h Q ↔ WP d 5 44 (a0 :: a1 :: some (.long u) :: lv) (.long u :: st) h Q := WP_st rfl
theorem S5_44 : WP d 5 44 lv [.long u] h Q ↔ Q (some (some (.long u))) h := WP_end rfl rfl rfl
theorem S6_0 : WP d 6 0 (some (.ref a) :: lv) st h Q ↔ WP d 6 1 (some (.ref a) :: lv) (.ref a :: st) h Q := WP_st rfl
theorem S6_1 (hs : shp a = some (0, 1)) : WP d 6 1 lv (.ref a :: st) h Q ↔ WP d 6 4 lv (.long (h.2.1 a 4) :: st) h Q := WP_getL (r := 68) rfl hs (by decide)
theorem S6_4 : WP d 6 4 (a0 :: some (.ref a) :: lv) st h Q ↔ WP d 6 5 (a0 :: some (.ref a) :: lv) (.ref a :: st) h Q := WP_st rfl
theorem S6_5 (hs : shp a = some (0, 3)) : WP d 6 5 lv (.ref a :: st) h Q ↔ WP d 6 8 lv (.ref (RV a 8) :: st) h Q := WP_getR (r := 200) rfl hs (by decide)
theorem S6_8 : WP d 6 8 (a0 :: a1 :: some (.int x) :: lv) st h Q ↔ WP d 6 9 (a0 :: a1 :: some (.int x) :: lv) (.int x :: st) h Q := WP_st rfl
theorem S6_9 (hi : okA 1 a i) : WP d 6 9 lv (.int i :: .ref a :: st) h Q ↔ WP d 6 10 lv (.int (h.1 a i.toNatClampNeg) :: st) h Q := WP_iald rfl hi
theorem S6_10 : WP d 6 10 lv (.int x :: st) h Q ↔ WP d 6 11 lv (.long x.toInt64 :: st) h Q := WP_st rfl
theorem S6_11 : WP d 6 11 (some (.ref a) :: lv) st h Q ↔ WP d 6 12 (some (.ref a) :: lv) (.ref a :: st) h Q := WP_st rfl
theorem S6_12 : WP d 6 12 (a0 :: some (.ref a) :: lv) st h Q ↔ WP d 6 13 (a0 :: some (.ref a) :: lv) (.ref a :: st) h Q := WP_st rfl
theorem S6_13 (hs : shp a = some (0, 3)) : WP d 6 13 lv (.ref a :: st) h Q ↔ WP d 6 16 lv (.ref (RV a 5) :: st) h Q := WP_getR (r := 197) rfl hs (by decide)
theorem S6_16 : WP d 6 16 (a0 :: a1 :: some (.int x) :: lv) st h Q ↔ WP d 6 17 (a0 :: a1 :: some (.int x) :: lv) (.int x :: st) h Q := WP_st rfl
theorem S6_17 (hi : okA 1 a i) : WP d 6 17 lv (.int i :: .ref a :: st) h Q ↔ WP d 6 18 lv (.int (h.1 a i.toNatClampNeg) :: st) h Q := WP_iald rfl hi
theorem S6_18 : WP d 6 18 (a0 :: some (.ref a) :: lv) st h Q ↔ WP d 6 19 (a0 :: some (.ref a) :: lv) (.ref a :: st) h Q := WP_st rfl
theorem S6_19 (hs : shp a = some (0, 3)) : WP d 6 19 lv (.ref a :: st) h Q ↔ WP d 6 22 lv (.ref (RV a 6) :: st) h Q := WP_getR (r := 198) rfl hs (by decide)
theorem S6_22 : WP d 6 22 (a0 :: a1 :: some (.int x) :: lv) st h Q ↔ WP d 6 23 (a0 :: a1 :: some (.int x) :: lv) (.int x :: st) h Q := WP_st rfl
theorem S6_23 (hi : okA 1 a i) : WP d 6 23 lv (.int i :: .ref a :: st) h Q ↔ WP d 6 24 lv (.int (h.1 a i.toNatClampNeg) :: st) h Q := WP_iald rfl hi
theorem S6_24 {pr0 : Nat} {pi0 : Int32} {pi1 : Int32} {qj0 : Int64} {qj1 : Int64} (hs : shp pr0 = some (0, 1)) : WP (d + 1) 6 24 lv [.int pi1, .int pi0, .ref pr0, .long qj1, .long qj0] h Q ↔ WP d 11 0 [some (.ref pr0), some (.int pi0), some (.int pi1)] [] h (kR (d + 1) 6 27 lv [.long qj1, .long qj0] Q) := WP_callVR rfl rfl rfl rfl rfl hs
theorem S6_27 : WP d 6 27 lv (.long w :: .long u :: st) h Q ↔ WP d 6 28 lv (.long (u * w) :: st) h Q := WP_st rfl
theorem S6_28 : WP d 6 28 lv (.long w :: .long u :: st) h Q ↔ WP d 6 29 lv (.long (u - w) :: st) h Q := WP_st rfl
theorem S6_29 : WP d 6 29 lv [.long u] h Q ↔ Q (some (some (.long u))) h := WP_end rfl rfl rfl
theorem S7_0 : WP d 7 0 (some (.ref a) :: lv) st h Q ↔ WP d 7 1 (some (.ref a) :: lv) (.ref a :: st) h Q := WP_st rfl
theorem S7_1 : WP d 7 1 (a0 :: some (.ref a) :: lv) st h Q ↔ WP d 7 2 (a0 :: some (.ref a) :: lv) (.ref a :: st) h Q := WP_st rfl
theorem S7_2 : WP d 7 2 (a0 :: a1 :: some (.int x) :: lv) st h Q ↔ WP d 7 3 (a0 :: a1 :: some (.int x) :: lv) (.int x :: st) h Q := WP_st rfl
theorem S7_3 {pr0 : Nat} {pr1 : Nat} {pi0 : Int32} (hs : shp pr0 = some (0, 1)) : WP (d + 1) 7 3 lv [.int pi0, .ref pr1, .ref pr0] h Q ↔ WP d 6 0 [some (.ref pr0), some (.ref pr1), some (.int pi0)] [] h (kR (d + 1) 7 6 lv [] Q) := WP_callVR rfl rfl rfl rfl rfl hs
theorem S7_6 : WP d 7 6 lv st h Q ↔ WP d 7 7 lv (.long 0 :: st) h Q := WP_st rfl
theorem S7_7 : WP d 7 7 lv (.long w :: .long u :: st) h Q ↔ WP d 7 8 lv (.int (lg_cmp u w) :: st) h Q := WP_st rfl
theorem S7_8 : WP d 7 8 lv (.int x :: st) h Q ↔ if x = 0 then WP d 7 11 lv st h Q else WP d 7 15 lv st h Q := WP_br rfl
theorem S7_11 : WP d 7 11 lv st h Q ↔ WP d 7 12 lv (.long 0 :: st) h Q := WP_st rfl
theorem S7_12 : WP d 7 12 lv st h Q ↔ WP d 7 21 lv st h Q := WP_st rfl
theorem S7_15 : WP d 7 15 (some (.ref a) :: lv) st h Q ↔ WP d 7 16 (some (.ref a) :: lv) (.ref a :: st) h Q := WP_st rfl
theorem S7_16 : WP d 7 16 (a0 :: some (.ref a) :: lv) st h Q ↔ WP d 7 17 (a0 :: some (.ref a) :: lv) (.ref a :: st) h Q := WP_st rfl
theorem S7_17 : WP d 7 17 (a0 :: a1 :: some (.int x) :: lv) st h Q ↔ WP d 7 18 (a0 :: a1 :: some (.int x) :: lv) (.int x :: st) h Q := WP_st rfl
theorem S7_18 {pr0 : Nat} {pr1 : Nat} {pi0 : Int32} (hs : shp pr0 = some (0, 1)) : WP (d + 1) 7 18 lv [.int pi0, .ref pr1, .ref pr0] h Q ↔ WP d 13 0 [some (.ref pr0), some (.ref pr1), some (.int pi0), none, none] [] h (kR (d + 1) 7 21 lv [] Q) := WP_callVR rfl rfl rfl rfl rfl hs
theorem S7_21 : WP d 7 21 lv [.long u] h Q ↔ Q (some (some (.long u))) h := WP_end rfl rfl rfl
theorem S8_0 : WP d 8 0 (some (.ref a) :: lv) st h Q ↔ WP d 8 1 (some (.ref a) :: lv) (.ref a :: st) h Q := WP_st rfl
theorem S8_1 : WP d 8 1 (a0 :: some (.ref a) :: lv) st h Q ↔ WP d 8 2 (a0 :: some (.ref a) :: lv) (.ref a :: st) h Q := WP_st rfl
theorem S8_2 : WP d 8 2 (a0 :: a1 :: some (.int x) :: lv) st h Q ↔ WP d 8 3 (a0 :: a1 :: some (.int x) :: lv) (.int x :: st) h Q := WP_st rfl
theorem S8_3 {pr0 : Nat} {pr1 : Nat} {pi0 : Int32} (hs : shp pr0 = some (0, 1)) : WP (d + 1) 8 3 lv [.int pi0, .ref pr1, .ref pr0] h Q ↔ WP d 6 0 [some (.ref pr0), some (.ref pr1), some (.int pi0)] [] h (kR (d + 1) 8 6 lv [] Q) := WP_callVR rfl rfl rfl rfl rfl hs
theorem S8_6 : WP d 8 6 (a0 :: a1 :: a2v :: a3 :: a4 :: lv) (.long u :: st) h Q ↔ WP d 8 7 (a0 :: a1 :: kl a2v :: some (.long u) :: none :: lv) st h Q := WP_st (by rfl)
theorem S8_7 : WP d 8 7 (a0 :: a1 :: a2v :: some (.long u) :: lv) st h Q ↔ WP d 8 8 (a0 :: a1 :: a2v :: some (.long u) :: lv) (.long u :: st) h Q := WP_st rfl
theorem S8_8 : WP d 8 8 lv st h Q ↔ WP d 8 9 lv (.long 0 :: st) h Q := WP_st rfl
theorem S8_9 : WP d 8 9 lv (.long w :: .long u :: st) h Q ↔ WP d 8 10 lv (.int (lg_cmp u w) :: st) h Q := WP_st rfl
theorem S8_10 : WP d 8 10 lv (.int x :: st) h Q ↔ if x = 0 then WP d 8 13 lv st h Q else WP d 8 17 lv st h Q := WP_br rfl
theorem S8_13 : WP d 8 13 lv st h Q ↔ WP d 8 14 lv (.long 1 :: st) h Q := WP_st rfl
theorem S8_14 : WP d 8 14 lv st h Q ↔ WP d 8 23 lv st h Q := WP_st rfl
theorem S8_17 : WP d 8 17 (a0 :: a1 :: a2v :: some (.long u) :: lv) st h Q ↔ WP d 8 18 (a0 :: a1 :: a2v :: some (.long u) :: lv) (.long u :: st) h Q := WP_st rfl
theorem S8_18 : WP d 8 18 (some (.ref a) :: lv) st h Q ↔ WP d 8 19 (some (.ref a) :: lv) (.ref a :: st) h Q := WP_st rfl
theorem S8_19 (hs : shp a = some (0, 1)) : WP d 8 19 lv (.ref a :: st) h Q ↔ WP d 8 22 lv (.long (h.2.1 a 4) :: st) h Q := WP_getL (r := 68) rfl hs (by decide)
theorem S8_22 : WP d 8 22 lv (.long w :: .long u :: st) h Q ↔ WP d 8 23 lv (.long (u * w) :: st) h Q := WP_st rfl
theorem S8_23 : WP d 8 23 lv [.long u] h Q ↔ Q (some (some (.long u))) h := WP_end rfl rfl rfl
theorem S9_0 : WP d 9 0 (some (.ref a) :: lv) st h Q ↔ WP d 9 1 (some (.ref a) :: lv) (.ref a :: st) h Q := WP_st rfl
theorem S9_1 : WP d 9 1 (a0 :: some (.ref a) :: lv) st h Q ↔ WP d 9 2 (a0 :: some (.ref a) :: lv) (.ref a :: st) h Q := WP_st rfl
theorem S9_2 : WP d 9 2 (a0 :: a1 :: some (.int x) :: lv) st h Q ↔ WP d 9 3 (a0 :: a1 :: some (.int x) :: lv) (.int x :: st) h Q := WP_st rfl
theorem S9_3 {pr0 : Nat} {pr1 : Nat} {pi0 : Int32} (hs : shp pr0 = some (0, 1)) : WP (d + 1) 9 3 lv [.int pi0, .ref pr1, .ref pr0] h Q ↔ WP d 7 0 [some (.ref pr0), some (.ref pr1), some (.int pi0)] [] h (kR (d + 1) 9 6 lv [] Q) := WP_callVR rfl rfl rfl rfl rfl hs
theorem S9_6 : WP d 9 6 (a0 :: a1 :: a2v :: some (.int x) :: lv) st h Q ↔ WP d 9 7 (a0 :: a1 :: a2v :: some (.int x) :: lv) (.int x :: st) h Q := WP_st rfl
theorem S9_7 : WP d 9 7 lv (.int x :: st) h Q ↔ WP d 9 8 lv (.long x.toInt64 :: st) h Q := WP_st rfl
theorem S9_8 : WP d 9 8 (some (.ref a) :: lv) st h Q ↔ WP d 9 9 (some (.ref a) :: lv) (.ref a :: st) h Q := WP_st rfl
theorem S9_9 : WP d 9 9 (a0 :: some (.ref a) :: lv) st h Q ↔ WP d 9 10 (a0 :: some (.ref a) :: lv) (.ref a :: st) h Q := WP_st rfl
theorem S9_10 : WP d 9 10 (a0 :: a1 :: some (.int x) :: lv) st h Q ↔ WP d 9 11 (a0 :: a1 :: some (.int x) :: lv) (.int x :: st) h Q := WP_st rfl
theorem S9_11 {pr0 : Nat} {pr1 : Nat} {pi0 : Int32} {qj0 : Int64} {qj1 : Int64} (hs : shp pr0 = some (0, 1)) : WP (d + 1) 9 11 lv [.int pi0, .ref pr1, .ref pr0, .long qj1, .long qj0] h Q ↔ WP d 8 0 [some (.ref pr0), some (.ref pr1), some (.int pi0), none, none] [] h (kR (d + 1) 9 14 lv [.long qj1, .long qj0] Q) := WP_callVR rfl rfl rfl rfl rfl hs
theorem S9_14 : WP d 9 14 lv (.long w :: .long u :: st) h Q ↔ WP d 9 15 lv (.long (u * w) :: st) h Q := WP_st rfl
theorem S9_15 : WP d 9 15 lv (.long w :: .long u :: st) h Q ↔ WP d 9 16 lv (.int (lg_cmp u w) :: st) h Q := WP_st rfl
theorem S9_16 : WP d 9 16 lv (.int x :: st) h Q ↔ if x ≤ 0 then WP d 9 23 lv st h Q else WP d 9 19 lv st h Q := WP_br rfl
theorem S9_19 : WP d 9 19 lv st h Q ↔ WP d 9 20 lv (.int 1 :: st) h Q := WP_st rfl
theorem S9_20 : WP d 9 20 lv st h Q ↔ WP d 9 24 lv st h Q := WP_st rfl
theorem S9_23 : WP d 9 23 lv st h Q ↔ WP d 9 24 lv (.int 0 :: st) h Q := WP_st rfl
theorem S9_24 (hx : isB x) : WP d 9 24 lv [.int x] h Q ↔ Q (some (some (.int x))) h := WP_endZ rfl rfl hx
theorem S10_0 : WP d 10 0 lv st h Q ↔ WP d 10 1 lv (.int (-1) :: st) h Q := WP_st rfl
theorem S10_1 : WP d 10 1 (a0 :: a1 :: a2v :: lv) (.int x :: st) h Q ↔ WP d 10 2 (a0 :: kl a1 :: some (.int x) :: lv) st h Q := WP_st (by rfl)
theorem S10_2 : WP d 10 2 lv st h Q ↔ WP d 10 3 lv (.long 0 :: st) h Q := WP_st rfl
theorem S10_3 : WP d 10 3 (a0 :: a1 :: a2v :: a3 :: a4 :: lv) (.long u :: st) h Q ↔ WP d 10 4 (a0 :: a1 :: kl a2v :: some (.long u) :: none :: lv) st h Q := WP_st (by rfl)
theorem S10_4 : WP d 10 4 lv st h Q ↔ WP d 10 5 lv (.long 1 :: st) h Q := WP_st rfl
theorem S10_5 : WP d 10 5 (a0 :: a1 :: a2v :: a3 :: a4 :: a5 :: a6 :: lv) (.long u :: st) h Q ↔ WP d 10 7 (a0 :: a1 :: a2v :: a3 :: kl a4 :: some (.long u) :: none :: lv) st h Q := WP_st (by rfl)
theorem S10_7 : WP d 10 7 lv st h Q ↔ WP d 10 8 lv (.int 0 :: st) h Q := WP_st rfl
theorem S10_8 : WP d 10 8 (a0 :: a1 :: a2v :: a3 :: a4 :: a5 :: a6 :: a7 :: lv) (.int x :: st) h Q ↔ WP d 10 10 (a0 :: a1 :: a2v :: a3 :: a4 :: a5 :: kl a6 :: some (.int x) :: lv) st h Q := WP_st (by rfl)
theorem S10_10 : WP d 10 10 (a0 :: a1 :: a2v :: a3 :: a4 :: a5 :: a6 :: some (.int x) :: lv) st h Q ↔ WP d 10 12 (a0 :: a1 :: a2v :: a3 :: a4 :: a5 :: a6 :: some (.int x) :: lv) (.int x :: st) h Q := WP_st rfl
theorem S10_12 : WP d 10 12 (a0 :: some (.ref a) :: lv) st h Q ↔ WP d 10 13 (a0 :: some (.ref a) :: lv) (.ref a :: st) h Q := WP_st rfl
theorem S10_13 (hs : shp a = some (0, 3)) : WP d 10 13 lv (.ref a :: st) h Q ↔ WP d 10 16 lv (.int (h.1 a 3) :: st) h Q := WP_getI (r := 195) rfl hs (by decide)
theorem S10_16 : WP d 10 16 lv (.int y :: .int x :: st) h Q ↔ if y ≤ x then WP d 10 81 lv st h Q else WP d 10 19 lv st h Q := WP_br rfl
theorem S10_19 : WP d 10 19 (a0 :: some (.ref a) :: lv) st h Q ↔ WP d 10 20 (a0 :: some (.ref a) :: lv) (.ref a :: st) h Q := WP_st rfl
theorem S10_20 (hs : shp a = some (0, 3)) : WP d 10 20 lv (.ref a :: st) h Q ↔ WP d 10 23 lv (.int (h.1 a 4) :: st) h Q := WP_getI (r := 196) rfl hs (by decide)
theorem S10_23 : WP d 10 23 (a0 :: a1 :: a2v :: a3 :: a4 :: a5 :: a6 :: some (.int x) :: lv) st h Q ↔ WP d 10 25 (a0 :: a1 :: a2v :: a3 :: a4 :: a5 :: a6 :: some (.int x) :: lv) (.int x :: st) h Q := WP_st rfl
theorem S10_25 {pi0 : Int32} {pi1 : Int32} : WP (d + 1) 10 25 lv [.int pi1, .int pi0] h Q ↔ WP d 97 0 [some (.int pi0), some (.int pi1)] [] h (kR (d + 1) 10 28 lv [] Q) := WP_callSR rfl rfl rfl rfl rfl
theorem S10_28 : WP d 10 28 lv (.int x :: st) h Q ↔ if x = 0 then WP d 10 31 lv st h Q else WP d 10 34 lv st h Q := WP_br rfl
theorem S10_31 : WP d 10 31 lv st h Q ↔ WP d 10 75 lv st h Q := WP_st rfl
theorem S10_34 : WP d 10 34 (some (.ref a) :: lv) st h Q ↔ WP d 10 35 (some (.ref a) :: lv) (.ref a :: st) h Q := WP_st rfl
theorem S10_35 : WP d 10 35 (a0 :: some (.ref a) :: lv) st h Q ↔ WP d 10 36 (a0 :: some (.ref a) :: lv) (.ref a :: st) h Q := WP_st rfl
theorem S10_36 : WP d 10 36 (a0 :: a1 :: a2v :: a3 :: a4 :: a5 :: a6 :: some (.int x) :: lv) st h Q ↔ WP d 10 38 (a0 :: a1 :: a2v :: a3 :: a4 :: a5 :: a6 :: some (.int x) :: lv) (.int x :: st) h Q := WP_st rfl
theorem S10_38 {pr0 : Nat} {pr1 : Nat} {pi0 : Int32} (hs : shp pr0 = some (0, 1)) : WP (d + 1) 10 38 lv [.int pi0, .ref pr1, .ref pr0] h Q ↔ WP d 7 0 [some (.ref pr0), some (.ref pr1), some (.int pi0)] [] h (kR (d + 1) 10 41 lv [] Q) := WP_callVR rfl rfl rfl rfl rfl hs
theorem S10_41 : WP d 10 41 (a0 :: a1 :: a2v :: a3 :: a4 :: a5 :: a6 :: a7 :: a8 :: a9 :: lv) (.long u :: st) h Q ↔ WP d 10 43 (a0 :: a1 :: a2v :: a3 :: a4 :: a5 :: a6 :: kl a7 :: some (.long u) :: none :: lv) st h Q := WP_st (by rfl)
theorem S10_43 : WP d 10 43 (some (.ref a) :: lv) st h Q ↔ WP d 10 44 (some (.ref a) :: lv) (.ref a :: st) h Q := WP_st rfl
theorem S10_44 : WP d 10 44 (a0 :: some (.ref a) :: lv) st h Q ↔ WP d 10 45 (a0 :: some (.ref a) :: lv) (.ref a :: st) h Q := WP_st rfl
theorem S10_45 : WP d 10 45 (a0 :: a1 :: a2v :: a3 :: a4 :: a5 :: a6 :: some (.int x) :: lv) st h Q ↔ WP d 10 47 (a0 :: a1 :: a2v :: a3 :: a4 :: a5 :: a6 :: some (.int x) :: lv) (.int x :: st) h Q := WP_st rfl
theorem S10_47 {pr0 : Nat} {pr1 : Nat} {pi0 : Int32} (hs : shp pr0 = some (0, 1)) : WP (d + 1) 10 47 lv [.int pi0, .ref pr1, .ref pr0] h Q ↔ WP d 8 0 [some (.ref pr0), some (.ref pr1), some (.int pi0), none, none] [] h (kR (d + 1) 10 50 lv [] Q) := WP_callVR rfl rfl rfl rfl rfl hs
theorem S10_50 : WP d 10 50 (a0 :: a1 :: a2v :: a3 :: a4 :: a5 :: a6 :: a7 :: a8 :: a9 :: a10 :: a11 :: lv) (.long u :: st) h Q ↔ WP d 10 52 (a0 :: a1 :: a2v :: a3 :: a4 :: a5 :: a6 :: a7 :: a8 :: kl a9 :: some (.long u) :: none :: lv) st h Q := WP_st (by rfl)
theorem S10_52 : WP d 10 52 (a0 :: a1 :: a2v :: a3 :: a4 :: a5 :: a6 :: a7 :: some (.long u) :: lv) st h Q ↔ WP d 10 54 (a0 :: a1 :: a2v :: a3 :: a4 :: a5 :: a6 :: a7 :: some (.long u) :: lv) (.long u :: st) h Q := WP_st rfl
theorem S10_54 : WP d 10 54 (a0 :: a1 :: a2v :: a3 :: a4 :: a5 :: a6 :: a7 :: a8 :: a9 :: some (.long u) :: lv) st h Q ↔ WP d 10 56 (a0 :: a1 :: a2v :: a3 :: a4 :: a5 :: a6 :: a7 :: a8 :: a9 :: some (.long u) :: lv) (.long u :: st) h Q := WP_st rfl
theorem S10_56 : WP d 10 56 (a0 :: a1 :: a2v :: some (.long u) :: lv) st h Q ↔ WP d 10 57 (a0 :: a1 :: a2v :: some (.long u) :: lv) (.long u :: st) h Q := WP_st rfl
theorem S10_57 : WP d 10 57 (a0 :: a1 :: a2v :: a3 :: a4 :: some (.long u) :: lv) st h Q ↔ WP d 10 59 (a0 :: a1 :: a2v :: a3 :: a4 :: some (.long u) :: lv) (.long u :: st) h Q := WP_st rfl
theorem S10_59 {pj0 : Int64} {pj1 : Int64} {pj2 : Int64} {pj3 : Int64} : WP (d + 1) 10 59 lv [.long pj3, .long pj2, .long pj1, .long pj0] h Q ↔ WP d 23 0 [some (.long pj0), none, some (.long pj1), none, some (.long pj2), none, some (.long pj3), none, none, none, none, none, none, none, none, none, none] [] h (kR (d + 1) 10 62 lv [] Q) := WP_callSR rfl rfl rfl rfl rfl
theorem S10_62 : WP d 10 62 lv (.int x :: st) h Q ↔ if x = 0 then WP d 10 75 lv st h Q else WP d 10 65 lv st h Q := WP_br rfl
theorem S10_65 : WP d 10 65 (a0 :: a1 :: a2v :: a3 :: a4 :: a5 :: a6 :: some (.int x) :: lv) st h Q ↔ WP d 10 67 (a0 :: a1 :: a2v :: a3 :: a4 :: a5 :: a6 :: some (.int x) :: lv) (.int x :: st) h Q := WP_st rfl
theorem S10_67 : WP d 10 67 (a0 :: a1 :: a2v :: lv) (.int x :: st) h Q ↔ WP d 10 68 (a0 :: kl a1 :: some (.int x) :: lv) st h Q := WP_st (by rfl)
theorem S10_68 : WP d 10 68 (a0 :: a1 :: a2v :: a3 :: a4 :: a5 :: a6 :: a7 :: some (.long u) :: lv) st h Q ↔ WP d 10 70 (a0 :: a1 :: a2v :: a3 :: a4 :: a5 :: a6 :: a7 :: some (.long u) :: lv) (.long u :: st) h Q := WP_st rfl
theorem S10_70 : WP d 10 70 (a0 :: a1 :: a2v :: a3 :: a4 :: lv) (.long u :: st) h Q ↔ WP d 10 71 (a0 :: a1 :: kl a2v :: some (.long u) :: none :: lv) st h Q := WP_st (by rfl)
theorem S10_71 : WP d 10 71 (a0 :: a1 :: a2v :: a3 :: a4 :: a5 :: a6 :: a7 :: a8 :: a9 :: some (.long u) :: lv) st h Q ↔ WP d 10 73 (a0 :: a1 :: a2v :: a3 :: a4 :: a5 :: a6 :: a7 :: a8 :: a9 :: some (.long u) :: lv) (.long u :: st) h Q := WP_st rfl
theorem S10_73 : WP d 10 73 (a0 :: a1 :: a2v :: a3 :: a4 :: a5 :: a6 :: lv) (.long u :: st) h Q ↔ WP d 10 75 (a0 :: a1 :: a2v :: a3 :: kl a4 :: some (.long u) :: none :: lv) st h Q := WP_st (by rfl)
theorem S10_75 : WP d 10 75 (a0 :: a1 :: a2v :: a3 :: a4 :: a5 :: a6 :: some (.int x) :: lv) st h Q ↔ WP d 10 78 (a0 :: a1 :: a2v :: a3 :: a4 :: a5 :: kl a6 :: some (.int (x + 1)) :: lv) st h Q := WP_st (by rfl)
theorem S10_78 : WP d 10 78 lv st h Q ↔ WP d 10 10 lv st h Q := WP_st rfl
theorem S10_81 : WP d 10 81 (a0 :: a1 :: some (.int x) :: lv) st h Q ↔ WP d 10 82 (a0 :: a1 :: some (.int x) :: lv) (.int x :: st) h Q := WP_st rfl
theorem S10_82 : WP d 10 82 lv [.int x] h Q ↔ Q (some (some (.int x))) h := WP_end rfl rfl rfl
theorem S11_0 : WP d 11 0 (some (.ref a) :: lv) st h Q ↔ WP d 11 1 (some (.ref a) :: lv) (.ref a :: st) h Q := WP_st rfl
theorem S11_1 : WP d 11 1 (a0 :: some (.int x) :: lv) st h Q ↔ WP d 11 2 (a0 :: some (.int x) :: lv) (.int x :: st) h Q := WP_st rfl
theorem S11_2 : WP d 11 2 (a0 :: some (.int x) :: lv) st h Q ↔ WP d 11 3 (a0 :: some (.int x) :: lv) (.int x :: st) h Q := WP_st rfl
theorem S11_3 {pr0 : Nat} {pi0 : Int32} {pi1 : Int32} (hs : shp pr0 = some (0, 1)) : WP (d + 1) 11 3 lv [.int pi1, .int pi0, .ref pr0] h Q ↔ WP d 12 0 [some (.ref pr0), some (.int pi0), some (.int pi1)] [] h (kR (d + 1) 11 6 lv [] Q) := WP_callVR rfl rfl rfl rfl rfl hs
theorem S11_6 : WP d 11 6 (some (.ref a) :: lv) st h Q ↔ WP d 11 7 (some (.ref a) :: lv) (.ref a :: st) h Q := WP_st rfl
theorem S11_7 : WP d 11 7 (a0 :: a1 :: some (.int x) :: lv) st h Q ↔ WP d 11 8 (a0 :: a1 :: some (.int x) :: lv) (.int x :: st) h Q := WP_st rfl
theorem S11_8 : WP d 11 8 (a0 :: a1 :: some (.int x) :: lv) st h Q ↔ WP d 11 9 (a0 :: a1 :: some (.int x) :: lv) (.int x :: st) h Q := WP_st rfl
theorem S11_9 {pr0 : Nat} {pi0 : Int32} {pi1 : Int32} {qj0 : Int64} (hs : shp pr0 = some (0, 1)) : WP (d + 1) 11 9 lv [.int pi1, .int pi0, .ref pr0, .long qj0] h Q ↔ WP d 12 0 [some (.ref pr0), some (.int pi0), some (.int pi1)] [] h (kR (d + 1) 11 12 lv [.long qj0] Q) := WP_callVR rfl rfl rfl rfl rfl hs
theorem S11_12 : WP d 11 12 lv (.long w :: .long u :: st) h Q ↔ WP d 11 13 lv (.long (u + w) :: st) h Q := WP_st rfl
theorem S11_13 : WP d 11 13 lv st h Q ↔ WP d 11 16 lv (.long 2 :: st) h Q := WP_st rfl
theorem S11_16 : WP d 11 16 (some (.ref a) :: lv) st h Q ↔ WP d 11 17 (some (.ref a) :: lv) (.ref a :: st) h Q := WP_st rfl
theorem S11_17 : WP d 11 17 (a0 :: some (.int x) :: lv) st h Q ↔ WP d 11 18 (a0 :: some (.int x) :: lv) (.int x :: st) h Q := WP_st rfl
theorem S11_18 : WP d 11 18 (a0 :: a1 :: some (.int x) :: lv) st h Q ↔ WP d 11 19 (a0 :: a1 :: some (.int x) :: lv) (.int x :: st) h Q := WP_st rfl
theorem S11_19 {pr0 : Nat} {pi0 : Int32} {pi1 : Int32} {qj0 : Int64} {qj1 : Int64} (hs : shp pr0 = some (0, 1)) : WP (d + 1) 11 19 lv [.int pi1, .int pi0, .ref pr0, .long qj1, .long qj0] h Q ↔ WP d 12 0 [some (.ref pr0), some (.int pi0), some (.int pi1)] [] h (kR (d + 1) 11 22 lv [.long qj1, .long qj0] Q) := WP_callVR rfl rfl rfl rfl rfl hs
theorem S11_22 : WP d 11 22 lv (.long w :: .long u :: st) h Q ↔ WP d 11 23 lv (.long (u * w) :: st) h Q := WP_st rfl
theorem S11_23 : WP d 11 23 lv (.long w :: .long u :: st) h Q ↔ WP d 11 24 lv (.long (u - w) :: st) h Q := WP_st rfl
theorem S11_24 : WP d 11 24 lv [.long u] h Q ↔ Q (some (some (.long u))) h := WP_end rfl rfl rfl
theorem S12_0 : WP d 12 0 (some (.ref a) :: lv) st h Q ↔ WP d 12 1 (some (.ref a) :: lv) (.ref a :: st) h Q := WP_st rfl
theorem S12_1 (hs : shp a = some (0, 1)) : WP d 12 1 lv (.ref a :: st) h Q ↔ WP d 12 4 lv (.ref (RV a 1) :: st) h Q := WP_getR (r := 65) rfl hs (by decide)
theorem S12_4 : WP d 12 4 (a0 :: some (.int x) :: lv) st h Q ↔ WP d 12 5 (a0 :: some (.int x) :: lv) (.int x :: st) h Q := WP_st rfl
theorem S12_5 (hi : okA 1 a i) : WP d 12 5 lv (.int i :: .ref a :: st) h Q ↔ WP d 12 6 lv (.int (h.1 a i.toNatClampNeg) :: st) h Q := WP_iald rfl hi
theorem S12_6 : WP d 12 6 lv st h Q ↔ WP d 12 7 lv (.int (-1) :: st) h Q := WP_st rfl
theorem S12_7 : WP d 12 7 lv (.int y :: .int x :: st) h Q ↔ if x = y then WP d 12 20 lv st h Q else WP d 12 10 lv st h Q := WP_br rfl
theorem S12_10 : WP d 12 10 (some (.ref a) :: lv) st h Q ↔ WP d 12 11 (some (.ref a) :: lv) (.ref a :: st) h Q := WP_st rfl
theorem S12_11 (hs : shp a = some (0, 1)) : WP d 12 11 lv (.ref a :: st) h Q ↔ WP d 12 14 lv (.ref (RV a 1) :: st) h Q := WP_getR (r := 65) rfl hs (by decide)
theorem S12_14 : WP d 12 14 (a0 :: a1 :: some (.int x) :: lv) st h Q ↔ WP d 12 15 (a0 :: a1 :: some (.int x) :: lv) (.int x :: st) h Q := WP_st rfl
theorem S12_15 (hi : okA 1 a i) : WP d 12 15 lv (.int i :: .ref a :: st) h Q ↔ WP d 12 16 lv (.int (h.1 a i.toNatClampNeg) :: st) h Q := WP_iald rfl hi
theorem S12_16 : WP d 12 16 lv st h Q ↔ WP d 12 17 lv (.int (-1) :: st) h Q := WP_st rfl
theorem S12_17 : WP d 12 17 lv (.int y :: .int x :: st) h Q ↔ if x = y then WP d 12 20 lv st h Q else WP d 12 24 lv st h Q := WP_br rfl
theorem S12_20 : WP d 12 20 lv st h Q ↔ WP d 12 21 lv (.long 0 :: st) h Q := WP_st rfl
theorem S12_21 : WP d 12 21 lv st h Q ↔ WP d 12 44 lv st h Q := WP_st rfl
theorem S12_24 : WP d 12 24 (some (.ref a) :: lv) st h Q ↔ WP d 12 25 (some (.ref a) :: lv) (.ref a :: st) h Q := WP_st rfl
theorem S12_25 (hs : shp a = some (0, 1)) : WP d 12 25 lv (.ref a :: st) h Q ↔ WP d 12 28 lv (.ref (RV a 2) :: st) h Q := WP_getR (r := 66) rfl hs (by decide)
theorem S12_28 : WP d 12 28 (some (.ref a) :: lv) st h Q ↔ WP d 12 29 (some (.ref a) :: lv) (.ref a :: st) h Q := WP_st rfl
theorem S12_29 (hs : shp a = some (0, 1)) : WP d 12 29 lv (.ref a :: st) h Q ↔ WP d 12 32 lv (.ref (RV a 1) :: st) h Q := WP_getR (r := 65) rfl hs (by decide)
theorem S12_32 : WP d 12 32 (a0 :: some (.int x) :: lv) st h Q ↔ WP d 12 33 (a0 :: some (.int x) :: lv) (.int x :: st) h Q := WP_st rfl
theorem S12_33 (hi : okA 1 a i) : WP d 12 33 lv (.int i :: .ref a :: st) h Q ↔ WP d 12 34 lv (.int (h.1 a i.toNatClampNeg) :: st) h Q := WP_iald rfl hi
theorem S12_34 (hi : okR a i) : WP d 12 34 lv (.int i :: .ref a :: st) h Q ↔ WP d 12 35 lv (.ref (RV a i.toNatClampNeg) :: st) h Q := WP_aald rfl hi
theorem S12_35 : WP d 12 35 lv st h Q ↔ WP d 12 36 lv (.int 5 :: st) h Q := WP_st rfl
theorem S12_36 : WP d 12 36 (some (.ref a) :: lv) st h Q ↔ WP d 12 37 (some (.ref a) :: lv) (.ref a :: st) h Q := WP_st rfl
theorem S12_37 (hs : shp a = some (0, 1)) : WP d 12 37 lv (.ref a :: st) h Q ↔ WP d 12 40 lv (.ref (RV a 1) :: st) h Q := WP_getR (r := 65) rfl hs (by decide)
theorem S12_40 : WP d 12 40 (a0 :: a1 :: some (.int x) :: lv) st h Q ↔ WP d 12 41 (a0 :: a1 :: some (.int x) :: lv) (.int x :: st) h Q := WP_st rfl
theorem S12_41 (hi : okA 1 a i) : WP d 12 41 lv (.int i :: .ref a :: st) h Q ↔ WP d 12 42 lv (.int (h.1 a i.toNatClampNeg) :: st) h Q := WP_iald rfl hi
theorem S12_42 : WP d 12 42 lv (.int y :: .int x :: st) h Q ↔ WP d 12 43 lv (.int (x + y) :: st) h Q := WP_st rfl
theorem S12_43 (hi : okA 4 a i) : WP d 12 43 lv (.int i :: .ref a :: st) h Q ↔ WP d 12 44 lv (.long (h.2.1 a i.toNatClampNeg) :: st) h Q := WP_lald rfl hi
theorem S12_44 : WP d 12 44 lv [.long u] h Q ↔ Q (some (some (.long u))) h := WP_end rfl rfl rfl
theorem S13_0 : WP d 13 0 (some (.ref a) :: lv) st h Q ↔ WP d 13 1 (some (.ref a) :: lv) (.ref a :: st) h Q := WP_st rfl
theorem S13_1 : WP d 13 1 (a0 :: some (.ref a) :: lv) st h Q ↔ WP d 13 2 (a0 :: some (.ref a) :: lv) (.ref a :: st) h Q := WP_st rfl
theorem S13_2 : WP d 13 2 (a0 :: a1 :: some (.int x) :: lv) st h Q ↔ WP d 13 3 (a0 :: a1 :: some (.int x) :: lv) (.int x :: st) h Q := WP_st rfl
theorem S13_3 {pr0 : Nat} {pr1 : Nat} {pi0 : Int32} (hs : shp pr0 = some (0, 1)) : WP (d + 1) 13 3 lv [.int pi0, .ref pr1, .ref pr0] h Q ↔ WP d 4 0 [some (.ref pr0), some (.ref pr1), some (.int pi0)] [] h (kR (d + 1) 13 6 lv [] Q) := WP_callVR rfl rfl rfl rfl rfl hs
theorem S13_6 : WP d 13 6 (a0 :: a1 :: a2v :: a3 :: a4 :: lv) (.long u :: st) h Q ↔ WP d 13 7 (a0 :: a1 :: kl a2v :: some (.long u) :: none :: lv) st h Q := WP_st (by rfl)
theorem S13_7 : WP d 13 7 (a0 :: some (.ref a) :: lv) st h Q ↔ WP d 13 8 (a0 :: some (.ref a) :: lv) (.ref a :: st) h Q := WP_st rfl
theorem S13_8 (hs : shp a = some (0, 3)) : WP d 13 8 lv (.ref a :: st) h Q ↔ WP d 13 11 lv (.ref (RV a 8) :: st) h Q := WP_getR (r := 200) rfl hs (by decide)
theorem S13_11 : WP d 13 11 (a0 :: a1 :: some (.int x) :: lv) st h Q ↔ WP d 13 12 (a0 :: a1 :: some (.int x) :: lv) (.int x :: st) h Q := WP_st rfl
theorem S13_12 (hi : okA 1 a i) : WP d 13 12 lv (.int i :: .ref a :: st) h Q ↔ WP d 13 13 lv (.int (h.1 a i.toNatClampNeg) :: st) h Q := WP_iald rfl hi
theorem S13_13 : WP d 13 13 lv (.int x :: st) h Q ↔ WP d 13 14 lv (.long x.toInt64 :: st) h Q := WP_st rfl
theorem S13_14 : WP d 13 14 (a0 :: a1 :: a2v :: some (.long u) :: lv) st h Q ↔ WP d 13 15 (a0 :: a1 :: a2v :: some (.long u) :: lv) (.long u :: st) h Q := WP_st rfl
theorem S13_15 : WP d 13 15 lv (.long w :: .long u :: st) h Q ↔ WP d 13 16 lv (.long (u * w) :: st) h Q := WP_st rfl
theorem S13_16 : WP d 13 16 (a0 :: a1 :: a2v :: some (.long u) :: lv) st h Q ↔ WP d 13 17 (a0 :: a1 :: a2v :: some (.long u) :: lv) (.long u :: st) h Q := WP_st rfl
theorem S13_17 : WP d 13 17 lv (.long w :: .long u :: st) h Q ↔ WP d 13 18 lv (.long (u * w) :: st) h Q := WP_st rfl
theorem S13_18 : WP d 13 18 lv [.long u] h Q ↔ Q (some (some (.long u))) h := WP_end rfl rfl rfl
theorem S14_0 : WP d 14 0 (some (.ref a) :: lv) st h Q ↔ WP d 14 1 (some (.ref a) :: lv) (.ref a :: st) h Q := WP_st rfl
theorem S14_1 : WP d 14 1 lv st h Q ↔ WP d 14 2 lv (.int 0 :: st) h Q := WP_st rfl
theorem S14_2 (hs : shp a = some (0, 1)) : WP d 14 2 lv (.int x :: .ref a :: st) h Q ↔ WP d 14 5 lv st (setI h a 0 x) Q := WP_putI (r := 64) rfl hs (by decide)
theorem S14_5 : WP d 14 5 lv st h Q ↔ WP d 14 6 lv (.int 0 :: st) h Q := WP_st rfl
theorem S14_6 : WP d 14 6 (a0 :: a1 :: a2v :: a3 :: lv) (.int x :: st) h Q ↔ WP d 14 7 (a0 :: a1 :: kl a2v :: some (.int x) :: lv) st h Q := WP_st (by rfl)
theorem S14_7 : WP d 14 7 (a0 :: a1 :: a2v :: some (.int x) :: lv) st h Q ↔ WP d 14 8 (a0 :: a1 :: a2v :: some (.int x) :: lv) (.int x :: st) h Q := WP_st rfl
theorem S14_8 : WP d 14 8 lv st h Q ↔ WP d 14 10 lv (.int 6 :: st) h Q := WP_st rfl
theorem S14_10 : WP d 14 10 lv (.int y :: .int x :: st) h Q ↔ if y ≤ x then WP d 14 90 lv st h Q else WP d 14 13 lv st h Q := WP_br rfl
theorem S14_13 : WP d 14 13 (some (.ref a) :: lv) st h Q ↔ WP d 14 14 (some (.ref a) :: lv) (.ref a :: st) h Q := WP_st rfl
theorem S14_14 (hs : shp a = some (0, 1)) : WP d 14 14 lv (.ref a :: st) h Q ↔ WP d 14 17 lv (.ref (RV a 1) :: st) h Q := WP_getR (r := 65) rfl hs (by decide)
theorem S14_17 : WP d 14 17 (a0 :: a1 :: a2v :: some (.int x) :: lv) st h Q ↔ WP d 14 18 (a0 :: a1 :: a2v :: some (.int x) :: lv) (.int x :: st) h Q := WP_st rfl
theorem S14_18 : WP d 14 18 lv st h Q ↔ WP d 14 19 lv (.int (-1) :: st) h Q := WP_st rfl
theorem S14_19 (hi : okA 1 a i) : WP d 14 19 lv (.int x :: .int i :: .ref a :: st) h Q ↔ WP d 14 20 lv st (setI h a i.toNatClampNeg x) Q := WP_iast rfl hi
theorem S14_20 : WP d 14 20 (a0 :: a1 :: a2v :: some (.int x) :: lv) st h Q ↔ WP d 14 21 (a0 :: a1 :: a2v :: some (.int x) :: lv) (.int x :: st) h Q := WP_st rfl
theorem S14_21 : WP d 14 21 (a0 :: some (.ref a) :: lv) st h Q ↔ WP d 14 22 (a0 :: some (.ref a) :: lv) (.ref a :: st) h Q := WP_st rfl
theorem S14_22 (hs : shp a = some (0, 3)) : WP d 14 22 lv (.ref a :: st) h Q ↔ WP d 14 25 lv (.int (h.1 a 0) :: st) h Q := WP_getI (r := 192) rfl hs (by decide)
theorem S14_25 : WP d 14 25 lv (.int y :: .int x :: st) h Q ↔ if y ≤ x then WP d 14 48 lv st h Q else WP d 14 28 lv st h Q := WP_br rfl
theorem S14_28 : WP d 14 28 (a0 :: some (.ref a) :: lv) st h Q ↔ WP d 14 29 (a0 :: some (.ref a) :: lv) (.ref a :: st) h Q := WP_st rfl
theorem S14_29 : WP d 14 29 (a0 :: a1 :: a2v :: some (.int x) :: lv) st h Q ↔ WP d 14 30 (a0 :: a1 :: a2v :: some (.int x) :: lv) (.int x :: st) h Q := WP_st rfl
theorem S14_30 {pr0 : Nat} {pi0 : Int32} (hs : shp pr0 = some (0, 3)) : WP (d + 1) 14 30 lv [.int pi0, .ref pr0] h Q ↔ WP d 28 0 [some (.ref pr0), some (.int pi0)] [] h (kR (d + 1) 14 33 lv [] Q) := WP_callVR rfl rfl rfl rfl rfl hs
theorem S14_33 : WP d 14 33 lv (.int x :: st) h Q ↔ if x = 0 then WP d 14 36 lv st h Q else WP d 14 48 lv st h Q := WP_br rfl
theorem S14_36 : WP d 14 36 (a0 :: a1 :: some (.ref a) :: lv) st h Q ↔ WP d 14 37 (a0 :: a1 :: some (.ref a) :: lv) (.ref a :: st) h Q := WP_st rfl
theorem S14_37 : WP d 14 37 (a0 :: a1 :: a2v :: some (.int x) :: lv) st h Q ↔ WP d 14 38 (a0 :: a1 :: a2v :: some (.int x) :: lv) (.int x :: st) h Q := WP_st rfl
theorem S14_38 {pr0 : Nat} {pi0 : Int32} (hs : shp pr0 = some (0, 6)) : WP (d + 1) 14 38 lv [.int pi0, .ref pr0] h Q ↔ WP d 45 0 [some (.ref pr0), some (.int pi0)] [] h (kR (d + 1) 14 41 lv [] Q) := WP_callVR rfl rfl rfl rfl rfl hs
theorem S14_41 : WP d 14 41 lv (.int x :: st) h Q ↔ if x = 0 then WP d 14 44 lv st h Q else WP d 14 48 lv st h Q := WP_br rfl
theorem S14_44 : WP d 14 44 lv st h Q ↔ WP d 14 45 lv (.int 1 :: st) h Q := WP_st rfl
theorem S14_45 : WP d 14 45 lv st h Q ↔ WP d 14 49 lv st h Q := WP_st rfl
theorem S14_48 : WP d 14 48 lv st h Q ↔ WP d 14 49 lv (.int 0 :: st) h Q := WP_st rfl
theorem S14_49 : WP d 14 49 (a0 :: a1 :: a2v :: a3 :: a4 :: lv) (.int x :: st) h Q ↔ WP d 14 51 (a0 :: a1 :: a2v :: kl a3 :: some (.int x) :: lv) st h Q := WP_st (by rfl)
theorem S14_51 : WP d 14 51 (a0 :: a1 :: a2v :: a3 :: some (.int x) :: lv) st h Q ↔ WP d 14 53 (a0 :: a1 :: a2v :: a3 :: some (.int x) :: lv) (.int x :: st) h Q := WP_st rfl
theorem S14_53 : WP d 14 53 lv (.int x :: st) h Q ↔ if x = 0 then WP d 14 84 lv st h Q else WP d 14 56 lv st h Q := WP_br rfl
theorem S14_56 : WP d 14 56 (some (.ref a) :: lv) st h Q ↔ WP d 14 57 (some (.ref a) :: lv) (.ref a :: st) h Q := WP_st rfl
theorem S14_57 (hs : shp a = some (0, 1)) : WP d 14 57 lv (.ref a :: st) h Q ↔ WP d 14 60 lv (.int (h.1 a 0) :: st) h Q := WP_getI (r := 64) rfl hs (by decide)
theorem S14_60 : WP d 14 60 lv st h Q ↔ WP d 14 61 lv (.int 5 :: st) h Q := WP_st rfl
theorem S14_61 : WP d 14 61 lv (.int y :: .int x :: st) h Q ↔ if y ≤ x then WP d 14 84 lv st h Q else WP d 14 64 lv st h Q := WP_br rfl
theorem S14_64 : WP d 14 64 (some (.ref a) :: lv) st h Q ↔ WP d 14 65 (some (.ref a) :: lv) (.ref a :: st) h Q := WP_st rfl
theorem S14_65 (hs : shp a = some (0, 1)) : WP d 14 65 lv (.ref a :: st) h Q ↔ WP d 14 68 lv (.ref (RV a 1) :: st) h Q := WP_getR (r := 65) rfl hs (by decide)
theorem S14_68 : WP d 14 68 (a0 :: a1 :: a2v :: some (.int x) :: lv) st h Q ↔ WP d 14 69 (a0 :: a1 :: a2v :: some (.int x) :: lv) (.int x :: st) h Q := WP_st rfl
theorem S14_69 : WP d 14 69 (some (.ref a) :: lv) st h Q ↔ WP d 14 70 (some (.ref a) :: lv) (.ref a :: st) h Q := WP_st rfl
theorem S14_70 (hs : shp a = some (0, 1)) : WP d 14 70 lv (.ref a :: st) h Q ↔ WP d 14 73 lv (.int (h.1 a 0) :: st) h Q := WP_getI (r := 64) rfl hs (by decide)
theorem S14_73 (hi : okA 1 a i) : WP d 14 73 lv (.int x :: .int i :: .ref a :: st) h Q ↔ WP d 14 74 lv st (setI h a i.toNatClampNeg x) Q := WP_iast rfl hi
theorem S14_74 : WP d 14 74 (some (.ref a) :: lv) st h Q ↔ WP d 14 75 (some (.ref a) :: lv) (.ref a :: st) h Q := WP_st rfl
theorem S14_75 : WP d 14 75 lv (.ref a :: st) h Q ↔ WP d 14 76 lv (.ref a :: .ref a :: st) h Q := WP_st rfl
theorem S14_76 (hs : shp a = some (0, 1)) : WP d 14 76 lv (.ref a :: st) h Q ↔ WP d 14 79 lv (.int (h.1 a 0) :: st) h Q := WP_getI (r := 64) rfl hs (by decide)
theorem S14_79 : WP d 14 79 lv st h Q ↔ WP d 14 80 lv (.int 1 :: st) h Q := WP_st rfl
theorem S14_80 : WP d 14 80 lv (.int y :: .int x :: st) h Q ↔ WP d 14 81 lv (.int (x + y) :: st) h Q := WP_st rfl
theorem S14_81 (hs : shp a = some (0, 1)) : WP d 14 81 lv (.int x :: .ref a :: st) h Q ↔ WP d 14 84 lv st (setI h a 0 x) Q := WP_putI (r := 64) rfl hs (by decide)
theorem S14_84 : WP d 14 84 (a0 :: a1 :: a2v :: some (.int x) :: lv) st h Q ↔ WP d 14 87 (a0 :: a1 :: kl a2v :: some (.int (x + 1)) :: lv) st h Q := WP_st (by rfl)
theorem S14_87 : WP d 14 87 lv st h Q ↔ WP d 14 7 lv st h Q := WP_st rfl
theorem S14_90 : WP d 14 90 lv [] h Q ↔ Q (some none) h := WP_end rfl rfl rfl
theorem S15_0 : WP d 15 0 (some (.ref a) :: lv) st h Q ↔ WP d 15 1 (some (.ref a) :: lv) (.ref a :: st) h Q := WP_st rfl
theorem S15_1 : WP d 15 1 (a0 :: some (.int x) :: lv) st h Q ↔ WP d 15 2 (a0 :: some (.int x) :: lv) (.int x :: st) h Q := WP_st rfl
theorem S15_2 {pr0 : Nat} {pi0 : Int32} (hs : shp pr0 = some (0, 3)) : WP (d + 1) 15 2 lv [.int pi0, .ref pr0] h Q ↔ WP d 28 0 [some (.ref pr0), some (.int pi0)] [] h (kR (d + 1) 15 5 lv [] Q) := WP_callVR rfl rfl rfl rfl rfl hs
theorem S15_5 : WP d 15 5 lv (.int x :: st) h Q ↔ if x = 0 then WP d 15 18 lv st h Q else WP d 15 8 lv st h Q := WP_br rfl
theorem S15_8 : WP d 15 8 (some (.ref a) :: lv) st h Q ↔ WP d 15 9 (some (.ref a) :: lv) (.ref a :: st) h Q := WP_st rfl
theorem S15_9 (hs : shp a = some (0, 3)) : WP d 15 9 lv (.ref a :: st) h Q ↔ WP d 15 12 lv (.ref (RV a 2) :: st) h Q := WP_getR (r := 194) rfl hs (by decide)
theorem S15_12 : WP d 15 12 (a0 :: some (.int x) :: lv) st h Q ↔ WP d 15 13 (a0 :: some (.int x) :: lv) (.int x :: st) h Q := WP_st rfl
theorem S15_13 (hi : okA 1 a i) : WP d 15 13 lv (.int i :: .ref a :: st) h Q ↔ WP d 15 14 lv (.int (h.1 a i.toNatClampNeg) :: st) h Q := WP_iald rfl hi
theorem S15_14 : WP d 15 14 lv (.int x :: st) h Q ↔ WP d 15 15 lv (.long x.toInt64 :: st) h Q := WP_st rfl
theorem S15_15 : WP d 15 15 lv st h Q ↔ WP d 15 19 lv st h Q := WP_st rfl
theorem S15_18 : WP d 15 18 lv st h Q ↔ WP d 15 19 lv (.long 0 :: st) h Q := WP_st rfl
theorem S15_19 : WP d 15 19 lv [.long u] h Q ↔ Q (some (some (.long u))) h := WP_end rfl rfl rfl
theorem S16_0 : WP d 16 0 (some (.ref a) :: lv) st h Q ↔ WP d 16 1 (some (.ref a) :: lv) (.ref a :: st) h Q := WP_st rfl
theorem S16_1 (hs : shp a = some (0, 1)) : WP d 16 1 lv (.ref a :: st) h Q ↔ WP d 16 4 lv (.ref (RV a 1) :: st) h Q := WP_getR (r := 65) rfl hs (by decide)
theorem S16_4 : WP d 16 4 (a0 :: a1 :: some (.int x) :: lv) st h Q ↔ WP d 16 5 (a0 :: a1 :: some (.int x) :: lv) (.int x :: st) h Q := WP_st rfl
theorem S16_5 (hi : okA 1 a i) : WP d 16 5 lv (.int i :: .ref a :: st) h Q ↔ WP d 16 6 lv (.int (h.1 a i.toNatClampNeg) :: st) h Q := WP_iald rfl hi
theorem S16_6 : WP d 16 6 (a0 :: a1 :: a2v :: a3 :: a4 :: a5 :: a6 :: a7 :: a8 :: lv) (.int x :: st) h Q ↔ WP d 16 8 (a0 :: a1 :: a2v :: a3 :: a4 :: a5 :: a6 :: kl a7 :: some (.int x) :: lv) st h Q := WP_st (by rfl)
theorem S16_8 : WP d 16 8 (a0 :: a1 :: a2v :: a3 :: a4 :: a5 :: a6 :: a7 :: some (.int x) :: lv) st h Q ↔ WP d 16 10 (a0 :: a1 :: a2v :: a3 :: a4 :: a5 :: a6 :: a7 :: some (.int x) :: lv) (.int x :: st) h Q := WP_st rfl
theorem S16_10 : WP d 16 10 lv st h Q ↔ WP d 16 11 lv (.int (-1) :: st) h Q := WP_st rfl
theorem S16_11 : WP d 16 11 lv (.int y :: .int x :: st) h Q ↔ if x = y then WP d 16 14 lv st h Q else WP d 16 15 lv st h Q := WP_br rfl
theorem S16_14 : WP d 16 14 lv [] h Q ↔ Q (some none) h := WP_end rfl rfl rfl
theorem S16_15 : WP d 16 15 (some (.ref a) :: lv) st h Q ↔ WP d 16 16 (some (.ref a) :: lv) (.ref a :: st) h Q := WP_st rfl
theorem S16_16 (hs : shp a = some (0, 1)) : WP d 16 16 lv (.ref a :: st) h Q ↔ WP d 16 19 lv (.ref (RV a 2) :: st) h Q := WP_getR (r := 66) rfl hs (by decide)
theorem S16_19 : WP d 16 19 (a0 :: a1 :: a2v :: a3 :: a4 :: a5 :: a6 :: a7 :: some (.int x) :: lv) st h Q ↔ WP d 16 21 (a0 :: a1 :: a2v :: a3 :: a4 :: a5 :: a6 :: a7 :: some (.int x) :: lv) (.int x :: st) h Q := WP_st rfl
theorem S16_21 (hi : okR a i) : WP d 16 21 lv (.int i :: .ref a :: st) h Q ↔ WP d 16 22 lv (.ref (RV a i.toNatClampNeg) :: st) h Q := WP_aald rfl hi
theorem S16_22 : WP d 16 22 (a0 :: a1 :: a2v :: a3 :: a4 :: a5 :: a6 :: a7 :: some (.int x) :: lv) st h Q ↔ WP d 16 24 (a0 :: a1 :: a2v :: a3 :: a4 :: a5 :: a6 :: a7 :: some (.int x) :: lv) (.int x :: st) h Q := WP_st rfl
theorem S16_24 : WP d 16 24 lv (.int x :: .ref a :: st) h Q ↔ WP d 16 25 lv (.int x :: .ref a :: .int x :: .ref a :: st) h Q := WP_st rfl
theorem S16_25 (hi : okA 4 a i) : WP d 16 25 lv (.int i :: .ref a :: st) h Q ↔ WP d 16 26 lv (.long (h.2.1 a i.toNatClampNeg) :: st) h Q := WP_lald rfl hi
theorem S16_26 : WP d 16 26 (a0 :: a1 :: a2v :: a3 :: some (.long u) :: lv) st h Q ↔ WP d 16 28 (a0 :: a1 :: a2v :: a3 :: some (.long u) :: lv) (.long u :: st) h Q := WP_st rfl
theorem S16_28 : WP d 16 28 lv (.long w :: .long u :: st) h Q ↔ WP d 16 29 lv (.long (u + w) :: st) h Q := WP_st rfl
theorem S16_29 (hi : okA 4 a i) : WP d 16 29 lv (.long u :: .int i :: .ref a :: st) h Q ↔ WP d 16 30 lv st (setL h a i.toNatClampNeg u) Q := WP_last rfl hi
theorem S16_30 : WP d 16 30 (some (.ref a) :: lv) st h Q ↔ WP d 16 31 (some (.ref a) :: lv) (.ref a :: st) h Q := WP_st rfl
theorem S16_31 (hs : shp a = some (0, 1)) : WP d 16 31 lv (.ref a :: st) h Q ↔ WP d 16 34 lv (.ref (RV a 2) :: st) h Q := WP_getR (r := 66) rfl hs (by decide)
theorem S16_34 : WP d 16 34 (a0 :: a1 :: a2v :: a3 :: a4 :: a5 :: a6 :: a7 :: some (.int x) :: lv) st h Q ↔ WP d 16 36 (a0 :: a1 :: a2v :: a3 :: a4 :: a5 :: a6 :: a7 :: some (.int x) :: lv) (.int x :: st) h Q := WP_st rfl
theorem S16_36 (hi : okR a i) : WP d 16 36 lv (.int i :: .ref a :: st) h Q ↔ WP d 16 37 lv (.ref (RV a i.toNatClampNeg) :: st) h Q := WP_aald rfl hi
theorem S16_37 : WP d 16 37 lv st h Q ↔ WP d 16 39 lv (.int 10 :: st) h Q := WP_st rfl
theorem S16_39 : WP d 16 39 lv (.int x :: .ref a :: st) h Q ↔ WP d 16 40 lv (.int x :: .ref a :: .int x :: .ref a :: st) h Q := WP_st rfl
theorem S16_40 (hi : okA 4 a i) : WP d 16 40 lv (.int i :: .ref a :: st) h Q ↔ WP d 16 41 lv (.long (h.2.1 a i.toNatClampNeg) :: st) h Q := WP_lald rfl hi
theorem S16_41 : WP d 16 41 (a0 :: a1 :: a2v :: a3 :: a4 :: a5 :: some (.long u) :: lv) st h Q ↔ WP d 16 43 (a0 :: a1 :: a2v :: a3 :: a4 :: a5 :: some (.long u) :: lv) (.long u :: st) h Q := WP_st rfl
theorem S16_43 : WP d 16 43 lv (.long w :: .long u :: st) h Q ↔ WP d 16 44 lv (.long (u + w) :: st) h Q := WP_st rfl
theorem S16_44 (hi : okA 4 a i) : WP d 16 44 lv (.long u :: .int i :: .ref a :: st) h Q ↔ WP d 16 45 lv st (setL h a i.toNatClampNeg u) Q := WP_last rfl hi
theorem S16_45 : WP d 16 45 (some (.ref a) :: lv) st h Q ↔ WP d 16 46 (some (.ref a) :: lv) (.ref a :: st) h Q := WP_st rfl
theorem S16_46 (hs : shp a = some (0, 1)) : WP d 16 46 lv (.ref a :: st) h Q ↔ WP d 16 49 lv (.ref (RV a 1) :: st) h Q := WP_getR (r := 65) rfl hs (by decide)
theorem S16_49 : WP d 16 49 (a0 :: a1 :: a2v :: some (.int x) :: lv) st h Q ↔ WP d 16 50 (a0 :: a1 :: a2v :: some (.int x) :: lv) (.int x :: st) h Q := WP_st rfl
theorem S16_50 (hi : okA 1 a i) : WP d 16 50 lv (.int i :: .ref a :: st) h Q ↔ WP d 16 51 lv (.int (h.1 a i.toNatClampNeg) :: st) h Q := WP_iald rfl hi
theorem S16_51 : WP d 16 51 lv st h Q ↔ WP d 16 52 lv (.int (-1) :: st) h Q := WP_st rfl
theorem S16_52 : WP d 16 52 lv (.int y :: .int x :: st) h Q ↔ if x = y then WP d 16 55 lv st h Q else WP d 16 79 lv st h Q := WP_br rfl
theorem S16_55 : WP d 16 55 (some (.ref a) :: lv) st h Q ↔ WP d 16 56 (some (.ref a) :: lv) (.ref a :: st) h Q := WP_st rfl
theorem S16_56 (hs : shp a = some (0, 1)) : WP d 16 56 lv (.ref a :: st) h Q ↔ WP d 16 59 lv (.ref (RV a 2) :: st) h Q := WP_getR (r := 66) rfl hs (by decide)
theorem S16_59 : WP d 16 59 (a0 :: a1 :: a2v :: a3 :: a4 :: a5 :: a6 :: a7 :: some (.int x) :: lv) st h Q ↔ WP d 16 61 (a0 :: a1 :: a2v :: a3 :: a4 :: a5 :: a6 :: a7 :: some (.int x) :: lv) (.int x :: st) h Q := WP_st rfl
theorem S16_61 (hi : okR a i) : WP d 16 61 lv (.int i :: .ref a :: st) h Q ↔ WP d 16 62 lv (.ref (RV a i.toNatClampNeg) :: st) h Q := WP_aald rfl hi
theorem S16_62 : WP d 16 62 lv st h Q ↔ WP d 16 64 lv (.int 10 :: st) h Q := WP_st rfl
theorem S16_64 : WP d 16 64 lv (.int x :: .ref a :: st) h Q ↔ WP d 16 65 lv (.int x :: .ref a :: .int x :: .ref a :: st) h Q := WP_st rfl
theorem S16_65 (hi : okA 4 a i) : WP d 16 65 lv (.int i :: .ref a :: st) h Q ↔ WP d 16 66 lv (.long (h.2.1 a i.toNatClampNeg) :: st) h Q := WP_lald rfl hi
theorem S16_66 : WP d 16 66 (a0 :: a1 :: a2v :: a3 :: some (.long u) :: lv) st h Q ↔ WP d 16 68 (a0 :: a1 :: a2v :: a3 :: some (.long u) :: lv) (.long u :: st) h Q := WP_st rfl
theorem S16_68 : WP d 16 68 (a0 :: some (.ref a) :: lv) st h Q ↔ WP d 16 69 (a0 :: some (.ref a) :: lv) (.ref a :: st) h Q := WP_st rfl
theorem S16_69 : WP d 16 69 (a0 :: a1 :: a2v :: some (.int x) :: lv) st h Q ↔ WP d 16 70 (a0 :: a1 :: a2v :: some (.int x) :: lv) (.int x :: st) h Q := WP_st rfl
theorem S16_70 {pr0 : Nat} {pi0 : Int32} {qr1 : Nat} {qi1 : Int32} {qj0 : Int64} {qj1 : Int64} : WP (d + 1) 16 70 lv [.int pi0, .ref pr0, .long qj1, .long qj0, .int qi1, .ref qr1] h Q ↔ WP d 15 0 [some (.ref pr0), some (.int pi0)] [] h (kR (d + 1) 16 73 lv [.long qj1, .long qj0, .int qi1, .ref qr1] Q) := WP_callSR rfl rfl rfl rfl rfl
theorem S16_73 : WP d 16 73 lv (.long w :: .long u :: st) h Q ↔ WP d 16 74 lv (.long (u * w) :: st) h Q := WP_st rfl
theorem S16_74 : WP d 16 74 lv (.long w :: .long u :: st) h Q ↔ WP d 16 75 lv (.long (u + w) :: st) h Q := WP_st rfl
theorem S16_75 (hi : okA 4 a i) : WP d 16 75 lv (.long u :: .int i :: .ref a :: st) h Q ↔ WP d 16 76 lv st (setL h a i.toNatClampNeg u) Q := WP_last rfl hi
theorem S16_76 : WP d 16 76 lv st h Q ↔ WP d 16 98 lv st h Q := WP_st rfl
theorem S16_79 : WP d 16 79 (some (.ref a) :: lv) st h Q ↔ WP d 16 80 (some (.ref a) :: lv) (.ref a :: st) h Q := WP_st rfl
theorem S16_80 (hs : shp a = some (0, 1)) : WP d 16 80 lv (.ref a :: st) h Q ↔ WP d 16 83 lv (.ref (RV a 2) :: st) h Q := WP_getR (r := 66) rfl hs (by decide)
theorem S16_83 : WP d 16 83 (a0 :: a1 :: a2v :: a3 :: a4 :: a5 :: a6 :: a7 :: some (.int x) :: lv) st h Q ↔ WP d 16 85 (a0 :: a1 :: a2v :: a3 :: a4 :: a5 :: a6 :: a7 :: some (.int x) :: lv) (.int x :: st) h Q := WP_st rfl
theorem S16_85 (hi : okR a i) : WP d 16 85 lv (.int i :: .ref a :: st) h Q ↔ WP d 16 86 lv (.ref (RV a i.toNatClampNeg) :: st) h Q := WP_aald rfl hi
theorem S16_86 : WP d 16 86 (some (.ref a) :: lv) st h Q ↔ WP d 16 87 (some (.ref a) :: lv) (.ref a :: st) h Q := WP_st rfl
theorem S16_87 (hs : shp a = some (0, 1)) : WP d 16 87 lv (.ref a :: st) h Q ↔ WP d 16 90 lv (.ref (RV a 1) :: st) h Q := WP_getR (r := 65) rfl hs (by decide)
theorem S16_90 : WP d 16 90 (a0 :: a1 :: a2v :: some (.int x) :: lv) st h Q ↔ WP d 16 91 (a0 :: a1 :: a2v :: some (.int x) :: lv) (.int x :: st) h Q := WP_st rfl
theorem S16_91 (hi : okA 1 a i) : WP d 16 91 lv (.int i :: .ref a :: st) h Q ↔ WP d 16 92 lv (.int (h.1 a i.toNatClampNeg) :: st) h Q := WP_iald rfl hi
theorem S16_92 : WP d 16 92 lv (.int x :: .ref a :: st) h Q ↔ WP d 16 93 lv (.int x :: .ref a :: .int x :: .ref a :: st) h Q := WP_st rfl
theorem S16_93 (hi : okA 4 a i) : WP d 16 93 lv (.int i :: .ref a :: st) h Q ↔ WP d 16 94 lv (.long (h.2.1 a i.toNatClampNeg) :: st) h Q := WP_lald rfl hi
theorem S16_94 : WP d 16 94 (a0 :: a1 :: a2v :: a3 :: some (.long u) :: lv) st h Q ↔ WP d 16 96 (a0 :: a1 :: a2v :: a3 :: some (.long u) :: lv) (.long u :: st) h Q := WP_st rfl
theorem S16_96 : WP d 16 96 lv (.long w :: .long u :: st) h Q ↔ WP d 16 97 lv (.long (u - w) :: st) h Q := WP_st rfl
theorem S16_97 (hi : okA 4 a i) : WP d 16 97 lv (.long u :: .int i :: .ref a :: st) h Q ↔ WP d 16 98 lv st (setL h a i.toNatClampNeg u) Q := WP_last rfl hi
theorem S16_98 : WP d 16 98 lv [] h Q ↔ Q (some none) h := WP_end rfl rfl rfl
theorem S17_0 : WP d 17 0 (some (.ref a) :: lv) st h Q ↔ WP d 17 1 (some (.ref a) :: lv) (.ref a :: st) h Q := WP_st rfl
theorem S17_1 : WP d 17 1 lv st h Q ↔ WP d 17 2 lv (.long 1 :: st) h Q := WP_st rfl
theorem S17_2 (hs : shp a = some (0, 1)) : WP d 17 2 lv (.long u :: .ref a :: st) h Q ↔ WP d 17 5 lv st (setL h a 4 u) Q := WP_putL (r := 68) rfl hs (by decide)
theorem S17_5 : WP d 17 5 lv st h Q ↔ WP d 17 6 lv (.int 0 :: st) h Q := WP_st rfl
theorem S17_6 : WP d 17 6 (a0 :: a1 :: lv) (.int x :: st) h Q ↔ WP d 17 7 (kl a0 :: some (.int x) :: lv) st h Q := WP_st (by rfl)
theorem S17_7 : WP d 17 7 (a0 :: some (.int x) :: lv) st h Q ↔ WP d 17 8 (a0 :: some (.int x) :: lv) (.int x :: st) h Q := WP_st rfl
theorem S17_8 : WP d 17 8 (some (.ref a) :: lv) st h Q ↔ WP d 17 9 (some (.ref a) :: lv) (.ref a :: st) h Q := WP_st rfl
theorem S17_9 (hs : shp a = some (0, 1)) : WP d 17 9 lv (.ref a :: st) h Q ↔ WP d 17 12 lv (.int (h.1 a 0) :: st) h Q := WP_getI (r := 64) rfl hs (by decide)
theorem S17_12 : WP d 17 12 lv (.int y :: .int x :: st) h Q ↔ if y ≤ x then WP d 17 67 lv st h Q else WP d 17 15 lv st h Q := WP_br rfl
theorem S17_15 : WP d 17 15 (some (.ref a) :: lv) st h Q ↔ WP d 17 16 (some (.ref a) :: lv) (.ref a :: st) h Q := WP_st rfl
theorem S17_16 (hs : shp a = some (0, 1)) : WP d 17 16 lv (.ref a :: st) h Q ↔ WP d 17 19 lv (.ref (RV a 2) :: st) h Q := WP_getR (r := 66) rfl hs (by decide)
theorem S17_19 : WP d 17 19 (a0 :: some (.int x) :: lv) st h Q ↔ WP d 17 20 (a0 :: some (.int x) :: lv) (.int x :: st) h Q := WP_st rfl
theorem S17_20 (hi : okR a i) : WP d 17 20 lv (.int i :: .ref a :: st) h Q ↔ WP d 17 21 lv (.ref (RV a i.toNatClampNeg) :: st) h Q := WP_aald rfl hi
theorem S17_21 : WP d 17 21 (a0 :: some (.int x) :: lv) st h Q ↔ WP d 17 22 (a0 :: some (.int x) :: lv) (.int x :: st) h Q := WP_st rfl
theorem S17_22 (hi : okA 4 a i) : WP d 17 22 lv (.int i :: .ref a :: st) h Q ↔ WP d 17 23 lv (.long (h.2.1 a i.toNatClampNeg) :: st) h Q := WP_lald rfl hi
theorem S17_23 : WP d 17 23 (a0 :: a1 :: a2v :: a3 :: lv) (.long u :: st) h Q ↔ WP d 17 24 (a0 :: kl a1 :: some (.long u) :: none :: lv) st h Q := WP_st (by rfl)
theorem S17_24 : WP d 17 24 lv st h Q ↔ WP d 17 25 lv (.int 0 :: st) h Q := WP_st rfl
theorem S17_25 : WP d 17 25 (a0 :: a1 :: a2v :: a3 :: a4 :: lv) (.int x :: st) h Q ↔ WP d 17 27 (a0 :: a1 :: a2v :: kl a3 :: some (.int x) :: lv) st h Q := WP_st (by rfl)
theorem S17_27 : WP d 17 27 (a0 :: a1 :: a2v :: a3 :: some (.int x) :: lv) st h Q ↔ WP d 17 29 (a0 :: a1 :: a2v :: a3 :: some (.int x) :: lv) (.int x :: st) h Q := WP_st rfl
theorem S17_29 : WP d 17 29 (some (.ref a) :: lv) st h Q ↔ WP d 17 30 (some (.ref a) :: lv) (.ref a :: st) h Q := WP_st rfl
theorem S17_30 (hs : shp a = some (0, 1)) : WP d 17 30 lv (.ref a :: st) h Q ↔ WP d 17 33 lv (.int (h.1 a 0) :: st) h Q := WP_getI (r := 64) rfl hs (by decide)
theorem S17_33 : WP d 17 33 lv (.int y :: .int x :: st) h Q ↔ if y ≤ x then WP d 17 56 lv st h Q else WP d 17 36 lv st h Q := WP_br rfl
theorem S17_36 : WP d 17 36 (a0 :: a1 :: a2v :: a3 :: some (.int x) :: lv) st h Q ↔ WP d 17 38 (a0 :: a1 :: a2v :: a3 :: some (.int x) :: lv) (.int x :: st) h Q := WP_st rfl
theorem S17_38 : WP d 17 38 (a0 :: some (.int x) :: lv) st h Q ↔ WP d 17 39 (a0 :: some (.int x) :: lv) (.int x :: st) h Q := WP_st rfl
theorem S17_39 : WP d 17 39 lv (.int y :: .int x :: st) h Q ↔ if x = y then WP d 17 50 lv st h Q else WP d 17 42 lv st h Q := WP_br rfl
theorem S17_42 : WP d 17 42 (some (.ref a) :: lv) st h Q ↔ WP d 17 43 (some (.ref a) :: lv) (.ref a :: st) h Q := WP_st rfl
theorem S17_43 : WP d 17 43 (a0 :: a1 :: a2v :: a3 :: some (.int x) :: lv) st h Q ↔ WP d 17 45 (a0 :: a1 :: a2v :: a3 :: some (.int x) :: lv) (.int x :: st) h Q := WP_st rfl
theorem S17_45 : WP d 17 45 (a0 :: some (.int x) :: lv) st h Q ↔ WP d 17 46 (a0 :: some (.int x) :: lv) (.int x :: st) h Q := WP_st rfl
theorem S17_46 : WP d 17 46 (a0 :: a1 :: some (.long u) :: lv) st h Q ↔ WP d 17 47 (a0 :: a1 :: some (.long u) :: lv) (.long u :: st) h Q := WP_st rfl
theorem S17_47 {pr0 : Nat} {pi0 : Int32} {pi1 : Int32} {pj0 : Int64} (hs : shp pr0 = some (0, 1)) : WP (d + 1) 17 47 lv [.long pj0, .int pi1, .int pi0, .ref pr0] h Q ↔ WP d 18 0 [some (.ref pr0), some (.int pi0), some (.int pi1), some (.long pj0), none, none, none, none] [] h (kV (d + 1) 17 50 lv [] Q) := WP_callVV rfl rfl rfl rfl rfl hs
theorem S17_50 : WP d 17 50 (a0 :: a1 :: a2v :: a3 :: some (.int x) :: lv) st h Q ↔ WP d 17 53 (a0 :: a1 :: a2v :: kl a3 :: some (.int (x + 1)) :: lv) st h Q := WP_st (by rfl)
theorem S17_53 : WP d 17 53 lv st h Q ↔ WP d 17 27 lv st h Q := WP_st rfl
theorem S17_56 : WP d 17 56 (some (.ref a) :: lv) st h Q ↔ WP d 17 57 (some (.ref a) :: lv) (.ref a :: st) h Q := WP_st rfl
theorem S17_57 : WP d 17 57 (a0 :: a1 :: some (.long u) :: lv) st h Q ↔ WP d 17 58 (a0 :: a1 :: some (.long u) :: lv) (.long u :: st) h Q := WP_st rfl
theorem S17_58 (hs : shp a = some (0, 1)) : WP d 17 58 lv (.long u :: .ref a :: st) h Q ↔ WP d 17 61 lv st (setL h a 4 u) Q := WP_putL (r := 68) rfl hs (by decide)
theorem S17_61 : WP d 17 61 (a0 :: some (.int x) :: lv) st h Q ↔ WP d 17 64 (kl a0 :: some (.int (x + 1)) :: lv) st h Q := WP_st (by rfl)
theorem S17_64 : WP d 17 64 lv st h Q ↔ WP d 17 7 lv st h Q := WP_st rfl
theorem S17_67 : WP d 17 67 lv [] h Q ↔ Q (some none) h := WP_end rfl rfl rfl
theorem S18_0 : WP d 18 0 (some (.ref a) :: lv) st h Q ↔ WP d 18 1 (some (.ref a) :: lv) (.ref a :: st) h Q := WP_st rfl
theorem S18_1 (hs : shp a = some (0, 1)) : WP d 18 1 lv (.ref a :: st) h Q ↔ WP d 18 4 lv (.ref (RV a 2) :: st) h Q := WP_getR (r := 66) rfl hs (by decide)
theorem S18_4 : WP d 18 4 (a0 :: some (.int x) :: lv) st h Q ↔ WP d 18 5 (a0 :: some (.int x) :: lv) (.int x :: st) h Q := WP_st rfl
theorem S18_5 (hi : okR a i) : WP d 18 5 lv (.int i :: .ref a :: st) h Q ↔ WP d 18 6 lv (.ref (RV a i.toNatClampNeg) :: st) h Q := WP_aald rfl hi
theorem S18_6 : WP d 18 6 (a0 :: a1 :: some (.int x) :: lv) st h Q ↔ WP d 18 7 (a0 :: a1 :: some (.int x) :: lv) (.int x :: st) h Q := WP_st rfl
theorem S18_7 (hi : okA 4 a i) : WP d 18 7 lv (.int i :: .ref a :: st) h Q ↔ WP d 18 8 lv (.long (h.2.1 a i.toNatClampNeg) :: st) h Q := WP_lald rfl hi
theorem S18_8 : WP d 18 8 (a0 :: a1 :: a2v :: a3 :: a4 :: a5 :: a6 :: lv) (.long u :: st) h Q ↔ WP d 18 10 (a0 :: a1 :: a2v :: a3 :: kl a4 :: some (.long u) :: none :: lv) st h Q := WP_st (by rfl)
theorem S18_10 : WP d 18 10 lv st h Q ↔ WP d 18 11 lv (.int 0 :: st) h Q := WP_st rfl
theorem S18_11 : WP d 18 11 (a0 :: a1 :: a2v :: a3 :: a4 :: a5 :: a6 :: a7 :: lv) (.int x :: st) h Q ↔ WP d 18 13 (a0 :: a1 :: a2v :: a3 :: a4 :: a5 :: kl a6 :: some (.int x) :: lv) st h Q := WP_st (by rfl)
theorem S18_13 : WP d 18 13 (a0 :: a1 :: a2v :: a3 :: a4 :: a5 :: a6 :: some (.int x) :: lv) st h Q ↔ WP d 18 15 (a0 :: a1 :: a2v :: a3 :: a4 :: a5 :: a6 :: some (.int x) :: lv) (.int x :: st) h Q := WP_st rfl
theorem S18_15 : WP d 18 15 lv st h Q ↔ WP d 18 17 lv (.int 11 :: st) h Q := WP_st rfl
theorem S18_17 : WP d 18 17 lv (.int y :: .int x :: st) h Q ↔ if y ≤ x then WP d 18 66 lv st h Q else WP d 18 20 lv st h Q := WP_br rfl
theorem S18_20 : WP d 18 20 (some (.ref a) :: lv) st h Q ↔ WP d 18 21 (some (.ref a) :: lv) (.ref a :: st) h Q := WP_st rfl
theorem S18_21 (hs : shp a = some (0, 1)) : WP d 18 21 lv (.ref a :: st) h Q ↔ WP d 18 24 lv (.ref (RV a 2) :: st) h Q := WP_getR (r := 66) rfl hs (by decide)
theorem S18_24 : WP d 18 24 (a0 :: some (.int x) :: lv) st h Q ↔ WP d 18 25 (a0 :: some (.int x) :: lv) (.int x :: st) h Q := WP_st rfl
theorem S18_25 (hi : okR a i) : WP d 18 25 lv (.int i :: .ref a :: st) h Q ↔ WP d 18 26 lv (.ref (RV a i.toNatClampNeg) :: st) h Q := WP_aald rfl hi
theorem S18_26 : WP d 18 26 (a0 :: a1 :: a2v :: a3 :: a4 :: a5 :: a6 :: some (.int x) :: lv) st h Q ↔ WP d 18 28 (a0 :: a1 :: a2v :: a3 :: a4 :: a5 :: a6 :: some (.int x) :: lv) (.int x :: st) h Q := WP_st rfl
theorem S18_28 : WP d 18 28 (a0 :: a1 :: a2v :: some (.long u) :: lv) st h Q ↔ WP d 18 29 (a0 :: a1 :: a2v :: some (.long u) :: lv) (.long u :: st) h Q := WP_st rfl
theorem S18_29 : WP d 18 29 (some (.ref a) :: lv) st h Q ↔ WP d 18 30 (some (.ref a) :: lv) (.ref a :: st) h Q := WP_st rfl
theorem S18_30 (hs : shp a = some (0, 1)) : WP d 18 30 lv (.ref a :: st) h Q ↔ WP d 18 33 lv (.ref (RV a 2) :: st) h Q := WP_getR (r := 66) rfl hs (by decide)
theorem S18_33 : WP d 18 33 (a0 :: some (.int x) :: lv) st h Q ↔ WP d 18 34 (a0 :: some (.int x) :: lv) (.int x :: st) h Q := WP_st rfl
theorem S18_34 (hi : okR a i) : WP d 18 34 lv (.int i :: .ref a :: st) h Q ↔ WP d 18 35 lv (.ref (RV a i.toNatClampNeg) :: st) h Q := WP_aald rfl hi
theorem S18_35 : WP d 18 35 (a0 :: a1 :: a2v :: a3 :: a4 :: a5 :: a6 :: some (.int x) :: lv) st h Q ↔ WP d 18 37 (a0 :: a1 :: a2v :: a3 :: a4 :: a5 :: a6 :: some (.int x) :: lv) (.int x :: st) h Q := WP_st rfl
theorem S18_37 (hi : okA 4 a i) : WP d 18 37 lv (.int i :: .ref a :: st) h Q ↔ WP d 18 38 lv (.long (h.2.1 a i.toNatClampNeg) :: st) h Q := WP_lald rfl hi
theorem S18_38 : WP d 18 38 lv (.long w :: .long u :: st) h Q ↔ WP d 18 39 lv (.long (u * w) :: st) h Q := WP_st rfl
theorem S18_39 : WP d 18 39 (a0 :: a1 :: a2v :: a3 :: a4 :: some (.long u) :: lv) st h Q ↔ WP d 18 41 (a0 :: a1 :: a2v :: a3 :: a4 :: some (.long u) :: lv) (.long u :: st) h Q := WP_st rfl
theorem S18_41 : WP d 18 41 (some (.ref a) :: lv) st h Q ↔ WP d 18 42 (some (.ref a) :: lv) (.ref a :: st) h Q := WP_st rfl
theorem S18_42 (hs : shp a = some (0, 1)) : WP d 18 42 lv (.ref a :: st) h Q ↔ WP d 18 45 lv (.ref (RV a 2) :: st) h Q := WP_getR (r := 66) rfl hs (by decide)
theorem S18_45 : WP d 18 45 (a0 :: a1 :: some (.int x) :: lv) st h Q ↔ WP d 18 46 (a0 :: a1 :: some (.int x) :: lv) (.int x :: st) h Q := WP_st rfl
theorem S18_46 (hi : okR a i) : WP d 18 46 lv (.int i :: .ref a :: st) h Q ↔ WP d 18 47 lv (.ref (RV a i.toNatClampNeg) :: st) h Q := WP_aald rfl hi
theorem S18_47 : WP d 18 47 (a0 :: a1 :: a2v :: a3 :: a4 :: a5 :: a6 :: some (.int x) :: lv) st h Q ↔ WP d 18 49 (a0 :: a1 :: a2v :: a3 :: a4 :: a5 :: a6 :: some (.int x) :: lv) (.int x :: st) h Q := WP_st rfl
theorem S18_49 (hi : okA 4 a i) : WP d 18 49 lv (.int i :: .ref a :: st) h Q ↔ WP d 18 50 lv (.long (h.2.1 a i.toNatClampNeg) :: st) h Q := WP_lald rfl hi
theorem S18_50 : WP d 18 50 lv (.long w :: .long u :: st) h Q ↔ WP d 18 51 lv (.long (u * w) :: st) h Q := WP_st rfl
theorem S18_51 : WP d 18 51 lv (.long w :: .long u :: st) h Q ↔ WP d 18 52 lv (.long (u - w) :: st) h Q := WP_st rfl
theorem S18_52 : WP d 18 52 (some (.ref a) :: lv) st h Q ↔ WP d 18 53 (some (.ref a) :: lv) (.ref a :: st) h Q := WP_st rfl
theorem S18_53 (hs : shp a = some (0, 1)) : WP d 18 53 lv (.ref a :: st) h Q ↔ WP d 18 56 lv (.long (h.2.1 a 4) :: st) h Q := WP_getL (r := 68) rfl hs (by decide)
theorem S18_56 {pj0 : Int64} {pj1 : Int64} {qr0 : Nat} {qi0 : Int32} : WP (d + 1) 18 56 lv [.long pj1, .long pj0, .int qi0, .ref qr0] h Q ↔ WP d 20 0 [some (.long pj0), none, some (.long pj1), none] [] h (kR (d + 1) 18 59 lv [.int qi0, .ref qr0] Q) := WP_callSR rfl rfl rfl rfl rfl
theorem S18_59 (hi : okA 4 a i) : WP d 18 59 lv (.long u :: .int i :: .ref a :: st) h Q ↔ WP d 18 60 lv st (setL h a i.toNatClampNeg u) Q := WP_last rfl hi
theorem S18_60 : WP d 18 60 (a0 :: a1 :: a2v :: a3 :: a4 :: a5 :: a6 :: some (.int x) :: lv) st h Q ↔ WP d 18 63 (a0 :: a1 :: a2v :: a3 :: a4 :: a5 :: kl a6 :: some (.int (x + 1)) :: lv) st h Q := WP_st (by rfl)
theorem S18_63 : WP d 18 63 lv st h Q ↔ WP d 18 13 lv st h Q := WP_st rfl
theorem S18_66 : WP d 18 66 lv [] h Q ↔ Q (some none) h := WP_end rfl rfl rfl
theorem S19_0 : WP d 19 0 (a0 :: a1 :: a2v :: a3 :: some (.int x) :: lv) st h Q ↔ WP d 19 2 (a0 :: a1 :: a2v :: a3 :: some (.int x) :: lv) (.int x :: st) h Q := WP_st rfl
theorem S19_2 : WP d 19 2 lv (.int x :: st) h Q ↔ if x = 0 then WP d 19 5 lv st h Q else WP d 19 9 lv st h Q := WP_br rfl
theorem S19_5 : WP d 19 5 (some (.long u) :: lv) st h Q ↔ WP d 19 6 (some (.long u) :: lv) (.long u :: st) h Q := WP_st rfl
theorem S19_6 : WP d 19 6 lv st h Q ↔ WP d 19 10 lv st h Q := WP_st rfl
theorem S19_9 : WP d 19 9 (a0 :: a1 :: some (.long u) :: lv) st h Q ↔ WP d 19 10 (a0 :: a1 :: some (.long u) :: lv) (.long u :: st) h Q := WP_st rfl
theorem S19_10 : WP d 19 10 (some (.long u) :: lv) st h Q ↔ WP d 19 11 (some (.long u) :: lv) (.long u :: st) h Q := WP_st rfl
theorem S19_11 {pj0 : Int64} {qj1 : Int64} : WP (d + 1) 19 11 lv [.long pj0, .long qj1] h Q ↔ WP d 202 0 [some (.long pj0), none] [] h (kR (d + 1) 19 14 lv [.long qj1] Q) := WP_callSR rfl rfl rfl rfl rfl
theorem S19_14 : WP d 19 14 (a0 :: a1 :: some (.long u) :: lv) st h Q ↔ WP d 19 15 (a0 :: a1 :: some (.long u) :: lv) (.long u :: st) h Q := WP_st rfl
theorem S19_15 {pj0 : Int64} {pj1 : Int64} {qj2 : Int64} : WP (d + 1) 19 15 lv [.long pj1, .long pj0, .long qj2] h Q ↔ WP d 22 0 [some (.long pj0), none, some (.long pj1), none, none, none, none, none, none, none, none] [] h (kR (d + 1) 19 18 lv [.long qj2] Q) := WP_callSR rfl rfl rfl rfl rfl
theorem S19_18 {pj0 : Int64} {pj1 : Int64} : WP (d + 1) 19 18 lv [.long pj1, .long pj0] h Q ↔ WP d 20 0 [some (.long pj0), none, some (.long pj1), none] [] h (kR (d + 1) 19 21 lv [] Q) := WP_callSR rfl rfl rfl rfl rfl
theorem S19_21 : WP d 19 21 lv [.long u] h Q ↔ Q (some (some (.long u))) h := WP_end rfl rfl rfl
theorem S20_0 : WP d 20 0 (a0 :: a1 :: some (.long u) :: lv) st h Q ↔ WP d 20 1 (a0 :: a1 :: some (.long u) :: lv) (.long u :: st) h Q := WP_st rfl
theorem S20_1 : WP d 20 1 lv st h Q ↔ WP d 20 2 lv (.long 0 :: st) h Q := WP_st rfl
theorem S20_2 : WP d 20 2 lv (.long w :: .long u :: st) h Q ↔ WP d 20 3 lv (.int (lg_cmp u w) :: st) h Q := WP_st rfl
theorem S20_3 : WP d 20 3 lv (.int x :: st) h Q ↔ if x = 0 then WP d 20 6 lv st h Q else WP d 20 10 lv st h Q := WP_br rfl
theorem S20_6 : WP d 20 6 lv st h Q ↔ WP d 20 7 lv (.long 0 :: st) h Q := WP_st rfl
theorem S20_7 : WP d 20 7 lv st h Q ↔ WP d 20 13 lv st h Q := WP_st rfl
theorem S20_10 : WP d 20 10 (some (.long u) :: lv) st h Q ↔ WP d 20 11 (some (.long u) :: lv) (.long u :: st) h Q := WP_st rfl
theorem S20_11 : WP d 20 11 (a0 :: a1 :: some (.long u) :: lv) st h Q ↔ WP d 20 12 (a0 :: a1 :: some (.long u) :: lv) (.long u :: st) h Q := WP_st rfl
theorem S20_12 (hy : w ≠ 0) : WP d 20 12 lv (.long w :: .long u :: st) h Q ↔ WP d 20 13 lv (.long (u / w) :: st) h Q := WP_ldiv rfl hy
theorem S20_13 : WP d 20 13 lv [.long u] h Q ↔ Q (some (some (.long u))) h := WP_end rfl rfl rfl
theorem S21_0 : WP d 21 0 (a0 :: a1 :: some (.long u) :: lv) st h Q ↔ WP d 21 1 (a0 :: a1 :: some (.long u) :: lv) (.long u :: st) h Q := WP_st rfl
theorem S21_1 : WP d 21 1 lv st h Q ↔ WP d 21 2 lv (.long 0 :: st) h Q := WP_st rfl
theorem S21_2 : WP d 21 2 lv (.long w :: .long u :: st) h Q ↔ WP d 21 3 lv (.int (lg_cmp u w) :: st) h Q := WP_st rfl
theorem S21_3 : WP d 21 3 lv (.int x :: st) h Q ↔ if x = 0 then WP d 21 6 lv st h Q else WP d 21 10 lv st h Q := WP_br rfl
theorem S21_6 : WP d 21 6 lv st h Q ↔ WP d 21 7 lv (.long 0 :: st) h Q := WP_st rfl
theorem S21_7 : WP d 21 7 lv st h Q ↔ WP d 21 15 lv st h Q := WP_st rfl
theorem S21_10 : WP d 21 10 (some (.long u) :: lv) st h Q ↔ WP d 21 11 (some (.long u) :: lv) (.long u :: st) h Q := WP_st rfl
theorem S21_11 : WP d 21 11 (a0 :: a1 :: some (.long u) :: lv) st h Q ↔ WP d 21 12 (a0 :: a1 :: some (.long u) :: lv) (.long u :: st) h Q := WP_st rfl
theorem S21_12 {pj0 : Int64} {pj1 : Int64} : WP (d + 1) 21 12 lv [.long pj1, .long pj0] h Q ↔ WP d 200 0 [some (.long pj0), none, some (.long pj1), none, none, none] [] h (kR (d + 1) 21 15 lv [] Q) := WP_callSR rfl rfl rfl rfl rfl
theorem S21_15 : WP d 21 15 lv [.long u] h Q ↔ Q (some (some (.long u))) h := WP_end rfl rfl rfl
theorem S22_0 : WP d 22 0 (some (.long u) :: lv) st h Q ↔ WP d 22 1 (some (.long u) :: lv) (.long u :: st) h Q := WP_st rfl
theorem S22_1 : WP d 22 1 (a0 :: a1 :: a2v :: a3 :: a4 :: a5 :: lv) (.long u :: st) h Q ↔ WP d 22 3 (a0 :: a1 :: a2v :: kl a3 :: some (.long u) :: none :: lv) st h Q := WP_st (by rfl)
theorem S22_3 : WP d 22 3 (a0 :: a1 :: some (.long u) :: lv) st h Q ↔ WP d 22 4 (a0 :: a1 :: some (.long u) :: lv) (.long u :: st) h Q := WP_st rfl
theorem S22_4 : WP d 22 4 (a0 :: a1 :: a2v :: a3 :: a4 :: a5 :: a6 :: a7 :: lv) (.long u :: st) h Q ↔ WP d 22 6 (a0 :: a1 :: a2v :: a3 :: a4 :: kl a5 :: some (.long u) :: none :: lv) st h Q := WP_st (by rfl)
theorem S22_6 : WP d 22 6 lv st h Q ↔ WP d 22 7 lv (.int 0 :: st) h Q := WP_st rfl
theorem S22_7 : WP d 22 7 (a0 :: a1 :: a2v :: a3 :: a4 :: a5 :: a6 :: a7 :: a8 :: lv) (.int x :: st) h Q ↔ WP d 22 9 (a0 :: a1 :: a2v :: a3 :: a4 :: a5 :: a6 :: kl a7 :: some (.int x) :: lv) st h Q := WP_st (by rfl)
theorem S22_9 : WP d 22 9 (a0 :: a1 :: a2v :: a3 :: a4 :: a5 :: a6 :: a7 :: some (.int x) :: lv) st h Q ↔ WP d 22 11 (a0 :: a1 :: a2v :: a3 :: a4 :: a5 :: a6 :: a7 :: some (.int x) :: lv) (.int x :: st) h Q := WP_st rfl
theorem S22_11 : WP d 22 11 lv st h Q ↔ WP d 22 14 lv (.int 200 :: st) h Q := WP_st rfl
theorem S22_14 : WP d 22 14 lv (.int y :: .int x :: st) h Q ↔ if y ≤ x then WP d 22 45 lv st h Q else WP d 22 17 lv st h Q := WP_br rfl
theorem S22_17 : WP d 22 17 (a0 :: a1 :: a2v :: a3 :: a4 :: a5 :: some (.long u) :: lv) st h Q ↔ WP d 22 19 (a0 :: a1 :: a2v :: a3 :: a4 :: a5 :: some (.long u) :: lv) (.long u :: st) h Q := WP_st rfl
theorem S22_19 : WP d 22 19 lv st h Q ↔ WP d 22 20 lv (.long 0 :: st) h Q := WP_st rfl
theorem S22_20 : WP d 22 20 lv (.long w :: .long u :: st) h Q ↔ WP d 22 21 lv (.int (lg_cmp u w) :: st) h Q := WP_st rfl
theorem S22_21 : WP d 22 21 lv (.int x :: st) h Q ↔ if x = 0 then WP d 22 45 lv st h Q else WP d 22 24 lv st h Q := WP_br rfl
theorem S22_24 : WP d 22 24 (a0 :: a1 :: a2v :: a3 :: some (.long u) :: lv) st h Q ↔ WP d 22 26 (a0 :: a1 :: a2v :: a3 :: some (.long u) :: lv) (.long u :: st) h Q := WP_st rfl
theorem S22_26 : WP d 22 26 (a0 :: a1 :: a2v :: a3 :: a4 :: a5 :: some (.long u) :: lv) st h Q ↔ WP d 22 28 (a0 :: a1 :: a2v :: a3 :: a4 :: a5 :: some (.long u) :: lv) (.long u :: st) h Q := WP_st rfl
theorem S22_28 (hy : w ≠ 0) : WP d 22 28 lv (.long w :: .long u :: st) h Q ↔ WP d 22 29 lv (.long (u - u / w * w) :: st) h Q := WP_lrem rfl hy
theorem S22_29 : WP d 22 29 (a0 :: a1 :: a2v :: a3 :: a4 :: a5 :: a6 :: a7 :: a8 :: a9 :: a10 :: lv) (.long u :: st) h Q ↔ WP d 22 31 (a0 :: a1 :: a2v :: a3 :: a4 :: a5 :: a6 :: a7 :: kl a8 :: some (.long u) :: none :: lv) st h Q := WP_st (by rfl)
theorem S22_31 : WP d 22 31 (a0 :: a1 :: a2v :: a3 :: a4 :: a5 :: some (.long u) :: lv) st h Q ↔ WP d 22 33 (a0 :: a1 :: a2v :: a3 :: a4 :: a5 :: some (.long u) :: lv) (.long u :: st) h Q := WP_st rfl
theorem S22_33 : WP d 22 33 (a0 :: a1 :: a2v :: a3 :: a4 :: a5 :: lv) (.long u :: st) h Q ↔ WP d 22 35 (a0 :: a1 :: a2v :: kl a3 :: some (.long u) :: none :: lv) st h Q := WP_st (by rfl)
theorem S22_35 : WP d 22 35 (a0 :: a1 :: a2v :: a3 :: a4 :: a5 :: a6 :: a7 :: a8 :: some (.long u) :: lv) st h Q ↔ WP d 22 37 (a0 :: a1 :: a2v :: a3 :: a4 :: a5 :: a6 :: a7 :: a8 :: some (.long u) :: lv) (.long u :: st) h Q := WP_st rfl
theorem S22_37 : WP d 22 37 (a0 :: a1 :: a2v :: a3 :: a4 :: a5 :: a6 :: a7 :: lv) (.long u :: st) h Q ↔ WP d 22 39 (a0 :: a1 :: a2v :: a3 :: a4 :: kl a5 :: some (.long u) :: none :: lv) st h Q := WP_st (by rfl)
theorem S22_39 : WP d 22 39 (a0 :: a1 :: a2v :: a3 :: a4 :: a5 :: a6 :: a7 :: some (.int x) :: lv) st h Q ↔ WP d 22 42 (a0 :: a1 :: a2v :: a3 :: a4 :: a5 :: a6 :: kl a7 :: some (.int (x + 1)) :: lv) st h Q := WP_st (by rfl)
theorem S22_42 : WP d 22 42 lv st h Q ↔ WP d 22 9 lv st h Q := WP_st rfl
theorem S22_45 : WP d 22 45 (a0 :: a1 :: a2v :: a3 :: some (.long u) :: lv) st h Q ↔ WP d 22 47 (a0 :: a1 :: a2v :: a3 :: some (.long u) :: lv) (.long u :: st) h Q := WP_st rfl
theorem S22_47 : WP d 22 47 lv [.long u] h Q ↔ Q (some (some (.long u))) h := WP_end rfl rfl rfl
theorem S23_0 : WP d 23 0 lv st h Q ↔ WP d 23 1 lv (.int 0 :: st) h Q := WP_st rfl
theorem S23_1 : WP d 23 1 (a0 :: a1 :: a2v :: a3 :: a4 :: a5 :: a6 :: a7 :: a8 :: lv) (.int x :: st) h Q ↔ WP d 23 3 (a0 :: a1 :: a2v :: a3 :: a4 :: a5 :: a6 :: kl a7 :: some (.int x) :: lv) st h Q := WP_st (by rfl)
theorem S23_3 : WP d 23 3 (a0 :: a1 :: a2v :: a3 :: a4 :: a5 :: a6 :: a7 :: some (.int x) :: lv) st h Q ↔ WP d 23 5 (a0 :: a1 :: a2v :: a3 :: a4 :: a5 :: a6 :: a7 :: some (.int x) :: lv) (.int x :: st) h Q := WP_st rfl
theorem S23_5 : WP d 23 5 lv st h Q ↔ WP d 23 8 lv (.int 200 :: st) h Q := WP_st rfl
theorem S23_8 : WP d 23 8 lv (.int y :: .int x :: st) h Q ↔ if y ≤ x then WP d 23 123 lv st h Q else WP d 23 11 lv st h Q := WP_br rfl
theorem S23_11 : WP d 23 11 (a0 :: a1 :: some (.long u) :: lv) st h Q ↔ WP d 23 12 (a0 :: a1 :: some (.long u) :: lv) (.long u :: st) h Q := WP_st rfl
theorem S23_12 : WP d 23 12 lv st h Q ↔ WP d 23 13 lv (.long 0 :: st) h Q := WP_st rfl
theorem S23_13 : WP d 23 13 lv (.long w :: .long u :: st) h Q ↔ WP d 23 14 lv (.int (lg_cmp u w) :: st) h Q := WP_st rfl
theorem S23_14 : WP d 23 14 lv (.int x :: st) h Q ↔ if x ≤ 0 then WP d 23 123 lv st h Q else WP d 23 17 lv st h Q := WP_br rfl
theorem S23_17 : WP d 23 17 (a0 :: a1 :: a2v :: a3 :: a4 :: a5 :: some (.long u) :: lv) st h Q ↔ WP d 23 19 (a0 :: a1 :: a2v :: a3 :: a4 :: a5 :: some (.long u) :: lv) (.long u :: st) h Q := WP_st rfl
theorem S23_19 : WP d 23 19 lv st h Q ↔ WP d 23 20 lv (.long 0 :: st) h Q := WP_st rfl
theorem S23_20 : WP d 23 20 lv (.long w :: .long u :: st) h Q ↔ WP d 23 21 lv (.int (lg_cmp u w) :: st) h Q := WP_st rfl
theorem S23_21 : WP d 23 21 lv (.int x :: st) h Q ↔ if x ≤ 0 then WP d 23 123 lv st h Q else WP d 23 24 lv st h Q := WP_br rfl
theorem S23_24 : WP d 23 24 (some (.long u) :: lv) st h Q ↔ WP d 23 25 (some (.long u) :: lv) (.long u :: st) h Q := WP_st rfl
theorem S23_25 : WP d 23 25 (a0 :: a1 :: some (.long u) :: lv) st h Q ↔ WP d 23 26 (a0 :: a1 :: some (.long u) :: lv) (.long u :: st) h Q := WP_st rfl
theorem S23_26 (hy : w ≠ 0) : WP d 23 26 lv (.long w :: .long u :: st) h Q ↔ WP d 23 27 lv (.long (u / w) :: st) h Q := WP_ldiv rfl hy
theorem S23_27 : WP d 23 27 (a0 :: a1 :: a2v :: a3 :: a4 :: a5 :: a6 :: a7 :: a8 :: a9 :: a10 :: lv) (.long u :: st) h Q ↔ WP d 23 29 (a0 :: a1 :: a2v :: a3 :: a4 :: a5 :: a6 :: a7 :: kl a8 :: some (.long u) :: none :: lv) st h Q := WP_st (by rfl)
theorem S23_29 : WP d 23 29 (a0 :: a1 :: a2v :: a3 :: some (.long u) :: lv) st h Q ↔ WP d 23 31 (a0 :: a1 :: a2v :: a3 :: some (.long u) :: lv) (.long u :: st) h Q := WP_st rfl
theorem S23_31 : WP d 23 31 (a0 :: a1 :: a2v :: a3 :: a4 :: a5 :: some (.long u) :: lv) st h Q ↔ WP d 23 33 (a0 :: a1 :: a2v :: a3 :: a4 :: a5 :: some (.long u) :: lv) (.long u :: st) h Q := WP_st rfl
theorem S23_33 (hy : w ≠ 0) : WP d 23 33 lv (.long w :: .long u :: st) h Q ↔ WP d 23 34 lv (.long (u / w) :: st) h Q := WP_ldiv rfl hy
theorem S23_34 : WP d 23 34 (a0 :: a1 :: a2v :: a3 :: a4 :: a5 :: a6 :: a7 :: a8 :: a9 :: a10 :: a11 :: a12 :: lv) (.long u :: st) h Q ↔ WP d 23 36 (a0 :: a1 :: a2v :: a3 :: a4 :: a5 :: a6 :: a7 :: a8 :: a9 :: kl a10 :: some (.long u) :: none :: lv) st h Q := WP_st (by rfl)
theorem S23_36 : WP d 23 36 (a0 :: a1 :: a2v :: a3 :: a4 :: a5 :: a6 :: a7 :: a8 :: some (.long u) :: lv) st h Q ↔ WP d 23 38 (a0 :: a1 :: a2v :: a3 :: a4 :: a5 :: a6 :: a7 :: a8 :: some (.long u) :: lv) (.long u :: st) h Q := WP_st rfl
theorem S23_38 : WP d 23 38 (a0 :: a1 :: a2v :: a3 :: a4 :: a5 :: a6 :: a7 :: a8 :: a9 :: a10 :: some (.long u) :: lv) st h Q ↔ WP d 23 40 (a0 :: a1 :: a2v :: a3 :: a4 :: a5 :: a6 :: a7 :: a8 :: a9 :: a10 :: some (.long u) :: lv) (.long u :: st) h Q := WP_st rfl
theorem S23_40 : WP d 23 40 lv (.long w :: .long u :: st) h Q ↔ WP d 23 41 lv (.int (lg_cmp u w) :: st) h Q := WP_st rfl
theorem S23_41 : WP d 23 41 lv (.int x :: st) h Q ↔ if x = 0 then WP d 23 58 lv st h Q else WP d 23 44 lv st h Q := WP_br rfl
theorem S23_44 : WP d 23 44 (a0 :: a1 :: a2v :: a3 :: a4 :: a5 :: a6 :: a7 :: a8 :: some (.long u) :: lv) st h Q ↔ WP d 23 46 (a0 :: a1 :: a2v :: a3 :: a4 :: a5 :: a6 :: a7 :: a8 :: some (.long u) :: lv) (.long u :: st) h Q := WP_st rfl
theorem S23_46 : WP d 23 46 (a0 :: a1 :: a2v :: a3 :: a4 :: a5 :: a6 :: a7 :: a8 :: a9 :: a10 :: some (.long u) :: lv) st h Q ↔ WP d 23 48 (a0 :: a1 :: a2v :: a3 :: a4 :: a5 :: a6 :: a7 :: a8 :: a9 :: a10 :: some (.long u) :: lv) (.long u :: st) h Q := WP_st rfl
theorem S23_48 : WP d 23 48 lv (.long w :: .long u :: st) h Q ↔ WP d 23 49 lv (.int (lg_cmp u w) :: st) h Q := WP_st rfl
theorem S23_49 : WP d 23 49 lv (.int x :: st) h Q ↔ if x ≤ 0 then WP d 23 56 lv st h Q else WP d 23 52 lv st h Q := WP_br rfl
theorem S23_52 : WP d 23 52 lv st h Q ↔ WP d 23 53 lv (.int 1 :: st) h Q := WP_st rfl
theorem S23_53 : WP d 23 53 lv st h Q ↔ WP d 23 57 lv st h Q := WP_st rfl
theorem S23_56 : WP d 23 56 lv st h Q ↔ WP d 23 57 lv (.int 0 :: st) h Q := WP_st rfl
theorem S23_57 (hx : isB x) : WP d 23 57 lv [.int x] h Q ↔ Q (some (some (.int x))) h := WP_endZ rfl rfl hx
theorem S23_58 : WP d 23 58 (some (.long u) :: lv) st h Q ↔ WP d 23 59 (some (.long u) :: lv) (.long u :: st) h Q := WP_st rfl
theorem S23_59 : WP d 23 59 (a0 :: a1 :: a2v :: a3 :: a4 :: a5 :: a6 :: a7 :: a8 :: some (.long u) :: lv) st h Q ↔ WP d 23 61 (a0 :: a1 :: a2v :: a3 :: a4 :: a5 :: a6 :: a7 :: a8 :: some (.long u) :: lv) (.long u :: st) h Q := WP_st rfl
theorem S23_61 : WP d 23 61 (a0 :: a1 :: some (.long u) :: lv) st h Q ↔ WP d 23 62 (a0 :: a1 :: some (.long u) :: lv) (.long u :: st) h Q := WP_st rfl
theorem S23_62 : WP d 23 62 lv (.long w :: .long u :: st) h Q ↔ WP d 23 63 lv (.long (u * w) :: st) h Q := WP_st rfl
theorem S23_63 : WP d 23 63 lv (.long w :: .long u :: st) h Q ↔ WP d 23 64 lv (.long (u - w) :: st) h Q := WP_st rfl
theorem S23_64 : WP d 23 64 (a0 :: a1 :: a2v :: a3 :: a4 :: a5 :: a6 :: a7 :: a8 :: a9 :: a10 :: a11 :: a12 :: a13 :: a14 :: lv) (.long u :: st) h Q ↔ WP d 23 66 (a0 :: a1 :: a2v :: a3 :: a4 :: a5 :: a6 :: a7 :: a8 :: a9 :: a10 :: a11 :: kl a12 :: some (.long u) :: none :: lv) st h Q := WP_st (by rfl)
theorem S23_66 : WP d 23 66 (a0 :: a1 :: a2v :: a3 :: some (.long u) :: lv) st h Q ↔ WP d 23 68 (a0 :: a1 :: a2v :: a3 :: some (.long u) :: lv) (.long u :: st) h Q := WP_st rfl
theorem S23_68 : WP d 23 68 (a0 :: a1 :: a2v :: a3 :: a4 :: a5 :: a6 :: a7 :: a8 :: a9 :: a10 :: some (.long u) :: lv) st h Q ↔ WP d 23 70 (a0 :: a1 :: a2v :: a3 :: a4 :: a5 :: a6 :: a7 :: a8 :: a9 :: a10 :: some (.long u) :: lv) (.long u :: st) h Q := WP_st rfl
theorem S23_70 : WP d 23 70 (a0 :: a1 :: a2v :: a3 :: a4 :: a5 :: some (.long u) :: lv) st h Q ↔ WP d 23 72 (a0 :: a1 :: a2v :: a3 :: a4 :: a5 :: some (.long u) :: lv) (.long u :: st) h Q := WP_st rfl
theorem S23_72 : WP d 23 72 lv (.long w :: .long u :: st) h Q ↔ WP d 23 73 lv (.long (u * w) :: st) h Q := WP_st rfl
theorem S23_73 : WP d 23 73 lv (.long w :: .long u :: st) h Q ↔ WP d 23 74 lv (.long (u - w) :: st) h Q := WP_st rfl
theorem S23_74 : WP d 23 74 (a0 :: a1 :: a2v :: a3 :: a4 :: a5 :: a6 :: a7 :: a8 :: a9 :: a10 :: a11 :: a12 :: a13 :: a14 :: a15 :: a16 :: lv) (.long u :: st) h Q ↔ WP d 23 76 (a0 :: a1 :: a2v :: a3 :: a4 :: a5 :: a6 :: a7 :: a8 :: a9 :: a10 :: a11 :: a12 :: a13 :: kl a14 :: some (.long u) :: none :: lv) st h Q := WP_st (by rfl)
theorem S23_76 : WP d 23 76 (a0 :: a1 :: a2v :: a3 :: a4 :: a5 :: a6 :: a7 :: a8 :: a9 :: a10 :: a11 :: a12 :: some (.long u) :: lv) st h Q ↔ WP d 23 78 (a0 :: a1 :: a2v :: a3 :: a4 :: a5 :: a6 :: a7 :: a8 :: a9 :: a10 :: a11 :: a12 :: some (.long u) :: lv) (.long u :: st) h Q := WP_st rfl
theorem S23_78 : WP d 23 78 lv st h Q ↔ WP d 23 79 lv (.long 0 :: st) h Q := WP_st rfl
theorem S23_79 : WP d 23 79 lv (.long w :: .long u :: st) h Q ↔ WP d 23 80 lv (.int (lg_cmp u w) :: st) h Q := WP_st rfl
theorem S23_80 : WP d 23 80 lv (.int x :: st) h Q ↔ if x = 0 then WP d 23 90 lv st h Q else WP d 23 83 lv st h Q := WP_br rfl
theorem S23_83 : WP d 23 83 (a0 :: a1 :: a2v :: a3 :: a4 :: a5 :: a6 :: a7 :: a8 :: a9 :: a10 :: a11 :: a12 :: a13 :: a14 :: some (.long u) :: lv) st h Q ↔ WP d 23 85 (a0 :: a1 :: a2v :: a3 :: a4 :: a5 :: a6 :: a7 :: a8 :: a9 :: a10 :: a11 :: a12 :: a13 :: a14 :: some (.long u) :: lv) (.long u :: st) h Q := WP_st rfl
theorem S23_85 : WP d 23 85 lv st h Q ↔ WP d 23 86 lv (.long 0 :: st) h Q := WP_st rfl
theorem S23_86 : WP d 23 86 lv (.long w :: .long u :: st) h Q ↔ WP d 23 87 lv (.int (lg_cmp u w) :: st) h Q := WP_st rfl
theorem S23_87 : WP d 23 87 lv (.int x :: st) h Q ↔ if x = 0 then WP d 23 90 lv st h Q else WP d 23 104 lv st h Q := WP_br rfl
theorem S23_90 : WP d 23 90 (a0 :: a1 :: a2v :: a3 :: a4 :: a5 :: a6 :: a7 :: a8 :: a9 :: a10 :: a11 :: a12 :: some (.long u) :: lv) st h Q ↔ WP d 23 92 (a0 :: a1 :: a2v :: a3 :: a4 :: a5 :: a6 :: a7 :: a8 :: a9 :: a10 :: a11 :: a12 :: some (.long u) :: lv) (.long u :: st) h Q := WP_st rfl
theorem S23_92 : WP d 23 92 (a0 :: a1 :: a2v :: a3 :: a4 :: a5 :: a6 :: a7 :: a8 :: a9 :: a10 :: a11 :: a12 :: a13 :: a14 :: some (.long u) :: lv) st h Q ↔ WP d 23 94 (a0 :: a1 :: a2v :: a3 :: a4 :: a5 :: a6 :: a7 :: a8 :: a9 :: a10 :: a11 :: a12 :: a13 :: a14 :: some (.long u) :: lv) (.long u :: st) h Q := WP_st rfl
theorem S23_94 : WP d 23 94 lv (.long w :: .long u :: st) h Q ↔ WP d 23 95 lv (.int (lg_cmp u w) :: st) h Q := WP_st rfl
theorem S23_95 : WP d 23 95 lv (.int x :: st) h Q ↔ if x ≤ 0 then WP d 23 102 lv st h Q else WP d 23 98 lv st h Q := WP_br rfl
theorem S23_98 : WP d 23 98 lv st h Q ↔ WP d 23 99 lv (.int 1 :: st) h Q := WP_st rfl
theorem S23_99 : WP d 23 99 lv st h Q ↔ WP d 23 103 lv st h Q := WP_st rfl
theorem S23_102 : WP d 23 102 lv st h Q ↔ WP d 23 103 lv (.int 0 :: st) h Q := WP_st rfl
theorem S23_103 (hx : isB x) : WP d 23 103 lv [.int x] h Q ↔ Q (some (some (.int x))) h := WP_endZ rfl rfl hx
theorem S23_104 : WP d 23 104 (a0 :: a1 :: a2v :: a3 :: a4 :: a5 :: some (.long u) :: lv) st h Q ↔ WP d 23 106 (a0 :: a1 :: a2v :: a3 :: a4 :: a5 :: some (.long u) :: lv) (.long u :: st) h Q := WP_st rfl
theorem S23_106 : WP d 23 106 (a0 :: a1 :: lv) (.long u :: st) h Q ↔ WP d 23 107 (some (.long u) :: none :: lv) st h Q := WP_st (by rfl)
theorem S23_107 : WP d 23 107 (a0 :: a1 :: some (.long u) :: lv) st h Q ↔ WP d 23 108 (a0 :: a1 :: some (.long u) :: lv) (.long u :: st) h Q := WP_st rfl
theorem S23_108 : WP d 23 108 (a0 :: a1 :: a2v :: a3 :: a4 :: a5 :: lv) (.long u :: st) h Q ↔ WP d 23 110 (a0 :: a1 :: a2v :: kl a3 :: some (.long u) :: none :: lv) st h Q := WP_st (by rfl)
theorem S23_110 : WP d 23 110 (a0 :: a1 :: a2v :: a3 :: a4 :: a5 :: a6 :: a7 :: a8 :: a9 :: a10 :: a11 :: a12 :: a13 :: a14 :: some (.long u) :: lv) st h Q ↔ WP d 23 112 (a0 :: a1 :: a2v :: a3 :: a4 :: a5 :: a6 :: a7 :: a8 :: a9 :: a10 :: a11 :: a12 :: a13 :: a14 :: some (.long u) :: lv) (.long u :: st) h Q := WP_st rfl
theorem S23_112 : WP d 23 112 (a0 :: a1 :: a2v :: a3 :: lv) (.long u :: st) h Q ↔ WP d 23 113 (a0 :: kl a1 :: some (.long u) :: none :: lv) st h Q := WP_st (by rfl)
theorem S23_113 : WP d 23 113 (a0 :: a1 :: a2v :: a3 :: a4 :: a5 :: a6 :: a7 :: a8 :: a9 :: a10 :: a11 :: a12 :: some (.long u) :: lv) st h Q ↔ WP d 23 115 (a0 :: a1 :: a2v :: a3 :: a4 :: a5 :: a6 :: a7 :: a8 :: a9 :: a10 :: a11 :: a12 :: some (.long u) :: lv) (.long u :: st) h Q := WP_st rfl
theorem S23_115 : WP d 23 115 (a0 :: a1 :: a2v :: a3 :: a4 :: a5 :: a6 :: a7 :: lv) (.long u :: st) h Q ↔ WP d 23 117 (a0 :: a1 :: a2v :: a3 :: a4 :: kl a5 :: some (.long u) :: none :: lv) st h Q := WP_st (by rfl)
theorem S23_117 : WP d 23 117 (a0 :: a1 :: a2v :: a3 :: a4 :: a5 :: a6 :: a7 :: some (.int x) :: lv) st h Q ↔ WP d 23 120 (a0 :: a1 :: a2v :: a3 :: a4 :: a5 :: a6 :: kl a7 :: some (.int (x + 1)) :: lv) st h Q := WP_st (by rfl)
theorem S23_120 : WP d 23 120 lv st h Q ↔ WP d 23 3 lv st h Q := WP_st rfl
theorem S23_123 : WP d 23 123 lv st h Q ↔ WP d 23 124 lv (.int 0 :: st) h Q := WP_st rfl
theorem S23_124 (hx : isB x) : WP d 23 124 lv [.int x] h Q ↔ Q (some (some (.int x))) h := WP_endZ rfl rfl hx
theorem S24_0 : WP d 24 0 (some (.ref a) :: lv) st h Q ↔ WP d 24 1 (some (.ref a) :: lv) (.ref a :: st) h Q := WP_st rfl
theorem S24_1 : WP d 24 1 lv st h Q ↔ WP d 24 2 lv (.int 0 :: st) h Q := WP_st rfl
theorem S24_2 (hs : shp a = some (0, 3)) : WP d 24 2 lv (.int x :: .ref a :: st) h Q ↔ WP d 24 5 lv st (setI h a 0 x) Q := WP_putI (r := 192) rfl hs (by decide)
theorem S24_5 : WP d 24 5 (some (.ref a) :: lv) st h Q ↔ WP d 24 6 (some (.ref a) :: lv) (.ref a :: st) h Q := WP_st rfl
theorem S24_6 : WP d 24 6 lv st h Q ↔ WP d 24 7 lv (.int 0 :: st) h Q := WP_st rfl
theorem S24_7 (hs : shp a = some (0, 3)) : WP d 24 7 lv (.int x :: .ref a :: st) h Q ↔ WP d 24 10 lv st (setI h a 1 x) Q := WP_putI (r := 193) rfl hs (by decide)
theorem S24_10 : WP d 24 10 (some (.ref a) :: lv) st h Q ↔ WP d 24 11 (some (.ref a) :: lv) (.ref a :: st) h Q := WP_st rfl
theorem S24_11 : WP d 24 11 lv st h Q ↔ WP d 24 12 lv (.int 0 :: st) h Q := WP_st rfl
theorem S24_12 (hs : shp a = some (0, 3)) : WP d 24 12 lv (.int x :: .ref a :: st) h Q ↔ WP d 24 15 lv st (setI h a 3 x) Q := WP_putI (r := 195) rfl hs (by decide)
theorem S24_15 : WP d 24 15 (some (.ref a) :: lv) st h Q ↔ WP d 24 16 (some (.ref a) :: lv) (.ref a :: st) h Q := WP_st rfl
theorem S24_16 : WP d 24 16 lv st h Q ↔ WP d 24 17 lv (.int 0 :: st) h Q := WP_st rfl
theorem S24_17 (hs : shp a = some (0, 3)) : WP d 24 17 lv (.int x :: .ref a :: st) h Q ↔ WP d 24 20 lv st (setI h a 4 x) Q := WP_putI (r := 196) rfl hs (by decide)
theorem S24_20 : WP d 24 20 lv [] h Q ↔ Q (some none) h := WP_end rfl rfl rfl
theorem S25_0 : WP d 25 0 (some (.ref a) :: lv) st h Q ↔ WP d 25 1 (some (.ref a) :: lv) (.ref a :: st) h Q := WP_st rfl
theorem S25_1 : WP d 25 1 (a0 :: some (.ref a) :: lv) st h Q ↔ WP d 25 2 (a0 :: some (.ref a) :: lv) (.ref a :: st) h Q := WP_st rfl
theorem S25_2 (hs : shp a = some (0, 3)) : WP d 25 2 lv (.ref a :: st) h Q ↔ WP d 25 5 lv (.int (h.1 a 0) :: st) h Q := WP_getI (r := 192) rfl hs (by decide)
theorem S25_5 (hs : shp a = some (0, 3)) : WP d 25 5 lv (.int x :: .ref a :: st) h Q ↔ WP d 25 8 lv st (setI h a 0 x) Q := WP_putI (r := 192) rfl hs (by decide)
theorem S25_8 : WP d 25 8 (some (.ref a) :: lv) st h Q ↔ WP d 25 9 (some (.ref a) :: lv) (.ref a :: st) h Q := WP_st rfl
theorem S25_9 : WP d 25 9 (a0 :: some (.ref a) :: lv) st h Q ↔ WP d 25 10 (a0 :: some (.ref a) :: lv) (.ref a :: st) h Q := WP_st rfl
theorem S25_10 (hs : shp a = some (0, 3)) : WP d 25 10 lv (.ref a :: st) h Q ↔ WP d 25 13 lv (.int (h.1 a 1) :: st) h Q := WP_getI (r := 193) rfl hs (by decide)
theorem S25_13 (hs : shp a = some (0, 3)) : WP d 25 13 lv (.int x :: .ref a :: st) h Q ↔ WP d 25 16 lv st (setI h a 1 x) Q := WP_putI (r := 193) rfl hs (by decide)
theorem S25_16 : WP d 25 16 (some (.ref a) :: lv) st h Q ↔ WP d 25 17 (some (.ref a) :: lv) (.ref a :: st) h Q := WP_st rfl
theorem S25_17 : WP d 25 17 (a0 :: some (.ref a) :: lv) st h Q ↔ WP d 25 18 (a0 :: some (.ref a) :: lv) (.ref a :: st) h Q := WP_st rfl
theorem S25_18 (hs : shp a = some (0, 3)) : WP d 25 18 lv (.ref a :: st) h Q ↔ WP d 25 21 lv (.int (h.1 a 3) :: st) h Q := WP_getI (r := 195) rfl hs (by decide)
theorem S25_21 (hs : shp a = some (0, 3)) : WP d 25 21 lv (.int x :: .ref a :: st) h Q ↔ WP d 25 24 lv st (setI h a 3 x) Q := WP_putI (r := 195) rfl hs (by decide)
theorem S25_24 : WP d 25 24 (some (.ref a) :: lv) st h Q ↔ WP d 25 25 (some (.ref a) :: lv) (.ref a :: st) h Q := WP_st rfl
theorem S25_25 : WP d 25 25 (a0 :: some (.ref a) :: lv) st h Q ↔ WP d 25 26 (a0 :: some (.ref a) :: lv) (.ref a :: st) h Q := WP_st rfl
theorem S25_26 (hs : shp a = some (0, 3)) : WP d 25 26 lv (.ref a :: st) h Q ↔ WP d 25 29 lv (.int (h.1 a 4) :: st) h Q := WP_getI (r := 196) rfl hs (by decide)
theorem S25_29 (hs : shp a = some (0, 3)) : WP d 25 29 lv (.int x :: .ref a :: st) h Q ↔ WP d 25 32 lv st (setI h a 4 x) Q := WP_putI (r := 196) rfl hs (by decide)
theorem S25_32 : WP d 25 32 lv st h Q ↔ WP d 25 33 lv (.int 0 :: st) h Q := WP_st rfl
theorem S25_33 : WP d 25 33 (a0 :: a1 :: a2v :: lv) (.int x :: st) h Q ↔ WP d 25 34 (a0 :: kl a1 :: some (.int x) :: lv) st h Q := WP_st (by rfl)
theorem S25_34 : WP d 25 34 (a0 :: a1 :: some (.int x) :: lv) st h Q ↔ WP d 25 35 (a0 :: a1 :: some (.int x) :: lv) (.int x :: st) h Q := WP_st rfl
theorem S25_35 : WP d 25 35 (some (.ref a) :: lv) st h Q ↔ WP d 25 36 (some (.ref a) :: lv) (.ref a :: st) h Q := WP_st rfl
theorem S25_36 (hs : shp a = some (0, 3)) : WP d 25 36 lv (.ref a :: st) h Q ↔ WP d 25 39 lv (.int (h.1 a 0) :: st) h Q := WP_getI (r := 192) rfl hs (by decide)
theorem S25_39 : WP d 25 39 lv (.int y :: .int x :: st) h Q ↔ if y ≤ x then WP d 25 60 lv st h Q else WP d 25 42 lv st h Q := WP_br rfl
theorem S25_42 : WP d 25 42 (some (.ref a) :: lv) st h Q ↔ WP d 25 43 (some (.ref a) :: lv) (.ref a :: st) h Q := WP_st rfl
theorem S25_43 (hs : shp a = some (0, 3)) : WP d 25 43 lv (.ref a :: st) h Q ↔ WP d 25 46 lv (.ref (RV a 2) :: st) h Q := WP_getR (r := 194) rfl hs (by decide)
theorem S25_46 : WP d 25 46 (a0 :: a1 :: some (.int x) :: lv) st h Q ↔ WP d 25 47 (a0 :: a1 :: some (.int x) :: lv) (.int x :: st) h Q := WP_st rfl
theorem S25_47 : WP d 25 47 (a0 :: some (.ref a) :: lv) st h Q ↔ WP d 25 48 (a0 :: some (.ref a) :: lv) (.ref a :: st) h Q := WP_st rfl
theorem S25_48 (hs : shp a = some (0, 3)) : WP d 25 48 lv (.ref a :: st) h Q ↔ WP d 25 51 lv (.ref (RV a 2) :: st) h Q := WP_getR (r := 194) rfl hs (by decide)
theorem S25_51 : WP d 25 51 (a0 :: a1 :: some (.int x) :: lv) st h Q ↔ WP d 25 52 (a0 :: a1 :: some (.int x) :: lv) (.int x :: st) h Q := WP_st rfl
theorem S25_52 (hi : okA 1 a i) : WP d 25 52 lv (.int i :: .ref a :: st) h Q ↔ WP d 25 53 lv (.int (h.1 a i.toNatClampNeg) :: st) h Q := WP_iald rfl hi
theorem S25_53 (hi : okA 1 a i) : WP d 25 53 lv (.int x :: .int i :: .ref a :: st) h Q ↔ WP d 25 54 lv st (setI h a i.toNatClampNeg x) Q := WP_iast rfl hi
theorem S25_54 : WP d 25 54 (a0 :: a1 :: some (.int x) :: lv) st h Q ↔ WP d 25 57 (a0 :: kl a1 :: some (.int (x + 1)) :: lv) st h Q := WP_st (by rfl)
theorem S25_57 : WP d 25 57 lv st h Q ↔ WP d 25 34 lv st h Q := WP_st rfl
theorem S25_60 : WP d 25 60 lv st h Q ↔ WP d 25 61 lv (.int 0 :: st) h Q := WP_st rfl
theorem S25_61 : WP d 25 61 (a0 :: a1 :: a2v :: lv) (.int x :: st) h Q ↔ WP d 25 62 (a0 :: kl a1 :: some (.int x) :: lv) st h Q := WP_st (by rfl)
theorem S25_62 : WP d 25 62 (a0 :: a1 :: some (.int x) :: lv) st h Q ↔ WP d 25 63 (a0 :: a1 :: some (.int x) :: lv) (.int x :: st) h Q := WP_st rfl
theorem S25_63 : WP d 25 63 (some (.ref a) :: lv) st h Q ↔ WP d 25 64 (some (.ref a) :: lv) (.ref a :: st) h Q := WP_st rfl
theorem S25_64 (hs : shp a = some (0, 3)) : WP d 25 64 lv (.ref a :: st) h Q ↔ WP d 25 67 lv (.int (h.1 a 3) :: st) h Q := WP_getI (r := 195) rfl hs (by decide)
theorem S25_67 : WP d 25 67 lv (.int y :: .int x :: st) h Q ↔ if y ≤ x then WP d 25 124 lv st h Q else WP d 25 70 lv st h Q := WP_br rfl
theorem S25_70 : WP d 25 70 (some (.ref a) :: lv) st h Q ↔ WP d 25 71 (some (.ref a) :: lv) (.ref a :: st) h Q := WP_st rfl
theorem S25_71 (hs : shp a = some (0, 3)) : WP d 25 71 lv (.ref a :: st) h Q ↔ WP d 25 74 lv (.ref (RV a 5) :: st) h Q := WP_getR (r := 197) rfl hs (by decide)
theorem S25_74 : WP d 25 74 (a0 :: a1 :: some (.int x) :: lv) st h Q ↔ WP d 25 75 (a0 :: a1 :: some (.int x) :: lv) (.int x :: st) h Q := WP_st rfl
theorem S25_75 : WP d 25 75 (a0 :: some (.ref a) :: lv) st h Q ↔ WP d 25 76 (a0 :: some (.ref a) :: lv) (.ref a :: st) h Q := WP_st rfl
theorem S25_76 (hs : shp a = some (0, 3)) : WP d 25 76 lv (.ref a :: st) h Q ↔ WP d 25 79 lv (.ref (RV a 5) :: st) h Q := WP_getR (r := 197) rfl hs (by decide)
theorem S25_79 : WP d 25 79 (a0 :: a1 :: some (.int x) :: lv) st h Q ↔ WP d 25 80 (a0 :: a1 :: some (.int x) :: lv) (.int x :: st) h Q := WP_st rfl
theorem S25_80 (hi : okA 1 a i) : WP d 25 80 lv (.int i :: .ref a :: st) h Q ↔ WP d 25 81 lv (.int (h.1 a i.toNatClampNeg) :: st) h Q := WP_iald rfl hi
theorem S25_81 (hi : okA 1 a i) : WP d 25 81 lv (.int x :: .int i :: .ref a :: st) h Q ↔ WP d 25 82 lv st (setI h a i.toNatClampNeg x) Q := WP_iast rfl hi
theorem S25_82 : WP d 25 82 (some (.ref a) :: lv) st h Q ↔ WP d 25 83 (some (.ref a) :: lv) (.ref a :: st) h Q := WP_st rfl
theorem S25_83 (hs : shp a = some (0, 3)) : WP d 25 83 lv (.ref a :: st) h Q ↔ WP d 25 86 lv (.ref (RV a 6) :: st) h Q := WP_getR (r := 198) rfl hs (by decide)
theorem S25_86 : WP d 25 86 (a0 :: a1 :: some (.int x) :: lv) st h Q ↔ WP d 25 87 (a0 :: a1 :: some (.int x) :: lv) (.int x :: st) h Q := WP_st rfl
theorem S25_87 : WP d 25 87 (a0 :: some (.ref a) :: lv) st h Q ↔ WP d 25 88 (a0 :: some (.ref a) :: lv) (.ref a :: st) h Q := WP_st rfl
theorem S25_88 (hs : shp a = some (0, 3)) : WP d 25 88 lv (.ref a :: st) h Q ↔ WP d 25 91 lv (.ref (RV a 6) :: st) h Q := WP_getR (r := 198) rfl hs (by decide)
theorem S25_91 : WP d 25 91 (a0 :: a1 :: some (.int x) :: lv) st h Q ↔ WP d 25 92 (a0 :: a1 :: some (.int x) :: lv) (.int x :: st) h Q := WP_st rfl
theorem S25_92 (hi : okA 1 a i) : WP d 25 92 lv (.int i :: .ref a :: st) h Q ↔ WP d 25 93 lv (.int (h.1 a i.toNatClampNeg) :: st) h Q := WP_iald rfl hi
theorem S25_93 (hi : okA 1 a i) : WP d 25 93 lv (.int x :: .int i :: .ref a :: st) h Q ↔ WP d 25 94 lv st (setI h a i.toNatClampNeg x) Q := WP_iast rfl hi
theorem S25_94 : WP d 25 94 (some (.ref a) :: lv) st h Q ↔ WP d 25 95 (some (.ref a) :: lv) (.ref a :: st) h Q := WP_st rfl
theorem S25_95 (hs : shp a = some (0, 3)) : WP d 25 95 lv (.ref a :: st) h Q ↔ WP d 25 98 lv (.ref (RV a 7) :: st) h Q := WP_getR (r := 199) rfl hs (by decide)
theorem S25_98 : WP d 25 98 (a0 :: a1 :: some (.int x) :: lv) st h Q ↔ WP d 25 99 (a0 :: a1 :: some (.int x) :: lv) (.int x :: st) h Q := WP_st rfl
theorem S25_99 : WP d 25 99 (a0 :: some (.ref a) :: lv) st h Q ↔ WP d 25 100 (a0 :: some (.ref a) :: lv) (.ref a :: st) h Q := WP_st rfl
theorem S25_100 (hs : shp a = some (0, 3)) : WP d 25 100 lv (.ref a :: st) h Q ↔ WP d 25 103 lv (.ref (RV a 7) :: st) h Q := WP_getR (r := 199) rfl hs (by decide)
theorem S25_103 : WP d 25 103 (a0 :: a1 :: some (.int x) :: lv) st h Q ↔ WP d 25 104 (a0 :: a1 :: some (.int x) :: lv) (.int x :: st) h Q := WP_st rfl
theorem S25_104 (hi : okA 1 a i) : WP d 25 104 lv (.int i :: .ref a :: st) h Q ↔ WP d 25 105 lv (.int (h.1 a i.toNatClampNeg) :: st) h Q := WP_iald rfl hi
theorem S25_105 (hi : okA 1 a i) : WP d 25 105 lv (.int x :: .int i :: .ref a :: st) h Q ↔ WP d 25 106 lv st (setI h a i.toNatClampNeg x) Q := WP_iast rfl hi
theorem S25_106 : WP d 25 106 (some (.ref a) :: lv) st h Q ↔ WP d 25 107 (some (.ref a) :: lv) (.ref a :: st) h Q := WP_st rfl
theorem S25_107 (hs : shp a = some (0, 3)) : WP d 25 107 lv (.ref a :: st) h Q ↔ WP d 25 110 lv (.ref (RV a 8) :: st) h Q := WP_getR (r := 200) rfl hs (by decide)
theorem S25_110 : WP d 25 110 (a0 :: a1 :: some (.int x) :: lv) st h Q ↔ WP d 25 111 (a0 :: a1 :: some (.int x) :: lv) (.int x :: st) h Q := WP_st rfl
theorem S25_111 : WP d 25 111 (a0 :: some (.ref a) :: lv) st h Q ↔ WP d 25 112 (a0 :: some (.ref a) :: lv) (.ref a :: st) h Q := WP_st rfl
theorem S25_112 (hs : shp a = some (0, 3)) : WP d 25 112 lv (.ref a :: st) h Q ↔ WP d 25 115 lv (.ref (RV a 8) :: st) h Q := WP_getR (r := 200) rfl hs (by decide)
theorem S25_115 : WP d 25 115 (a0 :: a1 :: some (.int x) :: lv) st h Q ↔ WP d 25 116 (a0 :: a1 :: some (.int x) :: lv) (.int x :: st) h Q := WP_st rfl
theorem S25_116 (hi : okA 1 a i) : WP d 25 116 lv (.int i :: .ref a :: st) h Q ↔ WP d 25 117 lv (.int (h.1 a i.toNatClampNeg) :: st) h Q := WP_iald rfl hi
theorem S25_117 (hi : okA 1 a i) : WP d 25 117 lv (.int x :: .int i :: .ref a :: st) h Q ↔ WP d 25 118 lv st (setI h a i.toNatClampNeg x) Q := WP_iast rfl hi
theorem S25_118 : WP d 25 118 (a0 :: a1 :: some (.int x) :: lv) st h Q ↔ WP d 25 121 (a0 :: kl a1 :: some (.int (x + 1)) :: lv) st h Q := WP_st (by rfl)
theorem S25_121 : WP d 25 121 lv st h Q ↔ WP d 25 62 lv st h Q := WP_st rfl
theorem S25_124 : WP d 25 124 lv [] h Q ↔ Q (some none) h := WP_end rfl rfl rfl
theorem S26_0 : WP d 26 0 (some (.ref a) :: lv) st h Q ↔ WP d 26 1 (some (.ref a) :: lv) (.ref a :: st) h Q := WP_st rfl
theorem S26_1 (hs : shp a = some (0, 3)) : WP d 26 1 lv (.ref a :: st) h Q ↔ WP d 26 4 lv (.int (h.1 a 0) :: st) h Q := WP_getI (r := 192) rfl hs (by decide)
theorem S26_4 : WP d 26 4 lv st h Q ↔ WP d 26 6 lv (.int 6 :: st) h Q := WP_st rfl
theorem S26_6 : WP d 26 6 lv (.int y :: .int x :: st) h Q ↔ if x < y then WP d 26 10 lv st h Q else WP d 26 9 lv st h Q := WP_br rfl
theorem S26_9 : WP d 26 9 lv [] h Q ↔ Q (some none) h := WP_end rfl rfl rfl
theorem S26_10 : WP d 26 10 (a0 :: some (.int x) :: lv) st h Q ↔ WP d 26 11 (a0 :: some (.int x) :: lv) (.int x :: st) h Q := WP_st rfl
theorem S26_11 : WP d 26 11 lv (.int x :: st) h Q ↔ if x = 0 then WP d 26 29 lv st h Q else WP d 26 14 lv st h Q := WP_br rfl
theorem S26_14 : WP d 26 14 (some (.ref a) :: lv) st h Q ↔ WP d 26 15 (some (.ref a) :: lv) (.ref a :: st) h Q := WP_st rfl
theorem S26_15 : WP d 26 15 lv (.ref a :: st) h Q ↔ WP d 26 16 lv (.ref a :: .ref a :: st) h Q := WP_st rfl
theorem S26_16 (hs : shp a = some (0, 3)) : WP d 26 16 lv (.ref a :: st) h Q ↔ WP d 26 19 lv (.int (h.1 a 1) :: st) h Q := WP_getI (r := 193) rfl hs (by decide)
theorem S26_19 : WP d 26 19 lv st h Q ↔ WP d 26 20 lv (.int 1 :: st) h Q := WP_st rfl
theorem S26_20 : WP d 26 20 (some (.ref a) :: lv) st h Q ↔ WP d 26 21 (some (.ref a) :: lv) (.ref a :: st) h Q := WP_st rfl
theorem S26_21 (hs : shp a = some (0, 3)) : WP d 26 21 lv (.ref a :: st) h Q ↔ WP d 26 24 lv (.int (h.1 a 0) :: st) h Q := WP_getI (r := 192) rfl hs (by decide)
theorem S26_24 : WP d 26 24 lv (.int y :: .int x :: st) h Q ↔ WP d 26 25 lv (.int (x <<< (y &&& 31)) :: st) h Q := WP_st rfl
theorem S26_25 : WP d 26 25 lv (.int y :: .int x :: st) h Q ↔ WP d 26 26 lv (.int (x ||| y) :: st) h Q := WP_st rfl
theorem S26_26 (hs : shp a = some (0, 3)) : WP d 26 26 lv (.int x :: .ref a :: st) h Q ↔ WP d 26 29 lv st (setI h a 1 x) Q := WP_putI (r := 193) rfl hs (by decide)
theorem S26_29 : WP d 26 29 (some (.ref a) :: lv) st h Q ↔ WP d 26 30 (some (.ref a) :: lv) (.ref a :: st) h Q := WP_st rfl
theorem S26_30 (hs : shp a = some (0, 3)) : WP d 26 30 lv (.ref a :: st) h Q ↔ WP d 26 33 lv (.ref (RV a 2) :: st) h Q := WP_getR (r := 194) rfl hs (by decide)
theorem S26_33 : WP d 26 33 (some (.ref a) :: lv) st h Q ↔ WP d 26 34 (some (.ref a) :: lv) (.ref a :: st) h Q := WP_st rfl
theorem S26_34 (hs : shp a = some (0, 3)) : WP d 26 34 lv (.ref a :: st) h Q ↔ WP d 26 37 lv (.int (h.1 a 0) :: st) h Q := WP_getI (r := 192) rfl hs (by decide)
theorem S26_37 : WP d 26 37 (a0 :: a1 :: some (.int x) :: lv) st h Q ↔ WP d 26 38 (a0 :: a1 :: some (.int x) :: lv) (.int x :: st) h Q := WP_st rfl
theorem S26_38 (hi : okA 1 a i) : WP d 26 38 lv (.int x :: .int i :: .ref a :: st) h Q ↔ WP d 26 39 lv st (setI h a i.toNatClampNeg x) Q := WP_iast rfl hi
theorem S26_39 : WP d 26 39 (some (.ref a) :: lv) st h Q ↔ WP d 26 40 (some (.ref a) :: lv) (.ref a :: st) h Q := WP_st rfl
theorem S26_40 : WP d 26 40 lv (.ref a :: st) h Q ↔ WP d 26 41 lv (.ref a :: .ref a :: st) h Q := WP_st rfl
theorem S26_41 (hs : shp a = some (0, 3)) : WP d 26 41 lv (.ref a :: st) h Q ↔ WP d 26 44 lv (.int (h.1 a 0) :: st) h Q := WP_getI (r := 192) rfl hs (by decide)
theorem S26_44 : WP d 26 44 lv st h Q ↔ WP d 26 45 lv (.int 1 :: st) h Q := WP_st rfl
theorem S26_45 : WP d 26 45 lv (.int y :: .int x :: st) h Q ↔ WP d 26 46 lv (.int (x + y) :: st) h Q := WP_st rfl
theorem S26_46 (hs : shp a = some (0, 3)) : WP d 26 46 lv (.int x :: .ref a :: st) h Q ↔ WP d 26 49 lv st (setI h a 0 x) Q := WP_putI (r := 192) rfl hs (by decide)
theorem S26_49 : WP d 26 49 lv [] h Q ↔ Q (some none) h := WP_end rfl rfl rfl
theorem S27_0 : WP d 27 0 (some (.ref a) :: lv) st h Q ↔ WP d 27 1 (some (.ref a) :: lv) (.ref a :: st) h Q := WP_st rfl
theorem S27_1 (hs : shp a = some (0, 3)) : WP d 27 1 lv (.ref a :: st) h Q ↔ WP d 27 4 lv (.int (h.1 a 3) :: st) h Q := WP_getI (r := 195) rfl hs (by decide)
theorem S27_4 : WP d 27 4 lv st h Q ↔ WP d 27 6 lv (.int 11 :: st) h Q := WP_st rfl
theorem S27_6 : WP d 27 6 lv (.int y :: .int x :: st) h Q ↔ if x < y then WP d 27 11 lv st h Q else WP d 27 9 lv st h Q := WP_br rfl
theorem S27_9 : WP d 27 9 lv st h Q ↔ WP d 27 10 lv (.int (-1) :: st) h Q := WP_st rfl
theorem S27_10 : WP d 27 10 lv [.int x] h Q ↔ Q (some (some (.int x))) h := WP_end rfl rfl rfl
theorem S27_11 : WP d 27 11 (some (.ref a) :: lv) st h Q ↔ WP d 27 12 (some (.ref a) :: lv) (.ref a :: st) h Q := WP_st rfl
theorem S27_12 (hs : shp a = some (0, 3)) : WP d 27 12 lv (.ref a :: st) h Q ↔ WP d 27 15 lv (.int (h.1 a 3) :: st) h Q := WP_getI (r := 195) rfl hs (by decide)
theorem S27_15 : WP d 27 15 (a0 :: a1 :: a2v :: a3 :: a4 :: a5 :: lv) (.int x :: st) h Q ↔ WP d 27 17 (a0 :: a1 :: a2v :: a3 :: kl a4 :: some (.int x) :: lv) st h Q := WP_st (by rfl)
theorem S27_17 : WP d 27 17 (some (.ref a) :: lv) st h Q ↔ WP d 27 18 (some (.ref a) :: lv) (.ref a :: st) h Q := WP_st rfl
theorem S27_18 (hs : shp a = some (0, 3)) : WP d 27 18 lv (.ref a :: st) h Q ↔ WP d 27 21 lv (.ref (RV a 5) :: st) h Q := WP_getR (r := 197) rfl hs (by decide)
theorem S27_21 : WP d 27 21 (a0 :: a1 :: a2v :: a3 :: a4 :: some (.int x) :: lv) st h Q ↔ WP d 27 23 (a0 :: a1 :: a2v :: a3 :: a4 :: some (.int x) :: lv) (.int x :: st) h Q := WP_st rfl
theorem S27_23 : WP d 27 23 (a0 :: some (.int x) :: lv) st h Q ↔ WP d 27 24 (a0 :: some (.int x) :: lv) (.int x :: st) h Q := WP_st rfl
theorem S27_24 (hi : okA 1 a i) : WP d 27 24 lv (.int x :: .int i :: .ref a :: st) h Q ↔ WP d 27 25 lv st (setI h a i.toNatClampNeg x) Q := WP_iast rfl hi
theorem S27_25 : WP d 27 25 (some (.ref a) :: lv) st h Q ↔ WP d 27 26 (some (.ref a) :: lv) (.ref a :: st) h Q := WP_st rfl
theorem S27_26 (hs : shp a = some (0, 3)) : WP d 27 26 lv (.ref a :: st) h Q ↔ WP d 27 29 lv (.ref (RV a 6) :: st) h Q := WP_getR (r := 198) rfl hs (by decide)
theorem S27_29 : WP d 27 29 (a0 :: a1 :: a2v :: a3 :: a4 :: some (.int x) :: lv) st h Q ↔ WP d 27 31 (a0 :: a1 :: a2v :: a3 :: a4 :: some (.int x) :: lv) (.int x :: st) h Q := WP_st rfl
theorem S27_31 : WP d 27 31 (a0 :: a1 :: some (.int x) :: lv) st h Q ↔ WP d 27 32 (a0 :: a1 :: some (.int x) :: lv) (.int x :: st) h Q := WP_st rfl
theorem S27_32 (hi : okA 1 a i) : WP d 27 32 lv (.int x :: .int i :: .ref a :: st) h Q ↔ WP d 27 33 lv st (setI h a i.toNatClampNeg x) Q := WP_iast rfl hi
theorem S27_33 : WP d 27 33 (some (.ref a) :: lv) st h Q ↔ WP d 27 34 (some (.ref a) :: lv) (.ref a :: st) h Q := WP_st rfl
theorem S27_34 (hs : shp a = some (0, 3)) : WP d 27 34 lv (.ref a :: st) h Q ↔ WP d 27 37 lv (.ref (RV a 7) :: st) h Q := WP_getR (r := 199) rfl hs (by decide)
theorem S27_37 : WP d 27 37 (a0 :: a1 :: a2v :: a3 :: a4 :: some (.int x) :: lv) st h Q ↔ WP d 27 39 (a0 :: a1 :: a2v :: a3 :: a4 :: some (.int x) :: lv) (.int x :: st) h Q := WP_st rfl
theorem S27_39 : WP d 27 39 (a0 :: a1 :: a2v :: some (.int x) :: lv) st h Q ↔ WP d 27 40 (a0 :: a1 :: a2v :: some (.int x) :: lv) (.int x :: st) h Q := WP_st rfl
theorem S27_40 (hi : okA 1 a i) : WP d 27 40 lv (.int x :: .int i :: .ref a :: st) h Q ↔ WP d 27 41 lv st (setI h a i.toNatClampNeg x) Q := WP_iast rfl hi
theorem S27_41 : WP d 27 41 (some (.ref a) :: lv) st h Q ↔ WP d 27 42 (some (.ref a) :: lv) (.ref a :: st) h Q := WP_st rfl
theorem S27_42 (hs : shp a = some (0, 3)) : WP d 27 42 lv (.ref a :: st) h Q ↔ WP d 27 45 lv (.ref (RV a 8) :: st) h Q := WP_getR (r := 200) rfl hs (by decide)
theorem S27_45 : WP d 27 45 (a0 :: a1 :: a2v :: a3 :: a4 :: some (.int x) :: lv) st h Q ↔ WP d 27 47 (a0 :: a1 :: a2v :: a3 :: a4 :: some (.int x) :: lv) (.int x :: st) h Q := WP_st rfl
theorem S27_47 : WP d 27 47 (a0 :: a1 :: a2v :: a3 :: some (.int x) :: lv) st h Q ↔ WP d 27 49 (a0 :: a1 :: a2v :: a3 :: some (.int x) :: lv) (.int x :: st) h Q := WP_st rfl
theorem S27_49 (hi : okA 1 a i) : WP d 27 49 lv (.int x :: .int i :: .ref a :: st) h Q ↔ WP d 27 50 lv st (setI h a i.toNatClampNeg x) Q := WP_iast rfl hi
theorem S27_50 : WP d 27 50 (some (.ref a) :: lv) st h Q ↔ WP d 27 51 (some (.ref a) :: lv) (.ref a :: st) h Q := WP_st rfl
theorem S27_51 : WP d 27 51 lv (.ref a :: st) h Q ↔ WP d 27 52 lv (.ref a :: .ref a :: st) h Q := WP_st rfl
theorem S27_52 (hs : shp a = some (0, 3)) : WP d 27 52 lv (.ref a :: st) h Q ↔ WP d 27 55 lv (.int (h.1 a 4) :: st) h Q := WP_getI (r := 196) rfl hs (by decide)
theorem S27_55 : WP d 27 55 lv st h Q ↔ WP d 27 56 lv (.int 1 :: st) h Q := WP_st rfl
theorem S27_56 : WP d 27 56 (a0 :: a1 :: a2v :: a3 :: a4 :: some (.int x) :: lv) st h Q ↔ WP d 27 58 (a0 :: a1 :: a2v :: a3 :: a4 :: some (.int x) :: lv) (.int x :: st) h Q := WP_st rfl
theorem S27_58 : WP d 27 58 lv (.int y :: .int x :: st) h Q ↔ WP d 27 59 lv (.int (x <<< (y &&& 31)) :: st) h Q := WP_st rfl
theorem S27_59 : WP d 27 59 lv (.int y :: .int x :: st) h Q ↔ WP d 27 60 lv (.int (x ||| y) :: st) h Q := WP_st rfl
theorem S27_60 (hs : shp a = some (0, 3)) : WP d 27 60 lv (.int x :: .ref a :: st) h Q ↔ WP d 27 63 lv st (setI h a 4 x) Q := WP_putI (r := 196) rfl hs (by decide)
theorem S27_63 : WP d 27 63 (some (.ref a) :: lv) st h Q ↔ WP d 27 64 (some (.ref a) :: lv) (.ref a :: st) h Q := WP_st rfl
theorem S27_64 : WP d 27 64 lv (.ref a :: st) h Q ↔ WP d 27 65 lv (.ref a :: .ref a :: st) h Q := WP_st rfl
theorem S27_65 (hs : shp a = some (0, 3)) : WP d 27 65 lv (.ref a :: st) h Q ↔ WP d 27 68 lv (.int (h.1 a 3) :: st) h Q := WP_getI (r := 195) rfl hs (by decide)
theorem S27_68 : WP d 27 68 lv st h Q ↔ WP d 27 69 lv (.int 1 :: st) h Q := WP_st rfl
theorem S27_69 : WP d 27 69 lv (.int y :: .int x :: st) h Q ↔ WP d 27 70 lv (.int (x + y) :: st) h Q := WP_st rfl
theorem S27_70 (hs : shp a = some (0, 3)) : WP d 27 70 lv (.int x :: .ref a :: st) h Q ↔ WP d 27 73 lv st (setI h a 3 x) Q := WP_putI (r := 195) rfl hs (by decide)
theorem S27_73 : WP d 27 73 (a0 :: a1 :: a2v :: a3 :: a4 :: some (.int x) :: lv) st h Q ↔ WP d 27 75 (a0 :: a1 :: a2v :: a3 :: a4 :: some (.int x) :: lv) (.int x :: st) h Q := WP_st rfl
theorem S27_75 : WP d 27 75 lv [.int x] h Q ↔ Q (some (some (.int x))) h := WP_end rfl rfl rfl
theorem S28_0 : WP d 28 0 (some (.ref a) :: lv) st h Q ↔ WP d 28 1 (some (.ref a) :: lv) (.ref a :: st) h Q := WP_st rfl
theorem S28_1 (hs : shp a = some (0, 3)) : WP d 28 1 lv (.ref a :: st) h Q ↔ WP d 28 4 lv (.int (h.1 a 1) :: st) h Q := WP_getI (r := 193) rfl hs (by decide)
theorem S28_4 : WP d 28 4 (a0 :: some (.int x) :: lv) st h Q ↔ WP d 28 5 (a0 :: some (.int x) :: lv) (.int x :: st) h Q := WP_st rfl
theorem S28_5 {pi0 : Int32} {pi1 : Int32} : WP (d + 1) 28 5 lv [.int pi1, .int pi0] h Q ↔ WP d 97 0 [some (.int pi0), some (.int pi1)] [] h (kR (d + 1) 28 8 lv [] Q) := WP_callSR rfl rfl rfl rfl rfl
theorem S28_8 : WP d 28 8 lv st h Q ↔ WP d 28 9 lv (.int 1 :: st) h Q := WP_st rfl
theorem S28_9 : WP d 28 9 lv (.int y :: .int x :: st) h Q ↔ if x = y then WP d 28 12 lv st h Q else WP d 28 16 lv st h Q := WP_br rfl
theorem S28_12 : WP d 28 12 lv st h Q ↔ WP d 28 13 lv (.int 1 :: st) h Q := WP_st rfl
theorem S28_13 : WP d 28 13 lv st h Q ↔ WP d 28 17 lv st h Q := WP_st rfl
theorem S28_16 : WP d 28 16 lv st h Q ↔ WP d 28 17 lv (.int 0 :: st) h Q := WP_st rfl
theorem S28_17 (hx : isB x) : WP d 28 17 lv [.int x] h Q ↔ Q (some (some (.int x))) h := WP_endZ rfl rfl hx
theorem S29_0 : WP d 29 0 lv st h Q ↔ WP d 29 1 lv (.int 0 :: st) h Q := WP_st rfl
theorem S29_1 : WP d 29 1 (a0 :: a1 :: a2v :: lv) (.int x :: st) h Q ↔ WP d 29 2 (a0 :: kl a1 :: some (.int x) :: lv) st h Q := WP_st (by rfl)
theorem S29_2 : WP d 29 2 lv st h Q ↔ WP d 29 3 lv (.int 0 :: st) h Q := WP_st rfl
theorem S29_3 : WP d 29 3 (a0 :: a1 :: a2v :: a3 :: lv) (.int x :: st) h Q ↔ WP d 29 4 (a0 :: a1 :: kl a2v :: some (.int x) :: lv) st h Q := WP_st (by rfl)
theorem S29_4 : WP d 29 4 (a0 :: a1 :: a2v :: some (.int x) :: lv) st h Q ↔ WP d 29 5 (a0 :: a1 :: a2v :: some (.int x) :: lv) (.int x :: st) h Q := WP_st rfl
theorem S29_5 : WP d 29 5 (some (.ref a) :: lv) st h Q ↔ WP d 29 6 (some (.ref a) :: lv) (.ref a :: st) h Q := WP_st rfl
theorem S29_6 (hs : shp a = some (0, 3)) : WP d 29 6 lv (.ref a :: st) h Q ↔ WP d 29 9 lv (.int (h.1 a 3) :: st) h Q := WP_getI (r := 195) rfl hs (by decide)
theorem S29_9 : WP d 29 9 lv (.int y :: .int x :: st) h Q ↔ if y ≤ x then WP d 29 53 lv st h Q else WP d 29 12 lv st h Q := WP_br rfl
theorem S29_12 : WP d 29 12 (some (.ref a) :: lv) st h Q ↔ WP d 29 13 (some (.ref a) :: lv) (.ref a :: st) h Q := WP_st rfl
theorem S29_13 (hs : shp a = some (0, 3)) : WP d 29 13 lv (.ref a :: st) h Q ↔ WP d 29 16 lv (.int (h.1 a 4) :: st) h Q := WP_getI (r := 196) rfl hs (by decide)
theorem S29_16 : WP d 29 16 (a0 :: a1 :: a2v :: some (.int x) :: lv) st h Q ↔ WP d 29 17 (a0 :: a1 :: a2v :: some (.int x) :: lv) (.int x :: st) h Q := WP_st rfl
theorem S29_17 {pi0 : Int32} {pi1 : Int32} : WP (d + 1) 29 17 lv [.int pi1, .int pi0] h Q ↔ WP d 97 0 [some (.int pi0), some (.int pi1)] [] h (kR (d + 1) 29 20 lv [] Q) := WP_callSR rfl rfl rfl rfl rfl
theorem S29_20 : WP d 29 20 lv st h Q ↔ WP d 29 21 lv (.int 1 :: st) h Q := WP_st rfl
theorem S29_21 : WP d 29 21 lv (.int y :: .int x :: st) h Q ↔ if x = y then WP d 29 24 lv st h Q else WP d 29 47 lv st h Q := WP_br rfl
theorem S29_24 : WP d 29 24 (some (.ref a) :: lv) st h Q ↔ WP d 29 25 (some (.ref a) :: lv) (.ref a :: st) h Q := WP_st rfl
theorem S29_25 (hs : shp a = some (0, 3)) : WP d 29 25 lv (.ref a :: st) h Q ↔ WP d 29 28 lv (.ref (RV a 5) :: st) h Q := WP_getR (r := 197) rfl hs (by decide)
theorem S29_28 : WP d 29 28 (a0 :: a1 :: a2v :: some (.int x) :: lv) st h Q ↔ WP d 29 29 (a0 :: a1 :: a2v :: some (.int x) :: lv) (.int x :: st) h Q := WP_st rfl
theorem S29_29 (hi : okA 1 a i) : WP d 29 29 lv (.int i :: .ref a :: st) h Q ↔ WP d 29 30 lv (.int (h.1 a i.toNatClampNeg) :: st) h Q := WP_iald rfl hi
theorem S29_30 : WP d 29 30 (a0 :: some (.int x) :: lv) st h Q ↔ WP d 29 31 (a0 :: some (.int x) :: lv) (.int x :: st) h Q := WP_st rfl
theorem S29_31 : WP d 29 31 lv (.int y :: .int x :: st) h Q ↔ if x = y then WP d 29 44 lv st h Q else WP d 29 34 lv st h Q := WP_br rfl
theorem S29_34 : WP d 29 34 (some (.ref a) :: lv) st h Q ↔ WP d 29 35 (some (.ref a) :: lv) (.ref a :: st) h Q := WP_st rfl
theorem S29_35 (hs : shp a = some (0, 3)) : WP d 29 35 lv (.ref a :: st) h Q ↔ WP d 29 38 lv (.ref (RV a 6) :: st) h Q := WP_getR (r := 198) rfl hs (by decide)
theorem S29_38 : WP d 29 38 (a0 :: a1 :: a2v :: some (.int x) :: lv) st h Q ↔ WP d 29 39 (a0 :: a1 :: a2v :: some (.int x) :: lv) (.int x :: st) h Q := WP_st rfl
theorem S29_39 (hi : okA 1 a i) : WP d 29 39 lv (.int i :: .ref a :: st) h Q ↔ WP d 29 40 lv (.int (h.1 a i.toNatClampNeg) :: st) h Q := WP_iald rfl hi
theorem S29_40 : WP d 29 40 (a0 :: some (.int x) :: lv) st h Q ↔ WP d 29 41 (a0 :: some (.int x) :: lv) (.int x :: st) h Q := WP_st rfl
theorem S29_41 : WP d 29 41 lv (.int y :: .int x :: st) h Q ↔ if x = y then WP d 29 44 lv st h Q else WP d 29 47 lv st h Q := WP_br rfl
theorem S29_44 : WP d 29 44 (a0 :: a1 :: some (.int x) :: lv) st h Q ↔ WP d 29 47 (a0 :: kl a1 :: some (.int (x + 1)) :: lv) st h Q := WP_st (by rfl)
theorem S29_47 : WP d 29 47 (a0 :: a1 :: a2v :: some (.int x) :: lv) st h Q ↔ WP d 29 50 (a0 :: a1 :: kl a2v :: some (.int (x + 1)) :: lv) st h Q := WP_st (by rfl)
theorem S29_50 : WP d 29 50 lv st h Q ↔ WP d 29 4 lv st h Q := WP_st rfl
theorem S29_53 : WP d 29 53 (a0 :: a1 :: some (.int x) :: lv) st h Q ↔ WP d 29 54 (a0 :: a1 :: some (.int x) :: lv) (.int x :: st) h Q := WP_st rfl
theorem S29_54 : WP d 29 54 lv [.int x] h Q ↔ Q (some (some (.int x))) h := WP_end rfl rfl rfl
theorem S30_0 : WP d 30 0 (a0 :: some (.ref a) :: lv) st h Q ↔ WP d 30 1 (a0 :: some (.ref a) :: lv) (.ref a :: st) h Q := WP_st rfl
theorem S30_1 {pr0 : Nat} (hs : shp pr0 = some (0, 3)) : WP (d + 1) 30 1 lv [.ref pr0] h Q ↔ WP d 24 0 [some (.ref pr0)] [] h (kV (d + 1) 30 4 lv [] Q) := WP_callVV rfl rfl rfl rfl rfl hs
theorem S30_4 : WP d 30 4 (some (.ref a) :: lv) st h Q ↔ WP d 30 5 (some (.ref a) :: lv) (.ref a :: st) h Q := WP_st rfl
theorem S30_5 : WP d 30 5 lv st h Q ↔ WP d 30 6 lv (.int 0 :: st) h Q := WP_st rfl
theorem S30_6 (hs : shp a = some (0, 4)) : WP d 30 6 lv (.int x :: .ref a :: st) h Q ↔ WP d 30 9 lv st (setI h a 6 x) Q := WP_putI (r := 262) rfl hs (by decide)
theorem S30_9 : WP d 30 9 (some (.ref a) :: lv) st h Q ↔ WP d 30 10 (some (.ref a) :: lv) (.ref a :: st) h Q := WP_st rfl
theorem S30_10 : WP d 30 10 lv st h Q ↔ WP d 30 11 lv (.int 0 :: st) h Q := WP_st rfl
theorem S30_11 (hs : shp a = some (0, 4)) : WP d 30 11 lv (.int x :: .ref a :: st) h Q ↔ WP d 30 14 lv st (setI h a 11 x) Q := WP_putI (r := 267) rfl hs (by decide)
theorem S30_14 : WP d 30 14 lv st h Q ↔ WP d 30 15 lv (.int 0 :: st) h Q := WP_st rfl
theorem S30_15 : WP d 30 15 (a0 :: a1 :: a2v :: lv) (.int x :: st) h Q ↔ WP d 30 16 (a0 :: kl a1 :: some (.int x) :: lv) st h Q := WP_st (by rfl)
theorem S30_16 : WP d 30 16 (a0 :: a1 :: some (.int x) :: lv) st h Q ↔ WP d 30 17 (a0 :: a1 :: some (.int x) :: lv) (.int x :: st) h Q := WP_st rfl
theorem S30_17 : WP d 30 17 lv st h Q ↔ WP d 30 19 lv (.int 17 :: st) h Q := WP_st rfl
theorem S30_19 : WP d 30 19 lv (.int y :: .int x :: st) h Q ↔ if y < x then WP d 30 136 lv st h Q else WP d 30 22 lv st h Q := WP_br rfl
theorem S30_22 : WP d 30 22 (some (.ref a) :: lv) st h Q ↔ WP d 30 23 (some (.ref a) :: lv) (.ref a :: st) h Q := WP_st rfl
theorem S30_23 {pr0 : Nat} (hs : shp pr0 = some (0, 4)) : WP (d + 1) 30 23 lv [.ref pr0] h Q ↔ WP d 40 0 [some (.ref pr0), none] [] h (kV (d + 1) 30 26 lv [] Q) := WP_callVV rfl rfl rfl rfl rfl hs
theorem S30_26 : WP d 30 26 (some (.ref a) :: lv) st h Q ↔ WP d 30 27 (some (.ref a) :: lv) (.ref a :: st) h Q := WP_st rfl
theorem S30_27 (hs : shp a = some (0, 4)) : WP d 30 27 lv (.ref a :: st) h Q ↔ WP d 30 30 lv (.int (h.1 a 7) :: st) h Q := WP_getI (r := 263) rfl hs (by decide)
theorem S30_30 : WP d 30 30 lv (.int x :: st) h Q ↔ if x = 0 then WP d 30 33 lv st h Q else WP d 30 60 lv st h Q := WP_br rfl
theorem S30_33 : WP d 30 33 (some (.ref a) :: lv) st h Q ↔ WP d 30 34 (some (.ref a) :: lv) (.ref a :: st) h Q := WP_st rfl
theorem S30_34 (hs : shp a = some (0, 4)) : WP d 30 34 lv (.ref a :: st) h Q ↔ WP d 30 37 lv (.ref (RV a 0) :: st) h Q := WP_getR (r := 256) rfl hs (by decide)
theorem S30_37 (hs : shp a = some (0, 5)) : WP d 30 37 lv (.ref a :: st) h Q ↔ WP d 30 40 lv (.int (h.1 a 1) :: st) h Q := WP_getI (r := 321) rfl hs (by decide)
theorem S30_40 : WP d 30 40 lv st h Q ↔ WP d 30 43 lv (.int 500 :: st) h Q := WP_st rfl
theorem S30_43 : WP d 30 43 lv (.int y :: .int x :: st) h Q ↔ if x ≤ y then WP d 30 54 lv st h Q else WP d 30 46 lv st h Q := WP_br rfl
theorem S30_46 : WP d 30 46 (some (.ref a) :: lv) st h Q ↔ WP d 30 47 (some (.ref a) :: lv) (.ref a :: st) h Q := WP_st rfl
theorem S30_47 : WP d 30 47 lv st h Q ↔ WP d 30 48 lv (.int 1 :: st) h Q := WP_st rfl
theorem S30_48 {pr0 : Nat} {pi0 : Int32} (hs : shp pr0 = some (0, 4)) : WP (d + 1) 30 48 lv [.int pi0, .ref pr0] h Q ↔ WP d 39 0 [some (.ref pr0), some (.int pi0)] [] h (kR (d + 1) 30 51 lv [] Q) := WP_callVR rfl rfl rfl rfl rfl hs
theorem S30_51 : WP d 30 51 lv (.int x :: st) h Q ↔ if x = 0 then WP d 30 58 lv st h Q else WP d 30 54 lv st h Q := WP_br rfl
theorem S30_54 : WP d 30 54 lv st h Q ↔ WP d 30 55 lv (.int 1 :: st) h Q := WP_st rfl
theorem S30_55 : WP d 30 55 lv st h Q ↔ WP d 30 59 lv st h Q := WP_st rfl
theorem S30_58 : WP d 30 58 lv st h Q ↔ WP d 30 59 lv (.int 0 :: st) h Q := WP_st rfl
theorem S30_59 (hx : isB x) : WP d 30 59 lv [.int x] h Q ↔ Q (some (some (.int x))) h := WP_endZ rfl rfl hx
theorem S30_60 : WP d 30 60 (some (.ref a) :: lv) st h Q ↔ WP d 30 61 (some (.ref a) :: lv) (.ref a :: st) h Q := WP_st rfl
theorem S30_61 : WP d 30 61 (some (.ref a) :: lv) st h Q ↔ WP d 30 62 (some (.ref a) :: lv) (.ref a :: st) h Q := WP_st rfl
theorem S30_62 (hs : shp a = some (0, 4)) : WP d 30 62 lv (.ref a :: st) h Q ↔ WP d 30 65 lv (.long (h.2.1 a 2) :: st) h Q := WP_getL (r := 258) rfl hs (by decide)
theorem S30_65 {pr0 : Nat} {pj0 : Int64} (hs : shp pr0 = some (0, 4)) : WP (d + 1) 30 65 lv [.long pj0, .ref pr0] h Q ↔ WP d 36 0 [some (.ref pr0), some (.long pj0), none] [] h (kR (d + 1) 30 68 lv [] Q) := WP_callVR rfl rfl rfl rfl rfl hs
theorem S30_68 : WP d 30 68 lv (.int x :: st) h Q ↔ if x = 0 then WP d 30 71 lv st h Q else WP d 30 88 lv st h Q := WP_br rfl
theorem S30_71 : WP d 30 71 (some (.ref a) :: lv) st h Q ↔ WP d 30 72 (some (.ref a) :: lv) (.ref a :: st) h Q := WP_st rfl
theorem S30_72 : WP d 30 72 (some (.ref a) :: lv) st h Q ↔ WP d 30 73 (some (.ref a) :: lv) (.ref a :: st) h Q := WP_st rfl
theorem S30_73 (hs : shp a = some (0, 4)) : WP d 30 73 lv (.ref a :: st) h Q ↔ WP d 30 76 lv (.long (h.2.1 a 3) :: st) h Q := WP_getL (r := 259) rfl hs (by decide)
theorem S30_76 {pr0 : Nat} {pj0 : Int64} (hs : shp pr0 = some (0, 4)) : WP (d + 1) 30 76 lv [.long pj0, .ref pr0] h Q ↔ WP d 36 0 [some (.ref pr0), some (.long pj0), none] [] h (kR (d + 1) 30 79 lv [] Q) := WP_callVR rfl rfl rfl rfl rfl hs
theorem S30_79 : WP d 30 79 lv (.int x :: st) h Q ↔ if x = 0 then WP d 30 82 lv st h Q else WP d 30 88 lv st h Q := WP_br rfl
theorem S30_82 : WP d 30 82 (some (.ref a) :: lv) st h Q ↔ WP d 30 83 (some (.ref a) :: lv) (.ref a :: st) h Q := WP_st rfl
theorem S30_83 : WP d 30 83 lv st h Q ↔ WP d 30 84 lv (.int 1 :: st) h Q := WP_st rfl
theorem S30_84 {pr0 : Nat} {pi0 : Int32} (hs : shp pr0 = some (0, 4)) : WP (d + 1) 30 84 lv [.int pi0, .ref pr0] h Q ↔ WP d 39 0 [some (.ref pr0), some (.int pi0)] [] h (kR (d + 1) 30 87 lv [] Q) := WP_callVR rfl rfl rfl rfl rfl hs
theorem S30_87 (hx : isB x) : WP d 30 87 lv [.int x] h Q ↔ Q (some (some (.int x))) h := WP_endZ rfl rfl hx
theorem S30_88 : WP d 30 88 (some (.ref a) :: lv) st h Q ↔ WP d 30 89 (some (.ref a) :: lv) (.ref a :: st) h Q := WP_st rfl
theorem S30_89 : WP d 30 89 (some (.ref a) :: lv) st h Q ↔ WP d 30 90 (some (.ref a) :: lv) (.ref a :: st) h Q := WP_st rfl
theorem S30_90 (hs : shp a = some (0, 4)) : WP d 30 90 lv (.ref a :: st) h Q ↔ WP d 30 93 lv (.long (h.2.1 a 2) :: st) h Q := WP_getL (r := 258) rfl hs (by decide)
theorem S30_93 {pr0 : Nat} {pj0 : Int64} (hs : shp pr0 = some (0, 4)) : WP (d + 1) 30 93 lv [.long pj0, .ref pr0] h Q ↔ WP d 36 0 [some (.ref pr0), some (.long pj0), none] [] h (kR (d + 1) 30 96 lv [] Q) := WP_callVR rfl rfl rfl rfl rfl hs
theorem S30_96 : WP d 30 96 lv (.int x :: st) h Q ↔ if x = 0 then WP d 30 110 lv st h Q else WP d 30 99 lv st h Q := WP_br rfl
theorem S30_99 : WP d 30 99 (some (.ref a) :: lv) st h Q ↔ WP d 30 100 (some (.ref a) :: lv) (.ref a :: st) h Q := WP_st rfl
theorem S30_100 : WP d 30 100 (a0 :: some (.ref a) :: lv) st h Q ↔ WP d 30 101 (a0 :: some (.ref a) :: lv) (.ref a :: st) h Q := WP_st rfl
theorem S30_101 {pr0 : Nat} {pr1 : Nat} (hs : shp pr0 = some (0, 4)) : WP (d + 1) 30 101 lv [.ref pr1, .ref pr0] h Q ↔ WP d 31 0 [some (.ref pr0), some (.ref pr1), none] [] h (kR (d + 1) 30 104 lv [] Q) := WP_callVR rfl rfl rfl rfl rfl hs
theorem S30_104 : WP d 30 104 lv (.int x :: st) h Q ↔ if x = 0 then WP d 30 118 lv st h Q else WP d 30 107 lv st h Q := WP_br rfl
theorem S30_107 : WP d 30 107 lv st h Q ↔ WP d 30 120 lv st h Q := WP_st rfl
theorem S30_110 : WP d 30 110 (some (.ref a) :: lv) st h Q ↔ WP d 30 111 (some (.ref a) :: lv) (.ref a :: st) h Q := WP_st rfl
theorem S30_111 : WP d 30 111 (a0 :: some (.ref a) :: lv) st h Q ↔ WP d 30 112 (a0 :: some (.ref a) :: lv) (.ref a :: st) h Q := WP_st rfl
theorem S30_112 {pr0 : Nat} {pr1 : Nat} (hs : shp pr0 = some (0, 4)) : WP (d + 1) 30 112 lv [.ref pr1, .ref pr0] h Q ↔ WP d 32 0 [some (.ref pr0), some (.ref pr1), none, none, none] [] h (kR (d + 1) 30 115 lv [] Q) := WP_callVR rfl rfl rfl rfl rfl hs
theorem S30_115 : WP d 30 115 lv (.int x :: st) h Q ↔ if x = 0 then WP d 30 118 lv st h Q else WP d 30 120 lv st h Q := WP_br rfl
theorem S30_118 : WP d 30 118 lv st h Q ↔ WP d 30 119 lv (.int 0 :: st) h Q := WP_st rfl
theorem S30_119 (hx : isB x) : WP d 30 119 lv [.int x] h Q ↔ Q (some (some (.int x))) h := WP_endZ rfl rfl hx
theorem S30_120 : WP d 30 120 (some (.ref a) :: lv) st h Q ↔ WP d 30 121 (some (.ref a) :: lv) (.ref a :: st) h Q := WP_st rfl
theorem S30_121 : WP d 30 121 lv (.ref a :: st) h Q ↔ WP d 30 122 lv (.ref a :: .ref a :: st) h Q := WP_st rfl
theorem S30_122 (hs : shp a = some (0, 4)) : WP d 30 122 lv (.ref a :: st) h Q ↔ WP d 30 125 lv (.int (h.1 a 11) :: st) h Q := WP_getI (r := 267) rfl hs (by decide)
theorem S30_125 : WP d 30 125 lv st h Q ↔ WP d 30 126 lv (.int 1 :: st) h Q := WP_st rfl
theorem S30_126 : WP d 30 126 lv (.int y :: .int x :: st) h Q ↔ WP d 30 127 lv (.int (x + y) :: st) h Q := WP_st rfl
theorem S30_127 (hs : shp a = some (0, 4)) : WP d 30 127 lv (.int x :: .ref a :: st) h Q ↔ WP d 30 130 lv st (setI h a 11 x) Q := WP_putI (r := 267) rfl hs (by decide)
theorem S30_130 : WP d 30 130 (a0 :: a1 :: some (.int x) :: lv) st h Q ↔ WP d 30 133 (a0 :: kl a1 :: some (.int (x + 1)) :: lv) st h Q := WP_st (by rfl)
theorem S30_133 : WP d 30 133 lv st h Q ↔ WP d 30 16 lv st h Q := WP_st rfl
theorem S30_136 : WP d 30 136 (some (.ref a) :: lv) st h Q ↔ WP d 30 137 (some (.ref a) :: lv) (.ref a :: st) h Q := WP_st rfl
theorem S30_137 : WP d 30 137 lv st h Q ↔ WP d 30 138 lv (.int 4 :: st) h Q := WP_st rfl
theorem S30_138 {pr0 : Nat} {pi0 : Int32} (hs : shp pr0 = some (0, 4)) : WP (d + 1) 30 138 lv [.int pi0, .ref pr0] h Q ↔ WP d 39 0 [some (.ref pr0), some (.int pi0)] [] h (kR (d + 1) 30 141 lv [] Q) := WP_callVR rfl rfl rfl rfl rfl hs
theorem S30_141 (hx : isB x) : WP d 30 141 lv [.int x] h Q ↔ Q (some (some (.int x))) h := WP_endZ rfl rfl hx
theorem S31_0 : WP d 31 0 (a0 :: some (.ref a) :: lv) st h Q ↔ WP d 31 1 (a0 :: some (.ref a) :: lv) (.ref a :: st) h Q := WP_st rfl
theorem S31_1 (hs : shp a = some (0, 3)) : WP d 31 1 lv (.ref a :: st) h Q ↔ WP d 31 4 lv (.int (h.1 a 0) :: st) h Q := WP_getI (r := 192) rfl hs (by decide)
theorem S31_4 : WP d 31 4 (a0 :: a1 :: a2v :: lv) (.int x :: st) h Q ↔ WP d 31 5 (a0 :: kl a1 :: some (.int x) :: lv) st h Q := WP_st (by rfl)
theorem S31_5 : WP d 31 5 (a0 :: a1 :: some (.int x) :: lv) st h Q ↔ WP d 31 6 (a0 :: a1 :: some (.int x) :: lv) (.int x :: st) h Q := WP_st rfl
theorem S31_6 : WP d 31 6 lv st h Q ↔ WP d 31 8 lv (.int 6 :: st) h Q := WP_st rfl
theorem S31_8 : WP d 31 8 lv (.int y :: .int x :: st) h Q ↔ if x < y then WP d 31 17 lv st h Q else WP d 31 11 lv st h Q := WP_br rfl
theorem S31_11 : WP d 31 11 (some (.ref a) :: lv) st h Q ↔ WP d 31 12 (some (.ref a) :: lv) (.ref a :: st) h Q := WP_st rfl
theorem S31_12 : WP d 31 12 lv st h Q ↔ WP d 31 13 lv (.int 4 :: st) h Q := WP_st rfl
theorem S31_13 {pr0 : Nat} {pi0 : Int32} (hs : shp pr0 = some (0, 4)) : WP (d + 1) 31 13 lv [.int pi0, .ref pr0] h Q ↔ WP d 39 0 [some (.ref pr0), some (.int pi0)] [] h (kR (d + 1) 31 16 lv [] Q) := WP_callVR rfl rfl rfl rfl rfl hs
theorem S31_16 (hx : isB x) : WP d 31 16 lv [.int x] h Q ↔ Q (some (some (.int x))) h := WP_endZ rfl rfl hx
theorem S31_17 : WP d 31 17 (some (.ref a) :: lv) st h Q ↔ WP d 31 18 (some (.ref a) :: lv) (.ref a :: st) h Q := WP_st rfl
theorem S31_18 {pr0 : Nat} (hs : shp pr0 = some (0, 4)) : WP (d + 1) 31 18 lv [.ref pr0] h Q ↔ WP d 40 0 [some (.ref pr0), none] [] h (kV (d + 1) 31 21 lv [] Q) := WP_callVV rfl rfl rfl rfl rfl hs
theorem S31_21 : WP d 31 21 (some (.ref a) :: lv) st h Q ↔ WP d 31 22 (some (.ref a) :: lv) (.ref a :: st) h Q := WP_st rfl
theorem S31_22 {pr0 : Nat} (hs : shp pr0 = some (0, 4)) : WP (d + 1) 31 22 lv [.ref pr0] h Q ↔ WP d 37 0 [some (.ref pr0)] [] h (kR (d + 1) 31 25 lv [] Q) := WP_callVR rfl rfl rfl rfl rfl hs
theorem S31_25 : WP d 31 25 lv (.int x :: st) h Q ↔ if x = 0 then WP d 31 28 lv st h Q else WP d 31 34 lv st h Q := WP_br rfl
theorem S31_28 : WP d 31 28 (some (.ref a) :: lv) st h Q ↔ WP d 31 29 (some (.ref a) :: lv) (.ref a :: st) h Q := WP_st rfl
theorem S31_29 : WP d 31 29 lv st h Q ↔ WP d 31 30 lv (.int 1 :: st) h Q := WP_st rfl
theorem S31_30 {pr0 : Nat} {pi0 : Int32} (hs : shp pr0 = some (0, 4)) : WP (d + 1) 31 30 lv [.int pi0, .ref pr0] h Q ↔ WP d 39 0 [some (.ref pr0), some (.int pi0)] [] h (kR (d + 1) 31 33 lv [] Q) := WP_callVR rfl rfl rfl rfl rfl hs
theorem S31_33 (hx : isB x) : WP d 31 33 lv [.int x] h Q ↔ Q (some (some (.int x))) h := WP_endZ rfl rfl hx
theorem S31_34 : WP d 31 34 (some (.ref a) :: lv) st h Q ↔ WP d 31 35 (some (.ref a) :: lv) (.ref a :: st) h Q := WP_st rfl
theorem S31_35 : WP d 31 35 (a0 :: a1 :: some (.int x) :: lv) st h Q ↔ WP d 31 36 (a0 :: a1 :: some (.int x) :: lv) (.int x :: st) h Q := WP_st rfl
theorem S31_36 {pr0 : Nat} {pi0 : Int32} (hs : shp pr0 = some (0, 4)) : WP (d + 1) 31 36 lv [.int pi0, .ref pr0] h Q ↔ WP d 38 0 [some (.ref pr0), some (.int pi0), none] [] h (kR (d + 1) 31 39 lv [] Q) := WP_callVR rfl rfl rfl rfl rfl hs
theorem S31_39 : WP d 31 39 lv st h Q ↔ WP d 31 40 lv (.int (-1) :: st) h Q := WP_st rfl
theorem S31_40 : WP d 31 40 lv (.int y :: .int x :: st) h Q ↔ if x = y then WP d 31 49 lv st h Q else WP d 31 43 lv st h Q := WP_br rfl
theorem S31_43 : WP d 31 43 (some (.ref a) :: lv) st h Q ↔ WP d 31 44 (some (.ref a) :: lv) (.ref a :: st) h Q := WP_st rfl
theorem S31_44 : WP d 31 44 lv st h Q ↔ WP d 31 45 lv (.int 3 :: st) h Q := WP_st rfl
theorem S31_45 {pr0 : Nat} {pi0 : Int32} (hs : shp pr0 = some (0, 4)) : WP (d + 1) 31 45 lv [.int pi0, .ref pr0] h Q ↔ WP d 39 0 [some (.ref pr0), some (.int pi0)] [] h (kR (d + 1) 31 48 lv [] Q) := WP_callVR rfl rfl rfl rfl rfl hs
theorem S31_48 (hx : isB x) : WP d 31 48 lv [.int x] h Q ↔ Q (some (some (.int x))) h := WP_endZ rfl rfl hx
theorem S31_49 : WP d 31 49 (some (.ref a) :: lv) st h Q ↔ WP d 31 50 (some (.ref a) :: lv) (.ref a :: st) h Q := WP_st rfl
theorem S31_50 (hs : shp a = some (0, 4)) : WP d 31 50 lv (.ref a :: st) h Q ↔ WP d 31 53 lv (.ref (RV a 1) :: st) h Q := WP_getR (r := 257) rfl hs (by decide)
theorem S31_53 : WP d 31 53 (a0 :: a1 :: some (.int x) :: lv) st h Q ↔ WP d 31 54 (a0 :: a1 :: some (.int x) :: lv) (.int x :: st) h Q := WP_st rfl
theorem S31_54 : WP d 31 54 (some (.ref a) :: lv) st h Q ↔ WP d 31 55 (some (.ref a) :: lv) (.ref a :: st) h Q := WP_st rfl
theorem S31_55 (hs : shp a = some (0, 4)) : WP d 31 55 lv (.ref a :: st) h Q ↔ WP d 31 58 lv (.long (h.2.1 a 9) :: st) h Q := WP_getL (r := 265) rfl hs (by decide)
theorem S31_58 (hi : okA 4 a i) : WP d 31 58 lv (.long u :: .int i :: .ref a :: st) h Q ↔ WP d 31 59 lv st (setL h a i.toNatClampNeg u) Q := WP_last rfl hi
theorem S31_59 : WP d 31 59 (some (.ref a) :: lv) st h Q ↔ WP d 31 60 (some (.ref a) :: lv) (.ref a :: st) h Q := WP_st rfl
theorem S31_60 {pr0 : Nat} (hs : shp pr0 = some (0, 4)) : WP (d + 1) 31 60 lv [.ref pr0] h Q ↔ WP d 40 0 [some (.ref pr0), none] [] h (kV (d + 1) 31 63 lv [] Q) := WP_callVV rfl rfl rfl rfl rfl hs
theorem S31_63 : WP d 31 63 (some (.ref a) :: lv) st h Q ↔ WP d 31 64 (some (.ref a) :: lv) (.ref a :: st) h Q := WP_st rfl
theorem S31_64 (hs : shp a = some (0, 4)) : WP d 31 64 lv (.ref a :: st) h Q ↔ WP d 31 67 lv (.int (h.1 a 7) :: st) h Q := WP_getI (r := 263) rfl hs (by decide)
theorem S31_67 : WP d 31 67 lv st h Q ↔ WP d 31 68 lv (.int 3 :: st) h Q := WP_st rfl
theorem S31_68 : WP d 31 68 lv (.int y :: .int x :: st) h Q ↔ if x = y then WP d 31 71 lv st h Q else WP d 31 79 lv st h Q := WP_br rfl
theorem S31_71 : WP d 31 71 (a0 :: some (.ref a) :: lv) st h Q ↔ WP d 31 72 (a0 :: some (.ref a) :: lv) (.ref a :: st) h Q := WP_st rfl
theorem S31_72 : WP d 31 72 lv st h Q ↔ WP d 31 73 lv (.int 0 :: st) h Q := WP_st rfl
theorem S31_73 : WP d 31 73 lv st h Q ↔ WP d 31 74 lv (.int 0 :: st) h Q := WP_st rfl
theorem S31_74 {pr0 : Nat} {pi0 : Int32} {pi1 : Int32} (hs : shp pr0 = some (0, 3)) : WP (d + 1) 31 74 lv [.int pi1, .int pi0, .ref pr0] h Q ↔ WP d 26 0 [some (.ref pr0), some (.int pi0), some (.int pi1)] [] h (kV (d + 1) 31 77 lv [] Q) := WP_callVV rfl rfl rfl rfl rfl hs
theorem S31_77 : WP d 31 77 lv st h Q ↔ WP d 31 78 lv (.int 1 :: st) h Q := WP_st rfl
theorem S31_78 (hx : isB x) : WP d 31 78 lv [.int x] h Q ↔ Q (some (some (.int x))) h := WP_endZ rfl rfl hx
theorem S31_79 : WP d 31 79 (some (.ref a) :: lv) st h Q ↔ WP d 31 80 (some (.ref a) :: lv) (.ref a :: st) h Q := WP_st rfl
theorem S31_80 {pr0 : Nat} (hs : shp pr0 = some (0, 4)) : WP (d + 1) 31 80 lv [.ref pr0] h Q ↔ WP d 34 0 [some (.ref pr0), none] [] h (kR (d + 1) 31 83 lv [] Q) := WP_callVR rfl rfl rfl rfl rfl hs
theorem S31_83 : WP d 31 83 lv (.int x :: st) h Q ↔ if x = 0 then WP d 31 93 lv st h Q else WP d 31 86 lv st h Q := WP_br rfl
theorem S31_86 : WP d 31 86 (some (.ref a) :: lv) st h Q ↔ WP d 31 87 (some (.ref a) :: lv) (.ref a :: st) h Q := WP_st rfl
theorem S31_87 {pr0 : Nat} (hs : shp pr0 = some (0, 4)) : WP (d + 1) 31 87 lv [.ref pr0] h Q ↔ WP d 35 0 [some (.ref pr0)] [] h (kR (d + 1) 31 90 lv [] Q) := WP_callVR rfl rfl rfl rfl rfl hs
theorem S31_90 : WP d 31 90 lv (.int x :: st) h Q ↔ if x = 0 then WP d 31 93 lv st h Q else WP d 31 95 lv st h Q := WP_br rfl
theorem S31_93 : WP d 31 93 lv st h Q ↔ WP d 31 94 lv (.int 0 :: st) h Q := WP_st rfl
theorem S31_94 (hx : isB x) : WP d 31 94 lv [.int x] h Q ↔ Q (some (some (.int x))) h := WP_endZ rfl rfl hx
theorem S31_95 : WP d 31 95 (a0 :: some (.ref a) :: lv) st h Q ↔ WP d 31 96 (a0 :: some (.ref a) :: lv) (.ref a :: st) h Q := WP_st rfl
theorem S31_96 : WP d 31 96 lv st h Q ↔ WP d 31 97 lv (.int 1 :: st) h Q := WP_st rfl
theorem S31_97 : WP d 31 97 (some (.ref a) :: lv) st h Q ↔ WP d 31 98 (some (.ref a) :: lv) (.ref a :: st) h Q := WP_st rfl
theorem S31_98 (hs : shp a = some (0, 4)) : WP d 31 98 lv (.ref a :: st) h Q ↔ WP d 31 101 lv (.int (h.1 a 10) :: st) h Q := WP_getI (r := 266) rfl hs (by decide)
theorem S31_101 {pr0 : Nat} {pi0 : Int32} {pi1 : Int32} (hs : shp pr0 = some (0, 3)) : WP (d + 1) 31 101 lv [.int pi1, .int pi0, .ref pr0] h Q ↔ WP d 26 0 [some (.ref pr0), some (.int pi0), some (.int pi1)] [] h (kV (d + 1) 31 104 lv [] Q) := WP_callVV rfl rfl rfl rfl rfl hs
theorem S31_104 : WP d 31 104 lv st h Q ↔ WP d 31 105 lv (.int 1 :: st) h Q := WP_st rfl
theorem S31_105 (hx : isB x) : WP d 31 105 lv [.int x] h Q ↔ Q (some (some (.int x))) h := WP_endZ rfl rfl hx
theorem S32_0 : WP d 32 0 (a0 :: some (.ref a) :: lv) st h Q ↔ WP d 32 1 (a0 :: some (.ref a) :: lv) (.ref a :: st) h Q := WP_st rfl
theorem S32_1 (hs : shp a = some (0, 3)) : WP d 32 1 lv (.ref a :: st) h Q ↔ WP d 32 4 lv (.int (h.1 a 3) :: st) h Q := WP_getI (r := 195) rfl hs (by decide)
theorem S32_4 : WP d 32 4 lv st h Q ↔ WP d 32 6 lv (.int 11 :: st) h Q := WP_st rfl
theorem S32_6 : WP d 32 6 lv (.int y :: .int x :: st) h Q ↔ if x < y then WP d 32 15 lv st h Q else WP d 32 9 lv st h Q := WP_br rfl
theorem S32_9 : WP d 32 9 (some (.ref a) :: lv) st h Q ↔ WP d 32 10 (some (.ref a) :: lv) (.ref a :: st) h Q := WP_st rfl
theorem S32_10 : WP d 32 10 lv st h Q ↔ WP d 32 11 lv (.int 4 :: st) h Q := WP_st rfl
theorem S32_11 {pr0 : Nat} {pi0 : Int32} (hs : shp pr0 = some (0, 4)) : WP (d + 1) 32 11 lv [.int pi0, .ref pr0] h Q ↔ WP d 39 0 [some (.ref pr0), some (.int pi0)] [] h (kR (d + 1) 32 14 lv [] Q) := WP_callVR rfl rfl rfl rfl rfl hs
theorem S32_14 (hx : isB x) : WP d 32 14 lv [.int x] h Q ↔ Q (some (some (.int x))) h := WP_endZ rfl rfl hx
theorem S32_15 : WP d 32 15 (some (.ref a) :: lv) st h Q ↔ WP d 32 16 (some (.ref a) :: lv) (.ref a :: st) h Q := WP_st rfl
theorem S32_16 {pr0 : Nat} (hs : shp pr0 = some (0, 4)) : WP (d + 1) 32 16 lv [.ref pr0] h Q ↔ WP d 40 0 [some (.ref pr0), none] [] h (kV (d + 1) 32 19 lv [] Q) := WP_callVV rfl rfl rfl rfl rfl hs
theorem S32_19 : WP d 32 19 (some (.ref a) :: lv) st h Q ↔ WP d 32 20 (some (.ref a) :: lv) (.ref a :: st) h Q := WP_st rfl
theorem S32_20 : WP d 32 20 (a0 :: some (.ref a) :: lv) st h Q ↔ WP d 32 21 (a0 :: some (.ref a) :: lv) (.ref a :: st) h Q := WP_st rfl
theorem S32_21 (hs : shp a = some (0, 3)) : WP d 32 21 lv (.ref a :: st) h Q ↔ WP d 32 24 lv (.int (h.1 a 0) :: st) h Q := WP_getI (r := 192) rfl hs (by decide)
theorem S32_24 {pr0 : Nat} {pi0 : Int32} (hs : shp pr0 = some (0, 4)) : WP (d + 1) 32 24 lv [.int pi0, .ref pr0] h Q ↔ WP d 33 0 [some (.ref pr0), some (.int pi0), none] [] h (kR (d + 1) 32 27 lv [] Q) := WP_callVR rfl rfl rfl rfl rfl hs
theorem S32_27 : WP d 32 27 (a0 :: a1 :: a2v :: lv) (.int x :: st) h Q ↔ WP d 32 28 (a0 :: kl a1 :: some (.int x) :: lv) st h Q := WP_st (by rfl)
theorem S32_28 : WP d 32 28 (a0 :: a1 :: some (.int x) :: lv) st h Q ↔ WP d 32 29 (a0 :: a1 :: some (.int x) :: lv) (.int x :: st) h Q := WP_st rfl
theorem S32_29 : WP d 32 29 lv st h Q ↔ WP d 32 30 lv (.int (-1) :: st) h Q := WP_st rfl
theorem S32_30 : WP d 32 30 lv (.int y :: .int x :: st) h Q ↔ if x = y then WP d 32 33 lv st h Q else WP d 32 35 lv st h Q := WP_br rfl
theorem S32_33 : WP d 32 33 lv st h Q ↔ WP d 32 34 lv (.int 0 :: st) h Q := WP_st rfl
theorem S32_34 (hx : isB x) : WP d 32 34 lv [.int x] h Q ↔ Q (some (some (.int x))) h := WP_endZ rfl rfl hx
theorem S32_35 : WP d 32 35 (some (.ref a) :: lv) st h Q ↔ WP d 32 36 (some (.ref a) :: lv) (.ref a :: st) h Q := WP_st rfl
theorem S32_36 {pr0 : Nat} (hs : shp pr0 = some (0, 4)) : WP (d + 1) 32 36 lv [.ref pr0] h Q ↔ WP d 40 0 [some (.ref pr0), none] [] h (kV (d + 1) 32 39 lv [] Q) := WP_callVV rfl rfl rfl rfl rfl hs
theorem S32_39 : WP d 32 39 (some (.ref a) :: lv) st h Q ↔ WP d 32 40 (some (.ref a) :: lv) (.ref a :: st) h Q := WP_st rfl
theorem S32_40 : WP d 32 40 (a0 :: some (.ref a) :: lv) st h Q ↔ WP d 32 41 (a0 :: some (.ref a) :: lv) (.ref a :: st) h Q := WP_st rfl
theorem S32_41 (hs : shp a = some (0, 3)) : WP d 32 41 lv (.ref a :: st) h Q ↔ WP d 32 44 lv (.int (h.1 a 0) :: st) h Q := WP_getI (r := 192) rfl hs (by decide)
theorem S32_44 {pr0 : Nat} {pi0 : Int32} (hs : shp pr0 = some (0, 4)) : WP (d + 1) 32 44 lv [.int pi0, .ref pr0] h Q ↔ WP d 33 0 [some (.ref pr0), some (.int pi0), none] [] h (kR (d + 1) 32 47 lv [] Q) := WP_callVR rfl rfl rfl rfl rfl hs
theorem S32_47 : WP d 32 47 (a0 :: a1 :: a2v :: a3 :: lv) (.int x :: st) h Q ↔ WP d 32 48 (a0 :: a1 :: kl a2v :: some (.int x) :: lv) st h Q := WP_st (by rfl)
theorem S32_48 : WP d 32 48 (a0 :: a1 :: a2v :: some (.int x) :: lv) st h Q ↔ WP d 32 49 (a0 :: a1 :: a2v :: some (.int x) :: lv) (.int x :: st) h Q := WP_st rfl
theorem S32_49 : WP d 32 49 lv st h Q ↔ WP d 32 50 lv (.int (-1) :: st) h Q := WP_st rfl
theorem S32_50 : WP d 32 50 lv (.int y :: .int x :: st) h Q ↔ if x = y then WP d 32 53 lv st h Q else WP d 32 55 lv st h Q := WP_br rfl
theorem S32_53 : WP d 32 53 lv st h Q ↔ WP d 32 54 lv (.int 0 :: st) h Q := WP_st rfl
theorem S32_54 (hx : isB x) : WP d 32 54 lv [.int x] h Q ↔ Q (some (some (.int x))) h := WP_endZ rfl rfl hx
theorem S32_55 : WP d 32 55 (a0 :: a1 :: a2v :: some (.int x) :: lv) st h Q ↔ WP d 32 56 (a0 :: a1 :: a2v :: some (.int x) :: lv) (.int x :: st) h Q := WP_st rfl
theorem S32_56 : WP d 32 56 (a0 :: a1 :: some (.int x) :: lv) st h Q ↔ WP d 32 57 (a0 :: a1 :: some (.int x) :: lv) (.int x :: st) h Q := WP_st rfl
theorem S32_57 : WP d 32 57 lv (.int y :: .int x :: st) h Q ↔ if x = y then WP d 32 60 lv st h Q else WP d 32 66 lv st h Q := WP_br rfl
theorem S32_60 : WP d 32 60 (some (.ref a) :: lv) st h Q ↔ WP d 32 61 (some (.ref a) :: lv) (.ref a :: st) h Q := WP_st rfl
theorem S32_61 : WP d 32 61 lv st h Q ↔ WP d 32 62 lv (.int 3 :: st) h Q := WP_st rfl
theorem S32_62 {pr0 : Nat} {pi0 : Int32} (hs : shp pr0 = some (0, 4)) : WP (d + 1) 32 62 lv [.int pi0, .ref pr0] h Q ↔ WP d 39 0 [some (.ref pr0), some (.int pi0)] [] h (kR (d + 1) 32 65 lv [] Q) := WP_callVR rfl rfl rfl rfl rfl hs
theorem S32_65 (hx : isB x) : WP d 32 65 lv [.int x] h Q ↔ Q (some (some (.int x))) h := WP_endZ rfl rfl hx
theorem S32_66 : WP d 32 66 (some (.ref a) :: lv) st h Q ↔ WP d 32 67 (some (.ref a) :: lv) (.ref a :: st) h Q := WP_st rfl
theorem S32_67 {pr0 : Nat} (hs : shp pr0 = some (0, 4)) : WP (d + 1) 32 67 lv [.ref pr0] h Q ↔ WP d 40 0 [some (.ref pr0), none] [] h (kV (d + 1) 32 70 lv [] Q) := WP_callVV rfl rfl rfl rfl rfl hs
theorem S32_70 : WP d 32 70 (some (.ref a) :: lv) st h Q ↔ WP d 32 71 (some (.ref a) :: lv) (.ref a :: st) h Q := WP_st rfl
theorem S32_71 {pr0 : Nat} (hs : shp pr0 = some (0, 4)) : WP (d + 1) 32 71 lv [.ref pr0] h Q ↔ WP d 34 0 [some (.ref pr0), none] [] h (kR (d + 1) 32 74 lv [] Q) := WP_callVR rfl rfl rfl rfl rfl hs
theorem S32_74 : WP d 32 74 lv (.int x :: st) h Q ↔ if x = 0 then WP d 32 77 lv st h Q else WP d 32 79 lv st h Q := WP_br rfl
theorem S32_77 : WP d 32 77 lv st h Q ↔ WP d 32 78 lv (.int 0 :: st) h Q := WP_st rfl
theorem S32_78 (hx : isB x) : WP d 32 78 lv [.int x] h Q ↔ Q (some (some (.int x))) h := WP_endZ rfl rfl hx
theorem S32_79 : WP d 32 79 (some (.ref a) :: lv) st h Q ↔ WP d 32 80 (some (.ref a) :: lv) (.ref a :: st) h Q := WP_st rfl
theorem S32_80 {pr0 : Nat} (hs : shp pr0 = some (0, 4)) : WP (d + 1) 32 80 lv [.ref pr0] h Q ↔ WP d 40 0 [some (.ref pr0), none] [] h (kV (d + 1) 32 83 lv [] Q) := WP_callVV rfl rfl rfl rfl rfl hs
theorem S32_83 : WP d 32 83 (some (.ref a) :: lv) st h Q ↔ WP d 32 84 (some (.ref a) :: lv) (.ref a :: st) h Q := WP_st rfl
theorem S32_84 (hs : shp a = some (0, 4)) : WP d 32 84 lv (.ref a :: st) h Q ↔ WP d 32 87 lv (.int (h.1 a 7) :: st) h Q := WP_getI (r := 263) rfl hs (by decide)
theorem S32_87 : WP d 32 87 lv st h Q ↔ WP d 32 88 lv (.int 2 :: st) h Q := WP_st rfl
theorem S32_88 : WP d 32 88 lv (.int y :: .int x :: st) h Q ↔ if x = y then WP d 32 97 lv st h Q else WP d 32 91 lv st h Q := WP_br rfl
theorem S32_91 : WP d 32 91 (some (.ref a) :: lv) st h Q ↔ WP d 32 92 (some (.ref a) :: lv) (.ref a :: st) h Q := WP_st rfl
theorem S32_92 : WP d 32 92 lv st h Q ↔ WP d 32 93 lv (.int 1 :: st) h Q := WP_st rfl
theorem S32_93 {pr0 : Nat} {pi0 : Int32} (hs : shp pr0 = some (0, 4)) : WP (d + 1) 32 93 lv [.int pi0, .ref pr0] h Q ↔ WP d 39 0 [some (.ref pr0), some (.int pi0)] [] h (kR (d + 1) 32 96 lv [] Q) := WP_callVR rfl rfl rfl rfl rfl hs
theorem S32_96 (hx : isB x) : WP d 32 96 lv [.int x] h Q ↔ Q (some (some (.int x))) h := WP_endZ rfl rfl hx
theorem S32_97 : WP d 32 97 (some (.ref a) :: lv) st h Q ↔ WP d 32 98 (some (.ref a) :: lv) (.ref a :: st) h Q := WP_st rfl
theorem S32_98 (hs : shp a = some (0, 4)) : WP d 32 98 lv (.ref a :: st) h Q ↔ WP d 32 101 lv (.long (h.2.1 a 9) :: st) h Q := WP_getL (r := 265) rfl hs (by decide)
theorem S32_101 : WP d 32 101 lv (.long u :: st) h Q ↔ WP d 32 102 lv (.int u.toInt32 :: st) h Q := WP_st rfl
theorem S32_102 : WP d 32 102 (a0 :: a1 :: a2v :: a3 :: a4 :: lv) (.int x :: st) h Q ↔ WP d 32 104 (a0 :: a1 :: a2v :: kl a3 :: some (.int x) :: lv) st h Q := WP_st (by rfl)
theorem S32_104 : WP d 32 104 (a0 :: a1 :: a2v :: a3 :: some (.int x) :: lv) st h Q ↔ WP d 32 106 (a0 :: a1 :: a2v :: a3 :: some (.int x) :: lv) (.int x :: st) h Q := WP_st rfl
theorem S32_106 {pi0 : Int32} : WP (d + 1) 32 106 lv [.int pi0] h Q ↔ WP d 95 0 [some (.int pi0)] [] h (kR (d + 1) 32 109 lv [] Q) := WP_callSR rfl rfl rfl rfl rfl
theorem S32_109 : WP d 32 109 lv (.int x :: st) h Q ↔ if x = 0 then WP d 32 112 lv st h Q else WP d 32 118 lv st h Q := WP_br rfl
theorem S32_112 : WP d 32 112 (some (.ref a) :: lv) st h Q ↔ WP d 32 113 (some (.ref a) :: lv) (.ref a :: st) h Q := WP_st rfl
theorem S32_113 : WP d 32 113 lv st h Q ↔ WP d 32 114 lv (.int 2 :: st) h Q := WP_st rfl
theorem S32_114 {pr0 : Nat} {pi0 : Int32} (hs : shp pr0 = some (0, 4)) : WP (d + 1) 32 114 lv [.int pi0, .ref pr0] h Q ↔ WP d 39 0 [some (.ref pr0), some (.int pi0)] [] h (kR (d + 1) 32 117 lv [] Q) := WP_callVR rfl rfl rfl rfl rfl hs
theorem S32_117 (hx : isB x) : WP d 32 117 lv [.int x] h Q ↔ Q (some (some (.int x))) h := WP_endZ rfl rfl hx
theorem S32_118 : WP d 32 118 (some (.ref a) :: lv) st h Q ↔ WP d 32 119 (some (.ref a) :: lv) (.ref a :: st) h Q := WP_st rfl
theorem S32_119 {pr0 : Nat} (hs : shp pr0 = some (0, 4)) : WP (d + 1) 32 119 lv [.ref pr0] h Q ↔ WP d 35 0 [some (.ref pr0)] [] h (kR (d + 1) 32 122 lv [] Q) := WP_callVR rfl rfl rfl rfl rfl hs
theorem S32_122 : WP d 32 122 lv (.int x :: st) h Q ↔ if x = 0 then WP d 32 125 lv st h Q else WP d 32 127 lv st h Q := WP_br rfl
theorem S32_125 : WP d 32 125 lv st h Q ↔ WP d 32 126 lv (.int 0 :: st) h Q := WP_st rfl
theorem S32_126 (hx : isB x) : WP d 32 126 lv [.int x] h Q ↔ Q (some (some (.int x))) h := WP_endZ rfl rfl hx
theorem S32_127 : WP d 32 127 (a0 :: some (.ref a) :: lv) st h Q ↔ WP d 32 128 (a0 :: some (.ref a) :: lv) (.ref a :: st) h Q := WP_st rfl
theorem S32_128 : WP d 32 128 (a0 :: a1 :: some (.int x) :: lv) st h Q ↔ WP d 32 129 (a0 :: a1 :: some (.int x) :: lv) (.int x :: st) h Q := WP_st rfl
theorem S32_129 : WP d 32 129 (a0 :: a1 :: a2v :: some (.int x) :: lv) st h Q ↔ WP d 32 130 (a0 :: a1 :: a2v :: some (.int x) :: lv) (.int x :: st) h Q := WP_st rfl
theorem S32_130 : WP d 32 130 (some (.ref a) :: lv) st h Q ↔ WP d 32 131 (some (.ref a) :: lv) (.ref a :: st) h Q := WP_st rfl
theorem S32_131 (hs : shp a = some (0, 4)) : WP d 32 131 lv (.ref a :: st) h Q ↔ WP d 32 134 lv (.int (h.1 a 10) :: st) h Q := WP_getI (r := 266) rfl hs (by decide)
theorem S32_134 : WP d 32 134 (a0 :: a1 :: a2v :: a3 :: some (.int x) :: lv) st h Q ↔ WP d 32 136 (a0 :: a1 :: a2v :: a3 :: some (.int x) :: lv) (.int x :: st) h Q := WP_st rfl
theorem S32_136 {pr0 : Nat} {pi0 : Int32} {pi1 : Int32} {pi2 : Int32} {pi3 : Int32} (hs : shp pr0 = some (0, 3)) : WP (d + 1) 32 136 lv [.int pi3, .int pi2, .int pi1, .int pi0, .ref pr0] h Q ↔ WP d 27 0 [some (.ref pr0), some (.int pi0), some (.int pi1), some (.int pi2), some (.int pi3), none] [] h (kR (d + 1) 32 139 lv [] Q) := WP_callVR rfl rfl rfl rfl rfl hs
theorem S32_139 : WP d 32 139 lv (.int x :: st) h Q ↔ WP d 32 140 lv st h Q := WP_st rfl
theorem S32_140 : WP d 32 140 lv st h Q ↔ WP d 32 141 lv (.int 1 :: st) h Q := WP_st rfl
set_option maxRecDepth 20000 in
theorem S32_141 (hx : isB x) : WP d 32 141 lv [.int x] h Q ↔ Q (some (some (.int x))) h := WP_endZ rfl rfl hx
theorem S33_0 : WP d 33 0 (some (.ref a) :: lv) st h Q ↔ WP d 33 1 (some (.ref a) :: lv) (.ref a :: st) h Q := WP_st rfl
theorem S33_1 {pr0 : Nat} (hs : shp pr0 = some (0, 4)) : WP (d + 1) 33 1 lv [.ref pr0] h Q ↔ WP d 37 0 [some (.ref pr0)] [] h (kR (d + 1) 33 4 lv [] Q) := WP_callVR rfl rfl rfl rfl rfl hs
theorem S33_4 : WP d 33 4 lv (.int x :: st) h Q ↔ if x = 0 then WP d 33 7 lv st h Q else WP d 33 15 lv st h Q := WP_br rfl
theorem S33_7 : WP d 33 7 (some (.ref a) :: lv) st h Q ↔ WP d 33 8 (some (.ref a) :: lv) (.ref a :: st) h Q := WP_st rfl
theorem S33_8 : WP d 33 8 lv st h Q ↔ WP d 33 9 lv (.int 1 :: st) h Q := WP_st rfl
theorem S33_9 {pr0 : Nat} {pi0 : Int32} (hs : shp pr0 = some (0, 4)) : WP (d + 1) 33 9 lv [.int pi0, .ref pr0] h Q ↔ WP d 39 0 [some (.ref pr0), some (.int pi0)] [] h (kR (d + 1) 33 12 lv [] Q) := WP_callVR rfl rfl rfl rfl rfl hs
theorem S33_12 : WP d 33 12 lv (.int x :: st) h Q ↔ WP d 33 13 lv st h Q := WP_st rfl
theorem S33_13 : WP d 33 13 lv st h Q ↔ WP d 33 14 lv (.int (-1) :: st) h Q := WP_st rfl
theorem S33_14 : WP d 33 14 lv [.int x] h Q ↔ Q (some (some (.int x))) h := WP_end rfl rfl rfl
theorem S33_15 : WP d 33 15 (some (.ref a) :: lv) st h Q ↔ WP d 33 16 (some (.ref a) :: lv) (.ref a :: st) h Q := WP_st rfl
theorem S33_16 : WP d 33 16 (a0 :: some (.int x) :: lv) st h Q ↔ WP d 33 17 (a0 :: some (.int x) :: lv) (.int x :: st) h Q := WP_st rfl
theorem S33_17 {pr0 : Nat} {pi0 : Int32} (hs : shp pr0 = some (0, 4)) : WP (d + 1) 33 17 lv [.int pi0, .ref pr0] h Q ↔ WP d 38 0 [some (.ref pr0), some (.int pi0), none] [] h (kR (d + 1) 33 20 lv [] Q) := WP_callVR rfl rfl rfl rfl rfl hs
theorem S33_20 : WP d 33 20 (a0 :: a1 :: a2v :: lv) (.int x :: st) h Q ↔ WP d 33 21 (a0 :: kl a1 :: some (.int x) :: lv) st h Q := WP_st (by rfl)
theorem S33_21 : WP d 33 21 (a0 :: a1 :: some (.int x) :: lv) st h Q ↔ WP d 33 22 (a0 :: a1 :: some (.int x) :: lv) (.int x :: st) h Q := WP_st rfl
theorem S33_22 : WP d 33 22 lv st h Q ↔ WP d 33 23 lv (.int (-1) :: st) h Q := WP_st rfl
theorem S33_23 : WP d 33 23 lv (.int y :: .int x :: st) h Q ↔ if x = y then WP d 33 26 lv st h Q else WP d 33 32 lv st h Q := WP_br rfl
theorem S33_26 : WP d 33 26 (some (.ref a) :: lv) st h Q ↔ WP d 33 27 (some (.ref a) :: lv) (.ref a :: st) h Q := WP_st rfl
theorem S33_27 : WP d 33 27 lv st h Q ↔ WP d 33 28 lv (.int 3 :: st) h Q := WP_st rfl
theorem S33_28 {pr0 : Nat} {pi0 : Int32} (hs : shp pr0 = some (0, 4)) : WP (d + 1) 33 28 lv [.int pi0, .ref pr0] h Q ↔ WP d 39 0 [some (.ref pr0), some (.int pi0)] [] h (kR (d + 1) 33 31 lv [] Q) := WP_callVR rfl rfl rfl rfl rfl hs
theorem S33_31 : WP d 33 31 lv (.int x :: st) h Q ↔ WP d 33 32 lv st h Q := WP_st rfl
theorem S33_32 : WP d 33 32 (a0 :: a1 :: some (.int x) :: lv) st h Q ↔ WP d 33 33 (a0 :: a1 :: some (.int x) :: lv) (.int x :: st) h Q := WP_st rfl
theorem S33_33 : WP d 33 33 lv [.int x] h Q ↔ Q (some (some (.int x))) h := WP_end rfl rfl rfl
theorem S34_0 : WP d 34 0 (some (.ref a) :: lv) st h Q ↔ WP d 34 1 (some (.ref a) :: lv) (.ref a :: st) h Q := WP_st rfl
theorem S34_1 : WP d 34 1 (some (.ref a) :: lv) st h Q ↔ WP d 34 2 (some (.ref a) :: lv) (.ref a :: st) h Q := WP_st rfl
theorem S34_2 (hs : shp a = some (0, 4)) : WP d 34 2 lv (.ref a :: st) h Q ↔ WP d 34 5 lv (.long (h.2.1 a 4) :: st) h Q := WP_getL (r := 260) rfl hs (by decide)
theorem S34_5 {pr0 : Nat} {pj0 : Int64} (hs : shp pr0 = some (0, 4)) : WP (d + 1) 34 5 lv [.long pj0, .ref pr0] h Q ↔ WP d 36 0 [some (.ref pr0), some (.long pj0), none] [] h (kR (d + 1) 34 8 lv [] Q) := WP_callVR rfl rfl rfl rfl rfl hs
theorem S34_8 : WP d 34 8 (a0 :: a1 :: lv) (.int x :: st) h Q ↔ WP d 34 9 (kl a0 :: some (.int x) :: lv) st h Q := WP_st (by rfl)
theorem S34_9 : WP d 34 9 (a0 :: some (.int x) :: lv) st h Q ↔ WP d 34 10 (a0 :: some (.int x) :: lv) (.int x :: st) h Q := WP_st rfl
theorem S34_10 : WP d 34 10 lv (.int x :: st) h Q ↔ if x = 0 then WP d 34 13 lv st h Q else WP d 34 30 lv st h Q := WP_br rfl
theorem S34_13 : WP d 34 13 (some (.ref a) :: lv) st h Q ↔ WP d 34 14 (some (.ref a) :: lv) (.ref a :: st) h Q := WP_st rfl
theorem S34_14 : WP d 34 14 (some (.ref a) :: lv) st h Q ↔ WP d 34 15 (some (.ref a) :: lv) (.ref a :: st) h Q := WP_st rfl
theorem S34_15 (hs : shp a = some (0, 4)) : WP d 34 15 lv (.ref a :: st) h Q ↔ WP d 34 18 lv (.long (h.2.1 a 5) :: st) h Q := WP_getL (r := 261) rfl hs (by decide)
theorem S34_18 {pr0 : Nat} {pj0 : Int64} (hs : shp pr0 = some (0, 4)) : WP (d + 1) 34 18 lv [.long pj0, .ref pr0] h Q ↔ WP d 36 0 [some (.ref pr0), some (.long pj0), none] [] h (kR (d + 1) 34 21 lv [] Q) := WP_callVR rfl rfl rfl rfl rfl hs
theorem S34_21 : WP d 34 21 lv (.int x :: st) h Q ↔ if x = 0 then WP d 34 24 lv st h Q else WP d 34 30 lv st h Q := WP_br rfl
theorem S34_24 : WP d 34 24 (some (.ref a) :: lv) st h Q ↔ WP d 34 25 (some (.ref a) :: lv) (.ref a :: st) h Q := WP_st rfl
theorem S34_25 : WP d 34 25 lv st h Q ↔ WP d 34 26 lv (.int 1 :: st) h Q := WP_st rfl
theorem S34_26 {pr0 : Nat} {pi0 : Int32} (hs : shp pr0 = some (0, 4)) : WP (d + 1) 34 26 lv [.int pi0, .ref pr0] h Q ↔ WP d 39 0 [some (.ref pr0), some (.int pi0)] [] h (kR (d + 1) 34 29 lv [] Q) := WP_callVR rfl rfl rfl rfl rfl hs
theorem S34_29 (hx : isB x) : WP d 34 29 lv [.int x] h Q ↔ Q (some (some (.int x))) h := WP_endZ rfl rfl hx
theorem S34_30 : WP d 34 30 (some (.ref a) :: lv) st h Q ↔ WP d 34 31 (some (.ref a) :: lv) (.ref a :: st) h Q := WP_st rfl
theorem S34_31 {pr0 : Nat} (hs : shp pr0 = some (0, 4)) : WP (d + 1) 34 31 lv [.ref pr0] h Q ↔ WP d 40 0 [some (.ref pr0), none] [] h (kV (d + 1) 34 34 lv [] Q) := WP_callVV rfl rfl rfl rfl rfl hs
theorem S34_34 : WP d 34 34 (some (.ref a) :: lv) st h Q ↔ WP d 34 35 (some (.ref a) :: lv) (.ref a :: st) h Q := WP_st rfl
theorem S34_35 (hs : shp a = some (0, 4)) : WP d 34 35 lv (.ref a :: st) h Q ↔ WP d 34 38 lv (.int (h.1 a 7) :: st) h Q := WP_getI (r := 263) rfl hs (by decide)
theorem S34_38 : WP d 34 38 lv st h Q ↔ WP d 34 39 lv (.int 2 :: st) h Q := WP_st rfl
theorem S34_39 : WP d 34 39 lv (.int y :: .int x :: st) h Q ↔ if x = y then WP d 34 48 lv st h Q else WP d 34 42 lv st h Q := WP_br rfl
theorem S34_42 : WP d 34 42 (some (.ref a) :: lv) st h Q ↔ WP d 34 43 (some (.ref a) :: lv) (.ref a :: st) h Q := WP_st rfl
theorem S34_43 : WP d 34 43 lv st h Q ↔ WP d 34 44 lv (.int 1 :: st) h Q := WP_st rfl
theorem S34_44 {pr0 : Nat} {pi0 : Int32} (hs : shp pr0 = some (0, 4)) : WP (d + 1) 34 44 lv [.int pi0, .ref pr0] h Q ↔ WP d 39 0 [some (.ref pr0), some (.int pi0)] [] h (kR (d + 1) 34 47 lv [] Q) := WP_callVR rfl rfl rfl rfl rfl hs
theorem S34_47 (hx : isB x) : WP d 34 47 lv [.int x] h Q ↔ Q (some (some (.int x))) h := WP_endZ rfl rfl hx
theorem S34_48 : WP d 34 48 (some (.ref a) :: lv) st h Q ↔ WP d 34 49 (some (.ref a) :: lv) (.ref a :: st) h Q := WP_st rfl
theorem S34_49 : WP d 34 49 (a0 :: some (.int x) :: lv) st h Q ↔ WP d 34 50 (a0 :: some (.int x) :: lv) (.int x :: st) h Q := WP_st rfl
theorem S34_50 : WP d 34 50 lv (.int x :: st) h Q ↔ if x = 0 then WP d 34 61 lv st h Q else WP d 34 53 lv st h Q := WP_br rfl
theorem S34_53 : WP d 34 53 (some (.ref a) :: lv) st h Q ↔ WP d 34 54 (some (.ref a) :: lv) (.ref a :: st) h Q := WP_st rfl
theorem S34_54 (hs : shp a = some (0, 4)) : WP d 34 54 lv (.ref a :: st) h Q ↔ WP d 34 57 lv (.long (h.2.1 a 9) :: st) h Q := WP_getL (r := 265) rfl hs (by decide)
theorem S34_57 : WP d 34 57 lv (.long u :: st) h Q ↔ WP d 34 58 lv (.int u.toInt32 :: st) h Q := WP_st rfl
theorem S34_58 : WP d 34 58 lv st h Q ↔ WP d 34 67 lv st h Q := WP_st rfl
theorem S34_61 : WP d 34 61 (some (.ref a) :: lv) st h Q ↔ WP d 34 62 (some (.ref a) :: lv) (.ref a :: st) h Q := WP_st rfl
theorem S34_62 (hs : shp a = some (0, 4)) : WP d 34 62 lv (.ref a :: st) h Q ↔ WP d 34 65 lv (.long (h.2.1 a 9) :: st) h Q := WP_getL (r := 265) rfl hs (by decide)
theorem S34_65 : WP d 34 65 lv (.long u :: st) h Q ↔ WP d 34 66 lv (.long (-u) :: st) h Q := WP_st rfl
theorem S34_66 : WP d 34 66 lv (.long u :: st) h Q ↔ WP d 34 67 lv (.int u.toInt32 :: st) h Q := WP_st rfl
theorem S34_67 (hs : shp a = some (0, 4)) : WP d 34 67 lv (.int x :: .ref a :: st) h Q ↔ WP d 34 70 lv st (setI h a 10 x) Q := WP_putI (r := 266) rfl hs (by decide)
theorem S34_70 : WP d 34 70 lv st h Q ↔ WP d 34 71 lv (.int 1 :: st) h Q := WP_st rfl
theorem S34_71 (hx : isB x) : WP d 34 71 lv [.int x] h Q ↔ Q (some (some (.int x))) h := WP_endZ rfl rfl hx
theorem S35_0 : WP d 35 0 (some (.ref a) :: lv) st h Q ↔ WP d 35 1 (some (.ref a) :: lv) (.ref a :: st) h Q := WP_st rfl
theorem S35_1 {pr0 : Nat} (hs : shp pr0 = some (0, 4)) : WP (d + 1) 35 1 lv [.ref pr0] h Q ↔ WP d 40 0 [some (.ref pr0), none] [] h (kV (d + 1) 35 4 lv [] Q) := WP_callVV rfl rfl rfl rfl rfl hs
theorem S35_4 : WP d 35 4 (some (.ref a) :: lv) st h Q ↔ WP d 35 5 (some (.ref a) :: lv) (.ref a :: st) h Q := WP_st rfl
theorem S35_5 (hs : shp a = some (0, 4)) : WP d 35 5 lv (.ref a :: st) h Q ↔ WP d 35 8 lv (.int (h.1 a 7) :: st) h Q := WP_getI (r := 263) rfl hs (by decide)
theorem S35_8 : WP d 35 8 lv st h Q ↔ WP d 35 9 lv (.int 3 :: st) h Q := WP_st rfl
theorem S35_9 : WP d 35 9 lv (.int y :: .int x :: st) h Q ↔ if x = y then WP d 35 20 lv st h Q else WP d 35 12 lv st h Q := WP_br rfl
theorem S35_12 : WP d 35 12 (some (.ref a) :: lv) st h Q ↔ WP d 35 13 (some (.ref a) :: lv) (.ref a :: st) h Q := WP_st rfl
theorem S35_13 : WP d 35 13 lv st h Q ↔ WP d 35 14 lv (.int 1 :: st) h Q := WP_st rfl
theorem S35_14 {pr0 : Nat} {pi0 : Int32} (hs : shp pr0 = some (0, 4)) : WP (d + 1) 35 14 lv [.int pi0, .ref pr0] h Q ↔ WP d 39 0 [some (.ref pr0), some (.int pi0)] [] h (kR (d + 1) 35 17 lv [] Q) := WP_callVR rfl rfl rfl rfl rfl hs
theorem S35_17 : WP d 35 17 lv (.int x :: st) h Q ↔ if x = 0 then WP d 35 24 lv st h Q else WP d 35 20 lv st h Q := WP_br rfl
theorem S35_20 : WP d 35 20 lv st h Q ↔ WP d 35 21 lv (.int 1 :: st) h Q := WP_st rfl
theorem S35_21 : WP d 35 21 lv st h Q ↔ WP d 35 25 lv st h Q := WP_st rfl
theorem S35_24 : WP d 35 24 lv st h Q ↔ WP d 35 25 lv (.int 0 :: st) h Q := WP_st rfl
theorem S35_25 (hx : isB x) : WP d 35 25 lv [.int x] h Q ↔ Q (some (some (.int x))) h := WP_endZ rfl rfl hx
theorem S36_0 : WP d 36 0 (some (.ref a) :: lv) st h Q ↔ WP d 36 1 (some (.ref a) :: lv) (.ref a :: st) h Q := WP_st rfl
theorem S36_1 (hs : shp a = some (0, 4)) : WP d 36 1 lv (.ref a :: st) h Q ↔ WP d 36 4 lv (.int (h.1 a 7) :: st) h Q := WP_getI (r := 263) rfl hs (by decide)
theorem S36_4 : WP d 36 4 lv st h Q ↔ WP d 36 5 lv (.int 1 :: st) h Q := WP_st rfl
theorem S36_5 : WP d 36 5 lv (.int y :: .int x :: st) h Q ↔ if x = y then WP d 36 8 lv st h Q else WP d 36 21 lv st h Q := WP_br rfl
theorem S36_8 : WP d 36 8 (some (.ref a) :: lv) st h Q ↔ WP d 36 9 (some (.ref a) :: lv) (.ref a :: st) h Q := WP_st rfl
theorem S36_9 (hs : shp a = some (0, 4)) : WP d 36 9 lv (.ref a :: st) h Q ↔ WP d 36 12 lv (.long (h.2.1 a 9) :: st) h Q := WP_getL (r := 265) rfl hs (by decide)
theorem S36_12 : WP d 36 12 (a0 :: some (.long u) :: lv) st h Q ↔ WP d 36 13 (a0 :: some (.long u) :: lv) (.long u :: st) h Q := WP_st rfl
theorem S36_13 : WP d 36 13 lv (.long w :: .long u :: st) h Q ↔ WP d 36 14 lv (.int (lg_cmp u w) :: st) h Q := WP_st rfl
theorem S36_14 : WP d 36 14 lv (.int x :: st) h Q ↔ if x = 0 then WP d 36 17 lv st h Q else WP d 36 21 lv st h Q := WP_br rfl
theorem S36_17 : WP d 36 17 lv st h Q ↔ WP d 36 18 lv (.int 1 :: st) h Q := WP_st rfl
theorem S36_18 : WP d 36 18 lv st h Q ↔ WP d 36 22 lv st h Q := WP_st rfl
theorem S36_21 : WP d 36 21 lv st h Q ↔ WP d 36 22 lv (.int 0 :: st) h Q := WP_st rfl
theorem S36_22 (hx : isB x) : WP d 36 22 lv [.int x] h Q ↔ Q (some (some (.int x))) h := WP_endZ rfl rfl hx
theorem S37_0 : WP d 37 0 (some (.ref a) :: lv) st h Q ↔ WP d 37 1 (some (.ref a) :: lv) (.ref a :: st) h Q := WP_st rfl
theorem S37_1 (hs : shp a = some (0, 4)) : WP d 37 1 lv (.ref a :: st) h Q ↔ WP d 37 4 lv (.int (h.1 a 7) :: st) h Q := WP_getI (r := 263) rfl hs (by decide)
theorem S37_4 : WP d 37 4 lv st h Q ↔ WP d 37 5 lv (.int 1 :: st) h Q := WP_st rfl
theorem S37_5 : WP d 37 5 lv (.int y :: .int x :: st) h Q ↔ if x = y then WP d 37 8 lv st h Q else WP d 37 60 lv st h Q := WP_br rfl
theorem S37_8 : WP d 37 8 (some (.ref a) :: lv) st h Q ↔ WP d 37 9 (some (.ref a) :: lv) (.ref a :: st) h Q := WP_st rfl
theorem S37_9 (hs : shp a = some (0, 4)) : WP d 37 9 lv (.ref a :: st) h Q ↔ WP d 37 12 lv (.long (h.2.1 a 9) :: st) h Q := WP_getL (r := 265) rfl hs (by decide)
theorem S37_12 : WP d 37 12 (some (.ref a) :: lv) st h Q ↔ WP d 37 13 (some (.ref a) :: lv) (.ref a :: st) h Q := WP_st rfl
theorem S37_13 (hs : shp a = some (0, 4)) : WP d 37 13 lv (.ref a :: st) h Q ↔ WP d 37 16 lv (.long (h.2.1 a 2) :: st) h Q := WP_getL (r := 258) rfl hs (by decide)
theorem S37_16 : WP d 37 16 lv (.long w :: .long u :: st) h Q ↔ WP d 37 17 lv (.int (lg_cmp u w) :: st) h Q := WP_st rfl
theorem S37_17 : WP d 37 17 lv (.int x :: st) h Q ↔ if x = 0 then WP d 37 60 lv st h Q else WP d 37 20 lv st h Q := WP_br rfl
theorem S37_20 : WP d 37 20 (some (.ref a) :: lv) st h Q ↔ WP d 37 21 (some (.ref a) :: lv) (.ref a :: st) h Q := WP_st rfl
theorem S37_21 (hs : shp a = some (0, 4)) : WP d 37 21 lv (.ref a :: st) h Q ↔ WP d 37 24 lv (.long (h.2.1 a 9) :: st) h Q := WP_getL (r := 265) rfl hs (by decide)
theorem S37_24 : WP d 37 24 (some (.ref a) :: lv) st h Q ↔ WP d 37 25 (some (.ref a) :: lv) (.ref a :: st) h Q := WP_st rfl
theorem S37_25 (hs : shp a = some (0, 4)) : WP d 37 25 lv (.ref a :: st) h Q ↔ WP d 37 28 lv (.long (h.2.1 a 3) :: st) h Q := WP_getL (r := 259) rfl hs (by decide)
theorem S37_28 : WP d 37 28 lv (.long w :: .long u :: st) h Q ↔ WP d 37 29 lv (.int (lg_cmp u w) :: st) h Q := WP_st rfl
theorem S37_29 : WP d 37 29 lv (.int x :: st) h Q ↔ if x = 0 then WP d 37 60 lv st h Q else WP d 37 32 lv st h Q := WP_br rfl
theorem S37_32 : WP d 37 32 (some (.ref a) :: lv) st h Q ↔ WP d 37 33 (some (.ref a) :: lv) (.ref a :: st) h Q := WP_st rfl
theorem S37_33 (hs : shp a = some (0, 4)) : WP d 37 33 lv (.ref a :: st) h Q ↔ WP d 37 36 lv (.long (h.2.1 a 9) :: st) h Q := WP_getL (r := 265) rfl hs (by decide)
theorem S37_36 : WP d 37 36 (some (.ref a) :: lv) st h Q ↔ WP d 37 37 (some (.ref a) :: lv) (.ref a :: st) h Q := WP_st rfl
theorem S37_37 (hs : shp a = some (0, 4)) : WP d 37 37 lv (.ref a :: st) h Q ↔ WP d 37 40 lv (.long (h.2.1 a 4) :: st) h Q := WP_getL (r := 260) rfl hs (by decide)
theorem S37_40 : WP d 37 40 lv (.long w :: .long u :: st) h Q ↔ WP d 37 41 lv (.int (lg_cmp u w) :: st) h Q := WP_st rfl
theorem S37_41 : WP d 37 41 lv (.int x :: st) h Q ↔ if x = 0 then WP d 37 60 lv st h Q else WP d 37 44 lv st h Q := WP_br rfl
theorem S37_44 : WP d 37 44 (some (.ref a) :: lv) st h Q ↔ WP d 37 45 (some (.ref a) :: lv) (.ref a :: st) h Q := WP_st rfl
theorem S37_45 (hs : shp a = some (0, 4)) : WP d 37 45 lv (.ref a :: st) h Q ↔ WP d 37 48 lv (.long (h.2.1 a 9) :: st) h Q := WP_getL (r := 265) rfl hs (by decide)
theorem S37_48 : WP d 37 48 (some (.ref a) :: lv) st h Q ↔ WP d 37 49 (some (.ref a) :: lv) (.ref a :: st) h Q := WP_st rfl
theorem S37_49 (hs : shp a = some (0, 4)) : WP d 37 49 lv (.ref a :: st) h Q ↔ WP d 37 52 lv (.long (h.2.1 a 5) :: st) h Q := WP_getL (r := 261) rfl hs (by decide)
theorem S37_52 : WP d 37 52 lv (.long w :: .long u :: st) h Q ↔ WP d 37 53 lv (.int (lg_cmp u w) :: st) h Q := WP_st rfl
theorem S37_53 : WP d 37 53 lv (.int x :: st) h Q ↔ if x = 0 then WP d 37 60 lv st h Q else WP d 37 56 lv st h Q := WP_br rfl
theorem S37_56 : WP d 37 56 lv st h Q ↔ WP d 37 57 lv (.int 1 :: st) h Q := WP_st rfl
theorem S37_57 : WP d 37 57 lv st h Q ↔ WP d 37 61 lv st h Q := WP_st rfl
theorem S37_60 : WP d 37 60 lv st h Q ↔ WP d 37 61 lv (.int 0 :: st) h Q := WP_st rfl
theorem S37_61 (hx : isB x) : WP d 37 61 lv [.int x] h Q ↔ Q (some (some (.int x))) h := WP_endZ rfl rfl hx
theorem S38_0 : WP d 38 0 lv st h Q ↔ WP d 38 1 lv (.int 0 :: st) h Q := WP_st rfl
theorem S38_1 : WP d 38 1 (a0 :: a1 :: a2v :: lv) (.int x :: st) h Q ↔ WP d 38 2 (a0 :: kl a1 :: some (.int x) :: lv) st h Q := WP_st (by rfl)
theorem S38_2 : WP d 38 2 (a0 :: a1 :: some (.int x) :: lv) st h Q ↔ WP d 38 3 (a0 :: a1 :: some (.int x) :: lv) (.int x :: st) h Q := WP_st rfl
theorem S38_3 : WP d 38 3 (a0 :: some (.int x) :: lv) st h Q ↔ WP d 38 4 (a0 :: some (.int x) :: lv) (.int x :: st) h Q := WP_st rfl
theorem S38_4 : WP d 38 4 lv (.int y :: .int x :: st) h Q ↔ if y ≤ x then WP d 38 35 lv st h Q else WP d 38 7 lv st h Q := WP_br rfl
theorem S38_7 : WP d 38 7 (a0 :: a1 :: some (.int x) :: lv) st h Q ↔ WP d 38 8 (a0 :: a1 :: some (.int x) :: lv) (.int x :: st) h Q := WP_st rfl
theorem S38_8 : WP d 38 8 lv st h Q ↔ WP d 38 10 lv (.int 6 :: st) h Q := WP_st rfl
theorem S38_10 : WP d 38 10 lv (.int y :: .int x :: st) h Q ↔ if y ≤ x then WP d 38 35 lv st h Q else WP d 38 13 lv st h Q := WP_br rfl
theorem S38_13 : WP d 38 13 (some (.ref a) :: lv) st h Q ↔ WP d 38 14 (some (.ref a) :: lv) (.ref a :: st) h Q := WP_st rfl
theorem S38_14 (hs : shp a = some (0, 4)) : WP d 38 14 lv (.ref a :: st) h Q ↔ WP d 38 17 lv (.ref (RV a 1) :: st) h Q := WP_getR (r := 257) rfl hs (by decide)
theorem S38_17 : WP d 38 17 (a0 :: a1 :: some (.int x) :: lv) st h Q ↔ WP d 38 18 (a0 :: a1 :: some (.int x) :: lv) (.int x :: st) h Q := WP_st rfl
theorem S38_18 (hi : okA 4 a i) : WP d 38 18 lv (.int i :: .ref a :: st) h Q ↔ WP d 38 19 lv (.long (h.2.1 a i.toNatClampNeg) :: st) h Q := WP_lald rfl hi
theorem S38_19 : WP d 38 19 (some (.ref a) :: lv) st h Q ↔ WP d 38 20 (some (.ref a) :: lv) (.ref a :: st) h Q := WP_st rfl
theorem S38_20 (hs : shp a = some (0, 4)) : WP d 38 20 lv (.ref a :: st) h Q ↔ WP d 38 23 lv (.long (h.2.1 a 9) :: st) h Q := WP_getL (r := 265) rfl hs (by decide)
theorem S38_23 : WP d 38 23 lv (.long w :: .long u :: st) h Q ↔ WP d 38 24 lv (.int (lg_cmp u w) :: st) h Q := WP_st rfl
theorem S38_24 : WP d 38 24 lv (.int x :: st) h Q ↔ if x = 0 then WP d 38 27 lv st h Q else WP d 38 29 lv st h Q := WP_br rfl
theorem S38_27 : WP d 38 27 (a0 :: a1 :: some (.int x) :: lv) st h Q ↔ WP d 38 28 (a0 :: a1 :: some (.int x) :: lv) (.int x :: st) h Q := WP_st rfl
theorem S38_28 : WP d 38 28 lv [.int x] h Q ↔ Q (some (some (.int x))) h := WP_end rfl rfl rfl
theorem S38_29 : WP d 38 29 (a0 :: a1 :: some (.int x) :: lv) st h Q ↔ WP d 38 32 (a0 :: kl a1 :: some (.int (x + 1)) :: lv) st h Q := WP_st (by rfl)
theorem S38_32 : WP d 38 32 lv st h Q ↔ WP d 38 2 lv st h Q := WP_st rfl
theorem S38_35 : WP d 38 35 lv st h Q ↔ WP d 38 36 lv (.int (-1) :: st) h Q := WP_st rfl
theorem S38_36 : WP d 38 36 lv [.int x] h Q ↔ Q (some (some (.int x))) h := WP_end rfl rfl rfl
theorem S39_0 : WP d 39 0 (some (.ref a) :: lv) st h Q ↔ WP d 39 1 (some (.ref a) :: lv) (.ref a :: st) h Q := WP_st rfl
theorem S39_1 : WP d 39 1 (a0 :: some (.int x) :: lv) st h Q ↔ WP d 39 2 (a0 :: some (.int x) :: lv) (.int x :: st) h Q := WP_st rfl
theorem S39_2 (hs : shp a = some (0, 4)) : WP d 39 2 lv (.int x :: .ref a :: st) h Q ↔ WP d 39 5 lv st (setI h a 12 x) Q := WP_putI (r := 268) rfl hs (by decide)
theorem S39_5 : WP d 39 5 (some (.ref a) :: lv) st h Q ↔ WP d 39 6 (some (.ref a) :: lv) (.ref a :: st) h Q := WP_st rfl
theorem S39_6 : WP d 39 6 (some (.ref a) :: lv) st h Q ↔ WP d 39 7 (some (.ref a) :: lv) (.ref a :: st) h Q := WP_st rfl
theorem S39_7 (hs : shp a = some (0, 4)) : WP d 39 7 lv (.ref a :: st) h Q ↔ WP d 39 10 lv (.int (h.1 a 8) :: st) h Q := WP_getI (r := 264) rfl hs (by decide)
theorem S39_10 (hs : shp a = some (0, 4)) : WP d 39 10 lv (.int x :: .ref a :: st) h Q ↔ WP d 39 13 lv st (setI h a 13 x) Q := WP_putI (r := 269) rfl hs (by decide)
theorem S39_13 : WP d 39 13 lv st h Q ↔ WP d 39 14 lv (.int 0 :: st) h Q := WP_st rfl
theorem S39_14 (hx : isB x) : WP d 39 14 lv [.int x] h Q ↔ Q (some (some (.int x))) h := WP_endZ rfl rfl hx
theorem S40_0 : WP d 40 0 (some (.ref a) :: lv) st h Q ↔ WP d 40 1 (some (.ref a) :: lv) (.ref a :: st) h Q := WP_st rfl
theorem S40_1 (hs : shp a = some (0, 4)) : WP d 40 1 lv (.ref a :: st) h Q ↔ WP d 40 4 lv (.ref (RV a 0) :: st) h Q := WP_getR (r := 256) rfl hs (by decide)
theorem S40_4 (hs : shp a = some (0, 5)) : WP d 40 4 lv (.ref a :: st) h Q ↔ WP d 40 7 lv (.int (h.1 a 1) :: st) h Q := WP_getI (r := 321) rfl hs (by decide)
theorem S40_7 : WP d 40 7 lv st h Q ↔ WP d 40 10 lv (.int 500 :: st) h Q := WP_st rfl
theorem S40_10 {pi0 : Int32} {pi1 : Int32} : WP (d + 1) 40 10 lv [.int pi1, .int pi0] h Q ↔ WP d 204 0 [some (.int pi0), some (.int pi1)] [] h (kR (d + 1) 40 13 lv [] Q) := WP_callSR rfl rfl rfl rfl rfl
theorem S40_13 : WP d 40 13 (a0 :: a1 :: lv) (.int x :: st) h Q ↔ WP d 40 14 (kl a0 :: some (.int x) :: lv) st h Q := WP_st (by rfl)
theorem S40_14 : WP d 40 14 (some (.ref a) :: lv) st h Q ↔ WP d 40 15 (some (.ref a) :: lv) (.ref a :: st) h Q := WP_st rfl
theorem S40_15 (hs : shp a = some (0, 4)) : WP d 40 15 lv (.ref a :: st) h Q ↔ WP d 40 18 lv (.int (h.1 a 6) :: st) h Q := WP_getI (r := 262) rfl hs (by decide)
theorem S40_18 : WP d 40 18 (a0 :: some (.int x) :: lv) st h Q ↔ WP d 40 19 (a0 :: some (.int x) :: lv) (.int x :: st) h Q := WP_st rfl
theorem S40_19 : WP d 40 19 lv (.int y :: .int x :: st) h Q ↔ if y ≤ x then WP d 40 69 lv st h Q else WP d 40 22 lv st h Q := WP_br rfl
theorem S40_22 : WP d 40 22 (some (.ref a) :: lv) st h Q ↔ WP d 40 23 (some (.ref a) :: lv) (.ref a :: st) h Q := WP_st rfl
theorem S40_23 (hs : shp a = some (0, 4)) : WP d 40 23 lv (.ref a :: st) h Q ↔ WP d 40 26 lv (.ref (RV a 0) :: st) h Q := WP_getR (r := 256) rfl hs (by decide)
theorem S40_26 (hs : shp a = some (0, 5)) : WP d 40 26 lv (.ref a :: st) h Q ↔ WP d 40 29 lv (.ref (RV a 0) :: st) h Q := WP_getR (r := 320) rfl hs (by decide)
theorem S40_29 : WP d 40 29 (some (.ref a) :: lv) st h Q ↔ WP d 40 30 (some (.ref a) :: lv) (.ref a :: st) h Q := WP_st rfl
theorem S40_30 (hs : shp a = some (0, 4)) : WP d 40 30 lv (.ref a :: st) h Q ↔ WP d 40 33 lv (.int (h.1 a 6) :: st) h Q := WP_getI (r := 262) rfl hs (by decide)
theorem S40_33 (hi : okB a i) : WP d 40 33 lv (.int i :: .ref a :: st) h Q ↔ WP d 40 34 lv (.int (h.1 a i.toNatClampNeg) :: st) h Q := WP_bald rfl hi
theorem S40_34 : WP d 40 34 lv st h Q ↔ WP d 40 36 lv (.int 32 :: st) h Q := WP_st rfl
theorem S40_36 : WP d 40 36 lv (.int y :: .int x :: st) h Q ↔ if x = y then WP d 40 56 lv st h Q else WP d 40 39 lv st h Q := WP_br rfl
theorem S40_39 : WP d 40 39 (some (.ref a) :: lv) st h Q ↔ WP d 40 40 (some (.ref a) :: lv) (.ref a :: st) h Q := WP_st rfl
theorem S40_40 (hs : shp a = some (0, 4)) : WP d 40 40 lv (.ref a :: st) h Q ↔ WP d 40 43 lv (.ref (RV a 0) :: st) h Q := WP_getR (r := 256) rfl hs (by decide)
theorem S40_43 (hs : shp a = some (0, 5)) : WP d 40 43 lv (.ref a :: st) h Q ↔ WP d 40 46 lv (.ref (RV a 0) :: st) h Q := WP_getR (r := 320) rfl hs (by decide)
theorem S40_46 : WP d 40 46 (some (.ref a) :: lv) st h Q ↔ WP d 40 47 (some (.ref a) :: lv) (.ref a :: st) h Q := WP_st rfl
theorem S40_47 (hs : shp a = some (0, 4)) : WP d 40 47 lv (.ref a :: st) h Q ↔ WP d 40 50 lv (.int (h.1 a 6) :: st) h Q := WP_getI (r := 262) rfl hs (by decide)
theorem S40_50 (hi : okB a i) : WP d 40 50 lv (.int i :: .ref a :: st) h Q ↔ WP d 40 51 lv (.int (h.1 a i.toNatClampNeg) :: st) h Q := WP_bald rfl hi
theorem S40_51 : WP d 40 51 lv st h Q ↔ WP d 40 53 lv (.int 10 :: st) h Q := WP_st rfl
theorem S40_53 : WP d 40 53 lv (.int y :: .int x :: st) h Q ↔ if x = y then WP d 40 56 lv st h Q else WP d 40 69 lv st h Q := WP_br rfl
theorem S40_56 : WP d 40 56 (some (.ref a) :: lv) st h Q ↔ WP d 40 57 (some (.ref a) :: lv) (.ref a :: st) h Q := WP_st rfl
theorem S40_57 : WP d 40 57 lv (.ref a :: st) h Q ↔ WP d 40 58 lv (.ref a :: .ref a :: st) h Q := WP_st rfl
theorem S40_58 (hs : shp a = some (0, 4)) : WP d 40 58 lv (.ref a :: st) h Q ↔ WP d 40 61 lv (.int (h.1 a 6) :: st) h Q := WP_getI (r := 262) rfl hs (by decide)
theorem S40_61 : WP d 40 61 lv st h Q ↔ WP d 40 62 lv (.int 1 :: st) h Q := WP_st rfl
theorem S40_62 : WP d 40 62 lv (.int y :: .int x :: st) h Q ↔ WP d 40 63 lv (.int (x + y) :: st) h Q := WP_st rfl
theorem S40_63 (hs : shp a = some (0, 4)) : WP d 40 63 lv (.int x :: .ref a :: st) h Q ↔ WP d 40 66 lv st (setI h a 6 x) Q := WP_putI (r := 262) rfl hs (by decide)
theorem S40_66 : WP d 40 66 lv st h Q ↔ WP d 40 14 lv st h Q := WP_st rfl
theorem S40_69 : WP d 40 69 (some (.ref a) :: lv) st h Q ↔ WP d 40 70 (some (.ref a) :: lv) (.ref a :: st) h Q := WP_st rfl
theorem S40_70 (hs : shp a = some (0, 4)) : WP d 40 70 lv (.ref a :: st) h Q ↔ WP d 40 73 lv (.int (h.1 a 6) :: st) h Q := WP_getI (r := 262) rfl hs (by decide)
theorem S40_73 : WP d 40 73 (a0 :: some (.int x) :: lv) st h Q ↔ WP d 40 74 (a0 :: some (.int x) :: lv) (.int x :: st) h Q := WP_st rfl
theorem S40_74 : WP d 40 74 lv (.int y :: .int x :: st) h Q ↔ if x < y then WP d 40 88 lv st h Q else WP d 40 77 lv st h Q := WP_br rfl
theorem S40_77 : WP d 40 77 (some (.ref a) :: lv) st h Q ↔ WP d 40 78 (some (.ref a) :: lv) (.ref a :: st) h Q := WP_st rfl
theorem S40_78 : WP d 40 78 lv st h Q ↔ WP d 40 79 lv (.int 0 :: st) h Q := WP_st rfl
theorem S40_79 (hs : shp a = some (0, 4)) : WP d 40 79 lv (.int x :: .ref a :: st) h Q ↔ WP d 40 82 lv st (setI h a 7 x) Q := WP_putI (r := 263) rfl hs (by decide)
theorem S40_82 : WP d 40 82 (some (.ref a) :: lv) st h Q ↔ WP d 40 83 (some (.ref a) :: lv) (.ref a :: st) h Q := WP_st rfl
theorem S40_83 : WP d 40 83 (a0 :: some (.int x) :: lv) st h Q ↔ WP d 40 84 (a0 :: some (.int x) :: lv) (.int x :: st) h Q := WP_st rfl
theorem S40_84 (hs : shp a = some (0, 4)) : WP d 40 84 lv (.int x :: .ref a :: st) h Q ↔ WP d 40 87 lv st (setI h a 8 x) Q := WP_putI (r := 264) rfl hs (by decide)
theorem S40_87 : WP d 40 87 lv [] h Q ↔ Q (some none) h := WP_end rfl rfl rfl
theorem S40_88 : WP d 40 88 (some (.ref a) :: lv) st h Q ↔ WP d 40 89 (some (.ref a) :: lv) (.ref a :: st) h Q := WP_st rfl
theorem S40_89 : WP d 40 89 (some (.ref a) :: lv) st h Q ↔ WP d 40 90 (some (.ref a) :: lv) (.ref a :: st) h Q := WP_st rfl
theorem S40_90 (hs : shp a = some (0, 4)) : WP d 40 90 lv (.ref a :: st) h Q ↔ WP d 40 93 lv (.int (h.1 a 6) :: st) h Q := WP_getI (r := 262) rfl hs (by decide)
theorem S40_93 (hs : shp a = some (0, 4)) : WP d 40 93 lv (.int x :: .ref a :: st) h Q ↔ WP d 40 96 lv st (setI h a 8 x) Q := WP_putI (r := 264) rfl hs (by decide)
theorem S40_96 : WP d 40 96 (some (.ref a) :: lv) st h Q ↔ WP d 40 97 (some (.ref a) :: lv) (.ref a :: st) h Q := WP_st rfl
theorem S40_97 (hs : shp a = some (0, 4)) : WP d 40 97 lv (.ref a :: st) h Q ↔ WP d 40 100 lv (.ref (RV a 0) :: st) h Q := WP_getR (r := 256) rfl hs (by decide)
theorem S40_100 (hs : shp a = some (0, 5)) : WP d 40 100 lv (.ref a :: st) h Q ↔ WP d 40 103 lv (.ref (RV a 0) :: st) h Q := WP_getR (r := 320) rfl hs (by decide)
theorem S40_103 : WP d 40 103 (some (.ref a) :: lv) st h Q ↔ WP d 40 104 (some (.ref a) :: lv) (.ref a :: st) h Q := WP_st rfl
theorem S40_104 (hs : shp a = some (0, 4)) : WP d 40 104 lv (.ref a :: st) h Q ↔ WP d 40 107 lv (.int (h.1 a 6) :: st) h Q := WP_getI (r := 262) rfl hs (by decide)
theorem S40_107 (hi : okB a i) : WP d 40 107 lv (.int i :: .ref a :: st) h Q ↔ WP d 40 108 lv (.int (h.1 a i.toNatClampNeg) :: st) h Q := WP_bald rfl hi
theorem S40_108 : WP d 40 108 lv st h Q ↔ WP d 40 110 lv (.int 59 :: st) h Q := WP_st rfl
theorem S40_110 : WP d 40 110 lv (.int y :: .int x :: st) h Q ↔ if x = y then WP d 40 113 lv st h Q else WP d 40 129 lv st h Q := WP_br rfl
theorem S40_113 : WP d 40 113 (some (.ref a) :: lv) st h Q ↔ WP d 40 114 (some (.ref a) :: lv) (.ref a :: st) h Q := WP_st rfl
theorem S40_114 : WP d 40 114 lv st h Q ↔ WP d 40 115 lv (.int 3 :: st) h Q := WP_st rfl
theorem S40_115 (hs : shp a = some (0, 4)) : WP d 40 115 lv (.int x :: .ref a :: st) h Q ↔ WP d 40 118 lv st (setI h a 7 x) Q := WP_putI (r := 263) rfl hs (by decide)
theorem S40_118 : WP d 40 118 (some (.ref a) :: lv) st h Q ↔ WP d 40 119 (some (.ref a) :: lv) (.ref a :: st) h Q := WP_st rfl
theorem S40_119 : WP d 40 119 lv (.ref a :: st) h Q ↔ WP d 40 120 lv (.ref a :: .ref a :: st) h Q := WP_st rfl
theorem S40_120 (hs : shp a = some (0, 4)) : WP d 40 120 lv (.ref a :: st) h Q ↔ WP d 40 123 lv (.int (h.1 a 6) :: st) h Q := WP_getI (r := 262) rfl hs (by decide)
theorem S40_123 : WP d 40 123 lv st h Q ↔ WP d 40 124 lv (.int 1 :: st) h Q := WP_st rfl
theorem S40_124 : WP d 40 124 lv (.int y :: .int x :: st) h Q ↔ WP d 40 125 lv (.int (x + y) :: st) h Q := WP_st rfl
theorem S40_125 (hs : shp a = some (0, 4)) : WP d 40 125 lv (.int x :: .ref a :: st) h Q ↔ WP d 40 128 lv st (setI h a 6 x) Q := WP_putI (r := 262) rfl hs (by decide)
theorem S40_128 : WP d 40 128 lv [] h Q ↔ Q (some none) h := WP_end rfl rfl rfl
theorem S40_129 : WP d 40 129 (some (.ref a) :: lv) st h Q ↔ WP d 40 130 (some (.ref a) :: lv) (.ref a :: st) h Q := WP_st rfl
theorem S40_130 {pr0 : Nat} (hs : shp pr0 = some (0, 4)) : WP (d + 1) 40 130 lv [.ref pr0] h Q ↔ WP d 41 0 [some (.ref pr0), none, none, none] [] h (kV (d + 1) 40 133 lv [] Q) := WP_callVV rfl rfl rfl rfl rfl hs
theorem S40_133 : WP d 40 133 lv [] h Q ↔ Q (some none) h := WP_end rfl rfl rfl
theorem S41_0 : WP d 41 0 lv st h Q ↔ WP d 41 1 lv (.int 0 :: st) h Q := WP_st rfl
theorem S41_1 : WP d 41 1 (a0 :: a1 :: lv) (.int x :: st) h Q ↔ WP d 41 2 (kl a0 :: some (.int x) :: lv) st h Q := WP_st (by rfl)
theorem S41_2 : WP d 41 2 lv st h Q ↔ WP d 41 3 lv (.int 0 :: st) h Q := WP_st rfl
theorem S41_3 : WP d 41 3 (a0 :: a1 :: a2v :: lv) (.int x :: st) h Q ↔ WP d 41 4 (a0 :: kl a1 :: some (.int x) :: lv) st h Q := WP_st (by rfl)
theorem S41_4 : WP d 41 4 (some (.ref a) :: lv) st h Q ↔ WP d 41 5 (some (.ref a) :: lv) (.ref a :: st) h Q := WP_st rfl
theorem S41_5 : WP d 41 5 lv st h Q ↔ WP d 41 6 lv (.long 0 :: st) h Q := WP_st rfl
theorem S41_6 (hs : shp a = some (0, 4)) : WP d 41 6 lv (.long u :: .ref a :: st) h Q ↔ WP d 41 9 lv st (setL h a 9 u) Q := WP_putL (r := 265) rfl hs (by decide)
theorem S41_9 : WP d 41 9 (some (.ref a) :: lv) st h Q ↔ WP d 41 10 (some (.ref a) :: lv) (.ref a :: st) h Q := WP_st rfl
theorem S41_10 (hs : shp a = some (0, 4)) : WP d 41 10 lv (.ref a :: st) h Q ↔ WP d 41 13 lv (.int (h.1 a 6) :: st) h Q := WP_getI (r := 262) rfl hs (by decide)
theorem S41_13 : WP d 41 13 (some (.ref a) :: lv) st h Q ↔ WP d 41 14 (some (.ref a) :: lv) (.ref a :: st) h Q := WP_st rfl
theorem S41_14 (hs : shp a = some (0, 4)) : WP d 41 14 lv (.ref a :: st) h Q ↔ WP d 41 17 lv (.ref (RV a 0) :: st) h Q := WP_getR (r := 256) rfl hs (by decide)
theorem S41_17 (hs : shp a = some (0, 5)) : WP d 41 17 lv (.ref a :: st) h Q ↔ WP d 41 20 lv (.int (h.1 a 1) :: st) h Q := WP_getI (r := 321) rfl hs (by decide)
theorem S41_20 : WP d 41 20 lv (.int y :: .int x :: st) h Q ↔ if y ≤ x then WP d 41 112 lv st h Q else WP d 41 23 lv st h Q := WP_br rfl
theorem S41_23 : WP d 41 23 (some (.ref a) :: lv) st h Q ↔ WP d 41 24 (some (.ref a) :: lv) (.ref a :: st) h Q := WP_st rfl
theorem S41_24 (hs : shp a = some (0, 4)) : WP d 41 24 lv (.ref a :: st) h Q ↔ WP d 41 27 lv (.ref (RV a 0) :: st) h Q := WP_getR (r := 256) rfl hs (by decide)
theorem S41_27 (hs : shp a = some (0, 5)) : WP d 41 27 lv (.ref a :: st) h Q ↔ WP d 41 30 lv (.ref (RV a 0) :: st) h Q := WP_getR (r := 320) rfl hs (by decide)
theorem S41_30 : WP d 41 30 (some (.ref a) :: lv) st h Q ↔ WP d 41 31 (some (.ref a) :: lv) (.ref a :: st) h Q := WP_st rfl
theorem S41_31 (hs : shp a = some (0, 4)) : WP d 41 31 lv (.ref a :: st) h Q ↔ WP d 41 34 lv (.int (h.1 a 6) :: st) h Q := WP_getI (r := 262) rfl hs (by decide)
theorem S41_34 (hi : okB a i) : WP d 41 34 lv (.int i :: .ref a :: st) h Q ↔ WP d 41 35 lv (.int (h.1 a i.toNatClampNeg) :: st) h Q := WP_bald rfl hi
theorem S41_35 : WP d 41 35 (a0 :: a1 :: a2v :: a3 :: lv) (.int x :: st) h Q ↔ WP d 41 36 (a0 :: a1 :: kl a2v :: some (.int x) :: lv) st h Q := WP_st (by rfl)
theorem S41_36 : WP d 41 36 (a0 :: a1 :: a2v :: some (.int x) :: lv) st h Q ↔ WP d 41 37 (a0 :: a1 :: a2v :: some (.int x) :: lv) (.int x :: st) h Q := WP_st rfl
theorem S41_37 : WP d 41 37 lv st h Q ↔ WP d 41 39 lv (.int 97 :: st) h Q := WP_st rfl
theorem S41_39 : WP d 41 39 lv (.int y :: .int x :: st) h Q ↔ if x < y then WP d 41 66 lv st h Q else WP d 41 42 lv st h Q := WP_br rfl
theorem S41_42 : WP d 41 42 (a0 :: a1 :: a2v :: some (.int x) :: lv) st h Q ↔ WP d 41 43 (a0 :: a1 :: a2v :: some (.int x) :: lv) (.int x :: st) h Q := WP_st rfl
theorem S41_43 : WP d 41 43 lv st h Q ↔ WP d 41 45 lv (.int 122 :: st) h Q := WP_st rfl
theorem S41_45 : WP d 41 45 lv (.int y :: .int x :: st) h Q ↔ if y < x then WP d 41 66 lv st h Q else WP d 41 48 lv st h Q := WP_br rfl
theorem S41_48 : WP d 41 48 (a0 :: some (.int x) :: lv) st h Q ↔ WP d 41 51 (kl a0 :: some (.int (x + 1)) :: lv) st h Q := WP_st (by rfl)
theorem S41_51 : WP d 41 51 (some (.ref a) :: lv) st h Q ↔ WP d 41 52 (some (.ref a) :: lv) (.ref a :: st) h Q := WP_st rfl
theorem S41_52 : WP d 41 52 (some (.ref a) :: lv) st h Q ↔ WP d 41 53 (some (.ref a) :: lv) (.ref a :: st) h Q := WP_st rfl
theorem S41_53 (hs : shp a = some (0, 4)) : WP d 41 53 lv (.ref a :: st) h Q ↔ WP d 41 56 lv (.long (h.2.1 a 9) :: st) h Q := WP_getL (r := 265) rfl hs (by decide)
theorem S41_56 : WP d 41 56 (a0 :: a1 :: a2v :: some (.int x) :: lv) st h Q ↔ WP d 41 57 (a0 :: a1 :: a2v :: some (.int x) :: lv) (.int x :: st) h Q := WP_st rfl
theorem S41_57 {pj0 : Int64} {pi0 : Int32} {qr0 : Nat} : WP (d + 1) 41 57 lv [.int pi0, .long pj0, .ref qr0] h Q ↔ WP d 42 0 [some (.long pj0), none, some (.int pi0)] [] h (kR (d + 1) 41 60 lv [.ref qr0] Q) := WP_callSR rfl rfl rfl rfl rfl
theorem S41_60 (hs : shp a = some (0, 4)) : WP d 41 60 lv (.long u :: .ref a :: st) h Q ↔ WP d 41 63 lv st (setL h a 9 u) Q := WP_putL (r := 265) rfl hs (by decide)
theorem S41_63 : WP d 41 63 lv st h Q ↔ WP d 41 99 lv st h Q := WP_st rfl
theorem S41_66 : WP d 41 66 (a0 :: a1 :: a2v :: some (.int x) :: lv) st h Q ↔ WP d 41 67 (a0 :: a1 :: a2v :: some (.int x) :: lv) (.int x :: st) h Q := WP_st rfl
theorem S41_67 : WP d 41 67 lv st h Q ↔ WP d 41 69 lv (.int 48 :: st) h Q := WP_st rfl
theorem S41_69 : WP d 41 69 lv (.int y :: .int x :: st) h Q ↔ if x < y then WP d 41 112 lv st h Q else WP d 41 72 lv st h Q := WP_br rfl
theorem S41_72 : WP d 41 72 (a0 :: a1 :: a2v :: some (.int x) :: lv) st h Q ↔ WP d 41 73 (a0 :: a1 :: a2v :: some (.int x) :: lv) (.int x :: st) h Q := WP_st rfl
theorem S41_73 : WP d 41 73 lv st h Q ↔ WP d 41 75 lv (.int 57 :: st) h Q := WP_st rfl
theorem S41_75 : WP d 41 75 lv (.int y :: .int x :: st) h Q ↔ if y < x then WP d 41 112 lv st h Q else WP d 41 78 lv st h Q := WP_br rfl
theorem S41_78 : WP d 41 78 (a0 :: a1 :: some (.int x) :: lv) st h Q ↔ WP d 41 81 (a0 :: kl a1 :: some (.int (x + 1)) :: lv) st h Q := WP_st (by rfl)
theorem S41_81 : WP d 41 81 (some (.ref a) :: lv) st h Q ↔ WP d 41 82 (some (.ref a) :: lv) (.ref a :: st) h Q := WP_st rfl
theorem S41_82 : WP d 41 82 (some (.ref a) :: lv) st h Q ↔ WP d 41 83 (some (.ref a) :: lv) (.ref a :: st) h Q := WP_st rfl
theorem S41_83 (hs : shp a = some (0, 4)) : WP d 41 83 lv (.ref a :: st) h Q ↔ WP d 41 86 lv (.long (h.2.1 a 9) :: st) h Q := WP_getL (r := 265) rfl hs (by decide)
theorem S41_86 : WP d 41 86 lv st h Q ↔ WP d 41 89 lv (.long 10 :: st) h Q := WP_st rfl
theorem S41_89 : WP d 41 89 lv (.long w :: .long u :: st) h Q ↔ WP d 41 90 lv (.long (u * w) :: st) h Q := WP_st rfl
theorem S41_90 : WP d 41 90 (a0 :: a1 :: a2v :: some (.int x) :: lv) st h Q ↔ WP d 41 91 (a0 :: a1 :: a2v :: some (.int x) :: lv) (.int x :: st) h Q := WP_st rfl
theorem S41_91 : WP d 41 91 lv st h Q ↔ WP d 41 93 lv (.int 48 :: st) h Q := WP_st rfl
theorem S41_93 : WP d 41 93 lv (.int y :: .int x :: st) h Q ↔ WP d 41 94 lv (.int (x - y) :: st) h Q := WP_st rfl
theorem S41_94 : WP d 41 94 lv (.int x :: st) h Q ↔ WP d 41 95 lv (.long x.toInt64 :: st) h Q := WP_st rfl
theorem S41_95 : WP d 41 95 lv (.long w :: .long u :: st) h Q ↔ WP d 41 96 lv (.long (u + w) :: st) h Q := WP_st rfl
theorem S41_96 (hs : shp a = some (0, 4)) : WP d 41 96 lv (.long u :: .ref a :: st) h Q ↔ WP d 41 99 lv st (setL h a 9 u) Q := WP_putL (r := 265) rfl hs (by decide)
theorem S41_99 : WP d 41 99 (some (.ref a) :: lv) st h Q ↔ WP d 41 100 (some (.ref a) :: lv) (.ref a :: st) h Q := WP_st rfl
theorem S41_100 : WP d 41 100 lv (.ref a :: st) h Q ↔ WP d 41 101 lv (.ref a :: .ref a :: st) h Q := WP_st rfl
theorem S41_101 (hs : shp a = some (0, 4)) : WP d 41 101 lv (.ref a :: st) h Q ↔ WP d 41 104 lv (.int (h.1 a 6) :: st) h Q := WP_getI (r := 262) rfl hs (by decide)
theorem S41_104 : WP d 41 104 lv st h Q ↔ WP d 41 105 lv (.int 1 :: st) h Q := WP_st rfl
theorem S41_105 : WP d 41 105 lv (.int y :: .int x :: st) h Q ↔ WP d 41 106 lv (.int (x + y) :: st) h Q := WP_st rfl
theorem S41_106 (hs : shp a = some (0, 4)) : WP d 41 106 lv (.int x :: .ref a :: st) h Q ↔ WP d 41 109 lv st (setI h a 6 x) Q := WP_putI (r := 262) rfl hs (by decide)
theorem S41_109 : WP d 41 109 lv st h Q ↔ WP d 41 9 lv st h Q := WP_st rfl
theorem S41_112 : WP d 41 112 (a0 :: a1 :: some (.int x) :: lv) st h Q ↔ WP d 41 113 (a0 :: a1 :: some (.int x) :: lv) (.int x :: st) h Q := WP_st rfl
theorem S41_113 : WP d 41 113 lv (.int x :: st) h Q ↔ if x = 0 then WP d 41 116 lv st h Q else WP d 41 135 lv st h Q := WP_br rfl
theorem S41_116 : WP d 41 116 (a0 :: some (.int x) :: lv) st h Q ↔ WP d 41 117 (a0 :: some (.int x) :: lv) (.int x :: st) h Q := WP_st rfl
theorem S41_117 : WP d 41 117 lv st h Q ↔ WP d 41 118 lv (.int 1 :: st) h Q := WP_st rfl
theorem S41_118 : WP d 41 118 lv (.int y :: .int x :: st) h Q ↔ if x < y then WP d 41 135 lv st h Q else WP d 41 121 lv st h Q := WP_br rfl
theorem S41_121 : WP d 41 121 (a0 :: some (.int x) :: lv) st h Q ↔ WP d 41 122 (a0 :: some (.int x) :: lv) (.int x :: st) h Q := WP_st rfl
theorem S41_122 : WP d 41 122 lv st h Q ↔ WP d 41 124 lv (.int 7 :: st) h Q := WP_st rfl
theorem S41_124 : WP d 41 124 lv (.int y :: .int x :: st) h Q ↔ if y < x then WP d 41 135 lv st h Q else WP d 41 127 lv st h Q := WP_br rfl
theorem S41_127 : WP d 41 127 (some (.ref a) :: lv) st h Q ↔ WP d 41 128 (some (.ref a) :: lv) (.ref a :: st) h Q := WP_st rfl
theorem S41_128 : WP d 41 128 lv st h Q ↔ WP d 41 129 lv (.int 1 :: st) h Q := WP_st rfl
theorem S41_129 (hs : shp a = some (0, 4)) : WP d 41 129 lv (.int x :: .ref a :: st) h Q ↔ WP d 41 132 lv st (setI h a 7 x) Q := WP_putI (r := 263) rfl hs (by decide)
theorem S41_132 : WP d 41 132 lv st h Q ↔ WP d 41 162 lv st h Q := WP_st rfl
theorem S41_135 : WP d 41 135 (a0 :: some (.int x) :: lv) st h Q ↔ WP d 41 136 (a0 :: some (.int x) :: lv) (.int x :: st) h Q := WP_st rfl
theorem S41_136 : WP d 41 136 lv (.int x :: st) h Q ↔ if x = 0 then WP d 41 139 lv st h Q else WP d 41 157 lv st h Q := WP_br rfl
theorem S41_139 : WP d 41 139 (a0 :: a1 :: some (.int x) :: lv) st h Q ↔ WP d 41 140 (a0 :: a1 :: some (.int x) :: lv) (.int x :: st) h Q := WP_st rfl
theorem S41_140 : WP d 41 140 lv st h Q ↔ WP d 41 141 lv (.int 1 :: st) h Q := WP_st rfl
theorem S41_141 : WP d 41 141 lv (.int y :: .int x :: st) h Q ↔ if x < y then WP d 41 157 lv st h Q else WP d 41 144 lv st h Q := WP_br rfl
theorem S41_144 : WP d 41 144 (a0 :: a1 :: some (.int x) :: lv) st h Q ↔ WP d 41 145 (a0 :: a1 :: some (.int x) :: lv) (.int x :: st) h Q := WP_st rfl
theorem S41_145 : WP d 41 145 lv st h Q ↔ WP d 41 146 lv (.int 2 :: st) h Q := WP_st rfl
theorem S41_146 : WP d 41 146 lv (.int y :: .int x :: st) h Q ↔ if y < x then WP d 41 157 lv st h Q else WP d 41 149 lv st h Q := WP_br rfl
theorem S41_149 : WP d 41 149 (some (.ref a) :: lv) st h Q ↔ WP d 41 150 (some (.ref a) :: lv) (.ref a :: st) h Q := WP_st rfl
theorem S41_150 : WP d 41 150 lv st h Q ↔ WP d 41 151 lv (.int 2 :: st) h Q := WP_st rfl
set_option maxRecDepth 20000 in
theorem S41_151 (hs : shp a = some (0, 4)) : WP d 41 151 lv (.int x :: .ref a :: st) h Q ↔ WP d 41 154 lv st (setI h a 7 x) Q := WP_putI (r := 263) rfl hs (by decide)
set_option maxRecDepth 20000 in
theorem S41_154 : WP d 41 154 lv st h Q ↔ WP d 41 162 lv st h Q := WP_st rfl
set_option maxRecDepth 20000 in
theorem S41_157 : WP d 41 157 (some (.ref a) :: lv) st h Q ↔ WP d 41 158 (some (.ref a) :: lv) (.ref a :: st) h Q := WP_st rfl
set_option maxRecDepth 20000 in
theorem S41_158 : WP d 41 158 lv st h Q ↔ WP d 41 159 lv (.int 4 :: st) h Q := WP_st rfl
set_option maxRecDepth 20000 in
theorem S41_159 (hs : shp a = some (0, 4)) : WP d 41 159 lv (.int x :: .ref a :: st) h Q ↔ WP d 41 162 lv st (setI h a 7 x) Q := WP_putI (r := 263) rfl hs (by decide)
set_option maxRecDepth 20000 in
theorem S41_162 : WP d 41 162 lv [] h Q ↔ Q (some none) h := WP_end rfl rfl rfl
theorem S42_0 : WP d 42 0 (some (.long u) :: lv) st h Q ↔ WP d 42 1 (some (.long u) :: lv) (.long u :: st) h Q := WP_st rfl
theorem S42_1 : WP d 42 1 lv st h Q ↔ WP d 42 4 lv (.long 27 :: st) h Q := WP_st rfl
theorem S42_4 : WP d 42 4 lv (.long w :: .long u :: st) h Q ↔ WP d 42 5 lv (.long (u * w) :: st) h Q := WP_st rfl
theorem S42_5 : WP d 42 5 (a0 :: a1 :: some (.int x) :: lv) st h Q ↔ WP d 42 6 (a0 :: a1 :: some (.int x) :: lv) (.int x :: st) h Q := WP_st rfl
theorem S42_6 : WP d 42 6 lv st h Q ↔ WP d 42 8 lv (.int 97 :: st) h Q := WP_st rfl
theorem S42_8 : WP d 42 8 lv (.int y :: .int x :: st) h Q ↔ WP d 42 9 lv (.int (x - y) :: st) h Q := WP_st rfl
theorem S42_9 : WP d 42 9 lv st h Q ↔ WP d 42 10 lv (.int 1 :: st) h Q := WP_st rfl
theorem S42_10 : WP d 42 10 lv (.int y :: .int x :: st) h Q ↔ WP d 42 11 lv (.int (x + y) :: st) h Q := WP_st rfl
theorem S42_11 : WP d 42 11 lv (.int x :: st) h Q ↔ WP d 42 12 lv (.long x.toInt64 :: st) h Q := WP_st rfl
theorem S42_12 : WP d 42 12 lv (.long w :: .long u :: st) h Q ↔ WP d 42 13 lv (.long (u + w) :: st) h Q := WP_st rfl
theorem S42_13 : WP d 42 13 lv [.long u] h Q ↔ Q (some (some (.long u))) h := WP_end rfl rfl rfl
theorem S43_0 : WP d 43 0 lv st h Q ↔ WP d 43 2 lv (.int 24 :: st) h Q := WP_st rfl
theorem S43_2 : WP d 43 2 (a0 :: a1 :: a2v :: lv) (.int x :: st) h Q ↔ WP d 43 3 (a0 :: kl a1 :: some (.int x) :: lv) st h Q := WP_st (by rfl)
theorem S43_3 : WP d 43 3 (a0 :: a1 :: some (.int x) :: lv) st h Q ↔ WP d 43 4 (a0 :: a1 :: some (.int x) :: lv) (.int x :: st) h Q := WP_st rfl
theorem S43_4 : WP d 43 4 lv (.int x :: st) h Q ↔ if x < 0 then WP d 43 46 lv st h Q else WP d 43 7 lv st h Q := WP_br rfl
theorem S43_7 : WP d 43 7 (some (.ref a) :: lv) st h Q ↔ WP d 43 8 (some (.ref a) :: lv) (.ref a :: st) h Q := WP_st rfl
theorem S43_8 (hs : shp a = some (0, 5)) : WP d 43 8 lv (.ref a :: st) h Q ↔ WP d 43 11 lv (.int (h.1 a 1) :: st) h Q := WP_getI (r := 321) rfl hs (by decide)
theorem S43_11 : WP d 43 11 lv st h Q ↔ WP d 43 14 lv (.int 540 :: st) h Q := WP_st rfl
theorem S43_14 : WP d 43 14 lv (.int y :: .int x :: st) h Q ↔ if y ≤ x then WP d 43 46 lv st h Q else WP d 43 17 lv st h Q := WP_br rfl
theorem S43_17 : WP d 43 17 (some (.ref a) :: lv) st h Q ↔ WP d 43 18 (some (.ref a) :: lv) (.ref a :: st) h Q := WP_st rfl
theorem S43_18 (hs : shp a = some (0, 5)) : WP d 43 18 lv (.ref a :: st) h Q ↔ WP d 43 21 lv (.ref (RV a 0) :: st) h Q := WP_getR (r := 320) rfl hs (by decide)
theorem S43_21 : WP d 43 21 (some (.ref a) :: lv) st h Q ↔ WP d 43 22 (some (.ref a) :: lv) (.ref a :: st) h Q := WP_st rfl
theorem S43_22 (hs : shp a = some (0, 5)) : WP d 43 22 lv (.ref a :: st) h Q ↔ WP d 43 25 lv (.int (h.1 a 1) :: st) h Q := WP_getI (r := 321) rfl hs (by decide)
theorem S43_25 : WP d 43 25 (a0 :: some (.int x) :: lv) st h Q ↔ WP d 43 26 (a0 :: some (.int x) :: lv) (.int x :: st) h Q := WP_st rfl
theorem S43_26 : WP d 43 26 (a0 :: a1 :: some (.int x) :: lv) st h Q ↔ WP d 43 27 (a0 :: a1 :: some (.int x) :: lv) (.int x :: st) h Q := WP_st rfl
theorem S43_27 : WP d 43 27 lv (.int y :: .int x :: st) h Q ↔ WP d 43 28 lv (.int ((x.toUInt32 >>> (y.toUInt32 &&& Int32.toUInt32 31)).toInt32) :: st) h Q := WP_st rfl
theorem S43_28 : WP d 43 28 lv (.int x :: st) h Q ↔ WP d 43 29 lv (.int x.toInt8.toInt32 :: st) h Q := WP_st rfl
theorem S43_29 (hi : okA 2 a i) : WP d 43 29 lv (.int x :: .int i :: .ref a :: st) h Q ↔ WP d 43 30 lv st (setI h a i.toNatClampNeg (vp_nar .byte x)) Q := WP_bast2 rfl hi
theorem S43_30 : WP d 43 30 (some (.ref a) :: lv) st h Q ↔ WP d 43 31 (some (.ref a) :: lv) (.ref a :: st) h Q := WP_st rfl
theorem S43_31 : WP d 43 31 lv (.ref a :: st) h Q ↔ WP d 43 32 lv (.ref a :: .ref a :: st) h Q := WP_st rfl
theorem S43_32 (hs : shp a = some (0, 5)) : WP d 43 32 lv (.ref a :: st) h Q ↔ WP d 43 35 lv (.int (h.1 a 1) :: st) h Q := WP_getI (r := 321) rfl hs (by decide)
theorem S43_35 : WP d 43 35 lv st h Q ↔ WP d 43 36 lv (.int 1 :: st) h Q := WP_st rfl
theorem S43_36 : WP d 43 36 lv (.int y :: .int x :: st) h Q ↔ WP d 43 37 lv (.int (x + y) :: st) h Q := WP_st rfl
theorem S43_37 (hs : shp a = some (0, 5)) : WP d 43 37 lv (.int x :: .ref a :: st) h Q ↔ WP d 43 40 lv st (setI h a 1 x) Q := WP_putI (r := 321) rfl hs (by decide)
theorem S43_40 : WP d 43 40 (a0 :: a1 :: some (.int x) :: lv) st h Q ↔ WP d 43 43 (a0 :: kl a1 :: some (.int (x + (-8))) :: lv) st h Q := WP_st (by rfl)
theorem S43_43 : WP d 43 43 lv st h Q ↔ WP d 43 3 lv st h Q := WP_st rfl
theorem S43_46 : WP d 43 46 lv [] h Q ↔ Q (some none) h := WP_end rfl rfl rfl
theorem S44_0 : WP d 44 0 lv st h Q ↔ WP d 44 1 lv (.int 0 :: st) h Q := WP_st rfl
theorem S44_1 : WP d 44 1 (a0 :: a1 :: a2v :: lv) (.int x :: st) h Q ↔ WP d 44 2 (a0 :: kl a1 :: some (.int x) :: lv) st h Q := WP_st (by rfl)
theorem S44_2 : WP d 44 2 (a0 :: a1 :: some (.int x) :: lv) st h Q ↔ WP d 44 3 (a0 :: a1 :: some (.int x) :: lv) (.int x :: st) h Q := WP_st rfl
theorem S44_3 : WP d 44 3 lv st h Q ↔ WP d 44 5 lv (.int 6 :: st) h Q := WP_st rfl
theorem S44_5 : WP d 44 5 lv (.int y :: .int x :: st) h Q ↔ if y ≤ x then WP d 44 35 lv st h Q else WP d 44 8 lv st h Q := WP_br rfl
theorem S44_8 : WP d 44 8 (some (.ref a) :: lv) st h Q ↔ WP d 44 9 (some (.ref a) :: lv) (.ref a :: st) h Q := WP_st rfl
theorem S44_9 (hs : shp a = some (0, 6)) : WP d 44 9 lv (.ref a :: st) h Q ↔ WP d 44 12 lv (.ref (RV a 0) :: st) h Q := WP_getR (r := 384) rfl hs (by decide)
theorem S44_12 : WP d 44 12 (a0 :: a1 :: some (.int x) :: lv) st h Q ↔ WP d 44 13 (a0 :: a1 :: some (.int x) :: lv) (.int x :: st) h Q := WP_st rfl
theorem S44_13 : WP d 44 13 (a0 :: a1 :: some (.int x) :: lv) st h Q ↔ WP d 44 14 (a0 :: a1 :: some (.int x) :: lv) (.int x :: st) h Q := WP_st rfl
theorem S44_14 (hi : okA 1 a i) : WP d 44 14 lv (.int x :: .int i :: .ref a :: st) h Q ↔ WP d 44 15 lv st (setI h a i.toNatClampNeg x) Q := WP_iast rfl hi
theorem S44_15 : WP d 44 15 (some (.ref a) :: lv) st h Q ↔ WP d 44 16 (some (.ref a) :: lv) (.ref a :: st) h Q := WP_st rfl
theorem S44_16 (hs : shp a = some (0, 6)) : WP d 44 16 lv (.ref a :: st) h Q ↔ WP d 44 19 lv (.ref (RV a 5) :: st) h Q := WP_getR (r := 389) rfl hs (by decide)
theorem S44_19 : WP d 44 19 (a0 :: a1 :: some (.int x) :: lv) st h Q ↔ WP d 44 20 (a0 :: a1 :: some (.int x) :: lv) (.int x :: st) h Q := WP_st rfl
theorem S44_20 : WP d 44 20 lv st h Q ↔ WP d 44 21 lv (.int 0 :: st) h Q := WP_st rfl
theorem S44_21 (hi : okA 1 a i) : WP d 44 21 lv (.int x :: .int i :: .ref a :: st) h Q ↔ WP d 44 22 lv st (setI h a i.toNatClampNeg x) Q := WP_iast rfl hi
theorem S44_22 : WP d 44 22 (some (.ref a) :: lv) st h Q ↔ WP d 44 23 (some (.ref a) :: lv) (.ref a :: st) h Q := WP_st rfl
theorem S44_23 (hs : shp a = some (0, 6)) : WP d 44 23 lv (.ref a :: st) h Q ↔ WP d 44 26 lv (.ref (RV a 6) :: st) h Q := WP_getR (r := 390) rfl hs (by decide)
theorem S44_26 : WP d 44 26 (a0 :: a1 :: some (.int x) :: lv) st h Q ↔ WP d 44 27 (a0 :: a1 :: some (.int x) :: lv) (.int x :: st) h Q := WP_st rfl
theorem S44_27 : WP d 44 27 lv st h Q ↔ WP d 44 28 lv (.int 0 :: st) h Q := WP_st rfl
theorem S44_28 (hi : okA 1 a i) : WP d 44 28 lv (.int x :: .int i :: .ref a :: st) h Q ↔ WP d 44 29 lv st (setI h a i.toNatClampNeg x) Q := WP_iast rfl hi
theorem S44_29 : WP d 44 29 (a0 :: a1 :: some (.int x) :: lv) st h Q ↔ WP d 44 32 (a0 :: kl a1 :: some (.int (x + 1)) :: lv) st h Q := WP_st (by rfl)
theorem S44_32 : WP d 44 32 lv st h Q ↔ WP d 44 2 lv st h Q := WP_st rfl
theorem S44_35 : WP d 44 35 (some (.ref a) :: lv) st h Q ↔ WP d 44 36 (some (.ref a) :: lv) (.ref a :: st) h Q := WP_st rfl
theorem S44_36 : WP d 44 36 (a0 :: some (.ref a) :: lv) st h Q ↔ WP d 44 37 (a0 :: some (.ref a) :: lv) (.ref a :: st) h Q := WP_st rfl
theorem S44_37 {pr0 : Nat} {pr1 : Nat} (hs : shp pr0 = some (0, 6)) : WP (d + 1) 44 37 lv [.ref pr1, .ref pr0] h Q ↔ WP d 49 0 [some (.ref pr0), some (.ref pr1), none, none] [] h (kR (d + 1) 44 40 lv [] Q) := WP_callVR rfl rfl rfl rfl rfl hs
theorem S44_40 : WP d 44 40 (a0 :: a1 :: a2v :: lv) (.int x :: st) h Q ↔ WP d 44 41 (a0 :: kl a1 :: some (.int x) :: lv) st h Q := WP_st (by rfl)
theorem S44_41 : WP d 44 41 (some (.ref a) :: lv) st h Q ↔ WP d 44 42 (some (.ref a) :: lv) (.ref a :: st) h Q := WP_st rfl
theorem S44_42 : WP d 44 42 (a0 :: some (.ref a) :: lv) st h Q ↔ WP d 44 43 (a0 :: some (.ref a) :: lv) (.ref a :: st) h Q := WP_st rfl
theorem S44_43 {pr0 : Nat} {pr1 : Nat} (hs : shp pr0 = some (0, 6)) : WP (d + 1) 44 43 lv [.ref pr1, .ref pr0] h Q ↔ WP d 50 0 [some (.ref pr0), some (.ref pr1), none, none, none] [] h (kV (d + 1) 44 46 lv [] Q) := WP_callVV rfl rfl rfl rfl rfl hs
theorem S44_46 : WP d 44 46 (some (.ref a) :: lv) st h Q ↔ WP d 44 47 (some (.ref a) :: lv) (.ref a :: st) h Q := WP_st rfl
theorem S44_47 : WP d 44 47 (a0 :: a1 :: some (.int x) :: lv) st h Q ↔ WP d 44 48 (a0 :: a1 :: some (.int x) :: lv) (.int x :: st) h Q := WP_st rfl
theorem S44_48 : WP d 44 48 lv st h Q ↔ WP d 44 49 lv (.int (-1) :: st) h Q := WP_st rfl
theorem S44_49 : WP d 44 49 lv (.int y :: .int x :: st) h Q ↔ if x = y then WP d 44 52 lv st h Q else WP d 44 56 lv st h Q := WP_br rfl
theorem S44_52 : WP d 44 52 lv st h Q ↔ WP d 44 53 lv (.int (-1) :: st) h Q := WP_st rfl
theorem S44_53 : WP d 44 53 lv st h Q ↔ WP d 44 62 lv st h Q := WP_st rfl
theorem S44_56 : WP d 44 56 (some (.ref a) :: lv) st h Q ↔ WP d 44 57 (some (.ref a) :: lv) (.ref a :: st) h Q := WP_st rfl
theorem S44_57 (hs : shp a = some (0, 6)) : WP d 44 57 lv (.ref a :: st) h Q ↔ WP d 44 60 lv (.ref (RV a 0) :: st) h Q := WP_getR (r := 384) rfl hs (by decide)
theorem S44_60 : WP d 44 60 (a0 :: a1 :: some (.int x) :: lv) st h Q ↔ WP d 44 61 (a0 :: a1 :: some (.int x) :: lv) (.int x :: st) h Q := WP_st rfl
theorem S44_61 (hi : okA 1 a i) : WP d 44 61 lv (.int i :: .ref a :: st) h Q ↔ WP d 44 62 lv (.int (h.1 a i.toNatClampNeg) :: st) h Q := WP_iald rfl hi
theorem S44_62 (hs : shp a = some (0, 6)) : WP d 44 62 lv (.int x :: .ref a :: st) h Q ↔ WP d 44 65 lv st (setI h a 4 x) Q := WP_putI (r := 388) rfl hs (by decide)
theorem S44_65 : WP d 44 65 (some (.ref a) :: lv) st h Q ↔ WP d 44 66 (some (.ref a) :: lv) (.ref a :: st) h Q := WP_st rfl
theorem S44_66 : WP d 44 66 (a0 :: some (.ref a) :: lv) st h Q ↔ WP d 44 67 (a0 :: some (.ref a) :: lv) (.ref a :: st) h Q := WP_st rfl
theorem S44_67 {pr0 : Nat} {pr1 : Nat} (hs : shp pr0 = some (0, 6)) : WP (d + 1) 44 67 lv [.ref pr1, .ref pr0] h Q ↔ WP d 52 0 [some (.ref pr0), some (.ref pr1), none, none, none] [] h (kV (d + 1) 44 70 lv [] Q) := WP_callVV rfl rfl rfl rfl rfl hs
theorem S44_70 : WP d 44 70 (some (.ref a) :: lv) st h Q ↔ WP d 44 71 (some (.ref a) :: lv) (.ref a :: st) h Q := WP_st rfl
theorem S44_71 : WP d 44 71 (a0 :: some (.ref a) :: lv) st h Q ↔ WP d 44 72 (a0 :: some (.ref a) :: lv) (.ref a :: st) h Q := WP_st rfl
theorem S44_72 (hs : shp a = some (0, 3)) : WP d 44 72 lv (.ref a :: st) h Q ↔ WP d 44 75 lv (.int (h.1 a 4) :: st) h Q := WP_getI (r := 196) rfl hs (by decide)
theorem S44_75 : WP d 44 75 (some (.ref a) :: lv) st h Q ↔ WP d 44 76 (some (.ref a) :: lv) (.ref a :: st) h Q := WP_st rfl
theorem S44_76 (hs : shp a = some (0, 6)) : WP d 44 76 lv (.ref a :: st) h Q ↔ WP d 44 79 lv (.int (h.1 a 1) :: st) h Q := WP_getI (r := 385) rfl hs (by decide)
theorem S44_79 : WP d 44 79 lv st h Q ↔ WP d 44 80 lv (.int (-1) :: st) h Q := WP_st rfl
theorem S44_80 : WP d 44 80 lv (.int y :: .int x :: st) h Q ↔ WP d 44 81 lv (.int (x ^^^ y) :: st) h Q := WP_st rfl
theorem S44_81 : WP d 44 81 lv (.int y :: .int x :: st) h Q ↔ WP d 44 82 lv (.int (x &&& y) :: st) h Q := WP_st rfl
theorem S44_82 (hs : shp a = some (0, 6)) : WP d 44 82 lv (.int x :: .ref a :: st) h Q ↔ WP d 44 85 lv st (setI h a 2 x) Q := WP_putI (r := 386) rfl hs (by decide)
theorem S44_85 : WP d 44 85 lv st h Q ↔ WP d 44 86 lv (.int 0 :: st) h Q := WP_st rfl
theorem S44_86 : WP d 44 86 (a0 :: a1 :: a2v :: a3 :: lv) (.int x :: st) h Q ↔ WP d 44 87 (a0 :: a1 :: kl a2v :: some (.int x) :: lv) st h Q := WP_st (by rfl)
theorem S44_87 : WP d 44 87 lv st h Q ↔ WP d 44 88 lv (.int 0 :: st) h Q := WP_st rfl
theorem S44_88 : WP d 44 88 (a0 :: a1 :: a2v :: a3 :: a4 :: lv) (.int x :: st) h Q ↔ WP d 44 90 (a0 :: a1 :: a2v :: kl a3 :: some (.int x) :: lv) st h Q := WP_st (by rfl)
theorem S44_90 : WP d 44 90 (a0 :: a1 :: a2v :: a3 :: some (.int x) :: lv) st h Q ↔ WP d 44 92 (a0 :: a1 :: a2v :: a3 :: some (.int x) :: lv) (.int x :: st) h Q := WP_st rfl
theorem S44_92 : WP d 44 92 (a0 :: some (.ref a) :: lv) st h Q ↔ WP d 44 93 (a0 :: some (.ref a) :: lv) (.ref a :: st) h Q := WP_st rfl
theorem S44_93 (hs : shp a = some (0, 3)) : WP d 44 93 lv (.ref a :: st) h Q ↔ WP d 44 96 lv (.int (h.1 a 3) :: st) h Q := WP_getI (r := 195) rfl hs (by decide)
theorem S44_96 : WP d 44 96 lv (.int y :: .int x :: st) h Q ↔ if y ≤ x then WP d 44 128 lv st h Q else WP d 44 99 lv st h Q := WP_br rfl
theorem S44_99 : WP d 44 99 (some (.ref a) :: lv) st h Q ↔ WP d 44 100 (some (.ref a) :: lv) (.ref a :: st) h Q := WP_st rfl
theorem S44_100 (hs : shp a = some (0, 6)) : WP d 44 100 lv (.ref a :: st) h Q ↔ WP d 44 103 lv (.int (h.1 a 2) :: st) h Q := WP_getI (r := 386) rfl hs (by decide)
theorem S44_103 : WP d 44 103 (a0 :: a1 :: a2v :: a3 :: some (.int x) :: lv) st h Q ↔ WP d 44 105 (a0 :: a1 :: a2v :: a3 :: some (.int x) :: lv) (.int x :: st) h Q := WP_st rfl
theorem S44_105 {pi0 : Int32} {pi1 : Int32} : WP (d + 1) 44 105 lv [.int pi1, .int pi0] h Q ↔ WP d 97 0 [some (.int pi0), some (.int pi1)] [] h (kR (d + 1) 44 108 lv [] Q) := WP_callSR rfl rfl rfl rfl rfl
theorem S44_108 : WP d 44 108 lv st h Q ↔ WP d 44 109 lv (.int 1 :: st) h Q := WP_st rfl
theorem S44_109 : WP d 44 109 lv (.int y :: .int x :: st) h Q ↔ if x = y then WP d 44 112 lv st h Q else WP d 44 122 lv st h Q := WP_br rfl
theorem S44_112 : WP d 44 112 (a0 :: a1 :: a2v :: some (.int x) :: lv) st h Q ↔ WP d 44 113 (a0 :: a1 :: a2v :: some (.int x) :: lv) (.int x :: st) h Q := WP_st rfl
theorem S44_113 : WP d 44 113 (some (.ref a) :: lv) st h Q ↔ WP d 44 114 (some (.ref a) :: lv) (.ref a :: st) h Q := WP_st rfl
theorem S44_114 : WP d 44 114 (a0 :: some (.ref a) :: lv) st h Q ↔ WP d 44 115 (a0 :: some (.ref a) :: lv) (.ref a :: st) h Q := WP_st rfl
theorem S44_115 : WP d 44 115 (a0 :: a1 :: a2v :: a3 :: some (.int x) :: lv) st h Q ↔ WP d 44 117 (a0 :: a1 :: a2v :: a3 :: some (.int x) :: lv) (.int x :: st) h Q := WP_st rfl
theorem S44_117 {pr0 : Nat} {pr1 : Nat} {pi0 : Int32} {qi1 : Int32} (hs : shp pr0 = some (0, 6)) : WP (d + 1) 44 117 lv [.int pi0, .ref pr1, .ref pr0, .int qi1] h Q ↔ WP d 47 0 [some (.ref pr0), some (.ref pr1), some (.int pi0)] [] h (kR (d + 1) 44 120 lv [.int qi1] Q) := WP_callVR rfl rfl rfl rfl rfl hs
theorem S44_120 : WP d 44 120 lv (.int y :: .int x :: st) h Q ↔ WP d 44 121 lv (.int (x ||| y) :: st) h Q := WP_st rfl
theorem S44_121 : WP d 44 121 (a0 :: a1 :: a2v :: a3 :: lv) (.int x :: st) h Q ↔ WP d 44 122 (a0 :: a1 :: kl a2v :: some (.int x) :: lv) st h Q := WP_st (by rfl)
theorem S44_122 : WP d 44 122 (a0 :: a1 :: a2v :: a3 :: some (.int x) :: lv) st h Q ↔ WP d 44 125 (a0 :: a1 :: a2v :: kl a3 :: some (.int (x + 1)) :: lv) st h Q := WP_st (by rfl)
theorem S44_125 : WP d 44 125 lv st h Q ↔ WP d 44 90 lv st h Q := WP_st rfl
theorem S44_128 : WP d 44 128 (some (.ref a) :: lv) st h Q ↔ WP d 44 129 (some (.ref a) :: lv) (.ref a :: st) h Q := WP_st rfl
theorem S44_129 : WP d 44 129 (some (.ref a) :: lv) st h Q ↔ WP d 44 130 (some (.ref a) :: lv) (.ref a :: st) h Q := WP_st rfl
theorem S44_130 (hs : shp a = some (0, 6)) : WP d 44 130 lv (.ref a :: st) h Q ↔ WP d 44 133 lv (.int (h.1 a 1) :: st) h Q := WP_getI (r := 385) rfl hs (by decide)
theorem S44_133 : WP d 44 133 (a0 :: a1 :: a2v :: some (.int x) :: lv) st h Q ↔ WP d 44 134 (a0 :: a1 :: a2v :: some (.int x) :: lv) (.int x :: st) h Q := WP_st rfl
theorem S44_134 : WP d 44 134 lv st h Q ↔ WP d 44 135 lv (.int (-1) :: st) h Q := WP_st rfl
theorem S44_135 : WP d 44 135 lv (.int y :: .int x :: st) h Q ↔ WP d 44 136 lv (.int (x ^^^ y) :: st) h Q := WP_st rfl
set_option maxRecDepth 20000 in
theorem S44_136 : WP d 44 136 lv (.int y :: .int x :: st) h Q ↔ WP d 44 137 lv (.int (x &&& y) :: st) h Q := WP_st rfl
set_option maxRecDepth 20000 in
theorem S44_137 (hs : shp a = some (0, 6)) : WP d 44 137 lv (.int x :: .ref a :: st) h Q ↔ WP d 44 140 lv st (setI h a 3 x) Q := WP_putI (r := 387) rfl hs (by decide)
set_option maxRecDepth 20000 in
theorem S44_140 : WP d 44 140 lv [] h Q ↔ Q (some none) h := WP_end rfl rfl rfl
theorem S45_0 : WP d 45 0 (some (.ref a) :: lv) st h Q ↔ WP d 45 1 (some (.ref a) :: lv) (.ref a :: st) h Q := WP_st rfl
theorem S45_1 (hs : shp a = some (0, 6)) : WP d 45 1 lv (.ref a :: st) h Q ↔ WP d 45 4 lv (.ref (RV a 0) :: st) h Q := WP_getR (r := 384) rfl hs (by decide)
theorem S45_4 : WP d 45 4 (a0 :: some (.int x) :: lv) st h Q ↔ WP d 45 5 (a0 :: some (.int x) :: lv) (.int x :: st) h Q := WP_st rfl
theorem S45_5 (hi : okA 1 a i) : WP d 45 5 lv (.int i :: .ref a :: st) h Q ↔ WP d 45 6 lv (.int (h.1 a i.toNatClampNeg) :: st) h Q := WP_iald rfl hi
theorem S45_6 : WP d 45 6 (a0 :: some (.int x) :: lv) st h Q ↔ WP d 45 7 (a0 :: some (.int x) :: lv) (.int x :: st) h Q := WP_st rfl
theorem S45_7 : WP d 45 7 lv (.int y :: .int x :: st) h Q ↔ if x = y then WP d 45 10 lv st h Q else WP d 45 22 lv st h Q := WP_br rfl
theorem S45_10 : WP d 45 10 (a0 :: some (.int x) :: lv) st h Q ↔ WP d 45 11 (a0 :: some (.int x) :: lv) (.int x :: st) h Q := WP_st rfl
theorem S45_11 : WP d 45 11 (some (.ref a) :: lv) st h Q ↔ WP d 45 12 (some (.ref a) :: lv) (.ref a :: st) h Q := WP_st rfl
theorem S45_12 (hs : shp a = some (0, 6)) : WP d 45 12 lv (.ref a :: st) h Q ↔ WP d 45 15 lv (.int (h.1 a 4) :: st) h Q := WP_getI (r := 388) rfl hs (by decide)
theorem S45_15 : WP d 45 15 lv (.int y :: .int x :: st) h Q ↔ if x = y then WP d 45 22 lv st h Q else WP d 45 18 lv st h Q := WP_br rfl
theorem S45_18 : WP d 45 18 lv st h Q ↔ WP d 45 19 lv (.int 1 :: st) h Q := WP_st rfl
theorem S45_19 : WP d 45 19 lv st h Q ↔ WP d 45 23 lv st h Q := WP_st rfl
theorem S45_22 : WP d 45 22 lv st h Q ↔ WP d 45 23 lv (.int 0 :: st) h Q := WP_st rfl
theorem S45_23 (hx : isB x) : WP d 45 23 lv [.int x] h Q ↔ Q (some (some (.int x))) h := WP_endZ rfl rfl hx
theorem S46_0 : WP d 46 0 lv st h Q ↔ WP d 46 1 lv (.int 0 :: st) h Q := WP_st rfl
theorem S46_1 : WP d 46 1 (a0 :: a1 :: a2v :: lv) (.int x :: st) h Q ↔ WP d 46 2 (a0 :: kl a1 :: some (.int x) :: lv) st h Q := WP_st (by rfl)
theorem S46_2 : WP d 46 2 lv st h Q ↔ WP d 46 3 lv (.int 0 :: st) h Q := WP_st rfl
theorem S46_3 : WP d 46 3 (a0 :: a1 :: a2v :: a3 :: lv) (.int x :: st) h Q ↔ WP d 46 4 (a0 :: a1 :: kl a2v :: some (.int x) :: lv) st h Q := WP_st (by rfl)
theorem S46_4 : WP d 46 4 (a0 :: a1 :: a2v :: some (.int x) :: lv) st h Q ↔ WP d 46 5 (a0 :: a1 :: a2v :: some (.int x) :: lv) (.int x :: st) h Q := WP_st rfl
theorem S46_5 : WP d 46 5 (a0 :: some (.ref a) :: lv) st h Q ↔ WP d 46 6 (a0 :: some (.ref a) :: lv) (.ref a :: st) h Q := WP_st rfl
theorem S46_6 (hs : shp a = some (0, 3)) : WP d 46 6 lv (.ref a :: st) h Q ↔ WP d 46 9 lv (.int (h.1 a 0) :: st) h Q := WP_getI (r := 192) rfl hs (by decide)
theorem S46_9 : WP d 46 9 lv (.int y :: .int x :: st) h Q ↔ if y ≤ x then WP d 46 31 lv st h Q else WP d 46 12 lv st h Q := WP_br rfl
theorem S46_12 : WP d 46 12 (some (.ref a) :: lv) st h Q ↔ WP d 46 13 (some (.ref a) :: lv) (.ref a :: st) h Q := WP_st rfl
theorem S46_13 (hs : shp a = some (0, 6)) : WP d 46 13 lv (.ref a :: st) h Q ↔ WP d 46 16 lv (.ref (RV a 0) :: st) h Q := WP_getR (r := 384) rfl hs (by decide)
theorem S46_16 : WP d 46 16 (a0 :: a1 :: a2v :: some (.int x) :: lv) st h Q ↔ WP d 46 17 (a0 :: a1 :: a2v :: some (.int x) :: lv) (.int x :: st) h Q := WP_st rfl
theorem S46_17 (hi : okA 1 a i) : WP d 46 17 lv (.int i :: .ref a :: st) h Q ↔ WP d 46 18 lv (.int (h.1 a i.toNatClampNeg) :: st) h Q := WP_iald rfl hi
theorem S46_18 : WP d 46 18 (a0 :: a1 :: a2v :: some (.int x) :: lv) st h Q ↔ WP d 46 19 (a0 :: a1 :: a2v :: some (.int x) :: lv) (.int x :: st) h Q := WP_st rfl
theorem S46_19 : WP d 46 19 lv (.int y :: .int x :: st) h Q ↔ if x = y then WP d 46 22 lv st h Q else WP d 46 25 lv st h Q := WP_br rfl
theorem S46_22 : WP d 46 22 (a0 :: a1 :: some (.int x) :: lv) st h Q ↔ WP d 46 25 (a0 :: kl a1 :: some (.int (x + 1)) :: lv) st h Q := WP_st (by rfl)
theorem S46_25 : WP d 46 25 (a0 :: a1 :: a2v :: some (.int x) :: lv) st h Q ↔ WP d 46 28 (a0 :: a1 :: kl a2v :: some (.int (x + 1)) :: lv) st h Q := WP_st (by rfl)
theorem S46_28 : WP d 46 28 lv st h Q ↔ WP d 46 4 lv st h Q := WP_st rfl
theorem S46_31 : WP d 46 31 (a0 :: a1 :: some (.int x) :: lv) st h Q ↔ WP d 46 32 (a0 :: a1 :: some (.int x) :: lv) (.int x :: st) h Q := WP_st rfl
theorem S46_32 : WP d 46 32 lv [.int x] h Q ↔ Q (some (some (.int x))) h := WP_end rfl rfl rfl
theorem S47_0 : WP d 47 0 (some (.ref a) :: lv) st h Q ↔ WP d 47 1 (some (.ref a) :: lv) (.ref a :: st) h Q := WP_st rfl
theorem S47_1 (hs : shp a = some (0, 6)) : WP d 47 1 lv (.ref a :: st) h Q ↔ WP d 47 4 lv (.ref (RV a 5) :: st) h Q := WP_getR (r := 389) rfl hs (by decide)
theorem S47_4 : WP d 47 4 (a0 :: some (.ref a) :: lv) st h Q ↔ WP d 47 5 (a0 :: some (.ref a) :: lv) (.ref a :: st) h Q := WP_st rfl
theorem S47_5 (hs : shp a = some (0, 3)) : WP d 47 5 lv (.ref a :: st) h Q ↔ WP d 47 8 lv (.ref (RV a 5) :: st) h Q := WP_getR (r := 197) rfl hs (by decide)
theorem S47_8 : WP d 47 8 (a0 :: a1 :: some (.int x) :: lv) st h Q ↔ WP d 47 9 (a0 :: a1 :: some (.int x) :: lv) (.int x :: st) h Q := WP_st rfl
theorem S47_9 (hi : okA 1 a i) : WP d 47 9 lv (.int i :: .ref a :: st) h Q ↔ WP d 47 10 lv (.int (h.1 a i.toNatClampNeg) :: st) h Q := WP_iald rfl hi
theorem S47_10 (hi : okA 1 a i) : WP d 47 10 lv (.int i :: .ref a :: st) h Q ↔ WP d 47 11 lv (.int (h.1 a i.toNatClampNeg) :: st) h Q := WP_iald rfl hi
theorem S47_11 : WP d 47 11 (some (.ref a) :: lv) st h Q ↔ WP d 47 12 (some (.ref a) :: lv) (.ref a :: st) h Q := WP_st rfl
theorem S47_12 (hs : shp a = some (0, 6)) : WP d 47 12 lv (.ref a :: st) h Q ↔ WP d 47 15 lv (.ref (RV a 5) :: st) h Q := WP_getR (r := 389) rfl hs (by decide)
theorem S47_15 : WP d 47 15 (a0 :: some (.ref a) :: lv) st h Q ↔ WP d 47 16 (a0 :: some (.ref a) :: lv) (.ref a :: st) h Q := WP_st rfl
theorem S47_16 (hs : shp a = some (0, 3)) : WP d 47 16 lv (.ref a :: st) h Q ↔ WP d 47 19 lv (.ref (RV a 6) :: st) h Q := WP_getR (r := 198) rfl hs (by decide)
theorem S47_19 : WP d 47 19 (a0 :: a1 :: some (.int x) :: lv) st h Q ↔ WP d 47 20 (a0 :: a1 :: some (.int x) :: lv) (.int x :: st) h Q := WP_st rfl
theorem S47_20 (hi : okA 1 a i) : WP d 47 20 lv (.int i :: .ref a :: st) h Q ↔ WP d 47 21 lv (.int (h.1 a i.toNatClampNeg) :: st) h Q := WP_iald rfl hi
theorem S47_21 (hi : okA 1 a i) : WP d 47 21 lv (.int i :: .ref a :: st) h Q ↔ WP d 47 22 lv (.int (h.1 a i.toNatClampNeg) :: st) h Q := WP_iald rfl hi
theorem S47_22 : WP d 47 22 lv (.int y :: .int x :: st) h Q ↔ WP d 47 23 lv (.int (x ^^^ y) :: st) h Q := WP_st rfl
theorem S47_23 : WP d 47 23 lv [.int x] h Q ↔ Q (some (some (.int x))) h := WP_end rfl rfl rfl
theorem S48_0 : WP d 48 0 (a0 :: some (.ref a) :: lv) st h Q ↔ WP d 48 1 (a0 :: some (.ref a) :: lv) (.ref a :: st) h Q := WP_st rfl
theorem S48_1 (hs : shp a = some (0, 3)) : WP d 48 1 lv (.ref a :: st) h Q ↔ WP d 48 4 lv (.ref (RV a 7) :: st) h Q := WP_getR (r := 199) rfl hs (by decide)
theorem S48_4 : WP d 48 4 (a0 :: a1 :: some (.int x) :: lv) st h Q ↔ WP d 48 5 (a0 :: a1 :: some (.int x) :: lv) (.int x :: st) h Q := WP_st rfl
theorem S48_5 (hi : okA 1 a i) : WP d 48 5 lv (.int i :: .ref a :: st) h Q ↔ WP d 48 6 lv (.int (h.1 a i.toNatClampNeg) :: st) h Q := WP_iald rfl hi
theorem S48_6 : WP d 48 6 (some (.ref a) :: lv) st h Q ↔ WP d 48 7 (some (.ref a) :: lv) (.ref a :: st) h Q := WP_st rfl
theorem S48_7 (hs : shp a = some (0, 6)) : WP d 48 7 lv (.ref a :: st) h Q ↔ WP d 48 10 lv (.ref (RV a 6) :: st) h Q := WP_getR (r := 390) rfl hs (by decide)
theorem S48_10 : WP d 48 10 (a0 :: some (.ref a) :: lv) st h Q ↔ WP d 48 11 (a0 :: some (.ref a) :: lv) (.ref a :: st) h Q := WP_st rfl
theorem S48_11 (hs : shp a = some (0, 3)) : WP d 48 11 lv (.ref a :: st) h Q ↔ WP d 48 14 lv (.ref (RV a 6) :: st) h Q := WP_getR (r := 198) rfl hs (by decide)
theorem S48_14 : WP d 48 14 (a0 :: a1 :: some (.int x) :: lv) st h Q ↔ WP d 48 15 (a0 :: a1 :: some (.int x) :: lv) (.int x :: st) h Q := WP_st rfl
theorem S48_15 (hi : okA 1 a i) : WP d 48 15 lv (.int i :: .ref a :: st) h Q ↔ WP d 48 16 lv (.int (h.1 a i.toNatClampNeg) :: st) h Q := WP_iald rfl hi
theorem S48_16 (hi : okA 1 a i) : WP d 48 16 lv (.int i :: .ref a :: st) h Q ↔ WP d 48 17 lv (.int (h.1 a i.toNatClampNeg) :: st) h Q := WP_iald rfl hi
theorem S48_17 : WP d 48 17 (some (.ref a) :: lv) st h Q ↔ WP d 48 18 (some (.ref a) :: lv) (.ref a :: st) h Q := WP_st rfl
theorem S48_18 (hs : shp a = some (0, 6)) : WP d 48 18 lv (.ref a :: st) h Q ↔ WP d 48 21 lv (.ref (RV a 6) :: st) h Q := WP_getR (r := 390) rfl hs (by decide)
theorem S48_21 : WP d 48 21 (a0 :: some (.ref a) :: lv) st h Q ↔ WP d 48 22 (a0 :: some (.ref a) :: lv) (.ref a :: st) h Q := WP_st rfl
theorem S48_22 (hs : shp a = some (0, 3)) : WP d 48 22 lv (.ref a :: st) h Q ↔ WP d 48 25 lv (.ref (RV a 5) :: st) h Q := WP_getR (r := 197) rfl hs (by decide)
theorem S48_25 : WP d 48 25 (a0 :: a1 :: some (.int x) :: lv) st h Q ↔ WP d 48 26 (a0 :: a1 :: some (.int x) :: lv) (.int x :: st) h Q := WP_st rfl
theorem S48_26 (hi : okA 1 a i) : WP d 48 26 lv (.int i :: .ref a :: st) h Q ↔ WP d 48 27 lv (.int (h.1 a i.toNatClampNeg) :: st) h Q := WP_iald rfl hi
theorem S48_27 (hi : okA 1 a i) : WP d 48 27 lv (.int i :: .ref a :: st) h Q ↔ WP d 48 28 lv (.int (h.1 a i.toNatClampNeg) :: st) h Q := WP_iald rfl hi
theorem S48_28 : WP d 48 28 lv (.int y :: .int x :: st) h Q ↔ WP d 48 29 lv (.int (x - y) :: st) h Q := WP_st rfl
theorem S48_29 : WP d 48 29 lv (.int y :: .int x :: st) h Q ↔ WP d 48 30 lv (.int (x - y) :: st) h Q := WP_st rfl
theorem S48_30 : WP d 48 30 lv [.int x] h Q ↔ Q (some (some (.int x))) h := WP_end rfl rfl rfl
theorem S49_0 : WP d 49 0 lv st h Q ↔ WP d 49 1 lv (.int (-1) :: st) h Q := WP_st rfl
theorem S49_1 : WP d 49 1 (a0 :: a1 :: a2v :: lv) (.int x :: st) h Q ↔ WP d 49 2 (a0 :: kl a1 :: some (.int x) :: lv) st h Q := WP_st (by rfl)
theorem S49_2 : WP d 49 2 lv st h Q ↔ WP d 49 3 lv (.int 0 :: st) h Q := WP_st rfl
theorem S49_3 : WP d 49 3 (a0 :: a1 :: a2v :: a3 :: lv) (.int x :: st) h Q ↔ WP d 49 4 (a0 :: a1 :: kl a2v :: some (.int x) :: lv) st h Q := WP_st (by rfl)
theorem S49_4 : WP d 49 4 (a0 :: a1 :: a2v :: some (.int x) :: lv) st h Q ↔ WP d 49 5 (a0 :: a1 :: a2v :: some (.int x) :: lv) (.int x :: st) h Q := WP_st rfl
theorem S49_5 : WP d 49 5 (a0 :: some (.ref a) :: lv) st h Q ↔ WP d 49 6 (a0 :: some (.ref a) :: lv) (.ref a :: st) h Q := WP_st rfl
theorem S49_6 (hs : shp a = some (0, 3)) : WP d 49 6 lv (.ref a :: st) h Q ↔ WP d 49 9 lv (.int (h.1 a 0) :: st) h Q := WP_getI (r := 192) rfl hs (by decide)
theorem S49_9 : WP d 49 9 lv (.int y :: .int x :: st) h Q ↔ if y ≤ x then WP d 49 44 lv st h Q else WP d 49 12 lv st h Q := WP_br rfl
theorem S49_12 : WP d 49 12 (a0 :: some (.ref a) :: lv) st h Q ↔ WP d 49 13 (a0 :: some (.ref a) :: lv) (.ref a :: st) h Q := WP_st rfl
theorem S49_13 : WP d 49 13 (a0 :: a1 :: a2v :: some (.int x) :: lv) st h Q ↔ WP d 49 14 (a0 :: a1 :: a2v :: some (.int x) :: lv) (.int x :: st) h Q := WP_st rfl
theorem S49_14 {pr0 : Nat} {pi0 : Int32} (hs : shp pr0 = some (0, 3)) : WP (d + 1) 49 14 lv [.int pi0, .ref pr0] h Q ↔ WP d 28 0 [some (.ref pr0), some (.int pi0)] [] h (kR (d + 1) 49 17 lv [] Q) := WP_callVR rfl rfl rfl rfl rfl hs
theorem S49_17 : WP d 49 17 lv (.int x :: st) h Q ↔ if x = 0 then WP d 49 38 lv st h Q else WP d 49 20 lv st h Q := WP_br rfl
theorem S49_20 : WP d 49 20 (a0 :: a1 :: some (.int x) :: lv) st h Q ↔ WP d 49 21 (a0 :: a1 :: some (.int x) :: lv) (.int x :: st) h Q := WP_st rfl
theorem S49_21 : WP d 49 21 lv st h Q ↔ WP d 49 22 lv (.int (-1) :: st) h Q := WP_st rfl
theorem S49_22 : WP d 49 22 lv (.int y :: .int x :: st) h Q ↔ if x = y then WP d 49 25 lv st h Q else WP d 49 29 lv st h Q := WP_br rfl
theorem S49_25 : WP d 49 25 (a0 :: a1 :: a2v :: some (.int x) :: lv) st h Q ↔ WP d 49 26 (a0 :: a1 :: a2v :: some (.int x) :: lv) (.int x :: st) h Q := WP_st rfl
theorem S49_26 : WP d 49 26 lv st h Q ↔ WP d 49 30 lv st h Q := WP_st rfl
theorem S49_29 : WP d 49 29 (a0 :: a1 :: some (.int x) :: lv) st h Q ↔ WP d 49 30 (a0 :: a1 :: some (.int x) :: lv) (.int x :: st) h Q := WP_st rfl
theorem S49_30 : WP d 49 30 (a0 :: a1 :: a2v :: lv) (.int x :: st) h Q ↔ WP d 49 31 (a0 :: kl a1 :: some (.int x) :: lv) st h Q := WP_st (by rfl)
theorem S49_31 : WP d 49 31 (some (.ref a) :: lv) st h Q ↔ WP d 49 32 (some (.ref a) :: lv) (.ref a :: st) h Q := WP_st rfl
theorem S49_32 (hs : shp a = some (0, 6)) : WP d 49 32 lv (.ref a :: st) h Q ↔ WP d 49 35 lv (.ref (RV a 0) :: st) h Q := WP_getR (r := 384) rfl hs (by decide)
theorem S49_35 : WP d 49 35 (a0 :: a1 :: a2v :: some (.int x) :: lv) st h Q ↔ WP d 49 36 (a0 :: a1 :: a2v :: some (.int x) :: lv) (.int x :: st) h Q := WP_st rfl
theorem S49_36 : WP d 49 36 (a0 :: a1 :: some (.int x) :: lv) st h Q ↔ WP d 49 37 (a0 :: a1 :: some (.int x) :: lv) (.int x :: st) h Q := WP_st rfl
theorem S49_37 (hi : okA 1 a i) : WP d 49 37 lv (.int x :: .int i :: .ref a :: st) h Q ↔ WP d 49 38 lv st (setI h a i.toNatClampNeg x) Q := WP_iast rfl hi
theorem S49_38 : WP d 49 38 (a0 :: a1 :: a2v :: some (.int x) :: lv) st h Q ↔ WP d 49 41 (a0 :: a1 :: kl a2v :: some (.int (x + 1)) :: lv) st h Q := WP_st (by rfl)
theorem S49_41 : WP d 49 41 lv st h Q ↔ WP d 49 4 lv st h Q := WP_st rfl
theorem S49_44 : WP d 49 44 (a0 :: a1 :: some (.int x) :: lv) st h Q ↔ WP d 49 45 (a0 :: a1 :: some (.int x) :: lv) (.int x :: st) h Q := WP_st rfl
theorem S49_45 : WP d 49 45 lv [.int x] h Q ↔ Q (some (some (.int x))) h := WP_end rfl rfl rfl
theorem S50_0 : WP d 50 0 (some (.ref a) :: lv) st h Q ↔ WP d 50 1 (some (.ref a) :: lv) (.ref a :: st) h Q := WP_st rfl
theorem S50_1 : WP d 50 1 lv st h Q ↔ WP d 50 2 lv (.int 0 :: st) h Q := WP_st rfl
theorem S50_2 (hs : shp a = some (0, 6)) : WP d 50 2 lv (.int x :: .ref a :: st) h Q ↔ WP d 50 5 lv st (setI h a 1 x) Q := WP_putI (r := 385) rfl hs (by decide)
theorem S50_5 : WP d 50 5 lv st h Q ↔ WP d 50 6 lv (.int 0 :: st) h Q := WP_st rfl
theorem S50_6 : WP d 50 6 (a0 :: a1 :: a2v :: lv) (.int x :: st) h Q ↔ WP d 50 7 (a0 :: kl a1 :: some (.int x) :: lv) st h Q := WP_st (by rfl)
theorem S50_7 : WP d 50 7 (a0 :: a1 :: some (.int x) :: lv) st h Q ↔ WP d 50 8 (a0 :: a1 :: some (.int x) :: lv) (.int x :: st) h Q := WP_st rfl
theorem S50_8 : WP d 50 8 (a0 :: some (.ref a) :: lv) st h Q ↔ WP d 50 9 (a0 :: some (.ref a) :: lv) (.ref a :: st) h Q := WP_st rfl
theorem S50_9 (hs : shp a = some (0, 3)) : WP d 50 9 lv (.ref a :: st) h Q ↔ WP d 50 12 lv (.int (h.1 a 3) :: st) h Q := WP_getI (r := 195) rfl hs (by decide)
theorem S50_12 : WP d 50 12 lv (.int y :: .int x :: st) h Q ↔ if y ≤ x then WP d 50 92 lv st h Q else WP d 50 15 lv st h Q := WP_br rfl
theorem S50_15 : WP d 50 15 (some (.ref a) :: lv) st h Q ↔ WP d 50 16 (some (.ref a) :: lv) (.ref a :: st) h Q := WP_st rfl
theorem S50_16 (hs : shp a = some (0, 6)) : WP d 50 16 lv (.ref a :: st) h Q ↔ WP d 50 19 lv (.ref (RV a 0) :: st) h Q := WP_getR (r := 384) rfl hs (by decide)
theorem S50_19 : WP d 50 19 (a0 :: some (.ref a) :: lv) st h Q ↔ WP d 50 20 (a0 :: some (.ref a) :: lv) (.ref a :: st) h Q := WP_st rfl
theorem S50_20 (hs : shp a = some (0, 3)) : WP d 50 20 lv (.ref a :: st) h Q ↔ WP d 50 23 lv (.ref (RV a 5) :: st) h Q := WP_getR (r := 197) rfl hs (by decide)
theorem S50_23 : WP d 50 23 (a0 :: a1 :: some (.int x) :: lv) st h Q ↔ WP d 50 24 (a0 :: a1 :: some (.int x) :: lv) (.int x :: st) h Q := WP_st rfl
theorem S50_24 (hi : okA 1 a i) : WP d 50 24 lv (.int i :: .ref a :: st) h Q ↔ WP d 50 25 lv (.int (h.1 a i.toNatClampNeg) :: st) h Q := WP_iald rfl hi
theorem S50_25 (hi : okA 1 a i) : WP d 50 25 lv (.int i :: .ref a :: st) h Q ↔ WP d 50 26 lv (.int (h.1 a i.toNatClampNeg) :: st) h Q := WP_iald rfl hi
theorem S50_26 : WP d 50 26 (a0 :: a1 :: a2v :: a3 :: lv) (.int x :: st) h Q ↔ WP d 50 27 (a0 :: a1 :: kl a2v :: some (.int x) :: lv) st h Q := WP_st (by rfl)
theorem S50_27 : WP d 50 27 (some (.ref a) :: lv) st h Q ↔ WP d 50 28 (some (.ref a) :: lv) (.ref a :: st) h Q := WP_st rfl
theorem S50_28 (hs : shp a = some (0, 6)) : WP d 50 28 lv (.ref a :: st) h Q ↔ WP d 50 31 lv (.ref (RV a 0) :: st) h Q := WP_getR (r := 384) rfl hs (by decide)
theorem S50_31 : WP d 50 31 (a0 :: some (.ref a) :: lv) st h Q ↔ WP d 50 32 (a0 :: some (.ref a) :: lv) (.ref a :: st) h Q := WP_st rfl
theorem S50_32 (hs : shp a = some (0, 3)) : WP d 50 32 lv (.ref a :: st) h Q ↔ WP d 50 35 lv (.ref (RV a 6) :: st) h Q := WP_getR (r := 198) rfl hs (by decide)
theorem S50_35 : WP d 50 35 (a0 :: a1 :: some (.int x) :: lv) st h Q ↔ WP d 50 36 (a0 :: a1 :: some (.int x) :: lv) (.int x :: st) h Q := WP_st rfl
theorem S50_36 (hi : okA 1 a i) : WP d 50 36 lv (.int i :: .ref a :: st) h Q ↔ WP d 50 37 lv (.int (h.1 a i.toNatClampNeg) :: st) h Q := WP_iald rfl hi
theorem S50_37 (hi : okA 1 a i) : WP d 50 37 lv (.int i :: .ref a :: st) h Q ↔ WP d 50 38 lv (.int (h.1 a i.toNatClampNeg) :: st) h Q := WP_iald rfl hi
theorem S50_38 : WP d 50 38 (a0 :: a1 :: a2v :: a3 :: a4 :: lv) (.int x :: st) h Q ↔ WP d 50 40 (a0 :: a1 :: a2v :: kl a3 :: some (.int x) :: lv) st h Q := WP_st (by rfl)
theorem S50_40 : WP d 50 40 (a0 :: some (.ref a) :: lv) st h Q ↔ WP d 50 41 (a0 :: some (.ref a) :: lv) (.ref a :: st) h Q := WP_st rfl
theorem S50_41 (hs : shp a = some (0, 3)) : WP d 50 41 lv (.ref a :: st) h Q ↔ WP d 50 44 lv (.int (h.1 a 4) :: st) h Q := WP_getI (r := 196) rfl hs (by decide)
theorem S50_44 : WP d 50 44 (a0 :: a1 :: some (.int x) :: lv) st h Q ↔ WP d 50 45 (a0 :: a1 :: some (.int x) :: lv) (.int x :: st) h Q := WP_st rfl
theorem S50_45 {pi0 : Int32} {pi1 : Int32} : WP (d + 1) 50 45 lv [.int pi1, .int pi0] h Q ↔ WP d 97 0 [some (.int pi0), some (.int pi1)] [] h (kR (d + 1) 50 48 lv [] Q) := WP_callSR rfl rfl rfl rfl rfl
theorem S50_48 : WP d 50 48 lv st h Q ↔ WP d 50 49 lv (.int 1 :: st) h Q := WP_st rfl
theorem S50_49 : WP d 50 49 lv (.int y :: .int x :: st) h Q ↔ if x = y then WP d 50 52 lv st h Q else WP d 50 86 lv st h Q := WP_br rfl
theorem S50_52 : WP d 50 52 (a0 :: a1 :: a2v :: some (.int x) :: lv) st h Q ↔ WP d 50 53 (a0 :: a1 :: a2v :: some (.int x) :: lv) (.int x :: st) h Q := WP_st rfl
theorem S50_53 : WP d 50 53 (a0 :: a1 :: a2v :: a3 :: some (.int x) :: lv) st h Q ↔ WP d 50 55 (a0 :: a1 :: a2v :: a3 :: some (.int x) :: lv) (.int x :: st) h Q := WP_st rfl
theorem S50_55 : WP d 50 55 lv (.int y :: .int x :: st) h Q ↔ if x = y then WP d 50 86 lv st h Q else WP d 50 58 lv st h Q := WP_br rfl
theorem S50_58 : WP d 50 58 (some (.ref a) :: lv) st h Q ↔ WP d 50 59 (some (.ref a) :: lv) (.ref a :: st) h Q := WP_st rfl
theorem S50_59 : WP d 50 59 lv (.ref a :: st) h Q ↔ WP d 50 60 lv (.ref a :: .ref a :: st) h Q := WP_st rfl
theorem S50_60 (hs : shp a = some (0, 6)) : WP d 50 60 lv (.ref a :: st) h Q ↔ WP d 50 63 lv (.int (h.1 a 1) :: st) h Q := WP_getI (r := 385) rfl hs (by decide)
theorem S50_63 : WP d 50 63 lv st h Q ↔ WP d 50 64 lv (.int 1 :: st) h Q := WP_st rfl
theorem S50_64 : WP d 50 64 (a0 :: a1 :: some (.int x) :: lv) st h Q ↔ WP d 50 65 (a0 :: a1 :: some (.int x) :: lv) (.int x :: st) h Q := WP_st rfl
theorem S50_65 : WP d 50 65 lv (.int y :: .int x :: st) h Q ↔ WP d 50 66 lv (.int (x <<< (y &&& 31)) :: st) h Q := WP_st rfl
theorem S50_66 : WP d 50 66 lv (.int y :: .int x :: st) h Q ↔ WP d 50 67 lv (.int (x ||| y) :: st) h Q := WP_st rfl
theorem S50_67 (hs : shp a = some (0, 6)) : WP d 50 67 lv (.int x :: .ref a :: st) h Q ↔ WP d 50 70 lv st (setI h a 1 x) Q := WP_putI (r := 385) rfl hs (by decide)
theorem S50_70 : WP d 50 70 (some (.ref a) :: lv) st h Q ↔ WP d 50 71 (some (.ref a) :: lv) (.ref a :: st) h Q := WP_st rfl
theorem S50_71 : WP d 50 71 (a0 :: a1 :: a2v :: some (.int x) :: lv) st h Q ↔ WP d 50 72 (a0 :: a1 :: a2v :: some (.int x) :: lv) (.int x :: st) h Q := WP_st rfl
theorem S50_72 : WP d 50 72 (a0 :: a1 :: a2v :: a3 :: some (.int x) :: lv) st h Q ↔ WP d 50 74 (a0 :: a1 :: a2v :: a3 :: some (.int x) :: lv) (.int x :: st) h Q := WP_st rfl
theorem S50_74 {pi0 : Int32} {pi1 : Int32} {qr0 : Nat} : WP (d + 1) 50 74 lv [.int pi1, .int pi0, .ref qr0] h Q ↔ WP d 204 0 [some (.int pi0), some (.int pi1)] [] h (kR (d + 1) 50 77 lv [.ref qr0] Q) := WP_callSR rfl rfl rfl rfl rfl
theorem S50_77 : WP d 50 77 (a0 :: a1 :: a2v :: some (.int x) :: lv) st h Q ↔ WP d 50 78 (a0 :: a1 :: a2v :: some (.int x) :: lv) (.int x :: st) h Q := WP_st rfl
theorem S50_78 : WP d 50 78 (a0 :: a1 :: a2v :: a3 :: some (.int x) :: lv) st h Q ↔ WP d 50 80 (a0 :: a1 :: a2v :: a3 :: some (.int x) :: lv) (.int x :: st) h Q := WP_st rfl
theorem S50_80 {pi0 : Int32} {pi1 : Int32} {qr0 : Nat} {qi2 : Int32} : WP (d + 1) 50 80 lv [.int pi1, .int pi0, .int qi2, .ref qr0] h Q ↔ WP d 203 0 [some (.int pi0), some (.int pi1)] [] h (kR (d + 1) 50 83 lv [.int qi2, .ref qr0] Q) := WP_callSR rfl rfl rfl rfl rfl
theorem S50_83 {pr0 : Nat} {pi0 : Int32} {pi1 : Int32} (hs : shp pr0 = some (0, 6)) : WP (d + 1) 50 83 lv [.int pi1, .int pi0, .ref pr0] h Q ↔ WP d 51 0 [some (.ref pr0), some (.int pi0), some (.int pi1), none] [] h (kV (d + 1) 50 86 lv [] Q) := WP_callVV rfl rfl rfl rfl rfl hs
theorem S50_86 : WP d 50 86 (a0 :: a1 :: some (.int x) :: lv) st h Q ↔ WP d 50 89 (a0 :: kl a1 :: some (.int (x + 1)) :: lv) st h Q := WP_st (by rfl)
theorem S50_89 : WP d 50 89 lv st h Q ↔ WP d 50 7 lv st h Q := WP_st rfl
theorem S50_92 : WP d 50 92 lv [] h Q ↔ Q (some none) h := WP_end rfl rfl rfl
theorem S51_0 : WP d 51 0 lv st h Q ↔ WP d 51 1 lv (.int 0 :: st) h Q := WP_st rfl
theorem S51_1 : WP d 51 1 (a0 :: a1 :: a2v :: a3 :: lv) (.int x :: st) h Q ↔ WP d 51 2 (a0 :: a1 :: kl a2v :: some (.int x) :: lv) st h Q := WP_st (by rfl)
theorem S51_2 : WP d 51 2 (a0 :: a1 :: a2v :: some (.int x) :: lv) st h Q ↔ WP d 51 3 (a0 :: a1 :: a2v :: some (.int x) :: lv) (.int x :: st) h Q := WP_st rfl
theorem S51_3 : WP d 51 3 lv st h Q ↔ WP d 51 5 lv (.int 6 :: st) h Q := WP_st rfl
theorem S51_5 : WP d 51 5 lv (.int y :: .int x :: st) h Q ↔ if y ≤ x then WP d 51 31 lv st h Q else WP d 51 8 lv st h Q := WP_br rfl
theorem S51_8 : WP d 51 8 (some (.ref a) :: lv) st h Q ↔ WP d 51 9 (some (.ref a) :: lv) (.ref a :: st) h Q := WP_st rfl
theorem S51_9 (hs : shp a = some (0, 6)) : WP d 51 9 lv (.ref a :: st) h Q ↔ WP d 51 12 lv (.ref (RV a 0) :: st) h Q := WP_getR (r := 384) rfl hs (by decide)
theorem S51_12 : WP d 51 12 (a0 :: a1 :: a2v :: some (.int x) :: lv) st h Q ↔ WP d 51 13 (a0 :: a1 :: a2v :: some (.int x) :: lv) (.int x :: st) h Q := WP_st rfl
theorem S51_13 (hi : okA 1 a i) : WP d 51 13 lv (.int i :: .ref a :: st) h Q ↔ WP d 51 14 lv (.int (h.1 a i.toNatClampNeg) :: st) h Q := WP_iald rfl hi
theorem S51_14 : WP d 51 14 (a0 :: a1 :: some (.int x) :: lv) st h Q ↔ WP d 51 15 (a0 :: a1 :: some (.int x) :: lv) (.int x :: st) h Q := WP_st rfl
theorem S51_15 : WP d 51 15 lv (.int y :: .int x :: st) h Q ↔ if x = y then WP d 51 18 lv st h Q else WP d 51 25 lv st h Q := WP_br rfl
theorem S51_18 : WP d 51 18 (some (.ref a) :: lv) st h Q ↔ WP d 51 19 (some (.ref a) :: lv) (.ref a :: st) h Q := WP_st rfl
theorem S51_19 (hs : shp a = some (0, 6)) : WP d 51 19 lv (.ref a :: st) h Q ↔ WP d 51 22 lv (.ref (RV a 0) :: st) h Q := WP_getR (r := 384) rfl hs (by decide)
theorem S51_22 : WP d 51 22 (a0 :: a1 :: a2v :: some (.int x) :: lv) st h Q ↔ WP d 51 23 (a0 :: a1 :: a2v :: some (.int x) :: lv) (.int x :: st) h Q := WP_st rfl
theorem S51_23 : WP d 51 23 (a0 :: some (.int x) :: lv) st h Q ↔ WP d 51 24 (a0 :: some (.int x) :: lv) (.int x :: st) h Q := WP_st rfl
theorem S51_24 (hi : okA 1 a i) : WP d 51 24 lv (.int x :: .int i :: .ref a :: st) h Q ↔ WP d 51 25 lv st (setI h a i.toNatClampNeg x) Q := WP_iast rfl hi
theorem S51_25 : WP d 51 25 (a0 :: a1 :: a2v :: some (.int x) :: lv) st h Q ↔ WP d 51 28 (a0 :: a1 :: kl a2v :: some (.int (x + 1)) :: lv) st h Q := WP_st (by rfl)
theorem S51_28 : WP d 51 28 lv st h Q ↔ WP d 51 2 lv st h Q := WP_st rfl
theorem S51_31 : WP d 51 31 lv [] h Q ↔ Q (some none) h := WP_end rfl rfl rfl
theorem S52_0 : WP d 52 0 lv st h Q ↔ WP d 52 1 lv (.int 0 :: st) h Q := WP_st rfl
theorem S52_1 : WP d 52 1 (a0 :: a1 :: a2v :: lv) (.int x :: st) h Q ↔ WP d 52 2 (a0 :: kl a1 :: some (.int x) :: lv) st h Q := WP_st (by rfl)
theorem S52_2 : WP d 52 2 lv st h Q ↔ WP d 52 3 lv (.int 0 :: st) h Q := WP_st rfl
theorem S52_3 : WP d 52 3 (a0 :: a1 :: a2v :: a3 :: lv) (.int x :: st) h Q ↔ WP d 52 4 (a0 :: a1 :: kl a2v :: some (.int x) :: lv) st h Q := WP_st (by rfl)
theorem S52_4 : WP d 52 4 (a0 :: a1 :: a2v :: some (.int x) :: lv) st h Q ↔ WP d 52 5 (a0 :: a1 :: a2v :: some (.int x) :: lv) (.int x :: st) h Q := WP_st rfl
theorem S52_5 : WP d 52 5 (a0 :: some (.ref a) :: lv) st h Q ↔ WP d 52 6 (a0 :: some (.ref a) :: lv) (.ref a :: st) h Q := WP_st rfl
theorem S52_6 (hs : shp a = some (0, 3)) : WP d 52 6 lv (.ref a :: st) h Q ↔ WP d 52 9 lv (.int (h.1 a 0) :: st) h Q := WP_getI (r := 192) rfl hs (by decide)
theorem S52_9 : WP d 52 9 lv (.int y :: .int x :: st) h Q ↔ if y ≤ x then WP d 52 60 lv st h Q else WP d 52 12 lv st h Q := WP_br rfl
theorem S52_12 : WP d 52 12 (a0 :: some (.ref a) :: lv) st h Q ↔ WP d 52 13 (a0 :: some (.ref a) :: lv) (.ref a :: st) h Q := WP_st rfl
theorem S52_13 : WP d 52 13 (a0 :: a1 :: a2v :: some (.int x) :: lv) st h Q ↔ WP d 52 14 (a0 :: a1 :: a2v :: some (.int x) :: lv) (.int x :: st) h Q := WP_st rfl
theorem S52_14 {pr0 : Nat} {pi0 : Int32} (hs : shp pr0 = some (0, 3)) : WP (d + 1) 52 14 lv [.int pi0, .ref pr0] h Q ↔ WP d 28 0 [some (.ref pr0), some (.int pi0)] [] h (kR (d + 1) 52 17 lv [] Q) := WP_callVR rfl rfl rfl rfl rfl hs
theorem S52_17 : WP d 52 17 lv (.int x :: st) h Q ↔ if x = 0 then WP d 52 32 lv st h Q else WP d 52 20 lv st h Q := WP_br rfl
theorem S52_20 : WP d 52 20 (some (.ref a) :: lv) st h Q ↔ WP d 52 21 (some (.ref a) :: lv) (.ref a :: st) h Q := WP_st rfl
theorem S52_21 (hs : shp a = some (0, 6)) : WP d 52 21 lv (.ref a :: st) h Q ↔ WP d 52 24 lv (.ref (RV a 6) :: st) h Q := WP_getR (r := 390) rfl hs (by decide)
theorem S52_24 : WP d 52 24 (a0 :: a1 :: a2v :: some (.int x) :: lv) st h Q ↔ WP d 52 25 (a0 :: a1 :: a2v :: some (.int x) :: lv) (.int x :: st) h Q := WP_st rfl
theorem S52_25 : WP d 52 25 (a0 :: some (.ref a) :: lv) st h Q ↔ WP d 52 26 (a0 :: some (.ref a) :: lv) (.ref a :: st) h Q := WP_st rfl
theorem S52_26 (hs : shp a = some (0, 3)) : WP d 52 26 lv (.ref a :: st) h Q ↔ WP d 52 29 lv (.ref (RV a 2) :: st) h Q := WP_getR (r := 194) rfl hs (by decide)
theorem S52_29 : WP d 52 29 (a0 :: a1 :: a2v :: some (.int x) :: lv) st h Q ↔ WP d 52 30 (a0 :: a1 :: a2v :: some (.int x) :: lv) (.int x :: st) h Q := WP_st rfl
theorem S52_30 (hi : okA 1 a i) : WP d 52 30 lv (.int i :: .ref a :: st) h Q ↔ WP d 52 31 lv (.int (h.1 a i.toNatClampNeg) :: st) h Q := WP_iald rfl hi
theorem S52_31 (hi : okA 1 a i) : WP d 52 31 lv (.int x :: .int i :: .ref a :: st) h Q ↔ WP d 52 32 lv st (setI h a i.toNatClampNeg x) Q := WP_iast rfl hi
theorem S52_32 : WP d 52 32 (a0 :: some (.ref a) :: lv) st h Q ↔ WP d 52 33 (a0 :: some (.ref a) :: lv) (.ref a :: st) h Q := WP_st rfl
theorem S52_33 : WP d 52 33 (a0 :: a1 :: a2v :: some (.int x) :: lv) st h Q ↔ WP d 52 34 (a0 :: a1 :: a2v :: some (.int x) :: lv) (.int x :: st) h Q := WP_st rfl
theorem S52_34 {pr0 : Nat} {pi0 : Int32} (hs : shp pr0 = some (0, 3)) : WP (d + 1) 52 34 lv [.int pi0, .ref pr0] h Q ↔ WP d 28 0 [some (.ref pr0), some (.int pi0)] [] h (kR (d + 1) 52 37 lv [] Q) := WP_callVR rfl rfl rfl rfl rfl hs
theorem S52_37 : WP d 52 37 lv (.int x :: st) h Q ↔ if x = 0 then WP d 52 40 lv st h Q else WP d 52 48 lv st h Q := WP_br rfl
theorem S52_40 : WP d 52 40 (some (.ref a) :: lv) st h Q ↔ WP d 52 41 (some (.ref a) :: lv) (.ref a :: st) h Q := WP_st rfl
theorem S52_41 : WP d 52 41 (a0 :: a1 :: a2v :: some (.int x) :: lv) st h Q ↔ WP d 52 42 (a0 :: a1 :: a2v :: some (.int x) :: lv) (.int x :: st) h Q := WP_st rfl
theorem S52_42 {pr0 : Nat} {pi0 : Int32} (hs : shp pr0 = some (0, 6)) : WP (d + 1) 52 42 lv [.int pi0, .ref pr0] h Q ↔ WP d 45 0 [some (.ref pr0), some (.int pi0)] [] h (kR (d + 1) 52 45 lv [] Q) := WP_callVR rfl rfl rfl rfl rfl hs
theorem S52_45 : WP d 52 45 lv (.int x :: st) h Q ↔ if x = 0 then WP d 52 54 lv st h Q else WP d 52 48 lv st h Q := WP_br rfl
theorem S52_48 : WP d 52 48 (a0 :: a1 :: some (.int x) :: lv) st h Q ↔ WP d 52 49 (a0 :: a1 :: some (.int x) :: lv) (.int x :: st) h Q := WP_st rfl
theorem S52_49 : WP d 52 49 lv st h Q ↔ WP d 52 50 lv (.int 1 :: st) h Q := WP_st rfl
theorem S52_50 : WP d 52 50 (a0 :: a1 :: a2v :: some (.int x) :: lv) st h Q ↔ WP d 52 51 (a0 :: a1 :: a2v :: some (.int x) :: lv) (.int x :: st) h Q := WP_st rfl
theorem S52_51 : WP d 52 51 lv (.int y :: .int x :: st) h Q ↔ WP d 52 52 lv (.int (x <<< (y &&& 31)) :: st) h Q := WP_st rfl
theorem S52_52 : WP d 52 52 lv (.int y :: .int x :: st) h Q ↔ WP d 52 53 lv (.int (x ||| y) :: st) h Q := WP_st rfl
theorem S52_53 : WP d 52 53 (a0 :: a1 :: a2v :: lv) (.int x :: st) h Q ↔ WP d 52 54 (a0 :: kl a1 :: some (.int x) :: lv) st h Q := WP_st (by rfl)
theorem S52_54 : WP d 52 54 (a0 :: a1 :: a2v :: some (.int x) :: lv) st h Q ↔ WP d 52 57 (a0 :: a1 :: kl a2v :: some (.int (x + 1)) :: lv) st h Q := WP_st (by rfl)
theorem S52_57 : WP d 52 57 lv st h Q ↔ WP d 52 4 lv st h Q := WP_st rfl
theorem S52_60 : WP d 52 60 lv st h Q ↔ WP d 52 61 lv (.int 0 :: st) h Q := WP_st rfl
theorem S52_61 : WP d 52 61 (a0 :: a1 :: a2v :: a3 :: lv) (.int x :: st) h Q ↔ WP d 52 62 (a0 :: a1 :: kl a2v :: some (.int x) :: lv) st h Q := WP_st (by rfl)
theorem S52_62 : WP d 52 62 (a0 :: a1 :: a2v :: some (.int x) :: lv) st h Q ↔ WP d 52 63 (a0 :: a1 :: a2v :: some (.int x) :: lv) (.int x :: st) h Q := WP_st rfl
theorem S52_63 : WP d 52 63 (a0 :: some (.ref a) :: lv) st h Q ↔ WP d 52 64 (a0 :: some (.ref a) :: lv) (.ref a :: st) h Q := WP_st rfl
theorem S52_64 (hs : shp a = some (0, 3)) : WP d 52 64 lv (.ref a :: st) h Q ↔ WP d 52 67 lv (.int (h.1 a 0) :: st) h Q := WP_getI (r := 192) rfl hs (by decide)
theorem S52_67 : WP d 52 67 lv (.int y :: .int x :: st) h Q ↔ if y ≤ x then WP d 52 116 lv st h Q else WP d 52 70 lv st h Q := WP_br rfl
theorem S52_70 : WP d 52 70 lv st h Q ↔ WP d 52 71 lv (.int 0 :: st) h Q := WP_st rfl
theorem S52_71 : WP d 52 71 (a0 :: a1 :: a2v :: a3 :: a4 :: lv) (.int x :: st) h Q ↔ WP d 52 73 (a0 :: a1 :: a2v :: kl a3 :: some (.int x) :: lv) st h Q := WP_st (by rfl)
theorem S52_73 : WP d 52 73 (a0 :: a1 :: a2v :: a3 :: some (.int x) :: lv) st h Q ↔ WP d 52 75 (a0 :: a1 :: a2v :: a3 :: some (.int x) :: lv) (.int x :: st) h Q := WP_st rfl
theorem S52_75 : WP d 52 75 (a0 :: some (.ref a) :: lv) st h Q ↔ WP d 52 76 (a0 :: some (.ref a) :: lv) (.ref a :: st) h Q := WP_st rfl
theorem S52_76 (hs : shp a = some (0, 3)) : WP d 52 76 lv (.ref a :: st) h Q ↔ WP d 52 79 lv (.int (h.1 a 3) :: st) h Q := WP_getI (r := 195) rfl hs (by decide)
theorem S52_79 : WP d 52 79 lv (.int y :: .int x :: st) h Q ↔ if y ≤ x then WP d 52 110 lv st h Q else WP d 52 82 lv st h Q := WP_br rfl
theorem S52_82 : WP d 52 82 (some (.ref a) :: lv) st h Q ↔ WP d 52 83 (some (.ref a) :: lv) (.ref a :: st) h Q := WP_st rfl
theorem S52_83 (hs : shp a = some (0, 6)) : WP d 52 83 lv (.ref a :: st) h Q ↔ WP d 52 86 lv (.int (h.1 a 1) :: st) h Q := WP_getI (r := 385) rfl hs (by decide)
theorem S52_86 : WP d 52 86 (a0 :: a1 :: a2v :: a3 :: some (.int x) :: lv) st h Q ↔ WP d 52 88 (a0 :: a1 :: a2v :: a3 :: some (.int x) :: lv) (.int x :: st) h Q := WP_st rfl
theorem S52_88 {pi0 : Int32} {pi1 : Int32} : WP (d + 1) 52 88 lv [.int pi1, .int pi0] h Q ↔ WP d 97 0 [some (.int pi0), some (.int pi1)] [] h (kR (d + 1) 52 91 lv [] Q) := WP_callSR rfl rfl rfl rfl rfl
theorem S52_91 : WP d 52 91 lv st h Q ↔ WP d 52 92 lv (.int 1 :: st) h Q := WP_st rfl
theorem S52_92 : WP d 52 92 lv (.int y :: .int x :: st) h Q ↔ if x = y then WP d 52 95 lv st h Q else WP d 52 104 lv st h Q := WP_br rfl
theorem S52_95 : WP d 52 95 (some (.ref a) :: lv) st h Q ↔ WP d 52 96 (some (.ref a) :: lv) (.ref a :: st) h Q := WP_st rfl
theorem S52_96 : WP d 52 96 (a0 :: some (.ref a) :: lv) st h Q ↔ WP d 52 97 (a0 :: some (.ref a) :: lv) (.ref a :: st) h Q := WP_st rfl
theorem S52_97 : WP d 52 97 (a0 :: a1 :: a2v :: a3 :: some (.int x) :: lv) st h Q ↔ WP d 52 99 (a0 :: a1 :: a2v :: a3 :: some (.int x) :: lv) (.int x :: st) h Q := WP_st rfl
theorem S52_99 : WP d 52 99 (a0 :: a1 :: some (.int x) :: lv) st h Q ↔ WP d 52 100 (a0 :: a1 :: some (.int x) :: lv) (.int x :: st) h Q := WP_st rfl
theorem S52_100 {pr0 : Nat} {pr1 : Nat} {pi0 : Int32} {pi1 : Int32} (hs : shp pr0 = some (0, 6)) : WP (d + 1) 52 100 lv [.int pi1, .int pi0, .ref pr1, .ref pr0] h Q ↔ WP d 53 0 [some (.ref pr0), some (.ref pr1), some (.int pi0), some (.int pi1), none, none, none, none, none] [] h (kR (d + 1) 52 103 lv [] Q) := WP_callVR rfl rfl rfl rfl rfl hs
theorem S52_103 : WP d 52 103 (a0 :: a1 :: a2v :: lv) (.int x :: st) h Q ↔ WP d 52 104 (a0 :: kl a1 :: some (.int x) :: lv) st h Q := WP_st (by rfl)
theorem S52_104 : WP d 52 104 (a0 :: a1 :: a2v :: a3 :: some (.int x) :: lv) st h Q ↔ WP d 52 107 (a0 :: a1 :: a2v :: kl a3 :: some (.int (x + 1)) :: lv) st h Q := WP_st (by rfl)
theorem S52_107 : WP d 52 107 lv st h Q ↔ WP d 52 73 lv st h Q := WP_st rfl
theorem S52_110 : WP d 52 110 (a0 :: a1 :: a2v :: some (.int x) :: lv) st h Q ↔ WP d 52 113 (a0 :: a1 :: kl a2v :: some (.int (x + 1)) :: lv) st h Q := WP_st (by rfl)
theorem S52_113 : WP d 52 113 lv st h Q ↔ WP d 52 62 lv st h Q := WP_st rfl
theorem S52_116 : WP d 52 116 lv [] h Q ↔ Q (some none) h := WP_end rfl rfl rfl
theorem S53_0 : WP d 53 0 (a0 :: some (.ref a) :: lv) st h Q ↔ WP d 53 1 (a0 :: some (.ref a) :: lv) (.ref a :: st) h Q := WP_st rfl
theorem S53_1 (hs : shp a = some (0, 3)) : WP d 53 1 lv (.ref a :: st) h Q ↔ WP d 53 4 lv (.ref (RV a 5) :: st) h Q := WP_getR (r := 197) rfl hs (by decide)
theorem S53_4 : WP d 53 4 (a0 :: a1 :: some (.int x) :: lv) st h Q ↔ WP d 53 5 (a0 :: a1 :: some (.int x) :: lv) (.int x :: st) h Q := WP_st rfl
theorem S53_5 (hi : okA 1 a i) : WP d 53 5 lv (.int i :: .ref a :: st) h Q ↔ WP d 53 6 lv (.int (h.1 a i.toNatClampNeg) :: st) h Q := WP_iald rfl hi
theorem S53_6 : WP d 53 6 (a0 :: a1 :: a2v :: a3 :: a4 :: lv) (.int x :: st) h Q ↔ WP d 53 8 (a0 :: a1 :: a2v :: kl a3 :: some (.int x) :: lv) st h Q := WP_st (by rfl)
theorem S53_8 : WP d 53 8 (a0 :: some (.ref a) :: lv) st h Q ↔ WP d 53 9 (a0 :: some (.ref a) :: lv) (.ref a :: st) h Q := WP_st rfl
theorem S53_9 (hs : shp a = some (0, 3)) : WP d 53 9 lv (.ref a :: st) h Q ↔ WP d 53 12 lv (.ref (RV a 6) :: st) h Q := WP_getR (r := 198) rfl hs (by decide)
theorem S53_12 : WP d 53 12 (a0 :: a1 :: some (.int x) :: lv) st h Q ↔ WP d 53 13 (a0 :: a1 :: some (.int x) :: lv) (.int x :: st) h Q := WP_st rfl
theorem S53_13 (hi : okA 1 a i) : WP d 53 13 lv (.int i :: .ref a :: st) h Q ↔ WP d 53 14 lv (.int (h.1 a i.toNatClampNeg) :: st) h Q := WP_iald rfl hi
theorem S53_14 : WP d 53 14 (a0 :: a1 :: a2v :: a3 :: a4 :: a5 :: lv) (.int x :: st) h Q ↔ WP d 53 16 (a0 :: a1 :: a2v :: a3 :: kl a4 :: some (.int x) :: lv) st h Q := WP_st (by rfl)
theorem S53_16 : WP d 53 16 (a0 :: a1 :: a2v :: some (.int x) :: lv) st h Q ↔ WP d 53 17 (a0 :: a1 :: a2v :: some (.int x) :: lv) (.int x :: st) h Q := WP_st rfl
theorem S53_17 : WP d 53 17 (a0 :: a1 :: a2v :: a3 :: some (.int x) :: lv) st h Q ↔ WP d 53 19 (a0 :: a1 :: a2v :: a3 :: some (.int x) :: lv) (.int x :: st) h Q := WP_st rfl
theorem S53_19 {pi0 : Int32} {pi1 : Int32} : WP (d + 1) 53 19 lv [.int pi1, .int pi0] h Q ↔ WP d 97 0 [some (.int pi0), some (.int pi1)] [] h (kR (d + 1) 53 22 lv [] Q) := WP_callSR rfl rfl rfl rfl rfl
theorem S53_22 : WP d 53 22 (a0 :: a1 :: a2v :: some (.int x) :: lv) st h Q ↔ WP d 53 23 (a0 :: a1 :: a2v :: some (.int x) :: lv) (.int x :: st) h Q := WP_st rfl
theorem S53_23 : WP d 53 23 (a0 :: a1 :: a2v :: a3 :: a4 :: some (.int x) :: lv) st h Q ↔ WP d 53 25 (a0 :: a1 :: a2v :: a3 :: a4 :: some (.int x) :: lv) (.int x :: st) h Q := WP_st rfl
theorem S53_25 {pi0 : Int32} {pi1 : Int32} {qi2 : Int32} : WP (d + 1) 53 25 lv [.int pi1, .int pi0, .int qi2] h Q ↔ WP d 97 0 [some (.int pi0), some (.int pi1)] [] h (kR (d + 1) 53 28 lv [.int qi2] Q) := WP_callSR rfl rfl rfl rfl rfl
theorem S53_28 : WP d 53 28 lv (.int y :: .int x :: st) h Q ↔ if x = y then WP d 53 31 lv st h Q else WP d 53 33 lv st h Q := WP_br rfl
theorem S53_31 : WP d 53 31 (a0 :: a1 :: a2v :: some (.int x) :: lv) st h Q ↔ WP d 53 32 (a0 :: a1 :: a2v :: some (.int x) :: lv) (.int x :: st) h Q := WP_st rfl
theorem S53_32 : WP d 53 32 lv [.int x] h Q ↔ Q (some (some (.int x))) h := WP_end rfl rfl rfl
theorem S53_33 : WP d 53 33 (a0 :: a1 :: a2v :: some (.int x) :: lv) st h Q ↔ WP d 53 34 (a0 :: a1 :: a2v :: some (.int x) :: lv) (.int x :: st) h Q := WP_st rfl
theorem S53_34 : WP d 53 34 (a0 :: a1 :: a2v :: a3 :: some (.int x) :: lv) st h Q ↔ WP d 53 36 (a0 :: a1 :: a2v :: a3 :: some (.int x) :: lv) (.int x :: st) h Q := WP_st rfl
theorem S53_36 {pi0 : Int32} {pi1 : Int32} : WP (d + 1) 53 36 lv [.int pi1, .int pi0] h Q ↔ WP d 97 0 [some (.int pi0), some (.int pi1)] [] h (kR (d + 1) 53 39 lv [] Q) := WP_callSR rfl rfl rfl rfl rfl
theorem S53_39 : WP d 53 39 lv st h Q ↔ WP d 53 40 lv (.int 1 :: st) h Q := WP_st rfl
theorem S53_40 : WP d 53 40 lv (.int y :: .int x :: st) h Q ↔ if x = y then WP d 53 43 lv st h Q else WP d 53 47 lv st h Q := WP_br rfl
theorem S53_43 : WP d 53 43 lv st h Q ↔ WP d 53 44 lv (.int 1 :: st) h Q := WP_st rfl
end
