section
variable {d : Nat} {lv : LV} {st : List Value} {h : Hp} {Q : Option (Option Value) → Hp → Prop} {x y i : Int32} {u w : Int64} {a a2 : Nat} {a0 a1 a2v a3 a4 a5 a6 a7 a8 a9 a10 a11 a12 a13 a14 a15 a16 a17 a18 a19 a20 : Option Value}
theorem S53_44 : WP d 53 44 lv st h Q ↔ WP d 53 48 lv st h Q := WP_st rfl
theorem S53_47 : WP d 53 47 lv st h Q ↔ WP d 53 48 lv (.int 0 :: st) h Q := WP_st rfl
theorem S53_48 : WP d 53 48 (a0 :: a1 :: a2v :: a3 :: a4 :: a5 :: a6 :: lv) (.int x :: st) h Q ↔ WP d 53 50 (a0 :: a1 :: a2v :: a3 :: a4 :: kl a5 :: some (.int x) :: lv) st h Q := WP_st (by rfl)
theorem S53_50 : WP d 53 50 (a0 :: a1 :: a2v :: a3 :: a4 :: a5 :: some (.int x) :: lv) st h Q ↔ WP d 53 52 (a0 :: a1 :: a2v :: a3 :: a4 :: a5 :: some (.int x) :: lv) (.int x :: st) h Q := WP_st rfl
theorem S53_52 : WP d 53 52 lv (.int x :: st) h Q ↔ if x = 0 then WP d 53 60 lv st h Q else WP d 53 55 lv st h Q := WP_br rfl
theorem S53_55 : WP d 53 55 (a0 :: a1 :: a2v :: a3 :: some (.int x) :: lv) st h Q ↔ WP d 53 57 (a0 :: a1 :: a2v :: a3 :: some (.int x) :: lv) (.int x :: st) h Q := WP_st rfl
theorem S53_57 : WP d 53 57 lv st h Q ↔ WP d 53 62 lv st h Q := WP_st rfl
theorem S53_60 : WP d 53 60 (a0 :: a1 :: a2v :: a3 :: a4 :: some (.int x) :: lv) st h Q ↔ WP d 53 62 (a0 :: a1 :: a2v :: a3 :: a4 :: some (.int x) :: lv) (.int x :: st) h Q := WP_st rfl
theorem S53_62 : WP d 53 62 (a0 :: a1 :: a2v :: a3 :: a4 :: a5 :: a6 :: a7 :: lv) (.int x :: st) h Q ↔ WP d 53 64 (a0 :: a1 :: a2v :: a3 :: a4 :: a5 :: kl a6 :: some (.int x) :: lv) st h Q := WP_st (by rfl)
theorem S53_64 : WP d 53 64 (a0 :: a1 :: a2v :: a3 :: a4 :: a5 :: some (.int x) :: lv) st h Q ↔ WP d 53 66 (a0 :: a1 :: a2v :: a3 :: a4 :: a5 :: some (.int x) :: lv) (.int x :: st) h Q := WP_st rfl
theorem S53_66 : WP d 53 66 lv (.int x :: st) h Q ↔ if x = 0 then WP d 53 74 lv st h Q else WP d 53 69 lv st h Q := WP_br rfl
theorem S53_69 : WP d 53 69 (a0 :: a1 :: a2v :: a3 :: a4 :: some (.int x) :: lv) st h Q ↔ WP d 53 71 (a0 :: a1 :: a2v :: a3 :: a4 :: some (.int x) :: lv) (.int x :: st) h Q := WP_st rfl
theorem S53_71 : WP d 53 71 lv st h Q ↔ WP d 53 76 lv st h Q := WP_st rfl
theorem S53_74 : WP d 53 74 (a0 :: a1 :: a2v :: a3 :: some (.int x) :: lv) st h Q ↔ WP d 53 76 (a0 :: a1 :: a2v :: a3 :: some (.int x) :: lv) (.int x :: st) h Q := WP_st rfl
theorem S53_76 : WP d 53 76 (a0 :: a1 :: a2v :: a3 :: a4 :: a5 :: a6 :: a7 :: a8 :: lv) (.int x :: st) h Q ↔ WP d 53 78 (a0 :: a1 :: a2v :: a3 :: a4 :: a5 :: a6 :: kl a7 :: some (.int x) :: lv) st h Q := WP_st (by rfl)
theorem S53_78 : WP d 53 78 (some (.ref a) :: lv) st h Q ↔ WP d 53 79 (some (.ref a) :: lv) (.ref a :: st) h Q := WP_st rfl
theorem S53_79 (hs : shp a = some (0, 6)) : WP d 53 79 lv (.ref a :: st) h Q ↔ WP d 53 82 lv (.ref (RV a 5) :: st) h Q := WP_getR (r := 389) rfl hs (by decide)
theorem S53_82 : WP d 53 82 (a0 :: a1 :: a2v :: a3 :: a4 :: a5 :: a6 :: a7 :: some (.int x) :: lv) st h Q ↔ WP d 53 84 (a0 :: a1 :: a2v :: a3 :: a4 :: a5 :: a6 :: a7 :: some (.int x) :: lv) (.int x :: st) h Q := WP_st rfl
theorem S53_84 : WP d 53 84 (some (.ref a) :: lv) st h Q ↔ WP d 53 85 (some (.ref a) :: lv) (.ref a :: st) h Q := WP_st rfl
theorem S53_85 (hs : shp a = some (0, 6)) : WP d 53 85 lv (.ref a :: st) h Q ↔ WP d 53 88 lv (.ref (RV a 5) :: st) h Q := WP_getR (r := 389) rfl hs (by decide)
theorem S53_88 : WP d 53 88 (a0 :: a1 :: a2v :: a3 :: a4 :: a5 :: a6 :: some (.int x) :: lv) st h Q ↔ WP d 53 90 (a0 :: a1 :: a2v :: a3 :: a4 :: a5 :: a6 :: some (.int x) :: lv) (.int x :: st) h Q := WP_st rfl
theorem S53_90 (hi : okA 1 a i) : WP d 53 90 lv (.int i :: .ref a :: st) h Q ↔ WP d 53 91 lv (.int (h.1 a i.toNatClampNeg) :: st) h Q := WP_iald rfl hi
theorem S53_91 : WP d 53 91 lv st h Q ↔ WP d 53 92 lv (.int 1 :: st) h Q := WP_st rfl
theorem S53_92 : WP d 53 92 (a0 :: a1 :: some (.int x) :: lv) st h Q ↔ WP d 53 93 (a0 :: a1 :: some (.int x) :: lv) (.int x :: st) h Q := WP_st rfl
theorem S53_93 : WP d 53 93 lv (.int y :: .int x :: st) h Q ↔ WP d 53 94 lv (.int (x <<< (y &&& 31)) :: st) h Q := WP_st rfl
theorem S53_94 : WP d 53 94 lv (.int y :: .int x :: st) h Q ↔ WP d 53 95 lv (.int (x ||| y) :: st) h Q := WP_st rfl
theorem S53_95 (hi : okA 1 a i) : WP d 53 95 lv (.int x :: .int i :: .ref a :: st) h Q ↔ WP d 53 96 lv st (setI h a i.toNatClampNeg x) Q := WP_iast rfl hi
theorem S53_96 : WP d 53 96 (some (.ref a) :: lv) st h Q ↔ WP d 53 97 (some (.ref a) :: lv) (.ref a :: st) h Q := WP_st rfl
theorem S53_97 (hs : shp a = some (0, 6)) : WP d 53 97 lv (.ref a :: st) h Q ↔ WP d 53 100 lv (.ref (RV a 6) :: st) h Q := WP_getR (r := 390) rfl hs (by decide)
theorem S53_100 : WP d 53 100 (a0 :: a1 :: a2v :: a3 :: a4 :: a5 :: a6 :: a7 :: some (.int x) :: lv) st h Q ↔ WP d 53 102 (a0 :: a1 :: a2v :: a3 :: a4 :: a5 :: a6 :: a7 :: some (.int x) :: lv) (.int x :: st) h Q := WP_st rfl
theorem S53_102 : WP d 53 102 (some (.ref a) :: lv) st h Q ↔ WP d 53 103 (some (.ref a) :: lv) (.ref a :: st) h Q := WP_st rfl
theorem S53_103 (hs : shp a = some (0, 6)) : WP d 53 103 lv (.ref a :: st) h Q ↔ WP d 53 106 lv (.ref (RV a 6) :: st) h Q := WP_getR (r := 390) rfl hs (by decide)
theorem S53_106 : WP d 53 106 (a0 :: a1 :: a2v :: a3 :: a4 :: a5 :: a6 :: some (.int x) :: lv) st h Q ↔ WP d 53 108 (a0 :: a1 :: a2v :: a3 :: a4 :: a5 :: a6 :: some (.int x) :: lv) (.int x :: st) h Q := WP_st rfl
theorem S53_108 (hi : okA 1 a i) : WP d 53 108 lv (.int i :: .ref a :: st) h Q ↔ WP d 53 109 lv (.int (h.1 a i.toNatClampNeg) :: st) h Q := WP_iald rfl hi
theorem S53_109 : WP d 53 109 (a0 :: a1 :: a2v :: a3 :: a4 :: a5 :: some (.int x) :: lv) st h Q ↔ WP d 53 111 (a0 :: a1 :: a2v :: a3 :: a4 :: a5 :: some (.int x) :: lv) (.int x :: st) h Q := WP_st rfl
theorem S53_111 : WP d 53 111 lv (.int x :: st) h Q ↔ if x = 0 then WP d 53 123 lv st h Q else WP d 53 114 lv st h Q := WP_br rfl
theorem S53_114 : WP d 53 114 (a0 :: some (.ref a) :: lv) st h Q ↔ WP d 53 115 (a0 :: some (.ref a) :: lv) (.ref a :: st) h Q := WP_st rfl
theorem S53_115 (hs : shp a = some (0, 3)) : WP d 53 115 lv (.ref a :: st) h Q ↔ WP d 53 118 lv (.ref (RV a 7) :: st) h Q := WP_getR (r := 199) rfl hs (by decide)
theorem S53_118 : WP d 53 118 (a0 :: a1 :: some (.int x) :: lv) st h Q ↔ WP d 53 119 (a0 :: a1 :: some (.int x) :: lv) (.int x :: st) h Q := WP_st rfl
theorem S53_119 (hi : okA 1 a i) : WP d 53 119 lv (.int i :: .ref a :: st) h Q ↔ WP d 53 120 lv (.int (h.1 a i.toNatClampNeg) :: st) h Q := WP_iald rfl hi
theorem S53_120 : WP d 53 120 lv st h Q ↔ WP d 53 130 lv st h Q := WP_st rfl
theorem S53_123 : WP d 53 123 (a0 :: some (.ref a) :: lv) st h Q ↔ WP d 53 124 (a0 :: some (.ref a) :: lv) (.ref a :: st) h Q := WP_st rfl
theorem S53_124 (hs : shp a = some (0, 3)) : WP d 53 124 lv (.ref a :: st) h Q ↔ WP d 53 127 lv (.ref (RV a 7) :: st) h Q := WP_getR (r := 199) rfl hs (by decide)
theorem S53_127 : WP d 53 127 (a0 :: a1 :: some (.int x) :: lv) st h Q ↔ WP d 53 128 (a0 :: a1 :: some (.int x) :: lv) (.int x :: st) h Q := WP_st rfl
theorem S53_128 (hi : okA 1 a i) : WP d 53 128 lv (.int i :: .ref a :: st) h Q ↔ WP d 53 129 lv (.int (h.1 a i.toNatClampNeg) :: st) h Q := WP_iald rfl hi
theorem S53_129 : WP d 53 129 lv (.int x :: st) h Q ↔ WP d 53 130 lv (.int (-x) :: st) h Q := WP_st rfl
theorem S53_130 : WP d 53 130 lv (.int y :: .int x :: st) h Q ↔ WP d 53 131 lv (.int (x + y) :: st) h Q := WP_st rfl
theorem S53_131 (hi : okA 1 a i) : WP d 53 131 lv (.int x :: .int i :: .ref a :: st) h Q ↔ WP d 53 132 lv st (setI h a i.toNatClampNeg x) Q := WP_iast rfl hi
theorem S53_132 : WP d 53 132 (a0 :: a1 :: a2v :: some (.int x) :: lv) st h Q ↔ WP d 53 133 (a0 :: a1 :: a2v :: some (.int x) :: lv) (.int x :: st) h Q := WP_st rfl
theorem S53_133 : WP d 53 133 lv st h Q ↔ WP d 53 134 lv (.int 1 :: st) h Q := WP_st rfl
theorem S53_134 : WP d 53 134 (a0 :: a1 :: a2v :: a3 :: a4 :: a5 :: a6 :: a7 :: some (.int x) :: lv) st h Q ↔ WP d 53 136 (a0 :: a1 :: a2v :: a3 :: a4 :: a5 :: a6 :: a7 :: some (.int x) :: lv) (.int x :: st) h Q := WP_st rfl
theorem S53_136 : WP d 53 136 lv (.int y :: .int x :: st) h Q ↔ WP d 53 137 lv (.int (x <<< (y &&& 31)) :: st) h Q := WP_st rfl
theorem S53_137 : WP d 53 137 lv (.int y :: .int x :: st) h Q ↔ WP d 53 138 lv (.int (x ||| y) :: st) h Q := WP_st rfl
theorem S53_138 : WP d 53 138 lv [.int x] h Q ↔ Q (some (some (.int x))) h := WP_end rfl rfl rfl
theorem S54_0 : WP d 54 0 (some (.ref a) :: lv) st h Q ↔ WP d 54 1 (some (.ref a) :: lv) (.ref a :: st) h Q := WP_st rfl
theorem S54_1 (hs : shp a = some (0, 7)) : WP d 54 1 lv (.ref a :: st) h Q ↔ WP d 54 4 lv (.ref (RV a 1) :: st) h Q := WP_getR (r := 449) rfl hs (by decide)
theorem S54_4 (hs : shp a = some (0, 5)) : WP d 54 4 lv (.ref a :: st) h Q ↔ WP d 54 7 lv (.int (h.1 a 1) :: st) h Q := WP_getI (r := 321) rfl hs (by decide)
theorem S54_7 : WP d 54 7 lv st h Q ↔ WP d 54 9 lv (.int 20 :: st) h Q := WP_st rfl
theorem S54_9 : WP d 54 9 lv (.int y :: .int x :: st) h Q ↔ WP d 54 10 lv (.int (x + y) :: st) h Q := WP_st rfl
theorem S54_10 : WP d 54 10 lv st h Q ↔ WP d 54 13 lv (.int 540 :: st) h Q := WP_st rfl
theorem S54_13 : WP d 54 13 lv (.int y :: .int x :: st) h Q ↔ if x ≤ y then WP d 54 18 lv st h Q else WP d 54 16 lv st h Q := WP_br rfl
theorem S54_16 : WP d 54 16 lv st h Q ↔ WP d 54 17 lv (.int (-1) :: st) h Q := WP_st rfl
theorem S54_17 : WP d 54 17 lv [.int x] h Q ↔ Q (some (some (.int x))) h := WP_end rfl rfl rfl
theorem S54_18 : WP d 54 18 (some (.ref a) :: lv) st h Q ↔ WP d 54 19 (some (.ref a) :: lv) (.ref a :: st) h Q := WP_st rfl
theorem S54_19 (hs : shp a = some (0, 7)) : WP d 54 19 lv (.ref a :: st) h Q ↔ WP d 54 22 lv (.ref (RV a 1) :: st) h Q := WP_getR (r := 449) rfl hs (by decide)
theorem S54_22 : WP d 54 22 (a0 :: some (.int x) :: lv) st h Q ↔ WP d 54 23 (a0 :: some (.int x) :: lv) (.int x :: st) h Q := WP_st rfl
theorem S54_23 {pr0 : Nat} {pi0 : Int32} (hs : shp pr0 = some (0, 5)) : WP (d + 1) 54 23 lv [.int pi0, .ref pr0] h Q ↔ WP d 43 0 [some (.ref pr0), some (.int pi0), none] [] h (kV (d + 1) 54 26 lv [] Q) := WP_callVV rfl rfl rfl rfl rfl hs
theorem S54_26 : WP d 54 26 (some (.ref a) :: lv) st h Q ↔ WP d 54 27 (some (.ref a) :: lv) (.ref a :: st) h Q := WP_st rfl
theorem S54_27 (hs : shp a = some (0, 7)) : WP d 54 27 lv (.ref a :: st) h Q ↔ WP d 54 30 lv (.ref (RV a 1) :: st) h Q := WP_getR (r := 449) rfl hs (by decide)
theorem S54_30 : WP d 54 30 (a0 :: a1 :: some (.int x) :: lv) st h Q ↔ WP d 54 31 (a0 :: a1 :: some (.int x) :: lv) (.int x :: st) h Q := WP_st rfl
theorem S54_31 {pr0 : Nat} {pi0 : Int32} (hs : shp pr0 = some (0, 5)) : WP (d + 1) 54 31 lv [.int pi0, .ref pr0] h Q ↔ WP d 43 0 [some (.ref pr0), some (.int pi0), none] [] h (kV (d + 1) 54 34 lv [] Q) := WP_callVV rfl rfl rfl rfl rfl hs
theorem S54_34 : WP d 54 34 (some (.ref a) :: lv) st h Q ↔ WP d 54 35 (some (.ref a) :: lv) (.ref a :: st) h Q := WP_st rfl
theorem S54_35 (hs : shp a = some (0, 7)) : WP d 54 35 lv (.ref a :: st) h Q ↔ WP d 54 38 lv (.ref (RV a 1) :: st) h Q := WP_getR (r := 449) rfl hs (by decide)
theorem S54_38 : WP d 54 38 (a0 :: a1 :: a2v :: some (.int x) :: lv) st h Q ↔ WP d 54 39 (a0 :: a1 :: a2v :: some (.int x) :: lv) (.int x :: st) h Q := WP_st rfl
theorem S54_39 {pr0 : Nat} {pi0 : Int32} (hs : shp pr0 = some (0, 5)) : WP (d + 1) 54 39 lv [.int pi0, .ref pr0] h Q ↔ WP d 43 0 [some (.ref pr0), some (.int pi0), none] [] h (kV (d + 1) 54 42 lv [] Q) := WP_callVV rfl rfl rfl rfl rfl hs
theorem S54_42 : WP d 54 42 (some (.ref a) :: lv) st h Q ↔ WP d 54 43 (some (.ref a) :: lv) (.ref a :: st) h Q := WP_st rfl
theorem S54_43 (hs : shp a = some (0, 7)) : WP d 54 43 lv (.ref a :: st) h Q ↔ WP d 54 46 lv (.ref (RV a 1) :: st) h Q := WP_getR (r := 449) rfl hs (by decide)
theorem S54_46 : WP d 54 46 (a0 :: a1 :: a2v :: a3 :: some (.int x) :: lv) st h Q ↔ WP d 54 48 (a0 :: a1 :: a2v :: a3 :: some (.int x) :: lv) (.int x :: st) h Q := WP_st rfl
theorem S54_48 {pr0 : Nat} {pi0 : Int32} (hs : shp pr0 = some (0, 5)) : WP (d + 1) 54 48 lv [.int pi0, .ref pr0] h Q ↔ WP d 43 0 [some (.ref pr0), some (.int pi0), none] [] h (kV (d + 1) 54 51 lv [] Q) := WP_callVV rfl rfl rfl rfl rfl hs
theorem S54_51 : WP d 54 51 (some (.ref a) :: lv) st h Q ↔ WP d 54 52 (some (.ref a) :: lv) (.ref a :: st) h Q := WP_st rfl
theorem S54_52 (hs : shp a = some (0, 7)) : WP d 54 52 lv (.ref a :: st) h Q ↔ WP d 54 55 lv (.ref (RV a 1) :: st) h Q := WP_getR (r := 449) rfl hs (by decide)
theorem S54_55 : WP d 54 55 (a0 :: a1 :: a2v :: a3 :: a4 :: some (.int x) :: lv) st h Q ↔ WP d 54 57 (a0 :: a1 :: a2v :: a3 :: a4 :: some (.int x) :: lv) (.int x :: st) h Q := WP_st rfl
theorem S54_57 {pr0 : Nat} {pi0 : Int32} (hs : shp pr0 = some (0, 5)) : WP (d + 1) 54 57 lv [.int pi0, .ref pr0] h Q ↔ WP d 43 0 [some (.ref pr0), some (.int pi0), none] [] h (kV (d + 1) 54 60 lv [] Q) := WP_callVV rfl rfl rfl rfl rfl hs
theorem S54_60 : WP d 54 60 (some (.ref a) :: lv) st h Q ↔ WP d 54 61 (some (.ref a) :: lv) (.ref a :: st) h Q := WP_st rfl
theorem S54_61 (hs : shp a = some (0, 7)) : WP d 54 61 lv (.ref a :: st) h Q ↔ WP d 54 64 lv (.ref (RV a 1) :: st) h Q := WP_getR (r := 449) rfl hs (by decide)
theorem S54_64 (hs : shp a = some (0, 5)) : WP d 54 64 lv (.ref a :: st) h Q ↔ WP d 54 67 lv (.int (h.1 a 1) :: st) h Q := WP_getI (r := 321) rfl hs (by decide)
theorem S54_67 : WP d 54 67 lv [.int x] h Q ↔ Q (some (some (.int x))) h := WP_end rfl rfl rfl
theorem S55_0 : WP d 55 0 (a0 :: some (.int x) :: lv) st h Q ↔ WP d 55 1 (a0 :: some (.int x) :: lv) (.int x :: st) h Q := WP_st rfl
theorem S55_1 : WP d 55 1 lv (.int x :: st) h Q ↔ if x < 0 then WP d 55 15 lv st h Q else WP d 55 4 lv st h Q := WP_br rfl
theorem S55_4 : WP d 55 4 (a0 :: some (.int x) :: lv) st h Q ↔ WP d 55 5 (a0 :: some (.int x) :: lv) (.int x :: st) h Q := WP_st rfl
theorem S55_5 : WP d 55 5 (some (.ref a) :: lv) st h Q ↔ WP d 55 6 (some (.ref a) :: lv) (.ref a :: st) h Q := WP_st rfl
theorem S55_6 (hs : shp a = some (0, 7)) : WP d 55 6 lv (.ref a :: st) h Q ↔ WP d 55 9 lv (.ref (RV a 1) :: st) h Q := WP_getR (r := 449) rfl hs (by decide)
theorem S55_9 (hs : shp a = some (0, 5)) : WP d 55 9 lv (.ref a :: st) h Q ↔ WP d 55 12 lv (.int (h.1 a 1) :: st) h Q := WP_getI (r := 321) rfl hs (by decide)
theorem S55_12 : WP d 55 12 lv (.int y :: .int x :: st) h Q ↔ if x ≤ y then WP d 55 17 lv st h Q else WP d 55 15 lv st h Q := WP_br rfl
theorem S55_15 : WP d 55 15 lv st h Q ↔ WP d 55 16 lv (.int 0 :: st) h Q := WP_st rfl
theorem S55_16 (hx : isB x) : WP d 55 16 lv [.int x] h Q ↔ Q (some (some (.int x))) h := WP_endZ rfl rfl hx
theorem S55_17 : WP d 55 17 (some (.ref a) :: lv) st h Q ↔ WP d 55 18 (some (.ref a) :: lv) (.ref a :: st) h Q := WP_st rfl
theorem S55_18 (hs : shp a = some (0, 7)) : WP d 55 18 lv (.ref a :: st) h Q ↔ WP d 55 21 lv (.ref (RV a 1) :: st) h Q := WP_getR (r := 449) rfl hs (by decide)
theorem S55_21 : WP d 55 21 (a0 :: some (.int x) :: lv) st h Q ↔ WP d 55 22 (a0 :: some (.int x) :: lv) (.int x :: st) h Q := WP_st rfl
theorem S55_22 (hs : shp a = some (0, 5)) : WP d 55 22 lv (.int x :: .ref a :: st) h Q ↔ WP d 55 25 lv st (setI h a 1 x) Q := WP_putI (r := 321) rfl hs (by decide)
theorem S55_25 : WP d 55 25 lv st h Q ↔ WP d 55 26 lv (.int 1 :: st) h Q := WP_st rfl
theorem S55_26 (hx : isB x) : WP d 55 26 lv [.int x] h Q ↔ Q (some (some (.int x))) h := WP_endZ rfl rfl hx
theorem S56_0 : WP d 56 0 (some (.ref a) :: lv) st h Q ↔ WP d 56 1 (some (.ref a) :: lv) (.ref a :: st) h Q := WP_st rfl
theorem S56_1 (hs : shp a = some (0, 7)) : WP d 56 1 lv (.ref a :: st) h Q ↔ WP d 56 4 lv (.ref (RV a 0) :: st) h Q := WP_getR (r := 448) rfl hs (by decide)
theorem S56_4 : WP d 56 4 (some (.ref a) :: lv) st h Q ↔ WP d 56 5 (some (.ref a) :: lv) (.ref a :: st) h Q := WP_st rfl
theorem S56_5 (hs : shp a = some (0, 7)) : WP d 56 5 lv (.ref a :: st) h Q ↔ WP d 56 8 lv (.ref (RV a 3) :: st) h Q := WP_getR (r := 451) rfl hs (by decide)
theorem S56_8 {pr0 : Nat} {pr1 : Nat} (hs : shp pr0 = some (0, 4)) : WP (d + 1) 56 8 lv [.ref pr1, .ref pr0] h Q ↔ WP d 30 0 [some (.ref pr0), some (.ref pr1), none] [] h (kR (d + 1) 56 11 lv [] Q) := WP_callVR rfl rfl rfl rfl rfl hs
theorem S56_11 : WP d 56 11 (a0 :: a1 :: lv) (.int x :: st) h Q ↔ WP d 56 12 (kl a0 :: some (.int x) :: lv) st h Q := WP_st (by rfl)
theorem S56_12 : WP d 56 12 (some (.ref a) :: lv) st h Q ↔ WP d 56 13 (some (.ref a) :: lv) (.ref a :: st) h Q := WP_st rfl
theorem S56_13 (hs : shp a = some (0, 7)) : WP d 56 13 lv (.ref a :: st) h Q ↔ WP d 56 16 lv (.ref (RV a 1) :: st) h Q := WP_getR (r := 449) rfl hs (by decide)
theorem S56_16 : WP d 56 16 lv st h Q ↔ WP d 56 17 lv (.int 0 :: st) h Q := WP_st rfl
theorem S56_17 (hs : shp a = some (0, 5)) : WP d 56 17 lv (.int x :: .ref a :: st) h Q ↔ WP d 56 20 lv st (setI h a 1 x) Q := WP_putI (r := 321) rfl hs (by decide)
theorem S56_20 : WP d 56 20 (a0 :: some (.int x) :: lv) st h Q ↔ WP d 56 21 (a0 :: some (.int x) :: lv) (.int x :: st) h Q := WP_st rfl
theorem S56_21 : WP d 56 21 lv (.int x :: st) h Q ↔ if x = 0 then WP d 56 24 lv st h Q else WP d 56 56 lv st h Q := WP_br rfl
theorem S56_24 : WP d 56 24 (some (.ref a) :: lv) st h Q ↔ WP d 56 25 (some (.ref a) :: lv) (.ref a :: st) h Q := WP_st rfl
theorem S56_25 : WP d 56 25 (some (.ref a) :: lv) st h Q ↔ WP d 56 26 (some (.ref a) :: lv) (.ref a :: st) h Q := WP_st rfl
theorem S56_26 (hs : shp a = some (0, 7)) : WP d 56 26 lv (.ref a :: st) h Q ↔ WP d 56 29 lv (.ref (RV a 0) :: st) h Q := WP_getR (r := 448) rfl hs (by decide)
theorem S56_29 (hs : shp a = some (0, 4)) : WP d 56 29 lv (.ref a :: st) h Q ↔ WP d 56 32 lv (.int (h.1 a 12) :: st) h Q := WP_getI (r := 268) rfl hs (by decide)
theorem S56_32 (hs : shp a = some (0, 7)) : WP d 56 32 lv (.int x :: .ref a :: st) h Q ↔ WP d 56 35 lv st (setI h a 7 x) Q := WP_putI (r := 455) rfl hs (by decide)
theorem S56_35 : WP d 56 35 (some (.ref a) :: lv) st h Q ↔ WP d 56 36 (some (.ref a) :: lv) (.ref a :: st) h Q := WP_st rfl
theorem S56_36 : WP d 56 36 (some (.ref a) :: lv) st h Q ↔ WP d 56 37 (some (.ref a) :: lv) (.ref a :: st) h Q := WP_st rfl
theorem S56_37 (hs : shp a = some (0, 7)) : WP d 56 37 lv (.ref a :: st) h Q ↔ WP d 56 40 lv (.ref (RV a 0) :: st) h Q := WP_getR (r := 448) rfl hs (by decide)
theorem S56_40 (hs : shp a = some (0, 4)) : WP d 56 40 lv (.ref a :: st) h Q ↔ WP d 56 43 lv (.int (h.1 a 11) :: st) h Q := WP_getI (r := 267) rfl hs (by decide)
theorem S56_43 (hs : shp a = some (0, 7)) : WP d 56 43 lv (.int x :: .ref a :: st) h Q ↔ WP d 56 46 lv st (setI h a 8 x) Q := WP_putI (r := 456) rfl hs (by decide)
theorem S56_46 : WP d 56 46 lv st h Q ↔ WP d 56 47 lv (.int (-1) :: st) h Q := WP_st rfl
theorem S56_47 : WP d 56 47 (some (.ref a) :: lv) st h Q ↔ WP d 56 48 (some (.ref a) :: lv) (.ref a :: st) h Q := WP_st rfl
theorem S56_48 (hs : shp a = some (0, 7)) : WP d 56 48 lv (.ref a :: st) h Q ↔ WP d 56 51 lv (.ref (RV a 0) :: st) h Q := WP_getR (r := 448) rfl hs (by decide)
theorem S56_51 (hs : shp a = some (0, 4)) : WP d 56 51 lv (.ref a :: st) h Q ↔ WP d 56 54 lv (.int (h.1 a 13) :: st) h Q := WP_getI (r := 269) rfl hs (by decide)
theorem S56_54 : WP d 56 54 lv (.int y :: .int x :: st) h Q ↔ WP d 56 55 lv (.int (x - y) :: st) h Q := WP_st rfl
theorem S56_55 : WP d 56 55 lv [.int x] h Q ↔ Q (some (some (.int x))) h := WP_end rfl rfl rfl
theorem S56_56 : WP d 56 56 (some (.ref a) :: lv) st h Q ↔ WP d 56 57 (some (.ref a) :: lv) (.ref a :: st) h Q := WP_st rfl
theorem S56_57 : WP d 56 57 lv st h Q ↔ WP d 56 58 lv (.int 0 :: st) h Q := WP_st rfl
theorem S56_58 (hs : shp a = some (0, 7)) : WP d 56 58 lv (.int x :: .ref a :: st) h Q ↔ WP d 56 61 lv st (setI h a 7 x) Q := WP_putI (r := 455) rfl hs (by decide)
theorem S56_61 : WP d 56 61 (some (.ref a) :: lv) st h Q ↔ WP d 56 62 (some (.ref a) :: lv) (.ref a :: st) h Q := WP_st rfl
theorem S56_62 : WP d 56 62 lv st h Q ↔ WP d 56 63 lv (.int (-1) :: st) h Q := WP_st rfl
theorem S56_63 (hs : shp a = some (0, 7)) : WP d 56 63 lv (.int x :: .ref a :: st) h Q ↔ WP d 56 66 lv st (setI h a 8 x) Q := WP_putI (r := 456) rfl hs (by decide)
theorem S56_66 : WP d 56 66 (some (.ref a) :: lv) st h Q ↔ WP d 56 67 (some (.ref a) :: lv) (.ref a :: st) h Q := WP_st rfl
theorem S56_67 (hs : shp a = some (0, 7)) : WP d 56 67 lv (.ref a :: st) h Q ↔ WP d 56 70 lv (.ref (RV a 2) :: st) h Q := WP_getR (r := 450) rfl hs (by decide)
theorem S56_70 : WP d 56 70 (some (.ref a) :: lv) st h Q ↔ WP d 56 71 (some (.ref a) :: lv) (.ref a :: st) h Q := WP_st rfl
theorem S56_71 (hs : shp a = some (0, 7)) : WP d 56 71 lv (.ref a :: st) h Q ↔ WP d 56 74 lv (.ref (RV a 3) :: st) h Q := WP_getR (r := 451) rfl hs (by decide)
theorem S56_74 {pr0 : Nat} {pr1 : Nat} (hs : shp pr0 = some (0, 3)) : WP (d + 1) 56 74 lv [.ref pr1, .ref pr0] h Q ↔ WP d 25 0 [some (.ref pr0), some (.ref pr1), none] [] h (kV (d + 1) 56 77 lv [] Q) := WP_callVV rfl rfl rfl rfl rfl hs
theorem S56_77 : WP d 56 77 (some (.ref a) :: lv) st h Q ↔ WP d 56 78 (some (.ref a) :: lv) (.ref a :: st) h Q := WP_st rfl
theorem S56_78 (hs : shp a = some (0, 7)) : WP d 56 78 lv (.ref a :: st) h Q ↔ WP d 56 81 lv (.ref (RV a 4) :: st) h Q := WP_getR (r := 452) rfl hs (by decide)
theorem S56_81 {pr0 : Nat} (hs : shp pr0 = some (0, 0)) : WP (d + 1) 56 81 lv [.ref pr0] h Q ↔ WP d 2 0 [some (.ref pr0)] [] h (kV (d + 1) 56 84 lv [] Q) := WP_callVV rfl rfl rfl rfl rfl hs
theorem S56_84 : WP d 56 84 (some (.ref a) :: lv) st h Q ↔ WP d 56 85 (some (.ref a) :: lv) (.ref a :: st) h Q := WP_st rfl
theorem S56_85 : WP d 56 85 lv st h Q ↔ WP d 56 86 lv (.int 1 :: st) h Q := WP_st rfl
theorem S56_86 (hs : shp a = some (0, 7)) (hx : isB x) : WP d 56 86 lv (.int x :: .ref a :: st) h Q ↔ WP d 56 89 lv st (setI h a 11 x) Q := WP_putZ (r := 459) rfl hs (by decide) hx
theorem S56_89 : WP d 56 89 (some (.ref a) :: lv) st h Q ↔ WP d 56 90 (some (.ref a) :: lv) (.ref a :: st) h Q := WP_st rfl
theorem S56_90 (hs : shp a = some (0, 7)) : WP d 56 90 lv (.ref a :: st) h Q ↔ WP d 56 93 lv (.ref (RV a 0) :: st) h Q := WP_getR (r := 448) rfl hs (by decide)
theorem S56_93 (hs : shp a = some (0, 4)) : WP d 56 93 lv (.ref a :: st) h Q ↔ WP d 56 96 lv (.int (h.1 a 11) :: st) h Q := WP_getI (r := 267) rfl hs (by decide)
theorem S56_96 : WP d 56 96 lv [.int x] h Q ↔ Q (some (some (.int x))) h := WP_end rfl rfl rfl
theorem S57_0 : WP d 57 0 (a0 :: some (.int x) :: lv) st h Q ↔ WP d 57 1 (a0 :: some (.int x) :: lv) (.int x :: st) h Q := WP_st rfl
theorem S57_1 : WP d 57 1 lv (.int x :: st) h Q ↔ if x = 0 then WP d 57 28 lv st h Q else if x = 1 then WP d 57 33 lv st h Q else WP d 57 38 lv st h Q := by
  by_cases e0 : x = 0
  · subst e0
    rw [if_pos rfl]
    exact WP_st rfl
  by_cases e1 : x = 1
  · subst e1
    rw [if_neg (by decide)]
    rw [if_pos rfl]
    exact WP_st rfl
  rw [if_neg e0, if_neg e1]
  have z0 : x.toInt ≠ 0 := fun q => e0 (Int32.toInt_inj.mp (q.trans (by decide)))
  have z1 : x.toInt ≠ 1 := fun q => e1 (Int32.toInt_inj.mp (q.trans (by decide)))
  exact WP_lkD rfl rfl (by simp [Op.lookupswitch.offset, Ne.symm z0, z0, Ne.symm z1, z1]) rfl
theorem S57_28 : WP d 57 28 (some (.ref a) :: lv) st h Q ↔ WP d 57 29 (some (.ref a) :: lv) (.ref a :: st) h Q := WP_st rfl
theorem S57_29 (hs : shp a = some (0, 7)) : WP d 57 29 lv (.ref a :: st) h Q ↔ WP d 57 32 lv (.int (h.1 a 7) :: st) h Q := WP_getI (r := 455) rfl hs (by decide)
theorem S57_32 : WP d 57 32 lv [.int x] h Q ↔ Q (some (some (.int x))) h := WP_end rfl rfl rfl
theorem S57_33 : WP d 57 33 (some (.ref a) :: lv) st h Q ↔ WP d 57 34 (some (.ref a) :: lv) (.ref a :: st) h Q := WP_st rfl
theorem S57_34 (hs : shp a = some (0, 7)) : WP d 57 34 lv (.ref a :: st) h Q ↔ WP d 57 37 lv (.int (h.1 a 8) :: st) h Q := WP_getI (r := 456) rfl hs (by decide)
theorem S57_37 : WP d 57 37 lv [.int x] h Q ↔ Q (some (some (.int x))) h := WP_end rfl rfl rfl
theorem S57_38 : WP d 57 38 lv st h Q ↔ WP d 57 39 lv (.int (-1) :: st) h Q := WP_st rfl
theorem S57_39 : WP d 57 39 lv [.int x] h Q ↔ Q (some (some (.int x))) h := WP_end rfl rfl rfl
theorem S58_0 : WP d 58 0 (some (.ref a) :: lv) st h Q ↔ WP d 58 1 (some (.ref a) :: lv) (.ref a :: st) h Q := WP_st rfl
theorem S58_1 : WP d 58 1 (a0 :: some (.int x) :: lv) st h Q ↔ WP d 58 2 (a0 :: some (.int x) :: lv) (.int x :: st) h Q := WP_st rfl
theorem S58_2 {pr0 : Nat} {pi0 : Int32} (hs : shp pr0 = some (0, 7)) : WP (d + 1) 58 2 lv [.int pi0, .ref pr0] h Q ↔ WP d 89 0 [some (.ref pr0), some (.int pi0)] [] h (kR (d + 1) 58 5 lv [] Q) := WP_callVR rfl rfl rfl rfl rfl hs
theorem S58_5 : WP d 58 5 lv (.int x :: st) h Q ↔ if x = 0 then WP d 58 17 lv st h Q else WP d 58 8 lv st h Q := WP_br rfl
theorem S58_8 : WP d 58 8 (a0 :: a1 :: some (.int x) :: lv) st h Q ↔ WP d 58 9 (a0 :: a1 :: some (.int x) :: lv) (.int x :: st) h Q := WP_st rfl
theorem S58_9 : WP d 58 9 lv (.int x :: st) h Q ↔ if x < 0 then WP d 58 17 lv st h Q else WP d 58 12 lv st h Q := WP_br rfl
theorem S58_12 : WP d 58 12 (a0 :: a1 :: some (.int x) :: lv) st h Q ↔ WP d 58 13 (a0 :: a1 :: some (.int x) :: lv) (.int x :: st) h Q := WP_st rfl
theorem S58_13 : WP d 58 13 lv st h Q ↔ WP d 58 14 lv (.int 4 :: st) h Q := WP_st rfl
theorem S58_14 : WP d 58 14 lv (.int y :: .int x :: st) h Q ↔ if x ≤ y then WP d 58 25 lv st h Q else WP d 58 17 lv st h Q := WP_br rfl
theorem S58_17 : WP d 58 17 lv [] h Q ↔ Q none h := WP_end rfl rfl rfl
theorem S58_25 : WP d 58 25 (some (.ref a) :: lv) st h Q ↔ WP d 58 26 (some (.ref a) :: lv) (.ref a :: st) h Q := WP_st rfl
theorem S58_26 {pr0 : Nat} (hs : shp pr0 = some (0, 7)) : WP (d + 1) 58 26 lv [.ref pr0] h Q ↔ WP d 87 0 [some (.ref pr0)] [] h (kV (d + 1) 58 29 lv [] Q) := WP_callVV rfl rfl rfl rfl rfl hs
theorem S58_29 : WP d 58 29 (a0 :: a1 :: some (.int x) :: lv) st h Q ↔ WP d 58 30 (a0 :: a1 :: some (.int x) :: lv) (.int x :: st) h Q := WP_st rfl
theorem S58_30 : WP d 58 30 lv (.int x :: st) h Q ↔ if x = 0 then WP d 58 60 lv st h Q else if x = 1 then WP d 58 77 lv st h Q else if x = 2 then WP d 58 103 lv st h Q else if x = 3 then WP d 58 113 lv st h Q else WP d 58 130 lv st h Q := by
  by_cases e0 : x = 0
  · subst e0
    rw [if_pos rfl]
    exact WP_st rfl
  by_cases e1 : x = 1
  · subst e1
    rw [if_neg (by decide)]
    rw [if_pos rfl]
    exact WP_st rfl
  by_cases e2 : x = 2
  · subst e2
    rw [if_neg (by decide)]
    rw [if_neg (by decide)]
    rw [if_pos rfl]
    exact WP_st rfl
  by_cases e3 : x = 3
  · subst e3
    rw [if_neg (by decide)]
    rw [if_neg (by decide)]
    rw [if_neg (by decide)]
    rw [if_pos rfl]
    exact WP_st rfl
  rw [if_neg e0, if_neg e1, if_neg e2, if_neg e3]
  have z0 : x.toInt ≠ 0 := fun q => e0 (Int32.toInt_inj.mp (q.trans (by decide)))
  have z1 : x.toInt ≠ 1 := fun q => e1 (Int32.toInt_inj.mp (q.trans (by decide)))
  have z2 : x.toInt ≠ 2 := fun q => e2 (Int32.toInt_inj.mp (q.trans (by decide)))
  have z3 : x.toInt ≠ 3 := fun q => e3 (Int32.toInt_inj.mp (q.trans (by decide)))
  exact WP_swD rfl (by omega) rfl
theorem S58_60 : WP d 58 60 (some (.ref a) :: lv) st h Q ↔ WP d 58 61 (some (.ref a) :: lv) (.ref a :: st) h Q := WP_st rfl
theorem S58_61 (hs : shp a = some (0, 7)) : WP d 58 61 lv (.ref a :: st) h Q ↔ WP d 58 64 lv (.ref (RV a 2) :: st) h Q := WP_getR (r := 450) rfl hs (by decide)
theorem S58_64 : WP d 58 64 (a0 :: some (.int x) :: lv) st h Q ↔ WP d 58 65 (a0 :: some (.int x) :: lv) (.int x :: st) h Q := WP_st rfl
theorem S58_65 {pr0 : Nat} {pi0 : Int32} (hs : shp pr0 = some (0, 3)) : WP (d + 1) 58 65 lv [.int pi0, .ref pr0] h Q ↔ WP d 28 0 [some (.ref pr0), some (.int pi0)] [] h (kR (d + 1) 58 68 lv [] Q) := WP_callVR rfl rfl rfl rfl rfl hs
theorem S58_68 : WP d 58 68 lv (.int x :: st) h Q ↔ if x = 0 then WP d 58 75 lv st h Q else WP d 58 71 lv st h Q := WP_br rfl
theorem S58_71 : WP d 58 71 lv st h Q ↔ WP d 58 72 lv (.int 1 :: st) h Q := WP_st rfl
theorem S58_72 : WP d 58 72 lv st h Q ↔ WP d 58 76 lv st h Q := WP_st rfl
theorem S58_75 : WP d 58 75 lv st h Q ↔ WP d 58 76 lv (.int 0 :: st) h Q := WP_st rfl
theorem S58_76 : WP d 58 76 lv [.int x] h Q ↔ Q (some (some (.int x))) h := WP_end rfl rfl rfl
theorem S58_77 : WP d 58 77 (some (.ref a) :: lv) st h Q ↔ WP d 58 78 (some (.ref a) :: lv) (.ref a :: st) h Q := WP_st rfl
theorem S58_78 (hs : shp a = some (0, 7)) : WP d 58 78 lv (.ref a :: st) h Q ↔ WP d 58 81 lv (.ref (RV a 2) :: st) h Q := WP_getR (r := 450) rfl hs (by decide)
theorem S58_81 : WP d 58 81 (a0 :: some (.int x) :: lv) st h Q ↔ WP d 58 82 (a0 :: some (.int x) :: lv) (.int x :: st) h Q := WP_st rfl
theorem S58_82 {pr0 : Nat} {pi0 : Int32} (hs : shp pr0 = some (0, 3)) : WP (d + 1) 58 82 lv [.int pi0, .ref pr0] h Q ↔ WP d 28 0 [some (.ref pr0), some (.int pi0)] [] h (kR (d + 1) 58 85 lv [] Q) := WP_callVR rfl rfl rfl rfl rfl hs
theorem S58_85 : WP d 58 85 lv (.int x :: st) h Q ↔ if x = 0 then WP d 58 100 lv st h Q else WP d 58 88 lv st h Q := WP_br rfl
theorem S58_88 : WP d 58 88 (some (.ref a) :: lv) st h Q ↔ WP d 58 89 (some (.ref a) :: lv) (.ref a :: st) h Q := WP_st rfl
theorem S58_89 (hs : shp a = some (0, 7)) : WP d 58 89 lv (.ref a :: st) h Q ↔ WP d 58 92 lv (.ref (RV a 2) :: st) h Q := WP_getR (r := 450) rfl hs (by decide)
theorem S58_92 (hs : shp a = some (0, 3)) : WP d 58 92 lv (.ref a :: st) h Q ↔ WP d 58 95 lv (.ref (RV a 2) :: st) h Q := WP_getR (r := 194) rfl hs (by decide)
theorem S58_95 : WP d 58 95 (a0 :: some (.int x) :: lv) st h Q ↔ WP d 58 96 (a0 :: some (.int x) :: lv) (.int x :: st) h Q := WP_st rfl
theorem S58_96 (hi : okA 1 a i) : WP d 58 96 lv (.int i :: .ref a :: st) h Q ↔ WP d 58 97 lv (.int (h.1 a i.toNatClampNeg) :: st) h Q := WP_iald rfl hi
theorem S58_97 : WP d 58 97 lv st h Q ↔ WP d 58 102 lv st h Q := WP_st rfl
theorem S58_100 : WP d 58 100 lv st h Q ↔ WP d 58 102 lv (.int (-1000000) :: st) h Q := WP_st rfl
theorem S58_102 : WP d 58 102 lv [.int x] h Q ↔ Q (some (some (.int x))) h := WP_end rfl rfl rfl
theorem S58_103 : WP d 58 103 (some (.ref a) :: lv) st h Q ↔ WP d 58 104 (some (.ref a) :: lv) (.ref a :: st) h Q := WP_st rfl
theorem S58_104 (hs : shp a = some (0, 7)) : WP d 58 104 lv (.ref a :: st) h Q ↔ WP d 58 107 lv (.ref (RV a 9) :: st) h Q := WP_getR (r := 457) rfl hs (by decide)
theorem S58_107 (hs : shp a = some (0, 6)) : WP d 58 107 lv (.ref a :: st) h Q ↔ WP d 58 110 lv (.ref (RV a 0) :: st) h Q := WP_getR (r := 384) rfl hs (by decide)
theorem S58_110 : WP d 58 110 (a0 :: some (.int x) :: lv) st h Q ↔ WP d 58 111 (a0 :: some (.int x) :: lv) (.int x :: st) h Q := WP_st rfl
theorem S58_111 (hi : okA 1 a i) : WP d 58 111 lv (.int i :: .ref a :: st) h Q ↔ WP d 58 112 lv (.int (h.1 a i.toNatClampNeg) :: st) h Q := WP_iald rfl hi
theorem S58_112 : WP d 58 112 lv [.int x] h Q ↔ Q (some (some (.int x))) h := WP_end rfl rfl rfl
theorem S58_113 : WP d 58 113 (some (.ref a) :: lv) st h Q ↔ WP d 58 114 (some (.ref a) :: lv) (.ref a :: st) h Q := WP_st rfl
theorem S58_114 (hs : shp a = some (0, 7)) : WP d 58 114 lv (.ref a :: st) h Q ↔ WP d 58 117 lv (.ref (RV a 9) :: st) h Q := WP_getR (r := 457) rfl hs (by decide)
theorem S58_117 : WP d 58 117 (a0 :: some (.int x) :: lv) st h Q ↔ WP d 58 118 (a0 :: some (.int x) :: lv) (.int x :: st) h Q := WP_st rfl
theorem S58_118 {pr0 : Nat} {pi0 : Int32} (hs : shp pr0 = some (0, 6)) : WP (d + 1) 58 118 lv [.int pi0, .ref pr0] h Q ↔ WP d 45 0 [some (.ref pr0), some (.int pi0)] [] h (kR (d + 1) 58 121 lv [] Q) := WP_callVR rfl rfl rfl rfl rfl hs
theorem S58_121 : WP d 58 121 lv (.int x :: st) h Q ↔ if x = 0 then WP d 58 128 lv st h Q else WP d 58 124 lv st h Q := WP_br rfl
theorem S58_124 : WP d 58 124 lv st h Q ↔ WP d 58 125 lv (.int 1 :: st) h Q := WP_st rfl
theorem S58_125 : WP d 58 125 lv st h Q ↔ WP d 58 129 lv st h Q := WP_st rfl
theorem S58_128 : WP d 58 128 lv st h Q ↔ WP d 58 129 lv (.int 0 :: st) h Q := WP_st rfl
theorem S58_129 : WP d 58 129 lv [.int x] h Q ↔ Q (some (some (.int x))) h := WP_end rfl rfl rfl
theorem S58_130 : WP d 58 130 (some (.ref a) :: lv) st h Q ↔ WP d 58 131 (some (.ref a) :: lv) (.ref a :: st) h Q := WP_st rfl
theorem S58_131 (hs : shp a = some (0, 7)) : WP d 58 131 lv (.ref a :: st) h Q ↔ WP d 58 134 lv (.ref (RV a 2) :: st) h Q := WP_getR (r := 450) rfl hs (by decide)
theorem S58_134 : WP d 58 134 (a0 :: some (.int x) :: lv) st h Q ↔ WP d 58 135 (a0 :: some (.int x) :: lv) (.int x :: st) h Q := WP_st rfl
theorem S58_135 {pr0 : Nat} {pi0 : Int32} (hs : shp pr0 = some (0, 3)) : WP (d + 1) 58 135 lv [.int pi0, .ref pr0] h Q ↔ WP d 29 0 [some (.ref pr0), some (.int pi0), none, none] [] h (kR (d + 1) 58 138 lv [] Q) := WP_callVR rfl rfl rfl rfl rfl hs
theorem S58_138 : WP d 58 138 lv [.int x] h Q ↔ Q (some (some (.int x))) h := WP_end rfl rfl rfl
theorem S59_0 : WP d 59 0 (some (.ref a) :: lv) st h Q ↔ WP d 59 1 (some (.ref a) :: lv) (.ref a :: st) h Q := WP_st rfl
theorem S59_1 : WP d 59 1 (a0 :: some (.int x) :: lv) st h Q ↔ WP d 59 2 (a0 :: some (.int x) :: lv) (.int x :: st) h Q := WP_st rfl
theorem S59_2 {pr0 : Nat} {pi0 : Int32} (hs : shp pr0 = some (0, 7)) : WP (d + 1) 59 2 lv [.int pi0, .ref pr0] h Q ↔ WP d 90 0 [some (.ref pr0), some (.int pi0)] [] h (kR (d + 1) 59 5 lv [] Q) := WP_callVR rfl rfl rfl rfl rfl hs
theorem S59_5 : WP d 59 5 lv (.int x :: st) h Q ↔ if x = 0 then WP d 59 18 lv st h Q else WP d 59 8 lv st h Q := WP_br rfl
theorem S59_8 : WP d 59 8 (a0 :: a1 :: some (.int x) :: lv) st h Q ↔ WP d 59 9 (a0 :: a1 :: some (.int x) :: lv) (.int x :: st) h Q := WP_st rfl
theorem S59_9 : WP d 59 9 lv (.int x :: st) h Q ↔ if x < 0 then WP d 59 18 lv st h Q else WP d 59 12 lv st h Q := WP_br rfl
theorem S59_12 : WP d 59 12 (a0 :: a1 :: some (.int x) :: lv) st h Q ↔ WP d 59 13 (a0 :: a1 :: some (.int x) :: lv) (.int x :: st) h Q := WP_st rfl
theorem S59_13 : WP d 59 13 lv st h Q ↔ WP d 59 15 lv (.int 6 :: st) h Q := WP_st rfl
theorem S59_15 : WP d 59 15 lv (.int y :: .int x :: st) h Q ↔ if x ≤ y then WP d 59 26 lv st h Q else WP d 59 18 lv st h Q := WP_br rfl
theorem S59_18 : WP d 59 18 lv [] h Q ↔ Q none h := WP_end rfl rfl rfl
theorem S59_26 : WP d 59 26 (some (.ref a) :: lv) st h Q ↔ WP d 59 27 (some (.ref a) :: lv) (.ref a :: st) h Q := WP_st rfl
theorem S59_27 {pr0 : Nat} (hs : shp pr0 = some (0, 7)) : WP (d + 1) 59 27 lv [.ref pr0] h Q ↔ WP d 87 0 [some (.ref pr0)] [] h (kV (d + 1) 59 30 lv [] Q) := WP_callVV rfl rfl rfl rfl rfl hs
theorem S59_30 : WP d 59 30 (a0 :: a1 :: some (.int x) :: lv) st h Q ↔ WP d 59 31 (a0 :: a1 :: some (.int x) :: lv) (.int x :: st) h Q := WP_st rfl
theorem S59_31 : WP d 59 31 lv (.int x :: st) h Q ↔ if x = 0 then WP d 59 68 lv st h Q else if x = 1 then WP d 59 78 lv st h Q else if x = 2 then WP d 59 88 lv st h Q else if x = 3 then WP d 59 98 lv st h Q else if x = 4 then WP d 59 108 lv st h Q else if x = 5 then WP d 59 120 lv st h Q else WP d 59 132 lv st h Q := by
  by_cases e0 : x = 0
  · subst e0
    rw [if_pos rfl]
    exact WP_st rfl
  by_cases e1 : x = 1
  · subst e1
    rw [if_neg (by decide)]
    rw [if_pos rfl]
    exact WP_st rfl
  by_cases e2 : x = 2
  · subst e2
    rw [if_neg (by decide)]
    rw [if_neg (by decide)]
    rw [if_pos rfl]
    exact WP_st rfl
  by_cases e3 : x = 3
  · subst e3
    rw [if_neg (by decide)]
    rw [if_neg (by decide)]
    rw [if_neg (by decide)]
    rw [if_pos rfl]
    exact WP_st rfl
  by_cases e4 : x = 4
  · subst e4
    rw [if_neg (by decide)]
    rw [if_neg (by decide)]
    rw [if_neg (by decide)]
    rw [if_neg (by decide)]
    rw [if_pos rfl]
    exact WP_st rfl
  by_cases e5 : x = 5
  · subst e5
    rw [if_neg (by decide)]
    rw [if_neg (by decide)]
    rw [if_neg (by decide)]
    rw [if_neg (by decide)]
    rw [if_neg (by decide)]
    rw [if_pos rfl]
    exact WP_st rfl
  rw [if_neg e0, if_neg e1, if_neg e2, if_neg e3, if_neg e4, if_neg e5]
  have z0 : x.toInt ≠ 0 := fun q => e0 (Int32.toInt_inj.mp (q.trans (by decide)))
  have z1 : x.toInt ≠ 1 := fun q => e1 (Int32.toInt_inj.mp (q.trans (by decide)))
  have z2 : x.toInt ≠ 2 := fun q => e2 (Int32.toInt_inj.mp (q.trans (by decide)))
  have z3 : x.toInt ≠ 3 := fun q => e3 (Int32.toInt_inj.mp (q.trans (by decide)))
  have z4 : x.toInt ≠ 4 := fun q => e4 (Int32.toInt_inj.mp (q.trans (by decide)))
  have z5 : x.toInt ≠ 5 := fun q => e5 (Int32.toInt_inj.mp (q.trans (by decide)))
  exact WP_swD rfl (by omega) rfl
theorem S59_68 : WP d 59 68 (some (.ref a) :: lv) st h Q ↔ WP d 59 69 (some (.ref a) :: lv) (.ref a :: st) h Q := WP_st rfl
theorem S59_69 (hs : shp a = some (0, 7)) : WP d 59 69 lv (.ref a :: st) h Q ↔ WP d 59 72 lv (.ref (RV a 2) :: st) h Q := WP_getR (r := 450) rfl hs (by decide)
theorem S59_72 (hs : shp a = some (0, 3)) : WP d 59 72 lv (.ref a :: st) h Q ↔ WP d 59 75 lv (.ref (RV a 5) :: st) h Q := WP_getR (r := 197) rfl hs (by decide)
theorem S59_75 : WP d 59 75 (a0 :: some (.int x) :: lv) st h Q ↔ WP d 59 76 (a0 :: some (.int x) :: lv) (.int x :: st) h Q := WP_st rfl
theorem S59_76 (hi : okA 1 a i) : WP d 59 76 lv (.int i :: .ref a :: st) h Q ↔ WP d 59 77 lv (.int (h.1 a i.toNatClampNeg) :: st) h Q := WP_iald rfl hi
theorem S59_77 : WP d 59 77 lv [.int x] h Q ↔ Q (some (some (.int x))) h := WP_end rfl rfl rfl
theorem S59_78 : WP d 59 78 (some (.ref a) :: lv) st h Q ↔ WP d 59 79 (some (.ref a) :: lv) (.ref a :: st) h Q := WP_st rfl
theorem S59_79 (hs : shp a = some (0, 7)) : WP d 59 79 lv (.ref a :: st) h Q ↔ WP d 59 82 lv (.ref (RV a 2) :: st) h Q := WP_getR (r := 450) rfl hs (by decide)
theorem S59_82 (hs : shp a = some (0, 3)) : WP d 59 82 lv (.ref a :: st) h Q ↔ WP d 59 85 lv (.ref (RV a 6) :: st) h Q := WP_getR (r := 198) rfl hs (by decide)
theorem S59_85 : WP d 59 85 (a0 :: some (.int x) :: lv) st h Q ↔ WP d 59 86 (a0 :: some (.int x) :: lv) (.int x :: st) h Q := WP_st rfl
theorem S59_86 (hi : okA 1 a i) : WP d 59 86 lv (.int i :: .ref a :: st) h Q ↔ WP d 59 87 lv (.int (h.1 a i.toNatClampNeg) :: st) h Q := WP_iald rfl hi
theorem S59_87 : WP d 59 87 lv [.int x] h Q ↔ Q (some (some (.int x))) h := WP_end rfl rfl rfl
theorem S59_88 : WP d 59 88 (some (.ref a) :: lv) st h Q ↔ WP d 59 89 (some (.ref a) :: lv) (.ref a :: st) h Q := WP_st rfl
theorem S59_89 (hs : shp a = some (0, 7)) : WP d 59 89 lv (.ref a :: st) h Q ↔ WP d 59 92 lv (.ref (RV a 2) :: st) h Q := WP_getR (r := 450) rfl hs (by decide)
theorem S59_92 (hs : shp a = some (0, 3)) : WP d 59 92 lv (.ref a :: st) h Q ↔ WP d 59 95 lv (.ref (RV a 7) :: st) h Q := WP_getR (r := 199) rfl hs (by decide)
theorem S59_95 : WP d 59 95 (a0 :: some (.int x) :: lv) st h Q ↔ WP d 59 96 (a0 :: some (.int x) :: lv) (.int x :: st) h Q := WP_st rfl
theorem S59_96 (hi : okA 1 a i) : WP d 59 96 lv (.int i :: .ref a :: st) h Q ↔ WP d 59 97 lv (.int (h.1 a i.toNatClampNeg) :: st) h Q := WP_iald rfl hi
theorem S59_97 : WP d 59 97 lv [.int x] h Q ↔ Q (some (some (.int x))) h := WP_end rfl rfl rfl
theorem S59_98 : WP d 59 98 (some (.ref a) :: lv) st h Q ↔ WP d 59 99 (some (.ref a) :: lv) (.ref a :: st) h Q := WP_st rfl
theorem S59_99 (hs : shp a = some (0, 7)) : WP d 59 99 lv (.ref a :: st) h Q ↔ WP d 59 102 lv (.ref (RV a 2) :: st) h Q := WP_getR (r := 450) rfl hs (by decide)
theorem S59_102 (hs : shp a = some (0, 3)) : WP d 59 102 lv (.ref a :: st) h Q ↔ WP d 59 105 lv (.ref (RV a 8) :: st) h Q := WP_getR (r := 200) rfl hs (by decide)
theorem S59_105 : WP d 59 105 (a0 :: some (.int x) :: lv) st h Q ↔ WP d 59 106 (a0 :: some (.int x) :: lv) (.int x :: st) h Q := WP_st rfl
theorem S59_106 (hi : okA 1 a i) : WP d 59 106 lv (.int i :: .ref a :: st) h Q ↔ WP d 59 107 lv (.int (h.1 a i.toNatClampNeg) :: st) h Q := WP_iald rfl hi
theorem S59_107 : WP d 59 107 lv [.int x] h Q ↔ Q (some (some (.int x))) h := WP_end rfl rfl rfl
theorem S59_108 : WP d 59 108 (some (.ref a) :: lv) st h Q ↔ WP d 59 109 (some (.ref a) :: lv) (.ref a :: st) h Q := WP_st rfl
theorem S59_109 (hs : shp a = some (0, 7)) : WP d 59 109 lv (.ref a :: st) h Q ↔ WP d 59 112 lv (.ref (RV a 2) :: st) h Q := WP_getR (r := 450) rfl hs (by decide)
theorem S59_112 (hs : shp a = some (0, 3)) : WP d 59 112 lv (.ref a :: st) h Q ↔ WP d 59 115 lv (.int (h.1 a 4) :: st) h Q := WP_getI (r := 196) rfl hs (by decide)
theorem S59_115 : WP d 59 115 (a0 :: some (.int x) :: lv) st h Q ↔ WP d 59 116 (a0 :: some (.int x) :: lv) (.int x :: st) h Q := WP_st rfl
theorem S59_116 {pi0 : Int32} {pi1 : Int32} : WP (d + 1) 59 116 lv [.int pi1, .int pi0] h Q ↔ WP d 97 0 [some (.int pi0), some (.int pi1)] [] h (kR (d + 1) 59 119 lv [] Q) := WP_callSR rfl rfl rfl rfl rfl
theorem S59_119 : WP d 59 119 lv [.int x] h Q ↔ Q (some (some (.int x))) h := WP_end rfl rfl rfl
theorem S59_120 : WP d 59 120 (some (.ref a) :: lv) st h Q ↔ WP d 59 121 (some (.ref a) :: lv) (.ref a :: st) h Q := WP_st rfl
theorem S59_121 (hs : shp a = some (0, 7)) : WP d 59 121 lv (.ref a :: st) h Q ↔ WP d 59 124 lv (.ref (RV a 9) :: st) h Q := WP_getR (r := 457) rfl hs (by decide)
theorem S59_124 (hs : shp a = some (0, 6)) : WP d 59 124 lv (.ref a :: st) h Q ↔ WP d 59 127 lv (.int (h.1 a 1) :: st) h Q := WP_getI (r := 385) rfl hs (by decide)
theorem S59_127 : WP d 59 127 (a0 :: some (.int x) :: lv) st h Q ↔ WP d 59 128 (a0 :: some (.int x) :: lv) (.int x :: st) h Q := WP_st rfl
theorem S59_128 {pi0 : Int32} {pi1 : Int32} : WP (d + 1) 59 128 lv [.int pi1, .int pi0] h Q ↔ WP d 97 0 [some (.int pi0), some (.int pi1)] [] h (kR (d + 1) 59 131 lv [] Q) := WP_callSR rfl rfl rfl rfl rfl
theorem S59_131 : WP d 59 131 lv [.int x] h Q ↔ Q (some (some (.int x))) h := WP_end rfl rfl rfl
theorem S59_132 : WP d 59 132 (some (.ref a) :: lv) st h Q ↔ WP d 59 133 (some (.ref a) :: lv) (.ref a :: st) h Q := WP_st rfl
theorem S59_133 (hs : shp a = some (0, 7)) : WP d 59 133 lv (.ref a :: st) h Q ↔ WP d 59 136 lv (.ref (RV a 9) :: st) h Q := WP_getR (r := 457) rfl hs (by decide)
theorem S59_136 (hs : shp a = some (0, 6)) : WP d 59 136 lv (.ref a :: st) h Q ↔ WP d 59 139 lv (.int (h.1 a 3) :: st) h Q := WP_getI (r := 387) rfl hs (by decide)
theorem S59_139 : WP d 59 139 (a0 :: some (.int x) :: lv) st h Q ↔ WP d 59 140 (a0 :: some (.int x) :: lv) (.int x :: st) h Q := WP_st rfl
theorem S59_140 {pi0 : Int32} {pi1 : Int32} : WP (d + 1) 59 140 lv [.int pi1, .int pi0] h Q ↔ WP d 97 0 [some (.int pi0), some (.int pi1)] [] h (kR (d + 1) 59 143 lv [] Q) := WP_callSR rfl rfl rfl rfl rfl
theorem S59_143 : WP d 59 143 lv [.int x] h Q ↔ Q (some (some (.int x))) h := WP_end rfl rfl rfl
theorem S60_0 : WP d 60 0 (some (.ref a) :: lv) st h Q ↔ WP d 60 1 (some (.ref a) :: lv) (.ref a :: st) h Q := WP_st rfl
theorem S60_1 : WP d 60 1 (a0 :: some (.int x) :: lv) st h Q ↔ WP d 60 2 (a0 :: some (.int x) :: lv) (.int x :: st) h Q := WP_st rfl
theorem S60_2 {pr0 : Nat} {pi0 : Int32} (hs : shp pr0 = some (0, 7)) : WP (d + 1) 60 2 lv [.int pi0, .ref pr0] h Q ↔ WP d 89 0 [some (.ref pr0), some (.int pi0)] [] h (kR (d + 1) 60 5 lv [] Q) := WP_callVR rfl rfl rfl rfl rfl hs
theorem S60_5 : WP d 60 5 lv (.int x :: st) h Q ↔ if x = 0 then WP d 60 15 lv st h Q else WP d 60 8 lv st h Q := WP_br rfl
theorem S60_8 : WP d 60 8 (a0 :: a1 :: some (.int x) :: lv) st h Q ↔ WP d 60 9 (a0 :: a1 :: some (.int x) :: lv) (.int x :: st) h Q := WP_st rfl
theorem S60_9 {pi0 : Int32} : WP (d + 1) 60 9 lv [.int pi0] h Q ↔ WP d 93 0 [some (.int pi0)] [] h (kR (d + 1) 60 12 lv [] Q) := WP_callSR rfl rfl rfl rfl rfl
theorem S60_12 : WP d 60 12 lv (.int x :: st) h Q ↔ if x = 0 then WP d 60 15 lv st h Q else WP d 60 23 lv st h Q := WP_br rfl
theorem S60_15 : WP d 60 15 lv [] h Q ↔ Q none h := WP_end rfl rfl rfl
theorem S60_23 : WP d 60 23 (some (.ref a) :: lv) st h Q ↔ WP d 60 24 (some (.ref a) :: lv) (.ref a :: st) h Q := WP_st rfl
theorem S60_24 {pr0 : Nat} (hs : shp pr0 = some (0, 7)) : WP (d + 1) 60 24 lv [.ref pr0] h Q ↔ WP d 87 0 [some (.ref pr0)] [] h (kV (d + 1) 60 27 lv [] Q) := WP_callVV rfl rfl rfl rfl rfl hs
theorem S60_27 : WP d 60 27 (some (.ref a) :: lv) st h Q ↔ WP d 60 28 (some (.ref a) :: lv) (.ref a :: st) h Q := WP_st rfl
theorem S60_28 (hs : shp a = some (0, 7)) : WP d 60 28 lv (.ref a :: st) h Q ↔ WP d 60 31 lv (.ref (RV a 10) :: st) h Q := WP_getR (r := 458) rfl hs (by decide)
theorem S60_31 (hs : shp a = some (0, 1)) : WP d 60 31 lv (.ref a :: st) h Q ↔ WP d 60 34 lv (.ref (RV a 3) :: st) h Q := WP_getR (r := 67) rfl hs (by decide)
theorem S60_34 : WP d 60 34 (a0 :: some (.int x) :: lv) st h Q ↔ WP d 60 35 (a0 :: some (.int x) :: lv) (.int x :: st) h Q := WP_st rfl
theorem S60_35 (hi : okA 4 a i) : WP d 60 35 lv (.int i :: .ref a :: st) h Q ↔ WP d 60 36 lv (.long (h.2.1 a i.toNatClampNeg) :: st) h Q := WP_lald rfl hi
theorem S60_36 : WP d 60 36 (some (.ref a) :: lv) st h Q ↔ WP d 60 37 (some (.ref a) :: lv) (.ref a :: st) h Q := WP_st rfl
theorem S60_37 (hs : shp a = some (0, 7)) : WP d 60 37 lv (.ref a :: st) h Q ↔ WP d 60 40 lv (.ref (RV a 10) :: st) h Q := WP_getR (r := 458) rfl hs (by decide)
theorem S60_40 (hs : shp a = some (0, 1)) : WP d 60 40 lv (.ref a :: st) h Q ↔ WP d 60 43 lv (.long (h.2.1 a 4) :: st) h Q := WP_getL (r := 68) rfl hs (by decide)
theorem S60_43 : WP d 60 43 (a0 :: a1 :: some (.int x) :: lv) st h Q ↔ WP d 60 44 (a0 :: a1 :: some (.int x) :: lv) (.int x :: st) h Q := WP_st rfl
theorem S60_44 {pj0 : Int64} {pj1 : Int64} {pi0 : Int32} : WP (d + 1) 60 44 lv [.int pi0, .long pj1, .long pj0] h Q ↔ WP d 19 0 [some (.long pj0), none, some (.long pj1), none, some (.int pi0)] [] h (kR (d + 1) 60 47 lv [] Q) := WP_callSR rfl rfl rfl rfl rfl
theorem S60_47 : WP d 60 47 lv [.long u] h Q ↔ Q (some (some (.long u))) h := WP_end rfl rfl rfl
theorem S61_0 : WP d 61 0 (some (.ref a) :: lv) st h Q ↔ WP d 61 1 (some (.ref a) :: lv) (.ref a :: st) h Q := WP_st rfl
theorem S61_1 : WP d 61 1 (a0 :: some (.int x) :: lv) st h Q ↔ WP d 61 2 (a0 :: some (.int x) :: lv) (.int x :: st) h Q := WP_st rfl
theorem S61_2 {pr0 : Nat} {pi0 : Int32} (hs : shp pr0 = some (0, 7)) : WP (d + 1) 61 2 lv [.int pi0, .ref pr0] h Q ↔ WP d 89 0 [some (.ref pr0), some (.int pi0)] [] h (kR (d + 1) 61 5 lv [] Q) := WP_callVR rfl rfl rfl rfl rfl hs
theorem S61_5 : WP d 61 5 lv (.int x :: st) h Q ↔ if x = 0 then WP d 61 8 lv st h Q else WP d 61 11 lv st h Q := WP_br rfl
theorem S61_8 : WP d 61 8 lv st h Q ↔ WP d 61 10 lv (.int (-1000000) :: st) h Q := WP_st rfl
theorem S61_10 : WP d 61 10 lv [.int x] h Q ↔ Q (some (some (.int x))) h := WP_end rfl rfl rfl
theorem S61_11 : WP d 61 11 (some (.ref a) :: lv) st h Q ↔ WP d 61 12 (some (.ref a) :: lv) (.ref a :: st) h Q := WP_st rfl
theorem S61_12 {pr0 : Nat} (hs : shp pr0 = some (0, 7)) : WP (d + 1) 61 12 lv [.ref pr0] h Q ↔ WP d 87 0 [some (.ref pr0)] [] h (kV (d + 1) 61 15 lv [] Q) := WP_callVV rfl rfl rfl rfl rfl hs
theorem S61_15 : WP d 61 15 lv st h Q ↔ WP d 61 18 lv (.long 2 :: st) h Q := WP_st rfl
theorem S61_18 : WP d 61 18 (some (.ref a) :: lv) st h Q ↔ WP d 61 19 (some (.ref a) :: lv) (.ref a :: st) h Q := WP_st rfl
theorem S61_19 (hs : shp a = some (0, 7)) : WP d 61 19 lv (.ref a :: st) h Q ↔ WP d 61 22 lv (.ref (RV a 10) :: st) h Q := WP_getR (r := 458) rfl hs (by decide)
theorem S61_22 (hs : shp a = some (0, 1)) : WP d 61 22 lv (.ref a :: st) h Q ↔ WP d 61 25 lv (.ref (RV a 3) :: st) h Q := WP_getR (r := 67) rfl hs (by decide)
theorem S61_25 : WP d 61 25 (a0 :: some (.int x) :: lv) st h Q ↔ WP d 61 26 (a0 :: some (.int x) :: lv) (.int x :: st) h Q := WP_st rfl
theorem S61_26 (hi : okA 4 a i) : WP d 61 26 lv (.int i :: .ref a :: st) h Q ↔ WP d 61 27 lv (.long (h.2.1 a i.toNatClampNeg) :: st) h Q := WP_lald rfl hi
theorem S61_27 : WP d 61 27 lv (.long w :: .long u :: st) h Q ↔ WP d 61 28 lv (.long (u * w) :: st) h Q := WP_st rfl
theorem S61_28 : WP d 61 28 (some (.ref a) :: lv) st h Q ↔ WP d 61 29 (some (.ref a) :: lv) (.ref a :: st) h Q := WP_st rfl
theorem S61_29 (hs : shp a = some (0, 7)) : WP d 61 29 lv (.ref a :: st) h Q ↔ WP d 61 32 lv (.ref (RV a 10) :: st) h Q := WP_getR (r := 458) rfl hs (by decide)
theorem S61_32 (hs : shp a = some (0, 1)) : WP d 61 32 lv (.ref a :: st) h Q ↔ WP d 61 35 lv (.long (h.2.1 a 4) :: st) h Q := WP_getL (r := 68) rfl hs (by decide)
theorem S61_35 : WP d 61 35 lv (.long w :: .long u :: st) h Q ↔ WP d 61 36 lv (.long (u + w) :: st) h Q := WP_st rfl
theorem S61_36 : WP d 61 36 lv st h Q ↔ WP d 61 39 lv (.long 2 :: st) h Q := WP_st rfl
theorem S61_39 : WP d 61 39 (some (.ref a) :: lv) st h Q ↔ WP d 61 40 (some (.ref a) :: lv) (.ref a :: st) h Q := WP_st rfl
theorem S61_40 (hs : shp a = some (0, 7)) : WP d 61 40 lv (.ref a :: st) h Q ↔ WP d 61 43 lv (.ref (RV a 10) :: st) h Q := WP_getR (r := 458) rfl hs (by decide)
theorem S61_43 (hs : shp a = some (0, 1)) : WP d 61 43 lv (.ref a :: st) h Q ↔ WP d 61 46 lv (.long (h.2.1 a 4) :: st) h Q := WP_getL (r := 68) rfl hs (by decide)
theorem S61_46 : WP d 61 46 lv (.long w :: .long u :: st) h Q ↔ WP d 61 47 lv (.long (u * w) :: st) h Q := WP_st rfl
theorem S61_47 {pj0 : Int64} {pj1 : Int64} : WP (d + 1) 61 47 lv [.long pj1, .long pj0] h Q ↔ WP d 21 0 [some (.long pj0), none, some (.long pj1), none] [] h (kR (d + 1) 61 50 lv [] Q) := WP_callSR rfl rfl rfl rfl rfl
theorem S61_50 : WP d 61 50 lv (.long u :: st) h Q ↔ WP d 61 51 lv (.int u.toInt32 :: st) h Q := WP_st rfl
theorem S61_51 : WP d 61 51 lv [.int x] h Q ↔ Q (some (some (.int x))) h := WP_end rfl rfl rfl
theorem S62_0 : WP d 62 0 (some (.ref a) :: lv) st h Q ↔ WP d 62 1 (some (.ref a) :: lv) (.ref a :: st) h Q := WP_st rfl
theorem S62_1 : WP d 62 1 (a0 :: some (.int x) :: lv) st h Q ↔ WP d 62 2 (a0 :: some (.int x) :: lv) (.int x :: st) h Q := WP_st rfl
theorem S62_2 {pr0 : Nat} {pi0 : Int32} (hs : shp pr0 = some (0, 7)) : WP (d + 1) 62 2 lv [.int pi0, .ref pr0] h Q ↔ WP d 91 0 [some (.ref pr0), some (.int pi0)] [] h (kR (d + 1) 62 5 lv [] Q) := WP_callVR rfl rfl rfl rfl rfl hs
theorem S62_5 : WP d 62 5 lv (.int x :: st) h Q ↔ if x = 0 then WP d 62 15 lv st h Q else WP d 62 8 lv st h Q := WP_br rfl
theorem S62_8 : WP d 62 8 (a0 :: a1 :: some (.int x) :: lv) st h Q ↔ WP d 62 9 (a0 :: a1 :: some (.int x) :: lv) (.int x :: st) h Q := WP_st rfl
theorem S62_9 {pi0 : Int32} : WP (d + 1) 62 9 lv [.int pi0] h Q ↔ WP d 93 0 [some (.int pi0)] [] h (kR (d + 1) 62 12 lv [] Q) := WP_callSR rfl rfl rfl rfl rfl
theorem S62_12 : WP d 62 12 lv (.int x :: st) h Q ↔ if x = 0 then WP d 62 15 lv st h Q else WP d 62 23 lv st h Q := WP_br rfl
theorem S62_15 : WP d 62 15 lv [] h Q ↔ Q none h := WP_end rfl rfl rfl
theorem S62_23 : WP d 62 23 (some (.ref a) :: lv) st h Q ↔ WP d 62 24 (some (.ref a) :: lv) (.ref a :: st) h Q := WP_st rfl
theorem S62_24 {pr0 : Nat} (hs : shp pr0 = some (0, 7)) : WP (d + 1) 62 24 lv [.ref pr0] h Q ↔ WP d 87 0 [some (.ref pr0)] [] h (kV (d + 1) 62 27 lv [] Q) := WP_callVV rfl rfl rfl rfl rfl hs
theorem S62_27 : WP d 62 27 (some (.ref a) :: lv) st h Q ↔ WP d 62 28 (some (.ref a) :: lv) (.ref a :: st) h Q := WP_st rfl
theorem S62_28 (hs : shp a = some (0, 7)) : WP d 62 28 lv (.ref a :: st) h Q ↔ WP d 62 31 lv (.ref (RV a 10) :: st) h Q := WP_getR (r := 458) rfl hs (by decide)
theorem S62_31 : WP d 62 31 (some (.ref a) :: lv) st h Q ↔ WP d 62 32 (some (.ref a) :: lv) (.ref a :: st) h Q := WP_st rfl
theorem S62_32 (hs : shp a = some (0, 7)) : WP d 62 32 lv (.ref a :: st) h Q ↔ WP d 62 35 lv (.ref (RV a 2) :: st) h Q := WP_getR (r := 450) rfl hs (by decide)
theorem S62_35 : WP d 62 35 (a0 :: some (.int x) :: lv) st h Q ↔ WP d 62 36 (a0 :: some (.int x) :: lv) (.int x :: st) h Q := WP_st rfl
theorem S62_36 {pr0 : Nat} {pr1 : Nat} {pi0 : Int32} (hs : shp pr0 = some (0, 1)) : WP (d + 1) 62 36 lv [.int pi0, .ref pr1, .ref pr0] h Q ↔ WP d 4 0 [some (.ref pr0), some (.ref pr1), some (.int pi0)] [] h (kR (d + 1) 62 39 lv [] Q) := WP_callVR rfl rfl rfl rfl rfl hs
theorem S62_39 : WP d 62 39 (some (.ref a) :: lv) st h Q ↔ WP d 62 40 (some (.ref a) :: lv) (.ref a :: st) h Q := WP_st rfl
theorem S62_40 (hs : shp a = some (0, 7)) : WP d 62 40 lv (.ref a :: st) h Q ↔ WP d 62 43 lv (.ref (RV a 10) :: st) h Q := WP_getR (r := 458) rfl hs (by decide)
theorem S62_43 (hs : shp a = some (0, 1)) : WP d 62 43 lv (.ref a :: st) h Q ↔ WP d 62 46 lv (.long (h.2.1 a 4) :: st) h Q := WP_getL (r := 68) rfl hs (by decide)
theorem S62_46 : WP d 62 46 (a0 :: a1 :: some (.int x) :: lv) st h Q ↔ WP d 62 47 (a0 :: a1 :: some (.int x) :: lv) (.int x :: st) h Q := WP_st rfl
theorem S62_47 {pj0 : Int64} {pj1 : Int64} {pi0 : Int32} : WP (d + 1) 62 47 lv [.int pi0, .long pj1, .long pj0] h Q ↔ WP d 19 0 [some (.long pj0), none, some (.long pj1), none, some (.int pi0)] [] h (kR (d + 1) 62 50 lv [] Q) := WP_callSR rfl rfl rfl rfl rfl
theorem S62_50 : WP d 62 50 lv [.long u] h Q ↔ Q (some (some (.long u))) h := WP_end rfl rfl rfl
theorem S63_0 : WP d 63 0 (a0 :: some (.int x) :: lv) st h Q ↔ WP d 63 1 (a0 :: some (.int x) :: lv) (.int x :: st) h Q := WP_st rfl
theorem S63_1 {pi0 : Int32} : WP (d + 1) 63 1 lv [.int pi0] h Q ↔ WP d 93 0 [some (.int pi0)] [] h (kR (d + 1) 63 4 lv [] Q) := WP_callSR rfl rfl rfl rfl rfl
theorem S63_4 : WP d 63 4 lv (.int x :: st) h Q ↔ if x = 0 then WP d 63 7 lv st h Q else WP d 63 15 lv st h Q := WP_br rfl
theorem S63_7 : WP d 63 7 lv [] h Q ↔ Q none h := WP_end rfl rfl rfl
theorem S63_15 : WP d 63 15 (some (.ref a) :: lv) st h Q ↔ WP d 63 16 (some (.ref a) :: lv) (.ref a :: st) h Q := WP_st rfl
theorem S63_16 {pr0 : Nat} (hs : shp pr0 = some (0, 7)) : WP (d + 1) 63 16 lv [.ref pr0] h Q ↔ WP d 87 0 [some (.ref pr0)] [] h (kV (d + 1) 63 19 lv [] Q) := WP_callVV rfl rfl rfl rfl rfl hs
theorem S63_19 : WP d 63 19 (some (.ref a) :: lv) st h Q ↔ WP d 63 20 (some (.ref a) :: lv) (.ref a :: st) h Q := WP_st rfl
theorem S63_20 (hs : shp a = some (0, 7)) : WP d 63 20 lv (.ref a :: st) h Q ↔ WP d 63 23 lv (.ref (RV a 10) :: st) h Q := WP_getR (r := 458) rfl hs (by decide)
theorem S63_23 : WP d 63 23 (some (.ref a) :: lv) st h Q ↔ WP d 63 24 (some (.ref a) :: lv) (.ref a :: st) h Q := WP_st rfl
theorem S63_24 (hs : shp a = some (0, 7)) : WP d 63 24 lv (.ref a :: st) h Q ↔ WP d 63 27 lv (.ref (RV a 2) :: st) h Q := WP_getR (r := 450) rfl hs (by decide)
theorem S63_27 {pr0 : Nat} {pr1 : Nat} (hs : shp pr0 = some (0, 1)) : WP (d + 1) 63 27 lv [.ref pr1, .ref pr0] h Q ↔ WP d 5 0 [some (.ref pr0), some (.ref pr1), none, none, none] [] h (kR (d + 1) 63 30 lv [] Q) := WP_callVR rfl rfl rfl rfl rfl hs
theorem S63_30 : WP d 63 30 (some (.ref a) :: lv) st h Q ↔ WP d 63 31 (some (.ref a) :: lv) (.ref a :: st) h Q := WP_st rfl
theorem S63_31 (hs : shp a = some (0, 7)) : WP d 63 31 lv (.ref a :: st) h Q ↔ WP d 63 34 lv (.ref (RV a 10) :: st) h Q := WP_getR (r := 458) rfl hs (by decide)
theorem S63_34 (hs : shp a = some (0, 1)) : WP d 63 34 lv (.ref a :: st) h Q ↔ WP d 63 37 lv (.long (h.2.1 a 4) :: st) h Q := WP_getL (r := 68) rfl hs (by decide)
theorem S63_37 : WP d 63 37 (some (.ref a) :: lv) st h Q ↔ WP d 63 38 (some (.ref a) :: lv) (.ref a :: st) h Q := WP_st rfl
theorem S63_38 (hs : shp a = some (0, 7)) : WP d 63 38 lv (.ref a :: st) h Q ↔ WP d 63 41 lv (.ref (RV a 10) :: st) h Q := WP_getR (r := 458) rfl hs (by decide)
theorem S63_41 (hs : shp a = some (0, 1)) : WP d 63 41 lv (.ref a :: st) h Q ↔ WP d 63 44 lv (.long (h.2.1 a 4) :: st) h Q := WP_getL (r := 68) rfl hs (by decide)
theorem S63_44 : WP d 63 44 lv (.long w :: .long u :: st) h Q ↔ WP d 63 45 lv (.long (u * w) :: st) h Q := WP_st rfl
theorem S63_45 : WP d 63 45 (a0 :: some (.int x) :: lv) st h Q ↔ WP d 63 46 (a0 :: some (.int x) :: lv) (.int x :: st) h Q := WP_st rfl
theorem S63_46 {pj0 : Int64} {pj1 : Int64} {pi0 : Int32} : WP (d + 1) 63 46 lv [.int pi0, .long pj1, .long pj0] h Q ↔ WP d 19 0 [some (.long pj0), none, some (.long pj1), none, some (.int pi0)] [] h (kR (d + 1) 63 49 lv [] Q) := WP_callSR rfl rfl rfl rfl rfl
theorem S63_49 : WP d 63 49 lv [.long u] h Q ↔ Q (some (some (.long u))) h := WP_end rfl rfl rfl
theorem S64_0 : WP d 64 0 (some (.ref a) :: lv) st h Q ↔ WP d 64 1 (some (.ref a) :: lv) (.ref a :: st) h Q := WP_st rfl
theorem S64_1 {pr0 : Nat} (hs : shp pr0 = some (0, 7)) : WP (d + 1) 64 1 lv [.ref pr0] h Q ↔ WP d 87 0 [some (.ref pr0)] [] h (kV (d + 1) 64 4 lv [] Q) := WP_callVV rfl rfl rfl rfl rfl hs
theorem S64_4 : WP d 64 4 (some (.ref a) :: lv) st h Q ↔ WP d 64 5 (some (.ref a) :: lv) (.ref a :: st) h Q := WP_st rfl
theorem S64_5 (hs : shp a = some (0, 7)) : WP d 64 5 lv (.ref a :: st) h Q ↔ WP d 64 8 lv (.ref (RV a 9) :: st) h Q := WP_getR (r := 457) rfl hs (by decide)
theorem S64_8 (hs : shp a = some (0, 6)) : WP d 64 8 lv (.ref a :: st) h Q ↔ WP d 64 11 lv (.int (h.1 a 2) :: st) h Q := WP_getI (r := 386) rfl hs (by decide)
theorem S64_11 {pi0 : Int32} : WP (d + 1) 64 11 lv [.int pi0] h Q ↔ WP d 199 0 [some (.int pi0)] [] h (kR (d + 1) 64 14 lv [] Q) := WP_callSR rfl rfl rfl rfl rfl
theorem S64_14 : WP d 64 14 lv [.int x] h Q ↔ Q (some (some (.int x))) h := WP_end rfl rfl rfl
theorem S65_0 : WP d 65 0 (some (.ref a) :: lv) st h Q ↔ WP d 65 1 (some (.ref a) :: lv) (.ref a :: st) h Q := WP_st rfl
theorem S65_1 {pr0 : Nat} (hs : shp pr0 = some (0, 7)) : WP (d + 1) 65 1 lv [.ref pr0] h Q ↔ WP d 87 0 [some (.ref pr0)] [] h (kV (d + 1) 65 4 lv [] Q) := WP_callVV rfl rfl rfl rfl rfl hs
theorem S65_4 : WP d 65 4 (some (.ref a) :: lv) st h Q ↔ WP d 65 5 (some (.ref a) :: lv) (.ref a :: st) h Q := WP_st rfl
theorem S65_5 : WP d 65 5 (a0 :: some (.int x) :: lv) st h Q ↔ WP d 65 6 (a0 :: some (.int x) :: lv) (.int x :: st) h Q := WP_st rfl
theorem S65_6 {pr0 : Nat} {pi0 : Int32} (hs : shp pr0 = some (0, 7)) : WP (d + 1) 65 6 lv [.int pi0, .ref pr0] h Q ↔ WP d 92 0 [some (.ref pr0), some (.int pi0)] [] h (kR (d + 1) 65 9 lv [] Q) := WP_callVR rfl rfl rfl rfl rfl hs
theorem S65_9 : WP d 65 9 lv (.int x :: st) h Q ↔ if x = 0 then WP d 65 27 lv st h Q else WP d 65 12 lv st h Q := WP_br rfl
theorem S65_12 : WP d 65 12 (some (.ref a) :: lv) st h Q ↔ WP d 65 13 (some (.ref a) :: lv) (.ref a :: st) h Q := WP_st rfl
theorem S65_13 (hs : shp a = some (0, 7)) : WP d 65 13 lv (.ref a :: st) h Q ↔ WP d 65 16 lv (.ref (RV a 9) :: st) h Q := WP_getR (r := 457) rfl hs (by decide)
theorem S65_16 : WP d 65 16 (some (.ref a) :: lv) st h Q ↔ WP d 65 17 (some (.ref a) :: lv) (.ref a :: st) h Q := WP_st rfl
theorem S65_17 (hs : shp a = some (0, 7)) : WP d 65 17 lv (.ref a :: st) h Q ↔ WP d 65 20 lv (.ref (RV a 2) :: st) h Q := WP_getR (r := 450) rfl hs (by decide)
theorem S65_20 : WP d 65 20 (a0 :: some (.int x) :: lv) st h Q ↔ WP d 65 21 (a0 :: some (.int x) :: lv) (.int x :: st) h Q := WP_st rfl
theorem S65_21 {pr0 : Nat} {pr1 : Nat} {pi0 : Int32} (hs : shp pr0 = some (0, 6)) : WP (d + 1) 65 21 lv [.int pi0, .ref pr1, .ref pr0] h Q ↔ WP d 47 0 [some (.ref pr0), some (.ref pr1), some (.int pi0)] [] h (kR (d + 1) 65 24 lv [] Q) := WP_callVR rfl rfl rfl rfl rfl hs
theorem S65_24 : WP d 65 24 lv st h Q ↔ WP d 65 28 lv st h Q := WP_st rfl
theorem S65_27 : WP d 65 27 lv st h Q ↔ WP d 65 28 lv (.int (-1) :: st) h Q := WP_st rfl
theorem S65_28 : WP d 65 28 lv [.int x] h Q ↔ Q (some (some (.int x))) h := WP_end rfl rfl rfl
theorem S66_0 : WP d 66 0 (some (.ref a) :: lv) st h Q ↔ WP d 66 1 (some (.ref a) :: lv) (.ref a :: st) h Q := WP_st rfl
theorem S66_1 {pr0 : Nat} (hs : shp pr0 = some (0, 7)) : WP (d + 1) 66 1 lv [.ref pr0] h Q ↔ WP d 87 0 [some (.ref pr0)] [] h (kV (d + 1) 66 4 lv [] Q) := WP_callVV rfl rfl rfl rfl rfl hs
theorem S66_4 : WP d 66 4 (some (.ref a) :: lv) st h Q ↔ WP d 66 5 (some (.ref a) :: lv) (.ref a :: st) h Q := WP_st rfl
theorem S66_5 : WP d 66 5 (a0 :: some (.int x) :: lv) st h Q ↔ WP d 66 6 (a0 :: some (.int x) :: lv) (.int x :: st) h Q := WP_st rfl
theorem S66_6 {pr0 : Nat} {pi0 : Int32} (hs : shp pr0 = some (0, 7)) : WP (d + 1) 66 6 lv [.int pi0, .ref pr0] h Q ↔ WP d 92 0 [some (.ref pr0), some (.int pi0)] [] h (kR (d + 1) 66 9 lv [] Q) := WP_callVR rfl rfl rfl rfl rfl hs
theorem S66_9 : WP d 66 9 lv (.int x :: st) h Q ↔ if x = 0 then WP d 66 27 lv st h Q else WP d 66 12 lv st h Q := WP_br rfl
theorem S66_12 : WP d 66 12 (some (.ref a) :: lv) st h Q ↔ WP d 66 13 (some (.ref a) :: lv) (.ref a :: st) h Q := WP_st rfl
theorem S66_13 (hs : shp a = some (0, 7)) : WP d 66 13 lv (.ref a :: st) h Q ↔ WP d 66 16 lv (.ref (RV a 9) :: st) h Q := WP_getR (r := 457) rfl hs (by decide)
theorem S66_16 : WP d 66 16 (some (.ref a) :: lv) st h Q ↔ WP d 66 17 (some (.ref a) :: lv) (.ref a :: st) h Q := WP_st rfl
theorem S66_17 (hs : shp a = some (0, 7)) : WP d 66 17 lv (.ref a :: st) h Q ↔ WP d 66 20 lv (.ref (RV a 2) :: st) h Q := WP_getR (r := 450) rfl hs (by decide)
theorem S66_20 : WP d 66 20 (a0 :: some (.int x) :: lv) st h Q ↔ WP d 66 21 (a0 :: some (.int x) :: lv) (.int x :: st) h Q := WP_st rfl
theorem S66_21 {pr0 : Nat} {pr1 : Nat} {pi0 : Int32} (hs : shp pr0 = some (0, 6)) : WP (d + 1) 66 21 lv [.int pi0, .ref pr1, .ref pr0] h Q ↔ WP d 48 0 [some (.ref pr0), some (.ref pr1), some (.int pi0)] [] h (kR (d + 1) 66 24 lv [] Q) := WP_callVR rfl rfl rfl rfl rfl hs
theorem S66_24 : WP d 66 24 lv st h Q ↔ WP d 66 29 lv st h Q := WP_st rfl
theorem S66_27 : WP d 66 27 lv st h Q ↔ WP d 66 29 lv (.int (-1000000) :: st) h Q := WP_st rfl
theorem S66_29 : WP d 66 29 lv [.int x] h Q ↔ Q (some (some (.int x))) h := WP_end rfl rfl rfl
theorem S67_0 : WP d 67 0 (some (.ref a) :: lv) st h Q ↔ WP d 67 1 (some (.ref a) :: lv) (.ref a :: st) h Q := WP_st rfl
theorem S67_1 {pr0 : Nat} (hs : shp pr0 = some (0, 7)) : WP (d + 1) 67 1 lv [.ref pr0] h Q ↔ WP d 87 0 [some (.ref pr0)] [] h (kV (d + 1) 67 4 lv [] Q) := WP_callVV rfl rfl rfl rfl rfl hs
theorem S67_4 : WP d 67 4 lv st h Q ↔ WP d 67 5 lv (.int (-1) :: st) h Q := WP_st rfl
theorem S67_5 : WP d 67 5 (a0 :: a1 :: lv) (.int x :: st) h Q ↔ WP d 67 6 (kl a0 :: some (.int x) :: lv) st h Q := WP_st (by rfl)
theorem S67_6 : WP d 67 6 lv st h Q ↔ WP d 67 7 lv (.int (-1) :: st) h Q := WP_st rfl
theorem S67_7 : WP d 67 7 (a0 :: a1 :: a2v :: lv) (.int x :: st) h Q ↔ WP d 67 8 (a0 :: kl a1 :: some (.int x) :: lv) st h Q := WP_st (by rfl)
theorem S67_8 : WP d 67 8 lv st h Q ↔ WP d 67 9 lv (.int 0 :: st) h Q := WP_st rfl
theorem S67_9 : WP d 67 9 (a0 :: a1 :: a2v :: a3 :: lv) (.int x :: st) h Q ↔ WP d 67 10 (a0 :: a1 :: kl a2v :: some (.int x) :: lv) st h Q := WP_st (by rfl)
theorem S67_10 : WP d 67 10 (a0 :: a1 :: a2v :: some (.int x) :: lv) st h Q ↔ WP d 67 11 (a0 :: a1 :: a2v :: some (.int x) :: lv) (.int x :: st) h Q := WP_st rfl
theorem S67_11 : WP d 67 11 (some (.ref a) :: lv) st h Q ↔ WP d 67 12 (some (.ref a) :: lv) (.ref a :: st) h Q := WP_st rfl
theorem S67_12 (hs : shp a = some (0, 7)) : WP d 67 12 lv (.ref a :: st) h Q ↔ WP d 67 15 lv (.ref (RV a 2) :: st) h Q := WP_getR (r := 450) rfl hs (by decide)
theorem S67_15 (hs : shp a = some (0, 3)) : WP d 67 15 lv (.ref a :: st) h Q ↔ WP d 67 18 lv (.int (h.1 a 3) :: st) h Q := WP_getI (r := 195) rfl hs (by decide)
theorem S67_18 : WP d 67 18 lv (.int y :: .int x :: st) h Q ↔ if y ≤ x then WP d 67 66 lv st h Q else WP d 67 21 lv st h Q := WP_br rfl
theorem S67_21 : WP d 67 21 (some (.ref a) :: lv) st h Q ↔ WP d 67 22 (some (.ref a) :: lv) (.ref a :: st) h Q := WP_st rfl
theorem S67_22 : WP d 67 22 (a0 :: a1 :: a2v :: some (.int x) :: lv) st h Q ↔ WP d 67 23 (a0 :: a1 :: a2v :: some (.int x) :: lv) (.int x :: st) h Q := WP_st rfl
theorem S67_23 {pr0 : Nat} {pi0 : Int32} (hs : shp pr0 = some (0, 7)) : WP (d + 1) 67 23 lv [.int pi0, .ref pr0] h Q ↔ WP d 92 0 [some (.ref pr0), some (.int pi0)] [] h (kR (d + 1) 67 26 lv [] Q) := WP_callVR rfl rfl rfl rfl rfl hs
theorem S67_26 : WP d 67 26 lv (.int x :: st) h Q ↔ if x = 0 then WP d 67 29 lv st h Q else WP d 67 32 lv st h Q := WP_br rfl
theorem S67_29 : WP d 67 29 lv st h Q ↔ WP d 67 60 lv st h Q := WP_st rfl
theorem S67_32 : WP d 67 32 (some (.ref a) :: lv) st h Q ↔ WP d 67 33 (some (.ref a) :: lv) (.ref a :: st) h Q := WP_st rfl
theorem S67_33 (hs : shp a = some (0, 7)) : WP d 67 33 lv (.ref a :: st) h Q ↔ WP d 67 36 lv (.ref (RV a 9) :: st) h Q := WP_getR (r := 457) rfl hs (by decide)
theorem S67_36 : WP d 67 36 (some (.ref a) :: lv) st h Q ↔ WP d 67 37 (some (.ref a) :: lv) (.ref a :: st) h Q := WP_st rfl
theorem S67_37 (hs : shp a = some (0, 7)) : WP d 67 37 lv (.ref a :: st) h Q ↔ WP d 67 40 lv (.ref (RV a 2) :: st) h Q := WP_getR (r := 450) rfl hs (by decide)
theorem S67_40 : WP d 67 40 (a0 :: a1 :: a2v :: some (.int x) :: lv) st h Q ↔ WP d 67 41 (a0 :: a1 :: a2v :: some (.int x) :: lv) (.int x :: st) h Q := WP_st rfl
theorem S67_41 {pr0 : Nat} {pr1 : Nat} {pi0 : Int32} (hs : shp pr0 = some (0, 6)) : WP (d + 1) 67 41 lv [.int pi0, .ref pr1, .ref pr0] h Q ↔ WP d 48 0 [some (.ref pr0), some (.ref pr1), some (.int pi0)] [] h (kR (d + 1) 67 44 lv [] Q) := WP_callVR rfl rfl rfl rfl rfl hs
theorem S67_44 {pi0 : Int32} : WP (d + 1) 67 44 lv [.int pi0] h Q ↔ WP d 201 0 [some (.int pi0)] [] h (kR (d + 1) 67 47 lv [] Q) := WP_callSR rfl rfl rfl rfl rfl
theorem S67_47 : WP d 67 47 (a0 :: a1 :: a2v :: a3 :: a4 :: lv) (.int x :: st) h Q ↔ WP d 67 49 (a0 :: a1 :: a2v :: kl a3 :: some (.int x) :: lv) st h Q := WP_st (by rfl)
theorem S67_49 : WP d 67 49 (a0 :: a1 :: a2v :: a3 :: some (.int x) :: lv) st h Q ↔ WP d 67 51 (a0 :: a1 :: a2v :: a3 :: some (.int x) :: lv) (.int x :: st) h Q := WP_st rfl
theorem S67_51 : WP d 67 51 (a0 :: a1 :: some (.int x) :: lv) st h Q ↔ WP d 67 52 (a0 :: a1 :: some (.int x) :: lv) (.int x :: st) h Q := WP_st rfl
theorem S67_52 : WP d 67 52 lv (.int y :: .int x :: st) h Q ↔ if x ≤ y then WP d 67 60 lv st h Q else WP d 67 55 lv st h Q := WP_br rfl
theorem S67_55 : WP d 67 55 (a0 :: a1 :: a2v :: some (.int x) :: lv) st h Q ↔ WP d 67 56 (a0 :: a1 :: a2v :: some (.int x) :: lv) (.int x :: st) h Q := WP_st rfl
theorem S67_56 : WP d 67 56 (a0 :: a1 :: lv) (.int x :: st) h Q ↔ WP d 67 57 (kl a0 :: some (.int x) :: lv) st h Q := WP_st (by rfl)
theorem S67_57 : WP d 67 57 (a0 :: a1 :: a2v :: a3 :: some (.int x) :: lv) st h Q ↔ WP d 67 59 (a0 :: a1 :: a2v :: a3 :: some (.int x) :: lv) (.int x :: st) h Q := WP_st rfl
theorem S67_59 : WP d 67 59 (a0 :: a1 :: a2v :: lv) (.int x :: st) h Q ↔ WP d 67 60 (a0 :: kl a1 :: some (.int x) :: lv) st h Q := WP_st (by rfl)
theorem S67_60 : WP d 67 60 (a0 :: a1 :: a2v :: some (.int x) :: lv) st h Q ↔ WP d 67 63 (a0 :: a1 :: kl a2v :: some (.int (x + 1)) :: lv) st h Q := WP_st (by rfl)
theorem S67_63 : WP d 67 63 lv st h Q ↔ WP d 67 10 lv st h Q := WP_st rfl
theorem S67_66 : WP d 67 66 (a0 :: some (.int x) :: lv) st h Q ↔ WP d 67 67 (a0 :: some (.int x) :: lv) (.int x :: st) h Q := WP_st rfl
theorem S67_67 : WP d 67 67 lv [.int x] h Q ↔ Q (some (some (.int x))) h := WP_end rfl rfl rfl
theorem S68_0 : WP d 68 0 (some (.ref a) :: lv) st h Q ↔ WP d 68 1 (some (.ref a) :: lv) (.ref a :: st) h Q := WP_st rfl
theorem S68_1 : WP d 68 1 (a0 :: some (.int x) :: lv) st h Q ↔ WP d 68 2 (a0 :: some (.int x) :: lv) (.int x :: st) h Q := WP_st rfl
theorem S68_2 {pr0 : Nat} {pi0 : Int32} (hs : shp pr0 = some (0, 7)) : WP (d + 1) 68 2 lv [.int pi0, .ref pr0] h Q ↔ WP d 91 0 [some (.ref pr0), some (.int pi0)] [] h (kR (d + 1) 68 5 lv [] Q) := WP_callVR rfl rfl rfl rfl rfl hs
theorem S68_5 : WP d 68 5 lv (.int x :: st) h Q ↔ if x = 0 then WP d 68 15 lv st h Q else WP d 68 8 lv st h Q := WP_br rfl
theorem S68_8 : WP d 68 8 (a0 :: a1 :: some (.int x) :: lv) st h Q ↔ WP d 68 9 (a0 :: a1 :: some (.int x) :: lv) (.int x :: st) h Q := WP_st rfl
theorem S68_9 {pi0 : Int32} : WP (d + 1) 68 9 lv [.int pi0] h Q ↔ WP d 93 0 [some (.int pi0)] [] h (kR (d + 1) 68 12 lv [] Q) := WP_callSR rfl rfl rfl rfl rfl
theorem S68_12 : WP d 68 12 lv (.int x :: st) h Q ↔ if x = 0 then WP d 68 15 lv st h Q else WP d 68 23 lv st h Q := WP_br rfl
theorem S68_15 : WP d 68 15 lv [] h Q ↔ Q none h := WP_end rfl rfl rfl
theorem S68_23 : WP d 68 23 (some (.ref a) :: lv) st h Q ↔ WP d 68 24 (some (.ref a) :: lv) (.ref a :: st) h Q := WP_st rfl
theorem S68_24 {pr0 : Nat} (hs : shp pr0 = some (0, 7)) : WP (d + 1) 68 24 lv [.ref pr0] h Q ↔ WP d 87 0 [some (.ref pr0)] [] h (kV (d + 1) 68 27 lv [] Q) := WP_callVV rfl rfl rfl rfl rfl hs
theorem S68_27 : WP d 68 27 (some (.ref a) :: lv) st h Q ↔ WP d 68 28 (some (.ref a) :: lv) (.ref a :: st) h Q := WP_st rfl
theorem S68_28 (hs : shp a = some (0, 7)) : WP d 68 28 lv (.ref a :: st) h Q ↔ WP d 68 31 lv (.ref (RV a 10) :: st) h Q := WP_getR (r := 458) rfl hs (by decide)
theorem S68_31 : WP d 68 31 (some (.ref a) :: lv) st h Q ↔ WP d 68 32 (some (.ref a) :: lv) (.ref a :: st) h Q := WP_st rfl
theorem S68_32 (hs : shp a = some (0, 7)) : WP d 68 32 lv (.ref a :: st) h Q ↔ WP d 68 35 lv (.ref (RV a 2) :: st) h Q := WP_getR (r := 450) rfl hs (by decide)
theorem S68_35 : WP d 68 35 (a0 :: some (.int x) :: lv) st h Q ↔ WP d 68 36 (a0 :: some (.int x) :: lv) (.int x :: st) h Q := WP_st rfl
theorem S68_36 {pr0 : Nat} {pr1 : Nat} {pi0 : Int32} (hs : shp pr0 = some (0, 1)) : WP (d + 1) 68 36 lv [.int pi0, .ref pr1, .ref pr0] h Q ↔ WP d 6 0 [some (.ref pr0), some (.ref pr1), some (.int pi0)] [] h (kR (d + 1) 68 39 lv [] Q) := WP_callVR rfl rfl rfl rfl rfl hs
theorem S68_39 : WP d 68 39 (some (.ref a) :: lv) st h Q ↔ WP d 68 40 (some (.ref a) :: lv) (.ref a :: st) h Q := WP_st rfl
theorem S68_40 (hs : shp a = some (0, 7)) : WP d 68 40 lv (.ref a :: st) h Q ↔ WP d 68 43 lv (.ref (RV a 10) :: st) h Q := WP_getR (r := 458) rfl hs (by decide)
theorem S68_43 (hs : shp a = some (0, 1)) : WP d 68 43 lv (.ref a :: st) h Q ↔ WP d 68 46 lv (.long (h.2.1 a 4) :: st) h Q := WP_getL (r := 68) rfl hs (by decide)
theorem S68_46 : WP d 68 46 (a0 :: a1 :: some (.int x) :: lv) st h Q ↔ WP d 68 47 (a0 :: a1 :: some (.int x) :: lv) (.int x :: st) h Q := WP_st rfl
theorem S68_47 {pj0 : Int64} {pj1 : Int64} {pi0 : Int32} : WP (d + 1) 68 47 lv [.int pi0, .long pj1, .long pj0] h Q ↔ WP d 19 0 [some (.long pj0), none, some (.long pj1), none, some (.int pi0)] [] h (kR (d + 1) 68 50 lv [] Q) := WP_callSR rfl rfl rfl rfl rfl
theorem S68_50 : WP d 68 50 lv [.long u] h Q ↔ Q (some (some (.long u))) h := WP_end rfl rfl rfl
theorem S69_0 : WP d 69 0 (some (.ref a) :: lv) st h Q ↔ WP d 69 1 (some (.ref a) :: lv) (.ref a :: st) h Q := WP_st rfl
theorem S69_1 : WP d 69 1 (a0 :: some (.int x) :: lv) st h Q ↔ WP d 69 2 (a0 :: some (.int x) :: lv) (.int x :: st) h Q := WP_st rfl
theorem S69_2 {pr0 : Nat} {pi0 : Int32} (hs : shp pr0 = some (0, 7)) : WP (d + 1) 69 2 lv [.int pi0, .ref pr0] h Q ↔ WP d 91 0 [some (.ref pr0), some (.int pi0)] [] h (kR (d + 1) 69 5 lv [] Q) := WP_callVR rfl rfl rfl rfl rfl hs
theorem S69_5 : WP d 69 5 lv (.int x :: st) h Q ↔ if x = 0 then WP d 69 15 lv st h Q else WP d 69 8 lv st h Q := WP_br rfl
theorem S69_8 : WP d 69 8 (a0 :: a1 :: some (.int x) :: lv) st h Q ↔ WP d 69 9 (a0 :: a1 :: some (.int x) :: lv) (.int x :: st) h Q := WP_st rfl
theorem S69_9 {pi0 : Int32} : WP (d + 1) 69 9 lv [.int pi0] h Q ↔ WP d 93 0 [some (.int pi0)] [] h (kR (d + 1) 69 12 lv [] Q) := WP_callSR rfl rfl rfl rfl rfl
theorem S69_12 : WP d 69 12 lv (.int x :: st) h Q ↔ if x = 0 then WP d 69 15 lv st h Q else WP d 69 23 lv st h Q := WP_br rfl
theorem S69_15 : WP d 69 15 lv [] h Q ↔ Q none h := WP_end rfl rfl rfl
theorem S69_23 : WP d 69 23 (some (.ref a) :: lv) st h Q ↔ WP d 69 24 (some (.ref a) :: lv) (.ref a :: st) h Q := WP_st rfl
theorem S69_24 {pr0 : Nat} (hs : shp pr0 = some (0, 7)) : WP (d + 1) 69 24 lv [.ref pr0] h Q ↔ WP d 87 0 [some (.ref pr0)] [] h (kV (d + 1) 69 27 lv [] Q) := WP_callVV rfl rfl rfl rfl rfl hs
theorem S69_27 : WP d 69 27 (some (.ref a) :: lv) st h Q ↔ WP d 69 28 (some (.ref a) :: lv) (.ref a :: st) h Q := WP_st rfl
theorem S69_28 (hs : shp a = some (0, 7)) : WP d 69 28 lv (.ref a :: st) h Q ↔ WP d 69 31 lv (.ref (RV a 10) :: st) h Q := WP_getR (r := 458) rfl hs (by decide)
theorem S69_31 : WP d 69 31 (some (.ref a) :: lv) st h Q ↔ WP d 69 32 (some (.ref a) :: lv) (.ref a :: st) h Q := WP_st rfl
theorem S69_32 (hs : shp a = some (0, 7)) : WP d 69 32 lv (.ref a :: st) h Q ↔ WP d 69 35 lv (.ref (RV a 2) :: st) h Q := WP_getR (r := 450) rfl hs (by decide)
theorem S69_35 : WP d 69 35 (a0 :: some (.int x) :: lv) st h Q ↔ WP d 69 36 (a0 :: some (.int x) :: lv) (.int x :: st) h Q := WP_st rfl
theorem S69_36 {pr0 : Nat} {pr1 : Nat} {pi0 : Int32} (hs : shp pr0 = some (0, 1)) : WP (d + 1) 69 36 lv [.int pi0, .ref pr1, .ref pr0] h Q ↔ WP d 7 0 [some (.ref pr0), some (.ref pr1), some (.int pi0)] [] h (kR (d + 1) 69 39 lv [] Q) := WP_callVR rfl rfl rfl rfl rfl hs
theorem S69_39 : WP d 69 39 (some (.ref a) :: lv) st h Q ↔ WP d 69 40 (some (.ref a) :: lv) (.ref a :: st) h Q := WP_st rfl
theorem S69_40 (hs : shp a = some (0, 7)) : WP d 69 40 lv (.ref a :: st) h Q ↔ WP d 69 43 lv (.ref (RV a 10) :: st) h Q := WP_getR (r := 458) rfl hs (by decide)
theorem S69_43 : WP d 69 43 (some (.ref a) :: lv) st h Q ↔ WP d 69 44 (some (.ref a) :: lv) (.ref a :: st) h Q := WP_st rfl
theorem S69_44 (hs : shp a = some (0, 7)) : WP d 69 44 lv (.ref a :: st) h Q ↔ WP d 69 47 lv (.ref (RV a 2) :: st) h Q := WP_getR (r := 450) rfl hs (by decide)
theorem S69_47 : WP d 69 47 (a0 :: some (.int x) :: lv) st h Q ↔ WP d 69 48 (a0 :: some (.int x) :: lv) (.int x :: st) h Q := WP_st rfl
theorem S69_48 {pr0 : Nat} {pr1 : Nat} {pi0 : Int32} {qj0 : Int64} (hs : shp pr0 = some (0, 1)) : WP (d + 1) 69 48 lv [.int pi0, .ref pr1, .ref pr0, .long qj0] h Q ↔ WP d 8 0 [some (.ref pr0), some (.ref pr1), some (.int pi0), none, none] [] h (kR (d + 1) 69 51 lv [.long qj0] Q) := WP_callVR rfl rfl rfl rfl rfl hs
theorem S69_51 : WP d 69 51 (a0 :: a1 :: some (.int x) :: lv) st h Q ↔ WP d 69 52 (a0 :: a1 :: some (.int x) :: lv) (.int x :: st) h Q := WP_st rfl
theorem S69_52 {pj0 : Int64} {pj1 : Int64} {pi0 : Int32} : WP (d + 1) 69 52 lv [.int pi0, .long pj1, .long pj0] h Q ↔ WP d 19 0 [some (.long pj0), none, some (.long pj1), none, some (.int pi0)] [] h (kR (d + 1) 69 55 lv [] Q) := WP_callSR rfl rfl rfl rfl rfl
theorem S69_55 : WP d 69 55 lv [.long u] h Q ↔ Q (some (some (.long u))) h := WP_end rfl rfl rfl
theorem S70_0 : WP d 70 0 (some (.ref a) :: lv) st h Q ↔ WP d 70 1 (some (.ref a) :: lv) (.ref a :: st) h Q := WP_st rfl
theorem S70_1 : WP d 70 1 (a0 :: some (.int x) :: lv) st h Q ↔ WP d 70 2 (a0 :: some (.int x) :: lv) (.int x :: st) h Q := WP_st rfl
theorem S70_2 {pr0 : Nat} {pi0 : Int32} (hs : shp pr0 = some (0, 7)) : WP (d + 1) 70 2 lv [.int pi0, .ref pr0] h Q ↔ WP d 91 0 [some (.ref pr0), some (.int pi0)] [] h (kR (d + 1) 70 5 lv [] Q) := WP_callVR rfl rfl rfl rfl rfl hs
theorem S70_5 : WP d 70 5 lv (.int x :: st) h Q ↔ if x = 0 then WP d 70 15 lv st h Q else WP d 70 8 lv st h Q := WP_br rfl
theorem S70_8 : WP d 70 8 (a0 :: a1 :: some (.int x) :: lv) st h Q ↔ WP d 70 9 (a0 :: a1 :: some (.int x) :: lv) (.int x :: st) h Q := WP_st rfl
theorem S70_9 {pi0 : Int32} : WP (d + 1) 70 9 lv [.int pi0] h Q ↔ WP d 93 0 [some (.int pi0)] [] h (kR (d + 1) 70 12 lv [] Q) := WP_callSR rfl rfl rfl rfl rfl
theorem S70_12 : WP d 70 12 lv (.int x :: st) h Q ↔ if x = 0 then WP d 70 15 lv st h Q else WP d 70 23 lv st h Q := WP_br rfl
theorem S70_15 : WP d 70 15 lv [] h Q ↔ Q none h := WP_end rfl rfl rfl
theorem S70_23 : WP d 70 23 (some (.ref a) :: lv) st h Q ↔ WP d 70 24 (some (.ref a) :: lv) (.ref a :: st) h Q := WP_st rfl
theorem S70_24 {pr0 : Nat} (hs : shp pr0 = some (0, 7)) : WP (d + 1) 70 24 lv [.ref pr0] h Q ↔ WP d 87 0 [some (.ref pr0)] [] h (kV (d + 1) 70 27 lv [] Q) := WP_callVV rfl rfl rfl rfl rfl hs
theorem S70_27 : WP d 70 27 (some (.ref a) :: lv) st h Q ↔ WP d 70 28 (some (.ref a) :: lv) (.ref a :: st) h Q := WP_st rfl
theorem S70_28 (hs : shp a = some (0, 7)) : WP d 70 28 lv (.ref a :: st) h Q ↔ WP d 70 31 lv (.ref (RV a 9) :: st) h Q := WP_getR (r := 457) rfl hs (by decide)
theorem S70_31 (hs : shp a = some (0, 6)) : WP d 70 31 lv (.ref a :: st) h Q ↔ WP d 70 34 lv (.int (h.1 a 3) :: st) h Q := WP_getI (r := 387) rfl hs (by decide)
theorem S70_34 : WP d 70 34 (a0 :: some (.int x) :: lv) st h Q ↔ WP d 70 35 (a0 :: some (.int x) :: lv) (.int x :: st) h Q := WP_st rfl
theorem S70_35 {pi0 : Int32} {pi1 : Int32} : WP (d + 1) 70 35 lv [.int pi1, .int pi0] h Q ↔ WP d 97 0 [some (.int pi0), some (.int pi1)] [] h (kR (d + 1) 70 38 lv [] Q) := WP_callSR rfl rfl rfl rfl rfl
theorem S70_38 : WP d 70 38 lv st h Q ↔ WP d 70 39 lv (.int 1 :: st) h Q := WP_st rfl
theorem S70_39 : WP d 70 39 lv (.int y :: .int x :: st) h Q ↔ if x = y then WP d 70 42 lv st h Q else WP d 70 50 lv st h Q := WP_br rfl
theorem S70_42 : WP d 70 42 lv [] h Q ↔ Q none h := WP_end rfl rfl rfl
theorem S70_50 : WP d 70 50 (some (.ref a) :: lv) st h Q ↔ WP d 70 51 (some (.ref a) :: lv) (.ref a :: st) h Q := WP_st rfl
theorem S70_51 (hs : shp a = some (0, 7)) : WP d 70 51 lv (.ref a :: st) h Q ↔ WP d 70 54 lv (.ref (RV a 10) :: st) h Q := WP_getR (r := 458) rfl hs (by decide)
theorem S70_54 : WP d 70 54 (some (.ref a) :: lv) st h Q ↔ WP d 70 55 (some (.ref a) :: lv) (.ref a :: st) h Q := WP_st rfl
theorem S70_55 (hs : shp a = some (0, 7)) : WP d 70 55 lv (.ref a :: st) h Q ↔ WP d 70 58 lv (.ref (RV a 2) :: st) h Q := WP_getR (r := 450) rfl hs (by decide)
theorem S70_58 : WP d 70 58 (a0 :: some (.int x) :: lv) st h Q ↔ WP d 70 59 (a0 :: some (.int x) :: lv) (.int x :: st) h Q := WP_st rfl
theorem S70_59 {pr0 : Nat} {pr1 : Nat} {pi0 : Int32} (hs : shp pr0 = some (0, 1)) : WP (d + 1) 70 59 lv [.int pi0, .ref pr1, .ref pr0] h Q ↔ WP d 6 0 [some (.ref pr0), some (.ref pr1), some (.int pi0)] [] h (kR (d + 1) 70 62 lv [] Q) := WP_callVR rfl rfl rfl rfl rfl hs
theorem S70_62 : WP d 70 62 (a0 :: a1 :: a2v :: a3 :: a4 :: lv) (.long u :: st) h Q ↔ WP d 70 63 (a0 :: a1 :: kl a2v :: some (.long u) :: none :: lv) st h Q := WP_st (by rfl)
theorem S70_63 : WP d 70 63 (some (.ref a) :: lv) st h Q ↔ WP d 70 64 (some (.ref a) :: lv) (.ref a :: st) h Q := WP_st rfl
theorem S70_64 (hs : shp a = some (0, 7)) : WP d 70 64 lv (.ref a :: st) h Q ↔ WP d 70 67 lv (.ref (RV a 2) :: st) h Q := WP_getR (r := 450) rfl hs (by decide)
theorem S70_67 (hs : shp a = some (0, 3)) : WP d 70 67 lv (.ref a :: st) h Q ↔ WP d 70 70 lv (.ref (RV a 7) :: st) h Q := WP_getR (r := 199) rfl hs (by decide)
theorem S70_70 : WP d 70 70 (a0 :: some (.int x) :: lv) st h Q ↔ WP d 70 71 (a0 :: some (.int x) :: lv) (.int x :: st) h Q := WP_st rfl
theorem S70_71 (hi : okA 1 a i) : WP d 70 71 lv (.int i :: .ref a :: st) h Q ↔ WP d 70 72 lv (.int (h.1 a i.toNatClampNeg) :: st) h Q := WP_iald rfl hi
theorem S70_72 : WP d 70 72 lv (.int x :: st) h Q ↔ WP d 70 73 lv (.long x.toInt64 :: st) h Q := WP_st rfl
theorem S70_73 : WP d 70 73 (a0 :: a1 :: a2v :: some (.long u) :: lv) st h Q ↔ WP d 70 74 (a0 :: a1 :: a2v :: some (.long u) :: lv) (.long u :: st) h Q := WP_st rfl
theorem S70_74 : WP d 70 74 lv (.long w :: .long u :: st) h Q ↔ WP d 70 75 lv (.long (u * w) :: st) h Q := WP_st rfl
theorem S70_75 : WP d 70 75 (some (.ref a) :: lv) st h Q ↔ WP d 70 76 (some (.ref a) :: lv) (.ref a :: st) h Q := WP_st rfl
theorem S70_76 (hs : shp a = some (0, 7)) : WP d 70 76 lv (.ref a :: st) h Q ↔ WP d 70 79 lv (.ref (RV a 10) :: st) h Q := WP_getR (r := 458) rfl hs (by decide)
theorem S70_79 : WP d 70 79 (some (.ref a) :: lv) st h Q ↔ WP d 70 80 (some (.ref a) :: lv) (.ref a :: st) h Q := WP_st rfl
theorem S70_80 (hs : shp a = some (0, 7)) : WP d 70 80 lv (.ref a :: st) h Q ↔ WP d 70 83 lv (.ref (RV a 2) :: st) h Q := WP_getR (r := 450) rfl hs (by decide)
theorem S70_83 : WP d 70 83 (a0 :: some (.int x) :: lv) st h Q ↔ WP d 70 84 (a0 :: some (.int x) :: lv) (.int x :: st) h Q := WP_st rfl
theorem S70_84 {pr0 : Nat} {pr1 : Nat} {pi0 : Int32} {qj0 : Int64} (hs : shp pr0 = some (0, 1)) : WP (d + 1) 70 84 lv [.int pi0, .ref pr1, .ref pr0, .long qj0] h Q ↔ WP d 4 0 [some (.ref pr0), some (.ref pr1), some (.int pi0)] [] h (kR (d + 1) 70 87 lv [.long qj0] Q) := WP_callVR rfl rfl rfl rfl rfl hs
theorem S70_87 : WP d 70 87 lv (.long w :: .long u :: st) h Q ↔ WP d 70 88 lv (.long (u + w) :: st) h Q := WP_st rfl
theorem S70_88 : WP d 70 88 (a0 :: a1 :: a2v :: some (.long u) :: lv) st h Q ↔ WP d 70 89 (a0 :: a1 :: a2v :: some (.long u) :: lv) (.long u :: st) h Q := WP_st rfl
theorem S70_89 : WP d 70 89 (a0 :: a1 :: some (.int x) :: lv) st h Q ↔ WP d 70 90 (a0 :: a1 :: some (.int x) :: lv) (.int x :: st) h Q := WP_st rfl
theorem S70_90 {pj0 : Int64} {pj1 : Int64} {pi0 : Int32} : WP (d + 1) 70 90 lv [.int pi0, .long pj1, .long pj0] h Q ↔ WP d 19 0 [some (.long pj0), none, some (.long pj1), none, some (.int pi0)] [] h (kR (d + 1) 70 93 lv [] Q) := WP_callSR rfl rfl rfl rfl rfl
theorem S70_93 : WP d 70 93 lv [.long u] h Q ↔ Q (some (some (.long u))) h := WP_end rfl rfl rfl
theorem S71_0 : WP d 71 0 (some (.ref a) :: lv) st h Q ↔ WP d 71 1 (some (.ref a) :: lv) (.ref a :: st) h Q := WP_st rfl
theorem S71_1 {pr0 : Nat} (hs : shp pr0 = some (0, 7)) : WP (d + 1) 71 1 lv [.ref pr0] h Q ↔ WP d 87 0 [some (.ref pr0)] [] h (kV (d + 1) 71 4 lv [] Q) := WP_callVV rfl rfl rfl rfl rfl hs
theorem S71_4 : WP d 71 4 (some (.ref a) :: lv) st h Q ↔ WP d 71 5 (some (.ref a) :: lv) (.ref a :: st) h Q := WP_st rfl
theorem S71_5 (hs : shp a = some (0, 7)) : WP d 71 5 lv (.ref a :: st) h Q ↔ WP d 71 8 lv (.ref (RV a 10) :: st) h Q := WP_getR (r := 458) rfl hs (by decide)
theorem S71_8 : WP d 71 8 (some (.ref a) :: lv) st h Q ↔ WP d 71 9 (some (.ref a) :: lv) (.ref a :: st) h Q := WP_st rfl
theorem S71_9 (hs : shp a = some (0, 7)) : WP d 71 9 lv (.ref a :: st) h Q ↔ WP d 71 12 lv (.ref (RV a 2) :: st) h Q := WP_getR (r := 450) rfl hs (by decide)
theorem S71_12 {pr0 : Nat} {pr1 : Nat} (hs : shp pr0 = some (0, 1)) : WP (d + 1) 71 12 lv [.ref pr1, .ref pr0] h Q ↔ WP d 10 0 [some (.ref pr0), some (.ref pr1), none, none, none, none, none, none, none, none, none, none] [] h (kR (d + 1) 71 15 lv [] Q) := WP_callVR rfl rfl rfl rfl rfl hs
theorem S71_15 : WP d 71 15 lv [.int x] h Q ↔ Q (some (some (.int x))) h := WP_end rfl rfl rfl
theorem S72_0 : WP d 72 0 (some (.ref a) :: lv) st h Q ↔ WP d 72 1 (some (.ref a) :: lv) (.ref a :: st) h Q := WP_st rfl
theorem S72_1 : WP d 72 1 (a0 :: some (.int x) :: lv) st h Q ↔ WP d 72 2 (a0 :: some (.int x) :: lv) (.int x :: st) h Q := WP_st rfl
theorem S72_2 {pr0 : Nat} {pi0 : Int32} (hs : shp pr0 = some (0, 7)) : WP (d + 1) 72 2 lv [.int pi0, .ref pr0] h Q ↔ WP d 89 0 [some (.ref pr0), some (.int pi0)] [] h (kR (d + 1) 72 5 lv [] Q) := WP_callVR rfl rfl rfl rfl rfl hs
theorem S72_5 : WP d 72 5 lv (.int x :: st) h Q ↔ if x = 0 then WP d 72 23 lv st h Q else WP d 72 8 lv st h Q := WP_br rfl
theorem S72_8 : WP d 72 8 (some (.ref a) :: lv) st h Q ↔ WP d 72 9 (some (.ref a) :: lv) (.ref a :: st) h Q := WP_st rfl
theorem S72_9 : WP d 72 9 (a0 :: a1 :: some (.int x) :: lv) st h Q ↔ WP d 72 10 (a0 :: a1 :: some (.int x) :: lv) (.int x :: st) h Q := WP_st rfl
theorem S72_10 {pr0 : Nat} {pi0 : Int32} (hs : shp pr0 = some (0, 7)) : WP (d + 1) 72 10 lv [.int pi0, .ref pr0] h Q ↔ WP d 89 0 [some (.ref pr0), some (.int pi0)] [] h (kR (d + 1) 72 13 lv [] Q) := WP_callVR rfl rfl rfl rfl rfl hs
theorem S72_13 : WP d 72 13 lv (.int x :: st) h Q ↔ if x = 0 then WP d 72 23 lv st h Q else WP d 72 16 lv st h Q := WP_br rfl
theorem S72_16 : WP d 72 16 (a0 :: a1 :: a2v :: some (.int x) :: lv) st h Q ↔ WP d 72 17 (a0 :: a1 :: a2v :: some (.int x) :: lv) (.int x :: st) h Q := WP_st rfl
theorem S72_17 {pi0 : Int32} : WP (d + 1) 72 17 lv [.int pi0] h Q ↔ WP d 93 0 [some (.int pi0)] [] h (kR (d + 1) 72 20 lv [] Q) := WP_callSR rfl rfl rfl rfl rfl
theorem S72_20 : WP d 72 20 lv (.int x :: st) h Q ↔ if x = 0 then WP d 72 23 lv st h Q else WP d 72 31 lv st h Q := WP_br rfl
theorem S72_23 : WP d 72 23 lv [] h Q ↔ Q none h := WP_end rfl rfl rfl
theorem S72_31 : WP d 72 31 (some (.ref a) :: lv) st h Q ↔ WP d 72 32 (some (.ref a) :: lv) (.ref a :: st) h Q := WP_st rfl
theorem S72_32 {pr0 : Nat} (hs : shp pr0 = some (0, 7)) : WP (d + 1) 72 32 lv [.ref pr0] h Q ↔ WP d 87 0 [some (.ref pr0)] [] h (kV (d + 1) 72 35 lv [] Q) := WP_callVV rfl rfl rfl rfl rfl hs
theorem S72_35 : WP d 72 35 (some (.ref a) :: lv) st h Q ↔ WP d 72 36 (some (.ref a) :: lv) (.ref a :: st) h Q := WP_st rfl
theorem S72_36 (hs : shp a = some (0, 7)) : WP d 72 36 lv (.ref a :: st) h Q ↔ WP d 72 39 lv (.ref (RV a 9) :: st) h Q := WP_getR (r := 457) rfl hs (by decide)
theorem S72_39 (hs : shp a = some (0, 6)) : WP d 72 39 lv (.ref a :: st) h Q ↔ WP d 72 42 lv (.ref (RV a 0) :: st) h Q := WP_getR (r := 384) rfl hs (by decide)
theorem S72_42 : WP d 72 42 (a0 :: some (.int x) :: lv) st h Q ↔ WP d 72 43 (a0 :: some (.int x) :: lv) (.int x :: st) h Q := WP_st rfl
theorem S72_43 (hi : okA 1 a i) : WP d 72 43 lv (.int i :: .ref a :: st) h Q ↔ WP d 72 44 lv (.int (h.1 a i.toNatClampNeg) :: st) h Q := WP_iald rfl hi
theorem S72_44 : WP d 72 44 (some (.ref a) :: lv) st h Q ↔ WP d 72 45 (some (.ref a) :: lv) (.ref a :: st) h Q := WP_st rfl
theorem S72_45 (hs : shp a = some (0, 7)) : WP d 72 45 lv (.ref a :: st) h Q ↔ WP d 72 48 lv (.ref (RV a 9) :: st) h Q := WP_getR (r := 457) rfl hs (by decide)
theorem S72_48 (hs : shp a = some (0, 6)) : WP d 72 48 lv (.ref a :: st) h Q ↔ WP d 72 51 lv (.ref (RV a 0) :: st) h Q := WP_getR (r := 384) rfl hs (by decide)
theorem S72_51 : WP d 72 51 (a0 :: a1 :: some (.int x) :: lv) st h Q ↔ WP d 72 52 (a0 :: a1 :: some (.int x) :: lv) (.int x :: st) h Q := WP_st rfl
theorem S72_52 (hi : okA 1 a i) : WP d 72 52 lv (.int i :: .ref a :: st) h Q ↔ WP d 72 53 lv (.int (h.1 a i.toNatClampNeg) :: st) h Q := WP_iald rfl hi
theorem S72_53 : WP d 72 53 lv (.int y :: .int x :: st) h Q ↔ if x = y then WP d 72 64 lv st h Q else WP d 72 56 lv st h Q := WP_br rfl
theorem S72_56 : WP d 72 56 lv [] h Q ↔ Q none h := WP_end rfl rfl rfl
theorem S72_64 : WP d 72 64 (some (.ref a) :: lv) st h Q ↔ WP d 72 65 (some (.ref a) :: lv) (.ref a :: st) h Q := WP_st rfl
theorem S72_65 (hs : shp a = some (0, 7)) : WP d 72 65 lv (.ref a :: st) h Q ↔ WP d 72 68 lv (.ref (RV a 10) :: st) h Q := WP_getR (r := 458) rfl hs (by decide)
theorem S72_68 : WP d 72 68 (a0 :: some (.int x) :: lv) st h Q ↔ WP d 72 69 (a0 :: some (.int x) :: lv) (.int x :: st) h Q := WP_st rfl
theorem S72_69 : WP d 72 69 (a0 :: a1 :: some (.int x) :: lv) st h Q ↔ WP d 72 70 (a0 :: a1 :: some (.int x) :: lv) (.int x :: st) h Q := WP_st rfl
theorem S72_70 {pr0 : Nat} {pi0 : Int32} {pi1 : Int32} (hs : shp pr0 = some (0, 1)) : WP (d + 1) 72 70 lv [.int pi1, .int pi0, .ref pr0] h Q ↔ WP d 11 0 [some (.ref pr0), some (.int pi0), some (.int pi1)] [] h (kR (d + 1) 72 73 lv [] Q) := WP_callVR rfl rfl rfl rfl rfl hs
theorem S72_73 : WP d 72 73 (some (.ref a) :: lv) st h Q ↔ WP d 72 74 (some (.ref a) :: lv) (.ref a :: st) h Q := WP_st rfl
theorem S72_74 (hs : shp a = some (0, 7)) : WP d 72 74 lv (.ref a :: st) h Q ↔ WP d 72 77 lv (.ref (RV a 10) :: st) h Q := WP_getR (r := 458) rfl hs (by decide)
theorem S72_77 (hs : shp a = some (0, 1)) : WP d 72 77 lv (.ref a :: st) h Q ↔ WP d 72 80 lv (.long (h.2.1 a 4) :: st) h Q := WP_getL (r := 68) rfl hs (by decide)
theorem S72_80 : WP d 72 80 (a0 :: a1 :: a2v :: some (.int x) :: lv) st h Q ↔ WP d 72 81 (a0 :: a1 :: a2v :: some (.int x) :: lv) (.int x :: st) h Q := WP_st rfl
theorem S72_81 {pj0 : Int64} {pj1 : Int64} {pi0 : Int32} : WP (d + 1) 72 81 lv [.int pi0, .long pj1, .long pj0] h Q ↔ WP d 19 0 [some (.long pj0), none, some (.long pj1), none, some (.int pi0)] [] h (kR (d + 1) 72 84 lv [] Q) := WP_callSR rfl rfl rfl rfl rfl
theorem S72_84 : WP d 72 84 lv [.long u] h Q ↔ Q (some (some (.long u))) h := WP_end rfl rfl rfl
theorem S73_0 : WP d 73 0 (a0 :: some (.int x) :: lv) st h Q ↔ WP d 73 1 (a0 :: some (.int x) :: lv) (.int x :: st) h Q := WP_st rfl
theorem S73_1 : WP d 73 1 lv (.int x :: st) h Q ↔ if x = 0 then WP d 73 11 lv st h Q else WP d 73 4 lv st h Q := WP_br rfl
theorem S73_4 : WP d 73 4 (a0 :: some (.int x) :: lv) st h Q ↔ WP d 73 5 (a0 :: some (.int x) :: lv) (.int x :: st) h Q := WP_st rfl
theorem S73_5 : WP d 73 5 lv st h Q ↔ WP d 73 6 lv (.int 1 :: st) h Q := WP_st rfl
theorem S73_6 : WP d 73 6 lv (.int y :: .int x :: st) h Q ↔ if x = y then WP d 73 11 lv st h Q else WP d 73 9 lv st h Q := WP_br rfl
theorem S73_9 : WP d 73 9 lv st h Q ↔ WP d 73 10 lv (.int (-1) :: st) h Q := WP_st rfl
theorem S73_10 : WP d 73 10 lv [.int x] h Q ↔ Q (some (some (.int x))) h := WP_end rfl rfl rfl
theorem S73_11 : WP d 73 11 (some (.ref a) :: lv) st h Q ↔ WP d 73 12 (some (.ref a) :: lv) (.ref a :: st) h Q := WP_st rfl
theorem S73_12 {pr0 : Nat} (hs : shp pr0 = some (0, 7)) : WP (d + 1) 73 12 lv [.ref pr0] h Q ↔ WP d 87 0 [some (.ref pr0)] [] h (kV (d + 1) 73 15 lv [] Q) := WP_callVV rfl rfl rfl rfl rfl hs
theorem S73_15 : WP d 73 15 lv st h Q ↔ WP d 73 16 lv (.int (-1) :: st) h Q := WP_st rfl
theorem S73_16 : WP d 73 16 (a0 :: a1 :: a2v :: lv) (.int x :: st) h Q ↔ WP d 73 17 (a0 :: kl a1 :: some (.int x) :: lv) st h Q := WP_st (by rfl)
theorem S73_17 : WP d 73 17 lv st h Q ↔ WP d 73 20 lv (.long (-1) :: st) h Q := WP_st rfl
theorem S73_20 : WP d 73 20 (a0 :: a1 :: a2v :: a3 :: a4 :: lv) (.long u :: st) h Q ↔ WP d 73 21 (a0 :: a1 :: kl a2v :: some (.long u) :: none :: lv) st h Q := WP_st (by rfl)
theorem S73_21 : WP d 73 21 lv st h Q ↔ WP d 73 22 lv (.int 0 :: st) h Q := WP_st rfl
theorem S73_22 : WP d 73 22 (a0 :: a1 :: a2v :: a3 :: a4 :: a5 :: lv) (.int x :: st) h Q ↔ WP d 73 24 (a0 :: a1 :: a2v :: a3 :: kl a4 :: some (.int x) :: lv) st h Q := WP_st (by rfl)
theorem S73_24 : WP d 73 24 (a0 :: a1 :: a2v :: a3 :: a4 :: some (.int x) :: lv) st h Q ↔ WP d 73 26 (a0 :: a1 :: a2v :: a3 :: a4 :: some (.int x) :: lv) (.int x :: st) h Q := WP_st rfl
theorem S73_26 : WP d 73 26 (some (.ref a) :: lv) st h Q ↔ WP d 73 27 (some (.ref a) :: lv) (.ref a :: st) h Q := WP_st rfl
theorem S73_27 (hs : shp a = some (0, 7)) : WP d 73 27 lv (.ref a :: st) h Q ↔ WP d 73 30 lv (.ref (RV a 2) :: st) h Q := WP_getR (r := 450) rfl hs (by decide)
theorem S73_30 (hs : shp a = some (0, 3)) : WP d 73 30 lv (.ref a :: st) h Q ↔ WP d 73 33 lv (.int (h.1 a 0) :: st) h Q := WP_getI (r := 192) rfl hs (by decide)
theorem S73_33 : WP d 73 33 lv (.int y :: .int x :: st) h Q ↔ if y ≤ x then WP d 73 129 lv st h Q else WP d 73 36 lv st h Q := WP_br rfl
theorem S73_36 : WP d 73 36 (a0 :: a1 :: a2v :: a3 :: a4 :: some (.int x) :: lv) st h Q ↔ WP d 73 38 (a0 :: a1 :: a2v :: a3 :: a4 :: some (.int x) :: lv) (.int x :: st) h Q := WP_st rfl
theorem S73_38 : WP d 73 38 lv st h Q ↔ WP d 73 39 lv (.int 1 :: st) h Q := WP_st rfl
theorem S73_39 : WP d 73 39 lv (.int y :: .int x :: st) h Q ↔ WP d 73 40 lv (.int (x + y) :: st) h Q := WP_st rfl
theorem S73_40 : WP d 73 40 (a0 :: a1 :: a2v :: a3 :: a4 :: a5 :: a6 :: lv) (.int x :: st) h Q ↔ WP d 73 42 (a0 :: a1 :: a2v :: a3 :: a4 :: kl a5 :: some (.int x) :: lv) st h Q := WP_st (by rfl)
theorem S73_42 : WP d 73 42 (a0 :: a1 :: a2v :: a3 :: a4 :: a5 :: some (.int x) :: lv) st h Q ↔ WP d 73 44 (a0 :: a1 :: a2v :: a3 :: a4 :: a5 :: some (.int x) :: lv) (.int x :: st) h Q := WP_st rfl
theorem S73_44 : WP d 73 44 (some (.ref a) :: lv) st h Q ↔ WP d 73 45 (some (.ref a) :: lv) (.ref a :: st) h Q := WP_st rfl
theorem S73_45 (hs : shp a = some (0, 7)) : WP d 73 45 lv (.ref a :: st) h Q ↔ WP d 73 48 lv (.ref (RV a 2) :: st) h Q := WP_getR (r := 450) rfl hs (by decide)
theorem S73_48 (hs : shp a = some (0, 3)) : WP d 73 48 lv (.ref a :: st) h Q ↔ WP d 73 51 lv (.int (h.1 a 0) :: st) h Q := WP_getI (r := 192) rfl hs (by decide)
theorem S73_51 : WP d 73 51 lv (.int y :: .int x :: st) h Q ↔ if y ≤ x then WP d 73 123 lv st h Q else WP d 73 54 lv st h Q := WP_br rfl
theorem S73_54 : WP d 73 54 (some (.ref a) :: lv) st h Q ↔ WP d 73 55 (some (.ref a) :: lv) (.ref a :: st) h Q := WP_st rfl
theorem S73_55 (hs : shp a = some (0, 7)) : WP d 73 55 lv (.ref a :: st) h Q ↔ WP d 73 58 lv (.ref (RV a 9) :: st) h Q := WP_getR (r := 457) rfl hs (by decide)
theorem S73_58 (hs : shp a = some (0, 6)) : WP d 73 58 lv (.ref a :: st) h Q ↔ WP d 73 61 lv (.ref (RV a 0) :: st) h Q := WP_getR (r := 384) rfl hs (by decide)
theorem S73_61 : WP d 73 61 (a0 :: a1 :: a2v :: a3 :: a4 :: some (.int x) :: lv) st h Q ↔ WP d 73 63 (a0 :: a1 :: a2v :: a3 :: a4 :: some (.int x) :: lv) (.int x :: st) h Q := WP_st rfl
theorem S73_63 (hi : okA 1 a i) : WP d 73 63 lv (.int i :: .ref a :: st) h Q ↔ WP d 73 64 lv (.int (h.1 a i.toNatClampNeg) :: st) h Q := WP_iald rfl hi
theorem S73_64 : WP d 73 64 (some (.ref a) :: lv) st h Q ↔ WP d 73 65 (some (.ref a) :: lv) (.ref a :: st) h Q := WP_st rfl
theorem S73_65 (hs : shp a = some (0, 7)) : WP d 73 65 lv (.ref a :: st) h Q ↔ WP d 73 68 lv (.ref (RV a 9) :: st) h Q := WP_getR (r := 457) rfl hs (by decide)
theorem S73_68 (hs : shp a = some (0, 6)) : WP d 73 68 lv (.ref a :: st) h Q ↔ WP d 73 71 lv (.ref (RV a 0) :: st) h Q := WP_getR (r := 384) rfl hs (by decide)
theorem S73_71 : WP d 73 71 (a0 :: a1 :: a2v :: a3 :: a4 :: a5 :: some (.int x) :: lv) st h Q ↔ WP d 73 73 (a0 :: a1 :: a2v :: a3 :: a4 :: a5 :: some (.int x) :: lv) (.int x :: st) h Q := WP_st rfl
theorem S73_73 (hi : okA 1 a i) : WP d 73 73 lv (.int i :: .ref a :: st) h Q ↔ WP d 73 74 lv (.int (h.1 a i.toNatClampNeg) :: st) h Q := WP_iald rfl hi
theorem S73_74 : WP d 73 74 lv (.int y :: .int x :: st) h Q ↔ if x = y then WP d 73 77 lv st h Q else WP d 73 117 lv st h Q := WP_br rfl
theorem S73_77 : WP d 73 77 (some (.ref a) :: lv) st h Q ↔ WP d 73 78 (some (.ref a) :: lv) (.ref a :: st) h Q := WP_st rfl
theorem S73_78 (hs : shp a = some (0, 7)) : WP d 73 78 lv (.ref a :: st) h Q ↔ WP d 73 81 lv (.ref (RV a 10) :: st) h Q := WP_getR (r := 458) rfl hs (by decide)
theorem S73_81 : WP d 73 81 (a0 :: a1 :: a2v :: a3 :: a4 :: some (.int x) :: lv) st h Q ↔ WP d 73 83 (a0 :: a1 :: a2v :: a3 :: a4 :: some (.int x) :: lv) (.int x :: st) h Q := WP_st rfl
theorem S73_83 : WP d 73 83 (a0 :: a1 :: a2v :: a3 :: a4 :: a5 :: some (.int x) :: lv) st h Q ↔ WP d 73 85 (a0 :: a1 :: a2v :: a3 :: a4 :: a5 :: some (.int x) :: lv) (.int x :: st) h Q := WP_st rfl
theorem S73_85 {pr0 : Nat} {pi0 : Int32} {pi1 : Int32} (hs : shp pr0 = some (0, 1)) : WP (d + 1) 73 85 lv [.int pi1, .int pi0, .ref pr0] h Q ↔ WP d 11 0 [some (.ref pr0), some (.int pi0), some (.int pi1)] [] h (kR (d + 1) 73 88 lv [] Q) := WP_callVR rfl rfl rfl rfl rfl hs
theorem S73_88 : WP d 73 88 (a0 :: a1 :: a2v :: some (.long u) :: lv) st h Q ↔ WP d 73 89 (a0 :: a1 :: a2v :: some (.long u) :: lv) (.long u :: st) h Q := WP_st rfl
theorem S73_89 : WP d 73 89 lv (.long w :: .long u :: st) h Q ↔ WP d 73 90 lv (.int (lg_cmp u w) :: st) h Q := WP_st rfl
theorem S73_90 : WP d 73 90 lv (.int x :: st) h Q ↔ if x ≤ 0 then WP d 73 117 lv st h Q else WP d 73 93 lv st h Q := WP_br rfl
theorem S73_93 : WP d 73 93 (some (.ref a) :: lv) st h Q ↔ WP d 73 94 (some (.ref a) :: lv) (.ref a :: st) h Q := WP_st rfl
theorem S73_94 (hs : shp a = some (0, 7)) : WP d 73 94 lv (.ref a :: st) h Q ↔ WP d 73 97 lv (.ref (RV a 10) :: st) h Q := WP_getR (r := 458) rfl hs (by decide)
theorem S73_97 : WP d 73 97 (a0 :: a1 :: a2v :: a3 :: a4 :: some (.int x) :: lv) st h Q ↔ WP d 73 99 (a0 :: a1 :: a2v :: a3 :: a4 :: some (.int x) :: lv) (.int x :: st) h Q := WP_st rfl
theorem S73_99 : WP d 73 99 (a0 :: a1 :: a2v :: a3 :: a4 :: a5 :: some (.int x) :: lv) st h Q ↔ WP d 73 101 (a0 :: a1 :: a2v :: a3 :: a4 :: a5 :: some (.int x) :: lv) (.int x :: st) h Q := WP_st rfl
theorem S73_101 {pr0 : Nat} {pi0 : Int32} {pi1 : Int32} (hs : shp pr0 = some (0, 1)) : WP (d + 1) 73 101 lv [.int pi1, .int pi0, .ref pr0] h Q ↔ WP d 11 0 [some (.ref pr0), some (.int pi0), some (.int pi1)] [] h (kR (d + 1) 73 104 lv [] Q) := WP_callVR rfl rfl rfl rfl rfl hs
theorem S73_104 : WP d 73 104 (a0 :: a1 :: a2v :: a3 :: a4 :: lv) (.long u :: st) h Q ↔ WP d 73 105 (a0 :: a1 :: kl a2v :: some (.long u) :: none :: lv) st h Q := WP_st (by rfl)
theorem S73_105 : WP d 73 105 (a0 :: some (.int x) :: lv) st h Q ↔ WP d 73 106 (a0 :: some (.int x) :: lv) (.int x :: st) h Q := WP_st rfl
theorem S73_106 : WP d 73 106 lv (.int x :: st) h Q ↔ if x = 0 then WP d 73 109 lv st h Q else WP d 73 114 lv st h Q := WP_br rfl
theorem S73_109 : WP d 73 109 (a0 :: a1 :: a2v :: a3 :: a4 :: some (.int x) :: lv) st h Q ↔ WP d 73 111 (a0 :: a1 :: a2v :: a3 :: a4 :: some (.int x) :: lv) (.int x :: st) h Q := WP_st rfl
theorem S73_111 : WP d 73 111 lv st h Q ↔ WP d 73 116 lv st h Q := WP_st rfl
theorem S73_114 : WP d 73 114 (a0 :: a1 :: a2v :: a3 :: a4 :: a5 :: some (.int x) :: lv) st h Q ↔ WP d 73 116 (a0 :: a1 :: a2v :: a3 :: a4 :: a5 :: some (.int x) :: lv) (.int x :: st) h Q := WP_st rfl
theorem S73_116 : WP d 73 116 (a0 :: a1 :: a2v :: lv) (.int x :: st) h Q ↔ WP d 73 117 (a0 :: kl a1 :: some (.int x) :: lv) st h Q := WP_st (by rfl)
theorem S73_117 : WP d 73 117 (a0 :: a1 :: a2v :: a3 :: a4 :: a5 :: some (.int x) :: lv) st h Q ↔ WP d 73 120 (a0 :: a1 :: a2v :: a3 :: a4 :: kl a5 :: some (.int (x + 1)) :: lv) st h Q := WP_st (by rfl)
theorem S73_120 : WP d 73 120 lv st h Q ↔ WP d 73 42 lv st h Q := WP_st rfl
theorem S73_123 : WP d 73 123 (a0 :: a1 :: a2v :: a3 :: a4 :: some (.int x) :: lv) st h Q ↔ WP d 73 126 (a0 :: a1 :: a2v :: a3 :: kl a4 :: some (.int (x + 1)) :: lv) st h Q := WP_st (by rfl)
theorem S73_126 : WP d 73 126 lv st h Q ↔ WP d 73 24 lv st h Q := WP_st rfl
theorem S73_129 : WP d 73 129 (a0 :: a1 :: some (.int x) :: lv) st h Q ↔ WP d 73 130 (a0 :: a1 :: some (.int x) :: lv) (.int x :: st) h Q := WP_st rfl
theorem S73_130 : WP d 73 130 lv [.int x] h Q ↔ Q (some (some (.int x))) h := WP_end rfl rfl rfl
theorem S74_0 : WP d 74 0 (some (.ref a) :: lv) st h Q ↔ WP d 74 1 (some (.ref a) :: lv) (.ref a :: st) h Q := WP_st rfl
theorem S74_1 : WP d 74 1 (a0 :: some (.int x) :: lv) st h Q ↔ WP d 74 2 (a0 :: some (.int x) :: lv) (.int x :: st) h Q := WP_st rfl
theorem S74_2 {pr0 : Nat} {pi0 : Int32} (hs : shp pr0 = some (0, 7)) : WP (d + 1) 74 2 lv [.int pi0, .ref pr0] h Q ↔ WP d 90 0 [some (.ref pr0), some (.int pi0)] [] h (kR (d + 1) 74 5 lv [] Q) := WP_callVR rfl rfl rfl rfl rfl hs
theorem S74_5 : WP d 74 5 lv (.int x :: st) h Q ↔ if x = 0 then WP d 74 8 lv st h Q else WP d 74 10 lv st h Q := WP_br rfl
theorem S74_8 : WP d 74 8 lv st h Q ↔ WP d 74 9 lv (.int (-1) :: st) h Q := WP_st rfl
theorem S74_9 : WP d 74 9 lv [.int x] h Q ↔ Q (some (some (.int x))) h := WP_end rfl rfl rfl
theorem S74_10 : WP d 74 10 (some (.ref a) :: lv) st h Q ↔ WP d 74 11 (some (.ref a) :: lv) (.ref a :: st) h Q := WP_st rfl
theorem S74_11 : WP d 74 11 (a0 :: some (.int x) :: lv) st h Q ↔ WP d 74 12 (a0 :: some (.int x) :: lv) (.int x :: st) h Q := WP_st rfl
theorem S74_12 {pr0 : Nat} {pi0 : Int32} (hs : shp pr0 = some (0, 7)) : WP (d + 1) 74 12 lv [.int pi0, .ref pr0] h Q ↔ WP d 91 0 [some (.ref pr0), some (.int pi0)] [] h (kR (d + 1) 74 15 lv [] Q) := WP_callVR rfl rfl rfl rfl rfl hs
theorem S74_15 : WP d 74 15 lv (.int x :: st) h Q ↔ if x = 0 then WP d 74 18 lv st h Q else WP d 74 20 lv st h Q := WP_br rfl
theorem S74_18 : WP d 74 18 lv st h Q ↔ WP d 74 19 lv (.int 1 :: st) h Q := WP_st rfl
theorem S74_19 : WP d 74 19 lv [.int x] h Q ↔ Q (some (some (.int x))) h := WP_end rfl rfl rfl
theorem S74_20 : WP d 74 20 (some (.ref a) :: lv) st h Q ↔ WP d 74 21 (some (.ref a) :: lv) (.ref a :: st) h Q := WP_st rfl
theorem S74_21 {pr0 : Nat} (hs : shp pr0 = some (0, 7)) : WP (d + 1) 74 21 lv [.ref pr0] h Q ↔ WP d 88 0 [some (.ref pr0)] [] h (kV (d + 1) 74 24 lv [] Q) := WP_callVV rfl rfl rfl rfl rfl hs
theorem S74_24 : WP d 74 24 (some (.ref a) :: lv) st h Q ↔ WP d 74 25 (some (.ref a) :: lv) (.ref a :: st) h Q := WP_st rfl
theorem S74_25 (hs : shp a = some (0, 7)) : WP d 74 25 lv (.ref a :: st) h Q ↔ WP d 74 28 lv (.ref (RV a 2) :: st) h Q := WP_getR (r := 450) rfl hs (by decide)
theorem S74_28 : WP d 74 28 lv (.ref a :: st) h Q ↔ WP d 74 29 lv (.ref a :: .ref a :: st) h Q := WP_st rfl
theorem S74_29 (hs : shp a = some (0, 3)) : WP d 74 29 lv (.ref a :: st) h Q ↔ WP d 74 32 lv (.int (h.1 a 4) :: st) h Q := WP_getI (r := 196) rfl hs (by decide)
theorem S74_32 : WP d 74 32 lv st h Q ↔ WP d 74 33 lv (.int 1 :: st) h Q := WP_st rfl
theorem S74_33 : WP d 74 33 (a0 :: some (.int x) :: lv) st h Q ↔ WP d 74 34 (a0 :: some (.int x) :: lv) (.int x :: st) h Q := WP_st rfl
theorem S74_34 : WP d 74 34 lv (.int y :: .int x :: st) h Q ↔ WP d 74 35 lv (.int (x <<< (y &&& 31)) :: st) h Q := WP_st rfl
theorem S74_35 : WP d 74 35 lv st h Q ↔ WP d 74 36 lv (.int (-1) :: st) h Q := WP_st rfl
theorem S74_36 : WP d 74 36 lv (.int y :: .int x :: st) h Q ↔ WP d 74 37 lv (.int (x ^^^ y) :: st) h Q := WP_st rfl
theorem S74_37 : WP d 74 37 lv (.int y :: .int x :: st) h Q ↔ WP d 74 38 lv (.int (x &&& y) :: st) h Q := WP_st rfl
theorem S74_38 (hs : shp a = some (0, 3)) : WP d 74 38 lv (.int x :: .ref a :: st) h Q ↔ WP d 74 41 lv st (setI h a 4 x) Q := WP_putI (r := 196) rfl hs (by decide)
theorem S74_41 : WP d 74 41 lv st h Q ↔ WP d 74 42 lv (.int 0 :: st) h Q := WP_st rfl
theorem S74_42 : WP d 74 42 lv [.int x] h Q ↔ Q (some (some (.int x))) h := WP_end rfl rfl rfl
theorem S75_0 : WP d 75 0 (some (.ref a) :: lv) st h Q ↔ WP d 75 1 (some (.ref a) :: lv) (.ref a :: st) h Q := WP_st rfl
theorem S75_1 : WP d 75 1 (a0 :: some (.int x) :: lv) st h Q ↔ WP d 75 2 (a0 :: some (.int x) :: lv) (.int x :: st) h Q := WP_st rfl
theorem S75_2 {pr0 : Nat} {pi0 : Int32} (hs : shp pr0 = some (0, 7)) : WP (d + 1) 75 2 lv [.int pi0, .ref pr0] h Q ↔ WP d 90 0 [some (.ref pr0), some (.int pi0)] [] h (kR (d + 1) 75 5 lv [] Q) := WP_callVR rfl rfl rfl rfl rfl hs
theorem S75_5 : WP d 75 5 lv (.int x :: st) h Q ↔ if x = 0 then WP d 75 8 lv st h Q else WP d 75 10 lv st h Q := WP_br rfl
theorem S75_8 : WP d 75 8 lv st h Q ↔ WP d 75 9 lv (.int (-1) :: st) h Q := WP_st rfl
theorem S75_9 : WP d 75 9 lv [.int x] h Q ↔ Q (some (some (.int x))) h := WP_end rfl rfl rfl
theorem S75_10 : WP d 75 10 (some (.ref a) :: lv) st h Q ↔ WP d 75 11 (some (.ref a) :: lv) (.ref a :: st) h Q := WP_st rfl
theorem S75_11 : WP d 75 11 (a0 :: some (.int x) :: lv) st h Q ↔ WP d 75 12 (a0 :: some (.int x) :: lv) (.int x :: st) h Q := WP_st rfl
theorem S75_12 {pr0 : Nat} {pi0 : Int32} (hs : shp pr0 = some (0, 7)) : WP (d + 1) 75 12 lv [.int pi0, .ref pr0] h Q ↔ WP d 91 0 [some (.ref pr0), some (.int pi0)] [] h (kR (d + 1) 75 15 lv [] Q) := WP_callVR rfl rfl rfl rfl rfl hs
theorem S75_15 : WP d 75 15 lv (.int x :: st) h Q ↔ if x = 0 then WP d 75 20 lv st h Q else WP d 75 18 lv st h Q := WP_br rfl
theorem S75_18 : WP d 75 18 lv st h Q ↔ WP d 75 19 lv (.int 1 :: st) h Q := WP_st rfl
theorem S75_19 : WP d 75 19 lv [.int x] h Q ↔ Q (some (some (.int x))) h := WP_end rfl rfl rfl
theorem S75_20 : WP d 75 20 (some (.ref a) :: lv) st h Q ↔ WP d 75 21 (some (.ref a) :: lv) (.ref a :: st) h Q := WP_st rfl
theorem S75_21 {pr0 : Nat} (hs : shp pr0 = some (0, 7)) : WP (d + 1) 75 21 lv [.ref pr0] h Q ↔ WP d 88 0 [some (.ref pr0)] [] h (kV (d + 1) 75 24 lv [] Q) := WP_callVV rfl rfl rfl rfl rfl hs
theorem S75_24 : WP d 75 24 (some (.ref a) :: lv) st h Q ↔ WP d 75 25 (some (.ref a) :: lv) (.ref a :: st) h Q := WP_st rfl
theorem S75_25 (hs : shp a = some (0, 7)) : WP d 75 25 lv (.ref a :: st) h Q ↔ WP d 75 28 lv (.ref (RV a 2) :: st) h Q := WP_getR (r := 450) rfl hs (by decide)
theorem S75_28 : WP d 75 28 lv (.ref a :: st) h Q ↔ WP d 75 29 lv (.ref a :: .ref a :: st) h Q := WP_st rfl
theorem S75_29 (hs : shp a = some (0, 3)) : WP d 75 29 lv (.ref a :: st) h Q ↔ WP d 75 32 lv (.int (h.1 a 4) :: st) h Q := WP_getI (r := 196) rfl hs (by decide)
theorem S75_32 : WP d 75 32 lv st h Q ↔ WP d 75 33 lv (.int 1 :: st) h Q := WP_st rfl
theorem S75_33 : WP d 75 33 (a0 :: some (.int x) :: lv) st h Q ↔ WP d 75 34 (a0 :: some (.int x) :: lv) (.int x :: st) h Q := WP_st rfl
theorem S75_34 : WP d 75 34 lv (.int y :: .int x :: st) h Q ↔ WP d 75 35 lv (.int (x <<< (y &&& 31)) :: st) h Q := WP_st rfl
theorem S75_35 : WP d 75 35 lv (.int y :: .int x :: st) h Q ↔ WP d 75 36 lv (.int (x ||| y) :: st) h Q := WP_st rfl
theorem S75_36 (hs : shp a = some (0, 3)) : WP d 75 36 lv (.int x :: .ref a :: st) h Q ↔ WP d 75 39 lv st (setI h a 4 x) Q := WP_putI (r := 196) rfl hs (by decide)
theorem S75_39 : WP d 75 39 lv st h Q ↔ WP d 75 40 lv (.int 0 :: st) h Q := WP_st rfl
theorem S75_40 : WP d 75 40 lv [.int x] h Q ↔ Q (some (some (.int x))) h := WP_end rfl rfl rfl
theorem S76_0 : WP d 76 0 (a0 :: some (.int x) :: lv) st h Q ↔ WP d 76 1 (a0 :: some (.int x) :: lv) (.int x :: st) h Q := WP_st rfl
theorem S76_1 : WP d 76 1 lv (.int x :: st) h Q ↔ if x < 0 then WP d 76 11 lv st h Q else WP d 76 4 lv st h Q := WP_br rfl
theorem S76_4 : WP d 76 4 (a0 :: some (.int x) :: lv) st h Q ↔ WP d 76 5 (a0 :: some (.int x) :: lv) (.int x :: st) h Q := WP_st rfl
theorem S76_5 : WP d 76 5 lv st h Q ↔ WP d 76 8 lv (.int 9999 :: st) h Q := WP_st rfl
theorem S76_8 : WP d 76 8 lv (.int y :: .int x :: st) h Q ↔ if x ≤ y then WP d 76 13 lv st h Q else WP d 76 11 lv st h Q := WP_br rfl
theorem S76_11 : WP d 76 11 lv st h Q ↔ WP d 76 12 lv (.int (-1) :: st) h Q := WP_st rfl
theorem S76_12 : WP d 76 12 lv [.int x] h Q ↔ Q (some (some (.int x))) h := WP_end rfl rfl rfl
theorem S76_13 : WP d 76 13 (some (.ref a) :: lv) st h Q ↔ WP d 76 14 (some (.ref a) :: lv) (.ref a :: st) h Q := WP_st rfl
theorem S76_14 (hs : shp a = some (0, 7)) : WP d 76 14 lv (.ref a :: st) h Q ↔ WP d 76 17 lv (.ref (RV a 3) :: st) h Q := WP_getR (r := 451) rfl hs (by decide)
theorem S76_17 : WP d 76 17 (some (.ref a) :: lv) st h Q ↔ WP d 76 18 (some (.ref a) :: lv) (.ref a :: st) h Q := WP_st rfl
theorem S76_18 (hs : shp a = some (0, 7)) : WP d 76 18 lv (.ref a :: st) h Q ↔ WP d 76 21 lv (.ref (RV a 2) :: st) h Q := WP_getR (r := 450) rfl hs (by decide)
theorem S76_21 {pr0 : Nat} {pr1 : Nat} (hs : shp pr0 = some (0, 3)) : WP (d + 1) 76 21 lv [.ref pr1, .ref pr0] h Q ↔ WP d 25 0 [some (.ref pr0), some (.ref pr1), none] [] h (kV (d + 1) 76 24 lv [] Q) := WP_callVV rfl rfl rfl rfl rfl hs
theorem S76_24 : WP d 76 24 lv st h Q ↔ WP d 76 25 lv (.int 0 :: st) h Q := WP_st rfl
theorem S76_25 : WP d 76 25 (a0 :: a1 :: a2v :: lv) (.int x :: st) h Q ↔ WP d 76 26 (a0 :: kl a1 :: some (.int x) :: lv) st h Q := WP_st (by rfl)
theorem S76_26 : WP d 76 26 lv st h Q ↔ WP d 76 27 lv (.int 0 :: st) h Q := WP_st rfl
theorem S76_27 : WP d 76 27 (a0 :: a1 :: a2v :: a3 :: lv) (.int x :: st) h Q ↔ WP d 76 28 (a0 :: a1 :: kl a2v :: some (.int x) :: lv) st h Q := WP_st (by rfl)
theorem S76_28 : WP d 76 28 (a0 :: a1 :: a2v :: some (.int x) :: lv) st h Q ↔ WP d 76 29 (a0 :: a1 :: a2v :: some (.int x) :: lv) (.int x :: st) h Q := WP_st rfl
theorem S76_29 : WP d 76 29 lv st h Q ↔ WP d 76 31 lv (.int 11 :: st) h Q := WP_st rfl
theorem S76_31 : WP d 76 31 lv (.int y :: .int x :: st) h Q ↔ if y ≤ x then WP d 76 109 lv st h Q else WP d 76 34 lv st h Q := WP_br rfl
theorem S76_34 : WP d 76 34 (some (.ref a) :: lv) st h Q ↔ WP d 76 35 (some (.ref a) :: lv) (.ref a :: st) h Q := WP_st rfl
theorem S76_35 {pr0 : Nat} (hs : shp pr0 = some (0, 7)) : WP (d + 1) 76 35 lv [.ref pr0] h Q ↔ WP d 87 0 [some (.ref pr0)] [] h (kV (d + 1) 76 38 lv [] Q) := WP_callVV rfl rfl rfl rfl rfl hs
theorem S76_38 : WP d 76 38 (some (.ref a) :: lv) st h Q ↔ WP d 76 39 (some (.ref a) :: lv) (.ref a :: st) h Q := WP_st rfl
theorem S76_39 (hs : shp a = some (0, 7)) : WP d 76 39 lv (.ref a :: st) h Q ↔ WP d 76 42 lv (.ref (RV a 10) :: st) h Q := WP_getR (r := 458) rfl hs (by decide)
theorem S76_42 : WP d 76 42 (some (.ref a) :: lv) st h Q ↔ WP d 76 43 (some (.ref a) :: lv) (.ref a :: st) h Q := WP_st rfl
theorem S76_43 (hs : shp a = some (0, 7)) : WP d 76 43 lv (.ref a :: st) h Q ↔ WP d 76 46 lv (.ref (RV a 2) :: st) h Q := WP_getR (r := 450) rfl hs (by decide)
theorem S76_46 {pr0 : Nat} {pr1 : Nat} (hs : shp pr0 = some (0, 1)) : WP (d + 1) 76 46 lv [.ref pr1, .ref pr0] h Q ↔ WP d 10 0 [some (.ref pr0), some (.ref pr1), none, none, none, none, none, none, none, none, none, none] [] h (kR (d + 1) 76 49 lv [] Q) := WP_callVR rfl rfl rfl rfl rfl hs
theorem S76_49 : WP d 76 49 (a0 :: a1 :: a2v :: a3 :: a4 :: lv) (.int x :: st) h Q ↔ WP d 76 51 (a0 :: a1 :: a2v :: kl a3 :: some (.int x) :: lv) st h Q := WP_st (by rfl)
theorem S76_51 : WP d 76 51 (a0 :: a1 :: a2v :: a3 :: some (.int x) :: lv) st h Q ↔ WP d 76 53 (a0 :: a1 :: a2v :: a3 :: some (.int x) :: lv) (.int x :: st) h Q := WP_st rfl
theorem S76_53 : WP d 76 53 lv st h Q ↔ WP d 76 54 lv (.int (-1) :: st) h Q := WP_st rfl
theorem S76_54 : WP d 76 54 lv (.int y :: .int x :: st) h Q ↔ if x = y then WP d 76 109 lv st h Q else WP d 76 57 lv st h Q := WP_br rfl
theorem S76_57 : WP d 76 57 (some (.ref a) :: lv) st h Q ↔ WP d 76 58 (some (.ref a) :: lv) (.ref a :: st) h Q := WP_st rfl
theorem S76_58 (hs : shp a = some (0, 7)) : WP d 76 58 lv (.ref a :: st) h Q ↔ WP d 76 61 lv (.ref (RV a 10) :: st) h Q := WP_getR (r := 458) rfl hs (by decide)
theorem S76_61 : WP d 76 61 (some (.ref a) :: lv) st h Q ↔ WP d 76 62 (some (.ref a) :: lv) (.ref a :: st) h Q := WP_st rfl
theorem S76_62 (hs : shp a = some (0, 7)) : WP d 76 62 lv (.ref a :: st) h Q ↔ WP d 76 65 lv (.ref (RV a 2) :: st) h Q := WP_getR (r := 450) rfl hs (by decide)
theorem S76_65 : WP d 76 65 (a0 :: a1 :: a2v :: a3 :: some (.int x) :: lv) st h Q ↔ WP d 76 67 (a0 :: a1 :: a2v :: a3 :: some (.int x) :: lv) (.int x :: st) h Q := WP_st rfl
theorem S76_67 : WP d 76 67 (a0 :: some (.int x) :: lv) st h Q ↔ WP d 76 68 (a0 :: some (.int x) :: lv) (.int x :: st) h Q := WP_st rfl
theorem S76_68 {pr0 : Nat} {pr1 : Nat} {pi0 : Int32} {pi1 : Int32} (hs : shp pr0 = some (0, 1)) : WP (d + 1) 76 68 lv [.int pi1, .int pi0, .ref pr1, .ref pr0] h Q ↔ WP d 9 0 [some (.ref pr0), some (.ref pr1), some (.int pi0), some (.int pi1)] [] h (kR (d + 1) 76 71 lv [] Q) := WP_callVR rfl rfl rfl rfl rfl hs
theorem S76_71 : WP d 76 71 lv (.int x :: st) h Q ↔ if x = 0 then WP d 76 74 lv st h Q else WP d 76 77 lv st h Q := WP_br rfl
theorem S76_74 : WP d 76 74 lv st h Q ↔ WP d 76 109 lv st h Q := WP_st rfl
theorem S76_77 : WP d 76 77 (some (.ref a) :: lv) st h Q ↔ WP d 76 78 (some (.ref a) :: lv) (.ref a :: st) h Q := WP_st rfl
theorem S76_78 (hs : shp a = some (0, 7)) : WP d 76 78 lv (.ref a :: st) h Q ↔ WP d 76 81 lv (.ref (RV a 2) :: st) h Q := WP_getR (r := 450) rfl hs (by decide)
theorem S76_81 : WP d 76 81 lv (.ref a :: st) h Q ↔ WP d 76 82 lv (.ref a :: .ref a :: st) h Q := WP_st rfl
theorem S76_82 (hs : shp a = some (0, 3)) : WP d 76 82 lv (.ref a :: st) h Q ↔ WP d 76 85 lv (.int (h.1 a 4) :: st) h Q := WP_getI (r := 196) rfl hs (by decide)
theorem S76_85 : WP d 76 85 lv st h Q ↔ WP d 76 86 lv (.int 1 :: st) h Q := WP_st rfl
theorem S76_86 : WP d 76 86 (a0 :: a1 :: a2v :: a3 :: some (.int x) :: lv) st h Q ↔ WP d 76 88 (a0 :: a1 :: a2v :: a3 :: some (.int x) :: lv) (.int x :: st) h Q := WP_st rfl
theorem S76_88 : WP d 76 88 lv (.int y :: .int x :: st) h Q ↔ WP d 76 89 lv (.int (x <<< (y &&& 31)) :: st) h Q := WP_st rfl
theorem S76_89 : WP d 76 89 lv st h Q ↔ WP d 76 90 lv (.int (-1) :: st) h Q := WP_st rfl
theorem S76_90 : WP d 76 90 lv (.int y :: .int x :: st) h Q ↔ WP d 76 91 lv (.int (x ^^^ y) :: st) h Q := WP_st rfl
theorem S76_91 : WP d 76 91 lv (.int y :: .int x :: st) h Q ↔ WP d 76 92 lv (.int (x &&& y) :: st) h Q := WP_st rfl
theorem S76_92 (hs : shp a = some (0, 3)) : WP d 76 92 lv (.int x :: .ref a :: st) h Q ↔ WP d 76 95 lv st (setI h a 4 x) Q := WP_putI (r := 196) rfl hs (by decide)
theorem S76_95 : WP d 76 95 (some (.ref a) :: lv) st h Q ↔ WP d 76 96 (some (.ref a) :: lv) (.ref a :: st) h Q := WP_st rfl
theorem S76_96 : WP d 76 96 lv st h Q ↔ WP d 76 97 lv (.int 1 :: st) h Q := WP_st rfl
theorem S76_97 (hs : shp a = some (0, 7)) (hx : isB x) : WP d 76 97 lv (.int x :: .ref a :: st) h Q ↔ WP d 76 100 lv st (setI h a 11 x) Q := WP_putZ (r := 459) rfl hs (by decide) hx
theorem S76_100 : WP d 76 100 (a0 :: a1 :: some (.int x) :: lv) st h Q ↔ WP d 76 103 (a0 :: kl a1 :: some (.int (x + 1)) :: lv) st h Q := WP_st (by rfl)
theorem S76_103 : WP d 76 103 (a0 :: a1 :: a2v :: some (.int x) :: lv) st h Q ↔ WP d 76 106 (a0 :: a1 :: kl a2v :: some (.int (x + 1)) :: lv) st h Q := WP_st (by rfl)
theorem S76_106 : WP d 76 106 lv st h Q ↔ WP d 76 28 lv st h Q := WP_st rfl
theorem S76_109 : WP d 76 109 (a0 :: a1 :: some (.int x) :: lv) st h Q ↔ WP d 76 110 (a0 :: a1 :: some (.int x) :: lv) (.int x :: st) h Q := WP_st rfl
theorem S76_110 : WP d 76 110 lv (.int x :: st) h Q ↔ if x ≤ 0 then WP d 76 124 lv st h Q else WP d 76 113 lv st h Q := WP_br rfl
theorem S76_113 : WP d 76 113 (some (.ref a) :: lv) st h Q ↔ WP d 76 114 (some (.ref a) :: lv) (.ref a :: st) h Q := WP_st rfl
theorem S76_114 (hs : shp a = some (0, 7)) : WP d 76 114 lv (.ref a :: st) h Q ↔ WP d 76 117 lv (.ref (RV a 4) :: st) h Q := WP_getR (r := 452) rfl hs (by decide)
theorem S76_117 : WP d 76 117 (some (.ref a) :: lv) st h Q ↔ WP d 76 118 (some (.ref a) :: lv) (.ref a :: st) h Q := WP_st rfl
theorem S76_118 (hs : shp a = some (0, 7)) : WP d 76 118 lv (.ref a :: st) h Q ↔ WP d 76 121 lv (.ref (RV a 3) :: st) h Q := WP_getR (r := 451) rfl hs (by decide)
theorem S76_121 {pr0 : Nat} {pr1 : Nat} (hs : shp pr0 = some (0, 0)) : WP (d + 1) 76 121 lv [.ref pr1, .ref pr0] h Q ↔ WP d 0 0 [some (.ref pr0), some (.ref pr1)] [] h (kV (d + 1) 76 124 lv [] Q) := WP_callVV rfl rfl rfl rfl rfl hs
theorem S76_124 : WP d 76 124 (a0 :: a1 :: some (.int x) :: lv) st h Q ↔ WP d 76 125 (a0 :: a1 :: some (.int x) :: lv) (.int x :: st) h Q := WP_st rfl
theorem S76_125 : WP d 76 125 lv [.int x] h Q ↔ Q (some (some (.int x))) h := WP_end rfl rfl rfl
theorem S77_0 : WP d 77 0 (some (.ref a) :: lv) st h Q ↔ WP d 77 1 (some (.ref a) :: lv) (.ref a :: st) h Q := WP_st rfl
theorem S77_1 : WP d 77 1 (a0 :: some (.int x) :: lv) st h Q ↔ WP d 77 2 (a0 :: some (.int x) :: lv) (.int x :: st) h Q := WP_st rfl
theorem S77_2 {pr0 : Nat} {pi0 : Int32} (hs : shp pr0 = some (0, 7)) : WP (d + 1) 77 2 lv [.int pi0, .ref pr0] h Q ↔ WP d 90 0 [some (.ref pr0), some (.int pi0)] [] h (kR (d + 1) 77 5 lv [] Q) := WP_callVR rfl rfl rfl rfl rfl hs
theorem S77_5 : WP d 77 5 lv (.int x :: st) h Q ↔ if x = 0 then WP d 77 15 lv st h Q else WP d 77 8 lv st h Q := WP_br rfl
theorem S77_8 : WP d 77 8 (a0 :: a1 :: some (.int x) :: lv) st h Q ↔ WP d 77 9 (a0 :: a1 :: some (.int x) :: lv) (.int x :: st) h Q := WP_st rfl
theorem S77_9 {pi0 : Int32} : WP (d + 1) 77 9 lv [.int pi0] h Q ↔ WP d 94 0 [some (.int pi0)] [] h (kR (d + 1) 77 12 lv [] Q) := WP_callSR rfl rfl rfl rfl rfl
theorem S77_12 : WP d 77 12 lv (.int x :: st) h Q ↔ if x = 0 then WP d 77 15 lv st h Q else WP d 77 17 lv st h Q := WP_br rfl
theorem S77_15 : WP d 77 15 lv st h Q ↔ WP d 77 16 lv (.int (-1) :: st) h Q := WP_st rfl
theorem S77_16 : WP d 77 16 lv [.int x] h Q ↔ Q (some (some (.int x))) h := WP_end rfl rfl rfl
theorem S77_17 : WP d 77 17 (some (.ref a) :: lv) st h Q ↔ WP d 77 18 (some (.ref a) :: lv) (.ref a :: st) h Q := WP_st rfl
theorem S77_18 (hs : shp a = some (0, 7)) : WP d 77 18 lv (.ref a :: st) h Q ↔ WP d 77 21 lv (.ref (RV a 2) :: st) h Q := WP_getR (r := 450) rfl hs (by decide)
theorem S77_21 (hs : shp a = some (0, 3)) : WP d 77 21 lv (.ref a :: st) h Q ↔ WP d 77 24 lv (.ref (RV a 7) :: st) h Q := WP_getR (r := 199) rfl hs (by decide)
theorem S77_24 : WP d 77 24 (a0 :: some (.int x) :: lv) st h Q ↔ WP d 77 25 (a0 :: some (.int x) :: lv) (.int x :: st) h Q := WP_st rfl
theorem S77_25 (hi : okA 1 a i) : WP d 77 25 lv (.int i :: .ref a :: st) h Q ↔ WP d 77 26 lv (.int (h.1 a i.toNatClampNeg) :: st) h Q := WP_iald rfl hi
theorem S77_26 : WP d 77 26 (a0 :: a1 :: some (.int x) :: lv) st h Q ↔ WP d 77 27 (a0 :: a1 :: some (.int x) :: lv) (.int x :: st) h Q := WP_st rfl
theorem S77_27 : WP d 77 27 lv (.int y :: .int x :: st) h Q ↔ if x = y then WP d 77 30 lv st h Q else WP d 77 32 lv st h Q := WP_br rfl
theorem S77_30 : WP d 77 30 lv st h Q ↔ WP d 77 31 lv (.int 1 :: st) h Q := WP_st rfl
theorem S77_31 : WP d 77 31 lv [.int x] h Q ↔ Q (some (some (.int x))) h := WP_end rfl rfl rfl
theorem S77_32 : WP d 77 32 (some (.ref a) :: lv) st h Q ↔ WP d 77 33 (some (.ref a) :: lv) (.ref a :: st) h Q := WP_st rfl
theorem S77_33 {pr0 : Nat} (hs : shp pr0 = some (0, 7)) : WP (d + 1) 77 33 lv [.ref pr0] h Q ↔ WP d 88 0 [some (.ref pr0)] [] h (kV (d + 1) 77 36 lv [] Q) := WP_callVV rfl rfl rfl rfl rfl hs
theorem S77_36 : WP d 77 36 (some (.ref a) :: lv) st h Q ↔ WP d 77 37 (some (.ref a) :: lv) (.ref a :: st) h Q := WP_st rfl
theorem S77_37 (hs : shp a = some (0, 7)) : WP d 77 37 lv (.ref a :: st) h Q ↔ WP d 77 40 lv (.ref (RV a 2) :: st) h Q := WP_getR (r := 450) rfl hs (by decide)
theorem S77_40 (hs : shp a = some (0, 3)) : WP d 77 40 lv (.ref a :: st) h Q ↔ WP d 77 43 lv (.ref (RV a 7) :: st) h Q := WP_getR (r := 199) rfl hs (by decide)
theorem S77_43 : WP d 77 43 (a0 :: some (.int x) :: lv) st h Q ↔ WP d 77 44 (a0 :: some (.int x) :: lv) (.int x :: st) h Q := WP_st rfl
theorem S77_44 : WP d 77 44 (a0 :: a1 :: some (.int x) :: lv) st h Q ↔ WP d 77 45 (a0 :: a1 :: some (.int x) :: lv) (.int x :: st) h Q := WP_st rfl
theorem S77_45 (hi : okA 1 a i) : WP d 77 45 lv (.int x :: .int i :: .ref a :: st) h Q ↔ WP d 77 46 lv st (setI h a i.toNatClampNeg x) Q := WP_iast rfl hi
theorem S77_46 : WP d 77 46 lv st h Q ↔ WP d 77 47 lv (.int 0 :: st) h Q := WP_st rfl
theorem S77_47 : WP d 77 47 lv [.int x] h Q ↔ Q (some (some (.int x))) h := WP_end rfl rfl rfl
theorem S78_0 : WP d 78 0 (some (.ref a) :: lv) st h Q ↔ WP d 78 1 (some (.ref a) :: lv) (.ref a :: st) h Q := WP_st rfl
theorem S78_1 : WP d 78 1 (a0 :: some (.int x) :: lv) st h Q ↔ WP d 78 2 (a0 :: some (.int x) :: lv) (.int x :: st) h Q := WP_st rfl
theorem S78_2 {pr0 : Nat} {pi0 : Int32} (hs : shp pr0 = some (0, 7)) : WP (d + 1) 78 2 lv [.int pi0, .ref pr0] h Q ↔ WP d 90 0 [some (.ref pr0), some (.int pi0)] [] h (kR (d + 1) 78 5 lv [] Q) := WP_callVR rfl rfl rfl rfl rfl hs
theorem S78_5 : WP d 78 5 lv (.int x :: st) h Q ↔ if x = 0 then WP d 78 15 lv st h Q else WP d 78 8 lv st h Q := WP_br rfl
theorem S78_8 : WP d 78 8 (a0 :: a1 :: some (.int x) :: lv) st h Q ↔ WP d 78 9 (a0 :: a1 :: some (.int x) :: lv) (.int x :: st) h Q := WP_st rfl
theorem S78_9 {pi0 : Int32} : WP (d + 1) 78 9 lv [.int pi0] h Q ↔ WP d 95 0 [some (.int pi0)] [] h (kR (d + 1) 78 12 lv [] Q) := WP_callSR rfl rfl rfl rfl rfl
theorem S78_12 : WP d 78 12 lv (.int x :: st) h Q ↔ if x = 0 then WP d 78 15 lv st h Q else WP d 78 17 lv st h Q := WP_br rfl
theorem S78_15 : WP d 78 15 lv st h Q ↔ WP d 78 16 lv (.int (-1) :: st) h Q := WP_st rfl
theorem S78_16 : WP d 78 16 lv [.int x] h Q ↔ Q (some (some (.int x))) h := WP_end rfl rfl rfl
theorem S78_17 : WP d 78 17 (some (.ref a) :: lv) st h Q ↔ WP d 78 18 (some (.ref a) :: lv) (.ref a :: st) h Q := WP_st rfl
theorem S78_18 (hs : shp a = some (0, 7)) : WP d 78 18 lv (.ref a :: st) h Q ↔ WP d 78 21 lv (.ref (RV a 2) :: st) h Q := WP_getR (r := 450) rfl hs (by decide)
theorem S78_21 (hs : shp a = some (0, 3)) : WP d 78 21 lv (.ref a :: st) h Q ↔ WP d 78 24 lv (.ref (RV a 8) :: st) h Q := WP_getR (r := 200) rfl hs (by decide)
theorem S78_24 : WP d 78 24 (a0 :: some (.int x) :: lv) st h Q ↔ WP d 78 25 (a0 :: some (.int x) :: lv) (.int x :: st) h Q := WP_st rfl
theorem S78_25 (hi : okA 1 a i) : WP d 78 25 lv (.int i :: .ref a :: st) h Q ↔ WP d 78 26 lv (.int (h.1 a i.toNatClampNeg) :: st) h Q := WP_iald rfl hi
theorem S78_26 : WP d 78 26 (a0 :: a1 :: some (.int x) :: lv) st h Q ↔ WP d 78 27 (a0 :: a1 :: some (.int x) :: lv) (.int x :: st) h Q := WP_st rfl
theorem S78_27 : WP d 78 27 lv (.int y :: .int x :: st) h Q ↔ if x = y then WP d 78 30 lv st h Q else WP d 78 32 lv st h Q := WP_br rfl
theorem S78_30 : WP d 78 30 lv st h Q ↔ WP d 78 31 lv (.int 1 :: st) h Q := WP_st rfl
theorem S78_31 : WP d 78 31 lv [.int x] h Q ↔ Q (some (some (.int x))) h := WP_end rfl rfl rfl
theorem S78_32 : WP d 78 32 (some (.ref a) :: lv) st h Q ↔ WP d 78 33 (some (.ref a) :: lv) (.ref a :: st) h Q := WP_st rfl
theorem S78_33 {pr0 : Nat} (hs : shp pr0 = some (0, 7)) : WP (d + 1) 78 33 lv [.ref pr0] h Q ↔ WP d 88 0 [some (.ref pr0)] [] h (kV (d + 1) 78 36 lv [] Q) := WP_callVV rfl rfl rfl rfl rfl hs
theorem S78_36 : WP d 78 36 (some (.ref a) :: lv) st h Q ↔ WP d 78 37 (some (.ref a) :: lv) (.ref a :: st) h Q := WP_st rfl
theorem S78_37 (hs : shp a = some (0, 7)) : WP d 78 37 lv (.ref a :: st) h Q ↔ WP d 78 40 lv (.ref (RV a 2) :: st) h Q := WP_getR (r := 450) rfl hs (by decide)
theorem S78_40 (hs : shp a = some (0, 3)) : WP d 78 40 lv (.ref a :: st) h Q ↔ WP d 78 43 lv (.ref (RV a 8) :: st) h Q := WP_getR (r := 200) rfl hs (by decide)
theorem S78_43 : WP d 78 43 (a0 :: some (.int x) :: lv) st h Q ↔ WP d 78 44 (a0 :: some (.int x) :: lv) (.int x :: st) h Q := WP_st rfl
theorem S78_44 : WP d 78 44 (a0 :: a1 :: some (.int x) :: lv) st h Q ↔ WP d 78 45 (a0 :: a1 :: some (.int x) :: lv) (.int x :: st) h Q := WP_st rfl
theorem S78_45 (hi : okA 1 a i) : WP d 78 45 lv (.int x :: .int i :: .ref a :: st) h Q ↔ WP d 78 46 lv st (setI h a i.toNatClampNeg x) Q := WP_iast rfl hi
theorem S78_46 : WP d 78 46 lv st h Q ↔ WP d 78 47 lv (.int 0 :: st) h Q := WP_st rfl
theorem S78_47 : WP d 78 47 lv [.int x] h Q ↔ Q (some (some (.int x))) h := WP_end rfl rfl rfl
theorem S79_0 : WP d 79 0 (some (.ref a) :: lv) st h Q ↔ WP d 79 1 (some (.ref a) :: lv) (.ref a :: st) h Q := WP_st rfl
theorem S79_1 : WP d 79 1 (a0 :: some (.int x) :: lv) st h Q ↔ WP d 79 2 (a0 :: some (.int x) :: lv) (.int x :: st) h Q := WP_st rfl
theorem S79_2 {pr0 : Nat} {pi0 : Int32} (hs : shp pr0 = some (0, 7)) : WP (d + 1) 79 2 lv [.int pi0, .ref pr0] h Q ↔ WP d 89 0 [some (.ref pr0), some (.int pi0)] [] h (kR (d + 1) 79 5 lv [] Q) := WP_callVR rfl rfl rfl rfl rfl hs
theorem S79_5 : WP d 79 5 lv (.int x :: st) h Q ↔ if x = 0 then WP d 79 25 lv st h Q else WP d 79 8 lv st h Q := WP_br rfl
theorem S79_8 : WP d 79 8 (some (.ref a) :: lv) st h Q ↔ WP d 79 9 (some (.ref a) :: lv) (.ref a :: st) h Q := WP_st rfl
theorem S79_9 : WP d 79 9 (a0 :: a1 :: some (.int x) :: lv) st h Q ↔ WP d 79 10 (a0 :: a1 :: some (.int x) :: lv) (.int x :: st) h Q := WP_st rfl
theorem S79_10 {pr0 : Nat} {pi0 : Int32} (hs : shp pr0 = some (0, 7)) : WP (d + 1) 79 10 lv [.int pi0, .ref pr0] h Q ↔ WP d 89 0 [some (.ref pr0), some (.int pi0)] [] h (kR (d + 1) 79 13 lv [] Q) := WP_callVR rfl rfl rfl rfl rfl hs
theorem S79_13 : WP d 79 13 lv (.int x :: st) h Q ↔ if x = 0 then WP d 79 25 lv st h Q else WP d 79 16 lv st h Q := WP_br rfl
theorem S79_16 : WP d 79 16 (a0 :: some (.int x) :: lv) st h Q ↔ WP d 79 17 (a0 :: some (.int x) :: lv) (.int x :: st) h Q := WP_st rfl
theorem S79_17 : WP d 79 17 (a0 :: a1 :: some (.int x) :: lv) st h Q ↔ WP d 79 18 (a0 :: a1 :: some (.int x) :: lv) (.int x :: st) h Q := WP_st rfl
theorem S79_18 : WP d 79 18 lv (.int y :: .int x :: st) h Q ↔ if x = y then WP d 79 25 lv st h Q else WP d 79 21 lv st h Q := WP_br rfl
theorem S79_21 : WP d 79 21 lv st h Q ↔ WP d 79 22 lv (.int 1 :: st) h Q := WP_st rfl
theorem S79_22 : WP d 79 22 lv st h Q ↔ WP d 79 26 lv st h Q := WP_st rfl
theorem S79_25 : WP d 79 25 lv st h Q ↔ WP d 79 26 lv (.int 0 :: st) h Q := WP_st rfl
theorem S79_26 : WP d 79 26 (a0 :: a1 :: a2v :: a3 :: a4 :: a5 :: lv) (.int x :: st) h Q ↔ WP d 79 28 (a0 :: a1 :: a2v :: a3 :: kl a4 :: some (.int x) :: lv) st h Q := WP_st (by rfl)
theorem S79_28 : WP d 79 28 (some (.ref a) :: lv) st h Q ↔ WP d 79 29 (some (.ref a) :: lv) (.ref a :: st) h Q := WP_st rfl
theorem S79_29 (hs : shp a = some (0, 7)) : WP d 79 29 lv (.ref a :: st) h Q ↔ WP d 79 32 lv (.ref (RV a 2) :: st) h Q := WP_getR (r := 450) rfl hs (by decide)
theorem S79_32 (hs : shp a = some (0, 3)) : WP d 79 32 lv (.ref a :: st) h Q ↔ WP d 79 35 lv (.int (h.1 a 3) :: st) h Q := WP_getI (r := 195) rfl hs (by decide)
theorem S79_35 : WP d 79 35 lv st h Q ↔ WP d 79 37 lv (.int 11 :: st) h Q := WP_st rfl
theorem S79_37 : WP d 79 37 lv (.int y :: .int x :: st) h Q ↔ if y ≤ x then WP d 79 60 lv st h Q else WP d 79 40 lv st h Q := WP_br rfl
theorem S79_40 : WP d 79 40 (a0 :: a1 :: a2v :: a3 :: a4 :: some (.int x) :: lv) st h Q ↔ WP d 79 42 (a0 :: a1 :: a2v :: a3 :: a4 :: some (.int x) :: lv) (.int x :: st) h Q := WP_st rfl
theorem S79_42 : WP d 79 42 lv (.int x :: st) h Q ↔ if x = 0 then WP d 79 60 lv st h Q else WP d 79 45 lv st h Q := WP_br rfl
theorem S79_45 : WP d 79 45 (a0 :: a1 :: a2v :: some (.int x) :: lv) st h Q ↔ WP d 79 46 (a0 :: a1 :: a2v :: some (.int x) :: lv) (.int x :: st) h Q := WP_st rfl
theorem S79_46 {pi0 : Int32} : WP (d + 1) 79 46 lv [.int pi0] h Q ↔ WP d 94 0 [some (.int pi0)] [] h (kR (d + 1) 79 49 lv [] Q) := WP_callSR rfl rfl rfl rfl rfl
theorem S79_49 : WP d 79 49 lv (.int x :: st) h Q ↔ if x = 0 then WP d 79 60 lv st h Q else WP d 79 52 lv st h Q := WP_br rfl
theorem S79_52 : WP d 79 52 (a0 :: a1 :: a2v :: a3 :: some (.int x) :: lv) st h Q ↔ WP d 79 54 (a0 :: a1 :: a2v :: a3 :: some (.int x) :: lv) (.int x :: st) h Q := WP_st rfl
theorem S79_54 {pi0 : Int32} : WP (d + 1) 79 54 lv [.int pi0] h Q ↔ WP d 95 0 [some (.int pi0)] [] h (kR (d + 1) 79 57 lv [] Q) := WP_callSR rfl rfl rfl rfl rfl
theorem S79_57 : WP d 79 57 lv (.int x :: st) h Q ↔ if x = 0 then WP d 79 60 lv st h Q else WP d 79 62 lv st h Q := WP_br rfl
theorem S79_60 : WP d 79 60 lv st h Q ↔ WP d 79 61 lv (.int (-1) :: st) h Q := WP_st rfl
theorem S79_61 : WP d 79 61 lv [.int x] h Q ↔ Q (some (some (.int x))) h := WP_end rfl rfl rfl
theorem S79_62 : WP d 79 62 (some (.ref a) :: lv) st h Q ↔ WP d 79 63 (some (.ref a) :: lv) (.ref a :: st) h Q := WP_st rfl
theorem S79_63 {pr0 : Nat} (hs : shp pr0 = some (0, 7)) : WP (d + 1) 79 63 lv [.ref pr0] h Q ↔ WP d 88 0 [some (.ref pr0)] [] h (kV (d + 1) 79 66 lv [] Q) := WP_callVV rfl rfl rfl rfl rfl hs
theorem S79_66 : WP d 79 66 (some (.ref a) :: lv) st h Q ↔ WP d 79 67 (some (.ref a) :: lv) (.ref a :: st) h Q := WP_st rfl
theorem S79_67 (hs : shp a = some (0, 7)) : WP d 79 67 lv (.ref a :: st) h Q ↔ WP d 79 70 lv (.ref (RV a 2) :: st) h Q := WP_getR (r := 450) rfl hs (by decide)
theorem S79_70 : WP d 79 70 (a0 :: some (.int x) :: lv) st h Q ↔ WP d 79 71 (a0 :: some (.int x) :: lv) (.int x :: st) h Q := WP_st rfl
theorem S79_71 : WP d 79 71 (a0 :: a1 :: some (.int x) :: lv) st h Q ↔ WP d 79 72 (a0 :: a1 :: some (.int x) :: lv) (.int x :: st) h Q := WP_st rfl
theorem S79_72 : WP d 79 72 (a0 :: a1 :: a2v :: some (.int x) :: lv) st h Q ↔ WP d 79 73 (a0 :: a1 :: a2v :: some (.int x) :: lv) (.int x :: st) h Q := WP_st rfl
theorem S79_73 : WP d 79 73 (a0 :: a1 :: a2v :: a3 :: some (.int x) :: lv) st h Q ↔ WP d 79 75 (a0 :: a1 :: a2v :: a3 :: some (.int x) :: lv) (.int x :: st) h Q := WP_st rfl
theorem S79_75 {pr0 : Nat} {pi0 : Int32} {pi1 : Int32} {pi2 : Int32} {pi3 : Int32} (hs : shp pr0 = some (0, 3)) : WP (d + 1) 79 75 lv [.int pi3, .int pi2, .int pi1, .int pi0, .ref pr0] h Q ↔ WP d 27 0 [some (.ref pr0), some (.int pi0), some (.int pi1), some (.int pi2), some (.int pi3), none] [] h (kR (d + 1) 79 78 lv [] Q) := WP_callVR rfl rfl rfl rfl rfl hs
theorem S79_78 : WP d 79 78 lv [.int x] h Q ↔ Q (some (some (.int x))) h := WP_end rfl rfl rfl
theorem S80_0 : WP d 80 0 (some (.ref a) :: lv) st h Q ↔ WP d 80 1 (some (.ref a) :: lv) (.ref a :: st) h Q := WP_st rfl
theorem S80_1 : WP d 80 1 (a0 :: some (.int x) :: lv) st h Q ↔ WP d 80 2 (a0 :: some (.int x) :: lv) (.int x :: st) h Q := WP_st rfl
theorem S80_2 {pr0 : Nat} {pi0 : Int32} (hs : shp pr0 = some (0, 7)) : WP (d + 1) 80 2 lv [.int pi0, .ref pr0] h Q ↔ WP d 89 0 [some (.ref pr0), some (.int pi0)] [] h (kR (d + 1) 80 5 lv [] Q) := WP_callVR rfl rfl rfl rfl rfl hs
theorem S80_5 : WP d 80 5 lv (.int x :: st) h Q ↔ if x = 0 then WP d 80 15 lv st h Q else WP d 80 8 lv st h Q := WP_br rfl
theorem S80_8 : WP d 80 8 (a0 :: a1 :: some (.int x) :: lv) st h Q ↔ WP d 80 9 (a0 :: a1 :: some (.int x) :: lv) (.int x :: st) h Q := WP_st rfl
theorem S80_9 {pi0 : Int32} : WP (d + 1) 80 9 lv [.int pi0] h Q ↔ WP d 94 0 [some (.int pi0)] [] h (kR (d + 1) 80 12 lv [] Q) := WP_callSR rfl rfl rfl rfl rfl
theorem S80_12 : WP d 80 12 lv (.int x :: st) h Q ↔ if x = 0 then WP d 80 15 lv st h Q else WP d 80 17 lv st h Q := WP_br rfl
theorem S80_15 : WP d 80 15 lv st h Q ↔ WP d 80 16 lv (.int (-1) :: st) h Q := WP_st rfl
theorem S80_16 : WP d 80 16 lv [.int x] h Q ↔ Q (some (some (.int x))) h := WP_end rfl rfl rfl
theorem S80_17 : WP d 80 17 (some (.ref a) :: lv) st h Q ↔ WP d 80 18 (some (.ref a) :: lv) (.ref a :: st) h Q := WP_st rfl
theorem S80_18 (hs : shp a = some (0, 7)) : WP d 80 18 lv (.ref a :: st) h Q ↔ WP d 80 21 lv (.ref (RV a 2) :: st) h Q := WP_getR (r := 450) rfl hs (by decide)
theorem S80_21 : WP d 80 21 (a0 :: some (.int x) :: lv) st h Q ↔ WP d 80 22 (a0 :: some (.int x) :: lv) (.int x :: st) h Q := WP_st rfl
theorem S80_22 {pr0 : Nat} {pi0 : Int32} (hs : shp pr0 = some (0, 3)) : WP (d + 1) 80 22 lv [.int pi0, .ref pr0] h Q ↔ WP d 28 0 [some (.ref pr0), some (.int pi0)] [] h (kR (d + 1) 80 25 lv [] Q) := WP_callVR rfl rfl rfl rfl rfl hs
theorem S80_25 : WP d 80 25 lv (.int x :: st) h Q ↔ if x = 0 then WP d 80 43 lv st h Q else WP d 80 28 lv st h Q := WP_br rfl
theorem S80_28 : WP d 80 28 (some (.ref a) :: lv) st h Q ↔ WP d 80 29 (some (.ref a) :: lv) (.ref a :: st) h Q := WP_st rfl
theorem S80_29 (hs : shp a = some (0, 7)) : WP d 80 29 lv (.ref a :: st) h Q ↔ WP d 80 32 lv (.ref (RV a 2) :: st) h Q := WP_getR (r := 450) rfl hs (by decide)
theorem S80_32 (hs : shp a = some (0, 3)) : WP d 80 32 lv (.ref a :: st) h Q ↔ WP d 80 35 lv (.ref (RV a 2) :: st) h Q := WP_getR (r := 194) rfl hs (by decide)
theorem S80_35 : WP d 80 35 (a0 :: some (.int x) :: lv) st h Q ↔ WP d 80 36 (a0 :: some (.int x) :: lv) (.int x :: st) h Q := WP_st rfl
theorem S80_36 (hi : okA 1 a i) : WP d 80 36 lv (.int i :: .ref a :: st) h Q ↔ WP d 80 37 lv (.int (h.1 a i.toNatClampNeg) :: st) h Q := WP_iald rfl hi
theorem S80_37 : WP d 80 37 (a0 :: a1 :: some (.int x) :: lv) st h Q ↔ WP d 80 38 (a0 :: a1 :: some (.int x) :: lv) (.int x :: st) h Q := WP_st rfl
theorem S80_38 : WP d 80 38 lv (.int y :: .int x :: st) h Q ↔ if x = y then WP d 80 41 lv st h Q else WP d 80 43 lv st h Q := WP_br rfl
theorem S80_41 : WP d 80 41 lv st h Q ↔ WP d 80 42 lv (.int 1 :: st) h Q := WP_st rfl
theorem S80_42 : WP d 80 42 lv [.int x] h Q ↔ Q (some (some (.int x))) h := WP_end rfl rfl rfl
theorem S80_43 : WP d 80 43 (some (.ref a) :: lv) st h Q ↔ WP d 80 44 (some (.ref a) :: lv) (.ref a :: st) h Q := WP_st rfl
theorem S80_44 {pr0 : Nat} (hs : shp pr0 = some (0, 7)) : WP (d + 1) 80 44 lv [.ref pr0] h Q ↔ WP d 88 0 [some (.ref pr0)] [] h (kV (d + 1) 80 47 lv [] Q) := WP_callVV rfl rfl rfl rfl rfl hs
theorem S80_47 : WP d 80 47 (some (.ref a) :: lv) st h Q ↔ WP d 80 48 (some (.ref a) :: lv) (.ref a :: st) h Q := WP_st rfl
theorem S80_48 (hs : shp a = some (0, 7)) : WP d 80 48 lv (.ref a :: st) h Q ↔ WP d 80 51 lv (.ref (RV a 2) :: st) h Q := WP_getR (r := 450) rfl hs (by decide)
theorem S80_51 : WP d 80 51 lv (.ref a :: st) h Q ↔ WP d 80 52 lv (.ref a :: .ref a :: st) h Q := WP_st rfl
theorem S80_52 (hs : shp a = some (0, 3)) : WP d 80 52 lv (.ref a :: st) h Q ↔ WP d 80 55 lv (.int (h.1 a 1) :: st) h Q := WP_getI (r := 193) rfl hs (by decide)
theorem S80_55 : WP d 80 55 lv st h Q ↔ WP d 80 56 lv (.int 1 :: st) h Q := WP_st rfl
theorem S80_56 : WP d 80 56 (a0 :: some (.int x) :: lv) st h Q ↔ WP d 80 57 (a0 :: some (.int x) :: lv) (.int x :: st) h Q := WP_st rfl
theorem S80_57 : WP d 80 57 lv (.int y :: .int x :: st) h Q ↔ WP d 80 58 lv (.int (x <<< (y &&& 31)) :: st) h Q := WP_st rfl
theorem S80_58 : WP d 80 58 lv (.int y :: .int x :: st) h Q ↔ WP d 80 59 lv (.int (x ||| y) :: st) h Q := WP_st rfl
theorem S80_59 (hs : shp a = some (0, 3)) : WP d 80 59 lv (.int x :: .ref a :: st) h Q ↔ WP d 80 62 lv st (setI h a 1 x) Q := WP_putI (r := 193) rfl hs (by decide)
theorem S80_62 : WP d 80 62 (some (.ref a) :: lv) st h Q ↔ WP d 80 63 (some (.ref a) :: lv) (.ref a :: st) h Q := WP_st rfl
theorem S80_63 (hs : shp a = some (0, 7)) : WP d 80 63 lv (.ref a :: st) h Q ↔ WP d 80 66 lv (.ref (RV a 2) :: st) h Q := WP_getR (r := 450) rfl hs (by decide)
theorem S80_66 (hs : shp a = some (0, 3)) : WP d 80 66 lv (.ref a :: st) h Q ↔ WP d 80 69 lv (.ref (RV a 2) :: st) h Q := WP_getR (r := 194) rfl hs (by decide)
theorem S80_69 : WP d 80 69 (a0 :: some (.int x) :: lv) st h Q ↔ WP d 80 70 (a0 :: some (.int x) :: lv) (.int x :: st) h Q := WP_st rfl
theorem S80_70 : WP d 80 70 (a0 :: a1 :: some (.int x) :: lv) st h Q ↔ WP d 80 71 (a0 :: a1 :: some (.int x) :: lv) (.int x :: st) h Q := WP_st rfl
theorem S80_71 (hi : okA 1 a i) : WP d 80 71 lv (.int x :: .int i :: .ref a :: st) h Q ↔ WP d 80 72 lv st (setI h a i.toNatClampNeg x) Q := WP_iast rfl hi
theorem S80_72 : WP d 80 72 lv st h Q ↔ WP d 80 73 lv (.int 0 :: st) h Q := WP_st rfl
theorem S80_73 : WP d 80 73 lv [.int x] h Q ↔ Q (some (some (.int x))) h := WP_end rfl rfl rfl
theorem S81_0 : WP d 81 0 (some (.ref a) :: lv) st h Q ↔ WP d 81 1 (some (.ref a) :: lv) (.ref a :: st) h Q := WP_st rfl
theorem S81_1 : WP d 81 1 (a0 :: some (.int x) :: lv) st h Q ↔ WP d 81 2 (a0 :: some (.int x) :: lv) (.int x :: st) h Q := WP_st rfl
theorem S81_2 {pr0 : Nat} {pi0 : Int32} (hs : shp pr0 = some (0, 7)) : WP (d + 1) 81 2 lv [.int pi0, .ref pr0] h Q ↔ WP d 89 0 [some (.ref pr0), some (.int pi0)] [] h (kR (d + 1) 81 5 lv [] Q) := WP_callVR rfl rfl rfl rfl rfl hs
theorem S81_5 : WP d 81 5 lv (.int x :: st) h Q ↔ if x = 0 then WP d 81 8 lv st h Q else WP d 81 10 lv st h Q := WP_br rfl
theorem S81_8 : WP d 81 8 lv st h Q ↔ WP d 81 9 lv (.int (-1) :: st) h Q := WP_st rfl
theorem S81_9 : WP d 81 9 lv [.int x] h Q ↔ Q (some (some (.int x))) h := WP_end rfl rfl rfl
theorem S81_10 : WP d 81 10 (some (.ref a) :: lv) st h Q ↔ WP d 81 11 (some (.ref a) :: lv) (.ref a :: st) h Q := WP_st rfl
theorem S81_11 (hs : shp a = some (0, 7)) : WP d 81 11 lv (.ref a :: st) h Q ↔ WP d 81 14 lv (.ref (RV a 2) :: st) h Q := WP_getR (r := 450) rfl hs (by decide)
theorem S81_14 : WP d 81 14 (a0 :: some (.int x) :: lv) st h Q ↔ WP d 81 15 (a0 :: some (.int x) :: lv) (.int x :: st) h Q := WP_st rfl
theorem S81_15 {pr0 : Nat} {pi0 : Int32} (hs : shp pr0 = some (0, 3)) : WP (d + 1) 81 15 lv [.int pi0, .ref pr0] h Q ↔ WP d 28 0 [some (.ref pr0), some (.int pi0)] [] h (kR (d + 1) 81 18 lv [] Q) := WP_callVR rfl rfl rfl rfl rfl hs
theorem S81_18 : WP d 81 18 lv (.int x :: st) h Q ↔ if x = 0 then WP d 81 21 lv st h Q else WP d 81 23 lv st h Q := WP_br rfl
theorem S81_21 : WP d 81 21 lv st h Q ↔ WP d 81 22 lv (.int 1 :: st) h Q := WP_st rfl
theorem S81_22 : WP d 81 22 lv [.int x] h Q ↔ Q (some (some (.int x))) h := WP_end rfl rfl rfl
theorem S81_23 : WP d 81 23 (some (.ref a) :: lv) st h Q ↔ WP d 81 24 (some (.ref a) :: lv) (.ref a :: st) h Q := WP_st rfl
theorem S81_24 {pr0 : Nat} (hs : shp pr0 = some (0, 7)) : WP (d + 1) 81 24 lv [.ref pr0] h Q ↔ WP d 88 0 [some (.ref pr0)] [] h (kV (d + 1) 81 27 lv [] Q) := WP_callVV rfl rfl rfl rfl rfl hs
theorem S81_27 : WP d 81 27 (some (.ref a) :: lv) st h Q ↔ WP d 81 28 (some (.ref a) :: lv) (.ref a :: st) h Q := WP_st rfl
theorem S81_28 (hs : shp a = some (0, 7)) : WP d 81 28 lv (.ref a :: st) h Q ↔ WP d 81 31 lv (.ref (RV a 2) :: st) h Q := WP_getR (r := 450) rfl hs (by decide)
theorem S81_31 : WP d 81 31 lv (.ref a :: st) h Q ↔ WP d 81 32 lv (.ref a :: .ref a :: st) h Q := WP_st rfl
theorem S81_32 (hs : shp a = some (0, 3)) : WP d 81 32 lv (.ref a :: st) h Q ↔ WP d 81 35 lv (.int (h.1 a 1) :: st) h Q := WP_getI (r := 193) rfl hs (by decide)
theorem S81_35 : WP d 81 35 lv st h Q ↔ WP d 81 36 lv (.int 1 :: st) h Q := WP_st rfl
theorem S81_36 : WP d 81 36 (a0 :: some (.int x) :: lv) st h Q ↔ WP d 81 37 (a0 :: some (.int x) :: lv) (.int x :: st) h Q := WP_st rfl
theorem S81_37 : WP d 81 37 lv (.int y :: .int x :: st) h Q ↔ WP d 81 38 lv (.int (x <<< (y &&& 31)) :: st) h Q := WP_st rfl
theorem S81_38 : WP d 81 38 lv st h Q ↔ WP d 81 39 lv (.int (-1) :: st) h Q := WP_st rfl
theorem S81_39 : WP d 81 39 lv (.int y :: .int x :: st) h Q ↔ WP d 81 40 lv (.int (x ^^^ y) :: st) h Q := WP_st rfl
theorem S81_40 : WP d 81 40 lv (.int y :: .int x :: st) h Q ↔ WP d 81 41 lv (.int (x &&& y) :: st) h Q := WP_st rfl
theorem S81_41 (hs : shp a = some (0, 3)) : WP d 81 41 lv (.int x :: .ref a :: st) h Q ↔ WP d 81 44 lv st (setI h a 1 x) Q := WP_putI (r := 193) rfl hs (by decide)
theorem S81_44 : WP d 81 44 lv st h Q ↔ WP d 81 45 lv (.int 0 :: st) h Q := WP_st rfl
theorem S81_45 : WP d 81 45 lv [.int x] h Q ↔ Q (some (some (.int x))) h := WP_end rfl rfl rfl
theorem S82_0 : WP d 82 0 (a0 :: some (.int x) :: lv) st h Q ↔ WP d 82 1 (a0 :: some (.int x) :: lv) (.int x :: st) h Q := WP_st rfl
theorem S82_1 : WP d 82 1 lv st h Q ↔ WP d 82 2 lv (.int 1 :: st) h Q := WP_st rfl
theorem S82_2 : WP d 82 2 lv (.int y :: .int x :: st) h Q ↔ if x < y then WP d 82 11 lv st h Q else WP d 82 5 lv st h Q := WP_br rfl
theorem S82_5 : WP d 82 5 (a0 :: some (.int x) :: lv) st h Q ↔ WP d 82 6 (a0 :: some (.int x) :: lv) (.int x :: st) h Q := WP_st rfl
theorem S82_6 : WP d 82 6 lv st h Q ↔ WP d 82 8 lv (.int 60 :: st) h Q := WP_st rfl
theorem S82_8 : WP d 82 8 lv (.int y :: .int x :: st) h Q ↔ if x ≤ y then WP d 82 13 lv st h Q else WP d 82 11 lv st h Q := WP_br rfl
theorem S82_11 : WP d 82 11 lv st h Q ↔ WP d 82 12 lv (.int (-1) :: st) h Q := WP_st rfl
theorem S82_12 : WP d 82 12 lv [.int x] h Q ↔ Q (some (some (.int x))) h := WP_end rfl rfl rfl
theorem S82_13 : WP d 82 13 (some (.ref a) :: lv) st h Q ↔ WP d 82 14 (some (.ref a) :: lv) (.ref a :: st) h Q := WP_st rfl
theorem S82_14 (hs : shp a = some (0, 7)) : WP d 82 14 lv (.ref a :: st) h Q ↔ WP d 82 17 lv (.ref (RV a 2) :: st) h Q := WP_getR (r := 450) rfl hs (by decide)
theorem S82_17 (hs : shp a = some (0, 3)) : WP d 82 17 lv (.ref a :: st) h Q ↔ WP d 82 20 lv (.int (h.1 a 3) :: st) h Q := WP_getI (r := 195) rfl hs (by decide)
theorem S82_20 : WP d 82 20 lv (.int x :: st) h Q ↔ if 0 < x then WP d 82 25 lv st h Q else WP d 82 23 lv st h Q := WP_br rfl
theorem S82_23 : WP d 82 23 lv st h Q ↔ WP d 82 24 lv (.int 0 :: st) h Q := WP_st rfl
theorem S82_24 : WP d 82 24 lv [.int x] h Q ↔ Q (some (some (.int x))) h := WP_end rfl rfl rfl
theorem S82_25 : WP d 82 25 (some (.ref a) :: lv) st h Q ↔ WP d 82 26 (some (.ref a) :: lv) (.ref a :: st) h Q := WP_st rfl
theorem S82_26 (hs : shp a = some (0, 7)) : WP d 82 26 lv (.ref a :: st) h Q ↔ WP d 82 29 lv (.ref (RV a 3) :: st) h Q := WP_getR (r := 451) rfl hs (by decide)
theorem S82_29 : WP d 82 29 (some (.ref a) :: lv) st h Q ↔ WP d 82 30 (some (.ref a) :: lv) (.ref a :: st) h Q := WP_st rfl
theorem S82_30 (hs : shp a = some (0, 7)) : WP d 82 30 lv (.ref a :: st) h Q ↔ WP d 82 33 lv (.ref (RV a 2) :: st) h Q := WP_getR (r := 450) rfl hs (by decide)
theorem S82_33 {pr0 : Nat} {pr1 : Nat} (hs : shp pr0 = some (0, 3)) : WP (d + 1) 82 33 lv [.ref pr1, .ref pr0] h Q ↔ WP d 25 0 [some (.ref pr0), some (.ref pr1), none] [] h (kV (d + 1) 82 36 lv [] Q) := WP_callVV rfl rfl rfl rfl rfl hs
theorem S82_36 : WP d 82 36 lv st h Q ↔ WP d 82 37 lv (.int 0 :: st) h Q := WP_st rfl
theorem S82_37 : WP d 82 37 (a0 :: a1 :: a2v :: a3 :: lv) (.int x :: st) h Q ↔ WP d 82 38 (a0 :: a1 :: kl a2v :: some (.int x) :: lv) st h Q := WP_st (by rfl)
theorem S82_38 : WP d 82 38 (a0 :: a1 :: some (.int x) :: lv) st h Q ↔ WP d 82 39 (a0 :: a1 :: some (.int x) :: lv) (.int x :: st) h Q := WP_st rfl
theorem S82_39 : WP d 82 39 (a0 :: a1 :: a2v :: a3 :: a4 :: lv) (.int x :: st) h Q ↔ WP d 82 41 (a0 :: a1 :: a2v :: kl a3 :: some (.int x) :: lv) st h Q := WP_st (by rfl)
theorem S82_41 : WP d 82 41 lv st h Q ↔ WP d 82 42 lv (.int 0 :: st) h Q := WP_st rfl
theorem S82_42 : WP d 82 42 (a0 :: a1 :: a2v :: a3 :: a4 :: a5 :: lv) (.int x :: st) h Q ↔ WP d 82 44 (a0 :: a1 :: a2v :: a3 :: kl a4 :: some (.int x) :: lv) st h Q := WP_st (by rfl)
theorem S82_44 : WP d 82 44 (a0 :: a1 :: a2v :: a3 :: a4 :: some (.int x) :: lv) st h Q ↔ WP d 82 46 (a0 :: a1 :: a2v :: a3 :: a4 :: some (.int x) :: lv) (.int x :: st) h Q := WP_st rfl
theorem S82_46 : WP d 82 46 (a0 :: some (.int x) :: lv) st h Q ↔ WP d 82 47 (a0 :: some (.int x) :: lv) (.int x :: st) h Q := WP_st rfl
theorem S82_47 : WP d 82 47 lv (.int y :: .int x :: st) h Q ↔ if y ≤ x then WP d 82 139 lv st h Q else WP d 82 50 lv st h Q := WP_br rfl
theorem S82_50 : WP d 82 50 (a0 :: a1 :: a2v :: a3 :: some (.int x) :: lv) st h Q ↔ WP d 82 52 (a0 :: a1 :: a2v :: a3 :: some (.int x) :: lv) (.int x :: st) h Q := WP_st rfl
theorem S82_52 {pi0 : Int32} : WP (d + 1) 82 52 lv [.int pi0] h Q ↔ WP d 98 0 [some (.int pi0)] [] h (kR (d + 1) 82 55 lv [] Q) := WP_callSR rfl rfl rfl rfl rfl
theorem S82_55 : WP d 82 55 (a0 :: a1 :: a2v :: a3 :: a4 :: lv) (.int x :: st) h Q ↔ WP d 82 57 (a0 :: a1 :: a2v :: kl a3 :: some (.int x) :: lv) st h Q := WP_st (by rfl)
theorem S82_57 : WP d 82 57 (a0 :: a1 :: a2v :: a3 :: some (.int x) :: lv) st h Q ↔ WP d 82 59 (a0 :: a1 :: a2v :: a3 :: some (.int x) :: lv) (.int x :: st) h Q := WP_st rfl
theorem S82_59 : WP d 82 59 lv st h Q ↔ WP d 82 61 lv (.int 8 :: st) h Q := WP_st rfl
theorem S82_61 : WP d 82 61 lv (.int y :: .int x :: st) h Q ↔ WP d 82 62 lv (.int ((x.toUInt32 >>> (y.toUInt32 &&& Int32.toUInt32 31)).toInt32) :: st) h Q := WP_st rfl
theorem S82_62 : WP d 82 62 (some (.ref a) :: lv) st h Q ↔ WP d 82 63 (some (.ref a) :: lv) (.ref a :: st) h Q := WP_st rfl
theorem S82_63 (hs : shp a = some (0, 7)) : WP d 82 63 lv (.ref a :: st) h Q ↔ WP d 82 66 lv (.ref (RV a 2) :: st) h Q := WP_getR (r := 450) rfl hs (by decide)
theorem S82_66 (hs : shp a = some (0, 3)) : WP d 82 66 lv (.ref a :: st) h Q ↔ WP d 82 69 lv (.int (h.1 a 3) :: st) h Q := WP_getI (r := 195) rfl hs (by decide)
theorem S82_69 (hy : y ≠ 0) : WP d 82 69 lv (.int y :: .int x :: st) h Q ↔ WP d 82 70 lv (.int (x - x / y * y) :: st) h Q := WP_irem rfl hy
theorem S82_70 : WP d 82 70 (a0 :: a1 :: a2v :: a3 :: a4 :: a5 :: a6 :: lv) (.int x :: st) h Q ↔ WP d 82 72 (a0 :: a1 :: a2v :: a3 :: a4 :: kl a5 :: some (.int x) :: lv) st h Q := WP_st (by rfl)
theorem S82_72 : WP d 82 72 (a0 :: a1 :: a2v :: a3 :: some (.int x) :: lv) st h Q ↔ WP d 82 74 (a0 :: a1 :: a2v :: a3 :: some (.int x) :: lv) (.int x :: st) h Q := WP_st rfl
theorem S82_74 {pi0 : Int32} : WP (d + 1) 82 74 lv [.int pi0] h Q ↔ WP d 98 0 [some (.int pi0)] [] h (kR (d + 1) 82 77 lv [] Q) := WP_callSR rfl rfl rfl rfl rfl
theorem S82_77 : WP d 82 77 (a0 :: a1 :: a2v :: a3 :: a4 :: lv) (.int x :: st) h Q ↔ WP d 82 79 (a0 :: a1 :: a2v :: kl a3 :: some (.int x) :: lv) st h Q := WP_st (by rfl)
theorem S82_79 : WP d 82 79 (a0 :: a1 :: a2v :: a3 :: some (.int x) :: lv) st h Q ↔ WP d 82 81 (a0 :: a1 :: a2v :: a3 :: some (.int x) :: lv) (.int x :: st) h Q := WP_st rfl
theorem S82_81 : WP d 82 81 lv st h Q ↔ WP d 82 83 lv (.int 8 :: st) h Q := WP_st rfl
theorem S82_83 : WP d 82 83 lv (.int y :: .int x :: st) h Q ↔ WP d 82 84 lv (.int ((x.toUInt32 >>> (y.toUInt32 &&& Int32.toUInt32 31)).toInt32) :: st) h Q := WP_st rfl
theorem S82_84 : WP d 82 84 lv st h Q ↔ WP d 82 86 lv (.int 9 :: st) h Q := WP_st rfl
theorem S82_86 (hy : y ≠ 0) : WP d 82 86 lv (.int y :: .int x :: st) h Q ↔ WP d 82 87 lv (.int (x - x / y * y) :: st) h Q := WP_irem rfl hy
theorem S82_87 : WP d 82 87 lv st h Q ↔ WP d 82 88 lv (.int 4 :: st) h Q := WP_st rfl
theorem S82_88 : WP d 82 88 lv (.int y :: .int x :: st) h Q ↔ WP d 82 89 lv (.int (x - y) :: st) h Q := WP_st rfl
theorem S82_89 : WP d 82 89 (a0 :: a1 :: a2v :: a3 :: a4 :: a5 :: a6 :: a7 :: lv) (.int x :: st) h Q ↔ WP d 82 91 (a0 :: a1 :: a2v :: a3 :: a4 :: a5 :: kl a6 :: some (.int x) :: lv) st h Q := WP_st (by rfl)
theorem S82_91 : WP d 82 91 (a0 :: a1 :: a2v :: a3 :: a4 :: a5 :: a6 :: some (.int x) :: lv) st h Q ↔ WP d 82 93 (a0 :: a1 :: a2v :: a3 :: a4 :: a5 :: a6 :: some (.int x) :: lv) (.int x :: st) h Q := WP_st rfl
theorem S82_93 : WP d 82 93 lv (.int x :: st) h Q ↔ if x = 0 then WP d 82 133 lv st h Q else WP d 82 96 lv st h Q := WP_br rfl
theorem S82_96 : WP d 82 96 (some (.ref a) :: lv) st h Q ↔ WP d 82 97 (some (.ref a) :: lv) (.ref a :: st) h Q := WP_st rfl
theorem S82_97 (hs : shp a = some (0, 7)) : WP d 82 97 lv (.ref a :: st) h Q ↔ WP d 82 100 lv (.ref (RV a 2) :: st) h Q := WP_getR (r := 450) rfl hs (by decide)
theorem S82_100 (hs : shp a = some (0, 3)) : WP d 82 100 lv (.ref a :: st) h Q ↔ WP d 82 103 lv (.ref (RV a 7) :: st) h Q := WP_getR (r := 199) rfl hs (by decide)
theorem S82_103 : WP d 82 103 (a0 :: a1 :: a2v :: a3 :: a4 :: a5 :: some (.int x) :: lv) st h Q ↔ WP d 82 105 (a0 :: a1 :: a2v :: a3 :: a4 :: a5 :: some (.int x) :: lv) (.int x :: st) h Q := WP_st rfl
theorem S82_105 (hi : okA 1 a i) : WP d 82 105 lv (.int i :: .ref a :: st) h Q ↔ WP d 82 106 lv (.int (h.1 a i.toNatClampNeg) :: st) h Q := WP_iald rfl hi
theorem S82_106 : WP d 82 106 (a0 :: a1 :: a2v :: a3 :: a4 :: a5 :: a6 :: some (.int x) :: lv) st h Q ↔ WP d 82 108 (a0 :: a1 :: a2v :: a3 :: a4 :: a5 :: a6 :: some (.int x) :: lv) (.int x :: st) h Q := WP_st rfl
theorem S82_108 : WP d 82 108 lv (.int y :: .int x :: st) h Q ↔ WP d 82 109 lv (.int (x + y) :: st) h Q := WP_st rfl
theorem S82_109 {pi0 : Int32} : WP (d + 1) 82 109 lv [.int pi0] h Q ↔ WP d 94 0 [some (.int pi0)] [] h (kR (d + 1) 82 112 lv [] Q) := WP_callSR rfl rfl rfl rfl rfl
theorem S82_112 : WP d 82 112 lv (.int x :: st) h Q ↔ if x = 0 then WP d 82 133 lv st h Q else WP d 82 115 lv st h Q := WP_br rfl
theorem S82_115 : WP d 82 115 (some (.ref a) :: lv) st h Q ↔ WP d 82 116 (some (.ref a) :: lv) (.ref a :: st) h Q := WP_st rfl
theorem S82_116 (hs : shp a = some (0, 7)) : WP d 82 116 lv (.ref a :: st) h Q ↔ WP d 82 119 lv (.ref (RV a 2) :: st) h Q := WP_getR (r := 450) rfl hs (by decide)
theorem S82_119 (hs : shp a = some (0, 3)) : WP d 82 119 lv (.ref a :: st) h Q ↔ WP d 82 122 lv (.ref (RV a 7) :: st) h Q := WP_getR (r := 199) rfl hs (by decide)
theorem S82_122 : WP d 82 122 (a0 :: a1 :: a2v :: a3 :: a4 :: a5 :: some (.int x) :: lv) st h Q ↔ WP d 82 124 (a0 :: a1 :: a2v :: a3 :: a4 :: a5 :: some (.int x) :: lv) (.int x :: st) h Q := WP_st rfl
theorem S82_124 : WP d 82 124 lv (.int x :: .ref a :: st) h Q ↔ WP d 82 125 lv (.int x :: .ref a :: .int x :: .ref a :: st) h Q := WP_st rfl
theorem S82_125 (hi : okA 1 a i) : WP d 82 125 lv (.int i :: .ref a :: st) h Q ↔ WP d 82 126 lv (.int (h.1 a i.toNatClampNeg) :: st) h Q := WP_iald rfl hi
theorem S82_126 : WP d 82 126 (a0 :: a1 :: a2v :: a3 :: a4 :: a5 :: a6 :: some (.int x) :: lv) st h Q ↔ WP d 82 128 (a0 :: a1 :: a2v :: a3 :: a4 :: a5 :: a6 :: some (.int x) :: lv) (.int x :: st) h Q := WP_st rfl
theorem S82_128 : WP d 82 128 lv (.int y :: .int x :: st) h Q ↔ WP d 82 129 lv (.int (x + y) :: st) h Q := WP_st rfl
theorem S82_129 (hi : okA 1 a i) : WP d 82 129 lv (.int x :: .int i :: .ref a :: st) h Q ↔ WP d 82 130 lv st (setI h a i.toNatClampNeg x) Q := WP_iast rfl hi
theorem S82_130 : WP d 82 130 (a0 :: a1 :: a2v :: some (.int x) :: lv) st h Q ↔ WP d 82 133 (a0 :: a1 :: kl a2v :: some (.int (x + 1)) :: lv) st h Q := WP_st (by rfl)
theorem S82_133 : WP d 82 133 (a0 :: a1 :: a2v :: a3 :: a4 :: some (.int x) :: lv) st h Q ↔ WP d 82 136 (a0 :: a1 :: a2v :: a3 :: kl a4 :: some (.int (x + 1)) :: lv) st h Q := WP_st (by rfl)
theorem S82_136 : WP d 82 136 lv st h Q ↔ WP d 82 44 lv st h Q := WP_st rfl
theorem S82_139 : WP d 82 139 (a0 :: a1 :: a2v :: some (.int x) :: lv) st h Q ↔ WP d 82 140 (a0 :: a1 :: a2v :: some (.int x) :: lv) (.int x :: st) h Q := WP_st rfl
theorem S82_140 : WP d 82 140 lv (.int x :: st) h Q ↔ if x ≤ 0 then WP d 82 159 lv st h Q else WP d 82 143 lv st h Q := WP_br rfl
theorem S82_143 : WP d 82 143 (some (.ref a) :: lv) st h Q ↔ WP d 82 144 (some (.ref a) :: lv) (.ref a :: st) h Q := WP_st rfl
theorem S82_144 (hs : shp a = some (0, 7)) : WP d 82 144 lv (.ref a :: st) h Q ↔ WP d 82 147 lv (.ref (RV a 4) :: st) h Q := WP_getR (r := 452) rfl hs (by decide)
theorem S82_147 : WP d 82 147 (some (.ref a) :: lv) st h Q ↔ WP d 82 148 (some (.ref a) :: lv) (.ref a :: st) h Q := WP_st rfl
theorem S82_148 (hs : shp a = some (0, 7)) : WP d 82 148 lv (.ref a :: st) h Q ↔ WP d 82 151 lv (.ref (RV a 3) :: st) h Q := WP_getR (r := 451) rfl hs (by decide)
theorem S82_151 {pr0 : Nat} {pr1 : Nat} (hs : shp pr0 = some (0, 0)) : WP (d + 1) 82 151 lv [.ref pr1, .ref pr0] h Q ↔ WP d 0 0 [some (.ref pr0), some (.ref pr1)] [] h (kV (d + 1) 82 154 lv [] Q) := WP_callVV rfl rfl rfl rfl rfl hs
theorem S82_154 : WP d 82 154 (some (.ref a) :: lv) st h Q ↔ WP d 82 155 (some (.ref a) :: lv) (.ref a :: st) h Q := WP_st rfl
set_option maxRecDepth 20000 in
theorem S82_155 : WP d 82 155 lv st h Q ↔ WP d 82 156 lv (.int 1 :: st) h Q := WP_st rfl
set_option maxRecDepth 20000 in
theorem S82_156 (hs : shp a = some (0, 7)) (hx : isB x) : WP d 82 156 lv (.int x :: .ref a :: st) h Q ↔ WP d 82 159 lv st (setI h a 11 x) Q := WP_putZ (r := 459) rfl hs (by decide) hx
set_option maxRecDepth 20000 in
theorem S82_159 : WP d 82 159 (a0 :: a1 :: a2v :: some (.int x) :: lv) st h Q ↔ WP d 82 160 (a0 :: a1 :: a2v :: some (.int x) :: lv) (.int x :: st) h Q := WP_st rfl
set_option maxRecDepth 20000 in
theorem S82_160 : WP d 82 160 lv [.int x] h Q ↔ Q (some (some (.int x))) h := WP_end rfl rfl rfl
theorem S83_0 : WP d 83 0 (some (.ref a) :: lv) st h Q ↔ WP d 83 1 (some (.ref a) :: lv) (.ref a :: st) h Q := WP_st rfl
theorem S83_1 (hs : shp a = some (0, 7)) : WP d 83 1 lv (.ref a :: st) h Q ↔ WP d 83 4 lv (.ref (RV a 4) :: st) h Q := WP_getR (r := 452) rfl hs (by decide)
theorem S83_4 (hs : shp a = some (0, 0)) : WP d 83 4 lv (.ref a :: st) h Q ↔ WP d 83 7 lv (.int (h.1 a 2) :: st) h Q := WP_getI (r := 2) rfl hs (by decide)
theorem S83_7 : WP d 83 7 lv (.int x :: st) h Q ↔ if 0 < x then WP d 83 12 lv st h Q else WP d 83 10 lv st h Q := WP_br rfl
theorem S83_10 : WP d 83 10 lv st h Q ↔ WP d 83 11 lv (.int (-1) :: st) h Q := WP_st rfl
theorem S83_11 : WP d 83 11 lv [.int x] h Q ↔ Q (some (some (.int x))) h := WP_end rfl rfl rfl
theorem S83_12 : WP d 83 12 (some (.ref a) :: lv) st h Q ↔ WP d 83 13 (some (.ref a) :: lv) (.ref a :: st) h Q := WP_st rfl
theorem S83_13 (hs : shp a = some (0, 7)) : WP d 83 13 lv (.ref a :: st) h Q ↔ WP d 83 16 lv (.ref (RV a 4) :: st) h Q := WP_getR (r := 452) rfl hs (by decide)
theorem S83_16 : WP d 83 16 (some (.ref a) :: lv) st h Q ↔ WP d 83 17 (some (.ref a) :: lv) (.ref a :: st) h Q := WP_st rfl
theorem S83_17 (hs : shp a = some (0, 7)) : WP d 83 17 lv (.ref a :: st) h Q ↔ WP d 83 20 lv (.ref (RV a 2) :: st) h Q := WP_getR (r := 450) rfl hs (by decide)
theorem S83_20 {pr0 : Nat} {pr1 : Nat} (hs : shp pr0 = some (0, 0)) : WP (d + 1) 83 20 lv [.ref pr1, .ref pr0] h Q ↔ WP d 1 0 [some (.ref pr0), some (.ref pr1)] [] h (kV (d + 1) 83 23 lv [] Q) := WP_callVV rfl rfl rfl rfl rfl hs
theorem S83_23 : WP d 83 23 (some (.ref a) :: lv) st h Q ↔ WP d 83 24 (some (.ref a) :: lv) (.ref a :: st) h Q := WP_st rfl
theorem S83_24 : WP d 83 24 lv st h Q ↔ WP d 83 25 lv (.int 1 :: st) h Q := WP_st rfl
theorem S83_25 (hs : shp a = some (0, 7)) (hx : isB x) : WP d 83 25 lv (.int x :: .ref a :: st) h Q ↔ WP d 83 28 lv st (setI h a 11 x) Q := WP_putZ (r := 459) rfl hs (by decide) hx
theorem S83_28 : WP d 83 28 (some (.ref a) :: lv) st h Q ↔ WP d 83 29 (some (.ref a) :: lv) (.ref a :: st) h Q := WP_st rfl
theorem S83_29 (hs : shp a = some (0, 7)) : WP d 83 29 lv (.ref a :: st) h Q ↔ WP d 83 32 lv (.ref (RV a 4) :: st) h Q := WP_getR (r := 452) rfl hs (by decide)
theorem S83_32 (hs : shp a = some (0, 0)) : WP d 83 32 lv (.ref a :: st) h Q ↔ WP d 83 35 lv (.int (h.1 a 2) :: st) h Q := WP_getI (r := 2) rfl hs (by decide)
theorem S83_35 : WP d 83 35 lv [.int x] h Q ↔ Q (some (some (.int x))) h := WP_end rfl rfl rfl
theorem S84_0 : WP d 84 0 (a0 :: some (.int x) :: lv) st h Q ↔ WP d 84 1 (a0 :: some (.int x) :: lv) (.int x :: st) h Q := WP_st rfl
theorem S84_1 {pi0 : Int32} : WP (d + 1) 84 1 lv [.int pi0] h Q ↔ WP d 96 0 [some (.int pi0)] [] h (kR (d + 1) 84 4 lv [] Q) := WP_callSR rfl rfl rfl rfl rfl
theorem S84_4 : WP d 84 4 lv (.int x :: st) h Q ↔ if x = 0 then WP d 84 7 lv st h Q else WP d 84 9 lv st h Q := WP_br rfl
theorem S84_7 : WP d 84 7 lv st h Q ↔ WP d 84 8 lv (.int 0 :: st) h Q := WP_st rfl
theorem S84_8 (hx : isB x) : WP d 84 8 lv [.int x] h Q ↔ Q (some (some (.int x))) h := WP_endZ rfl rfl hx
theorem S84_9 : WP d 84 9 (some (.ref a) :: lv) st h Q ↔ WP d 84 10 (some (.ref a) :: lv) (.ref a :: st) h Q := WP_st rfl
theorem S84_10 (hs : shp a = some (0, 7)) : WP d 84 10 lv (.ref a :: st) h Q ↔ WP d 84 13 lv (.ref (RV a 5) :: st) h Q := WP_getR (r := 453) rfl hs (by decide)
theorem S84_13 : WP d 84 13 (a0 :: some (.int x) :: lv) st h Q ↔ WP d 84 14 (a0 :: some (.int x) :: lv) (.int x :: st) h Q := WP_st rfl
theorem S84_14 (hi : okR a i) : WP d 84 14 lv (.int i :: .ref a :: st) h Q ↔ WP d 84 15 lv (.ref (RV a i.toNatClampNeg) :: st) h Q := WP_aald rfl hi
theorem S84_15 : WP d 84 15 (some (.ref a) :: lv) st h Q ↔ WP d 84 16 (some (.ref a) :: lv) (.ref a :: st) h Q := WP_st rfl
theorem S84_16 (hs : shp a = some (0, 7)) : WP d 84 16 lv (.ref a :: st) h Q ↔ WP d 84 19 lv (.ref (RV a 2) :: st) h Q := WP_getR (r := 450) rfl hs (by decide)
theorem S84_19 {pr0 : Nat} {pr1 : Nat} (hs : shp pr0 = some (0, 3)) : WP (d + 1) 84 19 lv [.ref pr1, .ref pr0] h Q ↔ WP d 25 0 [some (.ref pr0), some (.ref pr1), none] [] h (kV (d + 1) 84 22 lv [] Q) := WP_callVV rfl rfl rfl rfl rfl hs
theorem S84_22 : WP d 84 22 (some (.ref a) :: lv) st h Q ↔ WP d 84 23 (some (.ref a) :: lv) (.ref a :: st) h Q := WP_st rfl
theorem S84_23 : WP d 84 23 lv (.ref a :: st) h Q ↔ WP d 84 24 lv (.ref a :: .ref a :: st) h Q := WP_st rfl
theorem S84_24 (hs : shp a = some (0, 7)) : WP d 84 24 lv (.ref a :: st) h Q ↔ WP d 84 27 lv (.int (h.1 a 6) :: st) h Q := WP_getI (r := 454) rfl hs (by decide)
theorem S84_27 : WP d 84 27 lv st h Q ↔ WP d 84 28 lv (.int 1 :: st) h Q := WP_st rfl
theorem S84_28 : WP d 84 28 (a0 :: some (.int x) :: lv) st h Q ↔ WP d 84 29 (a0 :: some (.int x) :: lv) (.int x :: st) h Q := WP_st rfl
theorem S84_29 : WP d 84 29 lv (.int y :: .int x :: st) h Q ↔ WP d 84 30 lv (.int (x <<< (y &&& 31)) :: st) h Q := WP_st rfl
theorem S84_30 : WP d 84 30 lv (.int y :: .int x :: st) h Q ↔ WP d 84 31 lv (.int (x ||| y) :: st) h Q := WP_st rfl
theorem S84_31 (hs : shp a = some (0, 7)) : WP d 84 31 lv (.int x :: .ref a :: st) h Q ↔ WP d 84 34 lv st (setI h a 6 x) Q := WP_putI (r := 454) rfl hs (by decide)
theorem S84_34 : WP d 84 34 lv st h Q ↔ WP d 84 35 lv (.int 1 :: st) h Q := WP_st rfl
theorem S84_35 (hx : isB x) : WP d 84 35 lv [.int x] h Q ↔ Q (some (some (.int x))) h := WP_endZ rfl rfl hx
theorem S85_0 : WP d 85 0 (a0 :: some (.int x) :: lv) st h Q ↔ WP d 85 1 (a0 :: some (.int x) :: lv) (.int x :: st) h Q := WP_st rfl
theorem S85_1 {pi0 : Int32} : WP (d + 1) 85 1 lv [.int pi0] h Q ↔ WP d 96 0 [some (.int pi0)] [] h (kR (d + 1) 85 4 lv [] Q) := WP_callSR rfl rfl rfl rfl rfl
theorem S85_4 : WP d 85 4 lv (.int x :: st) h Q ↔ if x = 0 then WP d 85 18 lv st h Q else WP d 85 7 lv st h Q := WP_br rfl
theorem S85_7 : WP d 85 7 (some (.ref a) :: lv) st h Q ↔ WP d 85 8 (some (.ref a) :: lv) (.ref a :: st) h Q := WP_st rfl
theorem S85_8 (hs : shp a = some (0, 7)) : WP d 85 8 lv (.ref a :: st) h Q ↔ WP d 85 11 lv (.int (h.1 a 6) :: st) h Q := WP_getI (r := 454) rfl hs (by decide)
theorem S85_11 : WP d 85 11 (a0 :: some (.int x) :: lv) st h Q ↔ WP d 85 12 (a0 :: some (.int x) :: lv) (.int x :: st) h Q := WP_st rfl
theorem S85_12 {pi0 : Int32} {pi1 : Int32} : WP (d + 1) 85 12 lv [.int pi1, .int pi0] h Q ↔ WP d 97 0 [some (.int pi0), some (.int pi1)] [] h (kR (d + 1) 85 15 lv [] Q) := WP_callSR rfl rfl rfl rfl rfl
theorem S85_15 : WP d 85 15 lv (.int x :: st) h Q ↔ if x = 0 then WP d 85 18 lv st h Q else WP d 85 20 lv st h Q := WP_br rfl
theorem S85_18 : WP d 85 18 lv st h Q ↔ WP d 85 19 lv (.int 0 :: st) h Q := WP_st rfl
theorem S85_19 (hx : isB x) : WP d 85 19 lv [.int x] h Q ↔ Q (some (some (.int x))) h := WP_endZ rfl rfl hx
theorem S85_20 : WP d 85 20 (some (.ref a) :: lv) st h Q ↔ WP d 85 21 (some (.ref a) :: lv) (.ref a :: st) h Q := WP_st rfl
theorem S85_21 (hs : shp a = some (0, 7)) : WP d 85 21 lv (.ref a :: st) h Q ↔ WP d 85 24 lv (.ref (RV a 2) :: st) h Q := WP_getR (r := 450) rfl hs (by decide)
theorem S85_24 : WP d 85 24 (some (.ref a) :: lv) st h Q ↔ WP d 85 25 (some (.ref a) :: lv) (.ref a :: st) h Q := WP_st rfl
theorem S85_25 (hs : shp a = some (0, 7)) : WP d 85 25 lv (.ref a :: st) h Q ↔ WP d 85 28 lv (.ref (RV a 5) :: st) h Q := WP_getR (r := 453) rfl hs (by decide)
theorem S85_28 : WP d 85 28 (a0 :: some (.int x) :: lv) st h Q ↔ WP d 85 29 (a0 :: some (.int x) :: lv) (.int x :: st) h Q := WP_st rfl
theorem S85_29 (hi : okR a i) : WP d 85 29 lv (.int i :: .ref a :: st) h Q ↔ WP d 85 30 lv (.ref (RV a i.toNatClampNeg) :: st) h Q := WP_aald rfl hi
theorem S85_30 {pr0 : Nat} {pr1 : Nat} (hs : shp pr0 = some (0, 3)) : WP (d + 1) 85 30 lv [.ref pr1, .ref pr0] h Q ↔ WP d 25 0 [some (.ref pr0), some (.ref pr1), none] [] h (kV (d + 1) 85 33 lv [] Q) := WP_callVV rfl rfl rfl rfl rfl hs
theorem S85_33 : WP d 85 33 (some (.ref a) :: lv) st h Q ↔ WP d 85 34 (some (.ref a) :: lv) (.ref a :: st) h Q := WP_st rfl
theorem S85_34 (hs : shp a = some (0, 7)) : WP d 85 34 lv (.ref a :: st) h Q ↔ WP d 85 37 lv (.ref (RV a 4) :: st) h Q := WP_getR (r := 452) rfl hs (by decide)
theorem S85_37 {pr0 : Nat} (hs : shp pr0 = some (0, 0)) : WP (d + 1) 85 37 lv [.ref pr0] h Q ↔ WP d 2 0 [some (.ref pr0)] [] h (kV (d + 1) 85 40 lv [] Q) := WP_callVV rfl rfl rfl rfl rfl hs
theorem S85_40 : WP d 85 40 (some (.ref a) :: lv) st h Q ↔ WP d 85 41 (some (.ref a) :: lv) (.ref a :: st) h Q := WP_st rfl
theorem S85_41 : WP d 85 41 lv st h Q ↔ WP d 85 42 lv (.int 1 :: st) h Q := WP_st rfl
theorem S85_42 (hs : shp a = some (0, 7)) (hx : isB x) : WP d 85 42 lv (.int x :: .ref a :: st) h Q ↔ WP d 85 45 lv st (setI h a 11 x) Q := WP_putZ (r := 459) rfl hs (by decide) hx
theorem S85_45 : WP d 85 45 lv st h Q ↔ WP d 85 46 lv (.int 1 :: st) h Q := WP_st rfl
theorem S85_46 (hx : isB x) : WP d 85 46 lv [.int x] h Q ↔ Q (some (some (.int x))) h := WP_endZ rfl rfl hx
theorem S86_0 : WP d 86 0 (some (.ref a) :: lv) st h Q ↔ WP d 86 1 (some (.ref a) :: lv) (.ref a :: st) h Q := WP_st rfl
theorem S86_1 {pr0 : Nat} (hs : shp pr0 = some (0, 7)) : WP (d + 1) 86 1 lv [.ref pr0] h Q ↔ WP d 87 0 [some (.ref pr0)] [] h (kV (d + 1) 86 4 lv [] Q) := WP_callVV rfl rfl rfl rfl rfl hs
theorem S86_4 : WP d 86 4 (a0 :: some (.int x) :: lv) st h Q ↔ WP d 86 5 (a0 :: some (.int x) :: lv) (.int x :: st) h Q := WP_st rfl
theorem S86_5 : WP d 86 5 lv (.int x :: st) h Q ↔ if x = 0 then WP d 86 52 lv st h Q else if x = 1 then WP d 86 60 lv st h Q else if x = 2 then WP d 86 68 lv st h Q else if x = 3 then WP d 86 79 lv st h Q else if x = 4 then WP d 86 91 lv st h Q else if x = 5 then WP d 86 99 lv st h Q else if x = 6 then WP d 86 107 lv st h Q else if x = 7 then WP d 86 115 lv st h Q else WP d 86 123 lv st h Q := by
  by_cases e0 : x = 0
  · subst e0
    rw [if_pos rfl]
    exact WP_st rfl
  by_cases e1 : x = 1
  · subst e1
    rw [if_neg (by decide)]
    rw [if_pos rfl]
    exact WP_st rfl
  by_cases e2 : x = 2
  · subst e2
    rw [if_neg (by decide)]
    rw [if_neg (by decide)]
    rw [if_pos rfl]
    exact WP_st rfl
  by_cases e3 : x = 3
  · subst e3
    rw [if_neg (by decide)]
    rw [if_neg (by decide)]
    rw [if_neg (by decide)]
    rw [if_pos rfl]
    exact WP_st rfl
  by_cases e4 : x = 4
  · subst e4
    rw [if_neg (by decide)]
    rw [if_neg (by decide)]
    rw [if_neg (by decide)]
    rw [if_neg (by decide)]
    rw [if_pos rfl]
    exact WP_st rfl
  by_cases e5 : x = 5
  · subst e5
    rw [if_neg (by decide)]
    rw [if_neg (by decide)]
    rw [if_neg (by decide)]
    rw [if_neg (by decide)]
    rw [if_neg (by decide)]
    rw [if_pos rfl]
    exact WP_st rfl
  by_cases e6 : x = 6
  · subst e6
    rw [if_neg (by decide)]
    rw [if_neg (by decide)]
    rw [if_neg (by decide)]
    rw [if_neg (by decide)]
    rw [if_neg (by decide)]
    rw [if_neg (by decide)]
    rw [if_pos rfl]
    exact WP_st rfl
  by_cases e7 : x = 7
  · subst e7
    rw [if_neg (by decide)]
    rw [if_neg (by decide)]
    rw [if_neg (by decide)]
    rw [if_neg (by decide)]
    rw [if_neg (by decide)]
    rw [if_neg (by decide)]
    rw [if_neg (by decide)]
    rw [if_pos rfl]
    exact WP_st rfl
  rw [if_neg e0, if_neg e1, if_neg e2, if_neg e3, if_neg e4, if_neg e5, if_neg e6, if_neg e7]
  have z0 : x.toInt ≠ 0 := fun q => e0 (Int32.toInt_inj.mp (q.trans (by decide)))
  have z1 : x.toInt ≠ 1 := fun q => e1 (Int32.toInt_inj.mp (q.trans (by decide)))
  have z2 : x.toInt ≠ 2 := fun q => e2 (Int32.toInt_inj.mp (q.trans (by decide)))
  have z3 : x.toInt ≠ 3 := fun q => e3 (Int32.toInt_inj.mp (q.trans (by decide)))
  have z4 : x.toInt ≠ 4 := fun q => e4 (Int32.toInt_inj.mp (q.trans (by decide)))
  have z5 : x.toInt ≠ 5 := fun q => e5 (Int32.toInt_inj.mp (q.trans (by decide)))
  have z6 : x.toInt ≠ 6 := fun q => e6 (Int32.toInt_inj.mp (q.trans (by decide)))
  have z7 : x.toInt ≠ 7 := fun q => e7 (Int32.toInt_inj.mp (q.trans (by decide)))
  exact WP_swD rfl (by omega) rfl
theorem S86_52 : WP d 86 52 (some (.ref a) :: lv) st h Q ↔ WP d 86 53 (some (.ref a) :: lv) (.ref a :: st) h Q := WP_st rfl
theorem S86_53 (hs : shp a = some (0, 7)) : WP d 86 53 lv (.ref a :: st) h Q ↔ WP d 86 56 lv (.ref (RV a 2) :: st) h Q := WP_getR (r := 450) rfl hs (by decide)
theorem S86_56 (hs : shp a = some (0, 3)) : WP d 86 56 lv (.ref a :: st) h Q ↔ WP d 86 59 lv (.int (h.1 a 0) :: st) h Q := WP_getI (r := 192) rfl hs (by decide)
theorem S86_59 : WP d 86 59 lv [.int x] h Q ↔ Q (some (some (.int x))) h := WP_end rfl rfl rfl
theorem S86_60 : WP d 86 60 (some (.ref a) :: lv) st h Q ↔ WP d 86 61 (some (.ref a) :: lv) (.ref a :: st) h Q := WP_st rfl
theorem S86_61 (hs : shp a = some (0, 7)) : WP d 86 61 lv (.ref a :: st) h Q ↔ WP d 86 64 lv (.ref (RV a 2) :: st) h Q := WP_getR (r := 450) rfl hs (by decide)
theorem S86_64 (hs : shp a = some (0, 3)) : WP d 86 64 lv (.ref a :: st) h Q ↔ WP d 86 67 lv (.int (h.1 a 3) :: st) h Q := WP_getI (r := 195) rfl hs (by decide)
theorem S86_67 : WP d 86 67 lv [.int x] h Q ↔ Q (some (some (.int x))) h := WP_end rfl rfl rfl
theorem S86_68 : WP d 86 68 (some (.ref a) :: lv) st h Q ↔ WP d 86 69 (some (.ref a) :: lv) (.ref a :: st) h Q := WP_st rfl
theorem S86_69 (hs : shp a = some (0, 7)) : WP d 86 69 lv (.ref a :: st) h Q ↔ WP d 86 72 lv (.ref (RV a 2) :: st) h Q := WP_getR (r := 450) rfl hs (by decide)
theorem S86_72 (hs : shp a = some (0, 3)) : WP d 86 72 lv (.ref a :: st) h Q ↔ WP d 86 75 lv (.int (h.1 a 4) :: st) h Q := WP_getI (r := 196) rfl hs (by decide)
theorem S86_75 {pi0 : Int32} : WP (d + 1) 86 75 lv [.int pi0] h Q ↔ WP d 199 0 [some (.int pi0)] [] h (kR (d + 1) 86 78 lv [] Q) := WP_callSR rfl rfl rfl rfl rfl
theorem S86_78 : WP d 86 78 lv [.int x] h Q ↔ Q (some (some (.int x))) h := WP_end rfl rfl rfl
theorem S86_79 : WP d 86 79 (some (.ref a) :: lv) st h Q ↔ WP d 86 80 (some (.ref a) :: lv) (.ref a :: st) h Q := WP_st rfl
theorem S86_80 (hs : shp a = some (0, 7)) : WP d 86 80 lv (.ref a :: st) h Q ↔ WP d 86 83 lv (.ref (RV a 9) :: st) h Q := WP_getR (r := 457) rfl hs (by decide)
theorem S86_83 : WP d 86 83 (some (.ref a) :: lv) st h Q ↔ WP d 86 84 (some (.ref a) :: lv) (.ref a :: st) h Q := WP_st rfl
theorem S86_84 (hs : shp a = some (0, 7)) : WP d 86 84 lv (.ref a :: st) h Q ↔ WP d 86 87 lv (.ref (RV a 2) :: st) h Q := WP_getR (r := 450) rfl hs (by decide)
theorem S86_87 {pr0 : Nat} {pr1 : Nat} (hs : shp pr0 = some (0, 6)) : WP (d + 1) 86 87 lv [.ref pr1, .ref pr0] h Q ↔ WP d 46 0 [some (.ref pr0), some (.ref pr1), none, none] [] h (kR (d + 1) 86 90 lv [] Q) := WP_callVR rfl rfl rfl rfl rfl hs
theorem S86_90 : WP d 86 90 lv [.int x] h Q ↔ Q (some (some (.int x))) h := WP_end rfl rfl rfl
theorem S86_91 : WP d 86 91 (some (.ref a) :: lv) st h Q ↔ WP d 86 92 (some (.ref a) :: lv) (.ref a :: st) h Q := WP_st rfl
theorem S86_92 (hs : shp a = some (0, 7)) : WP d 86 92 lv (.ref a :: st) h Q ↔ WP d 86 95 lv (.ref (RV a 9) :: st) h Q := WP_getR (r := 457) rfl hs (by decide)
theorem S86_95 (hs : shp a = some (0, 6)) : WP d 86 95 lv (.ref a :: st) h Q ↔ WP d 86 98 lv (.int (h.1 a 3) :: st) h Q := WP_getI (r := 387) rfl hs (by decide)
theorem S86_98 : WP d 86 98 lv [.int x] h Q ↔ Q (some (some (.int x))) h := WP_end rfl rfl rfl
theorem S86_99 : WP d 86 99 (some (.ref a) :: lv) st h Q ↔ WP d 86 100 (some (.ref a) :: lv) (.ref a :: st) h Q := WP_st rfl
theorem S86_100 (hs : shp a = some (0, 7)) : WP d 86 100 lv (.ref a :: st) h Q ↔ WP d 86 103 lv (.ref (RV a 9) :: st) h Q := WP_getR (r := 457) rfl hs (by decide)
theorem S86_103 (hs : shp a = some (0, 6)) : WP d 86 103 lv (.ref a :: st) h Q ↔ WP d 86 106 lv (.int (h.1 a 1) :: st) h Q := WP_getI (r := 385) rfl hs (by decide)
theorem S86_106 : WP d 86 106 lv [.int x] h Q ↔ Q (some (some (.int x))) h := WP_end rfl rfl rfl
theorem S86_107 : WP d 86 107 (some (.ref a) :: lv) st h Q ↔ WP d 86 108 (some (.ref a) :: lv) (.ref a :: st) h Q := WP_st rfl
theorem S86_108 (hs : shp a = some (0, 7)) : WP d 86 108 lv (.ref a :: st) h Q ↔ WP d 86 111 lv (.ref (RV a 4) :: st) h Q := WP_getR (r := 452) rfl hs (by decide)
theorem S86_111 (hs : shp a = some (0, 0)) : WP d 86 111 lv (.ref a :: st) h Q ↔ WP d 86 114 lv (.int (h.1 a 2) :: st) h Q := WP_getI (r := 2) rfl hs (by decide)
theorem S86_114 : WP d 86 114 lv [.int x] h Q ↔ Q (some (some (.int x))) h := WP_end rfl rfl rfl
theorem S86_115 : WP d 86 115 (some (.ref a) :: lv) st h Q ↔ WP d 86 116 (some (.ref a) :: lv) (.ref a :: st) h Q := WP_st rfl
theorem S86_116 (hs : shp a = some (0, 7)) : WP d 86 116 lv (.ref a :: st) h Q ↔ WP d 86 119 lv (.ref (RV a 1) :: st) h Q := WP_getR (r := 449) rfl hs (by decide)
theorem S86_119 (hs : shp a = some (0, 5)) : WP d 86 119 lv (.ref a :: st) h Q ↔ WP d 86 122 lv (.int (h.1 a 1) :: st) h Q := WP_getI (r := 321) rfl hs (by decide)
theorem S86_122 : WP d 86 122 lv [.int x] h Q ↔ Q (some (some (.int x))) h := WP_end rfl rfl rfl
theorem S86_123 : WP d 86 123 lv st h Q ↔ WP d 86 124 lv (.int (-1) :: st) h Q := WP_st rfl
theorem S86_124 : WP d 86 124 lv [.int x] h Q ↔ Q (some (some (.int x))) h := WP_end rfl rfl rfl
theorem S87_0 : WP d 87 0 (some (.ref a) :: lv) st h Q ↔ WP d 87 1 (some (.ref a) :: lv) (.ref a :: st) h Q := WP_st rfl
theorem S87_1 (hs : shp a = some (0, 7)) : WP d 87 1 lv (.ref a :: st) h Q ↔ WP d 87 4 lv (.int (h.1 a 11) :: st) h Q := WP_getI (r := 459) rfl hs (by decide)
theorem S87_4 : WP d 87 4 lv (.int x :: st) h Q ↔ if x = 0 then WP d 87 38 lv st h Q else WP d 87 7 lv st h Q := WP_br rfl
theorem S87_7 : WP d 87 7 (some (.ref a) :: lv) st h Q ↔ WP d 87 8 (some (.ref a) :: lv) (.ref a :: st) h Q := WP_st rfl
theorem S87_8 (hs : shp a = some (0, 7)) : WP d 87 8 lv (.ref a :: st) h Q ↔ WP d 87 11 lv (.ref (RV a 9) :: st) h Q := WP_getR (r := 457) rfl hs (by decide)
theorem S87_11 : WP d 87 11 (some (.ref a) :: lv) st h Q ↔ WP d 87 12 (some (.ref a) :: lv) (.ref a :: st) h Q := WP_st rfl
theorem S87_12 (hs : shp a = some (0, 7)) : WP d 87 12 lv (.ref a :: st) h Q ↔ WP d 87 15 lv (.ref (RV a 2) :: st) h Q := WP_getR (r := 450) rfl hs (by decide)
theorem S87_15 {pr0 : Nat} {pr1 : Nat} (hs : shp pr0 = some (0, 6)) : WP (d + 1) 87 15 lv [.ref pr1, .ref pr0] h Q ↔ WP d 44 0 [some (.ref pr0), some (.ref pr1), none, none, none] [] h (kV (d + 1) 87 18 lv [] Q) := WP_callVV rfl rfl rfl rfl rfl hs
theorem S87_18 : WP d 87 18 (some (.ref a) :: lv) st h Q ↔ WP d 87 19 (some (.ref a) :: lv) (.ref a :: st) h Q := WP_st rfl
theorem S87_19 (hs : shp a = some (0, 7)) : WP d 87 19 lv (.ref a :: st) h Q ↔ WP d 87 22 lv (.ref (RV a 10) :: st) h Q := WP_getR (r := 458) rfl hs (by decide)
theorem S87_22 : WP d 87 22 (some (.ref a) :: lv) st h Q ↔ WP d 87 23 (some (.ref a) :: lv) (.ref a :: st) h Q := WP_st rfl
theorem S87_23 (hs : shp a = some (0, 7)) : WP d 87 23 lv (.ref a :: st) h Q ↔ WP d 87 26 lv (.ref (RV a 2) :: st) h Q := WP_getR (r := 450) rfl hs (by decide)
theorem S87_26 : WP d 87 26 (some (.ref a) :: lv) st h Q ↔ WP d 87 27 (some (.ref a) :: lv) (.ref a :: st) h Q := WP_st rfl
theorem S87_27 (hs : shp a = some (0, 7)) : WP d 87 27 lv (.ref a :: st) h Q ↔ WP d 87 30 lv (.ref (RV a 9) :: st) h Q := WP_getR (r := 457) rfl hs (by decide)
theorem S87_30 {pr0 : Nat} {pr1 : Nat} {pr2 : Nat} (hs : shp pr0 = some (0, 1)) : WP (d + 1) 87 30 lv [.ref pr2, .ref pr1, .ref pr0] h Q ↔ WP d 3 0 [some (.ref pr0), some (.ref pr1), some (.ref pr2), none, none, none] [] h (kV (d + 1) 87 33 lv [] Q) := WP_callVV rfl rfl rfl rfl rfl hs
theorem S87_33 : WP d 87 33 (some (.ref a) :: lv) st h Q ↔ WP d 87 34 (some (.ref a) :: lv) (.ref a :: st) h Q := WP_st rfl
theorem S87_34 : WP d 87 34 lv st h Q ↔ WP d 87 35 lv (.int 0 :: st) h Q := WP_st rfl
theorem S87_35 (hs : shp a = some (0, 7)) (hx : isB x) : WP d 87 35 lv (.int x :: .ref a :: st) h Q ↔ WP d 87 38 lv st (setI h a 11 x) Q := WP_putZ (r := 459) rfl hs (by decide) hx
theorem S87_38 : WP d 87 38 lv [] h Q ↔ Q (some none) h := WP_end rfl rfl rfl
theorem S88_0 : WP d 88 0 (some (.ref a) :: lv) st h Q ↔ WP d 88 1 (some (.ref a) :: lv) (.ref a :: st) h Q := WP_st rfl
theorem S88_1 (hs : shp a = some (0, 7)) : WP d 88 1 lv (.ref a :: st) h Q ↔ WP d 88 4 lv (.ref (RV a 4) :: st) h Q := WP_getR (r := 452) rfl hs (by decide)
theorem S88_4 : WP d 88 4 (some (.ref a) :: lv) st h Q ↔ WP d 88 5 (some (.ref a) :: lv) (.ref a :: st) h Q := WP_st rfl
theorem S88_5 (hs : shp a = some (0, 7)) : WP d 88 5 lv (.ref a :: st) h Q ↔ WP d 88 8 lv (.ref (RV a 2) :: st) h Q := WP_getR (r := 450) rfl hs (by decide)
theorem S88_8 {pr0 : Nat} {pr1 : Nat} (hs : shp pr0 = some (0, 0)) : WP (d + 1) 88 8 lv [.ref pr1, .ref pr0] h Q ↔ WP d 0 0 [some (.ref pr0), some (.ref pr1)] [] h (kV (d + 1) 88 11 lv [] Q) := WP_callVV rfl rfl rfl rfl rfl hs
theorem S88_11 : WP d 88 11 (some (.ref a) :: lv) st h Q ↔ WP d 88 12 (some (.ref a) :: lv) (.ref a :: st) h Q := WP_st rfl
theorem S88_12 : WP d 88 12 lv st h Q ↔ WP d 88 13 lv (.int 1 :: st) h Q := WP_st rfl
theorem S88_13 (hs : shp a = some (0, 7)) (hx : isB x) : WP d 88 13 lv (.int x :: .ref a :: st) h Q ↔ WP d 88 16 lv st (setI h a 11 x) Q := WP_putZ (r := 459) rfl hs (by decide) hx
theorem S88_16 : WP d 88 16 lv [] h Q ↔ Q (some none) h := WP_end rfl rfl rfl
theorem S89_0 : WP d 89 0 (a0 :: some (.int x) :: lv) st h Q ↔ WP d 89 1 (a0 :: some (.int x) :: lv) (.int x :: st) h Q := WP_st rfl
theorem S89_1 : WP d 89 1 lv (.int x :: st) h Q ↔ if x < 0 then WP d 89 19 lv st h Q else WP d 89 4 lv st h Q := WP_br rfl
theorem S89_4 : WP d 89 4 (a0 :: some (.int x) :: lv) st h Q ↔ WP d 89 5 (a0 :: some (.int x) :: lv) (.int x :: st) h Q := WP_st rfl
theorem S89_5 : WP d 89 5 (some (.ref a) :: lv) st h Q ↔ WP d 89 6 (some (.ref a) :: lv) (.ref a :: st) h Q := WP_st rfl
theorem S89_6 (hs : shp a = some (0, 7)) : WP d 89 6 lv (.ref a :: st) h Q ↔ WP d 89 9 lv (.ref (RV a 2) :: st) h Q := WP_getR (r := 450) rfl hs (by decide)
theorem S89_9 (hs : shp a = some (0, 3)) : WP d 89 9 lv (.ref a :: st) h Q ↔ WP d 89 12 lv (.int (h.1 a 0) :: st) h Q := WP_getI (r := 192) rfl hs (by decide)
theorem S89_12 : WP d 89 12 lv (.int y :: .int x :: st) h Q ↔ if y ≤ x then WP d 89 19 lv st h Q else WP d 89 15 lv st h Q := WP_br rfl
theorem S89_15 : WP d 89 15 lv st h Q ↔ WP d 89 16 lv (.int 1 :: st) h Q := WP_st rfl
theorem S89_16 : WP d 89 16 lv st h Q ↔ WP d 89 20 lv st h Q := WP_st rfl
theorem S89_19 : WP d 89 19 lv st h Q ↔ WP d 89 20 lv (.int 0 :: st) h Q := WP_st rfl
theorem S89_20 (hx : isB x) : WP d 89 20 lv [.int x] h Q ↔ Q (some (some (.int x))) h := WP_endZ rfl rfl hx
theorem S90_0 : WP d 90 0 (a0 :: some (.int x) :: lv) st h Q ↔ WP d 90 1 (a0 :: some (.int x) :: lv) (.int x :: st) h Q := WP_st rfl
theorem S90_1 : WP d 90 1 lv (.int x :: st) h Q ↔ if x < 0 then WP d 90 19 lv st h Q else WP d 90 4 lv st h Q := WP_br rfl
theorem S90_4 : WP d 90 4 (a0 :: some (.int x) :: lv) st h Q ↔ WP d 90 5 (a0 :: some (.int x) :: lv) (.int x :: st) h Q := WP_st rfl
theorem S90_5 : WP d 90 5 (some (.ref a) :: lv) st h Q ↔ WP d 90 6 (some (.ref a) :: lv) (.ref a :: st) h Q := WP_st rfl
theorem S90_6 (hs : shp a = some (0, 7)) : WP d 90 6 lv (.ref a :: st) h Q ↔ WP d 90 9 lv (.ref (RV a 2) :: st) h Q := WP_getR (r := 450) rfl hs (by decide)
theorem S90_9 (hs : shp a = some (0, 3)) : WP d 90 9 lv (.ref a :: st) h Q ↔ WP d 90 12 lv (.int (h.1 a 3) :: st) h Q := WP_getI (r := 195) rfl hs (by decide)
theorem S90_12 : WP d 90 12 lv (.int y :: .int x :: st) h Q ↔ if y ≤ x then WP d 90 19 lv st h Q else WP d 90 15 lv st h Q := WP_br rfl
theorem S90_15 : WP d 90 15 lv st h Q ↔ WP d 90 16 lv (.int 1 :: st) h Q := WP_st rfl
theorem S90_16 : WP d 90 16 lv st h Q ↔ WP d 90 20 lv st h Q := WP_st rfl
theorem S90_19 : WP d 90 19 lv st h Q ↔ WP d 90 20 lv (.int 0 :: st) h Q := WP_st rfl
theorem S90_20 (hx : isB x) : WP d 90 20 lv [.int x] h Q ↔ Q (some (some (.int x))) h := WP_endZ rfl rfl hx
theorem S91_0 : WP d 91 0 (some (.ref a) :: lv) st h Q ↔ WP d 91 1 (some (.ref a) :: lv) (.ref a :: st) h Q := WP_st rfl
theorem S91_1 : WP d 91 1 (a0 :: some (.int x) :: lv) st h Q ↔ WP d 91 2 (a0 :: some (.int x) :: lv) (.int x :: st) h Q := WP_st rfl
theorem S91_2 {pr0 : Nat} {pi0 : Int32} (hs : shp pr0 = some (0, 7)) : WP (d + 1) 91 2 lv [.int pi0, .ref pr0] h Q ↔ WP d 90 0 [some (.ref pr0), some (.int pi0)] [] h (kR (d + 1) 91 5 lv [] Q) := WP_callVR rfl rfl rfl rfl rfl hs
theorem S91_5 : WP d 91 5 lv (.int x :: st) h Q ↔ if x = 0 then WP d 91 27 lv st h Q else WP d 91 8 lv st h Q := WP_br rfl
theorem S91_8 : WP d 91 8 (some (.ref a) :: lv) st h Q ↔ WP d 91 9 (some (.ref a) :: lv) (.ref a :: st) h Q := WP_st rfl
theorem S91_9 (hs : shp a = some (0, 7)) : WP d 91 9 lv (.ref a :: st) h Q ↔ WP d 91 12 lv (.ref (RV a 2) :: st) h Q := WP_getR (r := 450) rfl hs (by decide)
theorem S91_12 (hs : shp a = some (0, 3)) : WP d 91 12 lv (.ref a :: st) h Q ↔ WP d 91 15 lv (.int (h.1 a 4) :: st) h Q := WP_getI (r := 196) rfl hs (by decide)
theorem S91_15 : WP d 91 15 (a0 :: some (.int x) :: lv) st h Q ↔ WP d 91 16 (a0 :: some (.int x) :: lv) (.int x :: st) h Q := WP_st rfl
theorem S91_16 {pi0 : Int32} {pi1 : Int32} : WP (d + 1) 91 16 lv [.int pi1, .int pi0] h Q ↔ WP d 97 0 [some (.int pi0), some (.int pi1)] [] h (kR (d + 1) 91 19 lv [] Q) := WP_callSR rfl rfl rfl rfl rfl
theorem S91_19 : WP d 91 19 lv st h Q ↔ WP d 91 20 lv (.int 1 :: st) h Q := WP_st rfl
theorem S91_20 : WP d 91 20 lv (.int y :: .int x :: st) h Q ↔ if x = y then WP d 91 23 lv st h Q else WP d 91 27 lv st h Q := WP_br rfl
theorem S91_23 : WP d 91 23 lv st h Q ↔ WP d 91 24 lv (.int 1 :: st) h Q := WP_st rfl
theorem S91_24 : WP d 91 24 lv st h Q ↔ WP d 91 28 lv st h Q := WP_st rfl
theorem S91_27 : WP d 91 27 lv st h Q ↔ WP d 91 28 lv (.int 0 :: st) h Q := WP_st rfl
theorem S91_28 (hx : isB x) : WP d 91 28 lv [.int x] h Q ↔ Q (some (some (.int x))) h := WP_endZ rfl rfl hx
theorem S92_0 : WP d 92 0 (some (.ref a) :: lv) st h Q ↔ WP d 92 1 (some (.ref a) :: lv) (.ref a :: st) h Q := WP_st rfl
theorem S92_1 : WP d 92 1 (a0 :: some (.int x) :: lv) st h Q ↔ WP d 92 2 (a0 :: some (.int x) :: lv) (.int x :: st) h Q := WP_st rfl
theorem S92_2 {pr0 : Nat} {pi0 : Int32} (hs : shp pr0 = some (0, 7)) : WP (d + 1) 92 2 lv [.int pi0, .ref pr0] h Q ↔ WP d 90 0 [some (.ref pr0), some (.int pi0)] [] h (kR (d + 1) 92 5 lv [] Q) := WP_callVR rfl rfl rfl rfl rfl hs
theorem S92_5 : WP d 92 5 lv (.int x :: st) h Q ↔ if x = 0 then WP d 92 27 lv st h Q else WP d 92 8 lv st h Q := WP_br rfl
theorem S92_8 : WP d 92 8 (some (.ref a) :: lv) st h Q ↔ WP d 92 9 (some (.ref a) :: lv) (.ref a :: st) h Q := WP_st rfl
theorem S92_9 (hs : shp a = some (0, 7)) : WP d 92 9 lv (.ref a :: st) h Q ↔ WP d 92 12 lv (.ref (RV a 9) :: st) h Q := WP_getR (r := 457) rfl hs (by decide)
theorem S92_12 (hs : shp a = some (0, 6)) : WP d 92 12 lv (.ref a :: st) h Q ↔ WP d 92 15 lv (.int (h.1 a 2) :: st) h Q := WP_getI (r := 386) rfl hs (by decide)
theorem S92_15 : WP d 92 15 (a0 :: some (.int x) :: lv) st h Q ↔ WP d 92 16 (a0 :: some (.int x) :: lv) (.int x :: st) h Q := WP_st rfl
theorem S92_16 {pi0 : Int32} {pi1 : Int32} : WP (d + 1) 92 16 lv [.int pi1, .int pi0] h Q ↔ WP d 97 0 [some (.int pi0), some (.int pi1)] [] h (kR (d + 1) 92 19 lv [] Q) := WP_callSR rfl rfl rfl rfl rfl
theorem S92_19 : WP d 92 19 lv st h Q ↔ WP d 92 20 lv (.int 1 :: st) h Q := WP_st rfl
theorem S92_20 : WP d 92 20 lv (.int y :: .int x :: st) h Q ↔ if x = y then WP d 92 23 lv st h Q else WP d 92 27 lv st h Q := WP_br rfl
theorem S92_23 : WP d 92 23 lv st h Q ↔ WP d 92 24 lv (.int 1 :: st) h Q := WP_st rfl
theorem S92_24 : WP d 92 24 lv st h Q ↔ WP d 92 28 lv st h Q := WP_st rfl
theorem S92_27 : WP d 92 27 lv st h Q ↔ WP d 92 28 lv (.int 0 :: st) h Q := WP_st rfl
theorem S92_28 (hx : isB x) : WP d 92 28 lv [.int x] h Q ↔ Q (some (some (.int x))) h := WP_endZ rfl rfl hx
theorem S93_0 : WP d 93 0 (some (.int x) :: lv) st h Q ↔ WP d 93 1 (some (.int x) :: lv) (.int x :: st) h Q := WP_st rfl
theorem S93_1 : WP d 93 1 lv (.int x :: st) h Q ↔ if x = 0 then WP d 93 9 lv st h Q else WP d 93 4 lv st h Q := WP_br rfl
theorem S93_4 : WP d 93 4 (some (.int x) :: lv) st h Q ↔ WP d 93 5 (some (.int x) :: lv) (.int x :: st) h Q := WP_st rfl
theorem S93_5 : WP d 93 5 lv st h Q ↔ WP d 93 6 lv (.int 1 :: st) h Q := WP_st rfl
theorem S93_6 : WP d 93 6 lv (.int y :: .int x :: st) h Q ↔ if x = y then WP d 93 9 lv st h Q else WP d 93 13 lv st h Q := WP_br rfl
theorem S93_9 : WP d 93 9 lv st h Q ↔ WP d 93 10 lv (.int 1 :: st) h Q := WP_st rfl
theorem S93_10 : WP d 93 10 lv st h Q ↔ WP d 93 14 lv st h Q := WP_st rfl
theorem S93_13 : WP d 93 13 lv st h Q ↔ WP d 93 14 lv (.int 0 :: st) h Q := WP_st rfl
theorem S93_14 (hx : isB x) : WP d 93 14 lv [.int x] h Q ↔ Q (some (some (.int x))) h := WP_endZ rfl rfl hx
theorem S94_0 : WP d 94 0 (some (.int x) :: lv) st h Q ↔ WP d 94 1 (some (.int x) :: lv) (.int x :: st) h Q := WP_st rfl
theorem S94_1 : WP d 94 1 lv st h Q ↔ WP d 94 3 lv (.int (-99) :: st) h Q := WP_st rfl
theorem S94_3 : WP d 94 3 lv (.int y :: .int x :: st) h Q ↔ if x < y then WP d 94 16 lv st h Q else WP d 94 6 lv st h Q := WP_br rfl
theorem S94_6 : WP d 94 6 (some (.int x) :: lv) st h Q ↔ WP d 94 7 (some (.int x) :: lv) (.int x :: st) h Q := WP_st rfl
theorem S94_7 : WP d 94 7 lv st h Q ↔ WP d 94 9 lv (.int 99 :: st) h Q := WP_st rfl
theorem S94_9 : WP d 94 9 lv (.int y :: .int x :: st) h Q ↔ if y < x then WP d 94 16 lv st h Q else WP d 94 12 lv st h Q := WP_br rfl
theorem S94_12 : WP d 94 12 lv st h Q ↔ WP d 94 13 lv (.int 1 :: st) h Q := WP_st rfl
theorem S94_13 : WP d 94 13 lv st h Q ↔ WP d 94 17 lv st h Q := WP_st rfl
theorem S94_16 : WP d 94 16 lv st h Q ↔ WP d 94 17 lv (.int 0 :: st) h Q := WP_st rfl
theorem S94_17 (hx : isB x) : WP d 94 17 lv [.int x] h Q ↔ Q (some (some (.int x))) h := WP_endZ rfl rfl hx
theorem S95_0 : WP d 95 0 (some (.int x) :: lv) st h Q ↔ WP d 95 1 (some (.int x) :: lv) (.int x :: st) h Q := WP_st rfl
theorem S95_1 : WP d 95 1 lv st h Q ↔ WP d 95 2 lv (.int 1 :: st) h Q := WP_st rfl
theorem S95_2 : WP d 95 2 lv (.int y :: .int x :: st) h Q ↔ if x < y then WP d 95 14 lv st h Q else WP d 95 5 lv st h Q := WP_br rfl
theorem S95_5 : WP d 95 5 (some (.int x) :: lv) st h Q ↔ WP d 95 6 (some (.int x) :: lv) (.int x :: st) h Q := WP_st rfl
theorem S95_6 : WP d 95 6 lv st h Q ↔ WP d 95 7 lv (.int 4 :: st) h Q := WP_st rfl
theorem S95_7 : WP d 95 7 lv (.int y :: .int x :: st) h Q ↔ if y < x then WP d 95 14 lv st h Q else WP d 95 10 lv st h Q := WP_br rfl
theorem S95_10 : WP d 95 10 lv st h Q ↔ WP d 95 11 lv (.int 1 :: st) h Q := WP_st rfl
theorem S95_11 : WP d 95 11 lv st h Q ↔ WP d 95 15 lv st h Q := WP_st rfl
theorem S95_14 : WP d 95 14 lv st h Q ↔ WP d 95 15 lv (.int 0 :: st) h Q := WP_st rfl
theorem S95_15 (hx : isB x) : WP d 95 15 lv [.int x] h Q ↔ Q (some (some (.int x))) h := WP_endZ rfl rfl hx
theorem S96_0 : WP d 96 0 (some (.int x) :: lv) st h Q ↔ WP d 96 1 (some (.int x) :: lv) (.int x :: st) h Q := WP_st rfl
theorem S96_1 : WP d 96 1 lv (.int x :: st) h Q ↔ if x < 0 then WP d 96 13 lv st h Q else WP d 96 4 lv st h Q := WP_br rfl
theorem S96_4 : WP d 96 4 (some (.int x) :: lv) st h Q ↔ WP d 96 5 (some (.int x) :: lv) (.int x :: st) h Q := WP_st rfl
theorem S96_5 : WP d 96 5 lv st h Q ↔ WP d 96 6 lv (.int 2 :: st) h Q := WP_st rfl
theorem S96_6 : WP d 96 6 lv (.int y :: .int x :: st) h Q ↔ if y ≤ x then WP d 96 13 lv st h Q else WP d 96 9 lv st h Q := WP_br rfl
theorem S96_9 : WP d 96 9 lv st h Q ↔ WP d 96 10 lv (.int 1 :: st) h Q := WP_st rfl
theorem S96_10 : WP d 96 10 lv st h Q ↔ WP d 96 14 lv st h Q := WP_st rfl
theorem S96_13 : WP d 96 13 lv st h Q ↔ WP d 96 14 lv (.int 0 :: st) h Q := WP_st rfl
theorem S96_14 (hx : isB x) : WP d 96 14 lv [.int x] h Q ↔ Q (some (some (.int x))) h := WP_endZ rfl rfl hx
theorem S97_0 : WP d 97 0 (some (.int x) :: lv) st h Q ↔ WP d 97 1 (some (.int x) :: lv) (.int x :: st) h Q := WP_st rfl
theorem S97_1 : WP d 97 1 (a0 :: some (.int x) :: lv) st h Q ↔ WP d 97 2 (a0 :: some (.int x) :: lv) (.int x :: st) h Q := WP_st rfl
theorem S97_2 : WP d 97 2 lv (.int y :: .int x :: st) h Q ↔ WP d 97 3 lv (.int ((x.toUInt32 >>> (y.toUInt32 &&& Int32.toUInt32 31)).toInt32) :: st) h Q := WP_st rfl
theorem S97_3 : WP d 97 3 lv st h Q ↔ WP d 97 4 lv (.int 1 :: st) h Q := WP_st rfl
theorem S97_4 : WP d 97 4 lv (.int y :: .int x :: st) h Q ↔ WP d 97 5 lv (.int (x &&& y) :: st) h Q := WP_st rfl
theorem S97_5 : WP d 97 5 lv [.int x] h Q ↔ Q (some (some (.int x))) h := WP_end rfl rfl rfl
theorem S98_0 : WP d 98 0 (some (.int x) :: lv) st h Q ↔ WP d 98 1 (some (.int x) :: lv) (.int x :: st) h Q := WP_st rfl
theorem S98_1 : WP d 98 1 lv st h Q ↔ WP d 98 4 lv (.int 1103515245 :: st) h Q := WP_st rfl
theorem S98_4 : WP d 98 4 lv (.int y :: .int x :: st) h Q ↔ WP d 98 5 lv (.int (x * y) :: st) h Q := WP_st rfl
theorem S98_5 : WP d 98 5 lv st h Q ↔ WP d 98 8 lv (.int 12345 :: st) h Q := WP_st rfl
theorem S98_8 : WP d 98 8 lv (.int y :: .int x :: st) h Q ↔ WP d 98 9 lv (.int (x + y) :: st) h Q := WP_st rfl
theorem S98_9 : WP d 98 9 lv [.int x] h Q ↔ Q (some (some (.int x))) h := WP_end rfl rfl rfl
theorem S99_0 : WP d 99 0 (some (.ref a) :: lv) st h Q ↔ WP d 99 1 (some (.ref a) :: lv) (.ref a :: st) h Q := WP_st rfl
theorem S99_1 (hs : shp a = some (0, 8)) : WP d 99 1 lv (.ref a :: st) h Q ↔ WP d 99 4 lv (.int (h.1 a 0) :: st) h Q := WP_getI (r := 512) rfl hs (by decide)
theorem S99_4 : WP d 99 4 lv [.int x] h Q ↔ Q (some (some (.int x))) h := WP_end rfl rfl rfl
theorem S100_0 : WP d 100 0 (some (.ref a) :: lv) st h Q ↔ WP d 100 1 (some (.ref a) :: lv) (.ref a :: st) h Q := WP_st rfl
theorem S100_1 : WP d 100 1 lv st h Q ↔ WP d 100 2 lv (.int 1 :: st) h Q := WP_st rfl
theorem S100_2 (hs : shp a = some (0, 8)) : WP d 100 2 lv (.int x :: .ref a :: st) h Q ↔ WP d 100 5 lv st (setI h a 0 x) Q := WP_putI (r := 512) rfl hs (by decide)
theorem S100_5 : WP d 100 5 lv st h Q ↔ WP d 100 6 lv (.int 0 :: st) h Q := WP_st rfl
theorem S100_6 : WP d 100 6 lv [.int x] h Q ↔ Q (some (some (.int x))) h := WP_end rfl rfl rfl
theorem S101_0 : WP d 101 0 (some (.int x) :: lv) st h Q ↔ WP d 101 1 (some (.int x) :: lv) (.int x :: st) h Q := WP_st rfl
theorem S101_1 : WP d 101 1 (a0 :: some (.int x) :: lv) st h Q ↔ WP d 101 2 (a0 :: some (.int x) :: lv) (.int x :: st) h Q := WP_st rfl
theorem S101_2 : WP d 101 2 lv (.int y :: .int x :: st) h Q ↔ if x < y then WP d 101 14 lv st h Q else WP d 101 5 lv st h Q := WP_br rfl
theorem S101_5 : WP d 101 5 (some (.int x) :: lv) st h Q ↔ WP d 101 6 (some (.int x) :: lv) (.int x :: st) h Q := WP_st rfl
theorem S101_6 : WP d 101 6 (a0 :: a1 :: some (.int x) :: lv) st h Q ↔ WP d 101 7 (a0 :: a1 :: some (.int x) :: lv) (.int x :: st) h Q := WP_st rfl
theorem S101_7 : WP d 101 7 lv (.int y :: .int x :: st) h Q ↔ if y < x then WP d 101 14 lv st h Q else WP d 101 10 lv st h Q := WP_br rfl
theorem S101_10 : WP d 101 10 lv st h Q ↔ WP d 101 11 lv (.int 1 :: st) h Q := WP_st rfl
theorem S101_11 : WP d 101 11 lv st h Q ↔ WP d 101 15 lv st h Q := WP_st rfl
theorem S101_14 : WP d 101 14 lv st h Q ↔ WP d 101 15 lv (.int 0 :: st) h Q := WP_st rfl
theorem S101_15 (hx : isB x) : WP d 101 15 lv [.int x] h Q ↔ Q (some (some (.int x))) h := WP_endZ rfl rfl hx
theorem S102_0 : WP d 102 0 (some (.int x) :: lv) st h Q ↔ WP d 102 1 (some (.int x) :: lv) (.int x :: st) h Q := WP_st rfl
theorem S102_1 : WP d 102 1 (a0 :: some (.int x) :: lv) st h Q ↔ WP d 102 2 (a0 :: some (.int x) :: lv) (.int x :: st) h Q := WP_st rfl
theorem S102_2 : WP d 102 2 lv (.int y :: .int x :: st) h Q ↔ WP d 102 3 lv (.int (x >>> (y &&& 31)) :: st) h Q := WP_st rfl
theorem S102_3 : WP d 102 3 lv st h Q ↔ WP d 102 4 lv (.int 1 :: st) h Q := WP_st rfl
theorem S102_4 : WP d 102 4 lv (.int y :: .int x :: st) h Q ↔ WP d 102 5 lv (.int (x &&& y) :: st) h Q := WP_st rfl
theorem S102_5 : WP d 102 5 lv st h Q ↔ WP d 102 6 lv (.int 1 :: st) h Q := WP_st rfl
theorem S102_6 : WP d 102 6 lv (.int y :: .int x :: st) h Q ↔ if x = y then WP d 102 9 lv st h Q else WP d 102 13 lv st h Q := WP_br rfl
theorem S102_9 : WP d 102 9 lv st h Q ↔ WP d 102 10 lv (.int 1 :: st) h Q := WP_st rfl
theorem S102_10 : WP d 102 10 lv st h Q ↔ WP d 102 14 lv st h Q := WP_st rfl
theorem S102_13 : WP d 102 13 lv st h Q ↔ WP d 102 14 lv (.int 0 :: st) h Q := WP_st rfl
theorem S102_14 (hx : isB x) : WP d 102 14 lv [.int x] h Q ↔ Q (some (some (.int x))) h := WP_endZ rfl rfl hx
theorem S103_0 : WP d 103 0 lv st h Q ↔ WP d 103 1 lv (.int 0 :: st) h Q := WP_st rfl
theorem S103_1 : WP d 103 1 (a0 :: a1 :: lv) (.int x :: st) h Q ↔ WP d 103 2 (kl a0 :: some (.int x) :: lv) st h Q := WP_st (by rfl)
theorem S103_2 : WP d 103 2 (some (.int x) :: lv) st h Q ↔ WP d 103 3 (some (.int x) :: lv) (.int x :: st) h Q := WP_st rfl
theorem S103_3 : WP d 103 3 (a0 :: a1 :: a2v :: lv) (.int x :: st) h Q ↔ WP d 103 4 (a0 :: kl a1 :: some (.int x) :: lv) st h Q := WP_st (by rfl)
theorem S103_4 : WP d 103 4 (a0 :: a1 :: some (.int x) :: lv) st h Q ↔ WP d 103 5 (a0 :: a1 :: some (.int x) :: lv) (.int x :: st) h Q := WP_st rfl
theorem S103_5 : WP d 103 5 lv (.int x :: st) h Q ↔ if x = 0 then WP d 103 20 lv st h Q else WP d 103 8 lv st h Q := WP_br rfl
theorem S103_8 : WP d 103 8 (a0 :: some (.int x) :: lv) st h Q ↔ WP d 103 11 (kl a0 :: some (.int (x + 1)) :: lv) st h Q := WP_st (by rfl)
theorem S103_11 : WP d 103 11 (a0 :: a1 :: some (.int x) :: lv) st h Q ↔ WP d 103 12 (a0 :: a1 :: some (.int x) :: lv) (.int x :: st) h Q := WP_st rfl
theorem S103_12 : WP d 103 12 (a0 :: a1 :: some (.int x) :: lv) st h Q ↔ WP d 103 13 (a0 :: a1 :: some (.int x) :: lv) (.int x :: st) h Q := WP_st rfl
theorem S103_13 : WP d 103 13 lv st h Q ↔ WP d 103 14 lv (.int 1 :: st) h Q := WP_st rfl
theorem S103_14 : WP d 103 14 lv (.int y :: .int x :: st) h Q ↔ WP d 103 15 lv (.int (x - y) :: st) h Q := WP_st rfl
theorem S103_15 : WP d 103 15 lv (.int y :: .int x :: st) h Q ↔ WP d 103 16 lv (.int (x &&& y) :: st) h Q := WP_st rfl
theorem S103_16 : WP d 103 16 (a0 :: a1 :: a2v :: lv) (.int x :: st) h Q ↔ WP d 103 17 (a0 :: kl a1 :: some (.int x) :: lv) st h Q := WP_st (by rfl)
theorem S103_17 : WP d 103 17 lv st h Q ↔ WP d 103 4 lv st h Q := WP_st rfl
theorem S103_20 : WP d 103 20 (a0 :: some (.int x) :: lv) st h Q ↔ WP d 103 21 (a0 :: some (.int x) :: lv) (.int x :: st) h Q := WP_st rfl
theorem S103_21 : WP d 103 21 lv [.int x] h Q ↔ Q (some (some (.int x))) h := WP_end rfl rfl rfl
theorem S104_0 : WP d 104 0 lv st h Q ↔ WP d 104 2 lv (.int 24 :: st) h Q := WP_st rfl
theorem S104_2 : WP d 104 2 (a0 :: a1 :: a2v :: lv) (.int x :: st) h Q ↔ WP d 104 3 (a0 :: kl a1 :: some (.int x) :: lv) st h Q := WP_st (by rfl)
theorem S104_3 : WP d 104 3 (a0 :: a1 :: some (.int x) :: lv) st h Q ↔ WP d 104 4 (a0 :: a1 :: some (.int x) :: lv) (.int x :: st) h Q := WP_st rfl
theorem S104_4 : WP d 104 4 lv (.int x :: st) h Q ↔ if x < 0 then WP d 104 39 lv st h Q else WP d 104 7 lv st h Q := WP_br rfl
theorem S104_7 : WP d 104 7 (some (.ref a) :: lv) st h Q ↔ WP d 104 8 (some (.ref a) :: lv) (.ref a :: st) h Q := WP_st rfl
theorem S104_8 (hs : shp a = some (0, 8)) : WP d 104 8 lv (.ref a :: st) h Q ↔ WP d 104 11 lv (.ref (RV a 1) :: st) h Q := WP_getR (r := 513) rfl hs (by decide)
theorem S104_11 : WP d 104 11 (some (.ref a) :: lv) st h Q ↔ WP d 104 12 (some (.ref a) :: lv) (.ref a :: st) h Q := WP_st rfl
theorem S104_12 (hs : shp a = some (0, 8)) : WP d 104 12 lv (.ref a :: st) h Q ↔ WP d 104 15 lv (.int (h.1 a 2) :: st) h Q := WP_getI (r := 514) rfl hs (by decide)
theorem S104_15 : WP d 104 15 (a0 :: some (.int x) :: lv) st h Q ↔ WP d 104 16 (a0 :: some (.int x) :: lv) (.int x :: st) h Q := WP_st rfl
theorem S104_16 : WP d 104 16 (a0 :: a1 :: some (.int x) :: lv) st h Q ↔ WP d 104 17 (a0 :: a1 :: some (.int x) :: lv) (.int x :: st) h Q := WP_st rfl
theorem S104_17 : WP d 104 17 lv (.int y :: .int x :: st) h Q ↔ WP d 104 18 lv (.int ((x.toUInt32 >>> (y.toUInt32 &&& Int32.toUInt32 31)).toInt32) :: st) h Q := WP_st rfl
theorem S104_18 : WP d 104 18 lv st h Q ↔ WP d 104 21 lv (.int 255 :: st) h Q := WP_st rfl
theorem S104_21 : WP d 104 21 lv (.int y :: .int x :: st) h Q ↔ WP d 104 22 lv (.int (x &&& y) :: st) h Q := WP_st rfl
theorem S104_22 (hi : okA 1 a i) : WP d 104 22 lv (.int x :: .int i :: .ref a :: st) h Q ↔ WP d 104 23 lv st (setI h a i.toNatClampNeg x) Q := WP_iast rfl hi
theorem S104_23 : WP d 104 23 (some (.ref a) :: lv) st h Q ↔ WP d 104 24 (some (.ref a) :: lv) (.ref a :: st) h Q := WP_st rfl
theorem S104_24 : WP d 104 24 lv (.ref a :: st) h Q ↔ WP d 104 25 lv (.ref a :: .ref a :: st) h Q := WP_st rfl
theorem S104_25 (hs : shp a = some (0, 8)) : WP d 104 25 lv (.ref a :: st) h Q ↔ WP d 104 28 lv (.int (h.1 a 2) :: st) h Q := WP_getI (r := 514) rfl hs (by decide)
theorem S104_28 : WP d 104 28 lv st h Q ↔ WP d 104 29 lv (.int 1 :: st) h Q := WP_st rfl
theorem S104_29 : WP d 104 29 lv (.int y :: .int x :: st) h Q ↔ WP d 104 30 lv (.int (x + y) :: st) h Q := WP_st rfl
theorem S104_30 (hs : shp a = some (0, 8)) : WP d 104 30 lv (.int x :: .ref a :: st) h Q ↔ WP d 104 33 lv st (setI h a 2 x) Q := WP_putI (r := 514) rfl hs (by decide)
theorem S104_33 : WP d 104 33 (a0 :: a1 :: some (.int x) :: lv) st h Q ↔ WP d 104 36 (a0 :: kl a1 :: some (.int (x + (-8))) :: lv) st h Q := WP_st (by rfl)
theorem S104_36 : WP d 104 36 lv st h Q ↔ WP d 104 3 lv st h Q := WP_st rfl
theorem S104_39 : WP d 104 39 lv [] h Q ↔ Q (some none) h := WP_end rfl rfl rfl
theorem S105_0 : WP d 105 0 (some (.ref a) :: lv) st h Q ↔ WP d 105 1 (some (.ref a) :: lv) (.ref a :: st) h Q := WP_st rfl
theorem S105_1 : WP d 105 1 lv st h Q ↔ WP d 105 2 lv (.int 0 :: st) h Q := WP_st rfl
theorem S105_2 (hs : shp a = some (0, 8)) : WP d 105 2 lv (.int x :: .ref a :: st) h Q ↔ WP d 105 5 lv st (setI h a 0 x) Q := WP_putI (r := 512) rfl hs (by decide)
theorem S105_5 : WP d 105 5 (some (.ref a) :: lv) st h Q ↔ WP d 105 6 (some (.ref a) :: lv) (.ref a :: st) h Q := WP_st rfl
theorem S105_6 (hs : shp a = some (0, 8)) : WP d 105 6 lv (.ref a :: st) h Q ↔ WP d 105 9 lv (.int (h.1 a 2) :: st) h Q := WP_getI (r := 514) rfl hs (by decide)
theorem S105_9 : WP d 105 9 lv st h Q ↔ WP d 105 11 lv (.int 20 :: st) h Q := WP_st rfl
theorem S105_11 : WP d 105 11 lv (.int y :: .int x :: st) h Q ↔ WP d 105 12 lv (.int (x + y) :: st) h Q := WP_st rfl
theorem S105_12 : WP d 105 12 lv st h Q ↔ WP d 105 15 lv (.int 540 :: st) h Q := WP_st rfl
theorem S105_15 : WP d 105 15 lv (.int y :: .int x :: st) h Q ↔ if x ≤ y then WP d 105 20 lv st h Q else WP d 105 18 lv st h Q := WP_br rfl
theorem S105_18 : WP d 105 18 lv st h Q ↔ WP d 105 19 lv (.int (-1) :: st) h Q := WP_st rfl
theorem S105_19 : WP d 105 19 lv [.int x] h Q ↔ Q (some (some (.int x))) h := WP_end rfl rfl rfl
theorem S105_20 : WP d 105 20 (some (.ref a) :: lv) st h Q ↔ WP d 105 21 (some (.ref a) :: lv) (.ref a :: st) h Q := WP_st rfl
theorem S105_21 : WP d 105 21 (a0 :: some (.int x) :: lv) st h Q ↔ WP d 105 22 (a0 :: some (.int x) :: lv) (.int x :: st) h Q := WP_st rfl
theorem S105_22 {pr0 : Nat} {pi0 : Int32} (hs : shp pr0 = some (0, 8)) : WP (d + 1) 105 22 lv [.int pi0, .ref pr0] h Q ↔ WP d 104 0 [some (.ref pr0), some (.int pi0), none] [] h (kV (d + 1) 105 25 lv [] Q) := WP_callVV rfl rfl rfl rfl rfl hs
theorem S105_25 : WP d 105 25 (some (.ref a) :: lv) st h Q ↔ WP d 105 26 (some (.ref a) :: lv) (.ref a :: st) h Q := WP_st rfl
theorem S105_26 : WP d 105 26 (a0 :: a1 :: some (.int x) :: lv) st h Q ↔ WP d 105 27 (a0 :: a1 :: some (.int x) :: lv) (.int x :: st) h Q := WP_st rfl
theorem S105_27 {pr0 : Nat} {pi0 : Int32} (hs : shp pr0 = some (0, 8)) : WP (d + 1) 105 27 lv [.int pi0, .ref pr0] h Q ↔ WP d 104 0 [some (.ref pr0), some (.int pi0), none] [] h (kV (d + 1) 105 30 lv [] Q) := WP_callVV rfl rfl rfl rfl rfl hs
theorem S105_30 : WP d 105 30 (some (.ref a) :: lv) st h Q ↔ WP d 105 31 (some (.ref a) :: lv) (.ref a :: st) h Q := WP_st rfl
theorem S105_31 : WP d 105 31 (a0 :: a1 :: a2v :: some (.int x) :: lv) st h Q ↔ WP d 105 32 (a0 :: a1 :: a2v :: some (.int x) :: lv) (.int x :: st) h Q := WP_st rfl
theorem S105_32 {pr0 : Nat} {pi0 : Int32} (hs : shp pr0 = some (0, 8)) : WP (d + 1) 105 32 lv [.int pi0, .ref pr0] h Q ↔ WP d 104 0 [some (.ref pr0), some (.int pi0), none] [] h (kV (d + 1) 105 35 lv [] Q) := WP_callVV rfl rfl rfl rfl rfl hs
theorem S105_35 : WP d 105 35 (some (.ref a) :: lv) st h Q ↔ WP d 105 36 (some (.ref a) :: lv) (.ref a :: st) h Q := WP_st rfl
theorem S105_36 : WP d 105 36 (a0 :: a1 :: a2v :: a3 :: some (.int x) :: lv) st h Q ↔ WP d 105 38 (a0 :: a1 :: a2v :: a3 :: some (.int x) :: lv) (.int x :: st) h Q := WP_st rfl
theorem S105_38 {pr0 : Nat} {pi0 : Int32} (hs : shp pr0 = some (0, 8)) : WP (d + 1) 105 38 lv [.int pi0, .ref pr0] h Q ↔ WP d 104 0 [some (.ref pr0), some (.int pi0), none] [] h (kV (d + 1) 105 41 lv [] Q) := WP_callVV rfl rfl rfl rfl rfl hs
theorem S105_41 : WP d 105 41 (some (.ref a) :: lv) st h Q ↔ WP d 105 42 (some (.ref a) :: lv) (.ref a :: st) h Q := WP_st rfl
theorem S105_42 : WP d 105 42 (a0 :: a1 :: a2v :: a3 :: a4 :: some (.int x) :: lv) st h Q ↔ WP d 105 44 (a0 :: a1 :: a2v :: a3 :: a4 :: some (.int x) :: lv) (.int x :: st) h Q := WP_st rfl
theorem S105_44 {pr0 : Nat} {pi0 : Int32} (hs : shp pr0 = some (0, 8)) : WP (d + 1) 105 44 lv [.int pi0, .ref pr0] h Q ↔ WP d 104 0 [some (.ref pr0), some (.int pi0), none] [] h (kV (d + 1) 105 47 lv [] Q) := WP_callVV rfl rfl rfl rfl rfl hs
theorem S105_47 : WP d 105 47 (some (.ref a) :: lv) st h Q ↔ WP d 105 48 (some (.ref a) :: lv) (.ref a :: st) h Q := WP_st rfl
theorem S105_48 (hs : shp a = some (0, 8)) : WP d 105 48 lv (.ref a :: st) h Q ↔ WP d 105 51 lv (.int (h.1 a 2) :: st) h Q := WP_getI (r := 514) rfl hs (by decide)
theorem S105_51 : WP d 105 51 lv [.int x] h Q ↔ Q (some (some (.int x))) h := WP_end rfl rfl rfl
theorem S106_0 : WP d 106 0 (some (.ref a) :: lv) st h Q ↔ WP d 106 1 (some (.ref a) :: lv) (.ref a :: st) h Q := WP_st rfl
theorem S106_1 : WP d 106 1 lv st h Q ↔ WP d 106 2 lv (.int 0 :: st) h Q := WP_st rfl
theorem S106_2 (hs : shp a = some (0, 8)) : WP d 106 2 lv (.int x :: .ref a :: st) h Q ↔ WP d 106 5 lv st (setI h a 0 x) Q := WP_putI (r := 512) rfl hs (by decide)
theorem S106_5 : WP d 106 5 (a0 :: some (.int x) :: lv) st h Q ↔ WP d 106 6 (a0 :: some (.int x) :: lv) (.int x :: st) h Q := WP_st rfl
theorem S106_6 : WP d 106 6 lv (.int x :: st) h Q ↔ if x < 0 then WP d 106 17 lv st h Q else WP d 106 9 lv st h Q := WP_br rfl
theorem S106_9 : WP d 106 9 (a0 :: some (.int x) :: lv) st h Q ↔ WP d 106 10 (a0 :: some (.int x) :: lv) (.int x :: st) h Q := WP_st rfl
theorem S106_10 : WP d 106 10 (some (.ref a) :: lv) st h Q ↔ WP d 106 11 (some (.ref a) :: lv) (.ref a :: st) h Q := WP_st rfl
theorem S106_11 (hs : shp a = some (0, 8)) : WP d 106 11 lv (.ref a :: st) h Q ↔ WP d 106 14 lv (.int (h.1 a 2) :: st) h Q := WP_getI (r := 514) rfl hs (by decide)
theorem S106_14 : WP d 106 14 lv (.int y :: .int x :: st) h Q ↔ if x ≤ y then WP d 106 19 lv st h Q else WP d 106 17 lv st h Q := WP_br rfl
theorem S106_17 : WP d 106 17 lv st h Q ↔ WP d 106 18 lv (.int 0 :: st) h Q := WP_st rfl
theorem S106_18 (hx : isB x) : WP d 106 18 lv [.int x] h Q ↔ Q (some (some (.int x))) h := WP_endZ rfl rfl hx
theorem S106_19 : WP d 106 19 (some (.ref a) :: lv) st h Q ↔ WP d 106 20 (some (.ref a) :: lv) (.ref a :: st) h Q := WP_st rfl
theorem S106_20 : WP d 106 20 (a0 :: some (.int x) :: lv) st h Q ↔ WP d 106 21 (a0 :: some (.int x) :: lv) (.int x :: st) h Q := WP_st rfl
theorem S106_21 (hs : shp a = some (0, 8)) : WP d 106 21 lv (.int x :: .ref a :: st) h Q ↔ WP d 106 24 lv st (setI h a 2 x) Q := WP_putI (r := 514) rfl hs (by decide)
theorem S106_24 : WP d 106 24 lv st h Q ↔ WP d 106 25 lv (.int 1 :: st) h Q := WP_st rfl
theorem S106_25 (hx : isB x) : WP d 106 25 lv [.int x] h Q ↔ Q (some (some (.int x))) h := WP_endZ rfl rfl hx
theorem S107_0 : WP d 107 0 (a0 :: some (.int x) :: lv) st h Q ↔ WP d 107 1 (a0 :: some (.int x) :: lv) (.int x :: st) h Q := WP_st rfl
theorem S107_1 : WP d 107 1 (some (.ref a) :: lv) st h Q ↔ WP d 107 2 (some (.ref a) :: lv) (.ref a :: st) h Q := WP_st rfl
theorem S107_2 (hs : shp a = some (0, 8)) : WP d 107 2 lv (.ref a :: st) h Q ↔ WP d 107 5 lv (.int (h.1 a 3) :: st) h Q := WP_getI (r := 515) rfl hs (by decide)
theorem S107_5 : WP d 107 5 lv (.int y :: .int x :: st) h Q ↔ if y ≤ x then WP d 107 17 lv st h Q else WP d 107 8 lv st h Q := WP_br rfl
theorem S107_8 : WP d 107 8 (some (.ref a) :: lv) st h Q ↔ WP d 107 9 (some (.ref a) :: lv) (.ref a :: st) h Q := WP_st rfl
theorem S107_9 (hs : shp a = some (0, 8)) : WP d 107 9 lv (.ref a :: st) h Q ↔ WP d 107 12 lv (.ref (RV a 1) :: st) h Q := WP_getR (r := 513) rfl hs (by decide)
theorem S107_12 : WP d 107 12 (a0 :: some (.int x) :: lv) st h Q ↔ WP d 107 13 (a0 :: some (.int x) :: lv) (.int x :: st) h Q := WP_st rfl
theorem S107_13 (hi : okA 1 a i) : WP d 107 13 lv (.int i :: .ref a :: st) h Q ↔ WP d 107 14 lv (.int (h.1 a i.toNatClampNeg) :: st) h Q := WP_iald rfl hi
theorem S107_14 : WP d 107 14 lv st h Q ↔ WP d 107 18 lv st h Q := WP_st rfl
theorem S107_17 : WP d 107 17 lv st h Q ↔ WP d 107 18 lv (.int 0 :: st) h Q := WP_st rfl
theorem S107_18 : WP d 107 18 lv [.int x] h Q ↔ Q (some (some (.int x))) h := WP_end rfl rfl rfl
theorem S108_0 : WP d 108 0 (some (.int x) :: lv) st h Q ↔ WP d 108 1 (some (.int x) :: lv) (.int x :: st) h Q := WP_st rfl
theorem S108_1 : WP d 108 1 lv st h Q ↔ WP d 108 3 lv (.int 48 :: st) h Q := WP_st rfl
theorem S108_3 : WP d 108 3 lv (.int y :: .int x :: st) h Q ↔ if x < y then WP d 108 16 lv st h Q else WP d 108 6 lv st h Q := WP_br rfl
theorem S108_6 : WP d 108 6 (some (.int x) :: lv) st h Q ↔ WP d 108 7 (some (.int x) :: lv) (.int x :: st) h Q := WP_st rfl
theorem S108_7 : WP d 108 7 lv st h Q ↔ WP d 108 9 lv (.int 57 :: st) h Q := WP_st rfl
theorem S108_9 : WP d 108 9 lv (.int y :: .int x :: st) h Q ↔ if y < x then WP d 108 16 lv st h Q else WP d 108 12 lv st h Q := WP_br rfl
theorem S108_12 : WP d 108 12 lv st h Q ↔ WP d 108 13 lv (.int 1 :: st) h Q := WP_st rfl
theorem S108_13 : WP d 108 13 lv st h Q ↔ WP d 108 17 lv st h Q := WP_st rfl
theorem S108_16 : WP d 108 16 lv st h Q ↔ WP d 108 17 lv (.int 0 :: st) h Q := WP_st rfl
theorem S108_17 (hx : isB x) : WP d 108 17 lv [.int x] h Q ↔ Q (some (some (.int x))) h := WP_endZ rfl rfl hx
theorem S109_0 : WP d 109 0 (some (.int x) :: lv) st h Q ↔ WP d 109 1 (some (.int x) :: lv) (.int x :: st) h Q := WP_st rfl
theorem S109_1 : WP d 109 1 lv st h Q ↔ WP d 109 3 lv (.int 97 :: st) h Q := WP_st rfl
theorem S109_3 : WP d 109 3 lv (.int y :: .int x :: st) h Q ↔ if x < y then WP d 109 16 lv st h Q else WP d 109 6 lv st h Q := WP_br rfl
theorem S109_6 : WP d 109 6 (some (.int x) :: lv) st h Q ↔ WP d 109 7 (some (.int x) :: lv) (.int x :: st) h Q := WP_st rfl
theorem S109_7 : WP d 109 7 lv st h Q ↔ WP d 109 9 lv (.int 122 :: st) h Q := WP_st rfl
theorem S109_9 : WP d 109 9 lv (.int y :: .int x :: st) h Q ↔ if y < x then WP d 109 16 lv st h Q else WP d 109 12 lv st h Q := WP_br rfl
theorem S109_12 : WP d 109 12 lv st h Q ↔ WP d 109 13 lv (.int 1 :: st) h Q := WP_st rfl
theorem S109_13 : WP d 109 13 lv st h Q ↔ WP d 109 17 lv st h Q := WP_st rfl
theorem S109_16 : WP d 109 16 lv st h Q ↔ WP d 109 17 lv (.int 0 :: st) h Q := WP_st rfl
theorem S109_17 (hx : isB x) : WP d 109 17 lv [.int x] h Q ↔ Q (some (some (.int x))) h := WP_endZ rfl rfl hx
theorem S110_0 : WP d 110 0 (some (.ref a) :: lv) st h Q ↔ WP d 110 1 (some (.ref a) :: lv) (.ref a :: st) h Q := WP_st rfl
theorem S110_1 (hs : shp a = some (0, 8)) : WP d 110 1 lv (.ref a :: st) h Q ↔ WP d 110 4 lv (.int (h.1 a 4) :: st) h Q := WP_getI (r := 516) rfl hs (by decide)
theorem S110_4 : WP d 110 4 (some (.ref a) :: lv) st h Q ↔ WP d 110 5 (some (.ref a) :: lv) (.ref a :: st) h Q := WP_st rfl
theorem S110_5 (hs : shp a = some (0, 8)) : WP d 110 5 lv (.ref a :: st) h Q ↔ WP d 110 8 lv (.int (h.1 a 3) :: st) h Q := WP_getI (r := 515) rfl hs (by decide)
theorem S110_8 : WP d 110 8 lv (.int y :: .int x :: st) h Q ↔ if y ≤ x then WP d 110 52 lv st h Q else WP d 110 11 lv st h Q := WP_br rfl
theorem S110_11 : WP d 110 11 (some (.ref a) :: lv) st h Q ↔ WP d 110 12 (some (.ref a) :: lv) (.ref a :: st) h Q := WP_st rfl
theorem S110_12 (hs : shp a = some (0, 8)) : WP d 110 12 lv (.ref a :: st) h Q ↔ WP d 110 15 lv (.ref (RV a 1) :: st) h Q := WP_getR (r := 513) rfl hs (by decide)
theorem S110_15 : WP d 110 15 (some (.ref a) :: lv) st h Q ↔ WP d 110 16 (some (.ref a) :: lv) (.ref a :: st) h Q := WP_st rfl
theorem S110_16 (hs : shp a = some (0, 8)) : WP d 110 16 lv (.ref a :: st) h Q ↔ WP d 110 19 lv (.int (h.1 a 4) :: st) h Q := WP_getI (r := 516) rfl hs (by decide)
theorem S110_19 (hi : okA 1 a i) : WP d 110 19 lv (.int i :: .ref a :: st) h Q ↔ WP d 110 20 lv (.int (h.1 a i.toNatClampNeg) :: st) h Q := WP_iald rfl hi
theorem S110_20 : WP d 110 20 lv st h Q ↔ WP d 110 22 lv (.int 32 :: st) h Q := WP_st rfl
theorem S110_22 : WP d 110 22 lv (.int y :: .int x :: st) h Q ↔ if x = y then WP d 110 39 lv st h Q else WP d 110 25 lv st h Q := WP_br rfl
theorem S110_25 : WP d 110 25 (some (.ref a) :: lv) st h Q ↔ WP d 110 26 (some (.ref a) :: lv) (.ref a :: st) h Q := WP_st rfl
theorem S110_26 (hs : shp a = some (0, 8)) : WP d 110 26 lv (.ref a :: st) h Q ↔ WP d 110 29 lv (.ref (RV a 1) :: st) h Q := WP_getR (r := 513) rfl hs (by decide)
theorem S110_29 : WP d 110 29 (some (.ref a) :: lv) st h Q ↔ WP d 110 30 (some (.ref a) :: lv) (.ref a :: st) h Q := WP_st rfl
theorem S110_30 (hs : shp a = some (0, 8)) : WP d 110 30 lv (.ref a :: st) h Q ↔ WP d 110 33 lv (.int (h.1 a 4) :: st) h Q := WP_getI (r := 516) rfl hs (by decide)
theorem S110_33 (hi : okA 1 a i) : WP d 110 33 lv (.int i :: .ref a :: st) h Q ↔ WP d 110 34 lv (.int (h.1 a i.toNatClampNeg) :: st) h Q := WP_iald rfl hi
theorem S110_34 : WP d 110 34 lv st h Q ↔ WP d 110 36 lv (.int 10 :: st) h Q := WP_st rfl
theorem S110_36 : WP d 110 36 lv (.int y :: .int x :: st) h Q ↔ if x = y then WP d 110 39 lv st h Q else WP d 110 52 lv st h Q := WP_br rfl
theorem S110_39 : WP d 110 39 (some (.ref a) :: lv) st h Q ↔ WP d 110 40 (some (.ref a) :: lv) (.ref a :: st) h Q := WP_st rfl
theorem S110_40 : WP d 110 40 lv (.ref a :: st) h Q ↔ WP d 110 41 lv (.ref a :: .ref a :: st) h Q := WP_st rfl
theorem S110_41 (hs : shp a = some (0, 8)) : WP d 110 41 lv (.ref a :: st) h Q ↔ WP d 110 44 lv (.int (h.1 a 4) :: st) h Q := WP_getI (r := 516) rfl hs (by decide)
theorem S110_44 : WP d 110 44 lv st h Q ↔ WP d 110 45 lv (.int 1 :: st) h Q := WP_st rfl
theorem S110_45 : WP d 110 45 lv (.int y :: .int x :: st) h Q ↔ WP d 110 46 lv (.int (x + y) :: st) h Q := WP_st rfl
theorem S110_46 (hs : shp a = some (0, 8)) : WP d 110 46 lv (.int x :: .ref a :: st) h Q ↔ WP d 110 49 lv st (setI h a 4 x) Q := WP_putI (r := 516) rfl hs (by decide)
theorem S110_49 : WP d 110 49 lv st h Q ↔ WP d 110 0 lv st h Q := WP_st rfl
theorem S110_52 : WP d 110 52 (some (.ref a) :: lv) st h Q ↔ WP d 110 53 (some (.ref a) :: lv) (.ref a :: st) h Q := WP_st rfl
theorem S110_53 : WP d 110 53 (some (.ref a) :: lv) st h Q ↔ WP d 110 54 (some (.ref a) :: lv) (.ref a :: st) h Q := WP_st rfl
theorem S110_54 (hs : shp a = some (0, 8)) : WP d 110 54 lv (.ref a :: st) h Q ↔ WP d 110 57 lv (.int (h.1 a 4) :: st) h Q := WP_getI (r := 516) rfl hs (by decide)
theorem S110_57 (hs : shp a = some (0, 8)) : WP d 110 57 lv (.int x :: .ref a :: st) h Q ↔ WP d 110 60 lv st (setI h a 5 x) Q := WP_putI (r := 517) rfl hs (by decide)
theorem S110_60 : WP d 110 60 (some (.ref a) :: lv) st h Q ↔ WP d 110 61 (some (.ref a) :: lv) (.ref a :: st) h Q := WP_st rfl
theorem S110_61 (hs : shp a = some (0, 8)) : WP d 110 61 lv (.ref a :: st) h Q ↔ WP d 110 64 lv (.int (h.1 a 3) :: st) h Q := WP_getI (r := 515) rfl hs (by decide)
theorem S110_64 : WP d 110 64 lv st h Q ↔ WP d 110 67 lv (.int 500 :: st) h Q := WP_st rfl
theorem S110_67 : WP d 110 67 lv (.int y :: .int x :: st) h Q ↔ if x ≤ y then WP d 110 93 lv st h Q else WP d 110 70 lv st h Q := WP_br rfl
theorem S110_70 : WP d 110 70 (some (.ref a) :: lv) st h Q ↔ WP d 110 71 (some (.ref a) :: lv) (.ref a :: st) h Q := WP_st rfl
theorem S110_71 (hs : shp a = some (0, 8)) : WP d 110 71 lv (.ref a :: st) h Q ↔ WP d 110 74 lv (.int (h.1 a 5) :: st) h Q := WP_getI (r := 517) rfl hs (by decide)
theorem S110_74 : WP d 110 74 lv st h Q ↔ WP d 110 77 lv (.int 500 :: st) h Q := WP_st rfl
theorem S110_77 : WP d 110 77 lv (.int y :: .int x :: st) h Q ↔ if x < y then WP d 110 93 lv st h Q else WP d 110 80 lv st h Q := WP_br rfl
theorem S110_80 : WP d 110 80 (some (.ref a) :: lv) st h Q ↔ WP d 110 81 (some (.ref a) :: lv) (.ref a :: st) h Q := WP_st rfl
theorem S110_81 : WP d 110 81 lv st h Q ↔ WP d 110 84 lv (.int 500 :: st) h Q := WP_st rfl
theorem S110_84 (hs : shp a = some (0, 8)) : WP d 110 84 lv (.int x :: .ref a :: st) h Q ↔ WP d 110 87 lv st (setI h a 5 x) Q := WP_putI (r := 517) rfl hs (by decide)
theorem S110_87 : WP d 110 87 (some (.ref a) :: lv) st h Q ↔ WP d 110 88 (some (.ref a) :: lv) (.ref a :: st) h Q := WP_st rfl
theorem S110_88 : WP d 110 88 lv st h Q ↔ WP d 110 89 lv (.int 1 :: st) h Q := WP_st rfl
theorem S110_89 (hs : shp a = some (0, 8)) : WP d 110 89 lv (.int x :: .ref a :: st) h Q ↔ WP d 110 92 lv st (setI h a 6 x) Q := WP_putI (r := 518) rfl hs (by decide)
theorem S110_92 : WP d 110 92 lv [] h Q ↔ Q (some none) h := WP_end rfl rfl rfl
theorem S110_93 : WP d 110 93 (some (.ref a) :: lv) st h Q ↔ WP d 110 94 (some (.ref a) :: lv) (.ref a :: st) h Q := WP_st rfl
theorem S110_94 (hs : shp a = some (0, 8)) : WP d 110 94 lv (.ref a :: st) h Q ↔ WP d 110 97 lv (.int (h.1 a 4) :: st) h Q := WP_getI (r := 516) rfl hs (by decide)
theorem S110_97 : WP d 110 97 (some (.ref a) :: lv) st h Q ↔ WP d 110 98 (some (.ref a) :: lv) (.ref a :: st) h Q := WP_st rfl
theorem S110_98 (hs : shp a = some (0, 8)) : WP d 110 98 lv (.ref a :: st) h Q ↔ WP d 110 101 lv (.int (h.1 a 3) :: st) h Q := WP_getI (r := 515) rfl hs (by decide)
theorem S110_101 : WP d 110 101 lv (.int y :: .int x :: st) h Q ↔ if x < y then WP d 110 110 lv st h Q else WP d 110 104 lv st h Q := WP_br rfl
theorem S110_104 : WP d 110 104 (some (.ref a) :: lv) st h Q ↔ WP d 110 105 (some (.ref a) :: lv) (.ref a :: st) h Q := WP_st rfl
theorem S110_105 : WP d 110 105 lv st h Q ↔ WP d 110 106 lv (.int 0 :: st) h Q := WP_st rfl
theorem S110_106 (hs : shp a = some (0, 8)) : WP d 110 106 lv (.int x :: .ref a :: st) h Q ↔ WP d 110 109 lv st (setI h a 6 x) Q := WP_putI (r := 518) rfl hs (by decide)
theorem S110_109 : WP d 110 109 lv [] h Q ↔ Q (some none) h := WP_end rfl rfl rfl
theorem S110_110 : WP d 110 110 (some (.ref a) :: lv) st h Q ↔ WP d 110 111 (some (.ref a) :: lv) (.ref a :: st) h Q := WP_st rfl
theorem S110_111 (hs : shp a = some (0, 8)) : WP d 110 111 lv (.ref a :: st) h Q ↔ WP d 110 114 lv (.ref (RV a 1) :: st) h Q := WP_getR (r := 513) rfl hs (by decide)
theorem S110_114 : WP d 110 114 (some (.ref a) :: lv) st h Q ↔ WP d 110 115 (some (.ref a) :: lv) (.ref a :: st) h Q := WP_st rfl
theorem S110_115 (hs : shp a = some (0, 8)) : WP d 110 115 lv (.ref a :: st) h Q ↔ WP d 110 118 lv (.int (h.1 a 4) :: st) h Q := WP_getI (r := 516) rfl hs (by decide)
theorem S110_118 (hi : okA 1 a i) : WP d 110 118 lv (.int i :: .ref a :: st) h Q ↔ WP d 110 119 lv (.int (h.1 a i.toNatClampNeg) :: st) h Q := WP_iald rfl hi
theorem S110_119 : WP d 110 119 (a0 :: a1 :: lv) (.int x :: st) h Q ↔ WP d 110 120 (kl a0 :: some (.int x) :: lv) st h Q := WP_st (by rfl)
theorem S110_120 : WP d 110 120 (a0 :: some (.int x) :: lv) st h Q ↔ WP d 110 121 (a0 :: some (.int x) :: lv) (.int x :: st) h Q := WP_st rfl
theorem S110_121 {pi0 : Int32} : WP (d + 1) 110 121 lv [.int pi0] h Q ↔ WP d 109 0 [some (.int pi0)] [] h (kR (d + 1) 110 124 lv [] Q) := WP_callSR rfl rfl rfl rfl rfl
theorem S110_124 : WP d 110 124 lv (.int x :: st) h Q ↔ if x = 0 then WP d 110 127 lv st h Q else WP d 110 160 lv st h Q := WP_br rfl
theorem S110_127 : WP d 110 127 (a0 :: some (.int x) :: lv) st h Q ↔ WP d 110 128 (a0 :: some (.int x) :: lv) (.int x :: st) h Q := WP_st rfl
theorem S110_128 {pi0 : Int32} : WP (d + 1) 110 128 lv [.int pi0] h Q ↔ WP d 108 0 [some (.int pi0)] [] h (kR (d + 1) 110 131 lv [] Q) := WP_callSR rfl rfl rfl rfl rfl
theorem S110_131 : WP d 110 131 lv (.int x :: st) h Q ↔ if x = 0 then WP d 110 134 lv st h Q else WP d 110 160 lv st h Q := WP_br rfl
theorem S110_134 : WP d 110 134 (some (.ref a) :: lv) st h Q ↔ WP d 110 135 (some (.ref a) :: lv) (.ref a :: st) h Q := WP_st rfl
theorem S110_135 : WP d 110 135 (a0 :: some (.int x) :: lv) st h Q ↔ WP d 110 136 (a0 :: some (.int x) :: lv) (.int x :: st) h Q := WP_st rfl
theorem S110_136 : WP d 110 136 lv st h Q ↔ WP d 110 138 lv (.int 59 :: st) h Q := WP_st rfl
theorem S110_138 : WP d 110 138 lv (.int y :: .int x :: st) h Q ↔ if x = y then WP d 110 141 lv st h Q else WP d 110 145 lv st h Q := WP_br rfl
theorem S110_141 : WP d 110 141 lv st h Q ↔ WP d 110 142 lv (.int 4 :: st) h Q := WP_st rfl
theorem S110_142 : WP d 110 142 lv st h Q ↔ WP d 110 146 lv st h Q := WP_st rfl
theorem S110_145 : WP d 110 145 lv st h Q ↔ WP d 110 146 lv (.int 1 :: st) h Q := WP_st rfl
theorem S110_146 (hs : shp a = some (0, 8)) : WP d 110 146 lv (.int x :: .ref a :: st) h Q ↔ WP d 110 149 lv st (setI h a 6 x) Q := WP_putI (r := 518) rfl hs (by decide)
theorem S110_149 : WP d 110 149 (some (.ref a) :: lv) st h Q ↔ WP d 110 150 (some (.ref a) :: lv) (.ref a :: st) h Q := WP_st rfl
theorem S110_150 : WP d 110 150 lv (.ref a :: st) h Q ↔ WP d 110 151 lv (.ref a :: .ref a :: st) h Q := WP_st rfl
theorem S110_151 (hs : shp a = some (0, 8)) : WP d 110 151 lv (.ref a :: st) h Q ↔ WP d 110 154 lv (.int (h.1 a 4) :: st) h Q := WP_getI (r := 516) rfl hs (by decide)
theorem S110_154 : WP d 110 154 lv st h Q ↔ WP d 110 155 lv (.int 1 :: st) h Q := WP_st rfl
theorem S110_155 : WP d 110 155 lv (.int y :: .int x :: st) h Q ↔ WP d 110 156 lv (.int (x + y) :: st) h Q := WP_st rfl
theorem S110_156 (hs : shp a = some (0, 8)) : WP d 110 156 lv (.int x :: .ref a :: st) h Q ↔ WP d 110 159 lv st (setI h a 4 x) Q := WP_putI (r := 516) rfl hs (by decide)
theorem S110_159 : WP d 110 159 lv [] h Q ↔ Q (some none) h := WP_end rfl rfl rfl
set_option maxRecDepth 20000 in
theorem S110_160 : WP d 110 160 (a0 :: some (.int x) :: lv) st h Q ↔ WP d 110 161 (a0 :: some (.int x) :: lv) (.int x :: st) h Q := WP_st rfl
set_option maxRecDepth 20000 in
theorem S110_161 {pi0 : Int32} : WP (d + 1) 110 161 lv [.int pi0] h Q ↔ WP d 109 0 [some (.int pi0)] [] h (kR (d + 1) 110 164 lv [] Q) := WP_callSR rfl rfl rfl rfl rfl
set_option maxRecDepth 20000 in
theorem S110_164 : WP d 110 164 (a0 :: a1 :: a2v :: lv) (.int x :: st) h Q ↔ WP d 110 165 (a0 :: kl a1 :: some (.int x) :: lv) st h Q := WP_st (by rfl)
set_option maxRecDepth 20000 in
theorem S110_165 : WP d 110 165 lv st h Q ↔ WP d 110 166 lv (.int 1 :: st) h Q := WP_st rfl
set_option maxRecDepth 20000 in
theorem S110_166 : WP d 110 166 (a0 :: a1 :: a2v :: a3 :: lv) (.int x :: st) h Q ↔ WP d 110 167 (a0 :: a1 :: kl a2v :: some (.int x) :: lv) st h Q := WP_st (by rfl)
set_option maxRecDepth 20000 in
theorem S110_167 : WP d 110 167 (some (.ref a) :: lv) st h Q ↔ WP d 110 168 (some (.ref a) :: lv) (.ref a :: st) h Q := WP_st rfl
set_option maxRecDepth 20000 in
theorem S110_168 : WP d 110 168 lv st h Q ↔ WP d 110 169 lv (.long 0 :: st) h Q := WP_st rfl
set_option maxRecDepth 20000 in
theorem S110_169 (hs : shp a = some (0, 8)) : WP d 110 169 lv (.long u :: .ref a :: st) h Q ↔ WP d 110 172 lv st (setL h a 12 u) Q := WP_putL (r := 524) rfl hs (by decide)
set_option maxRecDepth 20000 in
theorem S110_172 : WP d 110 172 (some (.ref a) :: lv) st h Q ↔ WP d 110 173 (some (.ref a) :: lv) (.ref a :: st) h Q := WP_st rfl
set_option maxRecDepth 20000 in
theorem S110_173 : WP d 110 173 lv st h Q ↔ WP d 110 174 lv (.int 0 :: st) h Q := WP_st rfl
set_option maxRecDepth 20000 in
theorem S110_174 (hs : shp a = some (0, 8)) : WP d 110 174 lv (.int x :: .ref a :: st) h Q ↔ WP d 110 177 lv st (setI h a 7 x) Q := WP_putI (r := 519) rfl hs (by decide)
set_option maxRecDepth 20000 in
theorem S110_177 : WP d 110 177 (some (.ref a) :: lv) st h Q ↔ WP d 110 178 (some (.ref a) :: lv) (.ref a :: st) h Q := WP_st rfl
set_option maxRecDepth 20000 in
theorem S110_178 : WP d 110 178 (some (.ref a) :: lv) st h Q ↔ WP d 110 179 (some (.ref a) :: lv) (.ref a :: st) h Q := WP_st rfl
set_option maxRecDepth 20000 in
theorem S110_179 (hs : shp a = some (0, 8)) : WP d 110 179 lv (.ref a :: st) h Q ↔ WP d 110 182 lv (.int (h.1 a 4) :: st) h Q := WP_getI (r := 516) rfl hs (by decide)
set_option maxRecDepth 20000 in
theorem S110_182 {pr0 : Nat} {pi0 : Int32} (hs : shp pr0 = some (0, 8)) : WP (d + 1) 110 182 lv [.int pi0, .ref pr0] h Q ↔ WP d 107 0 [some (.ref pr0), some (.int pi0)] [] h (kR (d + 1) 110 185 lv [] Q) := WP_callVR rfl rfl rfl rfl rfl hs
set_option maxRecDepth 20000 in
theorem S110_185 {pi0 : Int32} : WP (d + 1) 110 185 lv [.int pi0] h Q ↔ WP d 109 0 [some (.int pi0)] [] h (kR (d + 1) 110 188 lv [] Q) := WP_callSR rfl rfl rfl rfl rfl
set_option maxRecDepth 20000 in
theorem S110_188 : WP d 110 188 lv (.int x :: st) h Q ↔ if x = 0 then WP d 110 191 lv st h Q else WP d 110 205 lv st h Q := WP_br rfl
set_option maxRecDepth 20000 in
theorem S110_191 : WP d 110 191 (some (.ref a) :: lv) st h Q ↔ WP d 110 192 (some (.ref a) :: lv) (.ref a :: st) h Q := WP_st rfl
set_option maxRecDepth 20000 in
theorem S110_192 : WP d 110 192 (some (.ref a) :: lv) st h Q ↔ WP d 110 193 (some (.ref a) :: lv) (.ref a :: st) h Q := WP_st rfl
set_option maxRecDepth 20000 in
theorem S110_193 (hs : shp a = some (0, 8)) : WP d 110 193 lv (.ref a :: st) h Q ↔ WP d 110 196 lv (.int (h.1 a 4) :: st) h Q := WP_getI (r := 516) rfl hs (by decide)
set_option maxRecDepth 20000 in
theorem S110_196 {pr0 : Nat} {pi0 : Int32} (hs : shp pr0 = some (0, 8)) : WP (d + 1) 110 196 lv [.int pi0, .ref pr0] h Q ↔ WP d 107 0 [some (.ref pr0), some (.int pi0)] [] h (kR (d + 1) 110 199 lv [] Q) := WP_callVR rfl rfl rfl rfl rfl hs
set_option maxRecDepth 20000 in
theorem S110_199 {pi0 : Int32} : WP (d + 1) 110 199 lv [.int pi0] h Q ↔ WP d 108 0 [some (.int pi0)] [] h (kR (d + 1) 110 202 lv [] Q) := WP_callSR rfl rfl rfl rfl rfl
set_option maxRecDepth 20000 in
theorem S110_202 : WP d 110 202 lv (.int x :: st) h Q ↔ if x = 0 then WP d 110 312 lv st h Q else WP d 110 205 lv st h Q := WP_br rfl
set_option maxRecDepth 20000 in
theorem S110_205 : WP d 110 205 (some (.ref a) :: lv) st h Q ↔ WP d 110 206 (some (.ref a) :: lv) (.ref a :: st) h Q := WP_st rfl
set_option maxRecDepth 20000 in
theorem S110_206 (hs : shp a = some (0, 8)) : WP d 110 206 lv (.ref a :: st) h Q ↔ WP d 110 209 lv (.ref (RV a 1) :: st) h Q := WP_getR (r := 513) rfl hs (by decide)
set_option maxRecDepth 20000 in
theorem S110_209 : WP d 110 209 (some (.ref a) :: lv) st h Q ↔ WP d 110 210 (some (.ref a) :: lv) (.ref a :: st) h Q := WP_st rfl
set_option maxRecDepth 20000 in
theorem S110_210 (hs : shp a = some (0, 8)) : WP d 110 210 lv (.ref a :: st) h Q ↔ WP d 110 213 lv (.int (h.1 a 4) :: st) h Q := WP_getI (r := 516) rfl hs (by decide)
set_option maxRecDepth 20000 in
theorem S110_213 (hi : okA 1 a i) : WP d 110 213 lv (.int i :: .ref a :: st) h Q ↔ WP d 110 214 lv (.int (h.1 a i.toNatClampNeg) :: st) h Q := WP_iald rfl hi
set_option maxRecDepth 20000 in
theorem S110_214 : WP d 110 214 (a0 :: a1 :: a2v :: a3 :: a4 :: lv) (.int x :: st) h Q ↔ WP d 110 216 (a0 :: a1 :: a2v :: kl a3 :: some (.int x) :: lv) st h Q := WP_st (by rfl)
set_option maxRecDepth 20000 in
theorem S110_216 : WP d 110 216 (a0 :: a1 :: a2v :: some (.int x) :: lv) st h Q ↔ WP d 110 217 (a0 :: a1 :: a2v :: some (.int x) :: lv) (.int x :: st) h Q := WP_st rfl
set_option maxRecDepth 20000 in
theorem S110_217 : WP d 110 217 lv (.int x :: st) h Q ↔ if x = 0 then WP d 110 233 lv st h Q else WP d 110 220 lv st h Q := WP_br rfl
set_option maxRecDepth 20000 in
theorem S110_220 : WP d 110 220 (a0 :: a1 :: a2v :: a3 :: some (.int x) :: lv) st h Q ↔ WP d 110 222 (a0 :: a1 :: a2v :: a3 :: some (.int x) :: lv) (.int x :: st) h Q := WP_st rfl
set_option maxRecDepth 20000 in
theorem S110_222 {pi0 : Int32} : WP (d + 1) 110 222 lv [.int pi0] h Q ↔ WP d 109 0 [some (.int pi0)] [] h (kR (d + 1) 110 225 lv [] Q) := WP_callSR rfl rfl rfl rfl rfl
set_option maxRecDepth 20000 in
theorem S110_225 : WP d 110 225 (a0 :: a1 :: some (.int x) :: lv) st h Q ↔ WP d 110 226 (a0 :: a1 :: some (.int x) :: lv) (.int x :: st) h Q := WP_st rfl
set_option maxRecDepth 20000 in
theorem S110_226 : WP d 110 226 lv (.int y :: .int x :: st) h Q ↔ if x = y then WP d 110 229 lv st h Q else WP d 110 233 lv st h Q := WP_br rfl
set_option maxRecDepth 20000 in
theorem S110_229 : WP d 110 229 lv st h Q ↔ WP d 110 230 lv (.int 1 :: st) h Q := WP_st rfl
set_option maxRecDepth 20000 in
theorem S110_230 : WP d 110 230 lv st h Q ↔ WP d 110 234 lv st h Q := WP_st rfl
set_option maxRecDepth 20000 in
theorem S110_233 : WP d 110 233 lv st h Q ↔ WP d 110 234 lv (.int 0 :: st) h Q := WP_st rfl
set_option maxRecDepth 20000 in
theorem S110_234 : WP d 110 234 (a0 :: a1 :: a2v :: a3 :: lv) (.int x :: st) h Q ↔ WP d 110 235 (a0 :: a1 :: kl a2v :: some (.int x) :: lv) st h Q := WP_st (by rfl)
set_option maxRecDepth 20000 in
theorem S110_235 : WP d 110 235 (some (.ref a) :: lv) st h Q ↔ WP d 110 236 (some (.ref a) :: lv) (.ref a :: st) h Q := WP_st rfl
set_option maxRecDepth 20000 in
theorem S110_236 (hs : shp a = some (0, 8)) : WP d 110 236 lv (.ref a :: st) h Q ↔ WP d 110 239 lv (.int (h.1 a 4) :: st) h Q := WP_getI (r := 516) rfl hs (by decide)
set_option maxRecDepth 20000 in
theorem S110_239 : WP d 110 239 (some (.ref a) :: lv) st h Q ↔ WP d 110 240 (some (.ref a) :: lv) (.ref a :: st) h Q := WP_st rfl
set_option maxRecDepth 20000 in
theorem S110_240 (hs : shp a = some (0, 8)) : WP d 110 240 lv (.ref a :: st) h Q ↔ WP d 110 243 lv (.int (h.1 a 5) :: st) h Q := WP_getI (r := 517) rfl hs (by decide)
set_option maxRecDepth 20000 in
theorem S110_243 : WP d 110 243 lv (.int y :: .int x :: st) h Q ↔ WP d 110 244 lv (.int (x - y) :: st) h Q := WP_st rfl
set_option maxRecDepth 20000 in
theorem S110_244 : WP d 110 244 lv st h Q ↔ WP d 110 246 lv (.int 7 :: st) h Q := WP_st rfl
set_option maxRecDepth 20000 in
theorem S110_246 : WP d 110 246 lv (.int y :: .int x :: st) h Q ↔ if y ≤ x then WP d 110 269 lv st h Q else WP d 110 249 lv st h Q := WP_br rfl
set_option maxRecDepth 20000 in
theorem S110_249 : WP d 110 249 (some (.ref a) :: lv) st h Q ↔ WP d 110 250 (some (.ref a) :: lv) (.ref a :: st) h Q := WP_st rfl
set_option maxRecDepth 20000 in
theorem S110_250 : WP d 110 250 lv st h Q ↔ WP d 110 253 lv (.long 27 :: st) h Q := WP_st rfl
set_option maxRecDepth 20000 in
theorem S110_253 : WP d 110 253 (some (.ref a) :: lv) st h Q ↔ WP d 110 254 (some (.ref a) :: lv) (.ref a :: st) h Q := WP_st rfl
set_option maxRecDepth 20000 in
theorem S110_254 (hs : shp a = some (0, 8)) : WP d 110 254 lv (.ref a :: st) h Q ↔ WP d 110 257 lv (.long (h.2.1 a 12) :: st) h Q := WP_getL (r := 524) rfl hs (by decide)
set_option maxRecDepth 20000 in
theorem S110_257 : WP d 110 257 lv (.long w :: .long u :: st) h Q ↔ WP d 110 258 lv (.long (u * w) :: st) h Q := WP_st rfl
set_option maxRecDepth 20000 in
theorem S110_258 : WP d 110 258 (a0 :: a1 :: a2v :: a3 :: some (.int x) :: lv) st h Q ↔ WP d 110 260 (a0 :: a1 :: a2v :: a3 :: some (.int x) :: lv) (.int x :: st) h Q := WP_st rfl
set_option maxRecDepth 20000 in
theorem S110_260 : WP d 110 260 lv (.int x :: st) h Q ↔ WP d 110 261 lv (.long x.toInt64 :: st) h Q := WP_st rfl
set_option maxRecDepth 20000 in
theorem S110_261 : WP d 110 261 lv (.long w :: .long u :: st) h Q ↔ WP d 110 262 lv (.long (u + w) :: st) h Q := WP_st rfl
set_option maxRecDepth 20000 in
theorem S110_262 : WP d 110 262 lv st h Q ↔ WP d 110 265 lv (.long 96 :: st) h Q := WP_st rfl
set_option maxRecDepth 20000 in
theorem S110_265 : WP d 110 265 lv (.long w :: .long u :: st) h Q ↔ WP d 110 266 lv (.long (u - w) :: st) h Q := WP_st rfl
set_option maxRecDepth 20000 in
theorem S110_266 (hs : shp a = some (0, 8)) : WP d 110 266 lv (.long u :: .ref a :: st) h Q ↔ WP d 110 269 lv st (setL h a 12 u) Q := WP_putL (r := 524) rfl hs (by decide)
set_option maxRecDepth 20000 in
theorem S110_269 : WP d 110 269 (some (.ref a) :: lv) st h Q ↔ WP d 110 270 (some (.ref a) :: lv) (.ref a :: st) h Q := WP_st rfl
set_option maxRecDepth 20000 in
theorem S110_270 (hs : shp a = some (0, 8)) : WP d 110 270 lv (.ref a :: st) h Q ↔ WP d 110 273 lv (.int (h.1 a 4) :: st) h Q := WP_getI (r := 516) rfl hs (by decide)
set_option maxRecDepth 20000 in
theorem S110_273 : WP d 110 273 (some (.ref a) :: lv) st h Q ↔ WP d 110 274 (some (.ref a) :: lv) (.ref a :: st) h Q := WP_st rfl
set_option maxRecDepth 20000 in
theorem S110_274 (hs : shp a = some (0, 8)) : WP d 110 274 lv (.ref a :: st) h Q ↔ WP d 110 277 lv (.int (h.1 a 5) :: st) h Q := WP_getI (r := 517) rfl hs (by decide)
set_option maxRecDepth 20000 in
theorem S110_277 : WP d 110 277 lv (.int y :: .int x :: st) h Q ↔ WP d 110 278 lv (.int (x - y) :: st) h Q := WP_st rfl
set_option maxRecDepth 20000 in
theorem S110_278 : WP d 110 278 lv st h Q ↔ WP d 110 279 lv (.int 2 :: st) h Q := WP_st rfl
set_option maxRecDepth 20000 in
theorem S110_279 : WP d 110 279 lv (.int y :: .int x :: st) h Q ↔ if y ≤ x then WP d 110 299 lv st h Q else WP d 110 282 lv st h Q := WP_br rfl
set_option maxRecDepth 20000 in
theorem S110_282 : WP d 110 282 (some (.ref a) :: lv) st h Q ↔ WP d 110 283 (some (.ref a) :: lv) (.ref a :: st) h Q := WP_st rfl
set_option maxRecDepth 20000 in
theorem S110_283 : WP d 110 283 lv st h Q ↔ WP d 110 285 lv (.int 10 :: st) h Q := WP_st rfl
set_option maxRecDepth 20000 in
theorem S110_285 : WP d 110 285 (some (.ref a) :: lv) st h Q ↔ WP d 110 286 (some (.ref a) :: lv) (.ref a :: st) h Q := WP_st rfl
set_option maxRecDepth 20000 in
theorem S110_286 (hs : shp a = some (0, 8)) : WP d 110 286 lv (.ref a :: st) h Q ↔ WP d 110 289 lv (.int (h.1 a 7) :: st) h Q := WP_getI (r := 519) rfl hs (by decide)
set_option maxRecDepth 20000 in
theorem S110_289 : WP d 110 289 lv (.int y :: .int x :: st) h Q ↔ WP d 110 290 lv (.int (x * y) :: st) h Q := WP_st rfl
set_option maxRecDepth 20000 in
theorem S110_290 : WP d 110 290 (a0 :: a1 :: a2v :: a3 :: some (.int x) :: lv) st h Q ↔ WP d 110 292 (a0 :: a1 :: a2v :: a3 :: some (.int x) :: lv) (.int x :: st) h Q := WP_st rfl
set_option maxRecDepth 20000 in
theorem S110_292 : WP d 110 292 lv (.int y :: .int x :: st) h Q ↔ WP d 110 293 lv (.int (x + y) :: st) h Q := WP_st rfl
set_option maxRecDepth 20000 in
theorem S110_293 : WP d 110 293 lv st h Q ↔ WP d 110 295 lv (.int 48 :: st) h Q := WP_st rfl
set_option maxRecDepth 20000 in
theorem S110_295 : WP d 110 295 lv (.int y :: .int x :: st) h Q ↔ WP d 110 296 lv (.int (x - y) :: st) h Q := WP_st rfl
set_option maxRecDepth 20000 in
theorem S110_296 (hs : shp a = some (0, 8)) : WP d 110 296 lv (.int x :: .ref a :: st) h Q ↔ WP d 110 299 lv st (setI h a 7 x) Q := WP_putI (r := 519) rfl hs (by decide)
set_option maxRecDepth 20000 in
theorem S110_299 : WP d 110 299 (some (.ref a) :: lv) st h Q ↔ WP d 110 300 (some (.ref a) :: lv) (.ref a :: st) h Q := WP_st rfl
set_option maxRecDepth 20000 in
theorem S110_300 : WP d 110 300 lv (.ref a :: st) h Q ↔ WP d 110 301 lv (.ref a :: .ref a :: st) h Q := WP_st rfl
set_option maxRecDepth 20000 in
theorem S110_301 (hs : shp a = some (0, 8)) : WP d 110 301 lv (.ref a :: st) h Q ↔ WP d 110 304 lv (.int (h.1 a 4) :: st) h Q := WP_getI (r := 516) rfl hs (by decide)
set_option maxRecDepth 20000 in
theorem S110_304 : WP d 110 304 lv st h Q ↔ WP d 110 305 lv (.int 1 :: st) h Q := WP_st rfl
set_option maxRecDepth 20000 in
theorem S110_305 : WP d 110 305 lv (.int y :: .int x :: st) h Q ↔ WP d 110 306 lv (.int (x + y) :: st) h Q := WP_st rfl
set_option maxRecDepth 20000 in
theorem S110_306 (hs : shp a = some (0, 8)) : WP d 110 306 lv (.int x :: .ref a :: st) h Q ↔ WP d 110 309 lv st (setI h a 4 x) Q := WP_putI (r := 516) rfl hs (by decide)
set_option maxRecDepth 20000 in
theorem S110_309 : WP d 110 309 lv st h Q ↔ WP d 110 177 lv st h Q := WP_st rfl
set_option maxRecDepth 20000 in
theorem S110_312 : WP d 110 312 (some (.ref a) :: lv) st h Q ↔ WP d 110 313 (some (.ref a) :: lv) (.ref a :: st) h Q := WP_st rfl
set_option maxRecDepth 20000 in
theorem S110_313 : WP d 110 313 (a0 :: a1 :: a2v :: some (.int x) :: lv) st h Q ↔ WP d 110 314 (a0 :: a1 :: a2v :: some (.int x) :: lv) (.int x :: st) h Q := WP_st rfl
set_option maxRecDepth 20000 in
theorem S110_314 : WP d 110 314 lv (.int x :: st) h Q ↔ if x = 0 then WP d 110 339 lv st h Q else WP d 110 317 lv st h Q := WP_br rfl
set_option maxRecDepth 20000 in
theorem S110_317 : WP d 110 317 (some (.ref a) :: lv) st h Q ↔ WP d 110 318 (some (.ref a) :: lv) (.ref a :: st) h Q := WP_st rfl
set_option maxRecDepth 20000 in
theorem S110_318 (hs : shp a = some (0, 8)) : WP d 110 318 lv (.ref a :: st) h Q ↔ WP d 110 321 lv (.int (h.1 a 4) :: st) h Q := WP_getI (r := 516) rfl hs (by decide)
set_option maxRecDepth 20000 in
theorem S110_321 : WP d 110 321 (some (.ref a) :: lv) st h Q ↔ WP d 110 322 (some (.ref a) :: lv) (.ref a :: st) h Q := WP_st rfl
set_option maxRecDepth 20000 in
theorem S110_322 (hs : shp a = some (0, 8)) : WP d 110 322 lv (.ref a :: st) h Q ↔ WP d 110 325 lv (.int (h.1 a 5) :: st) h Q := WP_getI (r := 517) rfl hs (by decide)
set_option maxRecDepth 20000 in
theorem S110_325 : WP d 110 325 lv (.int y :: .int x :: st) h Q ↔ WP d 110 326 lv (.int (x - y) :: st) h Q := WP_st rfl
set_option maxRecDepth 20000 in
theorem S110_326 : WP d 110 326 (a0 :: a1 :: some (.int x) :: lv) st h Q ↔ WP d 110 327 (a0 :: a1 :: some (.int x) :: lv) (.int x :: st) h Q := WP_st rfl
set_option maxRecDepth 20000 in
theorem S110_327 : WP d 110 327 lv (.int x :: st) h Q ↔ if x = 0 then WP d 110 335 lv st h Q else WP d 110 330 lv st h Q := WP_br rfl
set_option maxRecDepth 20000 in
theorem S110_330 : WP d 110 330 lv st h Q ↔ WP d 110 332 lv (.int 7 :: st) h Q := WP_st rfl
set_option maxRecDepth 20000 in
theorem S110_332 : WP d 110 332 lv st h Q ↔ WP d 110 336 lv st h Q := WP_st rfl
set_option maxRecDepth 20000 in
theorem S110_335 : WP d 110 335 lv st h Q ↔ WP d 110 336 lv (.int 2 :: st) h Q := WP_st rfl
set_option maxRecDepth 20000 in
theorem S110_336 : WP d 110 336 lv (.int y :: .int x :: st) h Q ↔ if x ≤ y then WP d 110 343 lv st h Q else WP d 110 339 lv st h Q := WP_br rfl
set_option maxRecDepth 20000 in
theorem S110_339 : WP d 110 339 lv st h Q ↔ WP d 110 340 lv (.int 1 :: st) h Q := WP_st rfl
set_option maxRecDepth 20000 in
theorem S110_340 : WP d 110 340 lv st h Q ↔ WP d 110 352 lv st h Q := WP_st rfl
set_option maxRecDepth 20000 in
theorem S110_343 : WP d 110 343 (a0 :: a1 :: some (.int x) :: lv) st h Q ↔ WP d 110 344 (a0 :: a1 :: some (.int x) :: lv) (.int x :: st) h Q := WP_st rfl
set_option maxRecDepth 20000 in
theorem S110_344 : WP d 110 344 lv (.int x :: st) h Q ↔ if x = 0 then WP d 110 351 lv st h Q else WP d 110 347 lv st h Q := WP_br rfl
set_option maxRecDepth 20000 in
theorem S110_347 : WP d 110 347 lv st h Q ↔ WP d 110 348 lv (.int 2 :: st) h Q := WP_st rfl
set_option maxRecDepth 20000 in
theorem S110_348 : WP d 110 348 lv st h Q ↔ WP d 110 352 lv st h Q := WP_st rfl
set_option maxRecDepth 20000 in
theorem S110_351 : WP d 110 351 lv st h Q ↔ WP d 110 352 lv (.int 3 :: st) h Q := WP_st rfl
set_option maxRecDepth 20000 in
theorem S110_352 (hs : shp a = some (0, 8)) : WP d 110 352 lv (.int x :: .ref a :: st) h Q ↔ WP d 110 355 lv st (setI h a 6 x) Q := WP_putI (r := 518) rfl hs (by decide)
set_option maxRecDepth 20000 in
theorem S110_355 : WP d 110 355 lv [] h Q ↔ Q (some none) h := WP_end rfl rfl rfl
theorem S111_0 : WP d 111 0 lv st h Q ↔ WP d 111 3 lv (.long 27 :: st) h Q := WP_st rfl
theorem S111_3 : WP d 111 3 (some (.int x) :: lv) st h Q ↔ WP d 111 4 (some (.int x) :: lv) (.int x :: st) h Q := WP_st rfl
theorem S111_4 : WP d 111 4 lv (.int x :: st) h Q ↔ WP d 111 5 lv (.long x.toInt64 :: st) h Q := WP_st rfl
theorem S111_5 : WP d 111 5 lv st h Q ↔ WP d 111 8 lv (.long 96 :: st) h Q := WP_st rfl
theorem S111_8 : WP d 111 8 lv (.long w :: .long u :: st) h Q ↔ WP d 111 9 lv (.long (u - w) :: st) h Q := WP_st rfl
theorem S111_9 : WP d 111 9 lv (.long w :: .long u :: st) h Q ↔ WP d 111 10 lv (.long (u * w) :: st) h Q := WP_st rfl
theorem S111_10 : WP d 111 10 (a0 :: some (.int x) :: lv) st h Q ↔ WP d 111 11 (a0 :: some (.int x) :: lv) (.int x :: st) h Q := WP_st rfl
theorem S111_11 : WP d 111 11 lv (.int x :: st) h Q ↔ WP d 111 12 lv (.long x.toInt64 :: st) h Q := WP_st rfl
theorem S111_12 : WP d 111 12 lv (.long w :: .long u :: st) h Q ↔ WP d 111 13 lv (.long (u + w) :: st) h Q := WP_st rfl
theorem S111_13 : WP d 111 13 lv st h Q ↔ WP d 111 16 lv (.long 96 :: st) h Q := WP_st rfl
theorem S111_16 : WP d 111 16 lv (.long w :: .long u :: st) h Q ↔ WP d 111 17 lv (.long (u - w) :: st) h Q := WP_st rfl
theorem S111_17 : WP d 111 17 (a0 :: a1 :: a2v :: a3 :: a4 :: a5 :: a6 :: lv) (.long u :: st) h Q ↔ WP d 111 19 (a0 :: a1 :: a2v :: a3 :: kl a4 :: some (.long u) :: none :: lv) st h Q := WP_st (by rfl)
theorem S111_19 : WP d 111 19 (a0 :: a1 :: some (.int x) :: lv) st h Q ↔ WP d 111 20 (a0 :: a1 :: some (.int x) :: lv) (.int x :: st) h Q := WP_st rfl
theorem S111_20 : WP d 111 20 lv (.int x :: st) h Q ↔ if x ≤ 0 then WP d 111 38 lv st h Q else WP d 111 23 lv st h Q := WP_br rfl
theorem S111_23 : WP d 111 23 lv st h Q ↔ WP d 111 26 lv (.long 27 :: st) h Q := WP_st rfl
theorem S111_26 : WP d 111 26 (a0 :: a1 :: a2v :: a3 :: a4 :: some (.long u) :: lv) st h Q ↔ WP d 111 28 (a0 :: a1 :: a2v :: a3 :: a4 :: some (.long u) :: lv) (.long u :: st) h Q := WP_st rfl
theorem S111_28 : WP d 111 28 lv (.long w :: .long u :: st) h Q ↔ WP d 111 29 lv (.long (u * w) :: st) h Q := WP_st rfl
theorem S111_29 : WP d 111 29 (a0 :: a1 :: some (.int x) :: lv) st h Q ↔ WP d 111 30 (a0 :: a1 :: some (.int x) :: lv) (.int x :: st) h Q := WP_st rfl
theorem S111_30 : WP d 111 30 lv (.int x :: st) h Q ↔ WP d 111 31 lv (.long x.toInt64 :: st) h Q := WP_st rfl
theorem S111_31 : WP d 111 31 lv (.long w :: .long u :: st) h Q ↔ WP d 111 32 lv (.long (u + w) :: st) h Q := WP_st rfl
theorem S111_32 : WP d 111 32 lv st h Q ↔ WP d 111 35 lv (.long 96 :: st) h Q := WP_st rfl
theorem S111_35 : WP d 111 35 lv (.long w :: .long u :: st) h Q ↔ WP d 111 36 lv (.long (u - w) :: st) h Q := WP_st rfl
theorem S111_36 : WP d 111 36 (a0 :: a1 :: a2v :: a3 :: a4 :: a5 :: a6 :: lv) (.long u :: st) h Q ↔ WP d 111 38 (a0 :: a1 :: a2v :: a3 :: kl a4 :: some (.long u) :: none :: lv) st h Q := WP_st (by rfl)
theorem S111_38 : WP d 111 38 (a0 :: a1 :: a2v :: some (.int x) :: lv) st h Q ↔ WP d 111 39 (a0 :: a1 :: a2v :: some (.int x) :: lv) (.int x :: st) h Q := WP_st rfl
theorem S111_39 : WP d 111 39 lv (.int x :: st) h Q ↔ if x ≤ 0 then WP d 111 57 lv st h Q else WP d 111 42 lv st h Q := WP_br rfl
theorem S111_42 : WP d 111 42 lv st h Q ↔ WP d 111 45 lv (.long 27 :: st) h Q := WP_st rfl
theorem S111_45 : WP d 111 45 (a0 :: a1 :: a2v :: a3 :: a4 :: some (.long u) :: lv) st h Q ↔ WP d 111 47 (a0 :: a1 :: a2v :: a3 :: a4 :: some (.long u) :: lv) (.long u :: st) h Q := WP_st rfl
theorem S111_47 : WP d 111 47 lv (.long w :: .long u :: st) h Q ↔ WP d 111 48 lv (.long (u * w) :: st) h Q := WP_st rfl
theorem S111_48 : WP d 111 48 (a0 :: a1 :: a2v :: some (.int x) :: lv) st h Q ↔ WP d 111 49 (a0 :: a1 :: a2v :: some (.int x) :: lv) (.int x :: st) h Q := WP_st rfl
theorem S111_49 : WP d 111 49 lv (.int x :: st) h Q ↔ WP d 111 50 lv (.long x.toInt64 :: st) h Q := WP_st rfl
theorem S111_50 : WP d 111 50 lv (.long w :: .long u :: st) h Q ↔ WP d 111 51 lv (.long (u + w) :: st) h Q := WP_st rfl
theorem S111_51 : WP d 111 51 lv st h Q ↔ WP d 111 54 lv (.long 96 :: st) h Q := WP_st rfl
theorem S111_54 : WP d 111 54 lv (.long w :: .long u :: st) h Q ↔ WP d 111 55 lv (.long (u - w) :: st) h Q := WP_st rfl
theorem S111_55 : WP d 111 55 (a0 :: a1 :: a2v :: a3 :: a4 :: a5 :: a6 :: lv) (.long u :: st) h Q ↔ WP d 111 57 (a0 :: a1 :: a2v :: a3 :: kl a4 :: some (.long u) :: none :: lv) st h Q := WP_st (by rfl)
theorem S111_57 : WP d 111 57 (a0 :: a1 :: a2v :: a3 :: some (.int x) :: lv) st h Q ↔ WP d 111 59 (a0 :: a1 :: a2v :: a3 :: some (.int x) :: lv) (.int x :: st) h Q := WP_st rfl
theorem S111_59 : WP d 111 59 lv (.int x :: st) h Q ↔ if x ≤ 0 then WP d 111 79 lv st h Q else WP d 111 62 lv st h Q := WP_br rfl
theorem S111_62 : WP d 111 62 lv st h Q ↔ WP d 111 65 lv (.long 27 :: st) h Q := WP_st rfl
theorem S111_65 : WP d 111 65 (a0 :: a1 :: a2v :: a3 :: a4 :: some (.long u) :: lv) st h Q ↔ WP d 111 67 (a0 :: a1 :: a2v :: a3 :: a4 :: some (.long u) :: lv) (.long u :: st) h Q := WP_st rfl
theorem S111_67 : WP d 111 67 lv (.long w :: .long u :: st) h Q ↔ WP d 111 68 lv (.long (u * w) :: st) h Q := WP_st rfl
theorem S111_68 : WP d 111 68 (a0 :: a1 :: a2v :: a3 :: some (.int x) :: lv) st h Q ↔ WP d 111 70 (a0 :: a1 :: a2v :: a3 :: some (.int x) :: lv) (.int x :: st) h Q := WP_st rfl
theorem S111_70 : WP d 111 70 lv (.int x :: st) h Q ↔ WP d 111 71 lv (.long x.toInt64 :: st) h Q := WP_st rfl
theorem S111_71 : WP d 111 71 lv (.long w :: .long u :: st) h Q ↔ WP d 111 72 lv (.long (u + w) :: st) h Q := WP_st rfl
theorem S111_72 : WP d 111 72 lv st h Q ↔ WP d 111 75 lv (.long 96 :: st) h Q := WP_st rfl
theorem S111_75 : WP d 111 75 lv (.long w :: .long u :: st) h Q ↔ WP d 111 76 lv (.long (u - w) :: st) h Q := WP_st rfl
theorem S111_76 : WP d 111 76 lv st h Q ↔ WP d 111 81 lv st h Q := WP_st rfl
theorem S111_79 : WP d 111 79 (a0 :: a1 :: a2v :: a3 :: a4 :: some (.long u) :: lv) st h Q ↔ WP d 111 81 (a0 :: a1 :: a2v :: a3 :: a4 :: some (.long u) :: lv) (.long u :: st) h Q := WP_st rfl
theorem S111_81 : WP d 111 81 lv [.long u] h Q ↔ Q (some (some (.long u))) h := WP_end rfl rfl rfl
theorem S112_0 : WP d 112 0 (some (.ref a) :: lv) st h Q ↔ WP d 112 1 (some (.ref a) :: lv) (.ref a :: st) h Q := WP_st rfl
theorem S112_1 (hs : shp a = some (0, 8)) : WP d 112 1 lv (.ref a :: st) h Q ↔ WP d 112 4 lv (.int (h.1 a 6) :: st) h Q := WP_getI (r := 518) rfl hs (by decide)
theorem S112_4 : WP d 112 4 lv st h Q ↔ WP d 112 5 lv (.int 2 :: st) h Q := WP_st rfl
theorem S112_5 : WP d 112 5 lv (.int y :: .int x :: st) h Q ↔ if x = y then WP d 112 8 lv st h Q else WP d 112 21 lv st h Q := WP_br rfl
theorem S112_8 : WP d 112 8 (some (.ref a) :: lv) st h Q ↔ WP d 112 9 (some (.ref a) :: lv) (.ref a :: st) h Q := WP_st rfl
theorem S112_9 (hs : shp a = some (0, 8)) : WP d 112 9 lv (.ref a :: st) h Q ↔ WP d 112 12 lv (.long (h.2.1 a 12) :: st) h Q := WP_getL (r := 524) rfl hs (by decide)
theorem S112_12 : WP d 112 12 (a0 :: some (.long u) :: lv) st h Q ↔ WP d 112 13 (a0 :: some (.long u) :: lv) (.long u :: st) h Q := WP_st rfl
theorem S112_13 : WP d 112 13 lv (.long w :: .long u :: st) h Q ↔ WP d 112 14 lv (.int (lg_cmp u w) :: st) h Q := WP_st rfl
theorem S112_14 : WP d 112 14 lv (.int x :: st) h Q ↔ if x = 0 then WP d 112 17 lv st h Q else WP d 112 21 lv st h Q := WP_br rfl
theorem S112_17 : WP d 112 17 lv st h Q ↔ WP d 112 18 lv (.int 1 :: st) h Q := WP_st rfl
theorem S112_18 : WP d 112 18 lv st h Q ↔ WP d 112 22 lv st h Q := WP_st rfl
theorem S112_21 : WP d 112 21 lv st h Q ↔ WP d 112 22 lv (.int 0 :: st) h Q := WP_st rfl
theorem S112_22 (hx : isB x) : WP d 112 22 lv [.int x] h Q ↔ Q (some (some (.int x))) h := WP_endZ rfl rfl hx
theorem S113_0 : WP d 113 0 (some (.ref a) :: lv) st h Q ↔ WP d 113 1 (some (.ref a) :: lv) (.ref a :: st) h Q := WP_st rfl
theorem S113_1 : WP d 113 1 lv st h Q ↔ WP d 113 3 lv (.int 112 :: st) h Q := WP_st rfl
theorem S113_3 : WP d 113 3 lv st h Q ↔ WP d 113 5 lv (.int 111 :: st) h Q := WP_st rfl
theorem S113_5 : WP d 113 5 lv st h Q ↔ WP d 113 7 lv (.int 105 :: st) h Q := WP_st rfl
theorem S113_7 : WP d 113 7 lv st h Q ↔ WP d 113 9 lv (.int 110 :: st) h Q := WP_st rfl
theorem S113_9 : WP d 113 9 lv st h Q ↔ WP d 113 11 lv (.int 116 :: st) h Q := WP_st rfl
theorem S113_11 {pi0 : Int32} {pi1 : Int32} {pi2 : Int32} {pi3 : Int32} {pi4 : Int32} {qr0 : Nat} : WP (d + 1) 113 11 lv [.int pi4, .int pi3, .int pi2, .int pi1, .int pi0, .ref qr0] h Q ↔ WP d 111 0 [some (.int pi0), some (.int pi1), some (.int pi2), some (.int pi3), some (.int pi4), none, none] [] h (kR (d + 1) 113 14 lv [.ref qr0] Q) := WP_callSR rfl rfl rfl rfl rfl
theorem S113_14 {pr0 : Nat} {pj0 : Int64} (hs : shp pr0 = some (0, 8)) : WP (d + 1) 113 14 lv [.long pj0, .ref pr0] h Q ↔ WP d 112 0 [some (.ref pr0), some (.long pj0), none] [] h (kR (d + 1) 113 17 lv [] Q) := WP_callVR rfl rfl rfl rfl rfl hs
theorem S113_17 (hx : isB x) : WP d 113 17 lv [.int x] h Q ↔ Q (some (some (.int x))) h := WP_endZ rfl rfl hx
theorem S114_0 : WP d 114 0 (some (.ref a) :: lv) st h Q ↔ WP d 114 1 (some (.ref a) :: lv) (.ref a :: st) h Q := WP_st rfl
theorem S114_1 : WP d 114 1 lv st h Q ↔ WP d 114 3 lv (.int 108 :: st) h Q := WP_st rfl
theorem S114_3 : WP d 114 3 lv st h Q ↔ WP d 114 5 lv (.int 105 :: st) h Q := WP_st rfl
theorem S114_5 : WP d 114 5 lv st h Q ↔ WP d 114 7 lv (.int 110 :: st) h Q := WP_st rfl
theorem S114_7 : WP d 114 7 lv st h Q ↔ WP d 114 9 lv (.int 101 :: st) h Q := WP_st rfl
theorem S114_9 : WP d 114 9 lv st h Q ↔ WP d 114 10 lv (.int 0 :: st) h Q := WP_st rfl
theorem S114_10 {pi0 : Int32} {pi1 : Int32} {pi2 : Int32} {pi3 : Int32} {pi4 : Int32} {qr0 : Nat} : WP (d + 1) 114 10 lv [.int pi4, .int pi3, .int pi2, .int pi1, .int pi0, .ref qr0] h Q ↔ WP d 111 0 [some (.int pi0), some (.int pi1), some (.int pi2), some (.int pi3), some (.int pi4), none, none] [] h (kR (d + 1) 114 13 lv [.ref qr0] Q) := WP_callSR rfl rfl rfl rfl rfl
theorem S114_13 {pr0 : Nat} {pj0 : Int64} (hs : shp pr0 = some (0, 8)) : WP (d + 1) 114 13 lv [.long pj0, .ref pr0] h Q ↔ WP d 112 0 [some (.ref pr0), some (.long pj0), none] [] h (kR (d + 1) 114 16 lv [] Q) := WP_callVR rfl rfl rfl rfl rfl hs
theorem S114_16 (hx : isB x) : WP d 114 16 lv [.int x] h Q ↔ Q (some (some (.int x))) h := WP_endZ rfl rfl hx
theorem S115_0 : WP d 115 0 (some (.ref a) :: lv) st h Q ↔ WP d 115 1 (some (.ref a) :: lv) (.ref a :: st) h Q := WP_st rfl
theorem S115_1 : WP d 115 1 lv st h Q ↔ WP d 115 3 lv (.int 117 :: st) h Q := WP_st rfl
theorem S115_3 : WP d 115 3 lv st h Q ↔ WP d 115 5 lv (.int 112 :: st) h Q := WP_st rfl
theorem S115_5 : WP d 115 5 lv st h Q ↔ WP d 115 6 lv (.int 0 :: st) h Q := WP_st rfl
theorem S115_6 : WP d 115 6 lv st h Q ↔ WP d 115 7 lv (.int 0 :: st) h Q := WP_st rfl
theorem S115_7 : WP d 115 7 lv st h Q ↔ WP d 115 8 lv (.int 0 :: st) h Q := WP_st rfl
theorem S115_8 {pi0 : Int32} {pi1 : Int32} {pi2 : Int32} {pi3 : Int32} {pi4 : Int32} {qr0 : Nat} : WP (d + 1) 115 8 lv [.int pi4, .int pi3, .int pi2, .int pi1, .int pi0, .ref qr0] h Q ↔ WP d 111 0 [some (.int pi0), some (.int pi1), some (.int pi2), some (.int pi3), some (.int pi4), none, none] [] h (kR (d + 1) 115 11 lv [.ref qr0] Q) := WP_callSR rfl rfl rfl rfl rfl
theorem S115_11 {pr0 : Nat} {pj0 : Int64} (hs : shp pr0 = some (0, 8)) : WP (d + 1) 115 11 lv [.long pj0, .ref pr0] h Q ↔ WP d 112 0 [some (.ref pr0), some (.long pj0), none] [] h (kR (d + 1) 115 14 lv [] Q) := WP_callVR rfl rfl rfl rfl rfl hs
theorem S115_14 (hx : isB x) : WP d 115 14 lv [.int x] h Q ↔ Q (some (some (.int x))) h := WP_endZ rfl rfl hx
theorem S116_0 : WP d 116 0 (some (.ref a) :: lv) st h Q ↔ WP d 116 1 (some (.ref a) :: lv) (.ref a :: st) h Q := WP_st rfl
theorem S116_1 : WP d 116 1 lv st h Q ↔ WP d 116 3 lv (.int 100 :: st) h Q := WP_st rfl
theorem S116_3 : WP d 116 3 lv st h Q ↔ WP d 116 5 lv (.int 111 :: st) h Q := WP_st rfl
theorem S116_5 : WP d 116 5 lv st h Q ↔ WP d 116 7 lv (.int 119 :: st) h Q := WP_st rfl
theorem S116_7 : WP d 116 7 lv st h Q ↔ WP d 116 9 lv (.int 110 :: st) h Q := WP_st rfl
theorem S116_9 : WP d 116 9 lv st h Q ↔ WP d 116 10 lv (.int 0 :: st) h Q := WP_st rfl
theorem S116_10 {pi0 : Int32} {pi1 : Int32} {pi2 : Int32} {pi3 : Int32} {pi4 : Int32} {qr0 : Nat} : WP (d + 1) 116 10 lv [.int pi4, .int pi3, .int pi2, .int pi1, .int pi0, .ref qr0] h Q ↔ WP d 111 0 [some (.int pi0), some (.int pi1), some (.int pi2), some (.int pi3), some (.int pi4), none, none] [] h (kR (d + 1) 116 13 lv [.ref qr0] Q) := WP_callSR rfl rfl rfl rfl rfl
theorem S116_13 {pr0 : Nat} {pj0 : Int64} (hs : shp pr0 = some (0, 8)) : WP (d + 1) 116 13 lv [.long pj0, .ref pr0] h Q ↔ WP d 112 0 [some (.ref pr0), some (.long pj0), none] [] h (kR (d + 1) 116 16 lv [] Q) := WP_callVR rfl rfl rfl rfl rfl hs
theorem S116_16 (hx : isB x) : WP d 116 16 lv [.int x] h Q ↔ Q (some (some (.int x))) h := WP_endZ rfl rfl hx
theorem S117_0 : WP d 117 0 (some (.ref a) :: lv) st h Q ↔ WP d 117 1 (some (.ref a) :: lv) (.ref a :: st) h Q := WP_st rfl
theorem S117_1 (hs : shp a = some (0, 8)) : WP d 117 1 lv (.ref a :: st) h Q ↔ WP d 117 4 lv (.int (h.1 a 6) :: st) h Q := WP_getI (r := 518) rfl hs (by decide)
theorem S117_4 : WP d 117 4 lv st h Q ↔ WP d 117 5 lv (.int 2 :: st) h Q := WP_st rfl
theorem S117_5 : WP d 117 5 lv (.int y :: .int x :: st) h Q ↔ if x = y then WP d 117 8 lv st h Q else WP d 117 40 lv st h Q := WP_br rfl
theorem S117_8 : WP d 117 8 (some (.ref a) :: lv) st h Q ↔ WP d 117 9 (some (.ref a) :: lv) (.ref a :: st) h Q := WP_st rfl
theorem S117_9 {pr0 : Nat} (hs : shp pr0 = some (0, 8)) : WP (d + 1) 117 9 lv [.ref pr0] h Q ↔ WP d 113 0 [some (.ref pr0)] [] h (kR (d + 1) 117 12 lv [] Q) := WP_callVR rfl rfl rfl rfl rfl hs
theorem S117_12 : WP d 117 12 lv (.int x :: st) h Q ↔ if x = 0 then WP d 117 15 lv st h Q else WP d 117 40 lv st h Q := WP_br rfl
theorem S117_15 : WP d 117 15 (some (.ref a) :: lv) st h Q ↔ WP d 117 16 (some (.ref a) :: lv) (.ref a :: st) h Q := WP_st rfl
theorem S117_16 {pr0 : Nat} (hs : shp pr0 = some (0, 8)) : WP (d + 1) 117 16 lv [.ref pr0] h Q ↔ WP d 114 0 [some (.ref pr0)] [] h (kR (d + 1) 117 19 lv [] Q) := WP_callVR rfl rfl rfl rfl rfl hs
theorem S117_19 : WP d 117 19 lv (.int x :: st) h Q ↔ if x = 0 then WP d 117 22 lv st h Q else WP d 117 40 lv st h Q := WP_br rfl
theorem S117_22 : WP d 117 22 (some (.ref a) :: lv) st h Q ↔ WP d 117 23 (some (.ref a) :: lv) (.ref a :: st) h Q := WP_st rfl
theorem S117_23 {pr0 : Nat} (hs : shp pr0 = some (0, 8)) : WP (d + 1) 117 23 lv [.ref pr0] h Q ↔ WP d 115 0 [some (.ref pr0)] [] h (kR (d + 1) 117 26 lv [] Q) := WP_callVR rfl rfl rfl rfl rfl hs
theorem S117_26 : WP d 117 26 lv (.int x :: st) h Q ↔ if x = 0 then WP d 117 29 lv st h Q else WP d 117 40 lv st h Q := WP_br rfl
theorem S117_29 : WP d 117 29 (some (.ref a) :: lv) st h Q ↔ WP d 117 30 (some (.ref a) :: lv) (.ref a :: st) h Q := WP_st rfl
theorem S117_30 {pr0 : Nat} (hs : shp pr0 = some (0, 8)) : WP (d + 1) 117 30 lv [.ref pr0] h Q ↔ WP d 116 0 [some (.ref pr0)] [] h (kR (d + 1) 117 33 lv [] Q) := WP_callVR rfl rfl rfl rfl rfl hs
theorem S117_33 : WP d 117 33 lv (.int x :: st) h Q ↔ if x = 0 then WP d 117 36 lv st h Q else WP d 117 40 lv st h Q := WP_br rfl
theorem S117_36 : WP d 117 36 lv st h Q ↔ WP d 117 37 lv (.int 1 :: st) h Q := WP_st rfl
theorem S117_37 : WP d 117 37 lv st h Q ↔ WP d 117 41 lv st h Q := WP_st rfl
theorem S117_40 : WP d 117 40 lv st h Q ↔ WP d 117 41 lv (.int 0 :: st) h Q := WP_st rfl
theorem S117_41 (hx : isB x) : WP d 117 41 lv [.int x] h Q ↔ Q (some (some (.int x))) h := WP_endZ rfl rfl hx
theorem S118_0 : WP d 118 0 (some (.ref a) :: lv) st h Q ↔ WP d 118 1 (some (.ref a) :: lv) (.ref a :: st) h Q := WP_st rfl
theorem S118_1 : WP d 118 1 (some (.ref a) :: lv) st h Q ↔ WP d 118 2 (some (.ref a) :: lv) (.ref a :: st) h Q := WP_st rfl
theorem S118_2 (hs : shp a = some (0, 8)) : WP d 118 2 lv (.ref a :: st) h Q ↔ WP d 118 5 lv (.int (h.1 a 6) :: st) h Q := WP_getI (r := 518) rfl hs (by decide)
theorem S118_5 : WP d 118 5 lv st h Q ↔ WP d 118 6 lv (.int 1 :: st) h Q := WP_st rfl
theorem S118_6 : WP d 118 6 lv (.int y :: .int x :: st) h Q ↔ if x = y then WP d 118 9 lv st h Q else WP d 118 13 lv st h Q := WP_br rfl
theorem S118_9 : WP d 118 9 lv st h Q ↔ WP d 118 10 lv (.int 1 :: st) h Q := WP_st rfl
theorem S118_10 : WP d 118 10 lv st h Q ↔ WP d 118 14 lv st h Q := WP_st rfl
theorem S118_13 : WP d 118 13 (a0 :: some (.int x) :: lv) st h Q ↔ WP d 118 14 (a0 :: some (.int x) :: lv) (.int x :: st) h Q := WP_st rfl
theorem S118_14 (hs : shp a = some (0, 8)) : WP d 118 14 lv (.int x :: .ref a :: st) h Q ↔ WP d 118 17 lv st (setI h a 8 x) Q := WP_putI (r := 520) rfl hs (by decide)
theorem S118_17 : WP d 118 17 (some (.ref a) :: lv) st h Q ↔ WP d 118 18 (some (.ref a) :: lv) (.ref a :: st) h Q := WP_st rfl
theorem S118_18 : WP d 118 18 (some (.ref a) :: lv) st h Q ↔ WP d 118 19 (some (.ref a) :: lv) (.ref a :: st) h Q := WP_st rfl
theorem S118_19 (hs : shp a = some (0, 8)) : WP d 118 19 lv (.ref a :: st) h Q ↔ WP d 118 22 lv (.int (h.1 a 5) :: st) h Q := WP_getI (r := 517) rfl hs (by decide)
theorem S118_22 (hs : shp a = some (0, 8)) : WP d 118 22 lv (.int x :: .ref a :: st) h Q ↔ WP d 118 25 lv st (setI h a 10 x) Q := WP_putI (r := 522) rfl hs (by decide)
theorem S118_25 : WP d 118 25 (some (.ref a) :: lv) st h Q ↔ WP d 118 26 (some (.ref a) :: lv) (.ref a :: st) h Q := WP_st rfl
theorem S118_26 : WP d 118 26 (some (.ref a) :: lv) st h Q ↔ WP d 118 27 (some (.ref a) :: lv) (.ref a :: st) h Q := WP_st rfl
theorem S118_27 (hs : shp a = some (0, 8)) : WP d 118 27 lv (.ref a :: st) h Q ↔ WP d 118 30 lv (.int (h.1 a 11) :: st) h Q := WP_getI (r := 523) rfl hs (by decide)
theorem S118_30 (hs : shp a = some (0, 8)) : WP d 118 30 lv (.int x :: .ref a :: st) h Q ↔ WP d 118 33 lv st (setI h a 9 x) Q := WP_putI (r := 521) rfl hs (by decide)
theorem S118_33 : WP d 118 33 lv st h Q ↔ WP d 118 34 lv (.int 0 :: st) h Q := WP_st rfl
theorem S118_34 (hx : isB x) : WP d 118 34 lv [.int x] h Q ↔ Q (some (some (.int x))) h := WP_endZ rfl rfl hx
theorem S119_0 : WP d 119 0 lv st h Q ↔ WP d 119 1 lv (.int 0 :: st) h Q := WP_st rfl
theorem S119_1 : WP d 119 1 (a0 :: a1 :: a2v :: a3 :: a4 :: lv) (.int x :: st) h Q ↔ WP d 119 3 (a0 :: a1 :: a2v :: kl a3 :: some (.int x) :: lv) st h Q := WP_st (by rfl)
theorem S119_3 : WP d 119 3 (a0 :: a1 :: a2v :: a3 :: some (.int x) :: lv) st h Q ↔ WP d 119 5 (a0 :: a1 :: a2v :: a3 :: some (.int x) :: lv) (.int x :: st) h Q := WP_st rfl
theorem S119_5 : WP d 119 5 lv st h Q ↔ WP d 119 7 lv (.int 69 :: st) h Q := WP_st rfl
theorem S119_7 : WP d 119 7 lv (.int y :: .int x :: st) h Q ↔ if y ≤ x then WP d 119 28 lv st h Q else WP d 119 10 lv st h Q := WP_br rfl
theorem S119_10 : WP d 119 10 (a0 :: a1 :: some (.ref a) :: lv) st h Q ↔ WP d 119 11 (a0 :: a1 :: some (.ref a) :: lv) (.ref a :: st) h Q := WP_st rfl
theorem S119_11 : WP d 119 11 (a0 :: a1 :: a2v :: some (.int x) :: lv) st h Q ↔ WP d 119 12 (a0 :: a1 :: a2v :: some (.int x) :: lv) (.int x :: st) h Q := WP_st rfl
theorem S119_12 : WP d 119 12 (a0 :: a1 :: a2v :: a3 :: some (.int x) :: lv) st h Q ↔ WP d 119 14 (a0 :: a1 :: a2v :: a3 :: some (.int x) :: lv) (.int x :: st) h Q := WP_st rfl
theorem S119_14 : WP d 119 14 lv (.int y :: .int x :: st) h Q ↔ WP d 119 15 lv (.int (x + y) :: st) h Q := WP_st rfl
theorem S119_15 : WP d 119 15 (some (.ref a) :: lv) st h Q ↔ WP d 119 16 (some (.ref a) :: lv) (.ref a :: st) h Q := WP_st rfl
theorem S119_16 : WP d 119 16 (a0 :: some (.int x) :: lv) st h Q ↔ WP d 119 17 (a0 :: some (.int x) :: lv) (.int x :: st) h Q := WP_st rfl
theorem S119_17 : WP d 119 17 (a0 :: a1 :: a2v :: a3 :: some (.int x) :: lv) st h Q ↔ WP d 119 19 (a0 :: a1 :: a2v :: a3 :: some (.int x) :: lv) (.int x :: st) h Q := WP_st rfl
theorem S119_19 : WP d 119 19 lv (.int y :: .int x :: st) h Q ↔ WP d 119 20 lv (.int (x + y) :: st) h Q := WP_st rfl
theorem S119_20 (hi : okA 1 a i) : WP d 119 20 lv (.int i :: .ref a :: st) h Q ↔ WP d 119 21 lv (.int (h.1 a i.toNatClampNeg) :: st) h Q := WP_iald rfl hi
theorem S119_21 (hi : okA 1 a i) : WP d 119 21 lv (.int x :: .int i :: .ref a :: st) h Q ↔ WP d 119 22 lv st (setI h a i.toNatClampNeg x) Q := WP_iast rfl hi
theorem S119_22 : WP d 119 22 (a0 :: a1 :: a2v :: a3 :: some (.int x) :: lv) st h Q ↔ WP d 119 25 (a0 :: a1 :: a2v :: kl a3 :: some (.int (x + 1)) :: lv) st h Q := WP_st (by rfl)
theorem S119_25 : WP d 119 25 lv st h Q ↔ WP d 119 3 lv st h Q := WP_st rfl
theorem S119_28 : WP d 119 28 lv [] h Q ↔ Q (some none) h := WP_end rfl rfl rfl
theorem S120_0 : WP d 120 0 lv st h Q ↔ WP d 120 1 lv (.int 0 :: st) h Q := WP_st rfl
theorem S120_1 : WP d 120 1 (a0 :: a1 :: lv) (.int x :: st) h Q ↔ WP d 120 2 (kl a0 :: some (.int x) :: lv) st h Q := WP_st (by rfl)
theorem S120_2 : WP d 120 2 (a0 :: some (.int x) :: lv) st h Q ↔ WP d 120 3 (a0 :: some (.int x) :: lv) (.int x :: st) h Q := WP_st rfl
theorem S120_3 : WP d 120 3 (some (.ref a) :: lv) st h Q ↔ WP d 120 4 (some (.ref a) :: lv) (.ref a :: st) h Q := WP_st rfl
theorem S120_4 (hs : shp a = some (0, 8)) : WP d 120 4 lv (.ref a :: st) h Q ↔ WP d 120 7 lv (.ref (RV a 14) :: st) h Q := WP_getR (r := 526) rfl hs (by decide)
theorem S120_7 : WP d 120 7 lv st h Q ↔ WP d 120 8 lv (.int 0 :: st) h Q := WP_st rfl
theorem S120_8 (hi : okA 1 a i) : WP d 120 8 lv (.int i :: .ref a :: st) h Q ↔ WP d 120 9 lv (.int (h.1 a i.toNatClampNeg) :: st) h Q := WP_iald rfl hi
theorem S120_9 : WP d 120 9 lv (.int y :: .int x :: st) h Q ↔ if y ≤ x then WP d 120 34 lv st h Q else WP d 120 12 lv st h Q := WP_br rfl
theorem S120_12 : WP d 120 12 (some (.ref a) :: lv) st h Q ↔ WP d 120 13 (some (.ref a) :: lv) (.ref a :: st) h Q := WP_st rfl
theorem S120_13 (hs : shp a = some (0, 8)) : WP d 120 13 lv (.ref a :: st) h Q ↔ WP d 120 16 lv (.ref (RV a 19) :: st) h Q := WP_getR (r := 531) rfl hs (by decide)
theorem S120_16 : WP d 120 16 (a0 :: some (.int x) :: lv) st h Q ↔ WP d 120 17 (a0 :: some (.int x) :: lv) (.int x :: st) h Q := WP_st rfl
theorem S120_17 (hi : okA 4 a i) : WP d 120 17 lv (.int i :: .ref a :: st) h Q ↔ WP d 120 18 lv (.long (h.2.1 a i.toNatClampNeg) :: st) h Q := WP_lald rfl hi
theorem S120_18 : WP d 120 18 (some (.ref a) :: lv) st h Q ↔ WP d 120 19 (some (.ref a) :: lv) (.ref a :: st) h Q := WP_st rfl
theorem S120_19 (hs : shp a = some (0, 8)) : WP d 120 19 lv (.ref a :: st) h Q ↔ WP d 120 22 lv (.long (h.2.1 a 12) :: st) h Q := WP_getL (r := 524) rfl hs (by decide)
theorem S120_22 : WP d 120 22 lv (.long w :: .long u :: st) h Q ↔ WP d 120 23 lv (.int (lg_cmp u w) :: st) h Q := WP_st rfl
theorem S120_23 : WP d 120 23 lv (.int x :: st) h Q ↔ if x = 0 then WP d 120 26 lv st h Q else WP d 120 28 lv st h Q := WP_br rfl
theorem S120_26 : WP d 120 26 (a0 :: some (.int x) :: lv) st h Q ↔ WP d 120 27 (a0 :: some (.int x) :: lv) (.int x :: st) h Q := WP_st rfl
theorem S120_27 : WP d 120 27 lv [.int x] h Q ↔ Q (some (some (.int x))) h := WP_end rfl rfl rfl
theorem S120_28 : WP d 120 28 (a0 :: some (.int x) :: lv) st h Q ↔ WP d 120 31 (kl a0 :: some (.int (x + 1)) :: lv) st h Q := WP_st (by rfl)
theorem S120_31 : WP d 120 31 lv st h Q ↔ WP d 120 2 lv st h Q := WP_st rfl
theorem S120_34 : WP d 120 34 lv st h Q ↔ WP d 120 35 lv (.int (-1) :: st) h Q := WP_st rfl
theorem S120_35 : WP d 120 35 lv [.int x] h Q ↔ Q (some (some (.int x))) h := WP_end rfl rfl rfl
theorem S121_0 : WP d 121 0 (some (.ref a) :: lv) st h Q ↔ WP d 121 1 (some (.ref a) :: lv) (.ref a :: st) h Q := WP_st rfl
theorem S121_1 {pr0 : Nat} (hs : shp pr0 = some (0, 8)) : WP (d + 1) 121 1 lv [.ref pr0] h Q ↔ WP d 116 0 [some (.ref pr0)] [] h (kR (d + 1) 121 4 lv [] Q) := WP_callVR rfl rfl rfl rfl rfl hs
theorem S121_4 : WP d 121 4 (a0 :: a1 :: lv) (.int x :: st) h Q ↔ WP d 121 5 (kl a0 :: some (.int x) :: lv) st h Q := WP_st (by rfl)
theorem S121_5 : WP d 121 5 (a0 :: some (.int x) :: lv) st h Q ↔ WP d 121 6 (a0 :: some (.int x) :: lv) (.int x :: st) h Q := WP_st rfl
theorem S121_6 : WP d 121 6 lv (.int x :: st) h Q ↔ if x = 0 then WP d 121 9 lv st h Q else WP d 121 22 lv st h Q := WP_br rfl
theorem S121_9 : WP d 121 9 (some (.ref a) :: lv) st h Q ↔ WP d 121 10 (some (.ref a) :: lv) (.ref a :: st) h Q := WP_st rfl
theorem S121_10 {pr0 : Nat} (hs : shp pr0 = some (0, 8)) : WP (d + 1) 121 10 lv [.ref pr0] h Q ↔ WP d 115 0 [some (.ref pr0)] [] h (kR (d + 1) 121 13 lv [] Q) := WP_callVR rfl rfl rfl rfl rfl hs
theorem S121_13 : WP d 121 13 lv (.int x :: st) h Q ↔ if x = 0 then WP d 121 16 lv st h Q else WP d 121 22 lv st h Q := WP_br rfl
theorem S121_16 : WP d 121 16 (some (.ref a) :: lv) st h Q ↔ WP d 121 17 (some (.ref a) :: lv) (.ref a :: st) h Q := WP_st rfl
theorem S121_17 : WP d 121 17 lv st h Q ↔ WP d 121 18 lv (.int 1 :: st) h Q := WP_st rfl
theorem S121_18 {pr0 : Nat} {pi0 : Int32} (hs : shp pr0 = some (0, 8)) : WP (d + 1) 121 18 lv [.int pi0, .ref pr0] h Q ↔ WP d 118 0 [some (.ref pr0), some (.int pi0)] [] h (kR (d + 1) 121 21 lv [] Q) := WP_callVR rfl rfl rfl rfl rfl hs
theorem S121_21 (hx : isB x) : WP d 121 21 lv [.int x] h Q ↔ Q (some (some (.int x))) h := WP_endZ rfl rfl hx
theorem S121_22 : WP d 121 22 (some (.ref a) :: lv) st h Q ↔ WP d 121 23 (some (.ref a) :: lv) (.ref a :: st) h Q := WP_st rfl
theorem S121_23 {pr0 : Nat} (hs : shp pr0 = some (0, 8)) : WP (d + 1) 121 23 lv [.ref pr0] h Q ↔ WP d 110 0 [some (.ref pr0), none, none, none, none] [] h (kV (d + 1) 121 26 lv [] Q) := WP_callVV rfl rfl rfl rfl rfl hs
theorem S121_26 : WP d 121 26 (some (.ref a) :: lv) st h Q ↔ WP d 121 27 (some (.ref a) :: lv) (.ref a :: st) h Q := WP_st rfl
theorem S121_27 (hs : shp a = some (0, 8)) : WP d 121 27 lv (.ref a :: st) h Q ↔ WP d 121 30 lv (.int (h.1 a 6) :: st) h Q := WP_getI (r := 518) rfl hs (by decide)
theorem S121_30 : WP d 121 30 lv st h Q ↔ WP d 121 31 lv (.int 3 :: st) h Q := WP_st rfl
theorem S121_31 : WP d 121 31 lv (.int y :: .int x :: st) h Q ↔ if x = y then WP d 121 40 lv st h Q else WP d 121 34 lv st h Q := WP_br rfl
theorem S121_34 : WP d 121 34 (some (.ref a) :: lv) st h Q ↔ WP d 121 35 (some (.ref a) :: lv) (.ref a :: st) h Q := WP_st rfl
theorem S121_35 : WP d 121 35 lv st h Q ↔ WP d 121 36 lv (.int 1 :: st) h Q := WP_st rfl
theorem S121_36 {pr0 : Nat} {pi0 : Int32} (hs : shp pr0 = some (0, 8)) : WP (d + 1) 121 36 lv [.int pi0, .ref pr0] h Q ↔ WP d 118 0 [some (.ref pr0), some (.int pi0)] [] h (kR (d + 1) 121 39 lv [] Q) := WP_callVR rfl rfl rfl rfl rfl hs
theorem S121_39 (hx : isB x) : WP d 121 39 lv [.int x] h Q ↔ Q (some (some (.int x))) h := WP_endZ rfl rfl hx
theorem S121_40 : WP d 121 40 (some (.ref a) :: lv) st h Q ↔ WP d 121 41 (some (.ref a) :: lv) (.ref a :: st) h Q := WP_st rfl
theorem S121_41 : WP d 121 41 (a0 :: some (.int x) :: lv) st h Q ↔ WP d 121 42 (a0 :: some (.int x) :: lv) (.int x :: st) h Q := WP_st rfl
theorem S121_42 : WP d 121 42 lv (.int x :: st) h Q ↔ if x = 0 then WP d 121 53 lv st h Q else WP d 121 45 lv st h Q := WP_br rfl
theorem S121_45 : WP d 121 45 (some (.ref a) :: lv) st h Q ↔ WP d 121 46 (some (.ref a) :: lv) (.ref a :: st) h Q := WP_st rfl
theorem S121_46 (hs : shp a = some (0, 8)) : WP d 121 46 lv (.ref a :: st) h Q ↔ WP d 121 49 lv (.int (h.1 a 7) :: st) h Q := WP_getI (r := 519) rfl hs (by decide)
theorem S121_49 : WP d 121 49 lv (.int x :: st) h Q ↔ WP d 121 50 lv (.int (-x) :: st) h Q := WP_st rfl
theorem S121_50 : WP d 121 50 lv st h Q ↔ WP d 121 57 lv st h Q := WP_st rfl
theorem S121_53 : WP d 121 53 (some (.ref a) :: lv) st h Q ↔ WP d 121 54 (some (.ref a) :: lv) (.ref a :: st) h Q := WP_st rfl
theorem S121_54 (hs : shp a = some (0, 8)) : WP d 121 54 lv (.ref a :: st) h Q ↔ WP d 121 57 lv (.int (h.1 a 7) :: st) h Q := WP_getI (r := 519) rfl hs (by decide)
theorem S121_57 (hs : shp a = some (0, 8)) : WP d 121 57 lv (.int x :: .ref a :: st) h Q ↔ WP d 121 60 lv st (setI h a 22 x) Q := WP_putI (r := 534) rfl hs (by decide)
theorem S121_60 : WP d 121 60 (some (.ref a) :: lv) st h Q ↔ WP d 121 61 (some (.ref a) :: lv) (.ref a :: st) h Q := WP_st rfl
theorem S121_61 {pr0 : Nat} (hs : shp pr0 = some (0, 8)) : WP (d + 1) 121 61 lv [.ref pr0] h Q ↔ WP d 110 0 [some (.ref pr0), none, none, none, none] [] h (kV (d + 1) 121 64 lv [] Q) := WP_callVV rfl rfl rfl rfl rfl hs
theorem S121_64 : WP d 121 64 lv st h Q ↔ WP d 121 65 lv (.int 1 :: st) h Q := WP_st rfl
theorem S121_65 (hx : isB x) : WP d 121 65 lv [.int x] h Q ↔ Q (some (some (.int x))) h := WP_endZ rfl rfl hx
theorem S122_0 : WP d 122 0 (some (.ref a) :: lv) st h Q ↔ WP d 122 1 (some (.ref a) :: lv) (.ref a :: st) h Q := WP_st rfl
theorem S122_1 (hs : shp a = some (0, 8)) : WP d 122 1 lv (.ref a :: st) h Q ↔ WP d 122 4 lv (.ref (RV a 14) :: st) h Q := WP_getR (r := 526) rfl hs (by decide)
theorem S122_4 : WP d 122 4 lv st h Q ↔ WP d 122 5 lv (.int 0 :: st) h Q := WP_st rfl
theorem S122_5 (hi : okA 1 a i) : WP d 122 5 lv (.int i :: .ref a :: st) h Q ↔ WP d 122 6 lv (.int (h.1 a i.toNatClampNeg) :: st) h Q := WP_iald rfl hi
theorem S122_6 : WP d 122 6 (a0 :: a1 :: lv) (.int x :: st) h Q ↔ WP d 122 7 (kl a0 :: some (.int x) :: lv) st h Q := WP_st (by rfl)
theorem S122_7 : WP d 122 7 (a0 :: some (.int x) :: lv) st h Q ↔ WP d 122 8 (a0 :: some (.int x) :: lv) (.int x :: st) h Q := WP_st rfl
theorem S122_8 : WP d 122 8 lv st h Q ↔ WP d 122 10 lv (.int 6 :: st) h Q := WP_st rfl
theorem S122_10 : WP d 122 10 lv (.int y :: .int x :: st) h Q ↔ if x = y then WP d 122 13 lv st h Q else WP d 122 19 lv st h Q := WP_br rfl
theorem S122_13 : WP d 122 13 (some (.ref a) :: lv) st h Q ↔ WP d 122 14 (some (.ref a) :: lv) (.ref a :: st) h Q := WP_st rfl
theorem S122_14 : WP d 122 14 lv st h Q ↔ WP d 122 15 lv (.int 4 :: st) h Q := WP_st rfl
theorem S122_15 {pr0 : Nat} {pi0 : Int32} (hs : shp pr0 = some (0, 8)) : WP (d + 1) 122 15 lv [.int pi0, .ref pr0] h Q ↔ WP d 118 0 [some (.ref pr0), some (.int pi0)] [] h (kR (d + 1) 122 18 lv [] Q) := WP_callVR rfl rfl rfl rfl rfl hs
theorem S122_18 (hx : isB x) : WP d 122 18 lv [.int x] h Q ↔ Q (some (some (.int x))) h := WP_endZ rfl rfl hx
theorem S122_19 : WP d 122 19 (some (.ref a) :: lv) st h Q ↔ WP d 122 20 (some (.ref a) :: lv) (.ref a :: st) h Q := WP_st rfl
theorem S122_20 {pr0 : Nat} (hs : shp pr0 = some (0, 8)) : WP (d + 1) 122 20 lv [.ref pr0] h Q ↔ WP d 110 0 [some (.ref pr0), none, none, none, none] [] h (kV (d + 1) 122 23 lv [] Q) := WP_callVV rfl rfl rfl rfl rfl hs
theorem S122_23 : WP d 122 23 (some (.ref a) :: lv) st h Q ↔ WP d 122 24 (some (.ref a) :: lv) (.ref a :: st) h Q := WP_st rfl
theorem S122_24 {pr0 : Nat} (hs : shp pr0 = some (0, 8)) : WP (d + 1) 122 24 lv [.ref pr0] h Q ↔ WP d 117 0 [some (.ref pr0)] [] h (kR (d + 1) 122 27 lv [] Q) := WP_callVR rfl rfl rfl rfl rfl hs
theorem S122_27 : WP d 122 27 lv (.int x :: st) h Q ↔ if x = 0 then WP d 122 30 lv st h Q else WP d 122 36 lv st h Q := WP_br rfl
theorem S122_30 : WP d 122 30 (some (.ref a) :: lv) st h Q ↔ WP d 122 31 (some (.ref a) :: lv) (.ref a :: st) h Q := WP_st rfl
theorem S122_31 : WP d 122 31 lv st h Q ↔ WP d 122 32 lv (.int 1 :: st) h Q := WP_st rfl
theorem S122_32 {pr0 : Nat} {pi0 : Int32} (hs : shp pr0 = some (0, 8)) : WP (d + 1) 122 32 lv [.int pi0, .ref pr0] h Q ↔ WP d 118 0 [some (.ref pr0), some (.int pi0)] [] h (kR (d + 1) 122 35 lv [] Q) := WP_callVR rfl rfl rfl rfl rfl hs
theorem S122_35 (hx : isB x) : WP d 122 35 lv [.int x] h Q ↔ Q (some (some (.int x))) h := WP_endZ rfl rfl hx
theorem S122_36 : WP d 122 36 (some (.ref a) :: lv) st h Q ↔ WP d 122 37 (some (.ref a) :: lv) (.ref a :: st) h Q := WP_st rfl
theorem S122_37 {pr0 : Nat} (hs : shp pr0 = some (0, 8)) : WP (d + 1) 122 37 lv [.ref pr0] h Q ↔ WP d 120 0 [some (.ref pr0), none] [] h (kR (d + 1) 122 40 lv [] Q) := WP_callVR rfl rfl rfl rfl rfl hs
theorem S122_40 : WP d 122 40 lv st h Q ↔ WP d 122 41 lv (.int (-1) :: st) h Q := WP_st rfl
theorem S122_41 : WP d 122 41 lv (.int y :: .int x :: st) h Q ↔ if x = y then WP d 122 50 lv st h Q else WP d 122 44 lv st h Q := WP_br rfl
theorem S122_44 : WP d 122 44 (some (.ref a) :: lv) st h Q ↔ WP d 122 45 (some (.ref a) :: lv) (.ref a :: st) h Q := WP_st rfl
theorem S122_45 : WP d 122 45 lv st h Q ↔ WP d 122 46 lv (.int 3 :: st) h Q := WP_st rfl
theorem S122_46 {pr0 : Nat} {pi0 : Int32} (hs : shp pr0 = some (0, 8)) : WP (d + 1) 122 46 lv [.int pi0, .ref pr0] h Q ↔ WP d 118 0 [some (.ref pr0), some (.int pi0)] [] h (kR (d + 1) 122 49 lv [] Q) := WP_callVR rfl rfl rfl rfl rfl hs
theorem S122_49 (hx : isB x) : WP d 122 49 lv [.int x] h Q ↔ Q (some (some (.int x))) h := WP_endZ rfl rfl hx
theorem S122_50 : WP d 122 50 (some (.ref a) :: lv) st h Q ↔ WP d 122 51 (some (.ref a) :: lv) (.ref a :: st) h Q := WP_st rfl
theorem S122_51 (hs : shp a = some (0, 8)) : WP d 122 51 lv (.ref a :: st) h Q ↔ WP d 122 54 lv (.ref (RV a 19) :: st) h Q := WP_getR (r := 531) rfl hs (by decide)
theorem S122_54 : WP d 122 54 (a0 :: some (.int x) :: lv) st h Q ↔ WP d 122 55 (a0 :: some (.int x) :: lv) (.int x :: st) h Q := WP_st rfl
theorem S122_55 : WP d 122 55 (some (.ref a) :: lv) st h Q ↔ WP d 122 56 (some (.ref a) :: lv) (.ref a :: st) h Q := WP_st rfl
theorem S122_56 (hs : shp a = some (0, 8)) : WP d 122 56 lv (.ref a :: st) h Q ↔ WP d 122 59 lv (.long (h.2.1 a 12) :: st) h Q := WP_getL (r := 524) rfl hs (by decide)
theorem S122_59 (hi : okA 4 a i) : WP d 122 59 lv (.long u :: .int i :: .ref a :: st) h Q ↔ WP d 122 60 lv st (setL h a i.toNatClampNeg u) Q := WP_last rfl hi
theorem S122_60 : WP d 122 60 (some (.ref a) :: lv) st h Q ↔ WP d 122 61 (some (.ref a) :: lv) (.ref a :: st) h Q := WP_st rfl
theorem S122_61 {pr0 : Nat} (hs : shp pr0 = some (0, 8)) : WP (d + 1) 122 61 lv [.ref pr0] h Q ↔ WP d 110 0 [some (.ref pr0), none, none, none, none] [] h (kV (d + 1) 122 64 lv [] Q) := WP_callVV rfl rfl rfl rfl rfl hs
theorem S122_64 : WP d 122 64 (some (.ref a) :: lv) st h Q ↔ WP d 122 65 (some (.ref a) :: lv) (.ref a :: st) h Q := WP_st rfl
theorem S122_65 (hs : shp a = some (0, 8)) : WP d 122 65 lv (.ref a :: st) h Q ↔ WP d 122 68 lv (.int (h.1 a 6) :: st) h Q := WP_getI (r := 518) rfl hs (by decide)
theorem S122_68 : WP d 122 68 lv st h Q ↔ WP d 122 69 lv (.int 4 :: st) h Q := WP_st rfl
theorem S122_69 : WP d 122 69 lv (.int y :: .int x :: st) h Q ↔ if x = y then WP d 122 103 lv st h Q else WP d 122 72 lv st h Q := WP_br rfl
theorem S122_72 : WP d 122 72 (some (.ref a) :: lv) st h Q ↔ WP d 122 73 (some (.ref a) :: lv) (.ref a :: st) h Q := WP_st rfl
theorem S122_73 {pr0 : Nat} (hs : shp pr0 = some (0, 8)) : WP (d + 1) 122 73 lv [.ref pr0] h Q ↔ WP d 121 0 [some (.ref pr0), none] [] h (kR (d + 1) 122 76 lv [] Q) := WP_callVR rfl rfl rfl rfl rfl hs
theorem S122_76 : WP d 122 76 lv (.int x :: st) h Q ↔ if x = 0 then WP d 122 79 lv st h Q else WP d 122 81 lv st h Q := WP_br rfl
theorem S122_79 : WP d 122 79 lv st h Q ↔ WP d 122 80 lv (.int 0 :: st) h Q := WP_st rfl
theorem S122_80 (hx : isB x) : WP d 122 80 lv [.int x] h Q ↔ Q (some (some (.int x))) h := WP_endZ rfl rfl hx
theorem S122_81 : WP d 122 81 (some (.ref a) :: lv) st h Q ↔ WP d 122 82 (some (.ref a) :: lv) (.ref a :: st) h Q := WP_st rfl
theorem S122_82 (hs : shp a = some (0, 8)) : WP d 122 82 lv (.ref a :: st) h Q ↔ WP d 122 85 lv (.ref (RV a 14) :: st) h Q := WP_getR (r := 526) rfl hs (by decide)
theorem S122_85 : WP d 122 85 lv st h Q ↔ WP d 122 86 lv (.int 2 :: st) h Q := WP_st rfl
theorem S122_86 : WP d 122 86 (a0 :: some (.int x) :: lv) st h Q ↔ WP d 122 87 (a0 :: some (.int x) :: lv) (.int x :: st) h Q := WP_st rfl
theorem S122_87 : WP d 122 87 lv (.int y :: .int x :: st) h Q ↔ WP d 122 88 lv (.int (x + y) :: st) h Q := WP_st rfl
theorem S122_88 : WP d 122 88 lv st h Q ↔ WP d 122 89 lv (.int 1 :: st) h Q := WP_st rfl
theorem S122_89 (hi : okA 1 a i) : WP d 122 89 lv (.int x :: .int i :: .ref a :: st) h Q ↔ WP d 122 90 lv st (setI h a i.toNatClampNeg x) Q := WP_iast rfl hi
theorem S122_90 : WP d 122 90 (some (.ref a) :: lv) st h Q ↔ WP d 122 91 (some (.ref a) :: lv) (.ref a :: st) h Q := WP_st rfl
theorem S122_91 (hs : shp a = some (0, 8)) : WP d 122 91 lv (.ref a :: st) h Q ↔ WP d 122 94 lv (.ref (RV a 14) :: st) h Q := WP_getR (r := 526) rfl hs (by decide)
theorem S122_94 : WP d 122 94 lv st h Q ↔ WP d 122 96 lv (.int 8 :: st) h Q := WP_st rfl
theorem S122_96 : WP d 122 96 (a0 :: some (.int x) :: lv) st h Q ↔ WP d 122 97 (a0 :: some (.int x) :: lv) (.int x :: st) h Q := WP_st rfl
theorem S122_97 : WP d 122 97 lv (.int y :: .int x :: st) h Q ↔ WP d 122 98 lv (.int (x + y) :: st) h Q := WP_st rfl
theorem S122_98 : WP d 122 98 (some (.ref a) :: lv) st h Q ↔ WP d 122 99 (some (.ref a) :: lv) (.ref a :: st) h Q := WP_st rfl
theorem S122_99 (hs : shp a = some (0, 8)) : WP d 122 99 lv (.ref a :: st) h Q ↔ WP d 122 102 lv (.int (h.1 a 22) :: st) h Q := WP_getI (r := 534) rfl hs (by decide)
theorem S122_102 (hi : okA 1 a i) : WP d 122 102 lv (.int x :: .int i :: .ref a :: st) h Q ↔ WP d 122 103 lv st (setI h a i.toNatClampNeg x) Q := WP_iast rfl hi
theorem S122_103 : WP d 122 103 (some (.ref a) :: lv) st h Q ↔ WP d 122 104 (some (.ref a) :: lv) (.ref a :: st) h Q := WP_st rfl
theorem S122_104 (hs : shp a = some (0, 8)) : WP d 122 104 lv (.ref a :: st) h Q ↔ WP d 122 107 lv (.ref (RV a 14) :: st) h Q := WP_getR (r := 526) rfl hs (by decide)
theorem S122_107 : WP d 122 107 lv st h Q ↔ WP d 122 108 lv (.int 0 :: st) h Q := WP_st rfl
theorem S122_108 : WP d 122 108 lv (.int x :: .ref a :: st) h Q ↔ WP d 122 109 lv (.int x :: .ref a :: .int x :: .ref a :: st) h Q := WP_st rfl
theorem S122_109 (hi : okA 1 a i) : WP d 122 109 lv (.int i :: .ref a :: st) h Q ↔ WP d 122 110 lv (.int (h.1 a i.toNatClampNeg) :: st) h Q := WP_iald rfl hi
end
