section
variable {d : Nat} {lv : LV} {st : List Value} {h : Hp} {Q : Option (Option Value) → Hp → Prop} {x y i : Int32} {u w : Int64} {a a2 : Nat} {a0 a1 a2v a3 a4 a5 a6 a7 a8 a9 a10 a11 a12 a13 a14 a15 a16 a17 a18 a19 a20 : Option Value}
theorem S122_110 : WP d 122 110 lv st h Q ↔ WP d 122 111 lv (.int 1 :: st) h Q := WP_st rfl
theorem S122_111 : WP d 122 111 lv (.int y :: .int x :: st) h Q ↔ WP d 122 112 lv (.int (x + y) :: st) h Q := WP_st rfl
theorem S122_112 (hi : okA 1 a i) : WP d 122 112 lv (.int x :: .int i :: .ref a :: st) h Q ↔ WP d 122 113 lv st (setI h a i.toNatClampNeg x) Q := WP_iast rfl hi
theorem S122_113 : WP d 122 113 lv st h Q ↔ WP d 122 114 lv (.int 1 :: st) h Q := WP_st rfl
theorem S122_114 (hx : isB x) : WP d 122 114 lv [.int x] h Q ↔ Q (some (some (.int x))) h := WP_endZ rfl rfl hx
theorem S123_0 : WP d 123 0 (some (.ref a) :: lv) st h Q ↔ WP d 123 1 (some (.ref a) :: lv) (.ref a :: st) h Q := WP_st rfl
theorem S123_1 (hs : shp a = some (0, 8)) : WP d 123 1 lv (.ref a :: st) h Q ↔ WP d 123 4 lv (.ref (RV a 14) :: st) h Q := WP_getR (r := 526) rfl hs (by decide)
theorem S123_4 : WP d 123 4 lv st h Q ↔ WP d 123 5 lv (.int 1 :: st) h Q := WP_st rfl
theorem S123_5 (hi : okA 1 a i) : WP d 123 5 lv (.int i :: .ref a :: st) h Q ↔ WP d 123 6 lv (.int (h.1 a i.toNatClampNeg) :: st) h Q := WP_iald rfl hi
theorem S123_6 : WP d 123 6 (a0 :: a1 :: lv) (.int x :: st) h Q ↔ WP d 123 7 (kl a0 :: some (.int x) :: lv) st h Q := WP_st (by rfl)
theorem S123_7 : WP d 123 7 (a0 :: some (.int x) :: lv) st h Q ↔ WP d 123 8 (a0 :: some (.int x) :: lv) (.int x :: st) h Q := WP_st rfl
theorem S123_8 : WP d 123 8 lv st h Q ↔ WP d 123 10 lv (.int 11 :: st) h Q := WP_st rfl
theorem S123_10 : WP d 123 10 lv (.int y :: .int x :: st) h Q ↔ if x = y then WP d 123 13 lv st h Q else WP d 123 19 lv st h Q := WP_br rfl
theorem S123_13 : WP d 123 13 (some (.ref a) :: lv) st h Q ↔ WP d 123 14 (some (.ref a) :: lv) (.ref a :: st) h Q := WP_st rfl
theorem S123_14 : WP d 123 14 lv st h Q ↔ WP d 123 15 lv (.int 4 :: st) h Q := WP_st rfl
theorem S123_15 {pr0 : Nat} {pi0 : Int32} (hs : shp pr0 = some (0, 8)) : WP (d + 1) 123 15 lv [.int pi0, .ref pr0] h Q ↔ WP d 118 0 [some (.ref pr0), some (.int pi0)] [] h (kR (d + 1) 123 18 lv [] Q) := WP_callVR rfl rfl rfl rfl rfl hs
theorem S123_18 (hx : isB x) : WP d 123 18 lv [.int x] h Q ↔ Q (some (some (.int x))) h := WP_endZ rfl rfl hx
theorem S123_19 : WP d 123 19 (some (.ref a) :: lv) st h Q ↔ WP d 123 20 (some (.ref a) :: lv) (.ref a :: st) h Q := WP_st rfl
theorem S123_20 {pr0 : Nat} (hs : shp pr0 = some (0, 8)) : WP (d + 1) 123 20 lv [.ref pr0] h Q ↔ WP d 110 0 [some (.ref pr0), none, none, none, none] [] h (kV (d + 1) 123 23 lv [] Q) := WP_callVV rfl rfl rfl rfl rfl hs
theorem S123_23 : WP d 123 23 (some (.ref a) :: lv) st h Q ↔ WP d 123 24 (some (.ref a) :: lv) (.ref a :: st) h Q := WP_st rfl
theorem S123_24 {pr0 : Nat} (hs : shp pr0 = some (0, 8)) : WP (d + 1) 123 24 lv [.ref pr0] h Q ↔ WP d 117 0 [some (.ref pr0)] [] h (kR (d + 1) 123 27 lv [] Q) := WP_callVR rfl rfl rfl rfl rfl hs
theorem S123_27 : WP d 123 27 lv (.int x :: st) h Q ↔ if x = 0 then WP d 123 30 lv st h Q else WP d 123 36 lv st h Q := WP_br rfl
theorem S123_30 : WP d 123 30 (some (.ref a) :: lv) st h Q ↔ WP d 123 31 (some (.ref a) :: lv) (.ref a :: st) h Q := WP_st rfl
theorem S123_31 : WP d 123 31 lv st h Q ↔ WP d 123 32 lv (.int 1 :: st) h Q := WP_st rfl
theorem S123_32 {pr0 : Nat} {pi0 : Int32} (hs : shp pr0 = some (0, 8)) : WP (d + 1) 123 32 lv [.int pi0, .ref pr0] h Q ↔ WP d 118 0 [some (.ref pr0), some (.int pi0)] [] h (kR (d + 1) 123 35 lv [] Q) := WP_callVR rfl rfl rfl rfl rfl hs
theorem S123_35 (hx : isB x) : WP d 123 35 lv [.int x] h Q ↔ Q (some (some (.int x))) h := WP_endZ rfl rfl hx
theorem S123_36 : WP d 123 36 (some (.ref a) :: lv) st h Q ↔ WP d 123 37 (some (.ref a) :: lv) (.ref a :: st) h Q := WP_st rfl
theorem S123_37 {pr0 : Nat} (hs : shp pr0 = some (0, 8)) : WP (d + 1) 123 37 lv [.ref pr0] h Q ↔ WP d 120 0 [some (.ref pr0), none] [] h (kR (d + 1) 123 40 lv [] Q) := WP_callVR rfl rfl rfl rfl rfl hs
theorem S123_40 : WP d 123 40 (a0 :: a1 :: a2v :: lv) (.int x :: st) h Q ↔ WP d 123 41 (a0 :: kl a1 :: some (.int x) :: lv) st h Q := WP_st (by rfl)
theorem S123_41 : WP d 123 41 (a0 :: a1 :: some (.int x) :: lv) st h Q ↔ WP d 123 42 (a0 :: a1 :: some (.int x) :: lv) (.int x :: st) h Q := WP_st rfl
theorem S123_42 : WP d 123 42 lv st h Q ↔ WP d 123 43 lv (.int (-1) :: st) h Q := WP_st rfl
theorem S123_43 : WP d 123 43 lv (.int y :: .int x :: st) h Q ↔ if x = y then WP d 123 46 lv st h Q else WP d 123 52 lv st h Q := WP_br rfl
theorem S123_46 : WP d 123 46 (some (.ref a) :: lv) st h Q ↔ WP d 123 47 (some (.ref a) :: lv) (.ref a :: st) h Q := WP_st rfl
theorem S123_47 : WP d 123 47 lv st h Q ↔ WP d 123 48 lv (.int 3 :: st) h Q := WP_st rfl
theorem S123_48 {pr0 : Nat} {pi0 : Int32} (hs : shp pr0 = some (0, 8)) : WP (d + 1) 123 48 lv [.int pi0, .ref pr0] h Q ↔ WP d 118 0 [some (.ref pr0), some (.int pi0)] [] h (kR (d + 1) 123 51 lv [] Q) := WP_callVR rfl rfl rfl rfl rfl hs
theorem S123_51 (hx : isB x) : WP d 123 51 lv [.int x] h Q ↔ Q (some (some (.int x))) h := WP_endZ rfl rfl hx
theorem S123_52 : WP d 123 52 (some (.ref a) :: lv) st h Q ↔ WP d 123 53 (some (.ref a) :: lv) (.ref a :: st) h Q := WP_st rfl
theorem S123_53 {pr0 : Nat} (hs : shp pr0 = some (0, 8)) : WP (d + 1) 123 53 lv [.ref pr0] h Q ↔ WP d 110 0 [some (.ref pr0), none, none, none, none] [] h (kV (d + 1) 123 56 lv [] Q) := WP_callVV rfl rfl rfl rfl rfl hs
theorem S123_56 : WP d 123 56 (some (.ref a) :: lv) st h Q ↔ WP d 123 57 (some (.ref a) :: lv) (.ref a :: st) h Q := WP_st rfl
theorem S123_57 {pr0 : Nat} (hs : shp pr0 = some (0, 8)) : WP (d + 1) 123 57 lv [.ref pr0] h Q ↔ WP d 117 0 [some (.ref pr0)] [] h (kR (d + 1) 123 60 lv [] Q) := WP_callVR rfl rfl rfl rfl rfl hs
theorem S123_60 : WP d 123 60 lv (.int x :: st) h Q ↔ if x = 0 then WP d 123 63 lv st h Q else WP d 123 69 lv st h Q := WP_br rfl
theorem S123_63 : WP d 123 63 (some (.ref a) :: lv) st h Q ↔ WP d 123 64 (some (.ref a) :: lv) (.ref a :: st) h Q := WP_st rfl
theorem S123_64 : WP d 123 64 lv st h Q ↔ WP d 123 65 lv (.int 1 :: st) h Q := WP_st rfl
theorem S123_65 {pr0 : Nat} {pi0 : Int32} (hs : shp pr0 = some (0, 8)) : WP (d + 1) 123 65 lv [.int pi0, .ref pr0] h Q ↔ WP d 118 0 [some (.ref pr0), some (.int pi0)] [] h (kR (d + 1) 123 68 lv [] Q) := WP_callVR rfl rfl rfl rfl rfl hs
theorem S123_68 (hx : isB x) : WP d 123 68 lv [.int x] h Q ↔ Q (some (some (.int x))) h := WP_endZ rfl rfl hx
theorem S123_69 : WP d 123 69 (some (.ref a) :: lv) st h Q ↔ WP d 123 70 (some (.ref a) :: lv) (.ref a :: st) h Q := WP_st rfl
theorem S123_70 {pr0 : Nat} (hs : shp pr0 = some (0, 8)) : WP (d + 1) 123 70 lv [.ref pr0] h Q ↔ WP d 120 0 [some (.ref pr0), none] [] h (kR (d + 1) 123 73 lv [] Q) := WP_callVR rfl rfl rfl rfl rfl hs
theorem S123_73 : WP d 123 73 (a0 :: a1 :: a2v :: a3 :: lv) (.int x :: st) h Q ↔ WP d 123 74 (a0 :: a1 :: kl a2v :: some (.int x) :: lv) st h Q := WP_st (by rfl)
theorem S123_74 : WP d 123 74 (a0 :: a1 :: a2v :: some (.int x) :: lv) st h Q ↔ WP d 123 75 (a0 :: a1 :: a2v :: some (.int x) :: lv) (.int x :: st) h Q := WP_st rfl
theorem S123_75 : WP d 123 75 lv st h Q ↔ WP d 123 76 lv (.int (-1) :: st) h Q := WP_st rfl
theorem S123_76 : WP d 123 76 lv (.int y :: .int x :: st) h Q ↔ if x = y then WP d 123 84 lv st h Q else WP d 123 79 lv st h Q := WP_br rfl
theorem S123_79 : WP d 123 79 (a0 :: a1 :: a2v :: some (.int x) :: lv) st h Q ↔ WP d 123 80 (a0 :: a1 :: a2v :: some (.int x) :: lv) (.int x :: st) h Q := WP_st rfl
theorem S123_80 : WP d 123 80 (a0 :: a1 :: some (.int x) :: lv) st h Q ↔ WP d 123 81 (a0 :: a1 :: some (.int x) :: lv) (.int x :: st) h Q := WP_st rfl
theorem S123_81 : WP d 123 81 lv (.int y :: .int x :: st) h Q ↔ if x = y then WP d 123 84 lv st h Q else WP d 123 90 lv st h Q := WP_br rfl
theorem S123_84 : WP d 123 84 (some (.ref a) :: lv) st h Q ↔ WP d 123 85 (some (.ref a) :: lv) (.ref a :: st) h Q := WP_st rfl
theorem S123_85 : WP d 123 85 lv st h Q ↔ WP d 123 86 lv (.int 3 :: st) h Q := WP_st rfl
theorem S123_86 {pr0 : Nat} {pi0 : Int32} (hs : shp pr0 = some (0, 8)) : WP (d + 1) 123 86 lv [.int pi0, .ref pr0] h Q ↔ WP d 118 0 [some (.ref pr0), some (.int pi0)] [] h (kR (d + 1) 123 89 lv [] Q) := WP_callVR rfl rfl rfl rfl rfl hs
theorem S123_89 (hx : isB x) : WP d 123 89 lv [.int x] h Q ↔ Q (some (some (.int x))) h := WP_endZ rfl rfl hx
theorem S123_90 : WP d 123 90 (some (.ref a) :: lv) st h Q ↔ WP d 123 91 (some (.ref a) :: lv) (.ref a :: st) h Q := WP_st rfl
theorem S123_91 {pr0 : Nat} (hs : shp pr0 = some (0, 8)) : WP (d + 1) 123 91 lv [.ref pr0] h Q ↔ WP d 110 0 [some (.ref pr0), none, none, none, none] [] h (kV (d + 1) 123 94 lv [] Q) := WP_callVV rfl rfl rfl rfl rfl hs
theorem S123_94 : WP d 123 94 (some (.ref a) :: lv) st h Q ↔ WP d 123 95 (some (.ref a) :: lv) (.ref a :: st) h Q := WP_st rfl
theorem S123_95 {pr0 : Nat} (hs : shp pr0 = some (0, 8)) : WP (d + 1) 123 95 lv [.ref pr0] h Q ↔ WP d 121 0 [some (.ref pr0), none] [] h (kR (d + 1) 123 98 lv [] Q) := WP_callVR rfl rfl rfl rfl rfl hs
theorem S123_98 : WP d 123 98 lv (.int x :: st) h Q ↔ if x = 0 then WP d 123 101 lv st h Q else WP d 123 103 lv st h Q := WP_br rfl
theorem S123_101 : WP d 123 101 lv st h Q ↔ WP d 123 102 lv (.int 0 :: st) h Q := WP_st rfl
theorem S123_102 (hx : isB x) : WP d 123 102 lv [.int x] h Q ↔ Q (some (some (.int x))) h := WP_endZ rfl rfl hx
theorem S123_103 : WP d 123 103 (some (.ref a) :: lv) st h Q ↔ WP d 123 104 (some (.ref a) :: lv) (.ref a :: st) h Q := WP_st rfl
theorem S123_104 (hs : shp a = some (0, 8)) : WP d 123 104 lv (.ref a :: st) h Q ↔ WP d 123 107 lv (.int (h.1 a 6) :: st) h Q := WP_getI (r := 518) rfl hs (by decide)
theorem S123_107 : WP d 123 107 lv st h Q ↔ WP d 123 108 lv (.int 3 :: st) h Q := WP_st rfl
theorem S123_108 : WP d 123 108 lv (.int y :: .int x :: st) h Q ↔ if x = y then WP d 123 117 lv st h Q else WP d 123 111 lv st h Q := WP_br rfl
theorem S123_111 : WP d 123 111 (some (.ref a) :: lv) st h Q ↔ WP d 123 112 (some (.ref a) :: lv) (.ref a :: st) h Q := WP_st rfl
theorem S123_112 : WP d 123 112 lv st h Q ↔ WP d 123 113 lv (.int 1 :: st) h Q := WP_st rfl
theorem S123_113 {pr0 : Nat} {pi0 : Int32} (hs : shp pr0 = some (0, 8)) : WP (d + 1) 123 113 lv [.int pi0, .ref pr0] h Q ↔ WP d 118 0 [some (.ref pr0), some (.int pi0)] [] h (kR (d + 1) 123 116 lv [] Q) := WP_callVR rfl rfl rfl rfl rfl hs
theorem S123_116 (hx : isB x) : WP d 123 116 lv [.int x] h Q ↔ Q (some (some (.int x))) h := WP_endZ rfl rfl hx
theorem S123_117 : WP d 123 117 (some (.ref a) :: lv) st h Q ↔ WP d 123 118 (some (.ref a) :: lv) (.ref a :: st) h Q := WP_st rfl
theorem S123_118 (hs : shp a = some (0, 8)) : WP d 123 118 lv (.ref a :: st) h Q ↔ WP d 123 121 lv (.int (h.1 a 7) :: st) h Q := WP_getI (r := 519) rfl hs (by decide)
theorem S123_121 : WP d 123 121 lv st h Q ↔ WP d 123 122 lv (.int 1 :: st) h Q := WP_st rfl
theorem S123_122 : WP d 123 122 lv st h Q ↔ WP d 123 123 lv (.int 4 :: st) h Q := WP_st rfl
theorem S123_123 {pi0 : Int32} {pi1 : Int32} {pi2 : Int32} : WP (d + 1) 123 123 lv [.int pi2, .int pi1, .int pi0] h Q ↔ WP d 101 0 [some (.int pi0), some (.int pi1), some (.int pi2)] [] h (kR (d + 1) 123 126 lv [] Q) := WP_callSR rfl rfl rfl rfl rfl
theorem S123_126 : WP d 123 126 lv (.int x :: st) h Q ↔ if x = 0 then WP d 123 129 lv st h Q else WP d 123 135 lv st h Q := WP_br rfl
theorem S123_129 : WP d 123 129 (some (.ref a) :: lv) st h Q ↔ WP d 123 130 (some (.ref a) :: lv) (.ref a :: st) h Q := WP_st rfl
theorem S123_130 : WP d 123 130 lv st h Q ↔ WP d 123 131 lv (.int 2 :: st) h Q := WP_st rfl
theorem S123_131 {pr0 : Nat} {pi0 : Int32} (hs : shp pr0 = some (0, 8)) : WP (d + 1) 123 131 lv [.int pi0, .ref pr0] h Q ↔ WP d 118 0 [some (.ref pr0), some (.int pi0)] [] h (kR (d + 1) 123 134 lv [] Q) := WP_callVR rfl rfl rfl rfl rfl hs
theorem S123_134 (hx : isB x) : WP d 123 134 lv [.int x] h Q ↔ Q (some (some (.int x))) h := WP_endZ rfl rfl hx
theorem S123_135 : WP d 123 135 (some (.ref a) :: lv) st h Q ↔ WP d 123 136 (some (.ref a) :: lv) (.ref a :: st) h Q := WP_st rfl
theorem S123_136 (hs : shp a = some (0, 8)) : WP d 123 136 lv (.ref a :: st) h Q ↔ WP d 123 139 lv (.ref (RV a 14) :: st) h Q := WP_getR (r := 526) rfl hs (by decide)
theorem S123_139 : WP d 123 139 (a0 :: a1 :: some (.int x) :: lv) st h Q ↔ WP d 123 140 (a0 :: a1 :: some (.int x) :: lv) (.int x :: st) h Q := WP_st rfl
set_option maxRecDepth 20000 in
theorem S123_140 : WP d 123 140 (a0 :: a1 :: a2v :: some (.int x) :: lv) st h Q ↔ WP d 123 141 (a0 :: a1 :: a2v :: some (.int x) :: lv) (.int x :: st) h Q := WP_st rfl
set_option maxRecDepth 20000 in
theorem S123_141 : WP d 123 141 (some (.ref a) :: lv) st h Q ↔ WP d 123 142 (some (.ref a) :: lv) (.ref a :: st) h Q := WP_st rfl
set_option maxRecDepth 20000 in
theorem S123_142 (hs : shp a = some (0, 8)) : WP d 123 142 lv (.ref a :: st) h Q ↔ WP d 123 145 lv (.int (h.1 a 22) :: st) h Q := WP_getI (r := 534) rfl hs (by decide)
set_option maxRecDepth 20000 in
theorem S123_145 : WP d 123 145 (some (.ref a) :: lv) st h Q ↔ WP d 123 146 (some (.ref a) :: lv) (.ref a :: st) h Q := WP_st rfl
set_option maxRecDepth 20000 in
theorem S123_146 (hs : shp a = some (0, 8)) : WP d 123 146 lv (.ref a :: st) h Q ↔ WP d 123 149 lv (.int (h.1 a 7) :: st) h Q := WP_getI (r := 519) rfl hs (by decide)
set_option maxRecDepth 20000 in
theorem S123_149 {pr0 : Nat} {pi0 : Int32} {pi1 : Int32} {pi2 : Int32} {pi3 : Int32} : WP (d + 1) 123 149 lv [.int pi3, .int pi2, .int pi1, .int pi0, .ref pr0] h Q ↔ WP d 124 0 [some (.ref pr0), some (.int pi0), some (.int pi1), some (.int pi2), some (.int pi3), none] [] h (kV (d + 1) 123 152 lv [] Q) := WP_callSV rfl rfl rfl rfl rfl
set_option maxRecDepth 20000 in
theorem S123_152 : WP d 123 152 (some (.ref a) :: lv) st h Q ↔ WP d 123 153 (some (.ref a) :: lv) (.ref a :: st) h Q := WP_st rfl
set_option maxRecDepth 20000 in
theorem S123_153 {pr0 : Nat} (hs : shp pr0 = some (0, 8)) : WP (d + 1) 123 153 lv [.ref pr0] h Q ↔ WP d 110 0 [some (.ref pr0), none, none, none, none] [] h (kV (d + 1) 123 156 lv [] Q) := WP_callVV rfl rfl rfl rfl rfl hs
set_option maxRecDepth 20000 in
theorem S123_156 : WP d 123 156 lv st h Q ↔ WP d 123 157 lv (.int 1 :: st) h Q := WP_st rfl
set_option maxRecDepth 20000 in
theorem S123_157 (hx : isB x) : WP d 123 157 lv [.int x] h Q ↔ Q (some (some (.int x))) h := WP_endZ rfl rfl hx
theorem S124_0 : WP d 124 0 (some (.ref a) :: lv) st h Q ↔ WP d 124 1 (some (.ref a) :: lv) (.ref a :: st) h Q := WP_st rfl
theorem S124_1 : WP d 124 1 lv st h Q ↔ WP d 124 2 lv (.int 1 :: st) h Q := WP_st rfl
theorem S124_2 (hi : okA 1 a i) : WP d 124 2 lv (.int i :: .ref a :: st) h Q ↔ WP d 124 3 lv (.int (h.1 a i.toNatClampNeg) :: st) h Q := WP_iald rfl hi
theorem S124_3 : WP d 124 3 (a0 :: a1 :: a2v :: a3 :: a4 :: a5 :: lv) (.int x :: st) h Q ↔ WP d 124 5 (a0 :: a1 :: a2v :: a3 :: kl a4 :: some (.int x) :: lv) st h Q := WP_st (by rfl)
theorem S124_5 : WP d 124 5 (some (.ref a) :: lv) st h Q ↔ WP d 124 6 (some (.ref a) :: lv) (.ref a :: st) h Q := WP_st rfl
theorem S124_6 : WP d 124 6 lv st h Q ↔ WP d 124 8 lv (.int 14 :: st) h Q := WP_st rfl
theorem S124_8 : WP d 124 8 (a0 :: a1 :: a2v :: a3 :: a4 :: some (.int x) :: lv) st h Q ↔ WP d 124 10 (a0 :: a1 :: a2v :: a3 :: a4 :: some (.int x) :: lv) (.int x :: st) h Q := WP_st rfl
theorem S124_10 : WP d 124 10 lv (.int y :: .int x :: st) h Q ↔ WP d 124 11 lv (.int (x + y) :: st) h Q := WP_st rfl
theorem S124_11 : WP d 124 11 (a0 :: some (.int x) :: lv) st h Q ↔ WP d 124 12 (a0 :: some (.int x) :: lv) (.int x :: st) h Q := WP_st rfl
theorem S124_12 (hi : okA 1 a i) : WP d 124 12 lv (.int x :: .int i :: .ref a :: st) h Q ↔ WP d 124 13 lv st (setI h a i.toNatClampNeg x) Q := WP_iast rfl hi
theorem S124_13 : WP d 124 13 (some (.ref a) :: lv) st h Q ↔ WP d 124 14 (some (.ref a) :: lv) (.ref a :: st) h Q := WP_st rfl
theorem S124_14 : WP d 124 14 lv st h Q ↔ WP d 124 16 lv (.int 25 :: st) h Q := WP_st rfl
theorem S124_16 : WP d 124 16 (a0 :: a1 :: a2v :: a3 :: a4 :: some (.int x) :: lv) st h Q ↔ WP d 124 18 (a0 :: a1 :: a2v :: a3 :: a4 :: some (.int x) :: lv) (.int x :: st) h Q := WP_st rfl
theorem S124_18 : WP d 124 18 lv (.int y :: .int x :: st) h Q ↔ WP d 124 19 lv (.int (x + y) :: st) h Q := WP_st rfl
theorem S124_19 : WP d 124 19 (a0 :: a1 :: some (.int x) :: lv) st h Q ↔ WP d 124 20 (a0 :: a1 :: some (.int x) :: lv) (.int x :: st) h Q := WP_st rfl
theorem S124_20 (hi : okA 1 a i) : WP d 124 20 lv (.int x :: .int i :: .ref a :: st) h Q ↔ WP d 124 21 lv st (setI h a i.toNatClampNeg x) Q := WP_iast rfl hi
theorem S124_21 : WP d 124 21 (some (.ref a) :: lv) st h Q ↔ WP d 124 22 (some (.ref a) :: lv) (.ref a :: st) h Q := WP_st rfl
theorem S124_22 : WP d 124 22 lv st h Q ↔ WP d 124 24 lv (.int 36 :: st) h Q := WP_st rfl
theorem S124_24 : WP d 124 24 (a0 :: a1 :: a2v :: a3 :: a4 :: some (.int x) :: lv) st h Q ↔ WP d 124 26 (a0 :: a1 :: a2v :: a3 :: a4 :: some (.int x) :: lv) (.int x :: st) h Q := WP_st rfl
theorem S124_26 : WP d 124 26 lv (.int y :: .int x :: st) h Q ↔ WP d 124 27 lv (.int (x + y) :: st) h Q := WP_st rfl
theorem S124_27 : WP d 124 27 (a0 :: a1 :: a2v :: some (.int x) :: lv) st h Q ↔ WP d 124 28 (a0 :: a1 :: a2v :: some (.int x) :: lv) (.int x :: st) h Q := WP_st rfl
theorem S124_28 (hi : okA 1 a i) : WP d 124 28 lv (.int x :: .int i :: .ref a :: st) h Q ↔ WP d 124 29 lv st (setI h a i.toNatClampNeg x) Q := WP_iast rfl hi
theorem S124_29 : WP d 124 29 (some (.ref a) :: lv) st h Q ↔ WP d 124 30 (some (.ref a) :: lv) (.ref a :: st) h Q := WP_st rfl
theorem S124_30 : WP d 124 30 lv st h Q ↔ WP d 124 32 lv (.int 47 :: st) h Q := WP_st rfl
theorem S124_32 : WP d 124 32 (a0 :: a1 :: a2v :: a3 :: a4 :: some (.int x) :: lv) st h Q ↔ WP d 124 34 (a0 :: a1 :: a2v :: a3 :: a4 :: some (.int x) :: lv) (.int x :: st) h Q := WP_st rfl
theorem S124_34 : WP d 124 34 lv (.int y :: .int x :: st) h Q ↔ WP d 124 35 lv (.int (x + y) :: st) h Q := WP_st rfl
theorem S124_35 : WP d 124 35 (a0 :: a1 :: a2v :: a3 :: some (.int x) :: lv) st h Q ↔ WP d 124 37 (a0 :: a1 :: a2v :: a3 :: some (.int x) :: lv) (.int x :: st) h Q := WP_st rfl
theorem S124_37 (hi : okA 1 a i) : WP d 124 37 lv (.int x :: .int i :: .ref a :: st) h Q ↔ WP d 124 38 lv st (setI h a i.toNatClampNeg x) Q := WP_iast rfl hi
theorem S124_38 : WP d 124 38 (some (.ref a) :: lv) st h Q ↔ WP d 124 39 (some (.ref a) :: lv) (.ref a :: st) h Q := WP_st rfl
theorem S124_39 : WP d 124 39 lv st h Q ↔ WP d 124 41 lv (.int 58 :: st) h Q := WP_st rfl
theorem S124_41 : WP d 124 41 (a0 :: a1 :: a2v :: a3 :: a4 :: some (.int x) :: lv) st h Q ↔ WP d 124 43 (a0 :: a1 :: a2v :: a3 :: a4 :: some (.int x) :: lv) (.int x :: st) h Q := WP_st rfl
theorem S124_43 : WP d 124 43 lv (.int y :: .int x :: st) h Q ↔ WP d 124 44 lv (.int (x + y) :: st) h Q := WP_st rfl
theorem S124_44 : WP d 124 44 lv st h Q ↔ WP d 124 45 lv (.int 1 :: st) h Q := WP_st rfl
theorem S124_45 (hi : okA 1 a i) : WP d 124 45 lv (.int x :: .int i :: .ref a :: st) h Q ↔ WP d 124 46 lv st (setI h a i.toNatClampNeg x) Q := WP_iast rfl hi
theorem S124_46 : WP d 124 46 (some (.ref a) :: lv) st h Q ↔ WP d 124 47 (some (.ref a) :: lv) (.ref a :: st) h Q := WP_st rfl
theorem S124_47 : WP d 124 47 lv st h Q ↔ WP d 124 48 lv (.int 1 :: st) h Q := WP_st rfl
theorem S124_48 : WP d 124 48 lv (.int x :: .ref a :: st) h Q ↔ WP d 124 49 lv (.int x :: .ref a :: .int x :: .ref a :: st) h Q := WP_st rfl
theorem S124_49 (hi : okA 1 a i) : WP d 124 49 lv (.int i :: .ref a :: st) h Q ↔ WP d 124 50 lv (.int (h.1 a i.toNatClampNeg) :: st) h Q := WP_iald rfl hi
theorem S124_50 : WP d 124 50 lv st h Q ↔ WP d 124 51 lv (.int 1 :: st) h Q := WP_st rfl
theorem S124_51 : WP d 124 51 lv (.int y :: .int x :: st) h Q ↔ WP d 124 52 lv (.int (x + y) :: st) h Q := WP_st rfl
theorem S124_52 (hi : okA 1 a i) : WP d 124 52 lv (.int x :: .int i :: .ref a :: st) h Q ↔ WP d 124 53 lv st (setI h a i.toNatClampNeg x) Q := WP_iast rfl hi
theorem S124_53 : WP d 124 53 lv [] h Q ↔ Q (some none) h := WP_end rfl rfl rfl
theorem S125_0 : WP d 125 0 (some (.ref a) :: lv) st h Q ↔ WP d 125 1 (some (.ref a) :: lv) (.ref a :: st) h Q := WP_st rfl
theorem S125_1 (hs : shp a = some (0, 8)) : WP d 125 1 lv (.ref a :: st) h Q ↔ WP d 125 4 lv (.int (h.1 a 6) :: st) h Q := WP_getI (r := 518) rfl hs (by decide)
theorem S125_4 : WP d 125 4 lv st h Q ↔ WP d 125 5 lv (.int 4 :: st) h Q := WP_st rfl
theorem S125_5 : WP d 125 5 lv (.int y :: .int x :: st) h Q ↔ if x = y then WP d 125 14 lv st h Q else WP d 125 8 lv st h Q := WP_br rfl
theorem S125_8 : WP d 125 8 (some (.ref a) :: lv) st h Q ↔ WP d 125 9 (some (.ref a) :: lv) (.ref a :: st) h Q := WP_st rfl
theorem S125_9 : WP d 125 9 lv st h Q ↔ WP d 125 10 lv (.int 1 :: st) h Q := WP_st rfl
theorem S125_10 {pr0 : Nat} {pi0 : Int32} (hs : shp pr0 = some (0, 8)) : WP (d + 1) 125 10 lv [.int pi0, .ref pr0] h Q ↔ WP d 118 0 [some (.ref pr0), some (.int pi0)] [] h (kR (d + 1) 125 13 lv [] Q) := WP_callVR rfl rfl rfl rfl rfl hs
theorem S125_13 (hx : isB x) : WP d 125 13 lv [.int x] h Q ↔ Q (some (some (.int x))) h := WP_endZ rfl rfl hx
theorem S125_14 : WP d 125 14 (some (.ref a) :: lv) st h Q ↔ WP d 125 15 (some (.ref a) :: lv) (.ref a :: st) h Q := WP_st rfl
theorem S125_15 {pr0 : Nat} (hs : shp pr0 = some (0, 8)) : WP (d + 1) 125 15 lv [.ref pr0] h Q ↔ WP d 110 0 [some (.ref pr0), none, none, none, none] [] h (kV (d + 1) 125 18 lv [] Q) := WP_callVV rfl rfl rfl rfl rfl hs
theorem S125_18 : WP d 125 18 lv st h Q ↔ WP d 125 19 lv (.int 1 :: st) h Q := WP_st rfl
theorem S125_19 (hx : isB x) : WP d 125 19 lv [.int x] h Q ↔ Q (some (some (.int x))) h := WP_endZ rfl rfl hx
theorem S126_0 : WP d 126 0 (some (.ref a) :: lv) st h Q ↔ WP d 126 1 (some (.ref a) :: lv) (.ref a :: st) h Q := WP_st rfl
theorem S126_1 : WP d 126 1 lv st h Q ↔ WP d 126 2 lv (.int 0 :: st) h Q := WP_st rfl
theorem S126_2 (hs : shp a = some (0, 8)) : WP d 126 2 lv (.int x :: .ref a :: st) h Q ↔ WP d 126 5 lv st (setI h a 0 x) Q := WP_putI (r := 512) rfl hs (by decide)
theorem S126_5 : WP d 126 5 (some (.ref a) :: lv) st h Q ↔ WP d 126 6 (some (.ref a) :: lv) (.ref a :: st) h Q := WP_st rfl
theorem S126_6 : WP d 126 6 (some (.ref a) :: lv) st h Q ↔ WP d 126 7 (some (.ref a) :: lv) (.ref a :: st) h Q := WP_st rfl
theorem S126_7 (hs : shp a = some (0, 8)) : WP d 126 7 lv (.ref a :: st) h Q ↔ WP d 126 10 lv (.int (h.1 a 2) :: st) h Q := WP_getI (r := 514) rfl hs (by decide)
theorem S126_10 (hs : shp a = some (0, 8)) : WP d 126 10 lv (.int x :: .ref a :: st) h Q ↔ WP d 126 13 lv st (setI h a 3 x) Q := WP_putI (r := 515) rfl hs (by decide)
theorem S126_13 : WP d 126 13 (some (.ref a) :: lv) st h Q ↔ WP d 126 14 (some (.ref a) :: lv) (.ref a :: st) h Q := WP_st rfl
theorem S126_14 : WP d 126 14 lv st h Q ↔ WP d 126 15 lv (.int 0 :: st) h Q := WP_st rfl
theorem S126_15 (hs : shp a = some (0, 8)) : WP d 126 15 lv (.int x :: .ref a :: st) h Q ↔ WP d 126 18 lv st (setI h a 2 x) Q := WP_putI (r := 514) rfl hs (by decide)
theorem S126_18 : WP d 126 18 (some (.ref a) :: lv) st h Q ↔ WP d 126 19 (some (.ref a) :: lv) (.ref a :: st) h Q := WP_st rfl
theorem S126_19 : WP d 126 19 lv st h Q ↔ WP d 126 20 lv (.int 0 :: st) h Q := WP_st rfl
theorem S126_20 (hs : shp a = some (0, 8)) : WP d 126 20 lv (.int x :: .ref a :: st) h Q ↔ WP d 126 23 lv st (setI h a 8 x) Q := WP_putI (r := 520) rfl hs (by decide)
theorem S126_23 : WP d 126 23 (some (.ref a) :: lv) st h Q ↔ WP d 126 24 (some (.ref a) :: lv) (.ref a :: st) h Q := WP_st rfl
theorem S126_24 : WP d 126 24 lv st h Q ↔ WP d 126 25 lv (.int (-1) :: st) h Q := WP_st rfl
theorem S126_25 (hs : shp a = some (0, 8)) : WP d 126 25 lv (.int x :: .ref a :: st) h Q ↔ WP d 126 28 lv st (setI h a 9 x) Q := WP_putI (r := 521) rfl hs (by decide)
theorem S126_28 : WP d 126 28 (some (.ref a) :: lv) st h Q ↔ WP d 126 29 (some (.ref a) :: lv) (.ref a :: st) h Q := WP_st rfl
theorem S126_29 : WP d 126 29 lv st h Q ↔ WP d 126 30 lv (.int 0 :: st) h Q := WP_st rfl
theorem S126_30 (hs : shp a = some (0, 8)) : WP d 126 30 lv (.int x :: .ref a :: st) h Q ↔ WP d 126 33 lv st (setI h a 4 x) Q := WP_putI (r := 516) rfl hs (by decide)
theorem S126_33 : WP d 126 33 (some (.ref a) :: lv) st h Q ↔ WP d 126 34 (some (.ref a) :: lv) (.ref a :: st) h Q := WP_st rfl
theorem S126_34 : WP d 126 34 lv st h Q ↔ WP d 126 35 lv (.int 0 :: st) h Q := WP_st rfl
theorem S126_35 (hs : shp a = some (0, 8)) : WP d 126 35 lv (.int x :: .ref a :: st) h Q ↔ WP d 126 38 lv st (setI h a 11 x) Q := WP_putI (r := 523) rfl hs (by decide)
theorem S126_38 : WP d 126 38 lv st h Q ↔ WP d 126 39 lv (.int 0 :: st) h Q := WP_st rfl
theorem S126_39 : WP d 126 39 (a0 :: a1 :: lv) (.int x :: st) h Q ↔ WP d 126 40 (kl a0 :: some (.int x) :: lv) st h Q := WP_st (by rfl)
theorem S126_40 : WP d 126 40 (a0 :: some (.int x) :: lv) st h Q ↔ WP d 126 41 (a0 :: some (.int x) :: lv) (.int x :: st) h Q := WP_st rfl
theorem S126_41 : WP d 126 41 lv st h Q ↔ WP d 126 43 lv (.int 69 :: st) h Q := WP_st rfl
theorem S126_43 : WP d 126 43 lv (.int y :: .int x :: st) h Q ↔ if y ≤ x then WP d 126 59 lv st h Q else WP d 126 46 lv st h Q := WP_br rfl
theorem S126_46 : WP d 126 46 (some (.ref a) :: lv) st h Q ↔ WP d 126 47 (some (.ref a) :: lv) (.ref a :: st) h Q := WP_st rfl
theorem S126_47 (hs : shp a = some (0, 8)) : WP d 126 47 lv (.ref a :: st) h Q ↔ WP d 126 50 lv (.ref (RV a 14) :: st) h Q := WP_getR (r := 526) rfl hs (by decide)
theorem S126_50 : WP d 126 50 (a0 :: some (.int x) :: lv) st h Q ↔ WP d 126 51 (a0 :: some (.int x) :: lv) (.int x :: st) h Q := WP_st rfl
theorem S126_51 : WP d 126 51 lv st h Q ↔ WP d 126 52 lv (.int 0 :: st) h Q := WP_st rfl
theorem S126_52 (hi : okA 1 a i) : WP d 126 52 lv (.int x :: .int i :: .ref a :: st) h Q ↔ WP d 126 53 lv st (setI h a i.toNatClampNeg x) Q := WP_iast rfl hi
theorem S126_53 : WP d 126 53 (a0 :: some (.int x) :: lv) st h Q ↔ WP d 126 56 (kl a0 :: some (.int (x + 1)) :: lv) st h Q := WP_st (by rfl)
theorem S126_56 : WP d 126 56 lv st h Q ↔ WP d 126 40 lv st h Q := WP_st rfl
theorem S126_59 : WP d 126 59 (some (.ref a) :: lv) st h Q ↔ WP d 126 60 (some (.ref a) :: lv) (.ref a :: st) h Q := WP_st rfl
theorem S126_60 {pr0 : Nat} (hs : shp pr0 = some (0, 8)) : WP (d + 1) 126 60 lv [.ref pr0] h Q ↔ WP d 110 0 [some (.ref pr0), none, none, none, none] [] h (kV (d + 1) 126 63 lv [] Q) := WP_callVV rfl rfl rfl rfl rfl hs
theorem S126_63 : WP d 126 63 (some (.ref a) :: lv) st h Q ↔ WP d 126 64 (some (.ref a) :: lv) (.ref a :: st) h Q := WP_st rfl
theorem S126_64 (hs : shp a = some (0, 8)) : WP d 126 64 lv (.ref a :: st) h Q ↔ WP d 126 67 lv (.int (h.1 a 6) :: st) h Q := WP_getI (r := 518) rfl hs (by decide)
theorem S126_67 : WP d 126 67 lv (.int x :: st) h Q ↔ if x = 0 then WP d 126 135 lv st h Q else WP d 126 70 lv st h Q := WP_br rfl
theorem S126_70 : WP d 126 70 (some (.ref a) :: lv) st h Q ↔ WP d 126 71 (some (.ref a) :: lv) (.ref a :: st) h Q := WP_st rfl
theorem S126_71 {pr0 : Nat} (hs : shp pr0 = some (0, 8)) : WP (d + 1) 126 71 lv [.ref pr0] h Q ↔ WP d 113 0 [some (.ref pr0)] [] h (kR (d + 1) 126 74 lv [] Q) := WP_callVR rfl rfl rfl rfl rfl hs
theorem S126_74 : WP d 126 74 lv (.int x :: st) h Q ↔ if x = 0 then WP d 126 84 lv st h Q else WP d 126 77 lv st h Q := WP_br rfl
theorem S126_77 : WP d 126 77 (some (.ref a) :: lv) st h Q ↔ WP d 126 78 (some (.ref a) :: lv) (.ref a :: st) h Q := WP_st rfl
theorem S126_78 {pr0 : Nat} (hs : shp pr0 = some (0, 8)) : WP (d + 1) 126 78 lv [.ref pr0] h Q ↔ WP d 122 0 [some (.ref pr0), none] [] h (kR (d + 1) 126 81 lv [] Q) := WP_callVR rfl rfl rfl rfl rfl hs
theorem S126_81 : WP d 126 81 lv st h Q ↔ WP d 126 103 lv st h Q := WP_st rfl
theorem S126_84 : WP d 126 84 (some (.ref a) :: lv) st h Q ↔ WP d 126 85 (some (.ref a) :: lv) (.ref a :: st) h Q := WP_st rfl
theorem S126_85 {pr0 : Nat} (hs : shp pr0 = some (0, 8)) : WP (d + 1) 126 85 lv [.ref pr0] h Q ↔ WP d 114 0 [some (.ref pr0)] [] h (kR (d + 1) 126 88 lv [] Q) := WP_callVR rfl rfl rfl rfl rfl hs
theorem S126_88 : WP d 126 88 lv (.int x :: st) h Q ↔ if x = 0 then WP d 126 98 lv st h Q else WP d 126 91 lv st h Q := WP_br rfl
theorem S126_91 : WP d 126 91 (some (.ref a) :: lv) st h Q ↔ WP d 126 92 (some (.ref a) :: lv) (.ref a :: st) h Q := WP_st rfl
theorem S126_92 {pr0 : Nat} (hs : shp pr0 = some (0, 8)) : WP (d + 1) 126 92 lv [.ref pr0] h Q ↔ WP d 123 0 [some (.ref pr0), none, none, none] [] h (kR (d + 1) 126 95 lv [] Q) := WP_callVR rfl rfl rfl rfl rfl hs
theorem S126_95 : WP d 126 95 lv st h Q ↔ WP d 126 103 lv st h Q := WP_st rfl
theorem S126_98 : WP d 126 98 (some (.ref a) :: lv) st h Q ↔ WP d 126 99 (some (.ref a) :: lv) (.ref a :: st) h Q := WP_st rfl
theorem S126_99 : WP d 126 99 lv st h Q ↔ WP d 126 100 lv (.int 1 :: st) h Q := WP_st rfl
theorem S126_100 {pr0 : Nat} {pi0 : Int32} (hs : shp pr0 = some (0, 8)) : WP (d + 1) 126 100 lv [.int pi0, .ref pr0] h Q ↔ WP d 118 0 [some (.ref pr0), some (.int pi0)] [] h (kR (d + 1) 126 103 lv [] Q) := WP_callVR rfl rfl rfl rfl rfl hs
theorem S126_103 : WP d 126 103 (a0 :: a1 :: lv) (.int x :: st) h Q ↔ WP d 126 104 (kl a0 :: some (.int x) :: lv) st h Q := WP_st (by rfl)
theorem S126_104 : WP d 126 104 (a0 :: some (.int x) :: lv) st h Q ↔ WP d 126 105 (a0 :: some (.int x) :: lv) (.int x :: st) h Q := WP_st rfl
theorem S126_105 : WP d 126 105 lv (.int x :: st) h Q ↔ if x = 0 then WP d 126 115 lv st h Q else WP d 126 108 lv st h Q := WP_br rfl
theorem S126_108 : WP d 126 108 (some (.ref a) :: lv) st h Q ↔ WP d 126 109 (some (.ref a) :: lv) (.ref a :: st) h Q := WP_st rfl
theorem S126_109 {pr0 : Nat} (hs : shp pr0 = some (0, 8)) : WP (d + 1) 126 109 lv [.ref pr0] h Q ↔ WP d 125 0 [some (.ref pr0)] [] h (kR (d + 1) 126 112 lv [] Q) := WP_callVR rfl rfl rfl rfl rfl hs
theorem S126_112 : WP d 126 112 lv (.int x :: st) h Q ↔ if x = 0 then WP d 126 115 lv st h Q else WP d 126 122 lv st h Q := WP_br rfl
theorem S126_115 : WP d 126 115 lv st h Q ↔ WP d 126 116 lv (.int (-1) :: st) h Q := WP_st rfl
theorem S126_116 : WP d 126 116 (some (.ref a) :: lv) st h Q ↔ WP d 126 117 (some (.ref a) :: lv) (.ref a :: st) h Q := WP_st rfl
theorem S126_117 (hs : shp a = some (0, 8)) : WP d 126 117 lv (.ref a :: st) h Q ↔ WP d 126 120 lv (.int (h.1 a 10) :: st) h Q := WP_getI (r := 522) rfl hs (by decide)
theorem S126_120 : WP d 126 120 lv (.int y :: .int x :: st) h Q ↔ WP d 126 121 lv (.int (x - y) :: st) h Q := WP_st rfl
theorem S126_121 : WP d 126 121 lv [.int x] h Q ↔ Q (some (some (.int x))) h := WP_end rfl rfl rfl
theorem S126_122 : WP d 126 122 (some (.ref a) :: lv) st h Q ↔ WP d 126 123 (some (.ref a) :: lv) (.ref a :: st) h Q := WP_st rfl
theorem S126_123 : WP d 126 123 lv (.ref a :: st) h Q ↔ WP d 126 124 lv (.ref a :: .ref a :: st) h Q := WP_st rfl
theorem S126_124 (hs : shp a = some (0, 8)) : WP d 126 124 lv (.ref a :: st) h Q ↔ WP d 126 127 lv (.int (h.1 a 11) :: st) h Q := WP_getI (r := 523) rfl hs (by decide)
theorem S126_127 : WP d 126 127 lv st h Q ↔ WP d 126 128 lv (.int 1 :: st) h Q := WP_st rfl
theorem S126_128 : WP d 126 128 lv (.int y :: .int x :: st) h Q ↔ WP d 126 129 lv (.int (x + y) :: st) h Q := WP_st rfl
theorem S126_129 (hs : shp a = some (0, 8)) : WP d 126 129 lv (.int x :: .ref a :: st) h Q ↔ WP d 126 132 lv st (setI h a 11 x) Q := WP_putI (r := 523) rfl hs (by decide)
theorem S126_132 : WP d 126 132 lv st h Q ↔ WP d 126 63 lv st h Q := WP_st rfl
theorem S126_135 : WP d 126 135 (some (.ref a) :: lv) st h Q ↔ WP d 126 136 (some (.ref a) :: lv) (.ref a :: st) h Q := WP_st rfl
theorem S126_136 (hs : shp a = some (0, 8)) : WP d 126 136 lv (.ref a :: st) h Q ↔ WP d 126 139 lv (.ref (RV a 14) :: st) h Q := WP_getR (r := 526) rfl hs (by decide)
theorem S126_139 : WP d 126 139 lv st h Q ↔ WP d 126 140 lv (.int 0 :: st) h Q := WP_st rfl
theorem S126_140 : WP d 126 140 (some (.ref a) :: lv) st h Q ↔ WP d 126 141 (some (.ref a) :: lv) (.ref a :: st) h Q := WP_st rfl
theorem S126_141 (hs : shp a = some (0, 8)) : WP d 126 141 lv (.ref a :: st) h Q ↔ WP d 126 144 lv (.ref (RV a 13) :: st) h Q := WP_getR (r := 525) rfl hs (by decide)
theorem S126_144 : WP d 126 144 lv st h Q ↔ WP d 126 145 lv (.int 0 :: st) h Q := WP_st rfl
theorem S126_145 {pr0 : Nat} {pi0 : Int32} {pr1 : Nat} {pi1 : Int32} : WP (d + 1) 126 145 lv [.int pi1, .ref pr1, .int pi0, .ref pr0] h Q ↔ WP d 119 0 [some (.ref pr0), some (.int pi0), some (.ref pr1), some (.int pi1), none] [] h (kV (d + 1) 126 148 lv [] Q) := WP_callSV rfl rfl rfl rfl rfl
theorem S126_148 : WP d 126 148 (some (.ref a) :: lv) st h Q ↔ WP d 126 149 (some (.ref a) :: lv) (.ref a :: st) h Q := WP_st rfl
theorem S126_149 : WP d 126 149 lv st h Q ↔ WP d 126 150 lv (.int 0 :: st) h Q := WP_st rfl
set_option maxRecDepth 20000 in
theorem S126_150 (hs : shp a = some (0, 8)) : WP d 126 150 lv (.int x :: .ref a :: st) h Q ↔ WP d 126 153 lv st (setI h a 21 x) Q := WP_putI (r := 533) rfl hs (by decide)
set_option maxRecDepth 20000 in
theorem S126_153 : WP d 126 153 (some (.ref a) :: lv) st h Q ↔ WP d 126 154 (some (.ref a) :: lv) (.ref a :: st) h Q := WP_st rfl
set_option maxRecDepth 20000 in
theorem S126_154 (hs : shp a = some (0, 8)) : WP d 126 154 lv (.ref a :: st) h Q ↔ WP d 126 157 lv (.int (h.1 a 11) :: st) h Q := WP_getI (r := 523) rfl hs (by decide)
set_option maxRecDepth 20000 in
theorem S126_157 : WP d 126 157 lv [.int x] h Q ↔ Q (some (some (.int x))) h := WP_end rfl rfl rfl
theorem S127_0 : WP d 127 0 (some (.ref a) :: lv) st h Q ↔ WP d 127 1 (some (.ref a) :: lv) (.ref a :: st) h Q := WP_st rfl
theorem S127_1 : WP d 127 1 lv st h Q ↔ WP d 127 2 lv (.int 0 :: st) h Q := WP_st rfl
theorem S127_2 (hs : shp a = some (0, 8)) : WP d 127 2 lv (.int x :: .ref a :: st) h Q ↔ WP d 127 5 lv st (setI h a 0 x) Q := WP_putI (r := 512) rfl hs (by decide)
theorem S127_5 : WP d 127 5 (a0 :: some (.int x) :: lv) st h Q ↔ WP d 127 6 (a0 :: some (.int x) :: lv) (.int x :: st) h Q := WP_st rfl
theorem S127_6 : WP d 127 6 lv (.int x :: st) h Q ↔ if x = 0 then WP d 127 9 lv st h Q else WP d 127 16 lv st h Q := WP_br rfl
theorem S127_9 : WP d 127 9 (some (.ref a) :: lv) st h Q ↔ WP d 127 10 (some (.ref a) :: lv) (.ref a :: st) h Q := WP_st rfl
theorem S127_10 (hs : shp a = some (0, 8)) : WP d 127 10 lv (.ref a :: st) h Q ↔ WP d 127 13 lv (.int (h.1 a 8) :: st) h Q := WP_getI (r := 520) rfl hs (by decide)
theorem S127_13 : WP d 127 13 lv st h Q ↔ WP d 127 29 lv st h Q := WP_st rfl
theorem S127_16 : WP d 127 16 (a0 :: some (.int x) :: lv) st h Q ↔ WP d 127 17 (a0 :: some (.int x) :: lv) (.int x :: st) h Q := WP_st rfl
theorem S127_17 : WP d 127 17 lv st h Q ↔ WP d 127 18 lv (.int 1 :: st) h Q := WP_st rfl
theorem S127_18 : WP d 127 18 lv (.int y :: .int x :: st) h Q ↔ if x = y then WP d 127 21 lv st h Q else WP d 127 28 lv st h Q := WP_br rfl
theorem S127_21 : WP d 127 21 (some (.ref a) :: lv) st h Q ↔ WP d 127 22 (some (.ref a) :: lv) (.ref a :: st) h Q := WP_st rfl
theorem S127_22 (hs : shp a = some (0, 8)) : WP d 127 22 lv (.ref a :: st) h Q ↔ WP d 127 25 lv (.int (h.1 a 9) :: st) h Q := WP_getI (r := 521) rfl hs (by decide)
theorem S127_25 : WP d 127 25 lv st h Q ↔ WP d 127 29 lv st h Q := WP_st rfl
theorem S127_28 : WP d 127 28 lv st h Q ↔ WP d 127 29 lv (.int (-1) :: st) h Q := WP_st rfl
theorem S127_29 : WP d 127 29 lv [.int x] h Q ↔ Q (some (some (.int x))) h := WP_end rfl rfl rfl
theorem S128_0 : WP d 128 0 (some (.ref a) :: lv) st h Q ↔ WP d 128 1 (some (.ref a) :: lv) (.ref a :: st) h Q := WP_st rfl
theorem S128_1 (hs : shp a = some (0, 8)) : WP d 128 1 lv (.ref a :: st) h Q ↔ WP d 128 4 lv (.ref (RV a 13) :: st) h Q := WP_getR (r := 525) rfl hs (by decide)
theorem S128_4 : WP d 128 4 lv st h Q ↔ WP d 128 5 lv (.int 0 :: st) h Q := WP_st rfl
theorem S128_5 (hi : okA 1 a i) : WP d 128 5 lv (.int i :: .ref a :: st) h Q ↔ WP d 128 6 lv (.int (h.1 a i.toNatClampNeg) :: st) h Q := WP_iald rfl hi
theorem S128_6 : WP d 128 6 lv [.int x] h Q ↔ Q (some (some (.int x))) h := WP_end rfl rfl rfl
theorem S129_0 : WP d 129 0 (some (.ref a) :: lv) st h Q ↔ WP d 129 1 (some (.ref a) :: lv) (.ref a :: st) h Q := WP_st rfl
theorem S129_1 (hs : shp a = some (0, 8)) : WP d 129 1 lv (.ref a :: st) h Q ↔ WP d 129 4 lv (.ref (RV a 13) :: st) h Q := WP_getR (r := 525) rfl hs (by decide)
theorem S129_4 : WP d 129 4 lv st h Q ↔ WP d 129 5 lv (.int 1 :: st) h Q := WP_st rfl
theorem S129_5 (hi : okA 1 a i) : WP d 129 5 lv (.int i :: .ref a :: st) h Q ↔ WP d 129 6 lv (.int (h.1 a i.toNatClampNeg) :: st) h Q := WP_iald rfl hi
theorem S129_6 : WP d 129 6 lv [.int x] h Q ↔ Q (some (some (.int x))) h := WP_end rfl rfl rfl
theorem S130_0 : WP d 130 0 (a0 :: some (.int x) :: lv) st h Q ↔ WP d 130 1 (a0 :: some (.int x) :: lv) (.int x :: st) h Q := WP_st rfl
theorem S130_1 : WP d 130 1 lv st h Q ↔ WP d 130 2 lv (.int 0 :: st) h Q := WP_st rfl
theorem S130_2 : WP d 130 2 (some (.ref a) :: lv) st h Q ↔ WP d 130 3 (some (.ref a) :: lv) (.ref a :: st) h Q := WP_st rfl
theorem S130_3 {pr0 : Nat} {qi0 : Int32} {qi1 : Int32} (hs : shp pr0 = some (0, 8)) : WP (d + 1) 130 3 lv [.ref pr0, .int qi1, .int qi0] h Q ↔ WP d 128 0 [some (.ref pr0)] [] h (kR (d + 1) 130 6 lv [.int qi1, .int qi0] Q) := WP_callVR rfl rfl rfl rfl rfl hs
theorem S130_6 : WP d 130 6 lv st h Q ↔ WP d 130 7 lv (.int 1 :: st) h Q := WP_st rfl
theorem S130_7 : WP d 130 7 lv (.int y :: .int x :: st) h Q ↔ WP d 130 8 lv (.int (x - y) :: st) h Q := WP_st rfl
theorem S130_8 {pi0 : Int32} {pi1 : Int32} {pi2 : Int32} : WP (d + 1) 130 8 lv [.int pi2, .int pi1, .int pi0] h Q ↔ WP d 101 0 [some (.int pi0), some (.int pi1), some (.int pi2)] [] h (kR (d + 1) 130 11 lv [] Q) := WP_callSR rfl rfl rfl rfl rfl
theorem S130_11 (hx : isB x) : WP d 130 11 lv [.int x] h Q ↔ Q (some (some (.int x))) h := WP_endZ rfl rfl hx
theorem S131_0 : WP d 131 0 (a0 :: some (.int x) :: lv) st h Q ↔ WP d 131 1 (a0 :: some (.int x) :: lv) (.int x :: st) h Q := WP_st rfl
theorem S131_1 : WP d 131 1 lv st h Q ↔ WP d 131 2 lv (.int 0 :: st) h Q := WP_st rfl
theorem S131_2 : WP d 131 2 (some (.ref a) :: lv) st h Q ↔ WP d 131 3 (some (.ref a) :: lv) (.ref a :: st) h Q := WP_st rfl
theorem S131_3 {pr0 : Nat} {qi0 : Int32} {qi1 : Int32} (hs : shp pr0 = some (0, 8)) : WP (d + 1) 131 3 lv [.ref pr0, .int qi1, .int qi0] h Q ↔ WP d 129 0 [some (.ref pr0)] [] h (kR (d + 1) 131 6 lv [.int qi1, .int qi0] Q) := WP_callVR rfl rfl rfl rfl rfl hs
theorem S131_6 : WP d 131 6 lv st h Q ↔ WP d 131 7 lv (.int 1 :: st) h Q := WP_st rfl
theorem S131_7 : WP d 131 7 lv (.int y :: .int x :: st) h Q ↔ WP d 131 8 lv (.int (x - y) :: st) h Q := WP_st rfl
theorem S131_8 {pi0 : Int32} {pi1 : Int32} {pi2 : Int32} : WP (d + 1) 131 8 lv [.int pi2, .int pi1, .int pi0] h Q ↔ WP d 101 0 [some (.int pi0), some (.int pi1), some (.int pi2)] [] h (kR (d + 1) 131 11 lv [] Q) := WP_callSR rfl rfl rfl rfl rfl
theorem S131_11 (hx : isB x) : WP d 131 11 lv [.int x] h Q ↔ Q (some (some (.int x))) h := WP_endZ rfl rfl hx
theorem S132_0 : WP d 132 0 (some (.ref a) :: lv) st h Q ↔ WP d 132 1 (some (.ref a) :: lv) (.ref a :: st) h Q := WP_st rfl
theorem S132_1 (hs : shp a = some (0, 8)) : WP d 132 1 lv (.ref a :: st) h Q ↔ WP d 132 4 lv (.ref (RV a 13) :: st) h Q := WP_getR (r := 525) rfl hs (by decide)
theorem S132_4 : WP d 132 4 lv st h Q ↔ WP d 132 5 lv (.int 2 :: st) h Q := WP_st rfl
theorem S132_5 : WP d 132 5 (a0 :: some (.int x) :: lv) st h Q ↔ WP d 132 6 (a0 :: some (.int x) :: lv) (.int x :: st) h Q := WP_st rfl
theorem S132_6 : WP d 132 6 lv (.int y :: .int x :: st) h Q ↔ WP d 132 7 lv (.int (x + y) :: st) h Q := WP_st rfl
theorem S132_7 (hi : okA 1 a i) : WP d 132 7 lv (.int i :: .ref a :: st) h Q ↔ WP d 132 8 lv (.int (h.1 a i.toNatClampNeg) :: st) h Q := WP_iald rfl hi
theorem S132_8 : WP d 132 8 lv st h Q ↔ WP d 132 9 lv (.int 1 :: st) h Q := WP_st rfl
theorem S132_9 : WP d 132 9 lv (.int y :: .int x :: st) h Q ↔ if x = y then WP d 132 12 lv st h Q else WP d 132 16 lv st h Q := WP_br rfl
theorem S132_12 : WP d 132 12 lv st h Q ↔ WP d 132 13 lv (.int 1 :: st) h Q := WP_st rfl
theorem S132_13 : WP d 132 13 lv st h Q ↔ WP d 132 17 lv st h Q := WP_st rfl
theorem S132_16 : WP d 132 16 lv st h Q ↔ WP d 132 17 lv (.int 0 :: st) h Q := WP_st rfl
theorem S132_17 (hx : isB x) : WP d 132 17 lv [.int x] h Q ↔ Q (some (some (.int x))) h := WP_endZ rfl rfl hx
theorem S133_0 : WP d 133 0 (some (.ref a) :: lv) st h Q ↔ WP d 133 1 (some (.ref a) :: lv) (.ref a :: st) h Q := WP_st rfl
theorem S133_1 (hs : shp a = some (0, 8)) : WP d 133 1 lv (.ref a :: st) h Q ↔ WP d 133 4 lv (.ref (RV a 13) :: st) h Q := WP_getR (r := 525) rfl hs (by decide)
theorem S133_4 : WP d 133 4 lv st h Q ↔ WP d 133 6 lv (.int 58 :: st) h Q := WP_st rfl
theorem S133_6 : WP d 133 6 (a0 :: some (.int x) :: lv) st h Q ↔ WP d 133 7 (a0 :: some (.int x) :: lv) (.int x :: st) h Q := WP_st rfl
theorem S133_7 : WP d 133 7 lv (.int y :: .int x :: st) h Q ↔ WP d 133 8 lv (.int (x + y) :: st) h Q := WP_st rfl
theorem S133_8 (hi : okA 1 a i) : WP d 133 8 lv (.int i :: .ref a :: st) h Q ↔ WP d 133 9 lv (.int (h.1 a i.toNatClampNeg) :: st) h Q := WP_iald rfl hi
theorem S133_9 : WP d 133 9 lv st h Q ↔ WP d 133 10 lv (.int 1 :: st) h Q := WP_st rfl
theorem S133_10 : WP d 133 10 lv (.int y :: .int x :: st) h Q ↔ if x = y then WP d 133 13 lv st h Q else WP d 133 17 lv st h Q := WP_br rfl
theorem S133_13 : WP d 133 13 lv st h Q ↔ WP d 133 14 lv (.int 1 :: st) h Q := WP_st rfl
theorem S133_14 : WP d 133 14 lv st h Q ↔ WP d 133 18 lv st h Q := WP_st rfl
theorem S133_17 : WP d 133 17 lv st h Q ↔ WP d 133 18 lv (.int 0 :: st) h Q := WP_st rfl
theorem S133_18 (hx : isB x) : WP d 133 18 lv [.int x] h Q ↔ Q (some (some (.int x))) h := WP_endZ rfl rfl hx
theorem S134_0 : WP d 134 0 (some (.ref a) :: lv) st h Q ↔ WP d 134 1 (some (.ref a) :: lv) (.ref a :: st) h Q := WP_st rfl
theorem S134_1 (hs : shp a = some (0, 8)) : WP d 134 1 lv (.ref a :: st) h Q ↔ WP d 134 4 lv (.ref (RV a 13) :: st) h Q := WP_getR (r := 525) rfl hs (by decide)
theorem S134_4 : WP d 134 4 lv st h Q ↔ WP d 134 6 lv (.int 14 :: st) h Q := WP_st rfl
theorem S134_6 : WP d 134 6 (a0 :: some (.int x) :: lv) st h Q ↔ WP d 134 7 (a0 :: some (.int x) :: lv) (.int x :: st) h Q := WP_st rfl
theorem S134_7 : WP d 134 7 lv (.int y :: .int x :: st) h Q ↔ WP d 134 8 lv (.int (x + y) :: st) h Q := WP_st rfl
theorem S134_8 (hi : okA 1 a i) : WP d 134 8 lv (.int i :: .ref a :: st) h Q ↔ WP d 134 9 lv (.int (h.1 a i.toNatClampNeg) :: st) h Q := WP_iald rfl hi
theorem S134_9 : WP d 134 9 lv [.int x] h Q ↔ Q (some (some (.int x))) h := WP_end rfl rfl rfl
theorem S135_0 : WP d 135 0 (some (.ref a) :: lv) st h Q ↔ WP d 135 1 (some (.ref a) :: lv) (.ref a :: st) h Q := WP_st rfl
theorem S135_1 (hs : shp a = some (0, 8)) : WP d 135 1 lv (.ref a :: st) h Q ↔ WP d 135 4 lv (.ref (RV a 13) :: st) h Q := WP_getR (r := 525) rfl hs (by decide)
theorem S135_4 : WP d 135 4 lv st h Q ↔ WP d 135 6 lv (.int 25 :: st) h Q := WP_st rfl
theorem S135_6 : WP d 135 6 (a0 :: some (.int x) :: lv) st h Q ↔ WP d 135 7 (a0 :: some (.int x) :: lv) (.int x :: st) h Q := WP_st rfl
theorem S135_7 : WP d 135 7 lv (.int y :: .int x :: st) h Q ↔ WP d 135 8 lv (.int (x + y) :: st) h Q := WP_st rfl
theorem S135_8 (hi : okA 1 a i) : WP d 135 8 lv (.int i :: .ref a :: st) h Q ↔ WP d 135 9 lv (.int (h.1 a i.toNatClampNeg) :: st) h Q := WP_iald rfl hi
theorem S135_9 : WP d 135 9 lv [.int x] h Q ↔ Q (some (some (.int x))) h := WP_end rfl rfl rfl
theorem S136_0 : WP d 136 0 lv st h Q ↔ WP d 136 1 lv (.int 0 :: st) h Q := WP_st rfl
theorem S136_1 : WP d 136 1 (a0 :: a1 :: lv) (.int x :: st) h Q ↔ WP d 136 2 (kl a0 :: some (.int x) :: lv) st h Q := WP_st (by rfl)
theorem S136_2 : WP d 136 2 lv st h Q ↔ WP d 136 3 lv (.int 0 :: st) h Q := WP_st rfl
theorem S136_3 : WP d 136 3 (a0 :: a1 :: a2v :: lv) (.int x :: st) h Q ↔ WP d 136 4 (a0 :: kl a1 :: some (.int x) :: lv) st h Q := WP_st (by rfl)
theorem S136_4 : WP d 136 4 (a0 :: a1 :: some (.int x) :: lv) st h Q ↔ WP d 136 5 (a0 :: a1 :: some (.int x) :: lv) (.int x :: st) h Q := WP_st rfl
theorem S136_5 : WP d 136 5 (some (.ref a) :: lv) st h Q ↔ WP d 136 6 (some (.ref a) :: lv) (.ref a :: st) h Q := WP_st rfl
theorem S136_6 {pr0 : Nat} {qi0 : Int32} (hs : shp pr0 = some (0, 8)) : WP (d + 1) 136 6 lv [.ref pr0, .int qi0] h Q ↔ WP d 129 0 [some (.ref pr0)] [] h (kR (d + 1) 136 9 lv [.int qi0] Q) := WP_callVR rfl rfl rfl rfl rfl hs
theorem S136_9 : WP d 136 9 lv (.int y :: .int x :: st) h Q ↔ if y ≤ x then WP d 136 32 lv st h Q else WP d 136 12 lv st h Q := WP_br rfl
theorem S136_12 : WP d 136 12 (some (.ref a) :: lv) st h Q ↔ WP d 136 13 (some (.ref a) :: lv) (.ref a :: st) h Q := WP_st rfl
theorem S136_13 : WP d 136 13 (a0 :: a1 :: some (.int x) :: lv) st h Q ↔ WP d 136 14 (a0 :: a1 :: some (.int x) :: lv) (.int x :: st) h Q := WP_st rfl
theorem S136_14 {pr0 : Nat} {pi0 : Int32} (hs : shp pr0 = some (0, 8)) : WP (d + 1) 136 14 lv [.int pi0, .ref pr0] h Q ↔ WP d 133 0 [some (.ref pr0), some (.int pi0)] [] h (kR (d + 1) 136 17 lv [] Q) := WP_callVR rfl rfl rfl rfl rfl hs
theorem S136_17 : WP d 136 17 lv (.int x :: st) h Q ↔ if x = 0 then WP d 136 26 lv st h Q else WP d 136 20 lv st h Q := WP_br rfl
theorem S136_20 : WP d 136 20 (a0 :: some (.int x) :: lv) st h Q ↔ WP d 136 21 (a0 :: some (.int x) :: lv) (.int x :: st) h Q := WP_st rfl
theorem S136_21 : WP d 136 21 lv st h Q ↔ WP d 136 22 lv (.int 1 :: st) h Q := WP_st rfl
theorem S136_22 : WP d 136 22 (a0 :: a1 :: some (.int x) :: lv) st h Q ↔ WP d 136 23 (a0 :: a1 :: some (.int x) :: lv) (.int x :: st) h Q := WP_st rfl
theorem S136_23 : WP d 136 23 lv (.int y :: .int x :: st) h Q ↔ WP d 136 24 lv (.int (x <<< (y &&& 31)) :: st) h Q := WP_st rfl
theorem S136_24 : WP d 136 24 lv (.int y :: .int x :: st) h Q ↔ WP d 136 25 lv (.int (x ||| y) :: st) h Q := WP_st rfl
theorem S136_25 : WP d 136 25 (a0 :: a1 :: lv) (.int x :: st) h Q ↔ WP d 136 26 (kl a0 :: some (.int x) :: lv) st h Q := WP_st (by rfl)
theorem S136_26 : WP d 136 26 (a0 :: a1 :: some (.int x) :: lv) st h Q ↔ WP d 136 29 (a0 :: kl a1 :: some (.int (x + 1)) :: lv) st h Q := WP_st (by rfl)
theorem S136_29 : WP d 136 29 lv st h Q ↔ WP d 136 4 lv st h Q := WP_st rfl
theorem S136_32 : WP d 136 32 (a0 :: some (.int x) :: lv) st h Q ↔ WP d 136 33 (a0 :: some (.int x) :: lv) (.int x :: st) h Q := WP_st rfl
theorem S136_33 : WP d 136 33 lv [.int x] h Q ↔ Q (some (some (.int x))) h := WP_end rfl rfl rfl
theorem S137_0 : WP d 137 0 lv st h Q ↔ WP d 137 1 lv (.int 0 :: st) h Q := WP_st rfl
theorem S137_1 : WP d 137 1 (a0 :: a1 :: lv) (.int x :: st) h Q ↔ WP d 137 2 (kl a0 :: some (.int x) :: lv) st h Q := WP_st (by rfl)
theorem S137_2 : WP d 137 2 lv st h Q ↔ WP d 137 3 lv (.int 0 :: st) h Q := WP_st rfl
theorem S137_3 : WP d 137 3 (a0 :: a1 :: a2v :: lv) (.int x :: st) h Q ↔ WP d 137 4 (a0 :: kl a1 :: some (.int x) :: lv) st h Q := WP_st (by rfl)
theorem S137_4 : WP d 137 4 (a0 :: a1 :: some (.int x) :: lv) st h Q ↔ WP d 137 5 (a0 :: a1 :: some (.int x) :: lv) (.int x :: st) h Q := WP_st rfl
theorem S137_5 : WP d 137 5 (some (.ref a) :: lv) st h Q ↔ WP d 137 6 (some (.ref a) :: lv) (.ref a :: st) h Q := WP_st rfl
theorem S137_6 {pr0 : Nat} {qi0 : Int32} (hs : shp pr0 = some (0, 8)) : WP (d + 1) 137 6 lv [.ref pr0, .int qi0] h Q ↔ WP d 128 0 [some (.ref pr0)] [] h (kR (d + 1) 137 9 lv [.int qi0] Q) := WP_callVR rfl rfl rfl rfl rfl hs
theorem S137_9 : WP d 137 9 lv (.int y :: .int x :: st) h Q ↔ if y ≤ x then WP d 137 32 lv st h Q else WP d 137 12 lv st h Q := WP_br rfl
theorem S137_12 : WP d 137 12 (some (.ref a) :: lv) st h Q ↔ WP d 137 13 (some (.ref a) :: lv) (.ref a :: st) h Q := WP_st rfl
theorem S137_13 : WP d 137 13 (a0 :: a1 :: some (.int x) :: lv) st h Q ↔ WP d 137 14 (a0 :: a1 :: some (.int x) :: lv) (.int x :: st) h Q := WP_st rfl
theorem S137_14 {pr0 : Nat} {pi0 : Int32} (hs : shp pr0 = some (0, 8)) : WP (d + 1) 137 14 lv [.int pi0, .ref pr0] h Q ↔ WP d 132 0 [some (.ref pr0), some (.int pi0)] [] h (kR (d + 1) 137 17 lv [] Q) := WP_callVR rfl rfl rfl rfl rfl hs
theorem S137_17 : WP d 137 17 lv (.int x :: st) h Q ↔ if x = 0 then WP d 137 26 lv st h Q else WP d 137 20 lv st h Q := WP_br rfl
theorem S137_20 : WP d 137 20 (a0 :: some (.int x) :: lv) st h Q ↔ WP d 137 21 (a0 :: some (.int x) :: lv) (.int x :: st) h Q := WP_st rfl
theorem S137_21 : WP d 137 21 lv st h Q ↔ WP d 137 22 lv (.int 1 :: st) h Q := WP_st rfl
theorem S137_22 : WP d 137 22 (a0 :: a1 :: some (.int x) :: lv) st h Q ↔ WP d 137 23 (a0 :: a1 :: some (.int x) :: lv) (.int x :: st) h Q := WP_st rfl
theorem S137_23 : WP d 137 23 lv (.int y :: .int x :: st) h Q ↔ WP d 137 24 lv (.int (x <<< (y &&& 31)) :: st) h Q := WP_st rfl
theorem S137_24 : WP d 137 24 lv (.int y :: .int x :: st) h Q ↔ WP d 137 25 lv (.int (x ||| y) :: st) h Q := WP_st rfl
theorem S137_25 : WP d 137 25 (a0 :: a1 :: lv) (.int x :: st) h Q ↔ WP d 137 26 (kl a0 :: some (.int x) :: lv) st h Q := WP_st (by rfl)
theorem S137_26 : WP d 137 26 (a0 :: a1 :: some (.int x) :: lv) st h Q ↔ WP d 137 29 (a0 :: kl a1 :: some (.int (x + 1)) :: lv) st h Q := WP_st (by rfl)
theorem S137_29 : WP d 137 29 lv st h Q ↔ WP d 137 4 lv st h Q := WP_st rfl
theorem S137_32 : WP d 137 32 (a0 :: some (.int x) :: lv) st h Q ↔ WP d 137 33 (a0 :: some (.int x) :: lv) (.int x :: st) h Q := WP_st rfl
theorem S137_33 : WP d 137 33 lv [.int x] h Q ↔ Q (some (some (.int x))) h := WP_end rfl rfl rfl
theorem S138_0 : WP d 138 0 lv st h Q ↔ WP d 138 1 lv (.int 1 :: st) h Q := WP_st rfl
theorem S138_1 : WP d 138 1 (a0 :: some (.int x) :: lv) st h Q ↔ WP d 138 2 (a0 :: some (.int x) :: lv) (.int x :: st) h Q := WP_st rfl
theorem S138_2 : WP d 138 2 lv (.int y :: .int x :: st) h Q ↔ WP d 138 3 lv (.int (x <<< (y &&& 31)) :: st) h Q := WP_st rfl
theorem S138_3 : WP d 138 3 (a0 :: a1 :: a2v :: a3 :: lv) (.int x :: st) h Q ↔ WP d 138 4 (a0 :: a1 :: kl a2v :: some (.int x) :: lv) st h Q := WP_st (by rfl)
theorem S138_4 : WP d 138 4 lv st h Q ↔ WP d 138 5 lv (.int 0 :: st) h Q := WP_st rfl
theorem S138_5 : WP d 138 5 (a0 :: a1 :: a2v :: a3 :: a4 :: lv) (.int x :: st) h Q ↔ WP d 138 7 (a0 :: a1 :: a2v :: kl a3 :: some (.int x) :: lv) st h Q := WP_st (by rfl)
theorem S138_7 : WP d 138 7 (a0 :: a1 :: a2v :: some (.int x) :: lv) st h Q ↔ WP d 138 8 (a0 :: a1 :: a2v :: some (.int x) :: lv) (.int x :: st) h Q := WP_st rfl
theorem S138_8 : WP d 138 8 (a0 :: a1 :: a2v :: a3 :: some (.int x) :: lv) st h Q ↔ WP d 138 10 (a0 :: a1 :: a2v :: a3 :: some (.int x) :: lv) (.int x :: st) h Q := WP_st rfl
theorem S138_10 : WP d 138 10 lv (.int y :: .int x :: st) h Q ↔ if x = y then WP d 138 93 lv st h Q else WP d 138 13 lv st h Q := WP_br rfl
theorem S138_13 : WP d 138 13 (a0 :: a1 :: a2v :: some (.int x) :: lv) st h Q ↔ WP d 138 14 (a0 :: a1 :: a2v :: some (.int x) :: lv) (.int x :: st) h Q := WP_st rfl
theorem S138_14 : WP d 138 14 (a0 :: a1 :: a2v :: a3 :: a4 :: lv) (.int x :: st) h Q ↔ WP d 138 16 (a0 :: a1 :: a2v :: kl a3 :: some (.int x) :: lv) st h Q := WP_st (by rfl)
theorem S138_16 : WP d 138 16 (a0 :: a1 :: a2v :: some (.int x) :: lv) st h Q ↔ WP d 138 17 (a0 :: a1 :: a2v :: some (.int x) :: lv) (.int x :: st) h Q := WP_st rfl
theorem S138_17 : WP d 138 17 (some (.ref a) :: lv) st h Q ↔ WP d 138 18 (some (.ref a) :: lv) (.ref a :: st) h Q := WP_st rfl
theorem S138_18 {pr0 : Nat} {qi0 : Int32} (hs : shp pr0 = some (0, 8)) : WP (d + 1) 138 18 lv [.ref pr0, .int qi0] h Q ↔ WP d 137 0 [some (.ref pr0), none, none] [] h (kR (d + 1) 138 21 lv [.int qi0] Q) := WP_callVR rfl rfl rfl rfl rfl hs
theorem S138_21 : WP d 138 21 lv (.int y :: .int x :: st) h Q ↔ WP d 138 22 lv (.int (x &&& y) :: st) h Q := WP_st rfl
theorem S138_22 : WP d 138 22 lv (.int x :: st) h Q ↔ if x = 0 then WP d 138 32 lv st h Q else WP d 138 25 lv st h Q := WP_br rfl
theorem S138_25 : WP d 138 25 (a0 :: a1 :: a2v :: some (.int x) :: lv) st h Q ↔ WP d 138 26 (a0 :: a1 :: a2v :: some (.int x) :: lv) (.int x :: st) h Q := WP_st rfl
theorem S138_26 : WP d 138 26 (some (.ref a) :: lv) st h Q ↔ WP d 138 27 (some (.ref a) :: lv) (.ref a :: st) h Q := WP_st rfl
theorem S138_27 {pr0 : Nat} {qi0 : Int32} (hs : shp pr0 = some (0, 8)) : WP (d + 1) 138 27 lv [.ref pr0, .int qi0] h Q ↔ WP d 137 0 [some (.ref pr0), none, none] [] h (kR (d + 1) 138 30 lv [.int qi0] Q) := WP_callVR rfl rfl rfl rfl rfl hs
theorem S138_30 : WP d 138 30 lv (.int y :: .int x :: st) h Q ↔ WP d 138 31 lv (.int (x ||| y) :: st) h Q := WP_st rfl
theorem S138_31 : WP d 138 31 (a0 :: a1 :: a2v :: a3 :: lv) (.int x :: st) h Q ↔ WP d 138 32 (a0 :: a1 :: kl a2v :: some (.int x) :: lv) st h Q := WP_st (by rfl)
theorem S138_32 : WP d 138 32 lv st h Q ↔ WP d 138 33 lv (.int 0 :: st) h Q := WP_st rfl
theorem S138_33 : WP d 138 33 (a0 :: a1 :: a2v :: a3 :: a4 :: a5 :: lv) (.int x :: st) h Q ↔ WP d 138 35 (a0 :: a1 :: a2v :: a3 :: kl a4 :: some (.int x) :: lv) st h Q := WP_st (by rfl)
theorem S138_35 : WP d 138 35 (a0 :: a1 :: a2v :: a3 :: a4 :: some (.int x) :: lv) st h Q ↔ WP d 138 37 (a0 :: a1 :: a2v :: a3 :: a4 :: some (.int x) :: lv) (.int x :: st) h Q := WP_st rfl
theorem S138_37 : WP d 138 37 (some (.ref a) :: lv) st h Q ↔ WP d 138 38 (some (.ref a) :: lv) (.ref a :: st) h Q := WP_st rfl
theorem S138_38 {pr0 : Nat} {qi0 : Int32} (hs : shp pr0 = some (0, 8)) : WP (d + 1) 138 38 lv [.ref pr0, .int qi0] h Q ↔ WP d 129 0 [some (.ref pr0)] [] h (kR (d + 1) 138 41 lv [.int qi0] Q) := WP_callVR rfl rfl rfl rfl rfl hs
theorem S138_41 : WP d 138 41 lv (.int y :: .int x :: st) h Q ↔ if y ≤ x then WP d 138 90 lv st h Q else WP d 138 44 lv st h Q := WP_br rfl
theorem S138_44 : WP d 138 44 lv st h Q ↔ WP d 138 45 lv (.int 1 :: st) h Q := WP_st rfl
theorem S138_45 : WP d 138 45 (some (.ref a) :: lv) st h Q ↔ WP d 138 46 (some (.ref a) :: lv) (.ref a :: st) h Q := WP_st rfl
theorem S138_46 : WP d 138 46 (a0 :: a1 :: a2v :: a3 :: a4 :: some (.int x) :: lv) st h Q ↔ WP d 138 48 (a0 :: a1 :: a2v :: a3 :: a4 :: some (.int x) :: lv) (.int x :: st) h Q := WP_st rfl
theorem S138_48 {pr0 : Nat} {pi0 : Int32} {qi1 : Int32} (hs : shp pr0 = some (0, 8)) : WP (d + 1) 138 48 lv [.int pi0, .ref pr0, .int qi1] h Q ↔ WP d 134 0 [some (.ref pr0), some (.int pi0)] [] h (kR (d + 1) 138 51 lv [.int qi1] Q) := WP_callVR rfl rfl rfl rfl rfl hs
theorem S138_51 : WP d 138 51 lv (.int y :: .int x :: st) h Q ↔ WP d 138 52 lv (.int (x <<< (y &&& 31)) :: st) h Q := WP_st rfl
theorem S138_52 : WP d 138 52 lv st h Q ↔ WP d 138 53 lv (.int 1 :: st) h Q := WP_st rfl
theorem S138_53 : WP d 138 53 (some (.ref a) :: lv) st h Q ↔ WP d 138 54 (some (.ref a) :: lv) (.ref a :: st) h Q := WP_st rfl
theorem S138_54 : WP d 138 54 (a0 :: a1 :: a2v :: a3 :: a4 :: some (.int x) :: lv) st h Q ↔ WP d 138 56 (a0 :: a1 :: a2v :: a3 :: a4 :: some (.int x) :: lv) (.int x :: st) h Q := WP_st rfl
theorem S138_56 {pr0 : Nat} {pi0 : Int32} {qi1 : Int32} {qi2 : Int32} (hs : shp pr0 = some (0, 8)) : WP (d + 1) 138 56 lv [.int pi0, .ref pr0, .int qi2, .int qi1] h Q ↔ WP d 135 0 [some (.ref pr0), some (.int pi0)] [] h (kR (d + 1) 138 59 lv [.int qi2, .int qi1] Q) := WP_callVR rfl rfl rfl rfl rfl hs
theorem S138_59 : WP d 138 59 lv (.int y :: .int x :: st) h Q ↔ WP d 138 60 lv (.int (x <<< (y &&& 31)) :: st) h Q := WP_st rfl
theorem S138_60 : WP d 138 60 lv (.int y :: .int x :: st) h Q ↔ WP d 138 61 lv (.int (x ||| y) :: st) h Q := WP_st rfl
theorem S138_61 : WP d 138 61 (a0 :: a1 :: a2v :: a3 :: a4 :: a5 :: a6 :: lv) (.int x :: st) h Q ↔ WP d 138 63 (a0 :: a1 :: a2v :: a3 :: a4 :: kl a5 :: some (.int x) :: lv) st h Q := WP_st (by rfl)
theorem S138_63 : WP d 138 63 (a0 :: a1 :: some (.int x) :: lv) st h Q ↔ WP d 138 64 (a0 :: a1 :: some (.int x) :: lv) (.int x :: st) h Q := WP_st rfl
theorem S138_64 : WP d 138 64 (a0 :: a1 :: a2v :: a3 :: a4 :: some (.int x) :: lv) st h Q ↔ WP d 138 66 (a0 :: a1 :: a2v :: a3 :: a4 :: some (.int x) :: lv) (.int x :: st) h Q := WP_st rfl
theorem S138_66 {pi0 : Int32} {pi1 : Int32} : WP (d + 1) 138 66 lv [.int pi1, .int pi0] h Q ↔ WP d 102 0 [some (.int pi0), some (.int pi1)] [] h (kR (d + 1) 138 69 lv [] Q) := WP_callSR rfl rfl rfl rfl rfl
theorem S138_69 : WP d 138 69 lv (.int x :: st) h Q ↔ if x = 0 then WP d 138 84 lv st h Q else WP d 138 72 lv st h Q := WP_br rfl
theorem S138_72 : WP d 138 72 (a0 :: a1 :: a2v :: some (.int x) :: lv) st h Q ↔ WP d 138 73 (a0 :: a1 :: a2v :: some (.int x) :: lv) (.int x :: st) h Q := WP_st rfl
theorem S138_73 : WP d 138 73 (a0 :: a1 :: a2v :: a3 :: a4 :: a5 :: some (.int x) :: lv) st h Q ↔ WP d 138 75 (a0 :: a1 :: a2v :: a3 :: a4 :: a5 :: some (.int x) :: lv) (.int x :: st) h Q := WP_st rfl
theorem S138_75 : WP d 138 75 lv (.int y :: .int x :: st) h Q ↔ WP d 138 76 lv (.int (x &&& y) :: st) h Q := WP_st rfl
theorem S138_76 : WP d 138 76 lv (.int x :: st) h Q ↔ if x = 0 then WP d 138 84 lv st h Q else WP d 138 79 lv st h Q := WP_br rfl
theorem S138_79 : WP d 138 79 (a0 :: a1 :: a2v :: some (.int x) :: lv) st h Q ↔ WP d 138 80 (a0 :: a1 :: a2v :: some (.int x) :: lv) (.int x :: st) h Q := WP_st rfl
theorem S138_80 : WP d 138 80 (a0 :: a1 :: a2v :: a3 :: a4 :: a5 :: some (.int x) :: lv) st h Q ↔ WP d 138 82 (a0 :: a1 :: a2v :: a3 :: a4 :: a5 :: some (.int x) :: lv) (.int x :: st) h Q := WP_st rfl
theorem S138_82 : WP d 138 82 lv (.int y :: .int x :: st) h Q ↔ WP d 138 83 lv (.int (x ||| y) :: st) h Q := WP_st rfl
theorem S138_83 : WP d 138 83 (a0 :: a1 :: a2v :: a3 :: lv) (.int x :: st) h Q ↔ WP d 138 84 (a0 :: a1 :: kl a2v :: some (.int x) :: lv) st h Q := WP_st (by rfl)
theorem S138_84 : WP d 138 84 (a0 :: a1 :: a2v :: a3 :: a4 :: some (.int x) :: lv) st h Q ↔ WP d 138 87 (a0 :: a1 :: a2v :: a3 :: kl a4 :: some (.int (x + 1)) :: lv) st h Q := WP_st (by rfl)
theorem S138_87 : WP d 138 87 lv st h Q ↔ WP d 138 35 lv st h Q := WP_st rfl
theorem S138_90 : WP d 138 90 lv st h Q ↔ WP d 138 7 lv st h Q := WP_st rfl
theorem S138_93 : WP d 138 93 (a0 :: a1 :: a2v :: some (.int x) :: lv) st h Q ↔ WP d 138 94 (a0 :: a1 :: a2v :: some (.int x) :: lv) (.int x :: st) h Q := WP_st rfl
theorem S138_94 : WP d 138 94 lv [.int x] h Q ↔ Q (some (some (.int x))) h := WP_end rfl rfl rfl
theorem S139_0 : WP d 139 0 (some (.ref a) :: lv) st h Q ↔ WP d 139 1 (some (.ref a) :: lv) (.ref a :: st) h Q := WP_st rfl
theorem S139_1 : WP d 139 1 (a0 :: some (.int x) :: lv) st h Q ↔ WP d 139 2 (a0 :: some (.int x) :: lv) (.int x :: st) h Q := WP_st rfl
theorem S139_2 : WP d 139 2 (a0 :: a1 :: a2v :: some (.int x) :: lv) st h Q ↔ WP d 139 3 (a0 :: a1 :: a2v :: some (.int x) :: lv) (.int x :: st) h Q := WP_st rfl
theorem S139_3 {pr0 : Nat} {pi0 : Int32} {pi1 : Int32} (hs : shp pr0 = some (0, 8)) : WP (d + 1) 139 3 lv [.int pi1, .int pi0, .ref pr0] h Q ↔ WP d 138 0 [some (.ref pr0), some (.int pi0), some (.int pi1), none, none, none, none] [] h (kR (d + 1) 139 6 lv [] Q) := WP_callVR rfl rfl rfl rfl rfl hs
theorem S139_6 : WP d 139 6 (a0 :: a1 :: some (.int x) :: lv) st h Q ↔ WP d 139 7 (a0 :: a1 :: some (.int x) :: lv) (.int x :: st) h Q := WP_st rfl
theorem S139_7 {pi0 : Int32} {pi1 : Int32} : WP (d + 1) 139 7 lv [.int pi1, .int pi0] h Q ↔ WP d 102 0 [some (.int pi0), some (.int pi1)] [] h (kR (d + 1) 139 10 lv [] Q) := WP_callSR rfl rfl rfl rfl rfl
theorem S139_10 (hx : isB x) : WP d 139 10 lv [.int x] h Q ↔ Q (some (some (.int x))) h := WP_endZ rfl rfl hx
theorem S140_0 : WP d 140 0 (some (.ref a) :: lv) st h Q ↔ WP d 140 1 (some (.ref a) :: lv) (.ref a :: st) h Q := WP_st rfl
theorem S140_1 : WP d 140 1 (a0 :: some (.int x) :: lv) st h Q ↔ WP d 140 2 (a0 :: some (.int x) :: lv) (.int x :: st) h Q := WP_st rfl
theorem S140_2 : WP d 140 2 (some (.ref a) :: lv) st h Q ↔ WP d 140 3 (some (.ref a) :: lv) (.ref a :: st) h Q := WP_st rfl
theorem S140_3 {pr0 : Nat} {qr1 : Nat} {qi0 : Int32} (hs : shp pr0 = some (0, 8)) : WP (d + 1) 140 3 lv [.ref pr0, .int qi0, .ref qr1] h Q ↔ WP d 136 0 [some (.ref pr0), none, none] [] h (kR (d + 1) 140 6 lv [.int qi0, .ref qr1] Q) := WP_callVR rfl rfl rfl rfl rfl hs
theorem S140_6 {pr0 : Nat} {pi0 : Int32} {pi1 : Int32} (hs : shp pr0 = some (0, 8)) : WP (d + 1) 140 6 lv [.int pi1, .int pi0, .ref pr0] h Q ↔ WP d 138 0 [some (.ref pr0), some (.int pi0), some (.int pi1), none, none, none, none] [] h (kR (d + 1) 140 9 lv [] Q) := WP_callVR rfl rfl rfl rfl rfl hs
theorem S140_9 : WP d 140 9 (a0 :: a1 :: a2v :: lv) (.int x :: st) h Q ↔ WP d 140 10 (a0 :: kl a1 :: some (.int x) :: lv) st h Q := WP_st (by rfl)
theorem S140_10 : WP d 140 10 lv st h Q ↔ WP d 140 11 lv (.int 0 :: st) h Q := WP_st rfl
theorem S140_11 : WP d 140 11 (a0 :: a1 :: a2v :: a3 :: lv) (.int x :: st) h Q ↔ WP d 140 12 (a0 :: a1 :: kl a2v :: some (.int x) :: lv) st h Q := WP_st (by rfl)
theorem S140_12 : WP d 140 12 (a0 :: a1 :: some (.int x) :: lv) st h Q ↔ WP d 140 13 (a0 :: a1 :: some (.int x) :: lv) (.int x :: st) h Q := WP_st rfl
theorem S140_13 : WP d 140 13 (a0 :: a1 :: a2v :: some (.int x) :: lv) st h Q ↔ WP d 140 14 (a0 :: a1 :: a2v :: some (.int x) :: lv) (.int x :: st) h Q := WP_st rfl
theorem S140_14 {pi0 : Int32} {pi1 : Int32} : WP (d + 1) 140 14 lv [.int pi1, .int pi0] h Q ↔ WP d 102 0 [some (.int pi0), some (.int pi1)] [] h (kR (d + 1) 140 17 lv [] Q) := WP_callSR rfl rfl rfl rfl rfl
theorem S140_17 : WP d 140 17 lv (.int x :: st) h Q ↔ if x = 0 then WP d 140 20 lv st h Q else WP d 140 26 lv st h Q := WP_br rfl
theorem S140_20 : WP d 140 20 (a0 :: a1 :: a2v :: some (.int x) :: lv) st h Q ↔ WP d 140 23 (a0 :: a1 :: kl a2v :: some (.int (x + 1)) :: lv) st h Q := WP_st (by rfl)
theorem S140_23 : WP d 140 23 lv st h Q ↔ WP d 140 12 lv st h Q := WP_st rfl
theorem S140_26 : WP d 140 26 (a0 :: a1 :: a2v :: some (.int x) :: lv) st h Q ↔ WP d 140 27 (a0 :: a1 :: a2v :: some (.int x) :: lv) (.int x :: st) h Q := WP_st rfl
theorem S140_27 : WP d 140 27 lv [.int x] h Q ↔ Q (some (some (.int x))) h := WP_end rfl rfl rfl
theorem S141_0 : WP d 141 0 (some (.ref a) :: lv) st h Q ↔ WP d 141 1 (some (.ref a) :: lv) (.ref a :: st) h Q := WP_st rfl
theorem S141_1 : WP d 141 1 (a0 :: some (.int x) :: lv) st h Q ↔ WP d 141 2 (a0 :: some (.int x) :: lv) (.int x :: st) h Q := WP_st rfl
theorem S141_2 {pr0 : Nat} {pi0 : Int32} (hs : shp pr0 = some (0, 8)) : WP (d + 1) 141 2 lv [.int pi0, .ref pr0] h Q ↔ WP d 140 0 [some (.ref pr0), some (.int pi0), none, none] [] h (kR (d + 1) 141 5 lv [] Q) := WP_callVR rfl rfl rfl rfl rfl hs
theorem S141_5 : WP d 141 5 (a0 :: some (.int x) :: lv) st h Q ↔ WP d 141 6 (a0 :: some (.int x) :: lv) (.int x :: st) h Q := WP_st rfl
theorem S141_6 : WP d 141 6 lv (.int y :: .int x :: st) h Q ↔ if x = y then WP d 141 9 lv st h Q else WP d 141 30 lv st h Q := WP_br rfl
theorem S141_9 : WP d 141 9 (some (.ref a) :: lv) st h Q ↔ WP d 141 10 (some (.ref a) :: lv) (.ref a :: st) h Q := WP_st rfl
theorem S141_10 : WP d 141 10 (a0 :: some (.int x) :: lv) st h Q ↔ WP d 141 11 (a0 :: some (.int x) :: lv) (.int x :: st) h Q := WP_st rfl
theorem S141_11 : WP d 141 11 (some (.ref a) :: lv) st h Q ↔ WP d 141 12 (some (.ref a) :: lv) (.ref a :: st) h Q := WP_st rfl
theorem S141_12 {pr0 : Nat} {qr1 : Nat} {qi0 : Int32} (hs : shp pr0 = some (0, 8)) : WP (d + 1) 141 12 lv [.ref pr0, .int qi0, .ref qr1] h Q ↔ WP d 136 0 [some (.ref pr0), none, none] [] h (kR (d + 1) 141 15 lv [.int qi0, .ref qr1] Q) := WP_callVR rfl rfl rfl rfl rfl hs
theorem S141_15 {pr0 : Nat} {pi0 : Int32} {pi1 : Int32} (hs : shp pr0 = some (0, 8)) : WP (d + 1) 141 15 lv [.int pi1, .int pi0, .ref pr0] h Q ↔ WP d 138 0 [some (.ref pr0), some (.int pi0), some (.int pi1), none, none, none, none] [] h (kR (d + 1) 141 18 lv [] Q) := WP_callVR rfl rfl rfl rfl rfl hs
theorem S141_18 : WP d 141 18 (some (.ref a) :: lv) st h Q ↔ WP d 141 19 (some (.ref a) :: lv) (.ref a :: st) h Q := WP_st rfl
theorem S141_19 {pr0 : Nat} {qi0 : Int32} (hs : shp pr0 = some (0, 8)) : WP (d + 1) 141 19 lv [.ref pr0, .int qi0] h Q ↔ WP d 137 0 [some (.ref pr0), none, none] [] h (kR (d + 1) 141 22 lv [.int qi0] Q) := WP_callVR rfl rfl rfl rfl rfl hs
theorem S141_22 : WP d 141 22 lv (.int y :: .int x :: st) h Q ↔ WP d 141 23 lv (.int (x &&& y) :: st) h Q := WP_st rfl
theorem S141_23 : WP d 141 23 lv (.int x :: st) h Q ↔ if x = 0 then WP d 141 26 lv st h Q else WP d 141 30 lv st h Q := WP_br rfl
theorem S141_26 : WP d 141 26 lv st h Q ↔ WP d 141 27 lv (.int 1 :: st) h Q := WP_st rfl
theorem S141_27 : WP d 141 27 lv st h Q ↔ WP d 141 31 lv st h Q := WP_st rfl
theorem S141_30 : WP d 141 30 lv st h Q ↔ WP d 141 31 lv (.int 0 :: st) h Q := WP_st rfl
theorem S141_31 (hx : isB x) : WP d 141 31 lv [.int x] h Q ↔ Q (some (some (.int x))) h := WP_endZ rfl rfl hx
theorem S142_0 : WP d 142 0 lv st h Q ↔ WP d 142 1 lv (.int 0 :: st) h Q := WP_st rfl
theorem S142_1 : WP d 142 1 (a0 :: a1 :: lv) (.int x :: st) h Q ↔ WP d 142 2 (kl a0 :: some (.int x) :: lv) st h Q := WP_st (by rfl)
theorem S142_2 : WP d 142 2 lv st h Q ↔ WP d 142 3 lv (.int 0 :: st) h Q := WP_st rfl
theorem S142_3 : WP d 142 3 (a0 :: a1 :: a2v :: lv) (.int x :: st) h Q ↔ WP d 142 4 (a0 :: kl a1 :: some (.int x) :: lv) st h Q := WP_st (by rfl)
theorem S142_4 : WP d 142 4 (a0 :: a1 :: some (.int x) :: lv) st h Q ↔ WP d 142 5 (a0 :: a1 :: some (.int x) :: lv) (.int x :: st) h Q := WP_st rfl
theorem S142_5 : WP d 142 5 (some (.ref a) :: lv) st h Q ↔ WP d 142 6 (some (.ref a) :: lv) (.ref a :: st) h Q := WP_st rfl
theorem S142_6 {pr0 : Nat} {qi0 : Int32} (hs : shp pr0 = some (0, 8)) : WP (d + 1) 142 6 lv [.ref pr0, .int qi0] h Q ↔ WP d 129 0 [some (.ref pr0)] [] h (kR (d + 1) 142 9 lv [.int qi0] Q) := WP_callVR rfl rfl rfl rfl rfl hs
theorem S142_9 : WP d 142 9 lv (.int y :: .int x :: st) h Q ↔ if y ≤ x then WP d 142 50 lv st h Q else WP d 142 12 lv st h Q := WP_br rfl
theorem S142_12 : WP d 142 12 (some (.ref a) :: lv) st h Q ↔ WP d 142 13 (some (.ref a) :: lv) (.ref a :: st) h Q := WP_st rfl
theorem S142_13 : WP d 142 13 (a0 :: a1 :: some (.int x) :: lv) st h Q ↔ WP d 142 14 (a0 :: a1 :: some (.int x) :: lv) (.int x :: st) h Q := WP_st rfl
theorem S142_14 {pr0 : Nat} {pi0 : Int32} (hs : shp pr0 = some (0, 8)) : WP (d + 1) 142 14 lv [.int pi0, .ref pr0] h Q ↔ WP d 133 0 [some (.ref pr0), some (.int pi0)] [] h (kR (d + 1) 142 17 lv [] Q) := WP_callVR rfl rfl rfl rfl rfl hs
theorem S142_17 : WP d 142 17 lv (.int x :: st) h Q ↔ if x = 0 then WP d 142 44 lv st h Q else WP d 142 20 lv st h Q := WP_br rfl
theorem S142_20 : WP d 142 20 (some (.ref a) :: lv) st h Q ↔ WP d 142 21 (some (.ref a) :: lv) (.ref a :: st) h Q := WP_st rfl
theorem S142_21 : WP d 142 21 (some (.ref a) :: lv) st h Q ↔ WP d 142 22 (some (.ref a) :: lv) (.ref a :: st) h Q := WP_st rfl
theorem S142_22 : WP d 142 22 (a0 :: a1 :: some (.int x) :: lv) st h Q ↔ WP d 142 23 (a0 :: a1 :: some (.int x) :: lv) (.int x :: st) h Q := WP_st rfl
theorem S142_23 {pr0 : Nat} {pi0 : Int32} {qr1 : Nat} (hs : shp pr0 = some (0, 8)) : WP (d + 1) 142 23 lv [.int pi0, .ref pr0, .ref qr1] h Q ↔ WP d 134 0 [some (.ref pr0), some (.int pi0)] [] h (kR (d + 1) 142 26 lv [.ref qr1] Q) := WP_callVR rfl rfl rfl rfl rfl hs
theorem S142_26 : WP d 142 26 (some (.ref a) :: lv) st h Q ↔ WP d 142 27 (some (.ref a) :: lv) (.ref a :: st) h Q := WP_st rfl
theorem S142_27 : WP d 142 27 (a0 :: a1 :: some (.int x) :: lv) st h Q ↔ WP d 142 28 (a0 :: a1 :: some (.int x) :: lv) (.int x :: st) h Q := WP_st rfl
theorem S142_28 {pr0 : Nat} {pi0 : Int32} {qr1 : Nat} {qi1 : Int32} (hs : shp pr0 = some (0, 8)) : WP (d + 1) 142 28 lv [.int pi0, .ref pr0, .int qi1, .ref qr1] h Q ↔ WP d 135 0 [some (.ref pr0), some (.int pi0)] [] h (kR (d + 1) 142 31 lv [.int qi1, .ref qr1] Q) := WP_callVR rfl rfl rfl rfl rfl hs
theorem S142_31 : WP d 142 31 (a0 :: some (.int x) :: lv) st h Q ↔ WP d 142 32 (a0 :: some (.int x) :: lv) (.int x :: st) h Q := WP_st rfl
theorem S142_32 {pr0 : Nat} {pi0 : Int32} {pi1 : Int32} {pi2 : Int32} (hs : shp pr0 = some (0, 8)) : WP (d + 1) 142 32 lv [.int pi2, .int pi1, .int pi0, .ref pr0] h Q ↔ WP d 139 0 [some (.ref pr0), some (.int pi0), some (.int pi1), some (.int pi2)] [] h (kR (d + 1) 142 35 lv [] Q) := WP_callVR rfl rfl rfl rfl rfl hs
theorem S142_35 : WP d 142 35 lv (.int x :: st) h Q ↔ if x = 0 then WP d 142 38 lv st h Q else WP d 142 44 lv st h Q := WP_br rfl
theorem S142_38 : WP d 142 38 (a0 :: some (.int x) :: lv) st h Q ↔ WP d 142 39 (a0 :: some (.int x) :: lv) (.int x :: st) h Q := WP_st rfl
theorem S142_39 : WP d 142 39 lv st h Q ↔ WP d 142 40 lv (.int 1 :: st) h Q := WP_st rfl
theorem S142_40 : WP d 142 40 (a0 :: a1 :: some (.int x) :: lv) st h Q ↔ WP d 142 41 (a0 :: a1 :: some (.int x) :: lv) (.int x :: st) h Q := WP_st rfl
theorem S142_41 : WP d 142 41 lv (.int y :: .int x :: st) h Q ↔ WP d 142 42 lv (.int (x <<< (y &&& 31)) :: st) h Q := WP_st rfl
theorem S142_42 : WP d 142 42 lv (.int y :: .int x :: st) h Q ↔ WP d 142 43 lv (.int (x ||| y) :: st) h Q := WP_st rfl
theorem S142_43 : WP d 142 43 (a0 :: a1 :: lv) (.int x :: st) h Q ↔ WP d 142 44 (kl a0 :: some (.int x) :: lv) st h Q := WP_st (by rfl)
theorem S142_44 : WP d 142 44 (a0 :: a1 :: some (.int x) :: lv) st h Q ↔ WP d 142 47 (a0 :: kl a1 :: some (.int (x + 1)) :: lv) st h Q := WP_st (by rfl)
theorem S142_47 : WP d 142 47 lv st h Q ↔ WP d 142 4 lv st h Q := WP_st rfl
theorem S142_50 : WP d 142 50 (a0 :: some (.int x) :: lv) st h Q ↔ WP d 142 51 (a0 :: some (.int x) :: lv) (.int x :: st) h Q := WP_st rfl
theorem S142_51 : WP d 142 51 lv [.int x] h Q ↔ Q (some (some (.int x))) h := WP_end rfl rfl rfl
theorem S143_0 : WP d 143 0 (some (.ref a) :: lv) st h Q ↔ WP d 143 1 (some (.ref a) :: lv) (.ref a :: st) h Q := WP_st rfl
theorem S143_1 : WP d 143 1 (a0 :: some (.int x) :: lv) st h Q ↔ WP d 143 2 (a0 :: some (.int x) :: lv) (.int x :: st) h Q := WP_st rfl
theorem S143_2 {pr0 : Nat} {pi0 : Int32} (hs : shp pr0 = some (0, 8)) : WP (d + 1) 143 2 lv [.int pi0, .ref pr0] h Q ↔ WP d 133 0 [some (.ref pr0), some (.int pi0)] [] h (kR (d + 1) 143 5 lv [] Q) := WP_callVR rfl rfl rfl rfl rfl hs
theorem S143_5 : WP d 143 5 lv (.int x :: st) h Q ↔ if x = 0 then WP d 143 39 lv st h Q else WP d 143 8 lv st h Q := WP_br rfl
theorem S143_8 : WP d 143 8 (some (.ref a) :: lv) st h Q ↔ WP d 143 9 (some (.ref a) :: lv) (.ref a :: st) h Q := WP_st rfl
theorem S143_9 : WP d 143 9 (some (.ref a) :: lv) st h Q ↔ WP d 143 10 (some (.ref a) :: lv) (.ref a :: st) h Q := WP_st rfl
theorem S143_10 : WP d 143 10 (a0 :: some (.int x) :: lv) st h Q ↔ WP d 143 11 (a0 :: some (.int x) :: lv) (.int x :: st) h Q := WP_st rfl
theorem S143_11 {pr0 : Nat} {pi0 : Int32} {qr1 : Nat} (hs : shp pr0 = some (0, 8)) : WP (d + 1) 143 11 lv [.int pi0, .ref pr0, .ref qr1] h Q ↔ WP d 134 0 [some (.ref pr0), some (.int pi0)] [] h (kR (d + 1) 143 14 lv [.ref qr1] Q) := WP_callVR rfl rfl rfl rfl rfl hs
theorem S143_14 : WP d 143 14 (some (.ref a) :: lv) st h Q ↔ WP d 143 15 (some (.ref a) :: lv) (.ref a :: st) h Q := WP_st rfl
theorem S143_15 : WP d 143 15 (a0 :: some (.int x) :: lv) st h Q ↔ WP d 143 16 (a0 :: some (.int x) :: lv) (.int x :: st) h Q := WP_st rfl
theorem S143_16 {pr0 : Nat} {pi0 : Int32} {qr1 : Nat} {qi1 : Int32} (hs : shp pr0 = some (0, 8)) : WP (d + 1) 143 16 lv [.int pi0, .ref pr0, .int qi1, .ref qr1] h Q ↔ WP d 135 0 [some (.ref pr0), some (.int pi0)] [] h (kR (d + 1) 143 19 lv [.int qi1, .ref qr1] Q) := WP_callVR rfl rfl rfl rfl rfl hs
theorem S143_19 : WP d 143 19 (some (.ref a) :: lv) st h Q ↔ WP d 143 20 (some (.ref a) :: lv) (.ref a :: st) h Q := WP_st rfl
theorem S143_20 {pr0 : Nat} {qr1 : Nat} {qi0 : Int32} {qi1 : Int32} (hs : shp pr0 = some (0, 8)) : WP (d + 1) 143 20 lv [.ref pr0, .int qi1, .int qi0, .ref qr1] h Q ↔ WP d 136 0 [some (.ref pr0), none, none] [] h (kR (d + 1) 143 23 lv [.int qi1, .int qi0, .ref qr1] Q) := WP_callVR rfl rfl rfl rfl rfl hs
theorem S143_23 : WP d 143 23 lv st h Q ↔ WP d 143 24 lv (.int 1 :: st) h Q := WP_st rfl
theorem S143_24 : WP d 143 24 (a0 :: some (.int x) :: lv) st h Q ↔ WP d 143 25 (a0 :: some (.int x) :: lv) (.int x :: st) h Q := WP_st rfl
theorem S143_25 : WP d 143 25 lv (.int y :: .int x :: st) h Q ↔ WP d 143 26 lv (.int (x <<< (y &&& 31)) :: st) h Q := WP_st rfl
theorem S143_26 : WP d 143 26 lv st h Q ↔ WP d 143 27 lv (.int (-1) :: st) h Q := WP_st rfl
theorem S143_27 : WP d 143 27 lv (.int y :: .int x :: st) h Q ↔ WP d 143 28 lv (.int (x ^^^ y) :: st) h Q := WP_st rfl
theorem S143_28 : WP d 143 28 lv (.int y :: .int x :: st) h Q ↔ WP d 143 29 lv (.int (x &&& y) :: st) h Q := WP_st rfl
theorem S143_29 {pr0 : Nat} {pi0 : Int32} {pi1 : Int32} {pi2 : Int32} (hs : shp pr0 = some (0, 8)) : WP (d + 1) 143 29 lv [.int pi2, .int pi1, .int pi0, .ref pr0] h Q ↔ WP d 139 0 [some (.ref pr0), some (.int pi0), some (.int pi1), some (.int pi2)] [] h (kR (d + 1) 143 32 lv [] Q) := WP_callVR rfl rfl rfl rfl rfl hs
theorem S143_32 : WP d 143 32 lv (.int x :: st) h Q ↔ if x = 0 then WP d 143 35 lv st h Q else WP d 143 39 lv st h Q := WP_br rfl
theorem S143_35 : WP d 143 35 lv st h Q ↔ WP d 143 36 lv (.int 1 :: st) h Q := WP_st rfl
theorem S143_36 : WP d 143 36 lv st h Q ↔ WP d 143 40 lv st h Q := WP_st rfl
theorem S143_39 : WP d 143 39 lv st h Q ↔ WP d 143 40 lv (.int 0 :: st) h Q := WP_st rfl
theorem S143_40 (hx : isB x) : WP d 143 40 lv [.int x] h Q ↔ Q (some (some (.int x))) h := WP_endZ rfl rfl hx
theorem S144_0 : WP d 144 0 (some (.ref a) :: lv) st h Q ↔ WP d 144 1 (some (.ref a) :: lv) (.ref a :: st) h Q := WP_st rfl
theorem S144_1 : WP d 144 1 lv st h Q ↔ WP d 144 2 lv (.int 0 :: st) h Q := WP_st rfl
theorem S144_2 (hs : shp a = some (0, 8)) : WP d 144 2 lv (.int x :: .ref a :: st) h Q ↔ WP d 144 5 lv st (setI h a 25 x) Q := WP_putI (r := 537) rfl hs (by decide)
theorem S144_5 : WP d 144 5 lv st h Q ↔ WP d 144 6 lv (.int 0 :: st) h Q := WP_st rfl
theorem S144_6 : WP d 144 6 (a0 :: a1 :: lv) (.int x :: st) h Q ↔ WP d 144 7 (kl a0 :: some (.int x) :: lv) st h Q := WP_st (by rfl)
theorem S144_7 : WP d 144 7 (a0 :: some (.int x) :: lv) st h Q ↔ WP d 144 8 (a0 :: some (.int x) :: lv) (.int x :: st) h Q := WP_st rfl
theorem S144_8 : WP d 144 8 (some (.ref a) :: lv) st h Q ↔ WP d 144 9 (some (.ref a) :: lv) (.ref a :: st) h Q := WP_st rfl
theorem S144_9 {pr0 : Nat} {qi0 : Int32} (hs : shp pr0 = some (0, 8)) : WP (d + 1) 144 9 lv [.ref pr0, .int qi0] h Q ↔ WP d 128 0 [some (.ref pr0)] [] h (kR (d + 1) 144 12 lv [.int qi0] Q) := WP_callVR rfl rfl rfl rfl rfl hs
theorem S144_12 : WP d 144 12 lv (.int y :: .int x :: st) h Q ↔ if y ≤ x then WP d 144 67 lv st h Q else WP d 144 15 lv st h Q := WP_br rfl
theorem S144_15 : WP d 144 15 (some (.ref a) :: lv) st h Q ↔ WP d 144 16 (some (.ref a) :: lv) (.ref a :: st) h Q := WP_st rfl
theorem S144_16 (hs : shp a = some (0, 8)) : WP d 144 16 lv (.ref a :: st) h Q ↔ WP d 144 19 lv (.ref (RV a 24) :: st) h Q := WP_getR (r := 536) rfl hs (by decide)
theorem S144_19 : WP d 144 19 (a0 :: some (.int x) :: lv) st h Q ↔ WP d 144 20 (a0 :: some (.int x) :: lv) (.int x :: st) h Q := WP_st rfl
theorem S144_20 : WP d 144 20 lv st h Q ↔ WP d 144 21 lv (.int (-1) :: st) h Q := WP_st rfl
theorem S144_21 (hi : okA 1 a i) : WP d 144 21 lv (.int x :: .int i :: .ref a :: st) h Q ↔ WP d 144 22 lv st (setI h a i.toNatClampNeg x) Q := WP_iast rfl hi
theorem S144_22 : WP d 144 22 (some (.ref a) :: lv) st h Q ↔ WP d 144 23 (some (.ref a) :: lv) (.ref a :: st) h Q := WP_st rfl
theorem S144_23 : WP d 144 23 (a0 :: some (.int x) :: lv) st h Q ↔ WP d 144 24 (a0 :: some (.int x) :: lv) (.int x :: st) h Q := WP_st rfl
theorem S144_24 {pr0 : Nat} {pi0 : Int32} (hs : shp pr0 = some (0, 8)) : WP (d + 1) 144 24 lv [.int pi0, .ref pr0] h Q ↔ WP d 132 0 [some (.ref pr0), some (.int pi0)] [] h (kR (d + 1) 144 27 lv [] Q) := WP_callVR rfl rfl rfl rfl rfl hs
theorem S144_27 : WP d 144 27 lv (.int x :: st) h Q ↔ if x = 0 then WP d 144 30 lv st h Q else WP d 144 61 lv st h Q := WP_br rfl
theorem S144_30 : WP d 144 30 (some (.ref a) :: lv) st h Q ↔ WP d 144 31 (some (.ref a) :: lv) (.ref a :: st) h Q := WP_st rfl
theorem S144_31 : WP d 144 31 (a0 :: some (.int x) :: lv) st h Q ↔ WP d 144 32 (a0 :: some (.int x) :: lv) (.int x :: st) h Q := WP_st rfl
theorem S144_32 {pr0 : Nat} {pi0 : Int32} (hs : shp pr0 = some (0, 8)) : WP (d + 1) 144 32 lv [.int pi0, .ref pr0] h Q ↔ WP d 141 0 [some (.ref pr0), some (.int pi0)] [] h (kR (d + 1) 144 35 lv [] Q) := WP_callVR rfl rfl rfl rfl rfl hs
theorem S144_35 : WP d 144 35 lv (.int x :: st) h Q ↔ if x = 0 then WP d 144 41 lv st h Q else WP d 144 38 lv st h Q := WP_br rfl
theorem S144_38 : WP d 144 38 lv st h Q ↔ WP d 144 61 lv st h Q := WP_st rfl
theorem S144_41 : WP d 144 41 (some (.ref a) :: lv) st h Q ↔ WP d 144 42 (some (.ref a) :: lv) (.ref a :: st) h Q := WP_st rfl
theorem S144_42 (hs : shp a = some (0, 8)) : WP d 144 42 lv (.ref a :: st) h Q ↔ WP d 144 45 lv (.ref (RV a 24) :: st) h Q := WP_getR (r := 536) rfl hs (by decide)
theorem S144_45 : WP d 144 45 (a0 :: some (.int x) :: lv) st h Q ↔ WP d 144 46 (a0 :: some (.int x) :: lv) (.int x :: st) h Q := WP_st rfl
theorem S144_46 : WP d 144 46 (some (.ref a) :: lv) st h Q ↔ WP d 144 47 (some (.ref a) :: lv) (.ref a :: st) h Q := WP_st rfl
theorem S144_47 (hs : shp a = some (0, 8)) : WP d 144 47 lv (.ref a :: st) h Q ↔ WP d 144 50 lv (.int (h.1 a 25) :: st) h Q := WP_getI (r := 537) rfl hs (by decide)
theorem S144_50 (hi : okA 1 a i) : WP d 144 50 lv (.int x :: .int i :: .ref a :: st) h Q ↔ WP d 144 51 lv st (setI h a i.toNatClampNeg x) Q := WP_iast rfl hi
theorem S144_51 : WP d 144 51 (some (.ref a) :: lv) st h Q ↔ WP d 144 52 (some (.ref a) :: lv) (.ref a :: st) h Q := WP_st rfl
theorem S144_52 : WP d 144 52 lv (.ref a :: st) h Q ↔ WP d 144 53 lv (.ref a :: .ref a :: st) h Q := WP_st rfl
theorem S144_53 (hs : shp a = some (0, 8)) : WP d 144 53 lv (.ref a :: st) h Q ↔ WP d 144 56 lv (.int (h.1 a 25) :: st) h Q := WP_getI (r := 537) rfl hs (by decide)
theorem S144_56 : WP d 144 56 lv st h Q ↔ WP d 144 57 lv (.int 1 :: st) h Q := WP_st rfl
theorem S144_57 : WP d 144 57 lv (.int y :: .int x :: st) h Q ↔ WP d 144 58 lv (.int (x + y) :: st) h Q := WP_st rfl
theorem S144_58 (hs : shp a = some (0, 8)) : WP d 144 58 lv (.int x :: .ref a :: st) h Q ↔ WP d 144 61 lv st (setI h a 25 x) Q := WP_putI (r := 537) rfl hs (by decide)
theorem S144_61 : WP d 144 61 (a0 :: some (.int x) :: lv) st h Q ↔ WP d 144 64 (kl a0 :: some (.int (x + 1)) :: lv) st h Q := WP_st (by rfl)
theorem S144_64 : WP d 144 64 lv st h Q ↔ WP d 144 7 lv st h Q := WP_st rfl
theorem S144_67 : WP d 144 67 lv st h Q ↔ WP d 144 68 lv (.int 0 :: st) h Q := WP_st rfl
theorem S144_68 : WP d 144 68 (a0 :: a1 :: lv) (.int x :: st) h Q ↔ WP d 144 69 (kl a0 :: some (.int x) :: lv) st h Q := WP_st (by rfl)
theorem S144_69 : WP d 144 69 (a0 :: some (.int x) :: lv) st h Q ↔ WP d 144 70 (a0 :: some (.int x) :: lv) (.int x :: st) h Q := WP_st rfl
theorem S144_70 : WP d 144 70 lv st h Q ↔ WP d 144 72 lv (.int 36 :: st) h Q := WP_st rfl
theorem S144_72 : WP d 144 72 lv (.int y :: .int x :: st) h Q ↔ if y ≤ x then WP d 144 88 lv st h Q else WP d 144 75 lv st h Q := WP_br rfl
theorem S144_75 : WP d 144 75 (some (.ref a) :: lv) st h Q ↔ WP d 144 76 (some (.ref a) :: lv) (.ref a :: st) h Q := WP_st rfl
theorem S144_76 (hs : shp a = some (0, 8)) : WP d 144 76 lv (.ref a :: st) h Q ↔ WP d 144 79 lv (.ref (RV a 23) :: st) h Q := WP_getR (r := 535) rfl hs (by decide)
theorem S144_79 : WP d 144 79 (a0 :: some (.int x) :: lv) st h Q ↔ WP d 144 80 (a0 :: some (.int x) :: lv) (.int x :: st) h Q := WP_st rfl
theorem S144_80 : WP d 144 80 lv st h Q ↔ WP d 144 81 lv (.long 0 :: st) h Q := WP_st rfl
theorem S144_81 (hi : okA 4 a i) : WP d 144 81 lv (.long u :: .int i :: .ref a :: st) h Q ↔ WP d 144 82 lv st (setL h a i.toNatClampNeg u) Q := WP_last rfl hi
theorem S144_82 : WP d 144 82 (a0 :: some (.int x) :: lv) st h Q ↔ WP d 144 85 (kl a0 :: some (.int (x + 1)) :: lv) st h Q := WP_st (by rfl)
theorem S144_85 : WP d 144 85 lv st h Q ↔ WP d 144 69 lv st h Q := WP_st rfl
theorem S144_88 : WP d 144 88 lv [] h Q ↔ Q (some none) h := WP_end rfl rfl rfl
theorem S145_0 : WP d 145 0 (some (.ref a) :: lv) st h Q ↔ WP d 145 1 (some (.ref a) :: lv) (.ref a :: st) h Q := WP_st rfl
theorem S145_1 (hs : shp a = some (0, 8)) : WP d 145 1 lv (.ref a :: st) h Q ↔ WP d 145 4 lv (.ref (RV a 24) :: st) h Q := WP_getR (r := 536) rfl hs (by decide)
theorem S145_4 : WP d 145 4 (a0 :: some (.int x) :: lv) st h Q ↔ WP d 145 5 (a0 :: some (.int x) :: lv) (.int x :: st) h Q := WP_st rfl
theorem S145_5 (hi : okA 1 a i) : WP d 145 5 lv (.int i :: .ref a :: st) h Q ↔ WP d 145 6 lv (.int (h.1 a i.toNatClampNeg) :: st) h Q := WP_iald rfl hi
theorem S145_6 : WP d 145 6 lv st h Q ↔ WP d 145 7 lv (.int (-1) :: st) h Q := WP_st rfl
theorem S145_7 : WP d 145 7 lv (.int y :: .int x :: st) h Q ↔ if x = y then WP d 145 30 lv st h Q else WP d 145 10 lv st h Q := WP_br rfl
theorem S145_10 : WP d 145 10 (some (.ref a) :: lv) st h Q ↔ WP d 145 11 (some (.ref a) :: lv) (.ref a :: st) h Q := WP_st rfl
theorem S145_11 (hs : shp a = some (0, 8)) : WP d 145 11 lv (.ref a :: st) h Q ↔ WP d 145 14 lv (.ref (RV a 23) :: st) h Q := WP_getR (r := 535) rfl hs (by decide)
theorem S145_14 : WP d 145 14 lv st h Q ↔ WP d 145 16 lv (.int 6 :: st) h Q := WP_st rfl
theorem S145_16 : WP d 145 16 (some (.ref a) :: lv) st h Q ↔ WP d 145 17 (some (.ref a) :: lv) (.ref a :: st) h Q := WP_st rfl
theorem S145_17 (hs : shp a = some (0, 8)) : WP d 145 17 lv (.ref a :: st) h Q ↔ WP d 145 20 lv (.ref (RV a 24) :: st) h Q := WP_getR (r := 536) rfl hs (by decide)
theorem S145_20 : WP d 145 20 (a0 :: some (.int x) :: lv) st h Q ↔ WP d 145 21 (a0 :: some (.int x) :: lv) (.int x :: st) h Q := WP_st rfl
theorem S145_21 (hi : okA 1 a i) : WP d 145 21 lv (.int i :: .ref a :: st) h Q ↔ WP d 145 22 lv (.int (h.1 a i.toNatClampNeg) :: st) h Q := WP_iald rfl hi
theorem S145_22 : WP d 145 22 lv (.int y :: .int x :: st) h Q ↔ WP d 145 23 lv (.int (x * y) :: st) h Q := WP_st rfl
theorem S145_23 : WP d 145 23 (a0 :: a1 :: some (.int x) :: lv) st h Q ↔ WP d 145 24 (a0 :: a1 :: some (.int x) :: lv) (.int x :: st) h Q := WP_st rfl
theorem S145_24 : WP d 145 24 lv (.int y :: .int x :: st) h Q ↔ WP d 145 25 lv (.int (x + y) :: st) h Q := WP_st rfl
theorem S145_25 : WP d 145 25 lv (.int x :: .ref a :: st) h Q ↔ WP d 145 26 lv (.int x :: .ref a :: .int x :: .ref a :: st) h Q := WP_st rfl
theorem S145_26 (hi : okA 4 a i) : WP d 145 26 lv (.int i :: .ref a :: st) h Q ↔ WP d 145 27 lv (.long (h.2.1 a i.toNatClampNeg) :: st) h Q := WP_lald rfl hi
theorem S145_27 : WP d 145 27 (a0 :: a1 :: a2v :: some (.long u) :: lv) st h Q ↔ WP d 145 28 (a0 :: a1 :: a2v :: some (.long u) :: lv) (.long u :: st) h Q := WP_st rfl
theorem S145_28 : WP d 145 28 lv (.long w :: .long u :: st) h Q ↔ WP d 145 29 lv (.long (u + w) :: st) h Q := WP_st rfl
theorem S145_29 (hi : okA 4 a i) : WP d 145 29 lv (.long u :: .int i :: .ref a :: st) h Q ↔ WP d 145 30 lv st (setL h a i.toNatClampNeg u) Q := WP_last rfl hi
theorem S145_30 : WP d 145 30 lv [] h Q ↔ Q (some none) h := WP_end rfl rfl rfl
theorem S146_0 : WP d 146 0 (some (.ref a) :: lv) st h Q ↔ WP d 146 1 (some (.ref a) :: lv) (.ref a :: st) h Q := WP_st rfl
theorem S146_1 (hs : shp a = some (0, 8)) : WP d 146 1 lv (.ref a :: st) h Q ↔ WP d 146 4 lv (.ref (RV a 24) :: st) h Q := WP_getR (r := 536) rfl hs (by decide)
theorem S146_4 : WP d 146 4 (a0 :: some (.int x) :: lv) st h Q ↔ WP d 146 5 (a0 :: some (.int x) :: lv) (.int x :: st) h Q := WP_st rfl
theorem S146_5 (hi : okA 1 a i) : WP d 146 5 lv (.int i :: .ref a :: st) h Q ↔ WP d 146 6 lv (.int (h.1 a i.toNatClampNeg) :: st) h Q := WP_iald rfl hi
theorem S146_6 : WP d 146 6 lv st h Q ↔ WP d 146 7 lv (.int (-1) :: st) h Q := WP_st rfl
theorem S146_7 : WP d 146 7 lv (.int y :: .int x :: st) h Q ↔ if x = y then WP d 146 10 lv st h Q else WP d 146 11 lv st h Q := WP_br rfl
theorem S146_10 : WP d 146 10 lv [] h Q ↔ Q (some none) h := WP_end rfl rfl rfl
theorem S146_11 : WP d 146 11 (some (.ref a) :: lv) st h Q ↔ WP d 146 12 (some (.ref a) :: lv) (.ref a :: st) h Q := WP_st rfl
theorem S146_12 : WP d 146 12 (a0 :: some (.int x) :: lv) st h Q ↔ WP d 146 13 (a0 :: some (.int x) :: lv) (.int x :: st) h Q := WP_st rfl
theorem S146_13 : WP d 146 13 (some (.ref a) :: lv) st h Q ↔ WP d 146 14 (some (.ref a) :: lv) (.ref a :: st) h Q := WP_st rfl
theorem S146_14 (hs : shp a = some (0, 8)) : WP d 146 14 lv (.ref a :: st) h Q ↔ WP d 146 17 lv (.ref (RV a 24) :: st) h Q := WP_getR (r := 536) rfl hs (by decide)
theorem S146_17 : WP d 146 17 (a0 :: some (.int x) :: lv) st h Q ↔ WP d 146 18 (a0 :: some (.int x) :: lv) (.int x :: st) h Q := WP_st rfl
theorem S146_18 (hi : okA 1 a i) : WP d 146 18 lv (.int i :: .ref a :: st) h Q ↔ WP d 146 19 lv (.int (h.1 a i.toNatClampNeg) :: st) h Q := WP_iald rfl hi
theorem S146_19 : WP d 146 19 (a0 :: a1 :: a2v :: some (.long u) :: lv) st h Q ↔ WP d 146 20 (a0 :: a1 :: a2v :: some (.long u) :: lv) (.long u :: st) h Q := WP_st rfl
theorem S146_20 {pr0 : Nat} {pi0 : Int32} {pi1 : Int32} {pj0 : Int64} (hs : shp pr0 = some (0, 8)) : WP (d + 1) 146 20 lv [.long pj0, .int pi1, .int pi0, .ref pr0] h Q ↔ WP d 145 0 [some (.ref pr0), some (.int pi0), some (.int pi1), some (.long pj0), none] [] h (kV (d + 1) 146 23 lv [] Q) := WP_callVV rfl rfl rfl rfl rfl hs
theorem S146_23 : WP d 146 23 (some (.ref a) :: lv) st h Q ↔ WP d 146 24 (some (.ref a) :: lv) (.ref a :: st) h Q := WP_st rfl
theorem S146_24 : WP d 146 24 (a0 :: some (.int x) :: lv) st h Q ↔ WP d 146 25 (a0 :: some (.int x) :: lv) (.int x :: st) h Q := WP_st rfl
theorem S146_25 : WP d 146 25 lv st h Q ↔ WP d 146 26 lv (.int 5 :: st) h Q := WP_st rfl
theorem S146_26 : WP d 146 26 (a0 :: a1 :: a2v :: some (.long u) :: lv) st h Q ↔ WP d 146 27 (a0 :: a1 :: a2v :: some (.long u) :: lv) (.long u :: st) h Q := WP_st rfl
theorem S146_27 : WP d 146 27 (a0 :: a1 :: a2v :: a3 :: a4 :: some (.long u) :: lv) st h Q ↔ WP d 146 29 (a0 :: a1 :: a2v :: a3 :: a4 :: some (.long u) :: lv) (.long u :: st) h Q := WP_st rfl
theorem S146_29 : WP d 146 29 lv (.long w :: .long u :: st) h Q ↔ WP d 146 30 lv (.long (u * w) :: st) h Q := WP_st rfl
theorem S146_30 {pr0 : Nat} {pi0 : Int32} {pi1 : Int32} {pj0 : Int64} (hs : shp pr0 = some (0, 8)) : WP (d + 1) 146 30 lv [.long pj0, .int pi1, .int pi0, .ref pr0] h Q ↔ WP d 145 0 [some (.ref pr0), some (.int pi0), some (.int pi1), some (.long pj0), none] [] h (kV (d + 1) 146 33 lv [] Q) := WP_callVV rfl rfl rfl rfl rfl hs
theorem S146_33 : WP d 146 33 (some (.ref a) :: lv) st h Q ↔ WP d 146 34 (some (.ref a) :: lv) (.ref a :: st) h Q := WP_st rfl
theorem S146_34 (hs : shp a = some (0, 8)) : WP d 146 34 lv (.ref a :: st) h Q ↔ WP d 146 37 lv (.ref (RV a 24) :: st) h Q := WP_getR (r := 536) rfl hs (by decide)
theorem S146_37 : WP d 146 37 (a0 :: a1 :: some (.int x) :: lv) st h Q ↔ WP d 146 38 (a0 :: a1 :: some (.int x) :: lv) (.int x :: st) h Q := WP_st rfl
theorem S146_38 (hi : okA 1 a i) : WP d 146 38 lv (.int i :: .ref a :: st) h Q ↔ WP d 146 39 lv (.int (h.1 a i.toNatClampNeg) :: st) h Q := WP_iald rfl hi
theorem S146_39 : WP d 146 39 lv st h Q ↔ WP d 146 40 lv (.int (-1) :: st) h Q := WP_st rfl
theorem S146_40 : WP d 146 40 lv (.int y :: .int x :: st) h Q ↔ if x = y then WP d 146 59 lv st h Q else WP d 146 43 lv st h Q := WP_br rfl
theorem S146_43 : WP d 146 43 (some (.ref a) :: lv) st h Q ↔ WP d 146 44 (some (.ref a) :: lv) (.ref a :: st) h Q := WP_st rfl
theorem S146_44 : WP d 146 44 (a0 :: some (.int x) :: lv) st h Q ↔ WP d 146 45 (a0 :: some (.int x) :: lv) (.int x :: st) h Q := WP_st rfl
theorem S146_45 : WP d 146 45 (some (.ref a) :: lv) st h Q ↔ WP d 146 46 (some (.ref a) :: lv) (.ref a :: st) h Q := WP_st rfl
theorem S146_46 (hs : shp a = some (0, 8)) : WP d 146 46 lv (.ref a :: st) h Q ↔ WP d 146 49 lv (.ref (RV a 24) :: st) h Q := WP_getR (r := 536) rfl hs (by decide)
theorem S146_49 : WP d 146 49 (a0 :: a1 :: some (.int x) :: lv) st h Q ↔ WP d 146 50 (a0 :: a1 :: some (.int x) :: lv) (.int x :: st) h Q := WP_st rfl
theorem S146_50 (hi : okA 1 a i) : WP d 146 50 lv (.int i :: .ref a :: st) h Q ↔ WP d 146 51 lv (.int (h.1 a i.toNatClampNeg) :: st) h Q := WP_iald rfl hi
theorem S146_51 : WP d 146 51 (a0 :: a1 :: a2v :: some (.long u) :: lv) st h Q ↔ WP d 146 52 (a0 :: a1 :: a2v :: some (.long u) :: lv) (.long u :: st) h Q := WP_st rfl
theorem S146_52 : WP d 146 52 lv (.long u :: st) h Q ↔ WP d 146 53 lv (.long (-u) :: st) h Q := WP_st rfl
theorem S146_53 {pr0 : Nat} {pi0 : Int32} {pi1 : Int32} {pj0 : Int64} (hs : shp pr0 = some (0, 8)) : WP (d + 1) 146 53 lv [.long pj0, .int pi1, .int pi0, .ref pr0] h Q ↔ WP d 145 0 [some (.ref pr0), some (.int pi0), some (.int pi1), some (.long pj0), none] [] h (kV (d + 1) 146 56 lv [] Q) := WP_callVV rfl rfl rfl rfl rfl hs
theorem S146_56 : WP d 146 56 lv st h Q ↔ WP d 146 92 lv st h Q := WP_st rfl
theorem S146_59 : WP d 146 59 (a0 :: a1 :: a2v :: a3 :: a4 :: a5 :: a6 :: some (.int x) :: lv) st h Q ↔ WP d 146 61 (a0 :: a1 :: a2v :: a3 :: a4 :: a5 :: a6 :: some (.int x) :: lv) (.int x :: st) h Q := WP_st rfl
theorem S146_61 : WP d 146 61 lv (.int x :: st) h Q ↔ if x = 0 then WP d 146 92 lv st h Q else WP d 146 64 lv st h Q := WP_br rfl
theorem S146_64 : WP d 146 64 (some (.ref a) :: lv) st h Q ↔ WP d 146 65 (some (.ref a) :: lv) (.ref a :: st) h Q := WP_st rfl
theorem S146_65 : WP d 146 65 (a0 :: some (.int x) :: lv) st h Q ↔ WP d 146 66 (a0 :: some (.int x) :: lv) (.int x :: st) h Q := WP_st rfl
theorem S146_66 : WP d 146 66 lv st h Q ↔ WP d 146 67 lv (.int 5 :: st) h Q := WP_st rfl
theorem S146_67 : WP d 146 67 (a0 :: a1 :: a2v :: some (.long u) :: lv) st h Q ↔ WP d 146 68 (a0 :: a1 :: a2v :: some (.long u) :: lv) (.long u :: st) h Q := WP_st rfl
theorem S146_68 : WP d 146 68 (some (.ref a) :: lv) st h Q ↔ WP d 146 69 (some (.ref a) :: lv) (.ref a :: st) h Q := WP_st rfl
theorem S146_69 (hs : shp a = some (0, 8)) : WP d 146 69 lv (.ref a :: st) h Q ↔ WP d 146 72 lv (.ref (RV a 13) :: st) h Q := WP_getR (r := 525) rfl hs (by decide)
theorem S146_72 : WP d 146 72 lv st h Q ↔ WP d 146 74 lv (.int 8 :: st) h Q := WP_st rfl
theorem S146_74 : WP d 146 74 (a0 :: a1 :: some (.int x) :: lv) st h Q ↔ WP d 146 75 (a0 :: a1 :: some (.int x) :: lv) (.int x :: st) h Q := WP_st rfl
theorem S146_75 : WP d 146 75 lv (.int y :: .int x :: st) h Q ↔ WP d 146 76 lv (.int (x + y) :: st) h Q := WP_st rfl
theorem S146_76 (hi : okA 1 a i) : WP d 146 76 lv (.int i :: .ref a :: st) h Q ↔ WP d 146 77 lv (.int (h.1 a i.toNatClampNeg) :: st) h Q := WP_iald rfl hi
theorem S146_77 : WP d 146 77 lv (.int x :: st) h Q ↔ WP d 146 78 lv (.long x.toInt64 :: st) h Q := WP_st rfl
theorem S146_78 : WP d 146 78 lv (.long w :: .long u :: st) h Q ↔ WP d 146 79 lv (.long (u * w) :: st) h Q := WP_st rfl
theorem S146_79 : WP d 146 79 (some (.ref a) :: lv) st h Q ↔ WP d 146 80 (some (.ref a) :: lv) (.ref a :: st) h Q := WP_st rfl
theorem S146_80 (hs : shp a = some (0, 8)) : WP d 146 80 lv (.ref a :: st) h Q ↔ WP d 146 83 lv (.ref (RV a 13) :: st) h Q := WP_getR (r := 525) rfl hs (by decide)
theorem S146_83 : WP d 146 83 lv st h Q ↔ WP d 146 84 lv (.int 2 :: st) h Q := WP_st rfl
theorem S146_84 : WP d 146 84 (a0 :: a1 :: some (.int x) :: lv) st h Q ↔ WP d 146 85 (a0 :: a1 :: some (.int x) :: lv) (.int x :: st) h Q := WP_st rfl
theorem S146_85 : WP d 146 85 lv (.int y :: .int x :: st) h Q ↔ WP d 146 86 lv (.int (x + y) :: st) h Q := WP_st rfl
theorem S146_86 (hi : okA 1 a i) : WP d 146 86 lv (.int i :: .ref a :: st) h Q ↔ WP d 146 87 lv (.int (h.1 a i.toNatClampNeg) :: st) h Q := WP_iald rfl hi
theorem S146_87 : WP d 146 87 lv (.int x :: st) h Q ↔ WP d 146 88 lv (.long x.toInt64 :: st) h Q := WP_st rfl
theorem S146_88 : WP d 146 88 lv (.long w :: .long u :: st) h Q ↔ WP d 146 89 lv (.long (u * w) :: st) h Q := WP_st rfl
theorem S146_89 {pr0 : Nat} {pi0 : Int32} {pi1 : Int32} {pj0 : Int64} (hs : shp pr0 = some (0, 8)) : WP (d + 1) 146 89 lv [.long pj0, .int pi1, .int pi0, .ref pr0] h Q ↔ WP d 145 0 [some (.ref pr0), some (.int pi0), some (.int pi1), some (.long pj0), none] [] h (kV (d + 1) 146 92 lv [] Q) := WP_callVV rfl rfl rfl rfl rfl hs
theorem S146_92 : WP d 146 92 lv [] h Q ↔ Q (some none) h := WP_end rfl rfl rfl
theorem S147_0 : WP d 147 0 (some (.ref a) :: lv) st h Q ↔ WP d 147 1 (some (.ref a) :: lv) (.ref a :: st) h Q := WP_st rfl
theorem S147_1 {pr0 : Nat} (hs : shp pr0 = some (0, 8)) : WP (d + 1) 147 1 lv [.ref pr0] h Q ↔ WP d 144 0 [some (.ref pr0), none] [] h (kV (d + 1) 147 4 lv [] Q) := WP_callVV rfl rfl rfl rfl rfl hs
theorem S147_4 : WP d 147 4 lv st h Q ↔ WP d 147 5 lv (.int 0 :: st) h Q := WP_st rfl
theorem S147_5 : WP d 147 5 (a0 :: a1 :: a2v :: lv) (.int x :: st) h Q ↔ WP d 147 6 (a0 :: kl a1 :: some (.int x) :: lv) st h Q := WP_st (by rfl)
theorem S147_6 : WP d 147 6 (a0 :: a1 :: some (.int x) :: lv) st h Q ↔ WP d 147 7 (a0 :: a1 :: some (.int x) :: lv) (.int x :: st) h Q := WP_st rfl
theorem S147_7 : WP d 147 7 (some (.ref a) :: lv) st h Q ↔ WP d 147 8 (some (.ref a) :: lv) (.ref a :: st) h Q := WP_st rfl
theorem S147_8 {pr0 : Nat} {qi0 : Int32} (hs : shp pr0 = some (0, 8)) : WP (d + 1) 147 8 lv [.ref pr0, .int qi0] h Q ↔ WP d 129 0 [some (.ref pr0)] [] h (kR (d + 1) 147 11 lv [.int qi0] Q) := WP_callVR rfl rfl rfl rfl rfl hs
theorem S147_11 : WP d 147 11 lv (.int y :: .int x :: st) h Q ↔ if y ≤ x then WP d 147 103 lv st h Q else WP d 147 14 lv st h Q := WP_br rfl
theorem S147_14 : WP d 147 14 (some (.ref a) :: lv) st h Q ↔ WP d 147 15 (some (.ref a) :: lv) (.ref a :: st) h Q := WP_st rfl
theorem S147_15 : WP d 147 15 (a0 :: a1 :: some (.int x) :: lv) st h Q ↔ WP d 147 16 (a0 :: a1 :: some (.int x) :: lv) (.int x :: st) h Q := WP_st rfl
theorem S147_16 {pr0 : Nat} {pi0 : Int32} (hs : shp pr0 = some (0, 8)) : WP (d + 1) 147 16 lv [.int pi0, .ref pr0] h Q ↔ WP d 133 0 [some (.ref pr0), some (.int pi0)] [] h (kR (d + 1) 147 19 lv [] Q) := WP_callVR rfl rfl rfl rfl rfl hs
theorem S147_19 : WP d 147 19 lv (.int x :: st) h Q ↔ if x = 0 then WP d 147 22 lv st h Q else WP d 147 25 lv st h Q := WP_br rfl
theorem S147_22 : WP d 147 22 lv st h Q ↔ WP d 147 97 lv st h Q := WP_st rfl
theorem S147_25 : WP d 147 25 (a0 :: some (.int x) :: lv) st h Q ↔ WP d 147 26 (a0 :: some (.int x) :: lv) (.int x :: st) h Q := WP_st rfl
theorem S147_26 : WP d 147 26 lv (.int x :: st) h Q ↔ if x = 0 then WP d 147 42 lv st h Q else WP d 147 29 lv st h Q := WP_br rfl
theorem S147_29 : WP d 147 29 (some (.ref a) :: lv) st h Q ↔ WP d 147 30 (some (.ref a) :: lv) (.ref a :: st) h Q := WP_st rfl
theorem S147_30 (hs : shp a = some (0, 8)) : WP d 147 30 lv (.ref a :: st) h Q ↔ WP d 147 33 lv (.ref (RV a 13) :: st) h Q := WP_getR (r := 525) rfl hs (by decide)
theorem S147_33 : WP d 147 33 lv st h Q ↔ WP d 147 35 lv (.int 36 :: st) h Q := WP_st rfl
theorem S147_35 : WP d 147 35 (a0 :: a1 :: some (.int x) :: lv) st h Q ↔ WP d 147 36 (a0 :: a1 :: some (.int x) :: lv) (.int x :: st) h Q := WP_st rfl
theorem S147_36 : WP d 147 36 lv (.int y :: .int x :: st) h Q ↔ WP d 147 37 lv (.int (x + y) :: st) h Q := WP_st rfl
theorem S147_37 (hi : okA 1 a i) : WP d 147 37 lv (.int i :: .ref a :: st) h Q ↔ WP d 147 38 lv (.int (h.1 a i.toNatClampNeg) :: st) h Q := WP_iald rfl hi
theorem S147_38 : WP d 147 38 lv (.int x :: st) h Q ↔ WP d 147 39 lv (.long x.toInt64 :: st) h Q := WP_st rfl
theorem S147_39 : WP d 147 39 lv st h Q ↔ WP d 147 43 lv st h Q := WP_st rfl
theorem S147_42 : WP d 147 42 lv st h Q ↔ WP d 147 43 lv (.long 0 :: st) h Q := WP_st rfl
theorem S147_43 : WP d 147 43 (a0 :: a1 :: a2v :: a3 :: a4 :: lv) (.long u :: st) h Q ↔ WP d 147 44 (a0 :: a1 :: kl a2v :: some (.long u) :: none :: lv) st h Q := WP_st (by rfl)
theorem S147_44 : WP d 147 44 (some (.ref a) :: lv) st h Q ↔ WP d 147 45 (some (.ref a) :: lv) (.ref a :: st) h Q := WP_st rfl
theorem S147_45 : WP d 147 45 (some (.ref a) :: lv) st h Q ↔ WP d 147 46 (some (.ref a) :: lv) (.ref a :: st) h Q := WP_st rfl
theorem S147_46 : WP d 147 46 (a0 :: a1 :: some (.int x) :: lv) st h Q ↔ WP d 147 47 (a0 :: a1 :: some (.int x) :: lv) (.int x :: st) h Q := WP_st rfl
theorem S147_47 {pr0 : Nat} {pi0 : Int32} {qr1 : Nat} (hs : shp pr0 = some (0, 8)) : WP (d + 1) 147 47 lv [.int pi0, .ref pr0, .ref qr1] h Q ↔ WP d 135 0 [some (.ref pr0), some (.int pi0)] [] h (kR (d + 1) 147 50 lv [.ref qr1] Q) := WP_callVR rfl rfl rfl rfl rfl hs
theorem S147_50 : WP d 147 50 (some (.ref a) :: lv) st h Q ↔ WP d 147 51 (some (.ref a) :: lv) (.ref a :: st) h Q := WP_st rfl
theorem S147_51 : WP d 147 51 (a0 :: a1 :: some (.int x) :: lv) st h Q ↔ WP d 147 52 (a0 :: a1 :: some (.int x) :: lv) (.int x :: st) h Q := WP_st rfl
theorem S147_52 {pr0 : Nat} {pi0 : Int32} {qr1 : Nat} {qi1 : Int32} (hs : shp pr0 = some (0, 8)) : WP (d + 1) 147 52 lv [.int pi0, .ref pr0, .int qi1, .ref qr1] h Q ↔ WP d 134 0 [some (.ref pr0), some (.int pi0)] [] h (kR (d + 1) 147 55 lv [.int qi1, .ref qr1] Q) := WP_callVR rfl rfl rfl rfl rfl hs
theorem S147_55 : WP d 147 55 (some (.ref a) :: lv) st h Q ↔ WP d 147 56 (some (.ref a) :: lv) (.ref a :: st) h Q := WP_st rfl
theorem S147_56 (hs : shp a = some (0, 8)) : WP d 147 56 lv (.ref a :: st) h Q ↔ WP d 147 59 lv (.ref (RV a 13) :: st) h Q := WP_getR (r := 525) rfl hs (by decide)
theorem S147_59 : WP d 147 59 lv st h Q ↔ WP d 147 61 lv (.int 47 :: st) h Q := WP_st rfl
theorem S147_61 : WP d 147 61 (a0 :: a1 :: some (.int x) :: lv) st h Q ↔ WP d 147 62 (a0 :: a1 :: some (.int x) :: lv) (.int x :: st) h Q := WP_st rfl
theorem S147_62 : WP d 147 62 lv (.int y :: .int x :: st) h Q ↔ WP d 147 63 lv (.int (x + y) :: st) h Q := WP_st rfl
theorem S147_63 (hi : okA 1 a i) : WP d 147 63 lv (.int i :: .ref a :: st) h Q ↔ WP d 147 64 lv (.int (h.1 a i.toNatClampNeg) :: st) h Q := WP_iald rfl hi
theorem S147_64 : WP d 147 64 lv (.int x :: st) h Q ↔ WP d 147 65 lv (.long x.toInt64 :: st) h Q := WP_st rfl
theorem S147_65 : WP d 147 65 (a0 :: a1 :: a2v :: some (.long u) :: lv) st h Q ↔ WP d 147 66 (a0 :: a1 :: a2v :: some (.long u) :: lv) (.long u :: st) h Q := WP_st rfl
theorem S147_66 : WP d 147 66 (a0 :: some (.int x) :: lv) st h Q ↔ WP d 147 67 (a0 :: some (.int x) :: lv) (.int x :: st) h Q := WP_st rfl
theorem S147_67 {pr0 : Nat} {pi0 : Int32} {pi1 : Int32} {pj0 : Int64} {pj1 : Int64} {pi2 : Int32} (hs : shp pr0 = some (0, 8)) : WP (d + 1) 147 67 lv [.int pi2, .long pj1, .long pj0, .int pi1, .int pi0, .ref pr0] h Q ↔ WP d 146 0 [some (.ref pr0), some (.int pi0), some (.int pi1), some (.long pj0), none, some (.long pj1), none, some (.int pi2)] [] h (kV (d + 1) 147 70 lv [] Q) := WP_callVV rfl rfl rfl rfl rfl hs
theorem S147_70 : WP d 147 70 (some (.ref a) :: lv) st h Q ↔ WP d 147 71 (some (.ref a) :: lv) (.ref a :: st) h Q := WP_st rfl
theorem S147_71 : WP d 147 71 (some (.ref a) :: lv) st h Q ↔ WP d 147 72 (some (.ref a) :: lv) (.ref a :: st) h Q := WP_st rfl
theorem S147_72 : WP d 147 72 (a0 :: a1 :: some (.int x) :: lv) st h Q ↔ WP d 147 73 (a0 :: a1 :: some (.int x) :: lv) (.int x :: st) h Q := WP_st rfl
theorem S147_73 {pr0 : Nat} {pi0 : Int32} {qr1 : Nat} (hs : shp pr0 = some (0, 8)) : WP (d + 1) 147 73 lv [.int pi0, .ref pr0, .ref qr1] h Q ↔ WP d 134 0 [some (.ref pr0), some (.int pi0)] [] h (kR (d + 1) 147 76 lv [.ref qr1] Q) := WP_callVR rfl rfl rfl rfl rfl hs
theorem S147_76 : WP d 147 76 (some (.ref a) :: lv) st h Q ↔ WP d 147 77 (some (.ref a) :: lv) (.ref a :: st) h Q := WP_st rfl
theorem S147_77 : WP d 147 77 (a0 :: a1 :: some (.int x) :: lv) st h Q ↔ WP d 147 78 (a0 :: a1 :: some (.int x) :: lv) (.int x :: st) h Q := WP_st rfl
theorem S147_78 {pr0 : Nat} {pi0 : Int32} {qr1 : Nat} {qi1 : Int32} (hs : shp pr0 = some (0, 8)) : WP (d + 1) 147 78 lv [.int pi0, .ref pr0, .int qi1, .ref qr1] h Q ↔ WP d 135 0 [some (.ref pr0), some (.int pi0)] [] h (kR (d + 1) 147 81 lv [.int qi1, .ref qr1] Q) := WP_callVR rfl rfl rfl rfl rfl hs
theorem S147_81 : WP d 147 81 (some (.ref a) :: lv) st h Q ↔ WP d 147 82 (some (.ref a) :: lv) (.ref a :: st) h Q := WP_st rfl
theorem S147_82 (hs : shp a = some (0, 8)) : WP d 147 82 lv (.ref a :: st) h Q ↔ WP d 147 85 lv (.ref (RV a 13) :: st) h Q := WP_getR (r := 525) rfl hs (by decide)
theorem S147_85 : WP d 147 85 lv st h Q ↔ WP d 147 87 lv (.int 47 :: st) h Q := WP_st rfl
theorem S147_87 : WP d 147 87 (a0 :: a1 :: some (.int x) :: lv) st h Q ↔ WP d 147 88 (a0 :: a1 :: some (.int x) :: lv) (.int x :: st) h Q := WP_st rfl
theorem S147_88 : WP d 147 88 lv (.int y :: .int x :: st) h Q ↔ WP d 147 89 lv (.int (x + y) :: st) h Q := WP_st rfl
theorem S147_89 (hi : okA 1 a i) : WP d 147 89 lv (.int i :: .ref a :: st) h Q ↔ WP d 147 90 lv (.int (h.1 a i.toNatClampNeg) :: st) h Q := WP_iald rfl hi
theorem S147_90 : WP d 147 90 lv (.int x :: st) h Q ↔ WP d 147 91 lv (.long x.toInt64 :: st) h Q := WP_st rfl
theorem S147_91 : WP d 147 91 (a0 :: a1 :: a2v :: some (.long u) :: lv) st h Q ↔ WP d 147 92 (a0 :: a1 :: a2v :: some (.long u) :: lv) (.long u :: st) h Q := WP_st rfl
theorem S147_92 : WP d 147 92 lv (.long u :: st) h Q ↔ WP d 147 93 lv (.long (-u) :: st) h Q := WP_st rfl
theorem S147_93 : WP d 147 93 (a0 :: some (.int x) :: lv) st h Q ↔ WP d 147 94 (a0 :: some (.int x) :: lv) (.int x :: st) h Q := WP_st rfl
theorem S147_94 {pr0 : Nat} {pi0 : Int32} {pi1 : Int32} {pj0 : Int64} {pj1 : Int64} {pi2 : Int32} (hs : shp pr0 = some (0, 8)) : WP (d + 1) 147 94 lv [.int pi2, .long pj1, .long pj0, .int pi1, .int pi0, .ref pr0] h Q ↔ WP d 146 0 [some (.ref pr0), some (.int pi0), some (.int pi1), some (.long pj0), none, some (.long pj1), none, some (.int pi2)] [] h (kV (d + 1) 147 97 lv [] Q) := WP_callVV rfl rfl rfl rfl rfl hs
theorem S147_97 : WP d 147 97 (a0 :: a1 :: some (.int x) :: lv) st h Q ↔ WP d 147 100 (a0 :: kl a1 :: some (.int (x + 1)) :: lv) st h Q := WP_st (by rfl)
theorem S147_100 : WP d 147 100 lv st h Q ↔ WP d 147 6 lv st h Q := WP_st rfl
theorem S147_103 : WP d 147 103 lv [] h Q ↔ Q (some none) h := WP_end rfl rfl rfl
theorem S148_0 : WP d 148 0 (some (.ref a) :: lv) st h Q ↔ WP d 148 1 (some (.ref a) :: lv) (.ref a :: st) h Q := WP_st rfl
theorem S148_1 : WP d 148 1 lv st h Q ↔ WP d 148 2 lv (.long 1 :: st) h Q := WP_st rfl
theorem S148_2 (hs : shp a = some (0, 8)) : WP d 148 2 lv (.long u :: .ref a :: st) h Q ↔ WP d 148 5 lv st (setL h a 26 u) Q := WP_putL (r := 538) rfl hs (by decide)
theorem S148_5 : WP d 148 5 lv st h Q ↔ WP d 148 6 lv (.int 0 :: st) h Q := WP_st rfl
theorem S148_6 : WP d 148 6 (a0 :: a1 :: lv) (.int x :: st) h Q ↔ WP d 148 7 (kl a0 :: some (.int x) :: lv) st h Q := WP_st (by rfl)
theorem S148_7 : WP d 148 7 (a0 :: some (.int x) :: lv) st h Q ↔ WP d 148 8 (a0 :: some (.int x) :: lv) (.int x :: st) h Q := WP_st rfl
theorem S148_8 : WP d 148 8 (some (.ref a) :: lv) st h Q ↔ WP d 148 9 (some (.ref a) :: lv) (.ref a :: st) h Q := WP_st rfl
theorem S148_9 (hs : shp a = some (0, 8)) : WP d 148 9 lv (.ref a :: st) h Q ↔ WP d 148 12 lv (.int (h.1 a 25) :: st) h Q := WP_getI (r := 537) rfl hs (by decide)
theorem S148_12 : WP d 148 12 lv (.int y :: .int x :: st) h Q ↔ if y ≤ x then WP d 148 145 lv st h Q else WP d 148 15 lv st h Q := WP_br rfl
theorem S148_15 : WP d 148 15 (some (.ref a) :: lv) st h Q ↔ WP d 148 16 (some (.ref a) :: lv) (.ref a :: st) h Q := WP_st rfl
theorem S148_16 (hs : shp a = some (0, 8)) : WP d 148 16 lv (.ref a :: st) h Q ↔ WP d 148 19 lv (.long (h.2.1 a 26) :: st) h Q := WP_getL (r := 538) rfl hs (by decide)
theorem S148_19 : WP d 148 19 (a0 :: a1 :: a2v :: a3 :: lv) (.long u :: st) h Q ↔ WP d 148 20 (a0 :: kl a1 :: some (.long u) :: none :: lv) st h Q := WP_st (by rfl)
theorem S148_20 : WP d 148 20 (some (.ref a) :: lv) st h Q ↔ WP d 148 21 (some (.ref a) :: lv) (.ref a :: st) h Q := WP_st rfl
theorem S148_21 : WP d 148 21 (some (.ref a) :: lv) st h Q ↔ WP d 148 22 (some (.ref a) :: lv) (.ref a :: st) h Q := WP_st rfl
theorem S148_22 (hs : shp a = some (0, 8)) : WP d 148 22 lv (.ref a :: st) h Q ↔ WP d 148 25 lv (.ref (RV a 23) :: st) h Q := WP_getR (r := 535) rfl hs (by decide)
theorem S148_25 : WP d 148 25 lv st h Q ↔ WP d 148 27 lv (.int 7 :: st) h Q := WP_st rfl
theorem S148_27 : WP d 148 27 (a0 :: some (.int x) :: lv) st h Q ↔ WP d 148 28 (a0 :: some (.int x) :: lv) (.int x :: st) h Q := WP_st rfl
theorem S148_28 : WP d 148 28 lv (.int y :: .int x :: st) h Q ↔ WP d 148 29 lv (.int (x * y) :: st) h Q := WP_st rfl
theorem S148_29 (hi : okA 4 a i) : WP d 148 29 lv (.int i :: .ref a :: st) h Q ↔ WP d 148 30 lv (.long (h.2.1 a i.toNatClampNeg) :: st) h Q := WP_lald rfl hi
theorem S148_30 (hs : shp a = some (0, 8)) : WP d 148 30 lv (.long u :: .ref a :: st) h Q ↔ WP d 148 33 lv st (setL h a 26 u) Q := WP_putL (r := 538) rfl hs (by decide)
theorem S148_33 : WP d 148 33 lv st h Q ↔ WP d 148 34 lv (.int 0 :: st) h Q := WP_st rfl
theorem S148_34 : WP d 148 34 (a0 :: a1 :: a2v :: a3 :: a4 :: lv) (.int x :: st) h Q ↔ WP d 148 36 (a0 :: a1 :: a2v :: kl a3 :: some (.int x) :: lv) st h Q := WP_st (by rfl)
theorem S148_36 : WP d 148 36 (a0 :: a1 :: a2v :: a3 :: some (.int x) :: lv) st h Q ↔ WP d 148 38 (a0 :: a1 :: a2v :: a3 :: some (.int x) :: lv) (.int x :: st) h Q := WP_st rfl
theorem S148_38 : WP d 148 38 (some (.ref a) :: lv) st h Q ↔ WP d 148 39 (some (.ref a) :: lv) (.ref a :: st) h Q := WP_st rfl
theorem S148_39 (hs : shp a = some (0, 8)) : WP d 148 39 lv (.ref a :: st) h Q ↔ WP d 148 42 lv (.int (h.1 a 25) :: st) h Q := WP_getI (r := 537) rfl hs (by decide)
theorem S148_42 : WP d 148 42 lv (.int y :: .int x :: st) h Q ↔ if y ≤ x then WP d 148 139 lv st h Q else WP d 148 45 lv st h Q := WP_br rfl
theorem S148_45 : WP d 148 45 (a0 :: a1 :: a2v :: a3 :: some (.int x) :: lv) st h Q ↔ WP d 148 47 (a0 :: a1 :: a2v :: a3 :: some (.int x) :: lv) (.int x :: st) h Q := WP_st rfl
theorem S148_47 : WP d 148 47 (a0 :: some (.int x) :: lv) st h Q ↔ WP d 148 48 (a0 :: some (.int x) :: lv) (.int x :: st) h Q := WP_st rfl
theorem S148_48 : WP d 148 48 lv (.int y :: .int x :: st) h Q ↔ if x = y then WP d 148 51 lv st h Q else WP d 148 54 lv st h Q := WP_br rfl
theorem S148_51 : WP d 148 51 lv st h Q ↔ WP d 148 133 lv st h Q := WP_st rfl
theorem S148_54 : WP d 148 54 (some (.ref a) :: lv) st h Q ↔ WP d 148 55 (some (.ref a) :: lv) (.ref a :: st) h Q := WP_st rfl
theorem S148_55 (hs : shp a = some (0, 8)) : WP d 148 55 lv (.ref a :: st) h Q ↔ WP d 148 58 lv (.ref (RV a 23) :: st) h Q := WP_getR (r := 535) rfl hs (by decide)
theorem S148_58 : WP d 148 58 lv st h Q ↔ WP d 148 60 lv (.int 6 :: st) h Q := WP_st rfl
theorem S148_60 : WP d 148 60 (a0 :: a1 :: a2v :: a3 :: some (.int x) :: lv) st h Q ↔ WP d 148 62 (a0 :: a1 :: a2v :: a3 :: some (.int x) :: lv) (.int x :: st) h Q := WP_st rfl
theorem S148_62 : WP d 148 62 lv (.int y :: .int x :: st) h Q ↔ WP d 148 63 lv (.int (x * y) :: st) h Q := WP_st rfl
theorem S148_63 : WP d 148 63 (a0 :: some (.int x) :: lv) st h Q ↔ WP d 148 64 (a0 :: some (.int x) :: lv) (.int x :: st) h Q := WP_st rfl
theorem S148_64 : WP d 148 64 lv (.int y :: .int x :: st) h Q ↔ WP d 148 65 lv (.int (x + y) :: st) h Q := WP_st rfl
theorem S148_65 (hi : okA 4 a i) : WP d 148 65 lv (.int i :: .ref a :: st) h Q ↔ WP d 148 66 lv (.long (h.2.1 a i.toNatClampNeg) :: st) h Q := WP_lald rfl hi
theorem S148_66 : WP d 148 66 (a0 :: a1 :: a2v :: a3 :: a4 :: a5 :: a6 :: lv) (.long u :: st) h Q ↔ WP d 148 68 (a0 :: a1 :: a2v :: a3 :: kl a4 :: some (.long u) :: none :: lv) st h Q := WP_st (by rfl)
theorem S148_68 : WP d 148 68 lv st h Q ↔ WP d 148 69 lv (.int 0 :: st) h Q := WP_st rfl
theorem S148_69 : WP d 148 69 (a0 :: a1 :: a2v :: a3 :: a4 :: a5 :: a6 :: a7 :: lv) (.int x :: st) h Q ↔ WP d 148 71 (a0 :: a1 :: a2v :: a3 :: a4 :: a5 :: kl a6 :: some (.int x) :: lv) st h Q := WP_st (by rfl)
theorem S148_71 : WP d 148 71 (a0 :: a1 :: a2v :: a3 :: a4 :: a5 :: a6 :: some (.int x) :: lv) st h Q ↔ WP d 148 73 (a0 :: a1 :: a2v :: a3 :: a4 :: a5 :: a6 :: some (.int x) :: lv) (.int x :: st) h Q := WP_st rfl
theorem S148_73 : WP d 148 73 lv st h Q ↔ WP d 148 75 lv (.int 6 :: st) h Q := WP_st rfl
theorem S148_75 : WP d 148 75 lv (.int y :: .int x :: st) h Q ↔ if y ≤ x then WP d 148 133 lv st h Q else WP d 148 78 lv st h Q := WP_br rfl
theorem S148_78 : WP d 148 78 (some (.ref a) :: lv) st h Q ↔ WP d 148 79 (some (.ref a) :: lv) (.ref a :: st) h Q := WP_st rfl
theorem S148_79 (hs : shp a = some (0, 8)) : WP d 148 79 lv (.ref a :: st) h Q ↔ WP d 148 82 lv (.ref (RV a 23) :: st) h Q := WP_getR (r := 535) rfl hs (by decide)
theorem S148_82 : WP d 148 82 lv st h Q ↔ WP d 148 84 lv (.int 6 :: st) h Q := WP_st rfl
theorem S148_84 : WP d 148 84 (a0 :: a1 :: a2v :: a3 :: some (.int x) :: lv) st h Q ↔ WP d 148 86 (a0 :: a1 :: a2v :: a3 :: some (.int x) :: lv) (.int x :: st) h Q := WP_st rfl
theorem S148_86 : WP d 148 86 lv (.int y :: .int x :: st) h Q ↔ WP d 148 87 lv (.int (x * y) :: st) h Q := WP_st rfl
theorem S148_87 : WP d 148 87 (a0 :: a1 :: a2v :: a3 :: a4 :: a5 :: a6 :: some (.int x) :: lv) st h Q ↔ WP d 148 89 (a0 :: a1 :: a2v :: a3 :: a4 :: a5 :: a6 :: some (.int x) :: lv) (.int x :: st) h Q := WP_st rfl
theorem S148_89 : WP d 148 89 lv (.int y :: .int x :: st) h Q ↔ WP d 148 90 lv (.int (x + y) :: st) h Q := WP_st rfl
theorem S148_90 : WP d 148 90 (some (.ref a) :: lv) st h Q ↔ WP d 148 91 (some (.ref a) :: lv) (.ref a :: st) h Q := WP_st rfl
theorem S148_91 (hs : shp a = some (0, 8)) : WP d 148 91 lv (.ref a :: st) h Q ↔ WP d 148 94 lv (.long (h.2.1 a 26) :: st) h Q := WP_getL (r := 538) rfl hs (by decide)
theorem S148_94 : WP d 148 94 (some (.ref a) :: lv) st h Q ↔ WP d 148 95 (some (.ref a) :: lv) (.ref a :: st) h Q := WP_st rfl
theorem S148_95 (hs : shp a = some (0, 8)) : WP d 148 95 lv (.ref a :: st) h Q ↔ WP d 148 98 lv (.ref (RV a 23) :: st) h Q := WP_getR (r := 535) rfl hs (by decide)
theorem S148_98 : WP d 148 98 lv st h Q ↔ WP d 148 100 lv (.int 6 :: st) h Q := WP_st rfl
theorem S148_100 : WP d 148 100 (a0 :: a1 :: a2v :: a3 :: some (.int x) :: lv) st h Q ↔ WP d 148 102 (a0 :: a1 :: a2v :: a3 :: some (.int x) :: lv) (.int x :: st) h Q := WP_st rfl
theorem S148_102 : WP d 148 102 lv (.int y :: .int x :: st) h Q ↔ WP d 148 103 lv (.int (x * y) :: st) h Q := WP_st rfl
theorem S148_103 : WP d 148 103 (a0 :: a1 :: a2v :: a3 :: a4 :: a5 :: a6 :: some (.int x) :: lv) st h Q ↔ WP d 148 105 (a0 :: a1 :: a2v :: a3 :: a4 :: a5 :: a6 :: some (.int x) :: lv) (.int x :: st) h Q := WP_st rfl
theorem S148_105 : WP d 148 105 lv (.int y :: .int x :: st) h Q ↔ WP d 148 106 lv (.int (x + y) :: st) h Q := WP_st rfl
theorem S148_106 (hi : okA 4 a i) : WP d 148 106 lv (.int i :: .ref a :: st) h Q ↔ WP d 148 107 lv (.long (h.2.1 a i.toNatClampNeg) :: st) h Q := WP_lald rfl hi
theorem S148_107 : WP d 148 107 lv (.long w :: .long u :: st) h Q ↔ WP d 148 108 lv (.long (u * w) :: st) h Q := WP_st rfl
theorem S148_108 : WP d 148 108 (a0 :: a1 :: a2v :: a3 :: a4 :: some (.long u) :: lv) st h Q ↔ WP d 148 110 (a0 :: a1 :: a2v :: a3 :: a4 :: some (.long u) :: lv) (.long u :: st) h Q := WP_st rfl
theorem S148_110 : WP d 148 110 (some (.ref a) :: lv) st h Q ↔ WP d 148 111 (some (.ref a) :: lv) (.ref a :: st) h Q := WP_st rfl
theorem S148_111 (hs : shp a = some (0, 8)) : WP d 148 111 lv (.ref a :: st) h Q ↔ WP d 148 114 lv (.ref (RV a 23) :: st) h Q := WP_getR (r := 535) rfl hs (by decide)
theorem S148_114 : WP d 148 114 lv st h Q ↔ WP d 148 116 lv (.int 6 :: st) h Q := WP_st rfl
theorem S148_116 : WP d 148 116 (a0 :: some (.int x) :: lv) st h Q ↔ WP d 148 117 (a0 :: some (.int x) :: lv) (.int x :: st) h Q := WP_st rfl
theorem S148_117 : WP d 148 117 lv (.int y :: .int x :: st) h Q ↔ WP d 148 118 lv (.int (x * y) :: st) h Q := WP_st rfl
theorem S148_118 : WP d 148 118 (a0 :: a1 :: a2v :: a3 :: a4 :: a5 :: a6 :: some (.int x) :: lv) st h Q ↔ WP d 148 120 (a0 :: a1 :: a2v :: a3 :: a4 :: a5 :: a6 :: some (.int x) :: lv) (.int x :: st) h Q := WP_st rfl
theorem S148_120 : WP d 148 120 lv (.int y :: .int x :: st) h Q ↔ WP d 148 121 lv (.int (x + y) :: st) h Q := WP_st rfl
theorem S148_121 (hi : okA 4 a i) : WP d 148 121 lv (.int i :: .ref a :: st) h Q ↔ WP d 148 122 lv (.long (h.2.1 a i.toNatClampNeg) :: st) h Q := WP_lald rfl hi
theorem S148_122 : WP d 148 122 lv (.long w :: .long u :: st) h Q ↔ WP d 148 123 lv (.long (u * w) :: st) h Q := WP_st rfl
theorem S148_123 : WP d 148 123 lv (.long w :: .long u :: st) h Q ↔ WP d 148 124 lv (.long (u - w) :: st) h Q := WP_st rfl
theorem S148_124 : WP d 148 124 (a0 :: a1 :: some (.long u) :: lv) st h Q ↔ WP d 148 125 (a0 :: a1 :: some (.long u) :: lv) (.long u :: st) h Q := WP_st rfl
theorem S148_125 (hy : w ≠ 0) : WP d 148 125 lv (.long w :: .long u :: st) h Q ↔ WP d 148 126 lv (.long (u / w) :: st) h Q := WP_ldiv rfl hy
theorem S148_126 (hi : okA 4 a i) : WP d 148 126 lv (.long u :: .int i :: .ref a :: st) h Q ↔ WP d 148 127 lv st (setL h a i.toNatClampNeg u) Q := WP_last rfl hi
theorem S148_127 : WP d 148 127 (a0 :: a1 :: a2v :: a3 :: a4 :: a5 :: a6 :: some (.int x) :: lv) st h Q ↔ WP d 148 130 (a0 :: a1 :: a2v :: a3 :: a4 :: a5 :: kl a6 :: some (.int (x + 1)) :: lv) st h Q := WP_st (by rfl)
theorem S148_130 : WP d 148 130 lv st h Q ↔ WP d 148 71 lv st h Q := WP_st rfl
theorem S148_133 : WP d 148 133 (a0 :: a1 :: a2v :: a3 :: some (.int x) :: lv) st h Q ↔ WP d 148 136 (a0 :: a1 :: a2v :: kl a3 :: some (.int (x + 1)) :: lv) st h Q := WP_st (by rfl)
theorem S148_136 : WP d 148 136 lv st h Q ↔ WP d 148 36 lv st h Q := WP_st rfl
theorem S148_139 : WP d 148 139 (a0 :: some (.int x) :: lv) st h Q ↔ WP d 148 142 (kl a0 :: some (.int (x + 1)) :: lv) st h Q := WP_st (by rfl)
set_option maxRecDepth 20000 in
theorem S148_142 : WP d 148 142 lv st h Q ↔ WP d 148 7 lv st h Q := WP_st rfl
set_option maxRecDepth 20000 in
theorem S148_145 : WP d 148 145 lv [] h Q ↔ Q (some none) h := WP_end rfl rfl rfl
theorem S149_0 : WP d 149 0 (some (.ref a) :: lv) st h Q ↔ WP d 149 1 (some (.ref a) :: lv) (.ref a :: st) h Q := WP_st rfl
theorem S149_1 {pr0 : Nat} (hs : shp pr0 = some (0, 8)) : WP (d + 1) 149 1 lv [.ref pr0] h Q ↔ WP d 148 0 [some (.ref pr0), none, none, none, none, none, none, none] [] h (kV (d + 1) 149 4 lv [] Q) := WP_callVV rfl rfl rfl rfl rfl hs
theorem S149_4 : WP d 149 4 lv st h Q ↔ WP d 149 5 lv (.int 0 :: st) h Q := WP_st rfl
theorem S149_5 : WP d 149 5 (a0 :: a1 :: a2v :: lv) (.int x :: st) h Q ↔ WP d 149 6 (a0 :: kl a1 :: some (.int x) :: lv) st h Q := WP_st (by rfl)
theorem S149_6 : WP d 149 6 (a0 :: a1 :: some (.int x) :: lv) st h Q ↔ WP d 149 7 (a0 :: a1 :: some (.int x) :: lv) (.int x :: st) h Q := WP_st rfl
theorem S149_7 : WP d 149 7 (some (.ref a) :: lv) st h Q ↔ WP d 149 8 (some (.ref a) :: lv) (.ref a :: st) h Q := WP_st rfl
theorem S149_8 {pr0 : Nat} {qi0 : Int32} (hs : shp pr0 = some (0, 8)) : WP (d + 1) 149 8 lv [.ref pr0, .int qi0] h Q ↔ WP d 128 0 [some (.ref pr0)] [] h (kR (d + 1) 149 11 lv [.int qi0] Q) := WP_callVR rfl rfl rfl rfl rfl hs
theorem S149_11 : WP d 149 11 lv (.int y :: .int x :: st) h Q ↔ if y ≤ x then WP d 149 86 lv st h Q else WP d 149 14 lv st h Q := WP_br rfl
theorem S149_14 : WP d 149 14 (some (.ref a) :: lv) st h Q ↔ WP d 149 15 (some (.ref a) :: lv) (.ref a :: st) h Q := WP_st rfl
theorem S149_15 (hs : shp a = some (0, 8)) : WP d 149 15 lv (.ref a :: st) h Q ↔ WP d 149 18 lv (.ref (RV a 27) :: st) h Q := WP_getR (r := 539) rfl hs (by decide)
theorem S149_18 : WP d 149 18 (a0 :: a1 :: some (.int x) :: lv) st h Q ↔ WP d 149 19 (a0 :: a1 :: some (.int x) :: lv) (.int x :: st) h Q := WP_st rfl
theorem S149_19 : WP d 149 19 (some (.ref a) :: lv) st h Q ↔ WP d 149 20 (some (.ref a) :: lv) (.ref a :: st) h Q := WP_st rfl
theorem S149_20 (hs : shp a = some (0, 8)) : WP d 149 20 lv (.ref a :: st) h Q ↔ WP d 149 23 lv (.ref (RV a 24) :: st) h Q := WP_getR (r := 536) rfl hs (by decide)
theorem S149_23 : WP d 149 23 (a0 :: a1 :: some (.int x) :: lv) st h Q ↔ WP d 149 24 (a0 :: a1 :: some (.int x) :: lv) (.int x :: st) h Q := WP_st rfl
theorem S149_24 (hi : okA 1 a i) : WP d 149 24 lv (.int i :: .ref a :: st) h Q ↔ WP d 149 25 lv (.int (h.1 a i.toNatClampNeg) :: st) h Q := WP_iald rfl hi
theorem S149_25 : WP d 149 25 lv st h Q ↔ WP d 149 26 lv (.int (-1) :: st) h Q := WP_st rfl
theorem S149_26 : WP d 149 26 lv (.int y :: .int x :: st) h Q ↔ if x = y then WP d 149 48 lv st h Q else WP d 149 29 lv st h Q := WP_br rfl
theorem S149_29 : WP d 149 29 (some (.ref a) :: lv) st h Q ↔ WP d 149 30 (some (.ref a) :: lv) (.ref a :: st) h Q := WP_st rfl
theorem S149_30 (hs : shp a = some (0, 8)) : WP d 149 30 lv (.ref a :: st) h Q ↔ WP d 149 33 lv (.ref (RV a 23) :: st) h Q := WP_getR (r := 535) rfl hs (by decide)
theorem S149_33 : WP d 149 33 lv st h Q ↔ WP d 149 35 lv (.int 6 :: st) h Q := WP_st rfl
theorem S149_35 : WP d 149 35 (some (.ref a) :: lv) st h Q ↔ WP d 149 36 (some (.ref a) :: lv) (.ref a :: st) h Q := WP_st rfl
theorem S149_36 (hs : shp a = some (0, 8)) : WP d 149 36 lv (.ref a :: st) h Q ↔ WP d 149 39 lv (.ref (RV a 24) :: st) h Q := WP_getR (r := 536) rfl hs (by decide)
theorem S149_39 : WP d 149 39 (a0 :: a1 :: some (.int x) :: lv) st h Q ↔ WP d 149 40 (a0 :: a1 :: some (.int x) :: lv) (.int x :: st) h Q := WP_st rfl
theorem S149_40 (hi : okA 1 a i) : WP d 149 40 lv (.int i :: .ref a :: st) h Q ↔ WP d 149 41 lv (.int (h.1 a i.toNatClampNeg) :: st) h Q := WP_iald rfl hi
theorem S149_41 : WP d 149 41 lv (.int y :: .int x :: st) h Q ↔ WP d 149 42 lv (.int (x * y) :: st) h Q := WP_st rfl
theorem S149_42 : WP d 149 42 lv st h Q ↔ WP d 149 43 lv (.int 5 :: st) h Q := WP_st rfl
theorem S149_43 : WP d 149 43 lv (.int y :: .int x :: st) h Q ↔ WP d 149 44 lv (.int (x + y) :: st) h Q := WP_st rfl
theorem S149_44 (hi : okA 4 a i) : WP d 149 44 lv (.int i :: .ref a :: st) h Q ↔ WP d 149 45 lv (.long (h.2.1 a i.toNatClampNeg) :: st) h Q := WP_lald rfl hi
theorem S149_45 : WP d 149 45 lv st h Q ↔ WP d 149 79 lv st h Q := WP_st rfl
theorem S149_48 : WP d 149 48 (a0 :: some (.int x) :: lv) st h Q ↔ WP d 149 49 (a0 :: some (.int x) :: lv) (.int x :: st) h Q := WP_st rfl
theorem S149_49 : WP d 149 49 lv (.int x :: st) h Q ↔ if x = 0 then WP d 149 78 lv st h Q else WP d 149 52 lv st h Q := WP_br rfl
theorem S149_52 : WP d 149 52 (some (.ref a) :: lv) st h Q ↔ WP d 149 53 (some (.ref a) :: lv) (.ref a :: st) h Q := WP_st rfl
theorem S149_53 : WP d 149 53 (a0 :: a1 :: some (.int x) :: lv) st h Q ↔ WP d 149 54 (a0 :: a1 :: some (.int x) :: lv) (.int x :: st) h Q := WP_st rfl
theorem S149_54 {pr0 : Nat} {pi0 : Int32} {qr1 : Nat} {qi1 : Int32} (hs : shp pr0 = some (0, 8)) : WP (d + 1) 149 54 lv [.int pi0, .ref pr0, .int qi1, .ref qr1] h Q ↔ WP d 132 0 [some (.ref pr0), some (.int pi0)] [] h (kR (d + 1) 149 57 lv [.int qi1, .ref qr1] Q) := WP_callVR rfl rfl rfl rfl rfl hs
theorem S149_57 : WP d 149 57 lv (.int x :: st) h Q ↔ if x = 0 then WP d 149 78 lv st h Q else WP d 149 60 lv st h Q := WP_br rfl
theorem S149_60 : WP d 149 60 (some (.ref a) :: lv) st h Q ↔ WP d 149 61 (some (.ref a) :: lv) (.ref a :: st) h Q := WP_st rfl
theorem S149_61 (hs : shp a = some (0, 8)) : WP d 149 61 lv (.ref a :: st) h Q ↔ WP d 149 64 lv (.ref (RV a 13) :: st) h Q := WP_getR (r := 525) rfl hs (by decide)
theorem S149_64 : WP d 149 64 lv st h Q ↔ WP d 149 66 lv (.int 8 :: st) h Q := WP_st rfl
theorem S149_66 : WP d 149 66 (a0 :: a1 :: some (.int x) :: lv) st h Q ↔ WP d 149 67 (a0 :: a1 :: some (.int x) :: lv) (.int x :: st) h Q := WP_st rfl
theorem S149_67 : WP d 149 67 lv (.int y :: .int x :: st) h Q ↔ WP d 149 68 lv (.int (x + y) :: st) h Q := WP_st rfl
theorem S149_68 (hi : okA 1 a i) : WP d 149 68 lv (.int i :: .ref a :: st) h Q ↔ WP d 149 69 lv (.int (h.1 a i.toNatClampNeg) :: st) h Q := WP_iald rfl hi
theorem S149_69 : WP d 149 69 lv (.int x :: st) h Q ↔ WP d 149 70 lv (.long x.toInt64 :: st) h Q := WP_st rfl
theorem S149_70 : WP d 149 70 (some (.ref a) :: lv) st h Q ↔ WP d 149 71 (some (.ref a) :: lv) (.ref a :: st) h Q := WP_st rfl
theorem S149_71 (hs : shp a = some (0, 8)) : WP d 149 71 lv (.ref a :: st) h Q ↔ WP d 149 74 lv (.long (h.2.1 a 26) :: st) h Q := WP_getL (r := 538) rfl hs (by decide)
theorem S149_74 : WP d 149 74 lv (.long w :: .long u :: st) h Q ↔ WP d 149 75 lv (.long (u * w) :: st) h Q := WP_st rfl
theorem S149_75 : WP d 149 75 lv st h Q ↔ WP d 149 79 lv st h Q := WP_st rfl
theorem S149_78 : WP d 149 78 lv st h Q ↔ WP d 149 79 lv (.long 0 :: st) h Q := WP_st rfl
theorem S149_79 (hi : okA 4 a i) : WP d 149 79 lv (.long u :: .int i :: .ref a :: st) h Q ↔ WP d 149 80 lv st (setL h a i.toNatClampNeg u) Q := WP_last rfl hi
theorem S149_80 : WP d 149 80 (a0 :: a1 :: some (.int x) :: lv) st h Q ↔ WP d 149 83 (a0 :: kl a1 :: some (.int (x + 1)) :: lv) st h Q := WP_st (by rfl)
theorem S149_83 : WP d 149 83 lv st h Q ↔ WP d 149 6 lv st h Q := WP_st rfl
theorem S149_86 : WP d 149 86 lv [] h Q ↔ Q (some none) h := WP_end rfl rfl rfl
theorem S150_0 : WP d 150 0 (some (.ref a) :: lv) st h Q ↔ WP d 150 1 (some (.ref a) :: lv) (.ref a :: st) h Q := WP_st rfl
theorem S150_1 : WP d 150 1 lv st h Q ↔ WP d 150 2 lv (.int 1 :: st) h Q := WP_st rfl
theorem S150_2 {pr0 : Nat} {pi0 : Int32} (hs : shp pr0 = some (0, 8)) : WP (d + 1) 150 2 lv [.int pi0, .ref pr0] h Q ↔ WP d 147 0 [some (.ref pr0), some (.int pi0), none, none, none] [] h (kV (d + 1) 150 5 lv [] Q) := WP_callVV rfl rfl rfl rfl rfl hs
theorem S150_5 : WP d 150 5 (some (.ref a) :: lv) st h Q ↔ WP d 150 6 (some (.ref a) :: lv) (.ref a :: st) h Q := WP_st rfl
theorem S150_6 : WP d 150 6 lv st h Q ↔ WP d 150 7 lv (.int 1 :: st) h Q := WP_st rfl
theorem S150_7 {pr0 : Nat} {pi0 : Int32} (hs : shp pr0 = some (0, 8)) : WP (d + 1) 150 7 lv [.int pi0, .ref pr0] h Q ↔ WP d 149 0 [some (.ref pr0), some (.int pi0), none] [] h (kV (d + 1) 150 10 lv [] Q) := WP_callVV rfl rfl rfl rfl rfl hs
theorem S150_10 : WP d 150 10 lv [] h Q ↔ Q (some none) h := WP_end rfl rfl rfl
theorem S151_0 : WP d 151 0 (a0 :: some (.long u) :: lv) st h Q ↔ WP d 151 1 (a0 :: some (.long u) :: lv) (.long u :: st) h Q := WP_st rfl
theorem S151_1 : WP d 151 1 lv st h Q ↔ WP d 151 2 lv (.long 0 :: st) h Q := WP_st rfl
theorem S151_2 : WP d 151 2 lv (.long w :: .long u :: st) h Q ↔ WP d 151 3 lv (.int (lg_cmp u w) :: st) h Q := WP_st rfl
theorem S151_3 : WP d 151 3 lv (.int x :: st) h Q ↔ if 0 ≤ x then WP d 151 11 lv st h Q else WP d 151 6 lv st h Q := WP_br rfl
theorem S151_6 : WP d 151 6 (a0 :: some (.long u) :: lv) st h Q ↔ WP d 151 7 (a0 :: some (.long u) :: lv) (.long u :: st) h Q := WP_st rfl
theorem S151_7 : WP d 151 7 lv (.long u :: st) h Q ↔ WP d 151 8 lv (.long (-u) :: st) h Q := WP_st rfl
theorem S151_8 : WP d 151 8 lv st h Q ↔ WP d 151 12 lv st h Q := WP_st rfl
theorem S151_11 : WP d 151 11 (a0 :: some (.long u) :: lv) st h Q ↔ WP d 151 12 (a0 :: some (.long u) :: lv) (.long u :: st) h Q := WP_st rfl
theorem S151_12 : WP d 151 12 (a0 :: a1 :: a2v :: a3 :: a4 :: a5 :: a6 :: lv) (.long u :: st) h Q ↔ WP d 151 14 (a0 :: a1 :: a2v :: a3 :: kl a4 :: some (.long u) :: none :: lv) st h Q := WP_st (by rfl)
theorem S151_14 : WP d 151 14 (a0 :: a1 :: a2v :: some (.long u) :: lv) st h Q ↔ WP d 151 15 (a0 :: a1 :: a2v :: some (.long u) :: lv) (.long u :: st) h Q := WP_st rfl
theorem S151_15 : WP d 151 15 (a0 :: a1 :: a2v :: a3 :: a4 :: a5 :: a6 :: a7 :: a8 :: lv) (.long u :: st) h Q ↔ WP d 151 17 (a0 :: a1 :: a2v :: a3 :: a4 :: a5 :: kl a6 :: some (.long u) :: none :: lv) st h Q := WP_st (by rfl)
theorem S151_17 : WP d 151 17 (a0 :: a1 :: a2v :: a3 :: a4 :: a5 :: a6 :: some (.long u) :: lv) st h Q ↔ WP d 151 19 (a0 :: a1 :: a2v :: a3 :: a4 :: a5 :: a6 :: some (.long u) :: lv) (.long u :: st) h Q := WP_st rfl
theorem S151_19 : WP d 151 19 lv st h Q ↔ WP d 151 20 lv (.long 0 :: st) h Q := WP_st rfl
theorem S151_20 : WP d 151 20 lv (.long w :: .long u :: st) h Q ↔ WP d 151 21 lv (.int (lg_cmp u w) :: st) h Q := WP_st rfl
theorem S151_21 : WP d 151 21 lv (.int x :: st) h Q ↔ if x = 0 then WP d 151 42 lv st h Q else WP d 151 24 lv st h Q := WP_br rfl
theorem S151_24 : WP d 151 24 (a0 :: a1 :: a2v :: a3 :: a4 :: some (.long u) :: lv) st h Q ↔ WP d 151 26 (a0 :: a1 :: a2v :: a3 :: a4 :: some (.long u) :: lv) (.long u :: st) h Q := WP_st rfl
theorem S151_26 : WP d 151 26 (a0 :: a1 :: a2v :: a3 :: a4 :: a5 :: a6 :: some (.long u) :: lv) st h Q ↔ WP d 151 28 (a0 :: a1 :: a2v :: a3 :: a4 :: a5 :: a6 :: some (.long u) :: lv) (.long u :: st) h Q := WP_st rfl
theorem S151_28 (hy : w ≠ 0) : WP d 151 28 lv (.long w :: .long u :: st) h Q ↔ WP d 151 29 lv (.long (u - u / w * w) :: st) h Q := WP_lrem rfl hy
theorem S151_29 : WP d 151 29 (a0 :: a1 :: a2v :: a3 :: a4 :: a5 :: a6 :: a7 :: a8 :: a9 :: a10 :: lv) (.long u :: st) h Q ↔ WP d 151 31 (a0 :: a1 :: a2v :: a3 :: a4 :: a5 :: a6 :: a7 :: kl a8 :: some (.long u) :: none :: lv) st h Q := WP_st (by rfl)
theorem S151_31 : WP d 151 31 (a0 :: a1 :: a2v :: a3 :: a4 :: a5 :: a6 :: some (.long u) :: lv) st h Q ↔ WP d 151 33 (a0 :: a1 :: a2v :: a3 :: a4 :: a5 :: a6 :: some (.long u) :: lv) (.long u :: st) h Q := WP_st rfl
theorem S151_33 : WP d 151 33 (a0 :: a1 :: a2v :: a3 :: a4 :: a5 :: a6 :: lv) (.long u :: st) h Q ↔ WP d 151 35 (a0 :: a1 :: a2v :: a3 :: kl a4 :: some (.long u) :: none :: lv) st h Q := WP_st (by rfl)
theorem S151_35 : WP d 151 35 (a0 :: a1 :: a2v :: a3 :: a4 :: a5 :: a6 :: a7 :: a8 :: some (.long u) :: lv) st h Q ↔ WP d 151 37 (a0 :: a1 :: a2v :: a3 :: a4 :: a5 :: a6 :: a7 :: a8 :: some (.long u) :: lv) (.long u :: st) h Q := WP_st rfl
theorem S151_37 : WP d 151 37 (a0 :: a1 :: a2v :: a3 :: a4 :: a5 :: a6 :: a7 :: a8 :: lv) (.long u :: st) h Q ↔ WP d 151 39 (a0 :: a1 :: a2v :: a3 :: a4 :: a5 :: kl a6 :: some (.long u) :: none :: lv) st h Q := WP_st (by rfl)
theorem S151_39 : WP d 151 39 lv st h Q ↔ WP d 151 17 lv st h Q := WP_st rfl
theorem S151_42 : WP d 151 42 (some (.ref a) :: lv) st h Q ↔ WP d 151 43 (some (.ref a) :: lv) (.ref a :: st) h Q := WP_st rfl
theorem S151_43 (hs : shp a = some (0, 8)) : WP d 151 43 lv (.ref a :: st) h Q ↔ WP d 151 46 lv (.ref (RV a 28) :: st) h Q := WP_getR (r := 540) rfl hs (by decide)
theorem S151_46 : WP d 151 46 lv st h Q ↔ WP d 151 47 lv (.int 0 :: st) h Q := WP_st rfl
theorem S151_47 : WP d 151 47 (a0 :: some (.long u) :: lv) st h Q ↔ WP d 151 48 (a0 :: some (.long u) :: lv) (.long u :: st) h Q := WP_st rfl
theorem S151_48 : WP d 151 48 (a0 :: a1 :: a2v :: a3 :: a4 :: some (.long u) :: lv) st h Q ↔ WP d 151 50 (a0 :: a1 :: a2v :: a3 :: a4 :: some (.long u) :: lv) (.long u :: st) h Q := WP_st rfl
theorem S151_50 (hy : w ≠ 0) : WP d 151 50 lv (.long w :: .long u :: st) h Q ↔ WP d 151 51 lv (.long (u / w) :: st) h Q := WP_ldiv rfl hy
theorem S151_51 (hi : okA 4 a i) : WP d 151 51 lv (.long u :: .int i :: .ref a :: st) h Q ↔ WP d 151 52 lv st (setL h a i.toNatClampNeg u) Q := WP_last rfl hi
theorem S151_52 : WP d 151 52 (some (.ref a) :: lv) st h Q ↔ WP d 151 53 (some (.ref a) :: lv) (.ref a :: st) h Q := WP_st rfl
theorem S151_53 (hs : shp a = some (0, 8)) : WP d 151 53 lv (.ref a :: st) h Q ↔ WP d 151 56 lv (.ref (RV a 28) :: st) h Q := WP_getR (r := 540) rfl hs (by decide)
theorem S151_56 : WP d 151 56 lv st h Q ↔ WP d 151 57 lv (.int 1 :: st) h Q := WP_st rfl
theorem S151_57 : WP d 151 57 (a0 :: a1 :: a2v :: some (.long u) :: lv) st h Q ↔ WP d 151 58 (a0 :: a1 :: a2v :: some (.long u) :: lv) (.long u :: st) h Q := WP_st rfl
theorem S151_58 : WP d 151 58 (a0 :: a1 :: a2v :: a3 :: a4 :: some (.long u) :: lv) st h Q ↔ WP d 151 60 (a0 :: a1 :: a2v :: a3 :: a4 :: some (.long u) :: lv) (.long u :: st) h Q := WP_st rfl
theorem S151_60 (hy : w ≠ 0) : WP d 151 60 lv (.long w :: .long u :: st) h Q ↔ WP d 151 61 lv (.long (u / w) :: st) h Q := WP_ldiv rfl hy
theorem S151_61 (hi : okA 4 a i) : WP d 151 61 lv (.long u :: .int i :: .ref a :: st) h Q ↔ WP d 151 62 lv st (setL h a i.toNatClampNeg u) Q := WP_last rfl hi
theorem S151_62 : WP d 151 62 lv [] h Q ↔ Q (some none) h := WP_end rfl rfl rfl
theorem S152_0 : WP d 152 0 (some (.ref a) :: lv) st h Q ↔ WP d 152 1 (some (.ref a) :: lv) (.ref a :: st) h Q := WP_st rfl
theorem S152_1 (hs : shp a = some (0, 8)) : WP d 152 1 lv (.ref a :: st) h Q ↔ WP d 152 4 lv (.ref (RV a 28) :: st) h Q := WP_getR (r := 540) rfl hs (by decide)
theorem S152_4 : WP d 152 4 (a0 :: some (.int x) :: lv) st h Q ↔ WP d 152 5 (a0 :: some (.int x) :: lv) (.int x :: st) h Q := WP_st rfl
theorem S152_5 (hi : okA 4 a i) : WP d 152 5 lv (.int i :: .ref a :: st) h Q ↔ WP d 152 6 lv (.long (h.2.1 a i.toNatClampNeg) :: st) h Q := WP_lald rfl hi
theorem S152_6 : WP d 152 6 lv [.long u] h Q ↔ Q (some (some (.long u))) h := WP_end rfl rfl rfl
theorem S153_0 : WP d 153 0 (some (.int x) :: lv) st h Q ↔ WP d 153 1 (some (.int x) :: lv) (.int x :: st) h Q := WP_st rfl
theorem S153_1 : WP d 153 1 lv st h Q ↔ WP d 153 2 lv (.int 0 :: st) h Q := WP_st rfl
theorem S153_2 : WP d 153 2 lv st h Q ↔ WP d 153 3 lv (.int 1 :: st) h Q := WP_st rfl
theorem S153_3 {pi0 : Int32} {pi1 : Int32} {pi2 : Int32} : WP (d + 1) 153 3 lv [.int pi2, .int pi1, .int pi0] h Q ↔ WP d 101 0 [some (.int pi0), some (.int pi1), some (.int pi2)] [] h (kR (d + 1) 153 6 lv [] Q) := WP_callSR rfl rfl rfl rfl rfl
theorem S153_6 (hx : isB x) : WP d 153 6 lv [.int x] h Q ↔ Q (some (some (.int x))) h := WP_endZ rfl rfl hx
theorem S154_0 : WP d 154 0 (some (.ref a) :: lv) st h Q ↔ WP d 154 1 (some (.ref a) :: lv) (.ref a :: st) h Q := WP_st rfl
theorem S154_1 : WP d 154 1 lv st h Q ↔ WP d 154 2 lv (.int 0 :: st) h Q := WP_st rfl
theorem S154_2 (hs : shp a = some (0, 8)) : WP d 154 2 lv (.int x :: .ref a :: st) h Q ↔ WP d 154 5 lv st (setI h a 0 x) Q := WP_putI (r := 512) rfl hs (by decide)
theorem S154_5 : WP d 154 5 (some (.ref a) :: lv) st h Q ↔ WP d 154 6 (some (.ref a) :: lv) (.ref a :: st) h Q := WP_st rfl
theorem S154_6 : WP d 154 6 (a0 :: some (.int x) :: lv) st h Q ↔ WP d 154 7 (a0 :: some (.int x) :: lv) (.int x :: st) h Q := WP_st rfl
theorem S154_7 {pr0 : Nat} {pi0 : Int32} (hs : shp pr0 = some (0, 8)) : WP (d + 1) 154 7 lv [.int pi0, .ref pr0] h Q ↔ WP d 130 0 [some (.ref pr0), some (.int pi0)] [] h (kR (d + 1) 154 10 lv [] Q) := WP_callVR rfl rfl rfl rfl rfl hs
theorem S154_10 : WP d 154 10 lv (.int x :: st) h Q ↔ if x = 0 then WP d 154 20 lv st h Q else WP d 154 13 lv st h Q := WP_br rfl
theorem S154_13 : WP d 154 13 (a0 :: a1 :: some (.int x) :: lv) st h Q ↔ WP d 154 14 (a0 :: a1 :: some (.int x) :: lv) (.int x :: st) h Q := WP_st rfl
theorem S154_14 {pi0 : Int32} : WP (d + 1) 154 14 lv [.int pi0] h Q ↔ WP d 153 0 [some (.int pi0)] [] h (kR (d + 1) 154 17 lv [] Q) := WP_callSR rfl rfl rfl rfl rfl
theorem S154_17 : WP d 154 17 lv (.int x :: st) h Q ↔ if x = 0 then WP d 154 20 lv st h Q else WP d 154 26 lv st h Q := WP_br rfl
theorem S154_20 : WP d 154 20 (some (.ref a) :: lv) st h Q ↔ WP d 154 21 (some (.ref a) :: lv) (.ref a :: st) h Q := WP_st rfl
theorem S154_21 {pr0 : Nat} (hs : shp pr0 = some (0, 8)) : WP (d + 1) 154 21 lv [.ref pr0] h Q ↔ WP d 100 0 [some (.ref pr0)] [] h (kR (d + 1) 154 24 lv [] Q) := WP_callVR rfl rfl rfl rfl rfl hs
theorem S154_24 : WP d 154 24 lv (.int x :: st) h Q ↔ WP d 154 25 lv (.long x.toInt64 :: st) h Q := WP_st rfl
theorem S154_25 : WP d 154 25 lv [.long u] h Q ↔ Q (some (some (.long u))) h := WP_end rfl rfl rfl
theorem S154_26 : WP d 154 26 (some (.ref a) :: lv) st h Q ↔ WP d 154 27 (some (.ref a) :: lv) (.ref a :: st) h Q := WP_st rfl
theorem S154_27 {pr0 : Nat} (hs : shp pr0 = some (0, 8)) : WP (d + 1) 154 27 lv [.ref pr0] h Q ↔ WP d 150 0 [some (.ref pr0)] [] h (kV (d + 1) 154 30 lv [] Q) := WP_callVV rfl rfl rfl rfl rfl hs
theorem S154_30 : WP d 154 30 (some (.ref a) :: lv) st h Q ↔ WP d 154 31 (some (.ref a) :: lv) (.ref a :: st) h Q := WP_st rfl
theorem S154_31 : WP d 154 31 (some (.ref a) :: lv) st h Q ↔ WP d 154 32 (some (.ref a) :: lv) (.ref a :: st) h Q := WP_st rfl
theorem S154_32 (hs : shp a = some (0, 8)) : WP d 154 32 lv (.ref a :: st) h Q ↔ WP d 154 35 lv (.ref (RV a 27) :: st) h Q := WP_getR (r := 539) rfl hs (by decide)
theorem S154_35 : WP d 154 35 (a0 :: some (.int x) :: lv) st h Q ↔ WP d 154 36 (a0 :: some (.int x) :: lv) (.int x :: st) h Q := WP_st rfl
theorem S154_36 (hi : okA 4 a i) : WP d 154 36 lv (.int i :: .ref a :: st) h Q ↔ WP d 154 37 lv (.long (h.2.1 a i.toNatClampNeg) :: st) h Q := WP_lald rfl hi
theorem S154_37 : WP d 154 37 (some (.ref a) :: lv) st h Q ↔ WP d 154 38 (some (.ref a) :: lv) (.ref a :: st) h Q := WP_st rfl
theorem S154_38 (hs : shp a = some (0, 8)) : WP d 154 38 lv (.ref a :: st) h Q ↔ WP d 154 41 lv (.long (h.2.1 a 26) :: st) h Q := WP_getL (r := 538) rfl hs (by decide)
theorem S154_41 {pr0 : Nat} {pj0 : Int64} {pj1 : Int64} (hs : shp pr0 = some (0, 8)) : WP (d + 1) 154 41 lv [.long pj1, .long pj0, .ref pr0] h Q ↔ WP d 151 0 [some (.ref pr0), some (.long pj0), none, some (.long pj1), none, none, none, none, none, none, none] [] h (kV (d + 1) 154 44 lv [] Q) := WP_callVV rfl rfl rfl rfl rfl hs
theorem S154_44 : WP d 154 44 (some (.ref a) :: lv) st h Q ↔ WP d 154 45 (some (.ref a) :: lv) (.ref a :: st) h Q := WP_st rfl
theorem S154_45 : WP d 154 45 (a0 :: a1 :: some (.int x) :: lv) st h Q ↔ WP d 154 46 (a0 :: a1 :: some (.int x) :: lv) (.int x :: st) h Q := WP_st rfl
theorem S154_46 {pr0 : Nat} {pi0 : Int32} (hs : shp pr0 = some (0, 8)) : WP (d + 1) 154 46 lv [.int pi0, .ref pr0] h Q ↔ WP d 152 0 [some (.ref pr0), some (.int pi0)] [] h (kR (d + 1) 154 49 lv [] Q) := WP_callVR rfl rfl rfl rfl rfl hs
theorem S154_49 : WP d 154 49 lv [.long u] h Q ↔ Q (some (some (.long u))) h := WP_end rfl rfl rfl
theorem S155_0 : WP d 155 0 (some (.ref a) :: lv) st h Q ↔ WP d 155 1 (some (.ref a) :: lv) (.ref a :: st) h Q := WP_st rfl
theorem S155_1 : WP d 155 1 lv st h Q ↔ WP d 155 2 lv (.int 0 :: st) h Q := WP_st rfl
theorem S155_2 (hs : shp a = some (0, 8)) : WP d 155 2 lv (.int x :: .ref a :: st) h Q ↔ WP d 155 5 lv st (setI h a 0 x) Q := WP_putI (r := 512) rfl hs (by decide)
theorem S155_5 : WP d 155 5 (some (.ref a) :: lv) st h Q ↔ WP d 155 6 (some (.ref a) :: lv) (.ref a :: st) h Q := WP_st rfl
theorem S155_6 : WP d 155 6 (a0 :: some (.int x) :: lv) st h Q ↔ WP d 155 7 (a0 :: some (.int x) :: lv) (.int x :: st) h Q := WP_st rfl
theorem S155_7 {pr0 : Nat} {pi0 : Int32} (hs : shp pr0 = some (0, 8)) : WP (d + 1) 155 7 lv [.int pi0, .ref pr0] h Q ↔ WP d 130 0 [some (.ref pr0), some (.int pi0)] [] h (kR (d + 1) 155 10 lv [] Q) := WP_callVR rfl rfl rfl rfl rfl hs
theorem S155_10 : WP d 155 10 lv (.int x :: st) h Q ↔ if x = 0 then WP d 155 13 lv st h Q else WP d 155 17 lv st h Q := WP_br rfl
theorem S155_13 : WP d 155 13 lv st h Q ↔ WP d 155 16 lv (.int (-1000000) :: st) h Q := WP_st rfl
theorem S155_16 : WP d 155 16 lv [.int x] h Q ↔ Q (some (some (.int x))) h := WP_end rfl rfl rfl
theorem S155_17 : WP d 155 17 (some (.ref a) :: lv) st h Q ↔ WP d 155 18 (some (.ref a) :: lv) (.ref a :: st) h Q := WP_st rfl
theorem S155_18 {pr0 : Nat} (hs : shp pr0 = some (0, 8)) : WP (d + 1) 155 18 lv [.ref pr0] h Q ↔ WP d 150 0 [some (.ref pr0)] [] h (kV (d + 1) 155 21 lv [] Q) := WP_callVV rfl rfl rfl rfl rfl hs
theorem S155_21 : WP d 155 21 lv st h Q ↔ WP d 155 24 lv (.long 2 :: st) h Q := WP_st rfl
theorem S155_24 : WP d 155 24 (some (.ref a) :: lv) st h Q ↔ WP d 155 25 (some (.ref a) :: lv) (.ref a :: st) h Q := WP_st rfl
theorem S155_25 (hs : shp a = some (0, 8)) : WP d 155 25 lv (.ref a :: st) h Q ↔ WP d 155 28 lv (.ref (RV a 27) :: st) h Q := WP_getR (r := 539) rfl hs (by decide)
theorem S155_28 : WP d 155 28 (a0 :: some (.int x) :: lv) st h Q ↔ WP d 155 29 (a0 :: some (.int x) :: lv) (.int x :: st) h Q := WP_st rfl
theorem S155_29 (hi : okA 4 a i) : WP d 155 29 lv (.int i :: .ref a :: st) h Q ↔ WP d 155 30 lv (.long (h.2.1 a i.toNatClampNeg) :: st) h Q := WP_lald rfl hi
theorem S155_30 : WP d 155 30 lv (.long w :: .long u :: st) h Q ↔ WP d 155 31 lv (.long (u * w) :: st) h Q := WP_st rfl
theorem S155_31 : WP d 155 31 (some (.ref a) :: lv) st h Q ↔ WP d 155 32 (some (.ref a) :: lv) (.ref a :: st) h Q := WP_st rfl
theorem S155_32 (hs : shp a = some (0, 8)) : WP d 155 32 lv (.ref a :: st) h Q ↔ WP d 155 35 lv (.long (h.2.1 a 26) :: st) h Q := WP_getL (r := 538) rfl hs (by decide)
theorem S155_35 : WP d 155 35 lv (.long w :: .long u :: st) h Q ↔ WP d 155 36 lv (.long (u + w) :: st) h Q := WP_st rfl
theorem S155_36 : WP d 155 36 (a0 :: a1 :: a2v :: a3 :: lv) (.long u :: st) h Q ↔ WP d 155 37 (a0 :: kl a1 :: some (.long u) :: none :: lv) st h Q := WP_st (by rfl)
theorem S155_37 : WP d 155 37 lv st h Q ↔ WP d 155 40 lv (.long 2 :: st) h Q := WP_st rfl
theorem S155_40 : WP d 155 40 (some (.ref a) :: lv) st h Q ↔ WP d 155 41 (some (.ref a) :: lv) (.ref a :: st) h Q := WP_st rfl
theorem S155_41 (hs : shp a = some (0, 8)) : WP d 155 41 lv (.ref a :: st) h Q ↔ WP d 155 44 lv (.long (h.2.1 a 26) :: st) h Q := WP_getL (r := 538) rfl hs (by decide)
theorem S155_44 : WP d 155 44 lv (.long w :: .long u :: st) h Q ↔ WP d 155 45 lv (.long (u * w) :: st) h Q := WP_st rfl
theorem S155_45 : WP d 155 45 (a0 :: a1 :: a2v :: a3 :: a4 :: a5 :: lv) (.long u :: st) h Q ↔ WP d 155 47 (a0 :: a1 :: a2v :: kl a3 :: some (.long u) :: none :: lv) st h Q := WP_st (by rfl)
theorem S155_47 : WP d 155 47 (a0 :: a1 :: some (.long u) :: lv) st h Q ↔ WP d 155 48 (a0 :: a1 :: some (.long u) :: lv) (.long u :: st) h Q := WP_st rfl
theorem S155_48 : WP d 155 48 (a0 :: a1 :: a2v :: a3 :: some (.long u) :: lv) st h Q ↔ WP d 155 50 (a0 :: a1 :: a2v :: a3 :: some (.long u) :: lv) (.long u :: st) h Q := WP_st rfl
theorem S155_50 (hy : w ≠ 0) : WP d 155 50 lv (.long w :: .long u :: st) h Q ↔ WP d 155 51 lv (.long (u / w) :: st) h Q := WP_ldiv rfl hy
theorem S155_51 : WP d 155 51 (a0 :: a1 :: a2v :: a3 :: a4 :: a5 :: a6 :: a7 :: lv) (.long u :: st) h Q ↔ WP d 155 53 (a0 :: a1 :: a2v :: a3 :: a4 :: kl a5 :: some (.long u) :: none :: lv) st h Q := WP_st (by rfl)
theorem S155_53 : WP d 155 53 (a0 :: a1 :: a2v :: a3 :: a4 :: a5 :: some (.long u) :: lv) st h Q ↔ WP d 155 55 (a0 :: a1 :: a2v :: a3 :: a4 :: a5 :: some (.long u) :: lv) (.long u :: st) h Q := WP_st rfl
theorem S155_55 : WP d 155 55 (a0 :: a1 :: a2v :: a3 :: some (.long u) :: lv) st h Q ↔ WP d 155 57 (a0 :: a1 :: a2v :: a3 :: some (.long u) :: lv) (.long u :: st) h Q := WP_st rfl
theorem S155_57 : WP d 155 57 lv (.long w :: .long u :: st) h Q ↔ WP d 155 58 lv (.long (u * w) :: st) h Q := WP_st rfl
theorem S155_58 : WP d 155 58 (a0 :: a1 :: some (.long u) :: lv) st h Q ↔ WP d 155 59 (a0 :: a1 :: some (.long u) :: lv) (.long u :: st) h Q := WP_st rfl
theorem S155_59 : WP d 155 59 lv (.long w :: .long u :: st) h Q ↔ WP d 155 60 lv (.int (lg_cmp u w) :: st) h Q := WP_st rfl
theorem S155_60 : WP d 155 60 lv (.int x :: st) h Q ↔ if x ≤ 0 then WP d 155 70 lv st h Q else WP d 155 63 lv st h Q := WP_br rfl
theorem S155_63 : WP d 155 63 (a0 :: a1 :: a2v :: a3 :: a4 :: a5 :: some (.long u) :: lv) st h Q ↔ WP d 155 65 (a0 :: a1 :: a2v :: a3 :: a4 :: a5 :: some (.long u) :: lv) (.long u :: st) h Q := WP_st rfl
theorem S155_65 : WP d 155 65 lv st h Q ↔ WP d 155 66 lv (.long 1 :: st) h Q := WP_st rfl
theorem S155_66 : WP d 155 66 lv (.long w :: .long u :: st) h Q ↔ WP d 155 67 lv (.long (u - w) :: st) h Q := WP_st rfl
theorem S155_67 : WP d 155 67 lv st h Q ↔ WP d 155 72 lv st h Q := WP_st rfl
theorem S155_70 : WP d 155 70 (a0 :: a1 :: a2v :: a3 :: a4 :: a5 :: some (.long u) :: lv) st h Q ↔ WP d 155 72 (a0 :: a1 :: a2v :: a3 :: a4 :: a5 :: some (.long u) :: lv) (.long u :: st) h Q := WP_st rfl
theorem S155_72 : WP d 155 72 lv (.long u :: st) h Q ↔ WP d 155 73 lv (.int u.toInt32 :: st) h Q := WP_st rfl
theorem S155_73 : WP d 155 73 lv [.int x] h Q ↔ Q (some (some (.int x))) h := WP_end rfl rfl rfl
theorem S156_0 : WP d 156 0 (some (.ref a) :: lv) st h Q ↔ WP d 156 1 (some (.ref a) :: lv) (.ref a :: st) h Q := WP_st rfl
theorem S156_1 (hs : shp a = some (0, 8)) : WP d 156 1 lv (.ref a :: st) h Q ↔ WP d 156 4 lv (.ref (RV a 27) :: st) h Q := WP_getR (r := 539) rfl hs (by decide)
theorem S156_4 : WP d 156 4 (some (.ref a) :: lv) st h Q ↔ WP d 156 5 (some (.ref a) :: lv) (.ref a :: st) h Q := WP_st rfl
theorem S156_5 : WP d 156 5 (a0 :: some (.int x) :: lv) st h Q ↔ WP d 156 6 (a0 :: some (.int x) :: lv) (.int x :: st) h Q := WP_st rfl
theorem S156_6 {pr0 : Nat} {pi0 : Int32} {qr1 : Nat} (hs : shp pr0 = some (0, 8)) : WP (d + 1) 156 6 lv [.int pi0, .ref pr0, .ref qr1] h Q ↔ WP d 135 0 [some (.ref pr0), some (.int pi0)] [] h (kR (d + 1) 156 9 lv [.ref qr1] Q) := WP_callVR rfl rfl rfl rfl rfl hs
theorem S156_9 (hi : okA 4 a i) : WP d 156 9 lv (.int i :: .ref a :: st) h Q ↔ WP d 156 10 lv (.long (h.2.1 a i.toNatClampNeg) :: st) h Q := WP_lald rfl hi
theorem S156_10 : WP d 156 10 (some (.ref a) :: lv) st h Q ↔ WP d 156 11 (some (.ref a) :: lv) (.ref a :: st) h Q := WP_st rfl
theorem S156_11 (hs : shp a = some (0, 8)) : WP d 156 11 lv (.ref a :: st) h Q ↔ WP d 156 14 lv (.ref (RV a 27) :: st) h Q := WP_getR (r := 539) rfl hs (by decide)
theorem S156_14 : WP d 156 14 (some (.ref a) :: lv) st h Q ↔ WP d 156 15 (some (.ref a) :: lv) (.ref a :: st) h Q := WP_st rfl
theorem S156_15 : WP d 156 15 (a0 :: some (.int x) :: lv) st h Q ↔ WP d 156 16 (a0 :: some (.int x) :: lv) (.int x :: st) h Q := WP_st rfl
theorem S156_16 {pr0 : Nat} {pi0 : Int32} {qj0 : Int64} {qr1 : Nat} (hs : shp pr0 = some (0, 8)) : WP (d + 1) 156 16 lv [.int pi0, .ref pr0, .ref qr1, .long qj0] h Q ↔ WP d 134 0 [some (.ref pr0), some (.int pi0)] [] h (kR (d + 1) 156 19 lv [.ref qr1, .long qj0] Q) := WP_callVR rfl rfl rfl rfl rfl hs
theorem S156_19 (hi : okA 4 a i) : WP d 156 19 lv (.int i :: .ref a :: st) h Q ↔ WP d 156 20 lv (.long (h.2.1 a i.toNatClampNeg) :: st) h Q := WP_lald rfl hi
theorem S156_20 : WP d 156 20 lv (.long w :: .long u :: st) h Q ↔ WP d 156 21 lv (.long (u - w) :: st) h Q := WP_st rfl
theorem S156_21 : WP d 156 21 (some (.ref a) :: lv) st h Q ↔ WP d 156 22 (some (.ref a) :: lv) (.ref a :: st) h Q := WP_st rfl
theorem S156_22 (hs : shp a = some (0, 8)) : WP d 156 22 lv (.ref a :: st) h Q ↔ WP d 156 25 lv (.ref (RV a 13) :: st) h Q := WP_getR (r := 525) rfl hs (by decide)
theorem S156_25 : WP d 156 25 lv st h Q ↔ WP d 156 27 lv (.int 36 :: st) h Q := WP_st rfl
theorem S156_27 : WP d 156 27 (a0 :: some (.int x) :: lv) st h Q ↔ WP d 156 28 (a0 :: some (.int x) :: lv) (.int x :: st) h Q := WP_st rfl
theorem S156_28 : WP d 156 28 lv (.int y :: .int x :: st) h Q ↔ WP d 156 29 lv (.int (x + y) :: st) h Q := WP_st rfl
theorem S156_29 (hi : okA 1 a i) : WP d 156 29 lv (.int i :: .ref a :: st) h Q ↔ WP d 156 30 lv (.int (h.1 a i.toNatClampNeg) :: st) h Q := WP_iald rfl hi
theorem S156_30 : WP d 156 30 lv (.int x :: st) h Q ↔ WP d 156 31 lv (.long x.toInt64 :: st) h Q := WP_st rfl
theorem S156_31 : WP d 156 31 (some (.ref a) :: lv) st h Q ↔ WP d 156 32 (some (.ref a) :: lv) (.ref a :: st) h Q := WP_st rfl
theorem S156_32 (hs : shp a = some (0, 8)) : WP d 156 32 lv (.ref a :: st) h Q ↔ WP d 156 35 lv (.long (h.2.1 a 26) :: st) h Q := WP_getL (r := 538) rfl hs (by decide)
theorem S156_35 : WP d 156 35 lv (.long w :: .long u :: st) h Q ↔ WP d 156 36 lv (.long (u * w) :: st) h Q := WP_st rfl
theorem S156_36 : WP d 156 36 lv (.long w :: .long u :: st) h Q ↔ WP d 156 37 lv (.long (u - w) :: st) h Q := WP_st rfl
theorem S156_37 : WP d 156 37 lv [.long u] h Q ↔ Q (some (some (.long u))) h := WP_end rfl rfl rfl
theorem S157_0 : WP d 157 0 (some (.ref a) :: lv) st h Q ↔ WP d 157 1 (some (.ref a) :: lv) (.ref a :: st) h Q := WP_st rfl
theorem S157_1 : WP d 157 1 lv st h Q ↔ WP d 157 2 lv (.int 0 :: st) h Q := WP_st rfl
theorem S157_2 (hs : shp a = some (0, 8)) : WP d 157 2 lv (.int x :: .ref a :: st) h Q ↔ WP d 157 5 lv st (setI h a 0 x) Q := WP_putI (r := 512) rfl hs (by decide)
theorem S157_5 : WP d 157 5 (some (.ref a) :: lv) st h Q ↔ WP d 157 6 (some (.ref a) :: lv) (.ref a :: st) h Q := WP_st rfl
theorem S157_6 : WP d 157 6 (a0 :: some (.int x) :: lv) st h Q ↔ WP d 157 7 (a0 :: some (.int x) :: lv) (.int x :: st) h Q := WP_st rfl
theorem S157_7 {pr0 : Nat} {pi0 : Int32} (hs : shp pr0 = some (0, 8)) : WP (d + 1) 157 7 lv [.int pi0, .ref pr0] h Q ↔ WP d 131 0 [some (.ref pr0), some (.int pi0)] [] h (kR (d + 1) 157 10 lv [] Q) := WP_callVR rfl rfl rfl rfl rfl hs
theorem S157_10 : WP d 157 10 lv (.int x :: st) h Q ↔ if x = 0 then WP d 157 28 lv st h Q else WP d 157 13 lv st h Q := WP_br rfl
theorem S157_13 : WP d 157 13 (some (.ref a) :: lv) st h Q ↔ WP d 157 14 (some (.ref a) :: lv) (.ref a :: st) h Q := WP_st rfl
theorem S157_14 : WP d 157 14 (a0 :: some (.int x) :: lv) st h Q ↔ WP d 157 15 (a0 :: some (.int x) :: lv) (.int x :: st) h Q := WP_st rfl
theorem S157_15 {pr0 : Nat} {pi0 : Int32} (hs : shp pr0 = some (0, 8)) : WP (d + 1) 157 15 lv [.int pi0, .ref pr0] h Q ↔ WP d 133 0 [some (.ref pr0), some (.int pi0)] [] h (kR (d + 1) 157 18 lv [] Q) := WP_callVR rfl rfl rfl rfl rfl hs
theorem S157_18 : WP d 157 18 lv (.int x :: st) h Q ↔ if x = 0 then WP d 157 28 lv st h Q else WP d 157 21 lv st h Q := WP_br rfl
theorem S157_21 : WP d 157 21 (a0 :: a1 :: some (.int x) :: lv) st h Q ↔ WP d 157 22 (a0 :: a1 :: some (.int x) :: lv) (.int x :: st) h Q := WP_st rfl
theorem S157_22 {pi0 : Int32} : WP (d + 1) 157 22 lv [.int pi0] h Q ↔ WP d 153 0 [some (.int pi0)] [] h (kR (d + 1) 157 25 lv [] Q) := WP_callSR rfl rfl rfl rfl rfl
theorem S157_25 : WP d 157 25 lv (.int x :: st) h Q ↔ if x = 0 then WP d 157 28 lv st h Q else WP d 157 34 lv st h Q := WP_br rfl
theorem S157_28 : WP d 157 28 (some (.ref a) :: lv) st h Q ↔ WP d 157 29 (some (.ref a) :: lv) (.ref a :: st) h Q := WP_st rfl
theorem S157_29 {pr0 : Nat} (hs : shp pr0 = some (0, 8)) : WP (d + 1) 157 29 lv [.ref pr0] h Q ↔ WP d 100 0 [some (.ref pr0)] [] h (kR (d + 1) 157 32 lv [] Q) := WP_callVR rfl rfl rfl rfl rfl hs
theorem S157_32 : WP d 157 32 lv (.int x :: st) h Q ↔ WP d 157 33 lv (.long x.toInt64 :: st) h Q := WP_st rfl
theorem S157_33 : WP d 157 33 lv [.long u] h Q ↔ Q (some (some (.long u))) h := WP_end rfl rfl rfl
theorem S157_34 : WP d 157 34 (some (.ref a) :: lv) st h Q ↔ WP d 157 35 (some (.ref a) :: lv) (.ref a :: st) h Q := WP_st rfl
theorem S157_35 {pr0 : Nat} (hs : shp pr0 = some (0, 8)) : WP (d + 1) 157 35 lv [.ref pr0] h Q ↔ WP d 150 0 [some (.ref pr0)] [] h (kV (d + 1) 157 38 lv [] Q) := WP_callVV rfl rfl rfl rfl rfl hs
theorem S157_38 : WP d 157 38 (some (.ref a) :: lv) st h Q ↔ WP d 157 39 (some (.ref a) :: lv) (.ref a :: st) h Q := WP_st rfl
theorem S157_39 : WP d 157 39 (some (.ref a) :: lv) st h Q ↔ WP d 157 40 (some (.ref a) :: lv) (.ref a :: st) h Q := WP_st rfl
theorem S157_40 : WP d 157 40 (a0 :: some (.int x) :: lv) st h Q ↔ WP d 157 41 (a0 :: some (.int x) :: lv) (.int x :: st) h Q := WP_st rfl
theorem S157_41 {pr0 : Nat} {pi0 : Int32} {qr1 : Nat} (hs : shp pr0 = some (0, 8)) : WP (d + 1) 157 41 lv [.int pi0, .ref pr0, .ref qr1] h Q ↔ WP d 156 0 [some (.ref pr0), some (.int pi0)] [] h (kR (d + 1) 157 44 lv [.ref qr1] Q) := WP_callVR rfl rfl rfl rfl rfl hs
theorem S157_44 : WP d 157 44 (some (.ref a) :: lv) st h Q ↔ WP d 157 45 (some (.ref a) :: lv) (.ref a :: st) h Q := WP_st rfl
theorem S157_45 (hs : shp a = some (0, 8)) : WP d 157 45 lv (.ref a :: st) h Q ↔ WP d 157 48 lv (.long (h.2.1 a 26) :: st) h Q := WP_getL (r := 538) rfl hs (by decide)
theorem S157_48 {pr0 : Nat} {pj0 : Int64} {pj1 : Int64} (hs : shp pr0 = some (0, 8)) : WP (d + 1) 157 48 lv [.long pj1, .long pj0, .ref pr0] h Q ↔ WP d 151 0 [some (.ref pr0), some (.long pj0), none, some (.long pj1), none, none, none, none, none, none, none] [] h (kV (d + 1) 157 51 lv [] Q) := WP_callVV rfl rfl rfl rfl rfl hs
theorem S157_51 : WP d 157 51 (some (.ref a) :: lv) st h Q ↔ WP d 157 52 (some (.ref a) :: lv) (.ref a :: st) h Q := WP_st rfl
theorem S157_52 : WP d 157 52 (a0 :: a1 :: some (.int x) :: lv) st h Q ↔ WP d 157 53 (a0 :: a1 :: some (.int x) :: lv) (.int x :: st) h Q := WP_st rfl
theorem S157_53 {pr0 : Nat} {pi0 : Int32} (hs : shp pr0 = some (0, 8)) : WP (d + 1) 157 53 lv [.int pi0, .ref pr0] h Q ↔ WP d 152 0 [some (.ref pr0), some (.int pi0)] [] h (kR (d + 1) 157 56 lv [] Q) := WP_callVR rfl rfl rfl rfl rfl hs
theorem S157_56 : WP d 157 56 lv [.long u] h Q ↔ Q (some (some (.long u))) h := WP_end rfl rfl rfl
theorem S158_0 : WP d 158 0 (some (.ref a) :: lv) st h Q ↔ WP d 158 1 (some (.ref a) :: lv) (.ref a :: st) h Q := WP_st rfl
theorem S158_1 : WP d 158 1 (a0 :: some (.int x) :: lv) st h Q ↔ WP d 158 2 (a0 :: some (.int x) :: lv) (.int x :: st) h Q := WP_st rfl
theorem S158_2 {pr0 : Nat} {pi0 : Int32} (hs : shp pr0 = some (0, 8)) : WP (d + 1) 158 2 lv [.int pi0, .ref pr0] h Q ↔ WP d 132 0 [some (.ref pr0), some (.int pi0)] [] h (kR (d + 1) 158 5 lv [] Q) := WP_callVR rfl rfl rfl rfl rfl hs
theorem S158_5 : WP d 158 5 lv (.int x :: st) h Q ↔ if x = 0 then WP d 158 21 lv st h Q else WP d 158 8 lv st h Q := WP_br rfl
theorem S158_8 : WP d 158 8 (some (.ref a) :: lv) st h Q ↔ WP d 158 9 (some (.ref a) :: lv) (.ref a :: st) h Q := WP_st rfl
theorem S158_9 (hs : shp a = some (0, 8)) : WP d 158 9 lv (.ref a :: st) h Q ↔ WP d 158 12 lv (.ref (RV a 13) :: st) h Q := WP_getR (r := 525) rfl hs (by decide)
theorem S158_12 : WP d 158 12 lv st h Q ↔ WP d 158 14 lv (.int 8 :: st) h Q := WP_st rfl
theorem S158_14 : WP d 158 14 (a0 :: some (.int x) :: lv) st h Q ↔ WP d 158 15 (a0 :: some (.int x) :: lv) (.int x :: st) h Q := WP_st rfl
theorem S158_15 : WP d 158 15 lv (.int y :: .int x :: st) h Q ↔ WP d 158 16 lv (.int (x + y) :: st) h Q := WP_st rfl
theorem S158_16 (hi : okA 1 a i) : WP d 158 16 lv (.int i :: .ref a :: st) h Q ↔ WP d 158 17 lv (.int (h.1 a i.toNatClampNeg) :: st) h Q := WP_iald rfl hi
theorem S158_17 : WP d 158 17 lv (.int x :: st) h Q ↔ WP d 158 18 lv (.long x.toInt64 :: st) h Q := WP_st rfl
theorem S158_18 : WP d 158 18 lv st h Q ↔ WP d 158 22 lv st h Q := WP_st rfl
theorem S158_21 : WP d 158 21 lv st h Q ↔ WP d 158 22 lv (.long 0 :: st) h Q := WP_st rfl
theorem S158_22 : WP d 158 22 lv [.long u] h Q ↔ Q (some (some (.long u))) h := WP_end rfl rfl rfl
theorem S159_0 : WP d 159 0 (some (.ref a) :: lv) st h Q ↔ WP d 159 1 (some (.ref a) :: lv) (.ref a :: st) h Q := WP_st rfl
theorem S159_1 : WP d 159 1 lv st h Q ↔ WP d 159 2 lv (.int 0 :: st) h Q := WP_st rfl
theorem S159_2 (hs : shp a = some (0, 8)) : WP d 159 2 lv (.int x :: .ref a :: st) h Q ↔ WP d 159 5 lv st (setI h a 0 x) Q := WP_putI (r := 512) rfl hs (by decide)
theorem S159_5 : WP d 159 5 (a0 :: some (.int x) :: lv) st h Q ↔ WP d 159 6 (a0 :: some (.int x) :: lv) (.int x :: st) h Q := WP_st rfl
theorem S159_6 {pi0 : Int32} : WP (d + 1) 159 6 lv [.int pi0] h Q ↔ WP d 153 0 [some (.int pi0)] [] h (kR (d + 1) 159 9 lv [] Q) := WP_callSR rfl rfl rfl rfl rfl
theorem S159_9 : WP d 159 9 lv (.int x :: st) h Q ↔ if x = 0 then WP d 159 12 lv st h Q else WP d 159 18 lv st h Q := WP_br rfl
theorem S159_12 : WP d 159 12 (some (.ref a) :: lv) st h Q ↔ WP d 159 13 (some (.ref a) :: lv) (.ref a :: st) h Q := WP_st rfl
theorem S159_13 {pr0 : Nat} (hs : shp pr0 = some (0, 8)) : WP (d + 1) 159 13 lv [.ref pr0] h Q ↔ WP d 100 0 [some (.ref pr0)] [] h (kR (d + 1) 159 16 lv [] Q) := WP_callVR rfl rfl rfl rfl rfl hs
theorem S159_16 : WP d 159 16 lv (.int x :: st) h Q ↔ WP d 159 17 lv (.long x.toInt64 :: st) h Q := WP_st rfl
theorem S159_17 : WP d 159 17 lv [.long u] h Q ↔ Q (some (some (.long u))) h := WP_end rfl rfl rfl
theorem S159_18 : WP d 159 18 (some (.ref a) :: lv) st h Q ↔ WP d 159 19 (some (.ref a) :: lv) (.ref a :: st) h Q := WP_st rfl
theorem S159_19 {pr0 : Nat} (hs : shp pr0 = some (0, 8)) : WP (d + 1) 159 19 lv [.ref pr0] h Q ↔ WP d 150 0 [some (.ref pr0)] [] h (kV (d + 1) 159 22 lv [] Q) := WP_callVV rfl rfl rfl rfl rfl hs
theorem S159_22 : WP d 159 22 lv st h Q ↔ WP d 159 23 lv (.long 0 :: st) h Q := WP_st rfl
theorem S159_23 : WP d 159 23 (a0 :: a1 :: a2v :: a3 :: lv) (.long u :: st) h Q ↔ WP d 159 24 (a0 :: kl a1 :: some (.long u) :: none :: lv) st h Q := WP_st (by rfl)
theorem S159_24 : WP d 159 24 lv st h Q ↔ WP d 159 25 lv (.int 0 :: st) h Q := WP_st rfl
theorem S159_25 : WP d 159 25 (a0 :: a1 :: a2v :: a3 :: a4 :: lv) (.int x :: st) h Q ↔ WP d 159 27 (a0 :: a1 :: a2v :: kl a3 :: some (.int x) :: lv) st h Q := WP_st (by rfl)
theorem S159_27 : WP d 159 27 (a0 :: a1 :: a2v :: a3 :: some (.int x) :: lv) st h Q ↔ WP d 159 29 (a0 :: a1 :: a2v :: a3 :: some (.int x) :: lv) (.int x :: st) h Q := WP_st rfl
theorem S159_29 : WP d 159 29 (some (.ref a) :: lv) st h Q ↔ WP d 159 30 (some (.ref a) :: lv) (.ref a :: st) h Q := WP_st rfl
theorem S159_30 {pr0 : Nat} {qi0 : Int32} (hs : shp pr0 = some (0, 8)) : WP (d + 1) 159 30 lv [.ref pr0, .int qi0] h Q ↔ WP d 129 0 [some (.ref pr0)] [] h (kR (d + 1) 159 33 lv [.int qi0] Q) := WP_callVR rfl rfl rfl rfl rfl hs
theorem S159_33 : WP d 159 33 lv (.int y :: .int x :: st) h Q ↔ if y ≤ x then WP d 159 106 lv st h Q else WP d 159 36 lv st h Q := WP_br rfl
theorem S159_36 : WP d 159 36 (some (.ref a) :: lv) st h Q ↔ WP d 159 37 (some (.ref a) :: lv) (.ref a :: st) h Q := WP_st rfl
theorem S159_37 : WP d 159 37 (a0 :: a1 :: a2v :: a3 :: some (.int x) :: lv) st h Q ↔ WP d 159 39 (a0 :: a1 :: a2v :: a3 :: some (.int x) :: lv) (.int x :: st) h Q := WP_st rfl
theorem S159_39 {pr0 : Nat} {pi0 : Int32} (hs : shp pr0 = some (0, 8)) : WP (d + 1) 159 39 lv [.int pi0, .ref pr0] h Q ↔ WP d 133 0 [some (.ref pr0), some (.int pi0)] [] h (kR (d + 1) 159 42 lv [] Q) := WP_callVR rfl rfl rfl rfl rfl hs
theorem S159_42 : WP d 159 42 lv (.int x :: st) h Q ↔ if x = 0 then WP d 159 100 lv st h Q else WP d 159 45 lv st h Q := WP_br rfl
theorem S159_45 : WP d 159 45 (a0 :: a1 :: some (.long u) :: lv) st h Q ↔ WP d 159 46 (a0 :: a1 :: some (.long u) :: lv) (.long u :: st) h Q := WP_st rfl
theorem S159_46 : WP d 159 46 (some (.ref a) :: lv) st h Q ↔ WP d 159 47 (some (.ref a) :: lv) (.ref a :: st) h Q := WP_st rfl
theorem S159_47 (hs : shp a = some (0, 8)) : WP d 159 47 lv (.ref a :: st) h Q ↔ WP d 159 50 lv (.ref (RV a 13) :: st) h Q := WP_getR (r := 525) rfl hs (by decide)
theorem S159_50 : WP d 159 50 lv st h Q ↔ WP d 159 52 lv (.int 47 :: st) h Q := WP_st rfl
theorem S159_52 : WP d 159 52 (a0 :: a1 :: a2v :: a3 :: some (.int x) :: lv) st h Q ↔ WP d 159 54 (a0 :: a1 :: a2v :: a3 :: some (.int x) :: lv) (.int x :: st) h Q := WP_st rfl
theorem S159_54 : WP d 159 54 lv (.int y :: .int x :: st) h Q ↔ WP d 159 55 lv (.int (x + y) :: st) h Q := WP_st rfl
theorem S159_55 (hi : okA 1 a i) : WP d 159 55 lv (.int i :: .ref a :: st) h Q ↔ WP d 159 56 lv (.int (h.1 a i.toNatClampNeg) :: st) h Q := WP_iald rfl hi
theorem S159_56 : WP d 159 56 lv (.int x :: st) h Q ↔ WP d 159 57 lv (.long x.toInt64 :: st) h Q := WP_st rfl
theorem S159_57 : WP d 159 57 (some (.ref a) :: lv) st h Q ↔ WP d 159 58 (some (.ref a) :: lv) (.ref a :: st) h Q := WP_st rfl
theorem S159_58 : WP d 159 58 (a0 :: a1 :: a2v :: a3 :: some (.int x) :: lv) st h Q ↔ WP d 159 60 (a0 :: a1 :: a2v :: a3 :: some (.int x) :: lv) (.int x :: st) h Q := WP_st rfl
theorem S159_60 {pr0 : Nat} {pi0 : Int32} {qj0 : Int64} {qj1 : Int64} (hs : shp pr0 = some (0, 8)) : WP (d + 1) 159 60 lv [.int pi0, .ref pr0, .long qj1, .long qj0] h Q ↔ WP d 156 0 [some (.ref pr0), some (.int pi0)] [] h (kR (d + 1) 159 63 lv [.long qj1, .long qj0] Q) := WP_callVR rfl rfl rfl rfl rfl hs
theorem S159_63 : WP d 159 63 lv (.long w :: .long u :: st) h Q ↔ WP d 159 64 lv (.long (u * w) :: st) h Q := WP_st rfl
theorem S159_64 : WP d 159 64 (some (.ref a) :: lv) st h Q ↔ WP d 159 65 (some (.ref a) :: lv) (.ref a :: st) h Q := WP_st rfl
theorem S159_65 : WP d 159 65 (some (.ref a) :: lv) st h Q ↔ WP d 159 66 (some (.ref a) :: lv) (.ref a :: st) h Q := WP_st rfl
theorem S159_66 : WP d 159 66 (a0 :: a1 :: a2v :: a3 :: some (.int x) :: lv) st h Q ↔ WP d 159 68 (a0 :: a1 :: a2v :: a3 :: some (.int x) :: lv) (.int x :: st) h Q := WP_st rfl
theorem S159_68 {pr0 : Nat} {pi0 : Int32} {qj0 : Int64} {qj1 : Int64} {qr1 : Nat} (hs : shp pr0 = some (0, 8)) : WP (d + 1) 159 68 lv [.int pi0, .ref pr0, .ref qr1, .long qj1, .long qj0] h Q ↔ WP d 135 0 [some (.ref pr0), some (.int pi0)] [] h (kR (d + 1) 159 71 lv [.ref qr1, .long qj1, .long qj0] Q) := WP_callVR rfl rfl rfl rfl rfl hs
theorem S159_71 {pr0 : Nat} {pi0 : Int32} {qj0 : Int64} {qj1 : Int64} (hs : shp pr0 = some (0, 8)) : WP (d + 1) 159 71 lv [.int pi0, .ref pr0, .long qj1, .long qj0] h Q ↔ WP d 158 0 [some (.ref pr0), some (.int pi0)] [] h (kR (d + 1) 159 74 lv [.long qj1, .long qj0] Q) := WP_callVR rfl rfl rfl rfl rfl hs
theorem S159_74 : WP d 159 74 (some (.ref a) :: lv) st h Q ↔ WP d 159 75 (some (.ref a) :: lv) (.ref a :: st) h Q := WP_st rfl
theorem S159_75 : WP d 159 75 (some (.ref a) :: lv) st h Q ↔ WP d 159 76 (some (.ref a) :: lv) (.ref a :: st) h Q := WP_st rfl
theorem S159_76 : WP d 159 76 (a0 :: a1 :: a2v :: a3 :: some (.int x) :: lv) st h Q ↔ WP d 159 78 (a0 :: a1 :: a2v :: a3 :: some (.int x) :: lv) (.int x :: st) h Q := WP_st rfl
theorem S159_78 {pr0 : Nat} {pi0 : Int32} {qj0 : Int64} {qj1 : Int64} {qj2 : Int64} {qr1 : Nat} (hs : shp pr0 = some (0, 8)) : WP (d + 1) 159 78 lv [.int pi0, .ref pr0, .ref qr1, .long qj2, .long qj1, .long qj0] h Q ↔ WP d 134 0 [some (.ref pr0), some (.int pi0)] [] h (kR (d + 1) 159 81 lv [.ref qr1, .long qj2, .long qj1, .long qj0] Q) := WP_callVR rfl rfl rfl rfl rfl hs
theorem S159_81 {pr0 : Nat} {pi0 : Int32} {qj0 : Int64} {qj1 : Int64} {qj2 : Int64} (hs : shp pr0 = some (0, 8)) : WP (d + 1) 159 81 lv [.int pi0, .ref pr0, .long qj2, .long qj1, .long qj0] h Q ↔ WP d 158 0 [some (.ref pr0), some (.int pi0)] [] h (kR (d + 1) 159 84 lv [.long qj2, .long qj1, .long qj0] Q) := WP_callVR rfl rfl rfl rfl rfl hs
theorem S159_84 : WP d 159 84 lv (.long w :: .long u :: st) h Q ↔ WP d 159 85 lv (.long (u - w) :: st) h Q := WP_st rfl
theorem S159_85 : WP d 159 85 (some (.ref a) :: lv) st h Q ↔ WP d 159 86 (some (.ref a) :: lv) (.ref a :: st) h Q := WP_st rfl
theorem S159_86 (hs : shp a = some (0, 8)) : WP d 159 86 lv (.ref a :: st) h Q ↔ WP d 159 89 lv (.ref (RV a 13) :: st) h Q := WP_getR (r := 525) rfl hs (by decide)
theorem S159_89 : WP d 159 89 lv st h Q ↔ WP d 159 91 lv (.int 36 :: st) h Q := WP_st rfl
theorem S159_91 : WP d 159 91 (a0 :: a1 :: a2v :: a3 :: some (.int x) :: lv) st h Q ↔ WP d 159 93 (a0 :: a1 :: a2v :: a3 :: some (.int x) :: lv) (.int x :: st) h Q := WP_st rfl
theorem S159_93 : WP d 159 93 lv (.int y :: .int x :: st) h Q ↔ WP d 159 94 lv (.int (x + y) :: st) h Q := WP_st rfl
theorem S159_94 (hi : okA 1 a i) : WP d 159 94 lv (.int i :: .ref a :: st) h Q ↔ WP d 159 95 lv (.int (h.1 a i.toNatClampNeg) :: st) h Q := WP_iald rfl hi
theorem S159_95 : WP d 159 95 lv (.int x :: st) h Q ↔ WP d 159 96 lv (.long x.toInt64 :: st) h Q := WP_st rfl
theorem S159_96 : WP d 159 96 lv (.long w :: .long u :: st) h Q ↔ WP d 159 97 lv (.long (u - w) :: st) h Q := WP_st rfl
theorem S159_97 : WP d 159 97 lv (.long w :: .long u :: st) h Q ↔ WP d 159 98 lv (.long (u * w) :: st) h Q := WP_st rfl
theorem S159_98 : WP d 159 98 lv (.long w :: .long u :: st) h Q ↔ WP d 159 99 lv (.long (u + w) :: st) h Q := WP_st rfl
theorem S159_99 : WP d 159 99 (a0 :: a1 :: a2v :: a3 :: lv) (.long u :: st) h Q ↔ WP d 159 100 (a0 :: kl a1 :: some (.long u) :: none :: lv) st h Q := WP_st (by rfl)
theorem S159_100 : WP d 159 100 (a0 :: a1 :: a2v :: a3 :: some (.int x) :: lv) st h Q ↔ WP d 159 103 (a0 :: a1 :: a2v :: kl a3 :: some (.int (x + 1)) :: lv) st h Q := WP_st (by rfl)
theorem S159_103 : WP d 159 103 lv st h Q ↔ WP d 159 27 lv st h Q := WP_st rfl
theorem S159_106 : WP d 159 106 (some (.ref a) :: lv) st h Q ↔ WP d 159 107 (some (.ref a) :: lv) (.ref a :: st) h Q := WP_st rfl
theorem S159_107 : WP d 159 107 (a0 :: a1 :: some (.long u) :: lv) st h Q ↔ WP d 159 108 (a0 :: a1 :: some (.long u) :: lv) (.long u :: st) h Q := WP_st rfl
theorem S159_108 : WP d 159 108 (some (.ref a) :: lv) st h Q ↔ WP d 159 109 (some (.ref a) :: lv) (.ref a :: st) h Q := WP_st rfl
theorem S159_109 (hs : shp a = some (0, 8)) : WP d 159 109 lv (.ref a :: st) h Q ↔ WP d 159 112 lv (.long (h.2.1 a 26) :: st) h Q := WP_getL (r := 538) rfl hs (by decide)
theorem S159_112 {pr0 : Nat} {pj0 : Int64} {pj1 : Int64} (hs : shp pr0 = some (0, 8)) : WP (d + 1) 159 112 lv [.long pj1, .long pj0, .ref pr0] h Q ↔ WP d 151 0 [some (.ref pr0), some (.long pj0), none, some (.long pj1), none, none, none, none, none, none, none] [] h (kV (d + 1) 159 115 lv [] Q) := WP_callVV rfl rfl rfl rfl rfl hs
theorem S159_115 : WP d 159 115 (some (.ref a) :: lv) st h Q ↔ WP d 159 116 (some (.ref a) :: lv) (.ref a :: st) h Q := WP_st rfl
theorem S159_116 : WP d 159 116 (a0 :: some (.int x) :: lv) st h Q ↔ WP d 159 117 (a0 :: some (.int x) :: lv) (.int x :: st) h Q := WP_st rfl
theorem S159_117 {pr0 : Nat} {pi0 : Int32} (hs : shp pr0 = some (0, 8)) : WP (d + 1) 159 117 lv [.int pi0, .ref pr0] h Q ↔ WP d 152 0 [some (.ref pr0), some (.int pi0)] [] h (kR (d + 1) 159 120 lv [] Q) := WP_callVR rfl rfl rfl rfl rfl hs
theorem S159_120 : WP d 159 120 lv [.long u] h Q ↔ Q (some (some (.long u))) h := WP_end rfl rfl rfl
theorem S160_0 : WP d 160 0 (some (.ref a) :: lv) st h Q ↔ WP d 160 1 (some (.ref a) :: lv) (.ref a :: st) h Q := WP_st rfl
theorem S160_1 : WP d 160 1 (a0 :: some (.int x) :: lv) st h Q ↔ WP d 160 2 (a0 :: some (.int x) :: lv) (.int x :: st) h Q := WP_st rfl
theorem S160_2 {pr0 : Nat} {pi0 : Int32} (hs : shp pr0 = some (0, 8)) : WP (d + 1) 160 2 lv [.int pi0, .ref pr0] h Q ↔ WP d 131 0 [some (.ref pr0), some (.int pi0)] [] h (kR (d + 1) 160 5 lv [] Q) := WP_callVR rfl rfl rfl rfl rfl hs
theorem S160_5 : WP d 160 5 lv (.int x :: st) h Q ↔ if x = 0 then WP d 160 31 lv st h Q else WP d 160 8 lv st h Q := WP_br rfl
theorem S160_8 : WP d 160 8 (some (.ref a) :: lv) st h Q ↔ WP d 160 9 (some (.ref a) :: lv) (.ref a :: st) h Q := WP_st rfl
theorem S160_9 : WP d 160 9 (a0 :: some (.int x) :: lv) st h Q ↔ WP d 160 10 (a0 :: some (.int x) :: lv) (.int x :: st) h Q := WP_st rfl
theorem S160_10 {pr0 : Nat} {pi0 : Int32} (hs : shp pr0 = some (0, 8)) : WP (d + 1) 160 10 lv [.int pi0, .ref pr0] h Q ↔ WP d 133 0 [some (.ref pr0), some (.int pi0)] [] h (kR (d + 1) 160 13 lv [] Q) := WP_callVR rfl rfl rfl rfl rfl hs
theorem S160_13 : WP d 160 13 lv (.int x :: st) h Q ↔ if x = 0 then WP d 160 31 lv st h Q else WP d 160 16 lv st h Q := WP_br rfl
theorem S160_16 : WP d 160 16 (some (.ref a) :: lv) st h Q ↔ WP d 160 17 (some (.ref a) :: lv) (.ref a :: st) h Q := WP_st rfl
theorem S160_17 {pr0 : Nat} (hs : shp pr0 = some (0, 8)) : WP (d + 1) 160 17 lv [.ref pr0] h Q ↔ WP d 142 0 [some (.ref pr0), none, none] [] h (kR (d + 1) 160 20 lv [] Q) := WP_callVR rfl rfl rfl rfl rfl hs
theorem S160_20 : WP d 160 20 (a0 :: some (.int x) :: lv) st h Q ↔ WP d 160 21 (a0 :: some (.int x) :: lv) (.int x :: st) h Q := WP_st rfl
theorem S160_21 {pi0 : Int32} {pi1 : Int32} : WP (d + 1) 160 21 lv [.int pi1, .int pi0] h Q ↔ WP d 102 0 [some (.int pi0), some (.int pi1)] [] h (kR (d + 1) 160 24 lv [] Q) := WP_callSR rfl rfl rfl rfl rfl
theorem S160_24 : WP d 160 24 lv (.int x :: st) h Q ↔ if x = 0 then WP d 160 27 lv st h Q else WP d 160 31 lv st h Q := WP_br rfl
theorem S160_27 : WP d 160 27 lv st h Q ↔ WP d 160 28 lv (.int 1 :: st) h Q := WP_st rfl
theorem S160_28 : WP d 160 28 lv st h Q ↔ WP d 160 32 lv st h Q := WP_st rfl
theorem S160_31 : WP d 160 31 lv st h Q ↔ WP d 160 32 lv (.int 0 :: st) h Q := WP_st rfl
theorem S160_32 (hx : isB x) : WP d 160 32 lv [.int x] h Q ↔ Q (some (some (.int x))) h := WP_endZ rfl rfl hx
theorem S161_0 : WP d 161 0 (some (.ref a) :: lv) st h Q ↔ WP d 161 1 (some (.ref a) :: lv) (.ref a :: st) h Q := WP_st rfl
theorem S161_1 : WP d 161 1 lv st h Q ↔ WP d 161 2 lv (.int 0 :: st) h Q := WP_st rfl
theorem S161_2 (hs : shp a = some (0, 8)) : WP d 161 2 lv (.int x :: .ref a :: st) h Q ↔ WP d 161 5 lv st (setI h a 0 x) Q := WP_putI (r := 512) rfl hs (by decide)
theorem S161_5 : WP d 161 5 (some (.ref a) :: lv) st h Q ↔ WP d 161 6 (some (.ref a) :: lv) (.ref a :: st) h Q := WP_st rfl
theorem S161_6 {pr0 : Nat} (hs : shp pr0 = some (0, 8)) : WP (d + 1) 161 6 lv [.ref pr0] h Q ↔ WP d 136 0 [some (.ref pr0), none, none] [] h (kR (d + 1) 161 9 lv [] Q) := WP_callVR rfl rfl rfl rfl rfl hs
theorem S161_9 {pi0 : Int32} : WP (d + 1) 161 9 lv [.int pi0] h Q ↔ WP d 103 0 [some (.int pi0), none, none] [] h (kR (d + 1) 161 12 lv [] Q) := WP_callSR rfl rfl rfl rfl rfl
theorem S161_12 : WP d 161 12 (some (.ref a) :: lv) st h Q ↔ WP d 161 13 (some (.ref a) :: lv) (.ref a :: st) h Q := WP_st rfl
theorem S161_13 {pr0 : Nat} {qi0 : Int32} (hs : shp pr0 = some (0, 8)) : WP (d + 1) 161 13 lv [.ref pr0, .int qi0] h Q ↔ WP d 142 0 [some (.ref pr0), none, none] [] h (kR (d + 1) 161 16 lv [.int qi0] Q) := WP_callVR rfl rfl rfl rfl rfl hs
theorem S161_16 {pi0 : Int32} {qi1 : Int32} : WP (d + 1) 161 16 lv [.int pi0, .int qi1] h Q ↔ WP d 103 0 [some (.int pi0), none, none] [] h (kR (d + 1) 161 19 lv [.int qi1] Q) := WP_callSR rfl rfl rfl rfl rfl
theorem S161_19 : WP d 161 19 lv (.int y :: .int x :: st) h Q ↔ WP d 161 20 lv (.int (x - y) :: st) h Q := WP_st rfl
theorem S161_20 : WP d 161 20 lv [.int x] h Q ↔ Q (some (some (.int x))) h := WP_end rfl rfl rfl
theorem S162_0 : WP d 162 0 (some (.ref a) :: lv) st h Q ↔ WP d 162 1 (some (.ref a) :: lv) (.ref a :: st) h Q := WP_st rfl
theorem S162_1 : WP d 162 1 lv st h Q ↔ WP d 162 2 lv (.int 0 :: st) h Q := WP_st rfl
theorem S162_2 (hs : shp a = some (0, 8)) : WP d 162 2 lv (.int x :: .ref a :: st) h Q ↔ WP d 162 5 lv st (setI h a 0 x) Q := WP_putI (r := 512) rfl hs (by decide)
theorem S162_5 : WP d 162 5 (some (.ref a) :: lv) st h Q ↔ WP d 162 6 (some (.ref a) :: lv) (.ref a :: st) h Q := WP_st rfl
theorem S162_6 : WP d 162 6 (a0 :: some (.int x) :: lv) st h Q ↔ WP d 162 7 (a0 :: some (.int x) :: lv) (.int x :: st) h Q := WP_st rfl
theorem S162_7 {pr0 : Nat} {pi0 : Int32} (hs : shp pr0 = some (0, 8)) : WP (d + 1) 162 7 lv [.int pi0, .ref pr0] h Q ↔ WP d 160 0 [some (.ref pr0), some (.int pi0)] [] h (kR (d + 1) 162 10 lv [] Q) := WP_callVR rfl rfl rfl rfl rfl hs
theorem S162_10 : WP d 162 10 lv (.int x :: st) h Q ↔ if x = 0 then WP d 162 13 lv st h Q else WP d 162 15 lv st h Q := WP_br rfl
theorem S162_13 : WP d 162 13 lv st h Q ↔ WP d 162 14 lv (.int (-1) :: st) h Q := WP_st rfl
theorem S162_14 : WP d 162 14 lv [.int x] h Q ↔ Q (some (some (.int x))) h := WP_end rfl rfl rfl
theorem S162_15 : WP d 162 15 (some (.ref a) :: lv) st h Q ↔ WP d 162 16 (some (.ref a) :: lv) (.ref a :: st) h Q := WP_st rfl
theorem S162_16 {pr0 : Nat} (hs : shp pr0 = some (0, 8)) : WP (d + 1) 162 16 lv [.ref pr0] h Q ↔ WP d 142 0 [some (.ref pr0), none, none] [] h (kR (d + 1) 162 19 lv [] Q) := WP_callVR rfl rfl rfl rfl rfl hs
theorem S162_19 : WP d 162 19 (a0 :: a1 :: a2v :: lv) (.int x :: st) h Q ↔ WP d 162 20 (a0 :: kl a1 :: some (.int x) :: lv) st h Q := WP_st (by rfl)
theorem S162_20 : WP d 162 20 lv st h Q ↔ WP d 162 21 lv (.int 0 :: st) h Q := WP_st rfl
theorem S162_21 : WP d 162 21 (a0 :: a1 :: a2v :: a3 :: lv) (.int x :: st) h Q ↔ WP d 162 22 (a0 :: a1 :: kl a2v :: some (.int x) :: lv) st h Q := WP_st (by rfl)
theorem S162_22 : WP d 162 22 lv st h Q ↔ WP d 162 23 lv (.int 0 :: st) h Q := WP_st rfl
theorem S162_23 : WP d 162 23 (a0 :: a1 :: a2v :: a3 :: a4 :: lv) (.int x :: st) h Q ↔ WP d 162 25 (a0 :: a1 :: a2v :: kl a3 :: some (.int x) :: lv) st h Q := WP_st (by rfl)
theorem S162_25 : WP d 162 25 (a0 :: a1 :: a2v :: a3 :: some (.int x) :: lv) st h Q ↔ WP d 162 27 (a0 :: a1 :: a2v :: a3 :: some (.int x) :: lv) (.int x :: st) h Q := WP_st rfl
theorem S162_27 : WP d 162 27 (some (.ref a) :: lv) st h Q ↔ WP d 162 28 (some (.ref a) :: lv) (.ref a :: st) h Q := WP_st rfl
theorem S162_28 {pr0 : Nat} {qi0 : Int32} (hs : shp pr0 = some (0, 8)) : WP (d + 1) 162 28 lv [.ref pr0, .int qi0] h Q ↔ WP d 129 0 [some (.ref pr0)] [] h (kR (d + 1) 162 31 lv [.int qi0] Q) := WP_callVR rfl rfl rfl rfl rfl hs
theorem S162_31 : WP d 162 31 lv (.int y :: .int x :: st) h Q ↔ if y ≤ x then WP d 162 81 lv st h Q else WP d 162 34 lv st h Q := WP_br rfl
theorem S162_34 : WP d 162 34 (a0 :: a1 :: some (.int x) :: lv) st h Q ↔ WP d 162 35 (a0 :: a1 :: some (.int x) :: lv) (.int x :: st) h Q := WP_st rfl
theorem S162_35 : WP d 162 35 (a0 :: a1 :: a2v :: a3 :: some (.int x) :: lv) st h Q ↔ WP d 162 37 (a0 :: a1 :: a2v :: a3 :: some (.int x) :: lv) (.int x :: st) h Q := WP_st rfl
theorem S162_37 {pi0 : Int32} {pi1 : Int32} : WP (d + 1) 162 37 lv [.int pi1, .int pi0] h Q ↔ WP d 102 0 [some (.int pi0), some (.int pi1)] [] h (kR (d + 1) 162 40 lv [] Q) := WP_callSR rfl rfl rfl rfl rfl
theorem S162_40 : WP d 162 40 lv (.int x :: st) h Q ↔ if x = 0 then WP d 162 75 lv st h Q else WP d 162 43 lv st h Q := WP_br rfl
theorem S162_43 : WP d 162 43 (some (.ref a) :: lv) st h Q ↔ WP d 162 44 (some (.ref a) :: lv) (.ref a :: st) h Q := WP_st rfl
theorem S162_44 : WP d 162 44 (some (.ref a) :: lv) st h Q ↔ WP d 162 45 (some (.ref a) :: lv) (.ref a :: st) h Q := WP_st rfl
theorem S162_45 : WP d 162 45 (a0 :: some (.int x) :: lv) st h Q ↔ WP d 162 46 (a0 :: some (.int x) :: lv) (.int x :: st) h Q := WP_st rfl
theorem S162_46 {pr0 : Nat} {pi0 : Int32} {qr1 : Nat} (hs : shp pr0 = some (0, 8)) : WP (d + 1) 162 46 lv [.int pi0, .ref pr0, .ref qr1] h Q ↔ WP d 134 0 [some (.ref pr0), some (.int pi0)] [] h (kR (d + 1) 162 49 lv [.ref qr1] Q) := WP_callVR rfl rfl rfl rfl rfl hs
theorem S162_49 : WP d 162 49 (some (.ref a) :: lv) st h Q ↔ WP d 162 50 (some (.ref a) :: lv) (.ref a :: st) h Q := WP_st rfl
theorem S162_50 : WP d 162 50 (a0 :: some (.int x) :: lv) st h Q ↔ WP d 162 51 (a0 :: some (.int x) :: lv) (.int x :: st) h Q := WP_st rfl
theorem S162_51 {pr0 : Nat} {pi0 : Int32} {qr1 : Nat} {qi1 : Int32} (hs : shp pr0 = some (0, 8)) : WP (d + 1) 162 51 lv [.int pi0, .ref pr0, .int qi1, .ref qr1] h Q ↔ WP d 135 0 [some (.ref pr0), some (.int pi0)] [] h (kR (d + 1) 162 54 lv [.int qi1, .ref qr1] Q) := WP_callVR rfl rfl rfl rfl rfl hs
theorem S162_54 : WP d 162 54 (a0 :: a1 :: some (.int x) :: lv) st h Q ↔ WP d 162 55 (a0 :: a1 :: some (.int x) :: lv) (.int x :: st) h Q := WP_st rfl
theorem S162_55 : WP d 162 55 lv st h Q ↔ WP d 162 56 lv (.int 1 :: st) h Q := WP_st rfl
theorem S162_56 : WP d 162 56 (a0 :: a1 :: a2v :: a3 :: some (.int x) :: lv) st h Q ↔ WP d 162 58 (a0 :: a1 :: a2v :: a3 :: some (.int x) :: lv) (.int x :: st) h Q := WP_st rfl
theorem S162_58 : WP d 162 58 lv (.int y :: .int x :: st) h Q ↔ WP d 162 59 lv (.int (x <<< (y &&& 31)) :: st) h Q := WP_st rfl
theorem S162_59 : WP d 162 59 lv st h Q ↔ WP d 162 60 lv (.int (-1) :: st) h Q := WP_st rfl
theorem S162_60 : WP d 162 60 lv (.int y :: .int x :: st) h Q ↔ WP d 162 61 lv (.int (x ^^^ y) :: st) h Q := WP_st rfl
theorem S162_61 : WP d 162 61 lv (.int y :: .int x :: st) h Q ↔ WP d 162 62 lv (.int (x &&& y) :: st) h Q := WP_st rfl
theorem S162_62 {pr0 : Nat} {pi0 : Int32} {pi1 : Int32} {pi2 : Int32} (hs : shp pr0 = some (0, 8)) : WP (d + 1) 162 62 lv [.int pi2, .int pi1, .int pi0, .ref pr0] h Q ↔ WP d 139 0 [some (.ref pr0), some (.int pi0), some (.int pi1), some (.int pi2)] [] h (kR (d + 1) 162 65 lv [] Q) := WP_callVR rfl rfl rfl rfl rfl hs
theorem S162_65 : WP d 162 65 lv (.int x :: st) h Q ↔ if x = 0 then WP d 162 68 lv st h Q else WP d 162 75 lv st h Q := WP_br rfl
theorem S162_68 : WP d 162 68 (a0 :: a1 :: a2v :: some (.int x) :: lv) st h Q ↔ WP d 162 69 (a0 :: a1 :: a2v :: some (.int x) :: lv) (.int x :: st) h Q := WP_st rfl
theorem S162_69 : WP d 162 69 lv st h Q ↔ WP d 162 70 lv (.int 1 :: st) h Q := WP_st rfl
theorem S162_70 : WP d 162 70 (a0 :: a1 :: a2v :: a3 :: some (.int x) :: lv) st h Q ↔ WP d 162 72 (a0 :: a1 :: a2v :: a3 :: some (.int x) :: lv) (.int x :: st) h Q := WP_st rfl
theorem S162_72 : WP d 162 72 lv (.int y :: .int x :: st) h Q ↔ WP d 162 73 lv (.int (x <<< (y &&& 31)) :: st) h Q := WP_st rfl
theorem S162_73 : WP d 162 73 lv (.int y :: .int x :: st) h Q ↔ WP d 162 74 lv (.int (x ||| y) :: st) h Q := WP_st rfl
theorem S162_74 : WP d 162 74 (a0 :: a1 :: a2v :: a3 :: lv) (.int x :: st) h Q ↔ WP d 162 75 (a0 :: a1 :: kl a2v :: some (.int x) :: lv) st h Q := WP_st (by rfl)
theorem S162_75 : WP d 162 75 (a0 :: a1 :: a2v :: a3 :: some (.int x) :: lv) st h Q ↔ WP d 162 78 (a0 :: a1 :: a2v :: kl a3 :: some (.int (x + 1)) :: lv) st h Q := WP_st (by rfl)
theorem S162_78 : WP d 162 78 lv st h Q ↔ WP d 162 25 lv st h Q := WP_st rfl
theorem S162_81 : WP d 162 81 (a0 :: a1 :: a2v :: some (.int x) :: lv) st h Q ↔ WP d 162 82 (a0 :: a1 :: a2v :: some (.int x) :: lv) (.int x :: st) h Q := WP_st rfl
theorem S162_82 : WP d 162 82 lv [.int x] h Q ↔ Q (some (some (.int x))) h := WP_end rfl rfl rfl
theorem S163_0 : WP d 163 0 (some (.ref a) :: lv) st h Q ↔ WP d 163 1 (some (.ref a) :: lv) (.ref a :: st) h Q := WP_st rfl
theorem S163_1 {pr0 : Nat} (hs : shp pr0 = some (0, 8)) : WP (d + 1) 163 1 lv [.ref pr0] h Q ↔ WP d 142 0 [some (.ref pr0), none, none] [] h (kR (d + 1) 163 4 lv [] Q) := WP_callVR rfl rfl rfl rfl rfl hs
theorem S163_4 : WP d 163 4 (a0 :: a1 :: lv) (.int x :: st) h Q ↔ WP d 163 5 (kl a0 :: some (.int x) :: lv) st h Q := WP_st (by rfl)
theorem S163_5 : WP d 163 5 (some (.ref a) :: lv) st h Q ↔ WP d 163 6 (some (.ref a) :: lv) (.ref a :: st) h Q := WP_st rfl
theorem S163_6 {pr0 : Nat} (hs : shp pr0 = some (0, 8)) : WP (d + 1) 163 6 lv [.ref pr0] h Q ↔ WP d 137 0 [some (.ref pr0), none, none] [] h (kR (d + 1) 163 9 lv [] Q) := WP_callVR rfl rfl rfl rfl rfl hs
theorem S163_9 : WP d 163 9 (a0 :: a1 :: a2v :: lv) (.int x :: st) h Q ↔ WP d 163 10 (a0 :: kl a1 :: some (.int x) :: lv) st h Q := WP_st (by rfl)
theorem S163_10 : WP d 163 10 lv st h Q ↔ WP d 163 11 lv (.int 0 :: st) h Q := WP_st rfl
theorem S163_11 : WP d 163 11 (a0 :: a1 :: a2v :: a3 :: lv) (.int x :: st) h Q ↔ WP d 163 12 (a0 :: a1 :: kl a2v :: some (.int x) :: lv) st h Q := WP_st (by rfl)
theorem S163_12 : WP d 163 12 (a0 :: a1 :: a2v :: some (.int x) :: lv) st h Q ↔ WP d 163 13 (a0 :: a1 :: a2v :: some (.int x) :: lv) (.int x :: st) h Q := WP_st rfl
theorem S163_13 : WP d 163 13 (some (.ref a) :: lv) st h Q ↔ WP d 163 14 (some (.ref a) :: lv) (.ref a :: st) h Q := WP_st rfl
theorem S163_14 {pr0 : Nat} {qi0 : Int32} (hs : shp pr0 = some (0, 8)) : WP (d + 1) 163 14 lv [.ref pr0, .int qi0] h Q ↔ WP d 128 0 [some (.ref pr0)] [] h (kR (d + 1) 163 17 lv [.int qi0] Q) := WP_callVR rfl rfl rfl rfl rfl hs
theorem S163_17 : WP d 163 17 lv (.int y :: .int x :: st) h Q ↔ if y ≤ x then WP d 163 67 lv st h Q else WP d 163 20 lv st h Q := WP_br rfl
theorem S163_20 : WP d 163 20 (some (.ref a) :: lv) st h Q ↔ WP d 163 21 (some (.ref a) :: lv) (.ref a :: st) h Q := WP_st rfl
theorem S163_21 (hs : shp a = some (0, 8)) : WP d 163 21 lv (.ref a :: st) h Q ↔ WP d 163 24 lv (.ref (RV a 29) :: st) h Q := WP_getR (r := 541) rfl hs (by decide)
theorem S163_24 : WP d 163 24 (a0 :: a1 :: a2v :: some (.int x) :: lv) st h Q ↔ WP d 163 25 (a0 :: a1 :: a2v :: some (.int x) :: lv) (.int x :: st) h Q := WP_st rfl
theorem S163_25 : WP d 163 25 (some (.ref a) :: lv) st h Q ↔ WP d 163 26 (some (.ref a) :: lv) (.ref a :: st) h Q := WP_st rfl
theorem S163_26 : WP d 163 26 (a0 :: a1 :: a2v :: some (.int x) :: lv) st h Q ↔ WP d 163 27 (a0 :: a1 :: a2v :: some (.int x) :: lv) (.int x :: st) h Q := WP_st rfl
theorem S163_27 {pr0 : Nat} {pi0 : Int32} {qr1 : Nat} {qi1 : Int32} (hs : shp pr0 = some (0, 8)) : WP (d + 1) 163 27 lv [.int pi0, .ref pr0, .int qi1, .ref qr1] h Q ↔ WP d 132 0 [some (.ref pr0), some (.int pi0)] [] h (kR (d + 1) 163 30 lv [.int qi1, .ref qr1] Q) := WP_callVR rfl rfl rfl rfl rfl hs
theorem S163_30 : WP d 163 30 lv (.int x :: st) h Q ↔ if x = 0 then WP d 163 45 lv st h Q else WP d 163 33 lv st h Q := WP_br rfl
theorem S163_33 : WP d 163 33 (some (.ref a) :: lv) st h Q ↔ WP d 163 34 (some (.ref a) :: lv) (.ref a :: st) h Q := WP_st rfl
theorem S163_34 (hs : shp a = some (0, 8)) : WP d 163 34 lv (.ref a :: st) h Q ↔ WP d 163 37 lv (.ref (RV a 13) :: st) h Q := WP_getR (r := 525) rfl hs (by decide)
theorem S163_37 : WP d 163 37 lv st h Q ↔ WP d 163 39 lv (.int 8 :: st) h Q := WP_st rfl
theorem S163_39 : WP d 163 39 (a0 :: a1 :: a2v :: some (.int x) :: lv) st h Q ↔ WP d 163 40 (a0 :: a1 :: a2v :: some (.int x) :: lv) (.int x :: st) h Q := WP_st rfl
theorem S163_40 : WP d 163 40 lv (.int y :: .int x :: st) h Q ↔ WP d 163 41 lv (.int (x + y) :: st) h Q := WP_st rfl
theorem S163_41 (hi : okA 1 a i) : WP d 163 41 lv (.int i :: .ref a :: st) h Q ↔ WP d 163 42 lv (.int (h.1 a i.toNatClampNeg) :: st) h Q := WP_iald rfl hi
theorem S163_42 : WP d 163 42 lv st h Q ↔ WP d 163 46 lv st h Q := WP_st rfl
theorem S163_45 : WP d 163 45 lv st h Q ↔ WP d 163 46 lv (.int 0 :: st) h Q := WP_st rfl
theorem S163_46 (hi : okA 1 a i) : WP d 163 46 lv (.int x :: .int i :: .ref a :: st) h Q ↔ WP d 163 47 lv st (setI h a i.toNatClampNeg x) Q := WP_iast rfl hi
theorem S163_47 : WP d 163 47 (some (.ref a) :: lv) st h Q ↔ WP d 163 48 (some (.ref a) :: lv) (.ref a :: st) h Q := WP_st rfl
theorem S163_48 : WP d 163 48 (a0 :: a1 :: a2v :: some (.int x) :: lv) st h Q ↔ WP d 163 49 (a0 :: a1 :: a2v :: some (.int x) :: lv) (.int x :: st) h Q := WP_st rfl
theorem S163_49 {pr0 : Nat} {pi0 : Int32} (hs : shp pr0 = some (0, 8)) : WP (d + 1) 163 49 lv [.int pi0, .ref pr0] h Q ↔ WP d 141 0 [some (.ref pr0), some (.int pi0)] [] h (kR (d + 1) 163 52 lv [] Q) := WP_callVR rfl rfl rfl rfl rfl hs
theorem S163_52 : WP d 163 52 lv (.int x :: st) h Q ↔ if x = 0 then WP d 163 61 lv st h Q else WP d 163 55 lv st h Q := WP_br rfl
theorem S163_55 : WP d 163 55 (a0 :: a1 :: some (.int x) :: lv) st h Q ↔ WP d 163 56 (a0 :: a1 :: some (.int x) :: lv) (.int x :: st) h Q := WP_st rfl
theorem S163_56 : WP d 163 56 lv st h Q ↔ WP d 163 57 lv (.int 1 :: st) h Q := WP_st rfl
theorem S163_57 : WP d 163 57 (a0 :: a1 :: a2v :: some (.int x) :: lv) st h Q ↔ WP d 163 58 (a0 :: a1 :: a2v :: some (.int x) :: lv) (.int x :: st) h Q := WP_st rfl
theorem S163_58 : WP d 163 58 lv (.int y :: .int x :: st) h Q ↔ WP d 163 59 lv (.int (x <<< (y &&& 31)) :: st) h Q := WP_st rfl
theorem S163_59 : WP d 163 59 lv (.int y :: .int x :: st) h Q ↔ WP d 163 60 lv (.int (x ||| y) :: st) h Q := WP_st rfl
theorem S163_60 : WP d 163 60 (a0 :: a1 :: a2v :: lv) (.int x :: st) h Q ↔ WP d 163 61 (a0 :: kl a1 :: some (.int x) :: lv) st h Q := WP_st (by rfl)
theorem S163_61 : WP d 163 61 (a0 :: a1 :: a2v :: some (.int x) :: lv) st h Q ↔ WP d 163 64 (a0 :: a1 :: kl a2v :: some (.int (x + 1)) :: lv) st h Q := WP_st (by rfl)
theorem S163_64 : WP d 163 64 lv st h Q ↔ WP d 163 12 lv st h Q := WP_st rfl
theorem S163_67 : WP d 163 67 lv st h Q ↔ WP d 163 68 lv (.int 0 :: st) h Q := WP_st rfl
theorem S163_68 : WP d 163 68 (a0 :: a1 :: a2v :: a3 :: lv) (.int x :: st) h Q ↔ WP d 163 69 (a0 :: a1 :: kl a2v :: some (.int x) :: lv) st h Q := WP_st (by rfl)
theorem S163_69 : WP d 163 69 (a0 :: a1 :: a2v :: some (.int x) :: lv) st h Q ↔ WP d 163 70 (a0 :: a1 :: a2v :: some (.int x) :: lv) (.int x :: st) h Q := WP_st rfl
theorem S163_70 : WP d 163 70 (some (.ref a) :: lv) st h Q ↔ WP d 163 71 (some (.ref a) :: lv) (.ref a :: st) h Q := WP_st rfl
theorem S163_71 {pr0 : Nat} {qi0 : Int32} (hs : shp pr0 = some (0, 8)) : WP (d + 1) 163 71 lv [.ref pr0, .int qi0] h Q ↔ WP d 128 0 [some (.ref pr0)] [] h (kR (d + 1) 163 74 lv [.int qi0] Q) := WP_callVR rfl rfl rfl rfl rfl hs
theorem S163_74 : WP d 163 74 lv (.int y :: .int x :: st) h Q ↔ if y ≤ x then WP d 163 238 lv st h Q else WP d 163 77 lv st h Q := WP_br rfl
theorem S163_77 : WP d 163 77 lv st h Q ↔ WP d 163 78 lv (.int 0 :: st) h Q := WP_st rfl
theorem S163_78 : WP d 163 78 (a0 :: a1 :: a2v :: a3 :: a4 :: lv) (.int x :: st) h Q ↔ WP d 163 80 (a0 :: a1 :: a2v :: kl a3 :: some (.int x) :: lv) st h Q := WP_st (by rfl)
theorem S163_80 : WP d 163 80 (a0 :: a1 :: a2v :: a3 :: some (.int x) :: lv) st h Q ↔ WP d 163 82 (a0 :: a1 :: a2v :: a3 :: some (.int x) :: lv) (.int x :: st) h Q := WP_st rfl
theorem S163_82 : WP d 163 82 (some (.ref a) :: lv) st h Q ↔ WP d 163 83 (some (.ref a) :: lv) (.ref a :: st) h Q := WP_st rfl
theorem S163_83 {pr0 : Nat} {qi0 : Int32} (hs : shp pr0 = some (0, 8)) : WP (d + 1) 163 83 lv [.ref pr0, .int qi0] h Q ↔ WP d 129 0 [some (.ref pr0)] [] h (kR (d + 1) 163 86 lv [.int qi0] Q) := WP_callVR rfl rfl rfl rfl rfl hs
theorem S163_86 : WP d 163 86 lv (.int y :: .int x :: st) h Q ↔ if y ≤ x then WP d 163 232 lv st h Q else WP d 163 89 lv st h Q := WP_br rfl
theorem S163_89 : WP d 163 89 (a0 :: some (.int x) :: lv) st h Q ↔ WP d 163 90 (a0 :: some (.int x) :: lv) (.int x :: st) h Q := WP_st rfl
theorem S163_90 : WP d 163 90 (a0 :: a1 :: a2v :: a3 :: some (.int x) :: lv) st h Q ↔ WP d 163 92 (a0 :: a1 :: a2v :: a3 :: some (.int x) :: lv) (.int x :: st) h Q := WP_st rfl
theorem S163_92 {pi0 : Int32} {pi1 : Int32} : WP (d + 1) 163 92 lv [.int pi1, .int pi0] h Q ↔ WP d 102 0 [some (.int pi0), some (.int pi1)] [] h (kR (d + 1) 163 95 lv [] Q) := WP_callSR rfl rfl rfl rfl rfl
theorem S163_95 : WP d 163 95 lv (.int x :: st) h Q ↔ if x = 0 then WP d 163 226 lv st h Q else WP d 163 98 lv st h Q := WP_br rfl
theorem S163_98 : WP d 163 98 (a0 :: a1 :: some (.int x) :: lv) st h Q ↔ WP d 163 99 (a0 :: a1 :: some (.int x) :: lv) (.int x :: st) h Q := WP_st rfl
theorem S163_99 : WP d 163 99 (some (.ref a) :: lv) st h Q ↔ WP d 163 100 (some (.ref a) :: lv) (.ref a :: st) h Q := WP_st rfl
theorem S163_100 : WP d 163 100 (a0 :: a1 :: a2v :: a3 :: some (.int x) :: lv) st h Q ↔ WP d 163 102 (a0 :: a1 :: a2v :: a3 :: some (.int x) :: lv) (.int x :: st) h Q := WP_st rfl
theorem S163_102 {pr0 : Nat} {pi0 : Int32} {qi1 : Int32} (hs : shp pr0 = some (0, 8)) : WP (d + 1) 163 102 lv [.int pi0, .ref pr0, .int qi1] h Q ↔ WP d 134 0 [some (.ref pr0), some (.int pi0)] [] h (kR (d + 1) 163 105 lv [.int qi1] Q) := WP_callVR rfl rfl rfl rfl rfl hs
theorem S163_105 {pi0 : Int32} {pi1 : Int32} : WP (d + 1) 163 105 lv [.int pi1, .int pi0] h Q ↔ WP d 102 0 [some (.int pi0), some (.int pi1)] [] h (kR (d + 1) 163 108 lv [] Q) := WP_callSR rfl rfl rfl rfl rfl
theorem S163_108 : WP d 163 108 (a0 :: a1 :: some (.int x) :: lv) st h Q ↔ WP d 163 109 (a0 :: a1 :: some (.int x) :: lv) (.int x :: st) h Q := WP_st rfl
theorem S163_109 : WP d 163 109 (some (.ref a) :: lv) st h Q ↔ WP d 163 110 (some (.ref a) :: lv) (.ref a :: st) h Q := WP_st rfl
theorem S163_110 : WP d 163 110 (a0 :: a1 :: a2v :: a3 :: some (.int x) :: lv) st h Q ↔ WP d 163 112 (a0 :: a1 :: a2v :: a3 :: some (.int x) :: lv) (.int x :: st) h Q := WP_st rfl
theorem S163_112 {pr0 : Nat} {pi0 : Int32} {qi1 : Int32} {qi2 : Int32} (hs : shp pr0 = some (0, 8)) : WP (d + 1) 163 112 lv [.int pi0, .ref pr0, .int qi2, .int qi1] h Q ↔ WP d 135 0 [some (.ref pr0), some (.int pi0)] [] h (kR (d + 1) 163 115 lv [.int qi2, .int qi1] Q) := WP_callVR rfl rfl rfl rfl rfl hs
theorem S163_115 {pi0 : Int32} {pi1 : Int32} {qi2 : Int32} : WP (d + 1) 163 115 lv [.int pi1, .int pi0, .int qi2] h Q ↔ WP d 102 0 [some (.int pi0), some (.int pi1)] [] h (kR (d + 1) 163 118 lv [.int qi2] Q) := WP_callSR rfl rfl rfl rfl rfl
theorem S163_118 : WP d 163 118 lv (.int y :: .int x :: st) h Q ↔ if x = y then WP d 163 121 lv st h Q else WP d 163 124 lv st h Q := WP_br rfl
theorem S163_121 : WP d 163 121 lv st h Q ↔ WP d 163 226 lv st h Q := WP_st rfl
theorem S163_124 : WP d 163 124 (a0 :: a1 :: some (.int x) :: lv) st h Q ↔ WP d 163 125 (a0 :: a1 :: some (.int x) :: lv) (.int x :: st) h Q := WP_st rfl
theorem S163_125 : WP d 163 125 (some (.ref a) :: lv) st h Q ↔ WP d 163 126 (some (.ref a) :: lv) (.ref a :: st) h Q := WP_st rfl
theorem S163_126 : WP d 163 126 (a0 :: a1 :: a2v :: a3 :: some (.int x) :: lv) st h Q ↔ WP d 163 128 (a0 :: a1 :: a2v :: a3 :: some (.int x) :: lv) (.int x :: st) h Q := WP_st rfl
theorem S163_128 {pr0 : Nat} {pi0 : Int32} {qi1 : Int32} (hs : shp pr0 = some (0, 8)) : WP (d + 1) 163 128 lv [.int pi0, .ref pr0, .int qi1] h Q ↔ WP d 134 0 [some (.ref pr0), some (.int pi0)] [] h (kR (d + 1) 163 131 lv [.int qi1] Q) := WP_callVR rfl rfl rfl rfl rfl hs
theorem S163_131 {pi0 : Int32} {pi1 : Int32} : WP (d + 1) 163 131 lv [.int pi1, .int pi0] h Q ↔ WP d 102 0 [some (.int pi0), some (.int pi1)] [] h (kR (d + 1) 163 134 lv [] Q) := WP_callSR rfl rfl rfl rfl rfl
theorem S163_134 : WP d 163 134 lv (.int x :: st) h Q ↔ if x = 0 then WP d 163 173 lv st h Q else WP d 163 137 lv st h Q := WP_br rfl
theorem S163_137 : WP d 163 137 (some (.ref a) :: lv) st h Q ↔ WP d 163 138 (some (.ref a) :: lv) (.ref a :: st) h Q := WP_st rfl
theorem S163_138 (hs : shp a = some (0, 8)) : WP d 163 138 lv (.ref a :: st) h Q ↔ WP d 163 141 lv (.ref (RV a 29) :: st) h Q := WP_getR (r := 541) rfl hs (by decide)
theorem S163_141 : WP d 163 141 (some (.ref a) :: lv) st h Q ↔ WP d 163 142 (some (.ref a) :: lv) (.ref a :: st) h Q := WP_st rfl
theorem S163_142 : WP d 163 142 (a0 :: a1 :: a2v :: a3 :: some (.int x) :: lv) st h Q ↔ WP d 163 144 (a0 :: a1 :: a2v :: a3 :: some (.int x) :: lv) (.int x :: st) h Q := WP_st rfl
theorem S163_144 {pr0 : Nat} {pi0 : Int32} {qr1 : Nat} (hs : shp pr0 = some (0, 8)) : WP (d + 1) 163 144 lv [.int pi0, .ref pr0, .ref qr1] h Q ↔ WP d 135 0 [some (.ref pr0), some (.int pi0)] [] h (kR (d + 1) 163 147 lv [.ref qr1] Q) := WP_callVR rfl rfl rfl rfl rfl hs
theorem S163_147 : WP d 163 147 (some (.ref a) :: lv) st h Q ↔ WP d 163 148 (some (.ref a) :: lv) (.ref a :: st) h Q := WP_st rfl
theorem S163_148 (hs : shp a = some (0, 8)) : WP d 163 148 lv (.ref a :: st) h Q ↔ WP d 163 151 lv (.ref (RV a 29) :: st) h Q := WP_getR (r := 541) rfl hs (by decide)
set_option maxRecDepth 20000 in
theorem S163_151 : WP d 163 151 (some (.ref a) :: lv) st h Q ↔ WP d 163 152 (some (.ref a) :: lv) (.ref a :: st) h Q := WP_st rfl
set_option maxRecDepth 20000 in
theorem S163_152 : WP d 163 152 (a0 :: a1 :: a2v :: a3 :: some (.int x) :: lv) st h Q ↔ WP d 163 154 (a0 :: a1 :: a2v :: a3 :: some (.int x) :: lv) (.int x :: st) h Q := WP_st rfl
set_option maxRecDepth 20000 in
theorem S163_154 {pr0 : Nat} {pi0 : Int32} {qr1 : Nat} {qi1 : Int32} {qr2 : Nat} (hs : shp pr0 = some (0, 8)) : WP (d + 1) 163 154 lv [.int pi0, .ref pr0, .ref qr2, .int qi1, .ref qr1] h Q ↔ WP d 134 0 [some (.ref pr0), some (.int pi0)] [] h (kR (d + 1) 163 157 lv [.ref qr2, .int qi1, .ref qr1] Q) := WP_callVR rfl rfl rfl rfl rfl hs
set_option maxRecDepth 20000 in
theorem S163_157 (hi : okA 1 a i) : WP d 163 157 lv (.int i :: .ref a :: st) h Q ↔ WP d 163 158 lv (.int (h.1 a i.toNatClampNeg) :: st) h Q := WP_iald rfl hi
set_option maxRecDepth 20000 in
theorem S163_158 : WP d 163 158 (some (.ref a) :: lv) st h Q ↔ WP d 163 159 (some (.ref a) :: lv) (.ref a :: st) h Q := WP_st rfl
set_option maxRecDepth 20000 in
theorem S163_159 (hs : shp a = some (0, 8)) : WP d 163 159 lv (.ref a :: st) h Q ↔ WP d 163 162 lv (.ref (RV a 13) :: st) h Q := WP_getR (r := 525) rfl hs (by decide)
set_option maxRecDepth 20000 in
theorem S163_162 : WP d 163 162 lv st h Q ↔ WP d 163 164 lv (.int 36 :: st) h Q := WP_st rfl
set_option maxRecDepth 20000 in
theorem S163_164 : WP d 163 164 (a0 :: a1 :: a2v :: a3 :: some (.int x) :: lv) st h Q ↔ WP d 163 166 (a0 :: a1 :: a2v :: a3 :: some (.int x) :: lv) (.int x :: st) h Q := WP_st rfl
set_option maxRecDepth 20000 in
theorem S163_166 : WP d 163 166 lv (.int y :: .int x :: st) h Q ↔ WP d 163 167 lv (.int (x + y) :: st) h Q := WP_st rfl
set_option maxRecDepth 20000 in
theorem S163_167 (hi : okA 1 a i) : WP d 163 167 lv (.int i :: .ref a :: st) h Q ↔ WP d 163 168 lv (.int (h.1 a i.toNatClampNeg) :: st) h Q := WP_iald rfl hi
set_option maxRecDepth 20000 in
theorem S163_168 : WP d 163 168 lv (.int y :: .int x :: st) h Q ↔ WP d 163 169 lv (.int (x + y) :: st) h Q := WP_st rfl
set_option maxRecDepth 20000 in
theorem S163_169 (hi : okA 1 a i) : WP d 163 169 lv (.int x :: .int i :: .ref a :: st) h Q ↔ WP d 163 170 lv st (setI h a i.toNatClampNeg x) Q := WP_iast rfl hi
set_option maxRecDepth 20000 in
theorem S163_170 : WP d 163 170 lv st h Q ↔ WP d 163 206 lv st h Q := WP_st rfl
set_option maxRecDepth 20000 in
theorem S163_173 : WP d 163 173 (some (.ref a) :: lv) st h Q ↔ WP d 163 174 (some (.ref a) :: lv) (.ref a :: st) h Q := WP_st rfl
set_option maxRecDepth 20000 in
theorem S163_174 (hs : shp a = some (0, 8)) : WP d 163 174 lv (.ref a :: st) h Q ↔ WP d 163 177 lv (.ref (RV a 29) :: st) h Q := WP_getR (r := 541) rfl hs (by decide)
set_option maxRecDepth 20000 in
theorem S163_177 : WP d 163 177 (some (.ref a) :: lv) st h Q ↔ WP d 163 178 (some (.ref a) :: lv) (.ref a :: st) h Q := WP_st rfl
set_option maxRecDepth 20000 in
theorem S163_178 : WP d 163 178 (a0 :: a1 :: a2v :: a3 :: some (.int x) :: lv) st h Q ↔ WP d 163 180 (a0 :: a1 :: a2v :: a3 :: some (.int x) :: lv) (.int x :: st) h Q := WP_st rfl
set_option maxRecDepth 20000 in
theorem S163_180 {pr0 : Nat} {pi0 : Int32} {qr1 : Nat} (hs : shp pr0 = some (0, 8)) : WP (d + 1) 163 180 lv [.int pi0, .ref pr0, .ref qr1] h Q ↔ WP d 134 0 [some (.ref pr0), some (.int pi0)] [] h (kR (d + 1) 163 183 lv [.ref qr1] Q) := WP_callVR rfl rfl rfl rfl rfl hs
set_option maxRecDepth 20000 in
theorem S163_183 : WP d 163 183 (some (.ref a) :: lv) st h Q ↔ WP d 163 184 (some (.ref a) :: lv) (.ref a :: st) h Q := WP_st rfl
set_option maxRecDepth 20000 in
theorem S163_184 (hs : shp a = some (0, 8)) : WP d 163 184 lv (.ref a :: st) h Q ↔ WP d 163 187 lv (.ref (RV a 29) :: st) h Q := WP_getR (r := 541) rfl hs (by decide)
set_option maxRecDepth 20000 in
theorem S163_187 : WP d 163 187 (some (.ref a) :: lv) st h Q ↔ WP d 163 188 (some (.ref a) :: lv) (.ref a :: st) h Q := WP_st rfl
set_option maxRecDepth 20000 in
theorem S163_188 : WP d 163 188 (a0 :: a1 :: a2v :: a3 :: some (.int x) :: lv) st h Q ↔ WP d 163 190 (a0 :: a1 :: a2v :: a3 :: some (.int x) :: lv) (.int x :: st) h Q := WP_st rfl
set_option maxRecDepth 20000 in
theorem S163_190 {pr0 : Nat} {pi0 : Int32} {qr1 : Nat} {qi1 : Int32} {qr2 : Nat} (hs : shp pr0 = some (0, 8)) : WP (d + 1) 163 190 lv [.int pi0, .ref pr0, .ref qr2, .int qi1, .ref qr1] h Q ↔ WP d 135 0 [some (.ref pr0), some (.int pi0)] [] h (kR (d + 1) 163 193 lv [.ref qr2, .int qi1, .ref qr1] Q) := WP_callVR rfl rfl rfl rfl rfl hs
set_option maxRecDepth 20000 in
theorem S163_193 (hi : okA 1 a i) : WP d 163 193 lv (.int i :: .ref a :: st) h Q ↔ WP d 163 194 lv (.int (h.1 a i.toNatClampNeg) :: st) h Q := WP_iald rfl hi
set_option maxRecDepth 20000 in
theorem S163_194 : WP d 163 194 (some (.ref a) :: lv) st h Q ↔ WP d 163 195 (some (.ref a) :: lv) (.ref a :: st) h Q := WP_st rfl
set_option maxRecDepth 20000 in
theorem S163_195 (hs : shp a = some (0, 8)) : WP d 163 195 lv (.ref a :: st) h Q ↔ WP d 163 198 lv (.ref (RV a 13) :: st) h Q := WP_getR (r := 525) rfl hs (by decide)
set_option maxRecDepth 20000 in
theorem S163_198 : WP d 163 198 lv st h Q ↔ WP d 163 200 lv (.int 36 :: st) h Q := WP_st rfl
set_option maxRecDepth 20000 in
theorem S163_200 : WP d 163 200 (a0 :: a1 :: a2v :: a3 :: some (.int x) :: lv) st h Q ↔ WP d 163 202 (a0 :: a1 :: a2v :: a3 :: some (.int x) :: lv) (.int x :: st) h Q := WP_st rfl
set_option maxRecDepth 20000 in
theorem S163_202 : WP d 163 202 lv (.int y :: .int x :: st) h Q ↔ WP d 163 203 lv (.int (x + y) :: st) h Q := WP_st rfl
set_option maxRecDepth 20000 in
theorem S163_203 (hi : okA 1 a i) : WP d 163 203 lv (.int i :: .ref a :: st) h Q ↔ WP d 163 204 lv (.int (h.1 a i.toNatClampNeg) :: st) h Q := WP_iald rfl hi
set_option maxRecDepth 20000 in
theorem S163_204 : WP d 163 204 lv (.int y :: .int x :: st) h Q ↔ WP d 163 205 lv (.int (x - y) :: st) h Q := WP_st rfl
set_option maxRecDepth 20000 in
theorem S163_205 (hi : okA 1 a i) : WP d 163 205 lv (.int x :: .int i :: .ref a :: st) h Q ↔ WP d 163 206 lv st (setI h a i.toNatClampNeg x) Q := WP_iast rfl hi
set_option maxRecDepth 20000 in
theorem S163_206 : WP d 163 206 (a0 :: a1 :: some (.int x) :: lv) st h Q ↔ WP d 163 207 (a0 :: a1 :: some (.int x) :: lv) (.int x :: st) h Q := WP_st rfl
set_option maxRecDepth 20000 in
theorem S163_207 : WP d 163 207 lv st h Q ↔ WP d 163 208 lv (.int 1 :: st) h Q := WP_st rfl
set_option maxRecDepth 20000 in
theorem S163_208 : WP d 163 208 (some (.ref a) :: lv) st h Q ↔ WP d 163 209 (some (.ref a) :: lv) (.ref a :: st) h Q := WP_st rfl
set_option maxRecDepth 20000 in
theorem S163_209 : WP d 163 209 (a0 :: a1 :: a2v :: a3 :: some (.int x) :: lv) st h Q ↔ WP d 163 211 (a0 :: a1 :: a2v :: a3 :: some (.int x) :: lv) (.int x :: st) h Q := WP_st rfl
set_option maxRecDepth 20000 in
theorem S163_211 {pr0 : Nat} {pi0 : Int32} {qi1 : Int32} {qi2 : Int32} (hs : shp pr0 = some (0, 8)) : WP (d + 1) 163 211 lv [.int pi0, .ref pr0, .int qi2, .int qi1] h Q ↔ WP d 134 0 [some (.ref pr0), some (.int pi0)] [] h (kR (d + 1) 163 214 lv [.int qi2, .int qi1] Q) := WP_callVR rfl rfl rfl rfl rfl hs
set_option maxRecDepth 20000 in
theorem S163_214 : WP d 163 214 lv (.int y :: .int x :: st) h Q ↔ WP d 163 215 lv (.int (x <<< (y &&& 31)) :: st) h Q := WP_st rfl
set_option maxRecDepth 20000 in
theorem S163_215 : WP d 163 215 lv st h Q ↔ WP d 163 216 lv (.int 1 :: st) h Q := WP_st rfl
set_option maxRecDepth 20000 in
theorem S163_216 : WP d 163 216 (some (.ref a) :: lv) st h Q ↔ WP d 163 217 (some (.ref a) :: lv) (.ref a :: st) h Q := WP_st rfl
set_option maxRecDepth 20000 in
theorem S163_217 : WP d 163 217 (a0 :: a1 :: a2v :: a3 :: some (.int x) :: lv) st h Q ↔ WP d 163 219 (a0 :: a1 :: a2v :: a3 :: some (.int x) :: lv) (.int x :: st) h Q := WP_st rfl
set_option maxRecDepth 20000 in
theorem S163_219 {pr0 : Nat} {pi0 : Int32} {qi1 : Int32} {qi2 : Int32} {qi3 : Int32} (hs : shp pr0 = some (0, 8)) : WP (d + 1) 163 219 lv [.int pi0, .ref pr0, .int qi3, .int qi2, .int qi1] h Q ↔ WP d 135 0 [some (.ref pr0), some (.int pi0)] [] h (kR (d + 1) 163 222 lv [.int qi3, .int qi2, .int qi1] Q) := WP_callVR rfl rfl rfl rfl rfl hs
set_option maxRecDepth 20000 in
theorem S163_222 : WP d 163 222 lv (.int y :: .int x :: st) h Q ↔ WP d 163 223 lv (.int (x <<< (y &&& 31)) :: st) h Q := WP_st rfl
set_option maxRecDepth 20000 in
theorem S163_223 : WP d 163 223 lv (.int y :: .int x :: st) h Q ↔ WP d 163 224 lv (.int (x ||| y) :: st) h Q := WP_st rfl
set_option maxRecDepth 20000 in
theorem S163_224 : WP d 163 224 lv (.int y :: .int x :: st) h Q ↔ WP d 163 225 lv (.int (x ||| y) :: st) h Q := WP_st rfl
set_option maxRecDepth 20000 in
theorem S163_225 : WP d 163 225 (a0 :: a1 :: a2v :: lv) (.int x :: st) h Q ↔ WP d 163 226 (a0 :: kl a1 :: some (.int x) :: lv) st h Q := WP_st (by rfl)
set_option maxRecDepth 20000 in
theorem S163_226 : WP d 163 226 (a0 :: a1 :: a2v :: a3 :: some (.int x) :: lv) st h Q ↔ WP d 163 229 (a0 :: a1 :: a2v :: kl a3 :: some (.int (x + 1)) :: lv) st h Q := WP_st (by rfl)
set_option maxRecDepth 20000 in
theorem S163_229 : WP d 163 229 lv st h Q ↔ WP d 163 80 lv st h Q := WP_st rfl
set_option maxRecDepth 20000 in
theorem S163_232 : WP d 163 232 (a0 :: a1 :: a2v :: some (.int x) :: lv) st h Q ↔ WP d 163 235 (a0 :: a1 :: kl a2v :: some (.int (x + 1)) :: lv) st h Q := WP_st (by rfl)
set_option maxRecDepth 20000 in
theorem S163_235 : WP d 163 235 lv st h Q ↔ WP d 163 69 lv st h Q := WP_st rfl
set_option maxRecDepth 20000 in
theorem S163_238 : WP d 163 238 lv [] h Q ↔ Q (some none) h := WP_end rfl rfl rfl
theorem S164_0 : WP d 164 0 (some (.ref a) :: lv) st h Q ↔ WP d 164 1 (some (.ref a) :: lv) (.ref a :: st) h Q := WP_st rfl
theorem S164_1 (hs : shp a = some (0, 8)) : WP d 164 1 lv (.ref a :: st) h Q ↔ WP d 164 4 lv (.ref (RV a 13) :: st) h Q := WP_getR (r := 525) rfl hs (by decide)
theorem S164_4 : WP d 164 4 lv st h Q ↔ WP d 164 6 lv (.int 36 :: st) h Q := WP_st rfl
theorem S164_6 : WP d 164 6 (a0 :: some (.int x) :: lv) st h Q ↔ WP d 164 7 (a0 :: some (.int x) :: lv) (.int x :: st) h Q := WP_st rfl
theorem S164_7 : WP d 164 7 lv (.int y :: .int x :: st) h Q ↔ WP d 164 8 lv (.int (x + y) :: st) h Q := WP_st rfl
theorem S164_8 (hi : okA 1 a i) : WP d 164 8 lv (.int i :: .ref a :: st) h Q ↔ WP d 164 9 lv (.int (h.1 a i.toNatClampNeg) :: st) h Q := WP_iald rfl hi
theorem S164_9 : WP d 164 9 (some (.ref a) :: lv) st h Q ↔ WP d 164 10 (some (.ref a) :: lv) (.ref a :: st) h Q := WP_st rfl
theorem S164_10 (hs : shp a = some (0, 8)) : WP d 164 10 lv (.ref a :: st) h Q ↔ WP d 164 13 lv (.ref (RV a 29) :: st) h Q := WP_getR (r := 541) rfl hs (by decide)
theorem S164_13 : WP d 164 13 (some (.ref a) :: lv) st h Q ↔ WP d 164 14 (some (.ref a) :: lv) (.ref a :: st) h Q := WP_st rfl
theorem S164_14 : WP d 164 14 (a0 :: some (.int x) :: lv) st h Q ↔ WP d 164 15 (a0 :: some (.int x) :: lv) (.int x :: st) h Q := WP_st rfl
theorem S164_15 {pr0 : Nat} {pi0 : Int32} {qi1 : Int32} {qr1 : Nat} (hs : shp pr0 = some (0, 8)) : WP (d + 1) 164 15 lv [.int pi0, .ref pr0, .ref qr1, .int qi1] h Q ↔ WP d 135 0 [some (.ref pr0), some (.int pi0)] [] h (kR (d + 1) 164 18 lv [.ref qr1, .int qi1] Q) := WP_callVR rfl rfl rfl rfl rfl hs
theorem S164_18 (hi : okA 1 a i) : WP d 164 18 lv (.int i :: .ref a :: st) h Q ↔ WP d 164 19 lv (.int (h.1 a i.toNatClampNeg) :: st) h Q := WP_iald rfl hi
theorem S164_19 : WP d 164 19 lv (.int y :: .int x :: st) h Q ↔ WP d 164 20 lv (.int (x - y) :: st) h Q := WP_st rfl
theorem S164_20 : WP d 164 20 (some (.ref a) :: lv) st h Q ↔ WP d 164 21 (some (.ref a) :: lv) (.ref a :: st) h Q := WP_st rfl
theorem S164_21 (hs : shp a = some (0, 8)) : WP d 164 21 lv (.ref a :: st) h Q ↔ WP d 164 24 lv (.ref (RV a 29) :: st) h Q := WP_getR (r := 541) rfl hs (by decide)
theorem S164_24 : WP d 164 24 (some (.ref a) :: lv) st h Q ↔ WP d 164 25 (some (.ref a) :: lv) (.ref a :: st) h Q := WP_st rfl
theorem S164_25 : WP d 164 25 (a0 :: some (.int x) :: lv) st h Q ↔ WP d 164 26 (a0 :: some (.int x) :: lv) (.int x :: st) h Q := WP_st rfl
theorem S164_26 {pr0 : Nat} {pi0 : Int32} {qi1 : Int32} {qr1 : Nat} (hs : shp pr0 = some (0, 8)) : WP (d + 1) 164 26 lv [.int pi0, .ref pr0, .ref qr1, .int qi1] h Q ↔ WP d 134 0 [some (.ref pr0), some (.int pi0)] [] h (kR (d + 1) 164 29 lv [.ref qr1, .int qi1] Q) := WP_callVR rfl rfl rfl rfl rfl hs
theorem S164_29 (hi : okA 1 a i) : WP d 164 29 lv (.int i :: .ref a :: st) h Q ↔ WP d 164 30 lv (.int (h.1 a i.toNatClampNeg) :: st) h Q := WP_iald rfl hi
theorem S164_30 : WP d 164 30 lv (.int y :: .int x :: st) h Q ↔ WP d 164 31 lv (.int (x + y) :: st) h Q := WP_st rfl
theorem S164_31 : WP d 164 31 lv [.int x] h Q ↔ Q (some (some (.int x))) h := WP_end rfl rfl rfl
theorem S165_0 : WP d 165 0 (some (.ref a) :: lv) st h Q ↔ WP d 165 1 (some (.ref a) :: lv) (.ref a :: st) h Q := WP_st rfl
theorem S165_1 : WP d 165 1 lv st h Q ↔ WP d 165 2 lv (.int 0 :: st) h Q := WP_st rfl
theorem S165_2 (hs : shp a = some (0, 8)) : WP d 165 2 lv (.int x :: .ref a :: st) h Q ↔ WP d 165 5 lv st (setI h a 0 x) Q := WP_putI (r := 512) rfl hs (by decide)
theorem S165_5 : WP d 165 5 (some (.ref a) :: lv) st h Q ↔ WP d 165 6 (some (.ref a) :: lv) (.ref a :: st) h Q := WP_st rfl
theorem S165_6 : WP d 165 6 (a0 :: some (.int x) :: lv) st h Q ↔ WP d 165 7 (a0 :: some (.int x) :: lv) (.int x :: st) h Q := WP_st rfl
theorem S165_7 {pr0 : Nat} {pi0 : Int32} (hs : shp pr0 = some (0, 8)) : WP (d + 1) 165 7 lv [.int pi0, .ref pr0] h Q ↔ WP d 160 0 [some (.ref pr0), some (.int pi0)] [] h (kR (d + 1) 165 10 lv [] Q) := WP_callVR rfl rfl rfl rfl rfl hs
theorem S165_10 : WP d 165 10 lv (.int x :: st) h Q ↔ if x = 0 then WP d 165 13 lv st h Q else WP d 165 17 lv st h Q := WP_br rfl
theorem S165_13 : WP d 165 13 lv st h Q ↔ WP d 165 16 lv (.int (-1000000) :: st) h Q := WP_st rfl
theorem S165_16 : WP d 165 16 lv [.int x] h Q ↔ Q (some (some (.int x))) h := WP_end rfl rfl rfl
theorem S165_17 : WP d 165 17 (some (.ref a) :: lv) st h Q ↔ WP d 165 18 (some (.ref a) :: lv) (.ref a :: st) h Q := WP_st rfl
theorem S165_18 {pr0 : Nat} (hs : shp pr0 = some (0, 8)) : WP (d + 1) 165 18 lv [.ref pr0] h Q ↔ WP d 163 0 [some (.ref pr0), none, none, none, none] [] h (kV (d + 1) 165 21 lv [] Q) := WP_callVV rfl rfl rfl rfl rfl hs
theorem S165_21 : WP d 165 21 (some (.ref a) :: lv) st h Q ↔ WP d 165 22 (some (.ref a) :: lv) (.ref a :: st) h Q := WP_st rfl
theorem S165_22 : WP d 165 22 (a0 :: some (.int x) :: lv) st h Q ↔ WP d 165 23 (a0 :: some (.int x) :: lv) (.int x :: st) h Q := WP_st rfl
theorem S165_23 {pr0 : Nat} {pi0 : Int32} (hs : shp pr0 = some (0, 8)) : WP (d + 1) 165 23 lv [.int pi0, .ref pr0] h Q ↔ WP d 164 0 [some (.ref pr0), some (.int pi0)] [] h (kR (d + 1) 165 26 lv [] Q) := WP_callVR rfl rfl rfl rfl rfl hs
theorem S165_26 : WP d 165 26 lv [.int x] h Q ↔ Q (some (some (.int x))) h := WP_end rfl rfl rfl
theorem S166_0 : WP d 166 0 (some (.int x) :: lv) st h Q ↔ WP d 166 1 (some (.int x) :: lv) (.int x :: st) h Q := WP_st rfl
theorem S166_1 : WP d 166 1 lv (.int x :: st) h Q ↔ if 0 ≤ x then WP d 166 9 lv st h Q else WP d 166 4 lv st h Q := WP_br rfl
theorem S166_4 : WP d 166 4 (some (.int x) :: lv) st h Q ↔ WP d 166 5 (some (.int x) :: lv) (.int x :: st) h Q := WP_st rfl
theorem S166_5 : WP d 166 5 lv (.int x :: st) h Q ↔ WP d 166 6 lv (.int (-x) :: st) h Q := WP_st rfl
theorem S166_6 : WP d 166 6 lv st h Q ↔ WP d 166 10 lv st h Q := WP_st rfl
theorem S166_9 : WP d 166 9 (some (.int x) :: lv) st h Q ↔ WP d 166 10 (some (.int x) :: lv) (.int x :: st) h Q := WP_st rfl
theorem S166_10 : WP d 166 10 lv [.int x] h Q ↔ Q (some (some (.int x))) h := WP_end rfl rfl rfl
theorem S167_0 : WP d 167 0 (some (.ref a) :: lv) st h Q ↔ WP d 167 1 (some (.ref a) :: lv) (.ref a :: st) h Q := WP_st rfl
theorem S167_1 : WP d 167 1 lv st h Q ↔ WP d 167 2 lv (.int 0 :: st) h Q := WP_st rfl
theorem S167_2 (hs : shp a = some (0, 8)) : WP d 167 2 lv (.int x :: .ref a :: st) h Q ↔ WP d 167 5 lv st (setI h a 0 x) Q := WP_putI (r := 512) rfl hs (by decide)
theorem S167_5 : WP d 167 5 (some (.ref a) :: lv) st h Q ↔ WP d 167 6 (some (.ref a) :: lv) (.ref a :: st) h Q := WP_st rfl
theorem S167_6 {pr0 : Nat} (hs : shp pr0 = some (0, 8)) : WP (d + 1) 167 6 lv [.ref pr0] h Q ↔ WP d 163 0 [some (.ref pr0), none, none, none, none] [] h (kV (d + 1) 167 9 lv [] Q) := WP_callVV rfl rfl rfl rfl rfl hs
theorem S167_9 : WP d 167 9 lv st h Q ↔ WP d 167 10 lv (.int (-1) :: st) h Q := WP_st rfl
theorem S167_10 : WP d 167 10 (a0 :: a1 :: lv) (.int x :: st) h Q ↔ WP d 167 11 (kl a0 :: some (.int x) :: lv) st h Q := WP_st (by rfl)
theorem S167_11 : WP d 167 11 lv st h Q ↔ WP d 167 12 lv (.int 0 :: st) h Q := WP_st rfl
theorem S167_12 : WP d 167 12 (a0 :: a1 :: a2v :: lv) (.int x :: st) h Q ↔ WP d 167 13 (a0 :: kl a1 :: some (.int x) :: lv) st h Q := WP_st (by rfl)
theorem S167_13 : WP d 167 13 (a0 :: a1 :: some (.int x) :: lv) st h Q ↔ WP d 167 14 (a0 :: a1 :: some (.int x) :: lv) (.int x :: st) h Q := WP_st rfl
theorem S167_14 : WP d 167 14 (some (.ref a) :: lv) st h Q ↔ WP d 167 15 (some (.ref a) :: lv) (.ref a :: st) h Q := WP_st rfl
theorem S167_15 {pr0 : Nat} {qi0 : Int32} (hs : shp pr0 = some (0, 8)) : WP (d + 1) 167 15 lv [.ref pr0, .int qi0] h Q ↔ WP d 129 0 [some (.ref pr0)] [] h (kR (d + 1) 167 18 lv [.int qi0] Q) := WP_callVR rfl rfl rfl rfl rfl hs
theorem S167_18 : WP d 167 18 lv (.int y :: .int x :: st) h Q ↔ if y ≤ x then WP d 167 61 lv st h Q else WP d 167 21 lv st h Q := WP_br rfl
theorem S167_21 : WP d 167 21 (some (.ref a) :: lv) st h Q ↔ WP d 167 22 (some (.ref a) :: lv) (.ref a :: st) h Q := WP_st rfl
theorem S167_22 : WP d 167 22 (a0 :: a1 :: some (.int x) :: lv) st h Q ↔ WP d 167 23 (a0 :: a1 :: some (.int x) :: lv) (.int x :: st) h Q := WP_st rfl
theorem S167_23 {pr0 : Nat} {pi0 : Int32} (hs : shp pr0 = some (0, 8)) : WP (d + 1) 167 23 lv [.int pi0, .ref pr0] h Q ↔ WP d 160 0 [some (.ref pr0), some (.int pi0)] [] h (kR (d + 1) 167 26 lv [] Q) := WP_callVR rfl rfl rfl rfl rfl hs
theorem S167_26 : WP d 167 26 lv (.int x :: st) h Q ↔ if x = 0 then WP d 167 55 lv st h Q else WP d 167 29 lv st h Q := WP_br rfl
theorem S167_29 : WP d 167 29 (a0 :: some (.int x) :: lv) st h Q ↔ WP d 167 30 (a0 :: some (.int x) :: lv) (.int x :: st) h Q := WP_st rfl
theorem S167_30 : WP d 167 30 lv st h Q ↔ WP d 167 31 lv (.int (-1) :: st) h Q := WP_st rfl
theorem S167_31 : WP d 167 31 lv (.int y :: .int x :: st) h Q ↔ if x = y then WP d 167 53 lv st h Q else WP d 167 34 lv st h Q := WP_br rfl
theorem S167_34 : WP d 167 34 (some (.ref a) :: lv) st h Q ↔ WP d 167 35 (some (.ref a) :: lv) (.ref a :: st) h Q := WP_st rfl
theorem S167_35 : WP d 167 35 (a0 :: a1 :: some (.int x) :: lv) st h Q ↔ WP d 167 36 (a0 :: a1 :: some (.int x) :: lv) (.int x :: st) h Q := WP_st rfl
theorem S167_36 {pr0 : Nat} {pi0 : Int32} (hs : shp pr0 = some (0, 8)) : WP (d + 1) 167 36 lv [.int pi0, .ref pr0] h Q ↔ WP d 164 0 [some (.ref pr0), some (.int pi0)] [] h (kR (d + 1) 167 39 lv [] Q) := WP_callVR rfl rfl rfl rfl rfl hs
theorem S167_39 {pi0 : Int32} : WP (d + 1) 167 39 lv [.int pi0] h Q ↔ WP d 166 0 [some (.int pi0)] [] h (kR (d + 1) 167 42 lv [] Q) := WP_callSR rfl rfl rfl rfl rfl
theorem S167_42 : WP d 167 42 (some (.ref a) :: lv) st h Q ↔ WP d 167 43 (some (.ref a) :: lv) (.ref a :: st) h Q := WP_st rfl
theorem S167_43 : WP d 167 43 (a0 :: some (.int x) :: lv) st h Q ↔ WP d 167 44 (a0 :: some (.int x) :: lv) (.int x :: st) h Q := WP_st rfl
theorem S167_44 {pr0 : Nat} {pi0 : Int32} {qi1 : Int32} (hs : shp pr0 = some (0, 8)) : WP (d + 1) 167 44 lv [.int pi0, .ref pr0, .int qi1] h Q ↔ WP d 164 0 [some (.ref pr0), some (.int pi0)] [] h (kR (d + 1) 167 47 lv [.int qi1] Q) := WP_callVR rfl rfl rfl rfl rfl hs
theorem S167_47 {pi0 : Int32} {qi1 : Int32} : WP (d + 1) 167 47 lv [.int pi0, .int qi1] h Q ↔ WP d 166 0 [some (.int pi0)] [] h (kR (d + 1) 167 50 lv [.int qi1] Q) := WP_callSR rfl rfl rfl rfl rfl
theorem S167_50 : WP d 167 50 lv (.int y :: .int x :: st) h Q ↔ if x ≤ y then WP d 167 55 lv st h Q else WP d 167 53 lv st h Q := WP_br rfl
theorem S167_53 : WP d 167 53 (a0 :: a1 :: some (.int x) :: lv) st h Q ↔ WP d 167 54 (a0 :: a1 :: some (.int x) :: lv) (.int x :: st) h Q := WP_st rfl
theorem S167_54 : WP d 167 54 (a0 :: a1 :: lv) (.int x :: st) h Q ↔ WP d 167 55 (kl a0 :: some (.int x) :: lv) st h Q := WP_st (by rfl)
theorem S167_55 : WP d 167 55 (a0 :: a1 :: some (.int x) :: lv) st h Q ↔ WP d 167 58 (a0 :: kl a1 :: some (.int (x + 1)) :: lv) st h Q := WP_st (by rfl)
theorem S167_58 : WP d 167 58 lv st h Q ↔ WP d 167 13 lv st h Q := WP_st rfl
theorem S167_61 : WP d 167 61 (a0 :: some (.int x) :: lv) st h Q ↔ WP d 167 62 (a0 :: some (.int x) :: lv) (.int x :: st) h Q := WP_st rfl
theorem S167_62 : WP d 167 62 lv [.int x] h Q ↔ Q (some (some (.int x))) h := WP_end rfl rfl rfl
theorem S168_0 : WP d 168 0 (some (.ref a) :: lv) st h Q ↔ WP d 168 1 (some (.ref a) :: lv) (.ref a :: st) h Q := WP_st rfl
theorem S168_1 : WP d 168 1 lv st h Q ↔ WP d 168 2 lv (.int 0 :: st) h Q := WP_st rfl
theorem S168_2 {pr0 : Nat} {pi0 : Int32} (hs : shp pr0 = some (0, 8)) : WP (d + 1) 168 2 lv [.int pi0, .ref pr0] h Q ↔ WP d 147 0 [some (.ref pr0), some (.int pi0), none, none, none] [] h (kV (d + 1) 168 5 lv [] Q) := WP_callVV rfl rfl rfl rfl rfl hs
theorem S168_5 : WP d 168 5 (some (.ref a) :: lv) st h Q ↔ WP d 168 6 (some (.ref a) :: lv) (.ref a :: st) h Q := WP_st rfl
theorem S168_6 : WP d 168 6 (a0 :: some (.int x) :: lv) st h Q ↔ WP d 168 7 (a0 :: some (.int x) :: lv) (.int x :: st) h Q := WP_st rfl
theorem S168_7 : WP d 168 7 lv st h Q ↔ WP d 168 8 lv (.int 5 :: st) h Q := WP_st rfl
theorem S168_8 : WP d 168 8 lv st h Q ↔ WP d 168 9 lv (.long 1 :: st) h Q := WP_st rfl
theorem S168_9 {pr0 : Nat} {pi0 : Int32} {pi1 : Int32} {pj0 : Int64} (hs : shp pr0 = some (0, 8)) : WP (d + 1) 168 9 lv [.long pj0, .int pi1, .int pi0, .ref pr0] h Q ↔ WP d 145 0 [some (.ref pr0), some (.int pi0), some (.int pi1), some (.long pj0), none] [] h (kV (d + 1) 168 12 lv [] Q) := WP_callVV rfl rfl rfl rfl rfl hs
theorem S168_12 : WP d 168 12 (some (.ref a) :: lv) st h Q ↔ WP d 168 13 (some (.ref a) :: lv) (.ref a :: st) h Q := WP_st rfl
theorem S168_13 : WP d 168 13 (a0 :: a1 :: some (.int x) :: lv) st h Q ↔ WP d 168 14 (a0 :: a1 :: some (.int x) :: lv) (.int x :: st) h Q := WP_st rfl
theorem S168_14 : WP d 168 14 lv st h Q ↔ WP d 168 15 lv (.int 5 :: st) h Q := WP_st rfl
theorem S168_15 : WP d 168 15 lv st h Q ↔ WP d 168 18 lv (.long (-1) :: st) h Q := WP_st rfl
theorem S168_18 {pr0 : Nat} {pi0 : Int32} {pi1 : Int32} {pj0 : Int64} (hs : shp pr0 = some (0, 8)) : WP (d + 1) 168 18 lv [.long pj0, .int pi1, .int pi0, .ref pr0] h Q ↔ WP d 145 0 [some (.ref pr0), some (.int pi0), some (.int pi1), some (.long pj0), none] [] h (kV (d + 1) 168 21 lv [] Q) := WP_callVV rfl rfl rfl rfl rfl hs
theorem S168_21 : WP d 168 21 (some (.ref a) :: lv) st h Q ↔ WP d 168 22 (some (.ref a) :: lv) (.ref a :: st) h Q := WP_st rfl
theorem S168_22 : WP d 168 22 lv st h Q ↔ WP d 168 23 lv (.int 0 :: st) h Q := WP_st rfl
theorem S168_23 {pr0 : Nat} {pi0 : Int32} (hs : shp pr0 = some (0, 8)) : WP (d + 1) 168 23 lv [.int pi0, .ref pr0] h Q ↔ WP d 149 0 [some (.ref pr0), some (.int pi0), none] [] h (kV (d + 1) 168 26 lv [] Q) := WP_callVV rfl rfl rfl rfl rfl hs
theorem S168_26 : WP d 168 26 (some (.ref a) :: lv) st h Q ↔ WP d 168 27 (some (.ref a) :: lv) (.ref a :: st) h Q := WP_st rfl
theorem S168_27 (hs : shp a = some (0, 8)) : WP d 168 27 lv (.ref a :: st) h Q ↔ WP d 168 30 lv (.ref (RV a 27) :: st) h Q := WP_getR (r := 539) rfl hs (by decide)
theorem S168_30 : WP d 168 30 (a0 :: some (.int x) :: lv) st h Q ↔ WP d 168 31 (a0 :: some (.int x) :: lv) (.int x :: st) h Q := WP_st rfl
theorem S168_31 (hi : okA 4 a i) : WP d 168 31 lv (.int i :: .ref a :: st) h Q ↔ WP d 168 32 lv (.long (h.2.1 a i.toNatClampNeg) :: st) h Q := WP_lald rfl hi
theorem S168_32 : WP d 168 32 (some (.ref a) :: lv) st h Q ↔ WP d 168 33 (some (.ref a) :: lv) (.ref a :: st) h Q := WP_st rfl
theorem S168_33 (hs : shp a = some (0, 8)) : WP d 168 33 lv (.ref a :: st) h Q ↔ WP d 168 36 lv (.ref (RV a 27) :: st) h Q := WP_getR (r := 539) rfl hs (by decide)
theorem S168_36 : WP d 168 36 (a0 :: a1 :: some (.int x) :: lv) st h Q ↔ WP d 168 37 (a0 :: a1 :: some (.int x) :: lv) (.int x :: st) h Q := WP_st rfl
theorem S168_37 (hi : okA 4 a i) : WP d 168 37 lv (.int i :: .ref a :: st) h Q ↔ WP d 168 38 lv (.long (h.2.1 a i.toNatClampNeg) :: st) h Q := WP_lald rfl hi
theorem S168_38 : WP d 168 38 lv (.long w :: .long u :: st) h Q ↔ WP d 168 39 lv (.long (u - w) :: st) h Q := WP_st rfl
theorem S168_39 : WP d 168 39 lv [.long u] h Q ↔ Q (some (some (.long u))) h := WP_end rfl rfl rfl
theorem S169_0 : WP d 169 0 (some (.ref a) :: lv) st h Q ↔ WP d 169 1 (some (.ref a) :: lv) (.ref a :: st) h Q := WP_st rfl
theorem S169_1 : WP d 169 1 lv st h Q ↔ WP d 169 2 lv (.int 0 :: st) h Q := WP_st rfl
theorem S169_2 (hs : shp a = some (0, 8)) : WP d 169 2 lv (.int x :: .ref a :: st) h Q ↔ WP d 169 5 lv st (setI h a 0 x) Q := WP_putI (r := 512) rfl hs (by decide)
theorem S169_5 : WP d 169 5 (some (.ref a) :: lv) st h Q ↔ WP d 169 6 (some (.ref a) :: lv) (.ref a :: st) h Q := WP_st rfl
theorem S169_6 : WP d 169 6 (a0 :: some (.int x) :: lv) st h Q ↔ WP d 169 7 (a0 :: some (.int x) :: lv) (.int x :: st) h Q := WP_st rfl
theorem S169_7 {pr0 : Nat} {pi0 : Int32} (hs : shp pr0 = some (0, 8)) : WP (d + 1) 169 7 lv [.int pi0, .ref pr0] h Q ↔ WP d 130 0 [some (.ref pr0), some (.int pi0)] [] h (kR (d + 1) 169 10 lv [] Q) := WP_callVR rfl rfl rfl rfl rfl hs
theorem S169_10 : WP d 169 10 lv (.int x :: st) h Q ↔ if x = 0 then WP d 169 41 lv st h Q else WP d 169 13 lv st h Q := WP_br rfl
theorem S169_13 : WP d 169 13 (some (.ref a) :: lv) st h Q ↔ WP d 169 14 (some (.ref a) :: lv) (.ref a :: st) h Q := WP_st rfl
theorem S169_14 : WP d 169 14 (a0 :: a1 :: some (.int x) :: lv) st h Q ↔ WP d 169 15 (a0 :: a1 :: some (.int x) :: lv) (.int x :: st) h Q := WP_st rfl
theorem S169_15 {pr0 : Nat} {pi0 : Int32} (hs : shp pr0 = some (0, 8)) : WP (d + 1) 169 15 lv [.int pi0, .ref pr0] h Q ↔ WP d 130 0 [some (.ref pr0), some (.int pi0)] [] h (kR (d + 1) 169 18 lv [] Q) := WP_callVR rfl rfl rfl rfl rfl hs
theorem S169_18 : WP d 169 18 lv (.int x :: st) h Q ↔ if x = 0 then WP d 169 41 lv st h Q else WP d 169 21 lv st h Q := WP_br rfl
theorem S169_21 : WP d 169 21 (a0 :: a1 :: a2v :: some (.int x) :: lv) st h Q ↔ WP d 169 22 (a0 :: a1 :: a2v :: some (.int x) :: lv) (.int x :: st) h Q := WP_st rfl
theorem S169_22 {pi0 : Int32} : WP (d + 1) 169 22 lv [.int pi0] h Q ↔ WP d 153 0 [some (.int pi0)] [] h (kR (d + 1) 169 25 lv [] Q) := WP_callSR rfl rfl rfl rfl rfl
theorem S169_25 : WP d 169 25 lv (.int x :: st) h Q ↔ if x = 0 then WP d 169 41 lv st h Q else WP d 169 28 lv st h Q := WP_br rfl
theorem S169_28 : WP d 169 28 (some (.ref a) :: lv) st h Q ↔ WP d 169 29 (some (.ref a) :: lv) (.ref a :: st) h Q := WP_st rfl
theorem S169_29 : WP d 169 29 (a0 :: some (.int x) :: lv) st h Q ↔ WP d 169 30 (a0 :: some (.int x) :: lv) (.int x :: st) h Q := WP_st rfl
theorem S169_30 : WP d 169 30 (a0 :: a1 :: some (.int x) :: lv) st h Q ↔ WP d 169 31 (a0 :: a1 :: some (.int x) :: lv) (.int x :: st) h Q := WP_st rfl
theorem S169_31 : WP d 169 31 (some (.ref a) :: lv) st h Q ↔ WP d 169 32 (some (.ref a) :: lv) (.ref a :: st) h Q := WP_st rfl
theorem S169_32 {pr0 : Nat} {qr1 : Nat} {qi0 : Int32} {qi1 : Int32} (hs : shp pr0 = some (0, 8)) : WP (d + 1) 169 32 lv [.ref pr0, .int qi1, .int qi0, .ref qr1] h Q ↔ WP d 136 0 [some (.ref pr0), none, none] [] h (kR (d + 1) 169 35 lv [.int qi1, .int qi0, .ref qr1] Q) := WP_callVR rfl rfl rfl rfl rfl hs
theorem S169_35 {pr0 : Nat} {pi0 : Int32} {pi1 : Int32} {pi2 : Int32} (hs : shp pr0 = some (0, 8)) : WP (d + 1) 169 35 lv [.int pi2, .int pi1, .int pi0, .ref pr0] h Q ↔ WP d 139 0 [some (.ref pr0), some (.int pi0), some (.int pi1), some (.int pi2)] [] h (kR (d + 1) 169 38 lv [] Q) := WP_callVR rfl rfl rfl rfl rfl hs
theorem S169_38 : WP d 169 38 lv (.int x :: st) h Q ↔ if x = 0 then WP d 169 41 lv st h Q else WP d 169 47 lv st h Q := WP_br rfl
theorem S169_41 : WP d 169 41 (some (.ref a) :: lv) st h Q ↔ WP d 169 42 (some (.ref a) :: lv) (.ref a :: st) h Q := WP_st rfl
theorem S169_42 {pr0 : Nat} (hs : shp pr0 = some (0, 8)) : WP (d + 1) 169 42 lv [.ref pr0] h Q ↔ WP d 100 0 [some (.ref pr0)] [] h (kR (d + 1) 169 45 lv [] Q) := WP_callVR rfl rfl rfl rfl rfl hs
theorem S169_45 : WP d 169 45 lv (.int x :: st) h Q ↔ WP d 169 46 lv (.long x.toInt64 :: st) h Q := WP_st rfl
theorem S169_46 : WP d 169 46 lv [.long u] h Q ↔ Q (some (some (.long u))) h := WP_end rfl rfl rfl
theorem S169_47 : WP d 169 47 (a0 :: some (.int x) :: lv) st h Q ↔ WP d 169 48 (a0 :: some (.int x) :: lv) (.int x :: st) h Q := WP_st rfl
theorem S169_48 : WP d 169 48 (a0 :: a1 :: some (.int x) :: lv) st h Q ↔ WP d 169 49 (a0 :: a1 :: some (.int x) :: lv) (.int x :: st) h Q := WP_st rfl
theorem S169_49 : WP d 169 49 lv (.int y :: .int x :: st) h Q ↔ if x = y then WP d 169 52 lv st h Q else WP d 169 56 lv st h Q := WP_br rfl
theorem S169_52 : WP d 169 52 lv st h Q ↔ WP d 169 53 lv (.long 0 :: st) h Q := WP_st rfl
theorem S169_53 : WP d 169 53 lv st h Q ↔ WP d 169 62 lv st h Q := WP_st rfl
theorem S169_56 : WP d 169 56 (some (.ref a) :: lv) st h Q ↔ WP d 169 57 (some (.ref a) :: lv) (.ref a :: st) h Q := WP_st rfl
theorem S169_57 : WP d 169 57 (a0 :: some (.int x) :: lv) st h Q ↔ WP d 169 58 (a0 :: some (.int x) :: lv) (.int x :: st) h Q := WP_st rfl
theorem S169_58 : WP d 169 58 (a0 :: a1 :: some (.int x) :: lv) st h Q ↔ WP d 169 59 (a0 :: a1 :: some (.int x) :: lv) (.int x :: st) h Q := WP_st rfl
theorem S169_59 {pr0 : Nat} {pi0 : Int32} {pi1 : Int32} (hs : shp pr0 = some (0, 8)) : WP (d + 1) 169 59 lv [.int pi1, .int pi0, .ref pr0] h Q ↔ WP d 168 0 [some (.ref pr0), some (.int pi0), some (.int pi1)] [] h (kR (d + 1) 169 62 lv [] Q) := WP_callVR rfl rfl rfl rfl rfl hs
theorem S169_62 : WP d 169 62 (a0 :: a1 :: a2v :: a3 :: a4 :: a5 :: lv) (.long u :: st) h Q ↔ WP d 169 64 (a0 :: a1 :: a2v :: kl a3 :: some (.long u) :: none :: lv) st h Q := WP_st (by rfl)
theorem S169_64 : WP d 169 64 (some (.ref a) :: lv) st h Q ↔ WP d 169 65 (some (.ref a) :: lv) (.ref a :: st) h Q := WP_st rfl
theorem S169_65 : WP d 169 65 (a0 :: a1 :: a2v :: a3 :: some (.long u) :: lv) st h Q ↔ WP d 169 67 (a0 :: a1 :: a2v :: a3 :: some (.long u) :: lv) (.long u :: st) h Q := WP_st rfl
theorem S169_67 : WP d 169 67 (a0 :: some (.int x) :: lv) st h Q ↔ WP d 169 68 (a0 :: some (.int x) :: lv) (.int x :: st) h Q := WP_st rfl
theorem S169_68 : WP d 169 68 (a0 :: a1 :: some (.int x) :: lv) st h Q ↔ WP d 169 69 (a0 :: a1 :: some (.int x) :: lv) (.int x :: st) h Q := WP_st rfl
theorem S169_69 : WP d 169 69 lv (.int y :: .int x :: st) h Q ↔ if x = y then WP d 169 72 lv st h Q else WP d 169 76 lv st h Q := WP_br rfl
theorem S169_72 : WP d 169 72 lv st h Q ↔ WP d 169 73 lv (.long 1 :: st) h Q := WP_st rfl
theorem S169_73 : WP d 169 73 lv st h Q ↔ WP d 169 80 lv st h Q := WP_st rfl
theorem S169_76 : WP d 169 76 (some (.ref a) :: lv) st h Q ↔ WP d 169 77 (some (.ref a) :: lv) (.ref a :: st) h Q := WP_st rfl
theorem S169_77 (hs : shp a = some (0, 8)) : WP d 169 77 lv (.ref a :: st) h Q ↔ WP d 169 80 lv (.long (h.2.1 a 26) :: st) h Q := WP_getL (r := 538) rfl hs (by decide)
theorem S169_80 {pr0 : Nat} {pj0 : Int64} {pj1 : Int64} (hs : shp pr0 = some (0, 8)) : WP (d + 1) 169 80 lv [.long pj1, .long pj0, .ref pr0] h Q ↔ WP d 151 0 [some (.ref pr0), some (.long pj0), none, some (.long pj1), none, none, none, none, none, none, none] [] h (kV (d + 1) 169 83 lv [] Q) := WP_callVV rfl rfl rfl rfl rfl hs
theorem S169_83 : WP d 169 83 (some (.ref a) :: lv) st h Q ↔ WP d 169 84 (some (.ref a) :: lv) (.ref a :: st) h Q := WP_st rfl
theorem S169_84 : WP d 169 84 (a0 :: a1 :: a2v :: some (.int x) :: lv) st h Q ↔ WP d 169 85 (a0 :: a1 :: a2v :: some (.int x) :: lv) (.int x :: st) h Q := WP_st rfl
theorem S169_85 {pr0 : Nat} {pi0 : Int32} (hs : shp pr0 = some (0, 8)) : WP (d + 1) 169 85 lv [.int pi0, .ref pr0] h Q ↔ WP d 152 0 [some (.ref pr0), some (.int pi0)] [] h (kR (d + 1) 169 88 lv [] Q) := WP_callVR rfl rfl rfl rfl rfl hs
theorem S169_88 : WP d 169 88 lv [.long u] h Q ↔ Q (some (some (.long u))) h := WP_end rfl rfl rfl
theorem S170_0 : WP d 170 0 (some (.ref a) :: lv) st h Q ↔ WP d 170 1 (some (.ref a) :: lv) (.ref a :: st) h Q := WP_st rfl
theorem S170_1 : WP d 170 1 lv st h Q ↔ WP d 170 2 lv (.int 0 :: st) h Q := WP_st rfl
theorem S170_2 (hs : shp a = some (0, 8)) : WP d 170 2 lv (.int x :: .ref a :: st) h Q ↔ WP d 170 5 lv st (setI h a 0 x) Q := WP_putI (r := 512) rfl hs (by decide)
theorem S170_5 : WP d 170 5 lv st h Q ↔ WP d 170 6 lv (.int (-1) :: st) h Q := WP_st rfl
theorem S170_6 : WP d 170 6 (a0 :: a1 :: a2v :: lv) (.int x :: st) h Q ↔ WP d 170 7 (a0 :: kl a1 :: some (.int x) :: lv) st h Q := WP_st (by rfl)
theorem S170_7 : WP d 170 7 lv st h Q ↔ WP d 170 8 lv (.int (-1) :: st) h Q := WP_st rfl
theorem S170_8 : WP d 170 8 (a0 :: a1 :: a2v :: a3 :: lv) (.int x :: st) h Q ↔ WP d 170 9 (a0 :: a1 :: kl a2v :: some (.int x) :: lv) st h Q := WP_st (by rfl)
theorem S170_9 : WP d 170 9 lv st h Q ↔ WP d 170 12 lv (.long (-1) :: st) h Q := WP_st rfl
theorem S170_12 : WP d 170 12 (a0 :: a1 :: a2v :: a3 :: a4 :: a5 :: lv) (.long u :: st) h Q ↔ WP d 170 14 (a0 :: a1 :: a2v :: kl a3 :: some (.long u) :: none :: lv) st h Q := WP_st (by rfl)
theorem S170_14 : WP d 170 14 lv st h Q ↔ WP d 170 15 lv (.int 0 :: st) h Q := WP_st rfl
theorem S170_15 : WP d 170 15 (a0 :: a1 :: a2v :: a3 :: a4 :: a5 :: a6 :: lv) (.int x :: st) h Q ↔ WP d 170 17 (a0 :: a1 :: a2v :: a3 :: a4 :: kl a5 :: some (.int x) :: lv) st h Q := WP_st (by rfl)
theorem S170_17 : WP d 170 17 (a0 :: a1 :: a2v :: a3 :: a4 :: a5 :: some (.int x) :: lv) st h Q ↔ WP d 170 19 (a0 :: a1 :: a2v :: a3 :: a4 :: a5 :: some (.int x) :: lv) (.int x :: st) h Q := WP_st rfl
theorem S170_19 : WP d 170 19 (some (.ref a) :: lv) st h Q ↔ WP d 170 20 (some (.ref a) :: lv) (.ref a :: st) h Q := WP_st rfl
theorem S170_20 {pr0 : Nat} {qi0 : Int32} (hs : shp pr0 = some (0, 8)) : WP (d + 1) 170 20 lv [.ref pr0, .int qi0] h Q ↔ WP d 128 0 [some (.ref pr0)] [] h (kR (d + 1) 170 23 lv [.int qi0] Q) := WP_callVR rfl rfl rfl rfl rfl hs
theorem S170_23 : WP d 170 23 lv (.int y :: .int x :: st) h Q ↔ if y ≤ x then WP d 170 102 lv st h Q else WP d 170 26 lv st h Q := WP_br rfl
theorem S170_26 : WP d 170 26 (a0 :: a1 :: a2v :: a3 :: a4 :: a5 :: some (.int x) :: lv) st h Q ↔ WP d 170 28 (a0 :: a1 :: a2v :: a3 :: a4 :: a5 :: some (.int x) :: lv) (.int x :: st) h Q := WP_st rfl
theorem S170_28 : WP d 170 28 lv st h Q ↔ WP d 170 29 lv (.int 1 :: st) h Q := WP_st rfl
theorem S170_29 : WP d 170 29 lv (.int y :: .int x :: st) h Q ↔ WP d 170 30 lv (.int (x + y) :: st) h Q := WP_st rfl
theorem S170_30 : WP d 170 30 (a0 :: a1 :: a2v :: a3 :: a4 :: a5 :: a6 :: a7 :: lv) (.int x :: st) h Q ↔ WP d 170 32 (a0 :: a1 :: a2v :: a3 :: a4 :: a5 :: kl a6 :: some (.int x) :: lv) st h Q := WP_st (by rfl)
theorem S170_32 : WP d 170 32 (a0 :: a1 :: a2v :: a3 :: a4 :: a5 :: a6 :: some (.int x) :: lv) st h Q ↔ WP d 170 34 (a0 :: a1 :: a2v :: a3 :: a4 :: a5 :: a6 :: some (.int x) :: lv) (.int x :: st) h Q := WP_st rfl
theorem S170_34 : WP d 170 34 (some (.ref a) :: lv) st h Q ↔ WP d 170 35 (some (.ref a) :: lv) (.ref a :: st) h Q := WP_st rfl
theorem S170_35 {pr0 : Nat} {qi0 : Int32} (hs : shp pr0 = some (0, 8)) : WP (d + 1) 170 35 lv [.ref pr0, .int qi0] h Q ↔ WP d 128 0 [some (.ref pr0)] [] h (kR (d + 1) 170 38 lv [.int qi0] Q) := WP_callVR rfl rfl rfl rfl rfl hs
theorem S170_38 : WP d 170 38 lv (.int y :: .int x :: st) h Q ↔ if y ≤ x then WP d 170 96 lv st h Q else WP d 170 41 lv st h Q := WP_br rfl
theorem S170_41 : WP d 170 41 (some (.ref a) :: lv) st h Q ↔ WP d 170 42 (some (.ref a) :: lv) (.ref a :: st) h Q := WP_st rfl
theorem S170_42 : WP d 170 42 (a0 :: a1 :: a2v :: a3 :: a4 :: a5 :: some (.int x) :: lv) st h Q ↔ WP d 170 44 (a0 :: a1 :: a2v :: a3 :: a4 :: a5 :: some (.int x) :: lv) (.int x :: st) h Q := WP_st rfl
theorem S170_44 : WP d 170 44 (a0 :: a1 :: a2v :: a3 :: a4 :: a5 :: a6 :: some (.int x) :: lv) st h Q ↔ WP d 170 46 (a0 :: a1 :: a2v :: a3 :: a4 :: a5 :: a6 :: some (.int x) :: lv) (.int x :: st) h Q := WP_st rfl
theorem S170_46 : WP d 170 46 (some (.ref a) :: lv) st h Q ↔ WP d 170 47 (some (.ref a) :: lv) (.ref a :: st) h Q := WP_st rfl
theorem S170_47 {pr0 : Nat} {qr1 : Nat} {qi0 : Int32} {qi1 : Int32} (hs : shp pr0 = some (0, 8)) : WP (d + 1) 170 47 lv [.ref pr0, .int qi1, .int qi0, .ref qr1] h Q ↔ WP d 136 0 [some (.ref pr0), none, none] [] h (kR (d + 1) 170 50 lv [.int qi1, .int qi0, .ref qr1] Q) := WP_callVR rfl rfl rfl rfl rfl hs
theorem S170_50 {pr0 : Nat} {pi0 : Int32} {pi1 : Int32} {pi2 : Int32} (hs : shp pr0 = some (0, 8)) : WP (d + 1) 170 50 lv [.int pi2, .int pi1, .int pi0, .ref pr0] h Q ↔ WP d 139 0 [some (.ref pr0), some (.int pi0), some (.int pi1), some (.int pi2)] [] h (kR (d + 1) 170 53 lv [] Q) := WP_callVR rfl rfl rfl rfl rfl hs
theorem S170_53 : WP d 170 53 lv (.int x :: st) h Q ↔ if x = 0 then WP d 170 56 lv st h Q else WP d 170 59 lv st h Q := WP_br rfl
theorem S170_56 : WP d 170 56 lv st h Q ↔ WP d 170 90 lv st h Q := WP_st rfl
theorem S170_59 : WP d 170 59 (some (.ref a) :: lv) st h Q ↔ WP d 170 60 (some (.ref a) :: lv) (.ref a :: st) h Q := WP_st rfl
theorem S170_60 : WP d 170 60 (a0 :: a1 :: a2v :: a3 :: a4 :: a5 :: some (.int x) :: lv) st h Q ↔ WP d 170 62 (a0 :: a1 :: a2v :: a3 :: a4 :: a5 :: some (.int x) :: lv) (.int x :: st) h Q := WP_st rfl
theorem S170_62 : WP d 170 62 (a0 :: a1 :: a2v :: a3 :: a4 :: a5 :: a6 :: some (.int x) :: lv) st h Q ↔ WP d 170 64 (a0 :: a1 :: a2v :: a3 :: a4 :: a5 :: a6 :: some (.int x) :: lv) (.int x :: st) h Q := WP_st rfl
theorem S170_64 {pr0 : Nat} {pi0 : Int32} {pi1 : Int32} (hs : shp pr0 = some (0, 8)) : WP (d + 1) 170 64 lv [.int pi1, .int pi0, .ref pr0] h Q ↔ WP d 168 0 [some (.ref pr0), some (.int pi0), some (.int pi1)] [] h (kR (d + 1) 170 67 lv [] Q) := WP_callVR rfl rfl rfl rfl rfl hs
theorem S170_67 : WP d 170 67 (a0 :: a1 :: a2v :: a3 :: a4 :: a5 :: a6 :: a7 :: a8 :: a9 :: lv) (.long u :: st) h Q ↔ WP d 170 69 (a0 :: a1 :: a2v :: a3 :: a4 :: a5 :: a6 :: kl a7 :: some (.long u) :: none :: lv) st h Q := WP_st (by rfl)
theorem S170_69 : WP d 170 69 (a0 :: a1 :: a2v :: a3 :: a4 :: a5 :: a6 :: a7 :: some (.long u) :: lv) st h Q ↔ WP d 170 71 (a0 :: a1 :: a2v :: a3 :: a4 :: a5 :: a6 :: a7 :: some (.long u) :: lv) (.long u :: st) h Q := WP_st rfl
theorem S170_71 : WP d 170 71 (a0 :: a1 :: a2v :: a3 :: some (.long u) :: lv) st h Q ↔ WP d 170 73 (a0 :: a1 :: a2v :: a3 :: some (.long u) :: lv) (.long u :: st) h Q := WP_st rfl
theorem S170_73 : WP d 170 73 lv (.long w :: .long u :: st) h Q ↔ WP d 170 74 lv (.int (lg_cmp u w) :: st) h Q := WP_st rfl
theorem S170_74 : WP d 170 74 lv (.int x :: st) h Q ↔ if 0 < x then WP d 170 80 lv st h Q else WP d 170 77 lv st h Q := WP_br rfl
theorem S170_77 : WP d 170 77 lv st h Q ↔ WP d 170 90 lv st h Q := WP_st rfl
theorem S170_80 : WP d 170 80 (a0 :: a1 :: a2v :: a3 :: a4 :: a5 :: a6 :: a7 :: some (.long u) :: lv) st h Q ↔ WP d 170 82 (a0 :: a1 :: a2v :: a3 :: a4 :: a5 :: a6 :: a7 :: some (.long u) :: lv) (.long u :: st) h Q := WP_st rfl
theorem S170_82 : WP d 170 82 (a0 :: a1 :: a2v :: a3 :: a4 :: a5 :: lv) (.long u :: st) h Q ↔ WP d 170 84 (a0 :: a1 :: a2v :: kl a3 :: some (.long u) :: none :: lv) st h Q := WP_st (by rfl)
theorem S170_84 : WP d 170 84 (a0 :: a1 :: a2v :: a3 :: a4 :: a5 :: some (.int x) :: lv) st h Q ↔ WP d 170 86 (a0 :: a1 :: a2v :: a3 :: a4 :: a5 :: some (.int x) :: lv) (.int x :: st) h Q := WP_st rfl
theorem S170_86 : WP d 170 86 (a0 :: a1 :: a2v :: lv) (.int x :: st) h Q ↔ WP d 170 87 (a0 :: kl a1 :: some (.int x) :: lv) st h Q := WP_st (by rfl)
theorem S170_87 : WP d 170 87 (a0 :: a1 :: a2v :: a3 :: a4 :: a5 :: a6 :: some (.int x) :: lv) st h Q ↔ WP d 170 89 (a0 :: a1 :: a2v :: a3 :: a4 :: a5 :: a6 :: some (.int x) :: lv) (.int x :: st) h Q := WP_st rfl
theorem S170_89 : WP d 170 89 (a0 :: a1 :: a2v :: a3 :: lv) (.int x :: st) h Q ↔ WP d 170 90 (a0 :: a1 :: kl a2v :: some (.int x) :: lv) st h Q := WP_st (by rfl)
theorem S170_90 : WP d 170 90 (a0 :: a1 :: a2v :: a3 :: a4 :: a5 :: a6 :: some (.int x) :: lv) st h Q ↔ WP d 170 93 (a0 :: a1 :: a2v :: a3 :: a4 :: a5 :: kl a6 :: some (.int (x + 1)) :: lv) st h Q := WP_st (by rfl)
theorem S170_93 : WP d 170 93 lv st h Q ↔ WP d 170 32 lv st h Q := WP_st rfl
theorem S170_96 : WP d 170 96 (a0 :: a1 :: a2v :: a3 :: a4 :: a5 :: some (.int x) :: lv) st h Q ↔ WP d 170 99 (a0 :: a1 :: a2v :: a3 :: a4 :: kl a5 :: some (.int (x + 1)) :: lv) st h Q := WP_st (by rfl)
theorem S170_99 : WP d 170 99 lv st h Q ↔ WP d 170 17 lv st h Q := WP_st rfl
theorem S170_102 : WP d 170 102 (a0 :: some (.int x) :: lv) st h Q ↔ WP d 170 103 (a0 :: some (.int x) :: lv) (.int x :: st) h Q := WP_st rfl
theorem S170_103 : WP d 170 103 lv (.int x :: st) h Q ↔ if x = 0 then WP d 170 106 lv st h Q else WP d 170 110 lv st h Q := WP_br rfl
theorem S170_106 : WP d 170 106 (a0 :: a1 :: some (.int x) :: lv) st h Q ↔ WP d 170 107 (a0 :: a1 :: some (.int x) :: lv) (.int x :: st) h Q := WP_st rfl
theorem S170_107 : WP d 170 107 lv st h Q ↔ WP d 170 120 lv st h Q := WP_st rfl
theorem S170_110 : WP d 170 110 (a0 :: some (.int x) :: lv) st h Q ↔ WP d 170 111 (a0 :: some (.int x) :: lv) (.int x :: st) h Q := WP_st rfl
theorem S170_111 : WP d 170 111 lv st h Q ↔ WP d 170 112 lv (.int 1 :: st) h Q := WP_st rfl
theorem S170_112 : WP d 170 112 lv (.int y :: .int x :: st) h Q ↔ if x = y then WP d 170 115 lv st h Q else WP d 170 119 lv st h Q := WP_br rfl
theorem S170_115 : WP d 170 115 (a0 :: a1 :: a2v :: some (.int x) :: lv) st h Q ↔ WP d 170 116 (a0 :: a1 :: a2v :: some (.int x) :: lv) (.int x :: st) h Q := WP_st rfl
theorem S170_116 : WP d 170 116 lv st h Q ↔ WP d 170 120 lv st h Q := WP_st rfl
theorem S170_119 : WP d 170 119 lv st h Q ↔ WP d 170 120 lv (.int (-1) :: st) h Q := WP_st rfl
theorem S170_120 : WP d 170 120 lv [.int x] h Q ↔ Q (some (some (.int x))) h := WP_end rfl rfl rfl
theorem S171_0 : WP d 171 0 (some (.ref a) :: lv) st h Q ↔ WP d 171 1 (some (.ref a) :: lv) (.ref a :: st) h Q := WP_st rfl
theorem S171_1 : WP d 171 1 lv st h Q ↔ WP d 171 2 lv (.int 0 :: st) h Q := WP_st rfl
theorem S171_2 (hs : shp a = some (0, 8)) : WP d 171 2 lv (.int x :: .ref a :: st) h Q ↔ WP d 171 5 lv st (setI h a 0 x) Q := WP_putI (r := 512) rfl hs (by decide)
theorem S171_5 : WP d 171 5 (some (.ref a) :: lv) st h Q ↔ WP d 171 6 (some (.ref a) :: lv) (.ref a :: st) h Q := WP_st rfl
theorem S171_6 : WP d 171 6 (a0 :: some (.int x) :: lv) st h Q ↔ WP d 171 7 (a0 :: some (.int x) :: lv) (.int x :: st) h Q := WP_st rfl
theorem S171_7 {pr0 : Nat} {pi0 : Int32} (hs : shp pr0 = some (0, 8)) : WP (d + 1) 171 7 lv [.int pi0, .ref pr0] h Q ↔ WP d 131 0 [some (.ref pr0), some (.int pi0)] [] h (kR (d + 1) 171 10 lv [] Q) := WP_callVR rfl rfl rfl rfl rfl hs
theorem S171_10 : WP d 171 10 lv (.int x :: st) h Q ↔ if x = 0 then WP d 171 28 lv st h Q else WP d 171 13 lv st h Q := WP_br rfl
theorem S171_13 : WP d 171 13 (some (.ref a) :: lv) st h Q ↔ WP d 171 14 (some (.ref a) :: lv) (.ref a :: st) h Q := WP_st rfl
theorem S171_14 : WP d 171 14 (a0 :: some (.int x) :: lv) st h Q ↔ WP d 171 15 (a0 :: some (.int x) :: lv) (.int x :: st) h Q := WP_st rfl
theorem S171_15 {pr0 : Nat} {pi0 : Int32} (hs : shp pr0 = some (0, 8)) : WP (d + 1) 171 15 lv [.int pi0, .ref pr0] h Q ↔ WP d 133 0 [some (.ref pr0), some (.int pi0)] [] h (kR (d + 1) 171 18 lv [] Q) := WP_callVR rfl rfl rfl rfl rfl hs
theorem S171_18 : WP d 171 18 lv (.int x :: st) h Q ↔ if x = 0 then WP d 171 28 lv st h Q else WP d 171 21 lv st h Q := WP_br rfl
theorem S171_21 : WP d 171 21 (a0 :: a1 :: some (.int x) :: lv) st h Q ↔ WP d 171 22 (a0 :: a1 :: some (.int x) :: lv) (.int x :: st) h Q := WP_st rfl
theorem S171_22 {pi0 : Int32} : WP (d + 1) 171 22 lv [.int pi0] h Q ↔ WP d 153 0 [some (.int pi0)] [] h (kR (d + 1) 171 25 lv [] Q) := WP_callSR rfl rfl rfl rfl rfl
theorem S171_25 : WP d 171 25 lv (.int x :: st) h Q ↔ if x = 0 then WP d 171 28 lv st h Q else WP d 171 34 lv st h Q := WP_br rfl
theorem S171_28 : WP d 171 28 (some (.ref a) :: lv) st h Q ↔ WP d 171 29 (some (.ref a) :: lv) (.ref a :: st) h Q := WP_st rfl
theorem S171_29 {pr0 : Nat} (hs : shp pr0 = some (0, 8)) : WP (d + 1) 171 29 lv [.ref pr0] h Q ↔ WP d 100 0 [some (.ref pr0)] [] h (kR (d + 1) 171 32 lv [] Q) := WP_callVR rfl rfl rfl rfl rfl hs
theorem S171_32 : WP d 171 32 lv (.int x :: st) h Q ↔ WP d 171 33 lv (.long x.toInt64 :: st) h Q := WP_st rfl
theorem S171_33 : WP d 171 33 lv [.long u] h Q ↔ Q (some (some (.long u))) h := WP_end rfl rfl rfl
theorem S171_34 : WP d 171 34 (some (.ref a) :: lv) st h Q ↔ WP d 171 35 (some (.ref a) :: lv) (.ref a :: st) h Q := WP_st rfl
theorem S171_35 : WP d 171 35 (some (.ref a) :: lv) st h Q ↔ WP d 171 36 (some (.ref a) :: lv) (.ref a :: st) h Q := WP_st rfl
theorem S171_36 : WP d 171 36 (a0 :: some (.int x) :: lv) st h Q ↔ WP d 171 37 (a0 :: some (.int x) :: lv) (.int x :: st) h Q := WP_st rfl
theorem S171_37 {pr0 : Nat} {pi0 : Int32} {qr1 : Nat} (hs : shp pr0 = some (0, 8)) : WP (d + 1) 171 37 lv [.int pi0, .ref pr0, .ref qr1] h Q ↔ WP d 134 0 [some (.ref pr0), some (.int pi0)] [] h (kR (d + 1) 171 40 lv [.ref qr1] Q) := WP_callVR rfl rfl rfl rfl rfl hs
theorem S171_40 : WP d 171 40 (some (.ref a) :: lv) st h Q ↔ WP d 171 41 (some (.ref a) :: lv) (.ref a :: st) h Q := WP_st rfl
theorem S171_41 : WP d 171 41 (a0 :: some (.int x) :: lv) st h Q ↔ WP d 171 42 (a0 :: some (.int x) :: lv) (.int x :: st) h Q := WP_st rfl
theorem S171_42 {pr0 : Nat} {pi0 : Int32} {qr1 : Nat} {qi1 : Int32} (hs : shp pr0 = some (0, 8)) : WP (d + 1) 171 42 lv [.int pi0, .ref pr0, .int qi1, .ref qr1] h Q ↔ WP d 135 0 [some (.ref pr0), some (.int pi0)] [] h (kR (d + 1) 171 45 lv [.int qi1, .ref qr1] Q) := WP_callVR rfl rfl rfl rfl rfl hs
theorem S171_45 {pr0 : Nat} {pi0 : Int32} {pi1 : Int32} (hs : shp pr0 = some (0, 8)) : WP (d + 1) 171 45 lv [.int pi1, .int pi0, .ref pr0] h Q ↔ WP d 168 0 [some (.ref pr0), some (.int pi0), some (.int pi1)] [] h (kR (d + 1) 171 48 lv [] Q) := WP_callVR rfl rfl rfl rfl rfl hs
theorem S171_48 : WP d 171 48 (a0 :: a1 :: a2v :: a3 :: a4 :: lv) (.long u :: st) h Q ↔ WP d 171 49 (a0 :: a1 :: kl a2v :: some (.long u) :: none :: lv) st h Q := WP_st (by rfl)
theorem S171_49 : WP d 171 49 (some (.ref a) :: lv) st h Q ↔ WP d 171 50 (some (.ref a) :: lv) (.ref a :: st) h Q := WP_st rfl
theorem S171_50 : WP d 171 50 (some (.ref a) :: lv) st h Q ↔ WP d 171 51 (some (.ref a) :: lv) (.ref a :: st) h Q := WP_st rfl
theorem S171_51 (hs : shp a = some (0, 8)) : WP d 171 51 lv (.ref a :: st) h Q ↔ WP d 171 54 lv (.long (h.2.1 a 26) :: st) h Q := WP_getL (r := 538) rfl hs (by decide)
theorem S171_54 : WP d 171 54 (some (.ref a) :: lv) st h Q ↔ WP d 171 55 (some (.ref a) :: lv) (.ref a :: st) h Q := WP_st rfl
theorem S171_55 (hs : shp a = some (0, 8)) : WP d 171 55 lv (.ref a :: st) h Q ↔ WP d 171 58 lv (.ref (RV a 13) :: st) h Q := WP_getR (r := 525) rfl hs (by decide)
theorem S171_58 : WP d 171 58 lv st h Q ↔ WP d 171 60 lv (.int 47 :: st) h Q := WP_st rfl
theorem S171_60 : WP d 171 60 (a0 :: some (.int x) :: lv) st h Q ↔ WP d 171 61 (a0 :: some (.int x) :: lv) (.int x :: st) h Q := WP_st rfl
theorem S171_61 : WP d 171 61 lv (.int y :: .int x :: st) h Q ↔ WP d 171 62 lv (.int (x + y) :: st) h Q := WP_st rfl
theorem S171_62 (hi : okA 1 a i) : WP d 171 62 lv (.int i :: .ref a :: st) h Q ↔ WP d 171 63 lv (.int (h.1 a i.toNatClampNeg) :: st) h Q := WP_iald rfl hi
theorem S171_63 : WP d 171 63 lv (.int x :: st) h Q ↔ WP d 171 64 lv (.long x.toInt64 :: st) h Q := WP_st rfl
theorem S171_64 : WP d 171 64 (a0 :: a1 :: a2v :: some (.long u) :: lv) st h Q ↔ WP d 171 65 (a0 :: a1 :: a2v :: some (.long u) :: lv) (.long u :: st) h Q := WP_st rfl
theorem S171_65 : WP d 171 65 lv (.long w :: .long u :: st) h Q ↔ WP d 171 66 lv (.long (u * w) :: st) h Q := WP_st rfl
theorem S171_66 : WP d 171 66 lv (.long w :: .long u :: st) h Q ↔ WP d 171 67 lv (.long (u - w) :: st) h Q := WP_st rfl
theorem S171_67 : WP d 171 67 (some (.ref a) :: lv) st h Q ↔ WP d 171 68 (some (.ref a) :: lv) (.ref a :: st) h Q := WP_st rfl
theorem S171_68 (hs : shp a = some (0, 8)) : WP d 171 68 lv (.ref a :: st) h Q ↔ WP d 171 71 lv (.long (h.2.1 a 26) :: st) h Q := WP_getL (r := 538) rfl hs (by decide)
theorem S171_71 {pr0 : Nat} {pj0 : Int64} {pj1 : Int64} (hs : shp pr0 = some (0, 8)) : WP (d + 1) 171 71 lv [.long pj1, .long pj0, .ref pr0] h Q ↔ WP d 151 0 [some (.ref pr0), some (.long pj0), none, some (.long pj1), none, none, none, none, none, none, none] [] h (kV (d + 1) 171 74 lv [] Q) := WP_callVV rfl rfl rfl rfl rfl hs
theorem S171_74 : WP d 171 74 (some (.ref a) :: lv) st h Q ↔ WP d 171 75 (some (.ref a) :: lv) (.ref a :: st) h Q := WP_st rfl
theorem S171_75 : WP d 171 75 (a0 :: a1 :: some (.int x) :: lv) st h Q ↔ WP d 171 76 (a0 :: a1 :: some (.int x) :: lv) (.int x :: st) h Q := WP_st rfl
theorem S171_76 {pr0 : Nat} {pi0 : Int32} (hs : shp pr0 = some (0, 8)) : WP (d + 1) 171 76 lv [.int pi0, .ref pr0] h Q ↔ WP d 152 0 [some (.ref pr0), some (.int pi0)] [] h (kR (d + 1) 171 79 lv [] Q) := WP_callVR rfl rfl rfl rfl rfl hs
theorem S171_79 : WP d 171 79 lv [.long u] h Q ↔ Q (some (some (.long u))) h := WP_end rfl rfl rfl
theorem S172_0 : WP d 172 0 (some (.ref a) :: lv) st h Q ↔ WP d 172 1 (some (.ref a) :: lv) (.ref a :: st) h Q := WP_st rfl
theorem S172_1 (hs : shp a = some (0, 8)) : WP d 172 1 lv (.ref a :: st) h Q ↔ WP d 172 4 lv (.ref (RV a 13) :: st) h Q := WP_getR (r := 525) rfl hs (by decide)
theorem S172_4 : WP d 172 4 lv st h Q ↔ WP d 172 6 lv (.int 58 :: st) h Q := WP_st rfl
theorem S172_6 : WP d 172 6 (a0 :: some (.int x) :: lv) st h Q ↔ WP d 172 7 (a0 :: some (.int x) :: lv) (.int x :: st) h Q := WP_st rfl
theorem S172_7 : WP d 172 7 lv (.int y :: .int x :: st) h Q ↔ WP d 172 8 lv (.int (x + y) :: st) h Q := WP_st rfl
theorem S172_8 : WP d 172 8 lv st h Q ↔ WP d 172 9 lv (.int 0 :: st) h Q := WP_st rfl
theorem S172_9 (hi : okA 1 a i) : WP d 172 9 lv (.int x :: .int i :: .ref a :: st) h Q ↔ WP d 172 10 lv st (setI h a i.toNatClampNeg x) Q := WP_iast rfl hi
theorem S172_10 : WP d 172 10 (some (.ref a) :: lv) st h Q ↔ WP d 172 11 (some (.ref a) :: lv) (.ref a :: st) h Q := WP_st rfl
theorem S172_11 {pr0 : Nat} (hs : shp pr0 = some (0, 8)) : WP (d + 1) 172 11 lv [.ref pr0] h Q ↔ WP d 150 0 [some (.ref pr0)] [] h (kV (d + 1) 172 14 lv [] Q) := WP_callVV rfl rfl rfl rfl rfl hs
theorem S172_14 : WP d 172 14 (some (.ref a) :: lv) st h Q ↔ WP d 172 15 (some (.ref a) :: lv) (.ref a :: st) h Q := WP_st rfl
theorem S172_15 : WP d 172 15 (some (.ref a) :: lv) st h Q ↔ WP d 172 16 (some (.ref a) :: lv) (.ref a :: st) h Q := WP_st rfl
theorem S172_16 (hs : shp a = some (0, 8)) : WP d 172 16 lv (.ref a :: st) h Q ↔ WP d 172 19 lv (.ref (RV a 27) :: st) h Q := WP_getR (r := 539) rfl hs (by decide)
theorem S172_19 : WP d 172 19 (some (.ref a) :: lv) st h Q ↔ WP d 172 20 (some (.ref a) :: lv) (.ref a :: st) h Q := WP_st rfl
theorem S172_20 : WP d 172 20 (a0 :: some (.int x) :: lv) st h Q ↔ WP d 172 21 (a0 :: some (.int x) :: lv) (.int x :: st) h Q := WP_st rfl
theorem S172_21 {pr0 : Nat} {pi0 : Int32} {qr1 : Nat} {qr2 : Nat} (hs : shp pr0 = some (0, 8)) : WP (d + 1) 172 21 lv [.int pi0, .ref pr0, .ref qr2, .ref qr1] h Q ↔ WP d 135 0 [some (.ref pr0), some (.int pi0)] [] h (kR (d + 1) 172 24 lv [.ref qr2, .ref qr1] Q) := WP_callVR rfl rfl rfl rfl rfl hs
theorem S172_24 (hi : okA 4 a i) : WP d 172 24 lv (.int i :: .ref a :: st) h Q ↔ WP d 172 25 lv (.long (h.2.1 a i.toNatClampNeg) :: st) h Q := WP_lald rfl hi
theorem S172_25 : WP d 172 25 (some (.ref a) :: lv) st h Q ↔ WP d 172 26 (some (.ref a) :: lv) (.ref a :: st) h Q := WP_st rfl
theorem S172_26 (hs : shp a = some (0, 8)) : WP d 172 26 lv (.ref a :: st) h Q ↔ WP d 172 29 lv (.ref (RV a 27) :: st) h Q := WP_getR (r := 539) rfl hs (by decide)
theorem S172_29 : WP d 172 29 (some (.ref a) :: lv) st h Q ↔ WP d 172 30 (some (.ref a) :: lv) (.ref a :: st) h Q := WP_st rfl
theorem S172_30 : WP d 172 30 (a0 :: some (.int x) :: lv) st h Q ↔ WP d 172 31 (a0 :: some (.int x) :: lv) (.int x :: st) h Q := WP_st rfl
theorem S172_31 {pr0 : Nat} {pi0 : Int32} {qr1 : Nat} {qj0 : Int64} {qr2 : Nat} (hs : shp pr0 = some (0, 8)) : WP (d + 1) 172 31 lv [.int pi0, .ref pr0, .ref qr2, .long qj0, .ref qr1] h Q ↔ WP d 134 0 [some (.ref pr0), some (.int pi0)] [] h (kR (d + 1) 172 34 lv [.ref qr2, .long qj0, .ref qr1] Q) := WP_callVR rfl rfl rfl rfl rfl hs
theorem S172_34 (hi : okA 4 a i) : WP d 172 34 lv (.int i :: .ref a :: st) h Q ↔ WP d 172 35 lv (.long (h.2.1 a i.toNatClampNeg) :: st) h Q := WP_lald rfl hi
theorem S172_35 : WP d 172 35 lv (.long w :: .long u :: st) h Q ↔ WP d 172 36 lv (.long (u - w) :: st) h Q := WP_st rfl
theorem S172_36 : WP d 172 36 (some (.ref a) :: lv) st h Q ↔ WP d 172 37 (some (.ref a) :: lv) (.ref a :: st) h Q := WP_st rfl
theorem S172_37 (hs : shp a = some (0, 8)) : WP d 172 37 lv (.ref a :: st) h Q ↔ WP d 172 40 lv (.long (h.2.1 a 26) :: st) h Q := WP_getL (r := 538) rfl hs (by decide)
theorem S172_40 {pr0 : Nat} {pj0 : Int64} {pj1 : Int64} (hs : shp pr0 = some (0, 8)) : WP (d + 1) 172 40 lv [.long pj1, .long pj0, .ref pr0] h Q ↔ WP d 151 0 [some (.ref pr0), some (.long pj0), none, some (.long pj1), none, none, none, none, none, none, none] [] h (kV (d + 1) 172 43 lv [] Q) := WP_callVV rfl rfl rfl rfl rfl hs
theorem S172_43 : WP d 172 43 (some (.ref a) :: lv) st h Q ↔ WP d 172 44 (some (.ref a) :: lv) (.ref a :: st) h Q := WP_st rfl
theorem S172_44 : WP d 172 44 (some (.ref a) :: lv) st h Q ↔ WP d 172 45 (some (.ref a) :: lv) (.ref a :: st) h Q := WP_st rfl
theorem S172_45 : WP d 172 45 lv st h Q ↔ WP d 172 46 lv (.int 0 :: st) h Q := WP_st rfl
theorem S172_46 {pr0 : Nat} {pi0 : Int32} {qr1 : Nat} (hs : shp pr0 = some (0, 8)) : WP (d + 1) 172 46 lv [.int pi0, .ref pr0, .ref qr1] h Q ↔ WP d 152 0 [some (.ref pr0), some (.int pi0)] [] h (kR (d + 1) 172 49 lv [.ref qr1] Q) := WP_callVR rfl rfl rfl rfl rfl hs
theorem S172_49 (hs : shp a = some (0, 8)) : WP d 172 49 lv (.long u :: .ref a :: st) h Q ↔ WP d 172 52 lv st (setL h a 30 u) Q := WP_putL (r := 542) rfl hs (by decide)
theorem S172_52 : WP d 172 52 (some (.ref a) :: lv) st h Q ↔ WP d 172 53 (some (.ref a) :: lv) (.ref a :: st) h Q := WP_st rfl
theorem S172_53 : WP d 172 53 (some (.ref a) :: lv) st h Q ↔ WP d 172 54 (some (.ref a) :: lv) (.ref a :: st) h Q := WP_st rfl
theorem S172_54 : WP d 172 54 lv st h Q ↔ WP d 172 55 lv (.int 1 :: st) h Q := WP_st rfl
theorem S172_55 {pr0 : Nat} {pi0 : Int32} {qr1 : Nat} (hs : shp pr0 = some (0, 8)) : WP (d + 1) 172 55 lv [.int pi0, .ref pr0, .ref qr1] h Q ↔ WP d 152 0 [some (.ref pr0), some (.int pi0)] [] h (kR (d + 1) 172 58 lv [.ref qr1] Q) := WP_callVR rfl rfl rfl rfl rfl hs
theorem S172_58 (hs : shp a = some (0, 8)) : WP d 172 58 lv (.long u :: .ref a :: st) h Q ↔ WP d 172 61 lv st (setL h a 31 u) Q := WP_putL (r := 543) rfl hs (by decide)
theorem S172_61 : WP d 172 61 (some (.ref a) :: lv) st h Q ↔ WP d 172 62 (some (.ref a) :: lv) (.ref a :: st) h Q := WP_st rfl
theorem S172_62 (hs : shp a = some (0, 8)) : WP d 172 62 lv (.ref a :: st) h Q ↔ WP d 172 65 lv (.ref (RV a 13) :: st) h Q := WP_getR (r := 525) rfl hs (by decide)
theorem S172_65 : WP d 172 65 lv st h Q ↔ WP d 172 67 lv (.int 58 :: st) h Q := WP_st rfl
theorem S172_67 : WP d 172 67 (a0 :: some (.int x) :: lv) st h Q ↔ WP d 172 68 (a0 :: some (.int x) :: lv) (.int x :: st) h Q := WP_st rfl
theorem S172_68 : WP d 172 68 lv (.int y :: .int x :: st) h Q ↔ WP d 172 69 lv (.int (x + y) :: st) h Q := WP_st rfl
theorem S172_69 : WP d 172 69 lv st h Q ↔ WP d 172 70 lv (.int 1 :: st) h Q := WP_st rfl
theorem S172_70 (hi : okA 1 a i) : WP d 172 70 lv (.int x :: .int i :: .ref a :: st) h Q ↔ WP d 172 71 lv st (setI h a i.toNatClampNeg x) Q := WP_iast rfl hi
theorem S172_71 : WP d 172 71 lv [] h Q ↔ Q (some none) h := WP_end rfl rfl rfl
theorem S173_0 : WP d 173 0 (some (.ref a) :: lv) st h Q ↔ WP d 173 1 (some (.ref a) :: lv) (.ref a :: st) h Q := WP_st rfl
theorem S173_1 : WP d 173 1 lv st h Q ↔ WP d 173 2 lv (.int 0 :: st) h Q := WP_st rfl
theorem S173_2 (hs : shp a = some (0, 8)) : WP d 173 2 lv (.int x :: .ref a :: st) h Q ↔ WP d 173 5 lv st (setI h a 0 x) Q := WP_putI (r := 512) rfl hs (by decide)
theorem S173_5 : WP d 173 5 (some (.ref a) :: lv) st h Q ↔ WP d 173 6 (some (.ref a) :: lv) (.ref a :: st) h Q := WP_st rfl
theorem S173_6 : WP d 173 6 (a0 :: some (.int x) :: lv) st h Q ↔ WP d 173 7 (a0 :: some (.int x) :: lv) (.int x :: st) h Q := WP_st rfl
theorem S173_7 {pr0 : Nat} {pi0 : Int32} (hs : shp pr0 = some (0, 8)) : WP (d + 1) 173 7 lv [.int pi0, .ref pr0] h Q ↔ WP d 131 0 [some (.ref pr0), some (.int pi0)] [] h (kR (d + 1) 173 10 lv [] Q) := WP_callVR rfl rfl rfl rfl rfl hs
theorem S173_10 : WP d 173 10 lv (.int x :: st) h Q ↔ if x = 0 then WP d 173 36 lv st h Q else WP d 173 13 lv st h Q := WP_br rfl
theorem S173_13 : WP d 173 13 (some (.ref a) :: lv) st h Q ↔ WP d 173 14 (some (.ref a) :: lv) (.ref a :: st) h Q := WP_st rfl
theorem S173_14 : WP d 173 14 (a0 :: some (.int x) :: lv) st h Q ↔ WP d 173 15 (a0 :: some (.int x) :: lv) (.int x :: st) h Q := WP_st rfl
theorem S173_15 {pr0 : Nat} {pi0 : Int32} (hs : shp pr0 = some (0, 8)) : WP (d + 1) 173 15 lv [.int pi0, .ref pr0] h Q ↔ WP d 133 0 [some (.ref pr0), some (.int pi0)] [] h (kR (d + 1) 173 18 lv [] Q) := WP_callVR rfl rfl rfl rfl rfl hs
theorem S173_18 : WP d 173 18 lv (.int x :: st) h Q ↔ if x = 0 then WP d 173 36 lv st h Q else WP d 173 21 lv st h Q := WP_br rfl
theorem S173_21 : WP d 173 21 (a0 :: a1 :: some (.int x) :: lv) st h Q ↔ WP d 173 22 (a0 :: a1 :: some (.int x) :: lv) (.int x :: st) h Q := WP_st rfl
theorem S173_22 {pi0 : Int32} : WP (d + 1) 173 22 lv [.int pi0] h Q ↔ WP d 153 0 [some (.int pi0)] [] h (kR (d + 1) 173 25 lv [] Q) := WP_callSR rfl rfl rfl rfl rfl
theorem S173_25 : WP d 173 25 lv (.int x :: st) h Q ↔ if x = 0 then WP d 173 36 lv st h Q else WP d 173 28 lv st h Q := WP_br rfl
theorem S173_28 : WP d 173 28 (some (.ref a) :: lv) st h Q ↔ WP d 173 29 (some (.ref a) :: lv) (.ref a :: st) h Q := WP_st rfl
theorem S173_29 : WP d 173 29 (a0 :: some (.int x) :: lv) st h Q ↔ WP d 173 30 (a0 :: some (.int x) :: lv) (.int x :: st) h Q := WP_st rfl
theorem S173_30 {pr0 : Nat} {pi0 : Int32} (hs : shp pr0 = some (0, 8)) : WP (d + 1) 173 30 lv [.int pi0, .ref pr0] h Q ↔ WP d 143 0 [some (.ref pr0), some (.int pi0)] [] h (kR (d + 1) 173 33 lv [] Q) := WP_callVR rfl rfl rfl rfl rfl hs
theorem S173_33 : WP d 173 33 lv (.int x :: st) h Q ↔ if x = 0 then WP d 173 42 lv st h Q else WP d 173 36 lv st h Q := WP_br rfl
theorem S173_36 : WP d 173 36 (some (.ref a) :: lv) st h Q ↔ WP d 173 37 (some (.ref a) :: lv) (.ref a :: st) h Q := WP_st rfl
theorem S173_37 {pr0 : Nat} (hs : shp pr0 = some (0, 8)) : WP (d + 1) 173 37 lv [.ref pr0] h Q ↔ WP d 100 0 [some (.ref pr0)] [] h (kR (d + 1) 173 40 lv [] Q) := WP_callVR rfl rfl rfl rfl rfl hs
theorem S173_40 : WP d 173 40 lv (.int x :: st) h Q ↔ WP d 173 41 lv (.long x.toInt64 :: st) h Q := WP_st rfl
theorem S173_41 : WP d 173 41 lv [.long u] h Q ↔ Q (some (some (.long u))) h := WP_end rfl rfl rfl
theorem S173_42 : WP d 173 42 (some (.ref a) :: lv) st h Q ↔ WP d 173 43 (some (.ref a) :: lv) (.ref a :: st) h Q := WP_st rfl
theorem S173_43 : WP d 173 43 (a0 :: some (.int x) :: lv) st h Q ↔ WP d 173 44 (a0 :: some (.int x) :: lv) (.int x :: st) h Q := WP_st rfl
theorem S173_44 {pr0 : Nat} {pi0 : Int32} (hs : shp pr0 = some (0, 8)) : WP (d + 1) 173 44 lv [.int pi0, .ref pr0] h Q ↔ WP d 172 0 [some (.ref pr0), some (.int pi0)] [] h (kV (d + 1) 173 47 lv [] Q) := WP_callVV rfl rfl rfl rfl rfl hs
theorem S173_47 : WP d 173 47 (a0 :: a1 :: some (.int x) :: lv) st h Q ↔ WP d 173 48 (a0 :: a1 :: some (.int x) :: lv) (.int x :: st) h Q := WP_st rfl
theorem S173_48 : WP d 173 48 lv (.int x :: st) h Q ↔ if x = 0 then WP d 173 51 lv st h Q else WP d 173 58 lv st h Q := WP_br rfl
theorem S173_51 : WP d 173 51 (some (.ref a) :: lv) st h Q ↔ WP d 173 52 (some (.ref a) :: lv) (.ref a :: st) h Q := WP_st rfl
theorem S173_52 (hs : shp a = some (0, 8)) : WP d 173 52 lv (.ref a :: st) h Q ↔ WP d 173 55 lv (.long (h.2.1 a 30) :: st) h Q := WP_getL (r := 542) rfl hs (by decide)
theorem S173_55 : WP d 173 55 lv st h Q ↔ WP d 173 62 lv st h Q := WP_st rfl
theorem S173_58 : WP d 173 58 (some (.ref a) :: lv) st h Q ↔ WP d 173 59 (some (.ref a) :: lv) (.ref a :: st) h Q := WP_st rfl
theorem S173_59 (hs : shp a = some (0, 8)) : WP d 173 59 lv (.ref a :: st) h Q ↔ WP d 173 62 lv (.long (h.2.1 a 31) :: st) h Q := WP_getL (r := 543) rfl hs (by decide)
theorem S173_62 : WP d 173 62 lv [.long u] h Q ↔ Q (some (some (.long u))) h := WP_end rfl rfl rfl
theorem S174_0 : WP d 174 0 (some (.ref a) :: lv) st h Q ↔ WP d 174 1 (some (.ref a) :: lv) (.ref a :: st) h Q := WP_st rfl
theorem S174_1 : WP d 174 1 (a0 :: some (.int x) :: lv) st h Q ↔ WP d 174 2 (a0 :: some (.int x) :: lv) (.int x :: st) h Q := WP_st rfl
theorem S174_2 {pr0 : Nat} {pi0 : Int32} (hs : shp pr0 = some (0, 8)) : WP (d + 1) 174 2 lv [.int pi0, .ref pr0] h Q ↔ WP d 143 0 [some (.ref pr0), some (.int pi0)] [] h (kR (d + 1) 174 5 lv [] Q) := WP_callVR rfl rfl rfl rfl rfl hs
theorem S174_5 : WP d 174 5 lv (.int x :: st) h Q ↔ if x = 0 then WP d 174 15 lv st h Q else WP d 174 8 lv st h Q := WP_br rfl
theorem S174_8 : WP d 174 8 (some (.ref a) :: lv) st h Q ↔ WP d 174 9 (some (.ref a) :: lv) (.ref a :: st) h Q := WP_st rfl
theorem S174_9 : WP d 174 9 lv st h Q ↔ WP d 174 10 lv (.long 0 :: st) h Q := WP_st rfl
theorem S174_10 : WP d 174 10 lv st h Q ↔ WP d 174 11 lv (.long 1 :: st) h Q := WP_st rfl
theorem S174_11 {pr0 : Nat} {pj0 : Int64} {pj1 : Int64} (hs : shp pr0 = some (0, 8)) : WP (d + 1) 174 11 lv [.long pj1, .long pj0, .ref pr0] h Q ↔ WP d 151 0 [some (.ref pr0), some (.long pj0), none, some (.long pj1), none, none, none, none, none, none, none] [] h (kV (d + 1) 174 14 lv [] Q) := WP_callVV rfl rfl rfl rfl rfl hs
theorem S174_14 : WP d 174 14 lv [] h Q ↔ Q (some none) h := WP_end rfl rfl rfl
theorem S174_15 : WP d 174 15 (some (.ref a) :: lv) st h Q ↔ WP d 174 16 (some (.ref a) :: lv) (.ref a :: st) h Q := WP_st rfl
theorem S174_16 : WP d 174 16 (a0 :: some (.int x) :: lv) st h Q ↔ WP d 174 17 (a0 :: some (.int x) :: lv) (.int x :: st) h Q := WP_st rfl
theorem S174_17 {pr0 : Nat} {pi0 : Int32} (hs : shp pr0 = some (0, 8)) : WP (d + 1) 174 17 lv [.int pi0, .ref pr0] h Q ↔ WP d 172 0 [some (.ref pr0), some (.int pi0)] [] h (kV (d + 1) 174 20 lv [] Q) := WP_callVV rfl rfl rfl rfl rfl hs
theorem S174_20 : WP d 174 20 (some (.ref a) :: lv) st h Q ↔ WP d 174 21 (some (.ref a) :: lv) (.ref a :: st) h Q := WP_st rfl
theorem S174_21 {pr0 : Nat} (hs : shp pr0 = some (0, 8)) : WP (d + 1) 174 21 lv [.ref pr0] h Q ↔ WP d 150 0 [some (.ref pr0)] [] h (kV (d + 1) 174 24 lv [] Q) := WP_callVV rfl rfl rfl rfl rfl hs
theorem S174_24 : WP d 174 24 (some (.ref a) :: lv) st h Q ↔ WP d 174 25 (some (.ref a) :: lv) (.ref a :: st) h Q := WP_st rfl
theorem S174_25 : WP d 174 25 (some (.ref a) :: lv) st h Q ↔ WP d 174 26 (some (.ref a) :: lv) (.ref a :: st) h Q := WP_st rfl
theorem S174_26 : WP d 174 26 (a0 :: some (.int x) :: lv) st h Q ↔ WP d 174 27 (a0 :: some (.int x) :: lv) (.int x :: st) h Q := WP_st rfl
theorem S174_27 {pr0 : Nat} {pi0 : Int32} {qr1 : Nat} (hs : shp pr0 = some (0, 8)) : WP (d + 1) 174 27 lv [.int pi0, .ref pr0, .ref qr1] h Q ↔ WP d 156 0 [some (.ref pr0), some (.int pi0)] [] h (kR (d + 1) 174 30 lv [.ref qr1] Q) := WP_callVR rfl rfl rfl rfl rfl hs
theorem S174_30 : WP d 174 30 (some (.ref a) :: lv) st h Q ↔ WP d 174 31 (some (.ref a) :: lv) (.ref a :: st) h Q := WP_st rfl
theorem S174_31 (hs : shp a = some (0, 8)) : WP d 174 31 lv (.ref a :: st) h Q ↔ WP d 174 34 lv (.long (h.2.1 a 26) :: st) h Q := WP_getL (r := 538) rfl hs (by decide)
theorem S174_34 {pr0 : Nat} {pj0 : Int64} {pj1 : Int64} (hs : shp pr0 = some (0, 8)) : WP (d + 1) 174 34 lv [.long pj1, .long pj0, .ref pr0] h Q ↔ WP d 151 0 [some (.ref pr0), some (.long pj0), none, some (.long pj1), none, none, none, none, none, none, none] [] h (kV (d + 1) 174 37 lv [] Q) := WP_callVV rfl rfl rfl rfl rfl hs
theorem S174_37 : WP d 174 37 (some (.ref a) :: lv) st h Q ↔ WP d 174 38 (some (.ref a) :: lv) (.ref a :: st) h Q := WP_st rfl
theorem S174_38 : WP d 174 38 lv st h Q ↔ WP d 174 39 lv (.int 0 :: st) h Q := WP_st rfl
theorem S174_39 {pr0 : Nat} {pi0 : Int32} (hs : shp pr0 = some (0, 8)) : WP (d + 1) 174 39 lv [.int pi0, .ref pr0] h Q ↔ WP d 152 0 [some (.ref pr0), some (.int pi0)] [] h (kR (d + 1) 174 42 lv [] Q) := WP_callVR rfl rfl rfl rfl rfl hs
theorem S174_42 : WP d 174 42 (a0 :: a1 :: a2v :: a3 :: lv) (.long u :: st) h Q ↔ WP d 174 43 (a0 :: kl a1 :: some (.long u) :: none :: lv) st h Q := WP_st (by rfl)
theorem S174_43 : WP d 174 43 (some (.ref a) :: lv) st h Q ↔ WP d 174 44 (some (.ref a) :: lv) (.ref a :: st) h Q := WP_st rfl
theorem S174_44 : WP d 174 44 lv st h Q ↔ WP d 174 45 lv (.int 1 :: st) h Q := WP_st rfl
theorem S174_45 {pr0 : Nat} {pi0 : Int32} (hs : shp pr0 = some (0, 8)) : WP (d + 1) 174 45 lv [.int pi0, .ref pr0] h Q ↔ WP d 152 0 [some (.ref pr0), some (.int pi0)] [] h (kR (d + 1) 174 48 lv [] Q) := WP_callVR rfl rfl rfl rfl rfl hs
theorem S174_48 : WP d 174 48 (a0 :: a1 :: a2v :: a3 :: a4 :: a5 :: lv) (.long u :: st) h Q ↔ WP d 174 50 (a0 :: a1 :: a2v :: kl a3 :: some (.long u) :: none :: lv) st h Q := WP_st (by rfl)
theorem S174_50 : WP d 174 50 (some (.ref a) :: lv) st h Q ↔ WP d 174 51 (some (.ref a) :: lv) (.ref a :: st) h Q := WP_st rfl
theorem S174_51 : WP d 174 51 (some (.ref a) :: lv) st h Q ↔ WP d 174 52 (some (.ref a) :: lv) (.ref a :: st) h Q := WP_st rfl
theorem S174_52 (hs : shp a = some (0, 8)) : WP d 174 52 lv (.ref a :: st) h Q ↔ WP d 174 55 lv (.long (h.2.1 a 30) :: st) h Q := WP_getL (r := 542) rfl hs (by decide)
theorem S174_55 : WP d 174 55 (some (.ref a) :: lv) st h Q ↔ WP d 174 56 (some (.ref a) :: lv) (.ref a :: st) h Q := WP_st rfl
theorem S174_56 (hs : shp a = some (0, 8)) : WP d 174 56 lv (.ref a :: st) h Q ↔ WP d 174 59 lv (.ref (RV a 13) :: st) h Q := WP_getR (r := 525) rfl hs (by decide)
theorem S174_59 : WP d 174 59 lv st h Q ↔ WP d 174 61 lv (.int 36 :: st) h Q := WP_st rfl
theorem S174_61 : WP d 174 61 (a0 :: some (.int x) :: lv) st h Q ↔ WP d 174 62 (a0 :: some (.int x) :: lv) (.int x :: st) h Q := WP_st rfl
theorem S174_62 : WP d 174 62 lv (.int y :: .int x :: st) h Q ↔ WP d 174 63 lv (.int (x + y) :: st) h Q := WP_st rfl
theorem S174_63 (hi : okA 1 a i) : WP d 174 63 lv (.int i :: .ref a :: st) h Q ↔ WP d 174 64 lv (.int (h.1 a i.toNatClampNeg) :: st) h Q := WP_iald rfl hi
theorem S174_64 : WP d 174 64 lv (.int x :: st) h Q ↔ WP d 174 65 lv (.long x.toInt64 :: st) h Q := WP_st rfl
theorem S174_65 : WP d 174 65 (some (.ref a) :: lv) st h Q ↔ WP d 174 66 (some (.ref a) :: lv) (.ref a :: st) h Q := WP_st rfl
theorem S174_66 (hs : shp a = some (0, 8)) : WP d 174 66 lv (.ref a :: st) h Q ↔ WP d 174 69 lv (.long (h.2.1 a 31) :: st) h Q := WP_getL (r := 543) rfl hs (by decide)
theorem S174_69 : WP d 174 69 lv (.long w :: .long u :: st) h Q ↔ WP d 174 70 lv (.long (u * w) :: st) h Q := WP_st rfl
theorem S174_70 : WP d 174 70 lv (.long w :: .long u :: st) h Q ↔ WP d 174 71 lv (.long (u - w) :: st) h Q := WP_st rfl
theorem S174_71 : WP d 174 71 (some (.ref a) :: lv) st h Q ↔ WP d 174 72 (some (.ref a) :: lv) (.ref a :: st) h Q := WP_st rfl
theorem S174_72 (hs : shp a = some (0, 8)) : WP d 174 72 lv (.ref a :: st) h Q ↔ WP d 174 75 lv (.long (h.2.1 a 31) :: st) h Q := WP_getL (r := 543) rfl hs (by decide)
theorem S174_75 {pr0 : Nat} {pj0 : Int64} {pj1 : Int64} (hs : shp pr0 = some (0, 8)) : WP (d + 1) 174 75 lv [.long pj1, .long pj0, .ref pr0] h Q ↔ WP d 151 0 [some (.ref pr0), some (.long pj0), none, some (.long pj1), none, none, none, none, none, none, none] [] h (kV (d + 1) 174 78 lv [] Q) := WP_callVV rfl rfl rfl rfl rfl hs
theorem S174_78 : WP d 174 78 (some (.ref a) :: lv) st h Q ↔ WP d 174 79 (some (.ref a) :: lv) (.ref a :: st) h Q := WP_st rfl
theorem S174_79 : WP d 174 79 lv st h Q ↔ WP d 174 80 lv (.int 0 :: st) h Q := WP_st rfl
theorem S174_80 {pr0 : Nat} {pi0 : Int32} (hs : shp pr0 = some (0, 8)) : WP (d + 1) 174 80 lv [.int pi0, .ref pr0] h Q ↔ WP d 152 0 [some (.ref pr0), some (.int pi0)] [] h (kR (d + 1) 174 83 lv [] Q) := WP_callVR rfl rfl rfl rfl rfl hs
theorem S174_83 : WP d 174 83 (a0 :: a1 :: a2v :: a3 :: a4 :: a5 :: a6 :: a7 :: lv) (.long u :: st) h Q ↔ WP d 174 85 (a0 :: a1 :: a2v :: a3 :: a4 :: kl a5 :: some (.long u) :: none :: lv) st h Q := WP_st (by rfl)
theorem S174_85 : WP d 174 85 (some (.ref a) :: lv) st h Q ↔ WP d 174 86 (some (.ref a) :: lv) (.ref a :: st) h Q := WP_st rfl
theorem S174_86 : WP d 174 86 (some (.ref a) :: lv) st h Q ↔ WP d 174 87 (some (.ref a) :: lv) (.ref a :: st) h Q := WP_st rfl
theorem S174_87 (hs : shp a = some (0, 8)) : WP d 174 87 lv (.ref a :: st) h Q ↔ WP d 174 90 lv (.ref (RV a 13) :: st) h Q := WP_getR (r := 525) rfl hs (by decide)
theorem S174_90 : WP d 174 90 lv st h Q ↔ WP d 174 92 lv (.int 47 :: st) h Q := WP_st rfl
theorem S174_92 : WP d 174 92 (a0 :: some (.int x) :: lv) st h Q ↔ WP d 174 93 (a0 :: some (.int x) :: lv) (.int x :: st) h Q := WP_st rfl
theorem S174_93 : WP d 174 93 lv (.int y :: .int x :: st) h Q ↔ WP d 174 94 lv (.int (x + y) :: st) h Q := WP_st rfl
theorem S174_94 (hi : okA 1 a i) : WP d 174 94 lv (.int i :: .ref a :: st) h Q ↔ WP d 174 95 lv (.int (h.1 a i.toNatClampNeg) :: st) h Q := WP_iald rfl hi
theorem S174_95 : WP d 174 95 lv (.int x :: st) h Q ↔ WP d 174 96 lv (.long x.toInt64 :: st) h Q := WP_st rfl
theorem S174_96 : WP d 174 96 (a0 :: a1 :: some (.long u) :: lv) st h Q ↔ WP d 174 97 (a0 :: a1 :: some (.long u) :: lv) (.long u :: st) h Q := WP_st rfl
theorem S174_97 : WP d 174 97 lv (.long w :: .long u :: st) h Q ↔ WP d 174 98 lv (.long (u * w) :: st) h Q := WP_st rfl
theorem S174_98 : WP d 174 98 (a0 :: a1 :: a2v :: a3 :: a4 :: a5 :: some (.long u) :: lv) st h Q ↔ WP d 174 100 (a0 :: a1 :: a2v :: a3 :: a4 :: a5 :: some (.long u) :: lv) (.long u :: st) h Q := WP_st rfl
theorem S174_100 : WP d 174 100 lv (.long w :: .long u :: st) h Q ↔ WP d 174 101 lv (.long (u * w) :: st) h Q := WP_st rfl
theorem S174_101 : WP d 174 101 (a0 :: a1 :: a2v :: a3 :: some (.long u) :: lv) st h Q ↔ WP d 174 103 (a0 :: a1 :: a2v :: a3 :: some (.long u) :: lv) (.long u :: st) h Q := WP_st rfl
theorem S174_103 : WP d 174 103 (some (.ref a) :: lv) st h Q ↔ WP d 174 104 (some (.ref a) :: lv) (.ref a :: st) h Q := WP_st rfl
theorem S174_104 : WP d 174 104 lv st h Q ↔ WP d 174 105 lv (.int 1 :: st) h Q := WP_st rfl
theorem S174_105 {pr0 : Nat} {pi0 : Int32} {qr1 : Nat} {qj0 : Int64} {qj1 : Int64} (hs : shp pr0 = some (0, 8)) : WP (d + 1) 174 105 lv [.int pi0, .ref pr0, .long qj1, .long qj0, .ref qr1] h Q ↔ WP d 152 0 [some (.ref pr0), some (.int pi0)] [] h (kR (d + 1) 174 108 lv [.long qj1, .long qj0, .ref qr1] Q) := WP_callVR rfl rfl rfl rfl rfl hs
theorem S174_108 : WP d 174 108 lv (.long w :: .long u :: st) h Q ↔ WP d 174 109 lv (.long (u * w) :: st) h Q := WP_st rfl
theorem S174_109 {pr0 : Nat} {pj0 : Int64} {pj1 : Int64} (hs : shp pr0 = some (0, 8)) : WP (d + 1) 174 109 lv [.long pj1, .long pj0, .ref pr0] h Q ↔ WP d 151 0 [some (.ref pr0), some (.long pj0), none, some (.long pj1), none, none, none, none, none, none, none] [] h (kV (d + 1) 174 112 lv [] Q) := WP_callVV rfl rfl rfl rfl rfl hs
theorem S174_112 : WP d 174 112 lv [] h Q ↔ Q (some none) h := WP_end rfl rfl rfl
theorem S175_0 : WP d 175 0 (some (.ref a) :: lv) st h Q ↔ WP d 175 1 (some (.ref a) :: lv) (.ref a :: st) h Q := WP_st rfl
theorem S175_1 : WP d 175 1 lv st h Q ↔ WP d 175 2 lv (.int 0 :: st) h Q := WP_st rfl
theorem S175_2 (hs : shp a = some (0, 8)) : WP d 175 2 lv (.int x :: .ref a :: st) h Q ↔ WP d 175 5 lv st (setI h a 0 x) Q := WP_putI (r := 512) rfl hs (by decide)
theorem S175_5 : WP d 175 5 (some (.ref a) :: lv) st h Q ↔ WP d 175 6 (some (.ref a) :: lv) (.ref a :: st) h Q := WP_st rfl
theorem S175_6 : WP d 175 6 (a0 :: some (.int x) :: lv) st h Q ↔ WP d 175 7 (a0 :: some (.int x) :: lv) (.int x :: st) h Q := WP_st rfl
theorem S175_7 {pr0 : Nat} {pi0 : Int32} (hs : shp pr0 = some (0, 8)) : WP (d + 1) 175 7 lv [.int pi0, .ref pr0] h Q ↔ WP d 131 0 [some (.ref pr0), some (.int pi0)] [] h (kR (d + 1) 175 10 lv [] Q) := WP_callVR rfl rfl rfl rfl rfl hs
theorem S175_10 : WP d 175 10 lv (.int x :: st) h Q ↔ if x = 0 then WP d 175 28 lv st h Q else WP d 175 13 lv st h Q := WP_br rfl
theorem S175_13 : WP d 175 13 (some (.ref a) :: lv) st h Q ↔ WP d 175 14 (some (.ref a) :: lv) (.ref a :: st) h Q := WP_st rfl
theorem S175_14 : WP d 175 14 (a0 :: some (.int x) :: lv) st h Q ↔ WP d 175 15 (a0 :: some (.int x) :: lv) (.int x :: st) h Q := WP_st rfl
theorem S175_15 {pr0 : Nat} {pi0 : Int32} (hs : shp pr0 = some (0, 8)) : WP (d + 1) 175 15 lv [.int pi0, .ref pr0] h Q ↔ WP d 133 0 [some (.ref pr0), some (.int pi0)] [] h (kR (d + 1) 175 18 lv [] Q) := WP_callVR rfl rfl rfl rfl rfl hs
theorem S175_18 : WP d 175 18 lv (.int x :: st) h Q ↔ if x = 0 then WP d 175 28 lv st h Q else WP d 175 21 lv st h Q := WP_br rfl
theorem S175_21 : WP d 175 21 (a0 :: a1 :: some (.int x) :: lv) st h Q ↔ WP d 175 22 (a0 :: a1 :: some (.int x) :: lv) (.int x :: st) h Q := WP_st rfl
theorem S175_22 {pi0 : Int32} : WP (d + 1) 175 22 lv [.int pi0] h Q ↔ WP d 153 0 [some (.int pi0)] [] h (kR (d + 1) 175 25 lv [] Q) := WP_callSR rfl rfl rfl rfl rfl
theorem S175_25 : WP d 175 25 lv (.int x :: st) h Q ↔ if x = 0 then WP d 175 28 lv st h Q else WP d 175 34 lv st h Q := WP_br rfl
theorem S175_28 : WP d 175 28 (some (.ref a) :: lv) st h Q ↔ WP d 175 29 (some (.ref a) :: lv) (.ref a :: st) h Q := WP_st rfl
theorem S175_29 {pr0 : Nat} (hs : shp pr0 = some (0, 8)) : WP (d + 1) 175 29 lv [.ref pr0] h Q ↔ WP d 100 0 [some (.ref pr0)] [] h (kR (d + 1) 175 32 lv [] Q) := WP_callVR rfl rfl rfl rfl rfl hs
theorem S175_32 : WP d 175 32 lv (.int x :: st) h Q ↔ WP d 175 33 lv (.long x.toInt64 :: st) h Q := WP_st rfl
theorem S175_33 : WP d 175 33 lv [.long u] h Q ↔ Q (some (some (.long u))) h := WP_end rfl rfl rfl
theorem S175_34 : WP d 175 34 (some (.ref a) :: lv) st h Q ↔ WP d 175 35 (some (.ref a) :: lv) (.ref a :: st) h Q := WP_st rfl
theorem S175_35 : WP d 175 35 (a0 :: some (.int x) :: lv) st h Q ↔ WP d 175 36 (a0 :: some (.int x) :: lv) (.int x :: st) h Q := WP_st rfl
theorem S175_36 {pr0 : Nat} {pi0 : Int32} (hs : shp pr0 = some (0, 8)) : WP (d + 1) 175 36 lv [.int pi0, .ref pr0] h Q ↔ WP d 174 0 [some (.ref pr0), some (.int pi0), none, none, none, none, none, none] [] h (kV (d + 1) 175 39 lv [] Q) := WP_callVV rfl rfl rfl rfl rfl hs
theorem S175_39 : WP d 175 39 (some (.ref a) :: lv) st h Q ↔ WP d 175 40 (some (.ref a) :: lv) (.ref a :: st) h Q := WP_st rfl
theorem S175_40 : WP d 175 40 (a0 :: a1 :: some (.int x) :: lv) st h Q ↔ WP d 175 41 (a0 :: a1 :: some (.int x) :: lv) (.int x :: st) h Q := WP_st rfl
theorem S175_41 {pr0 : Nat} {pi0 : Int32} (hs : shp pr0 = some (0, 8)) : WP (d + 1) 175 41 lv [.int pi0, .ref pr0] h Q ↔ WP d 152 0 [some (.ref pr0), some (.int pi0)] [] h (kR (d + 1) 175 44 lv [] Q) := WP_callVR rfl rfl rfl rfl rfl hs
theorem S175_44 : WP d 175 44 lv [.long u] h Q ↔ Q (some (some (.long u))) h := WP_end rfl rfl rfl
theorem S176_0 : WP d 176 0 (some (.long u) :: lv) st h Q ↔ WP d 176 1 (some (.long u) :: lv) (.long u :: st) h Q := WP_st rfl
theorem S176_1 : WP d 176 1 (a0 :: a1 :: some (.long u) :: lv) st h Q ↔ WP d 176 2 (a0 :: a1 :: some (.long u) :: lv) (.long u :: st) h Q := WP_st rfl
theorem S176_2 (hy : w ≠ 0) : WP d 176 2 lv (.long w :: .long u :: st) h Q ↔ WP d 176 3 lv (.long (u / w) :: st) h Q := WP_ldiv rfl hy
theorem S176_3 : WP d 176 3 (a0 :: a1 :: a2v :: a3 :: some (.long u) :: lv) st h Q ↔ WP d 176 5 (a0 :: a1 :: a2v :: a3 :: some (.long u) :: lv) (.long u :: st) h Q := WP_st rfl
theorem S176_5 : WP d 176 5 (a0 :: a1 :: a2v :: a3 :: a4 :: a5 :: some (.long u) :: lv) st h Q ↔ WP d 176 7 (a0 :: a1 :: a2v :: a3 :: a4 :: a5 :: some (.long u) :: lv) (.long u :: st) h Q := WP_st rfl
theorem S176_7 (hy : w ≠ 0) : WP d 176 7 lv (.long w :: .long u :: st) h Q ↔ WP d 176 8 lv (.long (u / w) :: st) h Q := WP_ldiv rfl hy
theorem S176_8 : WP d 176 8 lv (.long w :: .long u :: st) h Q ↔ WP d 176 9 lv (.int (lg_cmp u w) :: st) h Q := WP_st rfl
theorem S176_9 : WP d 176 9 lv (.int x :: st) h Q ↔ if x = 0 then WP d 176 30 lv st h Q else WP d 176 12 lv st h Q := WP_br rfl
theorem S176_12 : WP d 176 12 (some (.long u) :: lv) st h Q ↔ WP d 176 13 (some (.long u) :: lv) (.long u :: st) h Q := WP_st rfl
theorem S176_13 : WP d 176 13 (a0 :: a1 :: some (.long u) :: lv) st h Q ↔ WP d 176 14 (a0 :: a1 :: some (.long u) :: lv) (.long u :: st) h Q := WP_st rfl
theorem S176_14 (hy : w ≠ 0) : WP d 176 14 lv (.long w :: .long u :: st) h Q ↔ WP d 176 15 lv (.long (u / w) :: st) h Q := WP_ldiv rfl hy
theorem S176_15 : WP d 176 15 (a0 :: a1 :: a2v :: a3 :: some (.long u) :: lv) st h Q ↔ WP d 176 17 (a0 :: a1 :: a2v :: a3 :: some (.long u) :: lv) (.long u :: st) h Q := WP_st rfl
theorem S176_17 : WP d 176 17 (a0 :: a1 :: a2v :: a3 :: a4 :: a5 :: some (.long u) :: lv) st h Q ↔ WP d 176 19 (a0 :: a1 :: a2v :: a3 :: a4 :: a5 :: some (.long u) :: lv) (.long u :: st) h Q := WP_st rfl
theorem S176_19 (hy : w ≠ 0) : WP d 176 19 lv (.long w :: .long u :: st) h Q ↔ WP d 176 20 lv (.long (u / w) :: st) h Q := WP_ldiv rfl hy
theorem S176_20 : WP d 176 20 lv (.long w :: .long u :: st) h Q ↔ WP d 176 21 lv (.int (lg_cmp u w) :: st) h Q := WP_st rfl
theorem S176_21 : WP d 176 21 lv (.int x :: st) h Q ↔ if x ≤ 0 then WP d 176 28 lv st h Q else WP d 176 24 lv st h Q := WP_br rfl
theorem S176_24 : WP d 176 24 lv st h Q ↔ WP d 176 25 lv (.int 1 :: st) h Q := WP_st rfl
theorem S176_25 : WP d 176 25 lv st h Q ↔ WP d 176 29 lv st h Q := WP_st rfl
theorem S176_28 : WP d 176 28 lv st h Q ↔ WP d 176 29 lv (.int 0 :: st) h Q := WP_st rfl
theorem S176_29 (hx : isB x) : WP d 176 29 lv [.int x] h Q ↔ Q (some (some (.int x))) h := WP_endZ rfl rfl hx
theorem S176_30 : WP d 176 30 (some (.long u) :: lv) st h Q ↔ WP d 176 31 (some (.long u) :: lv) (.long u :: st) h Q := WP_st rfl
theorem S176_31 : WP d 176 31 (a0 :: a1 :: some (.long u) :: lv) st h Q ↔ WP d 176 32 (a0 :: a1 :: some (.long u) :: lv) (.long u :: st) h Q := WP_st rfl
theorem S176_32 (hy : w ≠ 0) : WP d 176 32 lv (.long w :: .long u :: st) h Q ↔ WP d 176 33 lv (.long (u - u / w * w) :: st) h Q := WP_lrem rfl hy
theorem S176_33 : WP d 176 33 lv st h Q ↔ WP d 176 34 lv (.long 0 :: st) h Q := WP_st rfl
theorem S176_34 : WP d 176 34 lv (.long w :: .long u :: st) h Q ↔ WP d 176 35 lv (.int (lg_cmp u w) :: st) h Q := WP_st rfl
theorem S176_35 : WP d 176 35 lv (.int x :: st) h Q ↔ if x = 0 then WP d 176 48 lv st h Q else WP d 176 38 lv st h Q := WP_br rfl
theorem S176_38 : WP d 176 38 (a0 :: a1 :: a2v :: a3 :: some (.long u) :: lv) st h Q ↔ WP d 176 40 (a0 :: a1 :: a2v :: a3 :: some (.long u) :: lv) (.long u :: st) h Q := WP_st rfl
theorem S176_40 : WP d 176 40 (a0 :: a1 :: a2v :: a3 :: a4 :: a5 :: some (.long u) :: lv) st h Q ↔ WP d 176 42 (a0 :: a1 :: a2v :: a3 :: a4 :: a5 :: some (.long u) :: lv) (.long u :: st) h Q := WP_st rfl
theorem S176_42 (hy : w ≠ 0) : WP d 176 42 lv (.long w :: .long u :: st) h Q ↔ WP d 176 43 lv (.long (u - u / w * w) :: st) h Q := WP_lrem rfl hy
theorem S176_43 : WP d 176 43 lv st h Q ↔ WP d 176 44 lv (.long 0 :: st) h Q := WP_st rfl
theorem S176_44 : WP d 176 44 lv (.long w :: .long u :: st) h Q ↔ WP d 176 45 lv (.int (lg_cmp u w) :: st) h Q := WP_st rfl
theorem S176_45 : WP d 176 45 lv (.int x :: st) h Q ↔ if x = 0 then WP d 176 48 lv st h Q else WP d 176 72 lv st h Q := WP_br rfl
theorem S176_48 : WP d 176 48 (some (.long u) :: lv) st h Q ↔ WP d 176 49 (some (.long u) :: lv) (.long u :: st) h Q := WP_st rfl
theorem S176_49 : WP d 176 49 (a0 :: a1 :: some (.long u) :: lv) st h Q ↔ WP d 176 50 (a0 :: a1 :: some (.long u) :: lv) (.long u :: st) h Q := WP_st rfl
theorem S176_50 (hy : w ≠ 0) : WP d 176 50 lv (.long w :: .long u :: st) h Q ↔ WP d 176 51 lv (.long (u - u / w * w) :: st) h Q := WP_lrem rfl hy
theorem S176_51 : WP d 176 51 lv st h Q ↔ WP d 176 52 lv (.long 0 :: st) h Q := WP_st rfl
theorem S176_52 : WP d 176 52 lv (.long w :: .long u :: st) h Q ↔ WP d 176 53 lv (.int (lg_cmp u w) :: st) h Q := WP_st rfl
theorem S176_53 : WP d 176 53 lv (.int x :: st) h Q ↔ if x = 0 then WP d 176 70 lv st h Q else WP d 176 56 lv st h Q := WP_br rfl
theorem S176_56 : WP d 176 56 (a0 :: a1 :: a2v :: a3 :: some (.long u) :: lv) st h Q ↔ WP d 176 58 (a0 :: a1 :: a2v :: a3 :: some (.long u) :: lv) (.long u :: st) h Q := WP_st rfl
theorem S176_58 : WP d 176 58 (a0 :: a1 :: a2v :: a3 :: a4 :: a5 :: some (.long u) :: lv) st h Q ↔ WP d 176 60 (a0 :: a1 :: a2v :: a3 :: a4 :: a5 :: some (.long u) :: lv) (.long u :: st) h Q := WP_st rfl
theorem S176_60 (hy : w ≠ 0) : WP d 176 60 lv (.long w :: .long u :: st) h Q ↔ WP d 176 61 lv (.long (u - u / w * w) :: st) h Q := WP_lrem rfl hy
theorem S176_61 : WP d 176 61 lv st h Q ↔ WP d 176 62 lv (.long 0 :: st) h Q := WP_st rfl
theorem S176_62 : WP d 176 62 lv (.long w :: .long u :: st) h Q ↔ WP d 176 63 lv (.int (lg_cmp u w) :: st) h Q := WP_st rfl
theorem S176_63 : WP d 176 63 lv (.int x :: st) h Q ↔ if x = 0 then WP d 176 66 lv st h Q else WP d 176 70 lv st h Q := WP_br rfl
theorem S176_66 : WP d 176 66 lv st h Q ↔ WP d 176 67 lv (.int 1 :: st) h Q := WP_st rfl
theorem S176_67 : WP d 176 67 lv st h Q ↔ WP d 176 71 lv st h Q := WP_st rfl
theorem S176_70 : WP d 176 70 lv st h Q ↔ WP d 176 71 lv (.int 0 :: st) h Q := WP_st rfl
theorem S176_71 (hx : isB x) : WP d 176 71 lv [.int x] h Q ↔ Q (some (some (.int x))) h := WP_endZ rfl rfl hx
theorem S176_72 : WP d 176 72 (a0 :: a1 :: a2v :: a3 :: a4 :: a5 :: some (.long u) :: lv) st h Q ↔ WP d 176 74 (a0 :: a1 :: a2v :: a3 :: a4 :: a5 :: some (.long u) :: lv) (.long u :: st) h Q := WP_st rfl
theorem S176_74 : WP d 176 74 (a0 :: a1 :: a2v :: a3 :: some (.long u) :: lv) st h Q ↔ WP d 176 76 (a0 :: a1 :: a2v :: a3 :: some (.long u) :: lv) (.long u :: st) h Q := WP_st rfl
theorem S176_76 : WP d 176 76 (a0 :: a1 :: a2v :: a3 :: a4 :: a5 :: some (.long u) :: lv) st h Q ↔ WP d 176 78 (a0 :: a1 :: a2v :: a3 :: a4 :: a5 :: some (.long u) :: lv) (.long u :: st) h Q := WP_st rfl
theorem S176_78 (hy : w ≠ 0) : WP d 176 78 lv (.long w :: .long u :: st) h Q ↔ WP d 176 79 lv (.long (u - u / w * w) :: st) h Q := WP_lrem rfl hy
theorem S176_79 : WP d 176 79 (a0 :: a1 :: some (.long u) :: lv) st h Q ↔ WP d 176 80 (a0 :: a1 :: some (.long u) :: lv) (.long u :: st) h Q := WP_st rfl
theorem S176_80 : WP d 176 80 (some (.long u) :: lv) st h Q ↔ WP d 176 81 (some (.long u) :: lv) (.long u :: st) h Q := WP_st rfl
theorem S176_81 : WP d 176 81 (a0 :: a1 :: some (.long u) :: lv) st h Q ↔ WP d 176 82 (a0 :: a1 :: some (.long u) :: lv) (.long u :: st) h Q := WP_st rfl
theorem S176_82 (hy : w ≠ 0) : WP d 176 82 lv (.long w :: .long u :: st) h Q ↔ WP d 176 83 lv (.long (u - u / w * w) :: st) h Q := WP_lrem rfl hy
theorem S176_83 {pj0 : Int64} {pj1 : Int64} {pj2 : Int64} {pj3 : Int64} : WP (d + 1) 176 83 lv [.long pj3, .long pj2, .long pj1, .long pj0] h Q ↔ WP d 176 0 [some (.long pj0), none, some (.long pj1), none, some (.long pj2), none, some (.long pj3), none] [] h (kR (d + 1) 176 86 lv [] Q) := WP_callSR rfl rfl rfl rfl rfl
theorem S176_86 (hx : isB x) : WP d 176 86 lv [.int x] h Q ↔ Q (some (some (.int x))) h := WP_endZ rfl rfl hx
theorem S177_0 : WP d 177 0 lv st h Q ↔ WP d 177 1 lv (.int (-1) :: st) h Q := WP_st rfl
theorem S177_1 : WP d 177 1 (a0 :: a1 :: lv) (.int x :: st) h Q ↔ WP d 177 2 (kl a0 :: some (.int x) :: lv) st h Q := WP_st (by rfl)
theorem S177_2 : WP d 177 2 (some (.ref a) :: lv) st h Q ↔ WP d 177 3 (some (.ref a) :: lv) (.ref a :: st) h Q := WP_st rfl
theorem S177_3 : WP d 177 3 lv st h Q ↔ WP d 177 4 lv (.long 0 :: st) h Q := WP_st rfl
theorem S177_4 (hs : shp a = some (0, 8)) : WP d 177 4 lv (.long u :: .ref a :: st) h Q ↔ WP d 177 7 lv st (setL h a 32 u) Q := WP_putL (r := 544) rfl hs (by decide)
theorem S177_7 : WP d 177 7 (some (.ref a) :: lv) st h Q ↔ WP d 177 8 (some (.ref a) :: lv) (.ref a :: st) h Q := WP_st rfl
theorem S177_8 : WP d 177 8 lv st h Q ↔ WP d 177 9 lv (.long 1 :: st) h Q := WP_st rfl
theorem S177_9 (hs : shp a = some (0, 8)) : WP d 177 9 lv (.long u :: .ref a :: st) h Q ↔ WP d 177 12 lv st (setL h a 33 u) Q := WP_putL (r := 545) rfl hs (by decide)
theorem S177_12 : WP d 177 12 lv st h Q ↔ WP d 177 13 lv (.int 0 :: st) h Q := WP_st rfl
theorem S177_13 : WP d 177 13 (a0 :: a1 :: a2v :: lv) (.int x :: st) h Q ↔ WP d 177 14 (a0 :: kl a1 :: some (.int x) :: lv) st h Q := WP_st (by rfl)
theorem S177_14 : WP d 177 14 (a0 :: a1 :: some (.int x) :: lv) st h Q ↔ WP d 177 15 (a0 :: a1 :: some (.int x) :: lv) (.int x :: st) h Q := WP_st rfl
theorem S177_15 : WP d 177 15 (some (.ref a) :: lv) st h Q ↔ WP d 177 16 (some (.ref a) :: lv) (.ref a :: st) h Q := WP_st rfl
theorem S177_16 {pr0 : Nat} {qi0 : Int32} (hs : shp pr0 = some (0, 8)) : WP (d + 1) 177 16 lv [.ref pr0, .int qi0] h Q ↔ WP d 129 0 [some (.ref pr0)] [] h (kR (d + 1) 177 19 lv [.int qi0] Q) := WP_callVR rfl rfl rfl rfl rfl hs
theorem S177_19 : WP d 177 19 lv (.int y :: .int x :: st) h Q ↔ if y ≤ x then WP d 177 91 lv st h Q else WP d 177 22 lv st h Q := WP_br rfl
theorem S177_22 : WP d 177 22 (some (.ref a) :: lv) st h Q ↔ WP d 177 23 (some (.ref a) :: lv) (.ref a :: st) h Q := WP_st rfl
theorem S177_23 : WP d 177 23 (a0 :: a1 :: some (.int x) :: lv) st h Q ↔ WP d 177 24 (a0 :: a1 :: some (.int x) :: lv) (.int x :: st) h Q := WP_st rfl
theorem S177_24 {pr0 : Nat} {pi0 : Int32} (hs : shp pr0 = some (0, 8)) : WP (d + 1) 177 24 lv [.int pi0, .ref pr0] h Q ↔ WP d 133 0 [some (.ref pr0), some (.int pi0)] [] h (kR (d + 1) 177 27 lv [] Q) := WP_callVR rfl rfl rfl rfl rfl hs
theorem S177_27 : WP d 177 27 lv (.int x :: st) h Q ↔ if x = 0 then WP d 177 30 lv st h Q else WP d 177 33 lv st h Q := WP_br rfl
theorem S177_30 : WP d 177 30 lv st h Q ↔ WP d 177 85 lv st h Q := WP_st rfl
theorem S177_33 : WP d 177 33 (some (.ref a) :: lv) st h Q ↔ WP d 177 34 (some (.ref a) :: lv) (.ref a :: st) h Q := WP_st rfl
theorem S177_34 : WP d 177 34 (a0 :: a1 :: some (.int x) :: lv) st h Q ↔ WP d 177 35 (a0 :: a1 :: some (.int x) :: lv) (.int x :: st) h Q := WP_st rfl
theorem S177_35 {pr0 : Nat} {pi0 : Int32} (hs : shp pr0 = some (0, 8)) : WP (d + 1) 177 35 lv [.int pi0, .ref pr0] h Q ↔ WP d 174 0 [some (.ref pr0), some (.int pi0), none, none, none, none, none, none] [] h (kV (d + 1) 177 38 lv [] Q) := WP_callVV rfl rfl rfl rfl rfl hs
theorem S177_38 : WP d 177 38 (some (.ref a) :: lv) st h Q ↔ WP d 177 39 (some (.ref a) :: lv) (.ref a :: st) h Q := WP_st rfl
theorem S177_39 : WP d 177 39 lv st h Q ↔ WP d 177 40 lv (.int 0 :: st) h Q := WP_st rfl
theorem S177_40 {pr0 : Nat} {pi0 : Int32} (hs : shp pr0 = some (0, 8)) : WP (d + 1) 177 40 lv [.int pi0, .ref pr0] h Q ↔ WP d 152 0 [some (.ref pr0), some (.int pi0)] [] h (kR (d + 1) 177 43 lv [] Q) := WP_callVR rfl rfl rfl rfl rfl hs
theorem S177_43 : WP d 177 43 (some (.ref a) :: lv) st h Q ↔ WP d 177 44 (some (.ref a) :: lv) (.ref a :: st) h Q := WP_st rfl
theorem S177_44 : WP d 177 44 lv st h Q ↔ WP d 177 45 lv (.int 1 :: st) h Q := WP_st rfl
theorem S177_45 {pr0 : Nat} {pi0 : Int32} {qj0 : Int64} (hs : shp pr0 = some (0, 8)) : WP (d + 1) 177 45 lv [.int pi0, .ref pr0, .long qj0] h Q ↔ WP d 152 0 [some (.ref pr0), some (.int pi0)] [] h (kR (d + 1) 177 48 lv [.long qj0] Q) := WP_callVR rfl rfl rfl rfl rfl hs
theorem S177_48 : WP d 177 48 (some (.ref a) :: lv) st h Q ↔ WP d 177 49 (some (.ref a) :: lv) (.ref a :: st) h Q := WP_st rfl
theorem S177_49 (hs : shp a = some (0, 8)) : WP d 177 49 lv (.ref a :: st) h Q ↔ WP d 177 52 lv (.long (h.2.1 a 32) :: st) h Q := WP_getL (r := 544) rfl hs (by decide)
theorem S177_52 : WP d 177 52 (some (.ref a) :: lv) st h Q ↔ WP d 177 53 (some (.ref a) :: lv) (.ref a :: st) h Q := WP_st rfl
theorem S177_53 (hs : shp a = some (0, 8)) : WP d 177 53 lv (.ref a :: st) h Q ↔ WP d 177 56 lv (.long (h.2.1 a 33) :: st) h Q := WP_getL (r := 545) rfl hs (by decide)
theorem S177_56 {pj0 : Int64} {pj1 : Int64} {pj2 : Int64} {pj3 : Int64} : WP (d + 1) 177 56 lv [.long pj3, .long pj2, .long pj1, .long pj0] h Q ↔ WP d 176 0 [some (.long pj0), none, some (.long pj1), none, some (.long pj2), none, some (.long pj3), none] [] h (kR (d + 1) 177 59 lv [] Q) := WP_callSR rfl rfl rfl rfl rfl
theorem S177_59 : WP d 177 59 lv (.int x :: st) h Q ↔ if x = 0 then WP d 177 62 lv st h Q else WP d 177 65 lv st h Q := WP_br rfl
theorem S177_62 : WP d 177 62 lv st h Q ↔ WP d 177 85 lv st h Q := WP_st rfl
theorem S177_65 : WP d 177 65 (a0 :: a1 :: some (.int x) :: lv) st h Q ↔ WP d 177 66 (a0 :: a1 :: some (.int x) :: lv) (.int x :: st) h Q := WP_st rfl
theorem S177_66 : WP d 177 66 (a0 :: a1 :: lv) (.int x :: st) h Q ↔ WP d 177 67 (kl a0 :: some (.int x) :: lv) st h Q := WP_st (by rfl)
theorem S177_67 : WP d 177 67 (some (.ref a) :: lv) st h Q ↔ WP d 177 68 (some (.ref a) :: lv) (.ref a :: st) h Q := WP_st rfl
theorem S177_68 : WP d 177 68 (some (.ref a) :: lv) st h Q ↔ WP d 177 69 (some (.ref a) :: lv) (.ref a :: st) h Q := WP_st rfl
end
