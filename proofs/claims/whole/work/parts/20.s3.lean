section
variable {d : Nat} {lv : LV} {st : List Value} {h : Hp} {Q : Option (Option Value) → Hp → Prop} {x y i : Int32} {u w : Int64} {a a2 : Nat} {a0 a1 a2v a3 a4 a5 a6 a7 a8 a9 a10 a11 a12 a13 a14 a15 a16 a17 a18 a19 a20 : Option Value}
theorem S177_69 : WP d 177 69 lv st h Q ↔ WP d 177 70 lv (.int 0 :: st) h Q := WP_st rfl
theorem S177_70 {pr0 : Nat} {pi0 : Int32} {qr1 : Nat} (hs : shp pr0 = some (0, 8)) : WP (d + 1) 177 70 lv [.int pi0, .ref pr0, .ref qr1] h Q ↔ WP d 152 0 [some (.ref pr0), some (.int pi0)] [] h (kR (d + 1) 177 73 lv [.ref qr1] Q) := WP_callVR rfl rfl rfl rfl rfl hs
theorem S177_73 (hs : shp a = some (0, 8)) : WP d 177 73 lv (.long u :: .ref a :: st) h Q ↔ WP d 177 76 lv st (setL h a 32 u) Q := WP_putL (r := 544) rfl hs (by decide)
theorem S177_76 : WP d 177 76 (some (.ref a) :: lv) st h Q ↔ WP d 177 77 (some (.ref a) :: lv) (.ref a :: st) h Q := WP_st rfl
theorem S177_77 : WP d 177 77 (some (.ref a) :: lv) st h Q ↔ WP d 177 78 (some (.ref a) :: lv) (.ref a :: st) h Q := WP_st rfl
theorem S177_78 : WP d 177 78 lv st h Q ↔ WP d 177 79 lv (.int 1 :: st) h Q := WP_st rfl
theorem S177_79 {pr0 : Nat} {pi0 : Int32} {qr1 : Nat} (hs : shp pr0 = some (0, 8)) : WP (d + 1) 177 79 lv [.int pi0, .ref pr0, .ref qr1] h Q ↔ WP d 152 0 [some (.ref pr0), some (.int pi0)] [] h (kR (d + 1) 177 82 lv [.ref qr1] Q) := WP_callVR rfl rfl rfl rfl rfl hs
theorem S177_82 (hs : shp a = some (0, 8)) : WP d 177 82 lv (.long u :: .ref a :: st) h Q ↔ WP d 177 85 lv st (setL h a 33 u) Q := WP_putL (r := 545) rfl hs (by decide)
theorem S177_85 : WP d 177 85 (a0 :: a1 :: some (.int x) :: lv) st h Q ↔ WP d 177 88 (a0 :: kl a1 :: some (.int (x + 1)) :: lv) st h Q := WP_st (by rfl)
theorem S177_88 : WP d 177 88 lv st h Q ↔ WP d 177 14 lv st h Q := WP_st rfl
theorem S177_91 : WP d 177 91 (a0 :: some (.int x) :: lv) st h Q ↔ WP d 177 92 (a0 :: some (.int x) :: lv) (.int x :: st) h Q := WP_st rfl
theorem S177_92 : WP d 177 92 lv [.int x] h Q ↔ Q (some (some (.int x))) h := WP_end rfl rfl rfl
theorem S178_0 : WP d 178 0 (some (.ref a) :: lv) st h Q ↔ WP d 178 1 (some (.ref a) :: lv) (.ref a :: st) h Q := WP_st rfl
theorem S178_1 : WP d 178 1 lv st h Q ↔ WP d 178 2 lv (.int 0 :: st) h Q := WP_st rfl
theorem S178_2 (hs : shp a = some (0, 8)) : WP d 178 2 lv (.int x :: .ref a :: st) h Q ↔ WP d 178 5 lv st (setI h a 0 x) Q := WP_putI (r := 512) rfl hs (by decide)
theorem S178_5 : WP d 178 5 (some (.ref a) :: lv) st h Q ↔ WP d 178 6 (some (.ref a) :: lv) (.ref a :: st) h Q := WP_st rfl
theorem S178_6 {pr0 : Nat} (hs : shp pr0 = some (0, 8)) : WP (d + 1) 178 6 lv [.ref pr0] h Q ↔ WP d 177 0 [some (.ref pr0), none, none] [] h (kR (d + 1) 178 9 lv [] Q) := WP_callVR rfl rfl rfl rfl rfl hs
theorem S178_9 : WP d 178 9 lv [.int x] h Q ↔ Q (some (some (.int x))) h := WP_end rfl rfl rfl
theorem S179_0 : WP d 179 0 (some (.ref a) :: lv) st h Q ↔ WP d 179 1 (some (.ref a) :: lv) (.ref a :: st) h Q := WP_st rfl
theorem S179_1 (hs : shp a = some (0, 8)) : WP d 179 1 lv (.ref a :: st) h Q ↔ WP d 179 4 lv (.int (h.1 a 21) :: st) h Q := WP_getI (r := 533) rfl hs (by decide)
theorem S179_4 : WP d 179 4 lv st h Q ↔ WP d 179 6 lv (.int 8 :: st) h Q := WP_st rfl
theorem S179_6 : WP d 179 6 lv (.int y :: .int x :: st) h Q ↔ if x = y then WP d 179 9 lv st h Q else WP d 179 49 lv st h Q := WP_br rfl
theorem S179_9 : WP d 179 9 lv st h Q ↔ WP d 179 10 lv (.int 0 :: st) h Q := WP_st rfl
theorem S179_10 : WP d 179 10 (a0 :: a1 :: lv) (.int x :: st) h Q ↔ WP d 179 11 (kl a0 :: some (.int x) :: lv) st h Q := WP_st (by rfl)
theorem S179_11 : WP d 179 11 (a0 :: some (.int x) :: lv) st h Q ↔ WP d 179 12 (a0 :: some (.int x) :: lv) (.int x :: st) h Q := WP_st rfl
theorem S179_12 : WP d 179 12 lv st h Q ↔ WP d 179 15 lv (.int 483 :: st) h Q := WP_st rfl
theorem S179_15 : WP d 179 15 lv (.int y :: .int x :: st) h Q ↔ if y ≤ x then WP d 179 39 lv st h Q else WP d 179 18 lv st h Q := WP_br rfl
theorem S179_18 : WP d 179 18 (some (.ref a) :: lv) st h Q ↔ WP d 179 19 (some (.ref a) :: lv) (.ref a :: st) h Q := WP_st rfl
theorem S179_19 (hs : shp a = some (0, 8)) : WP d 179 19 lv (.ref a :: st) h Q ↔ WP d 179 22 lv (.ref (RV a 16) :: st) h Q := WP_getR (r := 528) rfl hs (by decide)
theorem S179_22 : WP d 179 22 (a0 :: some (.int x) :: lv) st h Q ↔ WP d 179 23 (a0 :: some (.int x) :: lv) (.int x :: st) h Q := WP_st rfl
theorem S179_23 : WP d 179 23 (some (.ref a) :: lv) st h Q ↔ WP d 179 24 (some (.ref a) :: lv) (.ref a :: st) h Q := WP_st rfl
theorem S179_24 (hs : shp a = some (0, 8)) : WP d 179 24 lv (.ref a :: st) h Q ↔ WP d 179 27 lv (.ref (RV a 16) :: st) h Q := WP_getR (r := 528) rfl hs (by decide)
theorem S179_27 : WP d 179 27 (a0 :: some (.int x) :: lv) st h Q ↔ WP d 179 28 (a0 :: some (.int x) :: lv) (.int x :: st) h Q := WP_st rfl
theorem S179_28 : WP d 179 28 lv st h Q ↔ WP d 179 30 lv (.int 69 :: st) h Q := WP_st rfl
theorem S179_30 : WP d 179 30 lv (.int y :: .int x :: st) h Q ↔ WP d 179 31 lv (.int (x + y) :: st) h Q := WP_st rfl
theorem S179_31 (hi : okA 1 a i) : WP d 179 31 lv (.int i :: .ref a :: st) h Q ↔ WP d 179 32 lv (.int (h.1 a i.toNatClampNeg) :: st) h Q := WP_iald rfl hi
theorem S179_32 (hi : okA 1 a i) : WP d 179 32 lv (.int x :: .int i :: .ref a :: st) h Q ↔ WP d 179 33 lv st (setI h a i.toNatClampNeg x) Q := WP_iast rfl hi
theorem S179_33 : WP d 179 33 (a0 :: some (.int x) :: lv) st h Q ↔ WP d 179 36 (kl a0 :: some (.int (x + 1)) :: lv) st h Q := WP_st (by rfl)
theorem S179_36 : WP d 179 36 lv st h Q ↔ WP d 179 11 lv st h Q := WP_st rfl
theorem S179_39 : WP d 179 39 (some (.ref a) :: lv) st h Q ↔ WP d 179 40 (some (.ref a) :: lv) (.ref a :: st) h Q := WP_st rfl
theorem S179_40 : WP d 179 40 lv (.ref a :: st) h Q ↔ WP d 179 41 lv (.ref a :: .ref a :: st) h Q := WP_st rfl
theorem S179_41 (hs : shp a = some (0, 8)) : WP d 179 41 lv (.ref a :: st) h Q ↔ WP d 179 44 lv (.int (h.1 a 21) :: st) h Q := WP_getI (r := 533) rfl hs (by decide)
theorem S179_44 : WP d 179 44 lv st h Q ↔ WP d 179 45 lv (.int 1 :: st) h Q := WP_st rfl
theorem S179_45 : WP d 179 45 lv (.int y :: .int x :: st) h Q ↔ WP d 179 46 lv (.int (x - y) :: st) h Q := WP_st rfl
theorem S179_46 (hs : shp a = some (0, 8)) : WP d 179 46 lv (.int x :: .ref a :: st) h Q ↔ WP d 179 49 lv st (setI h a 21 x) Q := WP_putI (r := 533) rfl hs (by decide)
theorem S179_49 : WP d 179 49 (some (.ref a) :: lv) st h Q ↔ WP d 179 50 (some (.ref a) :: lv) (.ref a :: st) h Q := WP_st rfl
theorem S179_50 (hs : shp a = some (0, 8)) : WP d 179 50 lv (.ref a :: st) h Q ↔ WP d 179 53 lv (.ref (RV a 13) :: st) h Q := WP_getR (r := 525) rfl hs (by decide)
theorem S179_53 : WP d 179 53 lv st h Q ↔ WP d 179 54 lv (.int 0 :: st) h Q := WP_st rfl
theorem S179_54 : WP d 179 54 (some (.ref a) :: lv) st h Q ↔ WP d 179 55 (some (.ref a) :: lv) (.ref a :: st) h Q := WP_st rfl
theorem S179_55 (hs : shp a = some (0, 8)) : WP d 179 55 lv (.ref a :: st) h Q ↔ WP d 179 58 lv (.ref (RV a 16) :: st) h Q := WP_getR (r := 528) rfl hs (by decide)
theorem S179_58 : WP d 179 58 lv st h Q ↔ WP d 179 60 lv (.int 69 :: st) h Q := WP_st rfl
theorem S179_60 : WP d 179 60 (some (.ref a) :: lv) st h Q ↔ WP d 179 61 (some (.ref a) :: lv) (.ref a :: st) h Q := WP_st rfl
theorem S179_61 (hs : shp a = some (0, 8)) : WP d 179 61 lv (.ref a :: st) h Q ↔ WP d 179 64 lv (.int (h.1 a 21) :: st) h Q := WP_getI (r := 533) rfl hs (by decide)
theorem S179_64 : WP d 179 64 lv (.int y :: .int x :: st) h Q ↔ WP d 179 65 lv (.int (x * y) :: st) h Q := WP_st rfl
theorem S179_65 {pr0 : Nat} {pi0 : Int32} {pr1 : Nat} {pi1 : Int32} : WP (d + 1) 179 65 lv [.int pi1, .ref pr1, .int pi0, .ref pr0] h Q ↔ WP d 119 0 [some (.ref pr0), some (.int pi0), some (.ref pr1), some (.int pi1), none] [] h (kV (d + 1) 179 68 lv [] Q) := WP_callSV rfl rfl rfl rfl rfl
theorem S179_68 : WP d 179 68 (some (.ref a) :: lv) st h Q ↔ WP d 179 69 (some (.ref a) :: lv) (.ref a :: st) h Q := WP_st rfl
theorem S179_69 : WP d 179 69 lv (.ref a :: st) h Q ↔ WP d 179 70 lv (.ref a :: .ref a :: st) h Q := WP_st rfl
theorem S179_70 (hs : shp a = some (0, 8)) : WP d 179 70 lv (.ref a :: st) h Q ↔ WP d 179 73 lv (.int (h.1 a 21) :: st) h Q := WP_getI (r := 533) rfl hs (by decide)
theorem S179_73 : WP d 179 73 lv st h Q ↔ WP d 179 74 lv (.int 1 :: st) h Q := WP_st rfl
theorem S179_74 : WP d 179 74 lv (.int y :: .int x :: st) h Q ↔ WP d 179 75 lv (.int (x + y) :: st) h Q := WP_st rfl
theorem S179_75 (hs : shp a = some (0, 8)) : WP d 179 75 lv (.int x :: .ref a :: st) h Q ↔ WP d 179 78 lv st (setI h a 21 x) Q := WP_putI (r := 533) rfl hs (by decide)
theorem S179_78 : WP d 179 78 lv [] h Q ↔ Q (some none) h := WP_end rfl rfl rfl
theorem S180_0 : WP d 180 0 (some (.ref a) :: lv) st h Q ↔ WP d 180 1 (some (.ref a) :: lv) (.ref a :: st) h Q := WP_st rfl
theorem S180_1 (hs : shp a = some (0, 8)) : WP d 180 1 lv (.ref a :: st) h Q ↔ WP d 180 4 lv (.ref (RV a 13) :: st) h Q := WP_getR (r := 525) rfl hs (by decide)
theorem S180_4 : WP d 180 4 lv st h Q ↔ WP d 180 5 lv (.int 0 :: st) h Q := WP_st rfl
theorem S180_5 : WP d 180 5 (some (.ref a) :: lv) st h Q ↔ WP d 180 6 (some (.ref a) :: lv) (.ref a :: st) h Q := WP_st rfl
theorem S180_6 (hs : shp a = some (0, 8)) : WP d 180 6 lv (.ref a :: st) h Q ↔ WP d 180 9 lv (.ref (RV a 18) :: st) h Q := WP_getR (r := 530) rfl hs (by decide)
theorem S180_9 : WP d 180 9 lv st h Q ↔ WP d 180 10 lv (.int 0 :: st) h Q := WP_st rfl
theorem S180_10 {pr0 : Nat} {pi0 : Int32} {pr1 : Nat} {pi1 : Int32} : WP (d + 1) 180 10 lv [.int pi1, .ref pr1, .int pi0, .ref pr0] h Q ↔ WP d 119 0 [some (.ref pr0), some (.int pi0), some (.ref pr1), some (.int pi1), none] [] h (kV (d + 1) 180 13 lv [] Q) := WP_callSV rfl rfl rfl rfl rfl
theorem S180_13 : WP d 180 13 (some (.ref a) :: lv) st h Q ↔ WP d 180 14 (some (.ref a) :: lv) (.ref a :: st) h Q := WP_st rfl
theorem S180_14 (hs : shp a = some (0, 8)) : WP d 180 14 lv (.ref a :: st) h Q ↔ WP d 180 17 lv (.ref (RV a 17) :: st) h Q := WP_getR (r := 529) rfl hs (by decide)
theorem S180_17 : WP d 180 17 lv st h Q ↔ WP d 180 18 lv (.int 0 :: st) h Q := WP_st rfl
theorem S180_18 : WP d 180 18 (some (.ref a) :: lv) st h Q ↔ WP d 180 19 (some (.ref a) :: lv) (.ref a :: st) h Q := WP_st rfl
theorem S180_19 (hs : shp a = some (0, 8)) : WP d 180 19 lv (.ref a :: st) h Q ↔ WP d 180 22 lv (.ref (RV a 13) :: st) h Q := WP_getR (r := 525) rfl hs (by decide)
theorem S180_22 : WP d 180 22 lv st h Q ↔ WP d 180 23 lv (.int 0 :: st) h Q := WP_st rfl
theorem S180_23 {pr0 : Nat} {pi0 : Int32} {pr1 : Nat} {pi1 : Int32} : WP (d + 1) 180 23 lv [.int pi1, .ref pr1, .int pi0, .ref pr0] h Q ↔ WP d 119 0 [some (.ref pr0), some (.int pi0), some (.ref pr1), some (.int pi1), none] [] h (kV (d + 1) 180 26 lv [] Q) := WP_callSV rfl rfl rfl rfl rfl
theorem S180_26 : WP d 180 26 (some (.ref a) :: lv) st h Q ↔ WP d 180 27 (some (.ref a) :: lv) (.ref a :: st) h Q := WP_st rfl
theorem S180_27 {pr0 : Nat} (hs : shp pr0 = some (0, 8)) : WP (d + 1) 180 27 lv [.ref pr0] h Q ↔ WP d 179 0 [some (.ref pr0), none] [] h (kV (d + 1) 180 30 lv [] Q) := WP_callVV rfl rfl rfl rfl rfl hs
theorem S180_30 : WP d 180 30 (some (.ref a) :: lv) st h Q ↔ WP d 180 31 (some (.ref a) :: lv) (.ref a :: st) h Q := WP_st rfl
theorem S180_31 (hs : shp a = some (0, 8)) : WP d 180 31 lv (.ref a :: st) h Q ↔ WP d 180 34 lv (.ref (RV a 18) :: st) h Q := WP_getR (r := 530) rfl hs (by decide)
theorem S180_34 : WP d 180 34 lv st h Q ↔ WP d 180 35 lv (.int 0 :: st) h Q := WP_st rfl
theorem S180_35 : WP d 180 35 (some (.ref a) :: lv) st h Q ↔ WP d 180 36 (some (.ref a) :: lv) (.ref a :: st) h Q := WP_st rfl
theorem S180_36 (hs : shp a = some (0, 8)) : WP d 180 36 lv (.ref a :: st) h Q ↔ WP d 180 39 lv (.ref (RV a 13) :: st) h Q := WP_getR (r := 525) rfl hs (by decide)
theorem S180_39 : WP d 180 39 lv st h Q ↔ WP d 180 40 lv (.int 0 :: st) h Q := WP_st rfl
theorem S180_40 {pr0 : Nat} {pi0 : Int32} {pr1 : Nat} {pi1 : Int32} : WP (d + 1) 180 40 lv [.int pi1, .ref pr1, .int pi0, .ref pr0] h Q ↔ WP d 119 0 [some (.ref pr0), some (.int pi0), some (.ref pr1), some (.int pi1), none] [] h (kV (d + 1) 180 43 lv [] Q) := WP_callSV rfl rfl rfl rfl rfl
theorem S180_43 : WP d 180 43 lv [] h Q ↔ Q (some none) h := WP_end rfl rfl rfl
theorem S181_0 : WP d 181 0 (some (.ref a) :: lv) st h Q ↔ WP d 181 1 (some (.ref a) :: lv) (.ref a :: st) h Q := WP_st rfl
theorem S181_1 : WP d 181 1 lv st h Q ↔ WP d 181 2 lv (.int 0 :: st) h Q := WP_st rfl
theorem S181_2 (hs : shp a = some (0, 8)) : WP d 181 2 lv (.int x :: .ref a :: st) h Q ↔ WP d 181 5 lv st (setI h a 0 x) Q := WP_putI (r := 512) rfl hs (by decide)
theorem S181_5 : WP d 181 5 (a0 :: a1 :: a2v :: some (.int x) :: lv) st h Q ↔ WP d 181 6 (a0 :: a1 :: a2v :: some (.int x) :: lv) (.int x :: st) h Q := WP_st rfl
theorem S181_6 : WP d 181 6 lv (.int x :: st) h Q ↔ if x = 0 then WP d 181 9 lv st h Q else WP d 181 11 lv st h Q := WP_br rfl
theorem S181_9 : WP d 181 9 lv st h Q ↔ WP d 181 10 lv (.int (-1) :: st) h Q := WP_st rfl
theorem S181_10 : WP d 181 10 lv [.int x] h Q ↔ Q (some (some (.int x))) h := WP_end rfl rfl rfl
theorem S181_11 : WP d 181 11 (some (.ref a) :: lv) st h Q ↔ WP d 181 12 (some (.ref a) :: lv) (.ref a :: st) h Q := WP_st rfl
theorem S181_12 (hs : shp a = some (0, 8)) : WP d 181 12 lv (.ref a :: st) h Q ↔ WP d 181 15 lv (.ref (RV a 13) :: st) h Q := WP_getR (r := 525) rfl hs (by decide)
theorem S181_15 : WP d 181 15 (a0 :: some (.int x) :: lv) st h Q ↔ WP d 181 16 (a0 :: some (.int x) :: lv) (.int x :: st) h Q := WP_st rfl
theorem S181_16 (hi : okA 1 a i) : WP d 181 16 lv (.int i :: .ref a :: st) h Q ↔ WP d 181 17 lv (.int (h.1 a i.toNatClampNeg) :: st) h Q := WP_iald rfl hi
theorem S181_17 : WP d 181 17 (a0 :: a1 :: some (.int x) :: lv) st h Q ↔ WP d 181 18 (a0 :: a1 :: some (.int x) :: lv) (.int x :: st) h Q := WP_st rfl
theorem S181_18 : WP d 181 18 lv (.int y :: .int x :: st) h Q ↔ if x = y then WP d 181 21 lv st h Q else WP d 181 23 lv st h Q := WP_br rfl
theorem S181_21 : WP d 181 21 lv st h Q ↔ WP d 181 22 lv (.int 1 :: st) h Q := WP_st rfl
theorem S181_22 : WP d 181 22 lv [.int x] h Q ↔ Q (some (some (.int x))) h := WP_end rfl rfl rfl
theorem S181_23 : WP d 181 23 (some (.ref a) :: lv) st h Q ↔ WP d 181 24 (some (.ref a) :: lv) (.ref a :: st) h Q := WP_st rfl
theorem S181_24 {pr0 : Nat} (hs : shp pr0 = some (0, 8)) : WP (d + 1) 181 24 lv [.ref pr0] h Q ↔ WP d 179 0 [some (.ref pr0), none] [] h (kV (d + 1) 181 27 lv [] Q) := WP_callVV rfl rfl rfl rfl rfl hs
theorem S181_27 : WP d 181 27 (some (.ref a) :: lv) st h Q ↔ WP d 181 28 (some (.ref a) :: lv) (.ref a :: st) h Q := WP_st rfl
theorem S181_28 (hs : shp a = some (0, 8)) : WP d 181 28 lv (.ref a :: st) h Q ↔ WP d 181 31 lv (.ref (RV a 13) :: st) h Q := WP_getR (r := 525) rfl hs (by decide)
theorem S181_31 : WP d 181 31 (a0 :: some (.int x) :: lv) st h Q ↔ WP d 181 32 (a0 :: some (.int x) :: lv) (.int x :: st) h Q := WP_st rfl
theorem S181_32 : WP d 181 32 (a0 :: a1 :: some (.int x) :: lv) st h Q ↔ WP d 181 33 (a0 :: a1 :: some (.int x) :: lv) (.int x :: st) h Q := WP_st rfl
theorem S181_33 (hi : okA 1 a i) : WP d 181 33 lv (.int x :: .int i :: .ref a :: st) h Q ↔ WP d 181 34 lv st (setI h a i.toNatClampNeg x) Q := WP_iast rfl hi
theorem S181_34 : WP d 181 34 lv st h Q ↔ WP d 181 35 lv (.int 0 :: st) h Q := WP_st rfl
theorem S181_35 : WP d 181 35 lv [.int x] h Q ↔ Q (some (some (.int x))) h := WP_end rfl rfl rfl
theorem S182_0 : WP d 182 0 (some (.ref a) :: lv) st h Q ↔ WP d 182 1 (some (.ref a) :: lv) (.ref a :: st) h Q := WP_st rfl
theorem S182_1 : WP d 182 1 lv st h Q ↔ WP d 182 3 lv (.int 58 :: st) h Q := WP_st rfl
theorem S182_3 : WP d 182 3 (a0 :: some (.int x) :: lv) st h Q ↔ WP d 182 4 (a0 :: some (.int x) :: lv) (.int x :: st) h Q := WP_st rfl
theorem S182_4 : WP d 182 4 lv (.int y :: .int x :: st) h Q ↔ WP d 182 5 lv (.int (x + y) :: st) h Q := WP_st rfl
theorem S182_5 : WP d 182 5 lv st h Q ↔ WP d 182 6 lv (.int 0 :: st) h Q := WP_st rfl
theorem S182_6 : WP d 182 6 (some (.ref a) :: lv) st h Q ↔ WP d 182 7 (some (.ref a) :: lv) (.ref a :: st) h Q := WP_st rfl
theorem S182_7 : WP d 182 7 (a0 :: some (.int x) :: lv) st h Q ↔ WP d 182 8 (a0 :: some (.int x) :: lv) (.int x :: st) h Q := WP_st rfl
theorem S182_8 {pr0 : Nat} {pi0 : Int32} {qr1 : Nat} {qi1 : Int32} {qi2 : Int32} (hs : shp pr0 = some (0, 8)) : WP (d + 1) 182 8 lv [.int pi0, .ref pr0, .int qi2, .int qi1, .ref qr1] h Q ↔ WP d 131 0 [some (.ref pr0), some (.int pi0)] [] h (kR (d + 1) 182 11 lv [.int qi2, .int qi1, .ref qr1] Q) := WP_callVR rfl rfl rfl rfl rfl hs
theorem S182_11 {pr0 : Nat} {pi0 : Int32} {pi1 : Int32} {pi2 : Int32} (hs : shp pr0 = some (0, 8)) : WP (d + 1) 182 11 lv [.int pi2, .int pi1, .int pi0, .ref pr0] h Q ↔ WP d 181 0 [some (.ref pr0), some (.int pi0), some (.int pi1), some (.int pi2)] [] h (kR (d + 1) 182 14 lv [] Q) := WP_callVR rfl rfl rfl rfl rfl hs
theorem S182_14 : WP d 182 14 lv [.int x] h Q ↔ Q (some (some (.int x))) h := WP_end rfl rfl rfl
theorem S183_0 : WP d 183 0 (some (.ref a) :: lv) st h Q ↔ WP d 183 1 (some (.ref a) :: lv) (.ref a :: st) h Q := WP_st rfl
theorem S183_1 : WP d 183 1 lv st h Q ↔ WP d 183 3 lv (.int 58 :: st) h Q := WP_st rfl
theorem S183_3 : WP d 183 3 (a0 :: some (.int x) :: lv) st h Q ↔ WP d 183 4 (a0 :: some (.int x) :: lv) (.int x :: st) h Q := WP_st rfl
theorem S183_4 : WP d 183 4 lv (.int y :: .int x :: st) h Q ↔ WP d 183 5 lv (.int (x + y) :: st) h Q := WP_st rfl
theorem S183_5 : WP d 183 5 lv st h Q ↔ WP d 183 6 lv (.int 1 :: st) h Q := WP_st rfl
theorem S183_6 : WP d 183 6 (some (.ref a) :: lv) st h Q ↔ WP d 183 7 (some (.ref a) :: lv) (.ref a :: st) h Q := WP_st rfl
theorem S183_7 : WP d 183 7 (a0 :: some (.int x) :: lv) st h Q ↔ WP d 183 8 (a0 :: some (.int x) :: lv) (.int x :: st) h Q := WP_st rfl
theorem S183_8 {pr0 : Nat} {pi0 : Int32} {qr1 : Nat} {qi1 : Int32} {qi2 : Int32} (hs : shp pr0 = some (0, 8)) : WP (d + 1) 183 8 lv [.int pi0, .ref pr0, .int qi2, .int qi1, .ref qr1] h Q ↔ WP d 131 0 [some (.ref pr0), some (.int pi0)] [] h (kR (d + 1) 183 11 lv [.int qi2, .int qi1, .ref qr1] Q) := WP_callVR rfl rfl rfl rfl rfl hs
theorem S183_11 {pr0 : Nat} {pi0 : Int32} {pi1 : Int32} {pi2 : Int32} (hs : shp pr0 = some (0, 8)) : WP (d + 1) 183 11 lv [.int pi2, .int pi1, .int pi0, .ref pr0] h Q ↔ WP d 181 0 [some (.ref pr0), some (.int pi0), some (.int pi1), some (.int pi2)] [] h (kR (d + 1) 183 14 lv [] Q) := WP_callVR rfl rfl rfl rfl rfl hs
theorem S183_14 : WP d 183 14 lv [.int x] h Q ↔ Q (some (some (.int x))) h := WP_end rfl rfl rfl
theorem S184_0 : WP d 184 0 (some (.ref a) :: lv) st h Q ↔ WP d 184 1 (some (.ref a) :: lv) (.ref a :: st) h Q := WP_st rfl
theorem S184_1 : WP d 184 1 lv st h Q ↔ WP d 184 3 lv (.int 36 :: st) h Q := WP_st rfl
theorem S184_3 : WP d 184 3 (a0 :: some (.int x) :: lv) st h Q ↔ WP d 184 4 (a0 :: some (.int x) :: lv) (.int x :: st) h Q := WP_st rfl
theorem S184_4 : WP d 184 4 lv (.int y :: .int x :: st) h Q ↔ WP d 184 5 lv (.int (x + y) :: st) h Q := WP_st rfl
theorem S184_5 : WP d 184 5 (a0 :: a1 :: some (.int x) :: lv) st h Q ↔ WP d 184 6 (a0 :: a1 :: some (.int x) :: lv) (.int x :: st) h Q := WP_st rfl
theorem S184_6 : WP d 184 6 (some (.ref a) :: lv) st h Q ↔ WP d 184 7 (some (.ref a) :: lv) (.ref a :: st) h Q := WP_st rfl
theorem S184_7 : WP d 184 7 (a0 :: some (.int x) :: lv) st h Q ↔ WP d 184 8 (a0 :: some (.int x) :: lv) (.int x :: st) h Q := WP_st rfl
theorem S184_8 {pr0 : Nat} {pi0 : Int32} {qr1 : Nat} {qi1 : Int32} {qi2 : Int32} (hs : shp pr0 = some (0, 8)) : WP (d + 1) 184 8 lv [.int pi0, .ref pr0, .int qi2, .int qi1, .ref qr1] h Q ↔ WP d 131 0 [some (.ref pr0), some (.int pi0)] [] h (kR (d + 1) 184 11 lv [.int qi2, .int qi1, .ref qr1] Q) := WP_callVR rfl rfl rfl rfl rfl hs
theorem S184_11 : WP d 184 11 lv (.int x :: st) h Q ↔ if x = 0 then WP d 184 29 lv st h Q else WP d 184 14 lv st h Q := WP_br rfl
theorem S184_14 : WP d 184 14 (a0 :: a1 :: some (.int x) :: lv) st h Q ↔ WP d 184 15 (a0 :: a1 :: some (.int x) :: lv) (.int x :: st) h Q := WP_st rfl
theorem S184_15 : WP d 184 15 lv st h Q ↔ WP d 184 17 lv (.int (-99) :: st) h Q := WP_st rfl
theorem S184_17 : WP d 184 17 lv st h Q ↔ WP d 184 19 lv (.int 99 :: st) h Q := WP_st rfl
theorem S184_19 {pi0 : Int32} {pi1 : Int32} {pi2 : Int32} {qr0 : Nat} {qi3 : Int32} {qi4 : Int32} : WP (d + 1) 184 19 lv [.int pi2, .int pi1, .int pi0, .int qi4, .int qi3, .ref qr0] h Q ↔ WP d 101 0 [some (.int pi0), some (.int pi1), some (.int pi2)] [] h (kR (d + 1) 184 22 lv [.int qi4, .int qi3, .ref qr0] Q) := WP_callSR rfl rfl rfl rfl rfl
theorem S184_22 : WP d 184 22 lv (.int x :: st) h Q ↔ if x = 0 then WP d 184 29 lv st h Q else WP d 184 25 lv st h Q := WP_br rfl
theorem S184_25 : WP d 184 25 lv st h Q ↔ WP d 184 26 lv (.int 1 :: st) h Q := WP_st rfl
theorem S184_26 : WP d 184 26 lv st h Q ↔ WP d 184 30 lv st h Q := WP_st rfl
theorem S184_29 : WP d 184 29 lv st h Q ↔ WP d 184 30 lv (.int 0 :: st) h Q := WP_st rfl
theorem S184_30 {pr0 : Nat} {pi0 : Int32} {pi1 : Int32} {pi2 : Int32} (hs : shp pr0 = some (0, 8)) : WP (d + 1) 184 30 lv [.int pi2, .int pi1, .int pi0, .ref pr0] h Q ↔ WP d 181 0 [some (.ref pr0), some (.int pi0), some (.int pi1), some (.int pi2)] [] h (kR (d + 1) 184 33 lv [] Q) := WP_callVR rfl rfl rfl rfl rfl hs
theorem S184_33 : WP d 184 33 lv [.int x] h Q ↔ Q (some (some (.int x))) h := WP_end rfl rfl rfl
theorem S185_0 : WP d 185 0 (some (.ref a) :: lv) st h Q ↔ WP d 185 1 (some (.ref a) :: lv) (.ref a :: st) h Q := WP_st rfl
theorem S185_1 : WP d 185 1 lv st h Q ↔ WP d 185 3 lv (.int 47 :: st) h Q := WP_st rfl
theorem S185_3 : WP d 185 3 (a0 :: some (.int x) :: lv) st h Q ↔ WP d 185 4 (a0 :: some (.int x) :: lv) (.int x :: st) h Q := WP_st rfl
theorem S185_4 : WP d 185 4 lv (.int y :: .int x :: st) h Q ↔ WP d 185 5 lv (.int (x + y) :: st) h Q := WP_st rfl
theorem S185_5 : WP d 185 5 (a0 :: a1 :: some (.int x) :: lv) st h Q ↔ WP d 185 6 (a0 :: a1 :: some (.int x) :: lv) (.int x :: st) h Q := WP_st rfl
theorem S185_6 : WP d 185 6 (some (.ref a) :: lv) st h Q ↔ WP d 185 7 (some (.ref a) :: lv) (.ref a :: st) h Q := WP_st rfl
theorem S185_7 : WP d 185 7 (a0 :: some (.int x) :: lv) st h Q ↔ WP d 185 8 (a0 :: some (.int x) :: lv) (.int x :: st) h Q := WP_st rfl
theorem S185_8 {pr0 : Nat} {pi0 : Int32} {qr1 : Nat} {qi1 : Int32} {qi2 : Int32} (hs : shp pr0 = some (0, 8)) : WP (d + 1) 185 8 lv [.int pi0, .ref pr0, .int qi2, .int qi1, .ref qr1] h Q ↔ WP d 131 0 [some (.ref pr0), some (.int pi0)] [] h (kR (d + 1) 185 11 lv [.int qi2, .int qi1, .ref qr1] Q) := WP_callVR rfl rfl rfl rfl rfl hs
theorem S185_11 : WP d 185 11 lv (.int x :: st) h Q ↔ if x = 0 then WP d 185 27 lv st h Q else WP d 185 14 lv st h Q := WP_br rfl
theorem S185_14 : WP d 185 14 (a0 :: a1 :: some (.int x) :: lv) st h Q ↔ WP d 185 15 (a0 :: a1 :: some (.int x) :: lv) (.int x :: st) h Q := WP_st rfl
theorem S185_15 : WP d 185 15 lv st h Q ↔ WP d 185 16 lv (.int 1 :: st) h Q := WP_st rfl
theorem S185_16 : WP d 185 16 lv st h Q ↔ WP d 185 17 lv (.int 4 :: st) h Q := WP_st rfl
theorem S185_17 {pi0 : Int32} {pi1 : Int32} {pi2 : Int32} {qr0 : Nat} {qi3 : Int32} {qi4 : Int32} : WP (d + 1) 185 17 lv [.int pi2, .int pi1, .int pi0, .int qi4, .int qi3, .ref qr0] h Q ↔ WP d 101 0 [some (.int pi0), some (.int pi1), some (.int pi2)] [] h (kR (d + 1) 185 20 lv [.int qi4, .int qi3, .ref qr0] Q) := WP_callSR rfl rfl rfl rfl rfl
theorem S185_20 : WP d 185 20 lv (.int x :: st) h Q ↔ if x = 0 then WP d 185 27 lv st h Q else WP d 185 23 lv st h Q := WP_br rfl
theorem S185_23 : WP d 185 23 lv st h Q ↔ WP d 185 24 lv (.int 1 :: st) h Q := WP_st rfl
theorem S185_24 : WP d 185 24 lv st h Q ↔ WP d 185 28 lv st h Q := WP_st rfl
theorem S185_27 : WP d 185 27 lv st h Q ↔ WP d 185 28 lv (.int 0 :: st) h Q := WP_st rfl
theorem S185_28 {pr0 : Nat} {pi0 : Int32} {pi1 : Int32} {pi2 : Int32} (hs : shp pr0 = some (0, 8)) : WP (d + 1) 185 28 lv [.int pi2, .int pi1, .int pi0, .ref pr0] h Q ↔ WP d 181 0 [some (.ref pr0), some (.int pi0), some (.int pi1), some (.int pi2)] [] h (kR (d + 1) 185 31 lv [] Q) := WP_callVR rfl rfl rfl rfl rfl hs
theorem S185_31 : WP d 185 31 lv [.int x] h Q ↔ Q (some (some (.int x))) h := WP_end rfl rfl rfl
theorem S186_0 : WP d 186 0 (some (.ref a) :: lv) st h Q ↔ WP d 186 1 (some (.ref a) :: lv) (.ref a :: st) h Q := WP_st rfl
theorem S186_1 : WP d 186 1 lv st h Q ↔ WP d 186 2 lv (.int 2 :: st) h Q := WP_st rfl
theorem S186_2 : WP d 186 2 (a0 :: some (.int x) :: lv) st h Q ↔ WP d 186 3 (a0 :: some (.int x) :: lv) (.int x :: st) h Q := WP_st rfl
theorem S186_3 : WP d 186 3 lv (.int y :: .int x :: st) h Q ↔ WP d 186 4 lv (.int (x + y) :: st) h Q := WP_st rfl
theorem S186_4 : WP d 186 4 lv st h Q ↔ WP d 186 5 lv (.int 0 :: st) h Q := WP_st rfl
theorem S186_5 : WP d 186 5 (some (.ref a) :: lv) st h Q ↔ WP d 186 6 (some (.ref a) :: lv) (.ref a :: st) h Q := WP_st rfl
theorem S186_6 : WP d 186 6 (a0 :: some (.int x) :: lv) st h Q ↔ WP d 186 7 (a0 :: some (.int x) :: lv) (.int x :: st) h Q := WP_st rfl
theorem S186_7 {pr0 : Nat} {pi0 : Int32} {qr1 : Nat} {qi1 : Int32} {qi2 : Int32} (hs : shp pr0 = some (0, 8)) : WP (d + 1) 186 7 lv [.int pi0, .ref pr0, .int qi2, .int qi1, .ref qr1] h Q ↔ WP d 130 0 [some (.ref pr0), some (.int pi0)] [] h (kR (d + 1) 186 10 lv [.int qi2, .int qi1, .ref qr1] Q) := WP_callVR rfl rfl rfl rfl rfl hs
theorem S186_10 {pr0 : Nat} {pi0 : Int32} {pi1 : Int32} {pi2 : Int32} (hs : shp pr0 = some (0, 8)) : WP (d + 1) 186 10 lv [.int pi2, .int pi1, .int pi0, .ref pr0] h Q ↔ WP d 181 0 [some (.ref pr0), some (.int pi0), some (.int pi1), some (.int pi2)] [] h (kR (d + 1) 186 13 lv [] Q) := WP_callVR rfl rfl rfl rfl rfl hs
theorem S186_13 : WP d 186 13 lv [.int x] h Q ↔ Q (some (some (.int x))) h := WP_end rfl rfl rfl
theorem S187_0 : WP d 187 0 (some (.ref a) :: lv) st h Q ↔ WP d 187 1 (some (.ref a) :: lv) (.ref a :: st) h Q := WP_st rfl
theorem S187_1 : WP d 187 1 lv st h Q ↔ WP d 187 2 lv (.int 0 :: st) h Q := WP_st rfl
theorem S187_2 (hs : shp a = some (0, 8)) : WP d 187 2 lv (.int x :: .ref a :: st) h Q ↔ WP d 187 5 lv st (setI h a 0 x) Q := WP_putI (r := 512) rfl hs (by decide)
theorem S187_5 : WP d 187 5 (some (.ref a) :: lv) st h Q ↔ WP d 187 6 (some (.ref a) :: lv) (.ref a :: st) h Q := WP_st rfl
theorem S187_6 : WP d 187 6 (a0 :: some (.int x) :: lv) st h Q ↔ WP d 187 7 (a0 :: some (.int x) :: lv) (.int x :: st) h Q := WP_st rfl
theorem S187_7 {pr0 : Nat} {pi0 : Int32} (hs : shp pr0 = some (0, 8)) : WP (d + 1) 187 7 lv [.int pi0, .ref pr0] h Q ↔ WP d 130 0 [some (.ref pr0), some (.int pi0)] [] h (kR (d + 1) 187 10 lv [] Q) := WP_callVR rfl rfl rfl rfl rfl hs
theorem S187_10 : WP d 187 10 lv (.int x :: st) h Q ↔ if x = 0 then WP d 187 24 lv st h Q else WP d 187 13 lv st h Q := WP_br rfl
theorem S187_13 : WP d 187 13 (a0 :: a1 :: some (.int x) :: lv) st h Q ↔ WP d 187 14 (a0 :: a1 :: some (.int x) :: lv) (.int x :: st) h Q := WP_st rfl
theorem S187_14 : WP d 187 14 lv st h Q ↔ WP d 187 16 lv (.int (-99) :: st) h Q := WP_st rfl
theorem S187_16 : WP d 187 16 lv st h Q ↔ WP d 187 18 lv (.int 99 :: st) h Q := WP_st rfl
theorem S187_18 {pi0 : Int32} {pi1 : Int32} {pi2 : Int32} : WP (d + 1) 187 18 lv [.int pi2, .int pi1, .int pi0] h Q ↔ WP d 101 0 [some (.int pi0), some (.int pi1), some (.int pi2)] [] h (kR (d + 1) 187 21 lv [] Q) := WP_callSR rfl rfl rfl rfl rfl
theorem S187_21 : WP d 187 21 lv (.int x :: st) h Q ↔ if x = 0 then WP d 187 24 lv st h Q else WP d 187 26 lv st h Q := WP_br rfl
theorem S187_24 : WP d 187 24 lv st h Q ↔ WP d 187 25 lv (.int (-1) :: st) h Q := WP_st rfl
theorem S187_25 : WP d 187 25 lv [.int x] h Q ↔ Q (some (some (.int x))) h := WP_end rfl rfl rfl
theorem S187_26 : WP d 187 26 (some (.ref a) :: lv) st h Q ↔ WP d 187 27 (some (.ref a) :: lv) (.ref a :: st) h Q := WP_st rfl
theorem S187_27 : WP d 187 27 (a0 :: some (.int x) :: lv) st h Q ↔ WP d 187 28 (a0 :: some (.int x) :: lv) (.int x :: st) h Q := WP_st rfl
theorem S187_28 {pr0 : Nat} {pi0 : Int32} (hs : shp pr0 = some (0, 8)) : WP (d + 1) 187 28 lv [.int pi0, .ref pr0] h Q ↔ WP d 132 0 [some (.ref pr0), some (.int pi0)] [] h (kR (d + 1) 187 31 lv [] Q) := WP_callVR rfl rfl rfl rfl rfl hs
theorem S187_31 : WP d 187 31 lv (.int x :: st) h Q ↔ if x = 0 then WP d 187 49 lv st h Q else WP d 187 34 lv st h Q := WP_br rfl
theorem S187_34 : WP d 187 34 (some (.ref a) :: lv) st h Q ↔ WP d 187 35 (some (.ref a) :: lv) (.ref a :: st) h Q := WP_st rfl
theorem S187_35 (hs : shp a = some (0, 8)) : WP d 187 35 lv (.ref a :: st) h Q ↔ WP d 187 38 lv (.ref (RV a 13) :: st) h Q := WP_getR (r := 525) rfl hs (by decide)
theorem S187_38 : WP d 187 38 lv st h Q ↔ WP d 187 40 lv (.int 8 :: st) h Q := WP_st rfl
theorem S187_40 : WP d 187 40 (a0 :: some (.int x) :: lv) st h Q ↔ WP d 187 41 (a0 :: some (.int x) :: lv) (.int x :: st) h Q := WP_st rfl
theorem S187_41 : WP d 187 41 lv (.int y :: .int x :: st) h Q ↔ WP d 187 42 lv (.int (x + y) :: st) h Q := WP_st rfl
theorem S187_42 (hi : okA 1 a i) : WP d 187 42 lv (.int i :: .ref a :: st) h Q ↔ WP d 187 43 lv (.int (h.1 a i.toNatClampNeg) :: st) h Q := WP_iald rfl hi
theorem S187_43 : WP d 187 43 (a0 :: a1 :: some (.int x) :: lv) st h Q ↔ WP d 187 44 (a0 :: a1 :: some (.int x) :: lv) (.int x :: st) h Q := WP_st rfl
theorem S187_44 : WP d 187 44 lv (.int y :: .int x :: st) h Q ↔ if x = y then WP d 187 47 lv st h Q else WP d 187 49 lv st h Q := WP_br rfl
theorem S187_47 : WP d 187 47 lv st h Q ↔ WP d 187 48 lv (.int 1 :: st) h Q := WP_st rfl
theorem S187_48 : WP d 187 48 lv [.int x] h Q ↔ Q (some (some (.int x))) h := WP_end rfl rfl rfl
theorem S187_49 : WP d 187 49 (some (.ref a) :: lv) st h Q ↔ WP d 187 50 (some (.ref a) :: lv) (.ref a :: st) h Q := WP_st rfl
theorem S187_50 {pr0 : Nat} (hs : shp pr0 = some (0, 8)) : WP (d + 1) 187 50 lv [.ref pr0] h Q ↔ WP d 179 0 [some (.ref pr0), none] [] h (kV (d + 1) 187 53 lv [] Q) := WP_callVV rfl rfl rfl rfl rfl hs
theorem S187_53 : WP d 187 53 (some (.ref a) :: lv) st h Q ↔ WP d 187 54 (some (.ref a) :: lv) (.ref a :: st) h Q := WP_st rfl
theorem S187_54 (hs : shp a = some (0, 8)) : WP d 187 54 lv (.ref a :: st) h Q ↔ WP d 187 57 lv (.ref (RV a 13) :: st) h Q := WP_getR (r := 525) rfl hs (by decide)
theorem S187_57 : WP d 187 57 lv st h Q ↔ WP d 187 58 lv (.int 2 :: st) h Q := WP_st rfl
theorem S187_58 : WP d 187 58 (a0 :: some (.int x) :: lv) st h Q ↔ WP d 187 59 (a0 :: some (.int x) :: lv) (.int x :: st) h Q := WP_st rfl
theorem S187_59 : WP d 187 59 lv (.int y :: .int x :: st) h Q ↔ WP d 187 60 lv (.int (x + y) :: st) h Q := WP_st rfl
theorem S187_60 : WP d 187 60 lv st h Q ↔ WP d 187 61 lv (.int 1 :: st) h Q := WP_st rfl
theorem S187_61 (hi : okA 1 a i) : WP d 187 61 lv (.int x :: .int i :: .ref a :: st) h Q ↔ WP d 187 62 lv st (setI h a i.toNatClampNeg x) Q := WP_iast rfl hi
theorem S187_62 : WP d 187 62 (some (.ref a) :: lv) st h Q ↔ WP d 187 63 (some (.ref a) :: lv) (.ref a :: st) h Q := WP_st rfl
theorem S187_63 (hs : shp a = some (0, 8)) : WP d 187 63 lv (.ref a :: st) h Q ↔ WP d 187 66 lv (.ref (RV a 13) :: st) h Q := WP_getR (r := 525) rfl hs (by decide)
theorem S187_66 : WP d 187 66 lv st h Q ↔ WP d 187 68 lv (.int 8 :: st) h Q := WP_st rfl
theorem S187_68 : WP d 187 68 (a0 :: some (.int x) :: lv) st h Q ↔ WP d 187 69 (a0 :: some (.int x) :: lv) (.int x :: st) h Q := WP_st rfl
theorem S187_69 : WP d 187 69 lv (.int y :: .int x :: st) h Q ↔ WP d 187 70 lv (.int (x + y) :: st) h Q := WP_st rfl
theorem S187_70 : WP d 187 70 (a0 :: a1 :: some (.int x) :: lv) st h Q ↔ WP d 187 71 (a0 :: a1 :: some (.int x) :: lv) (.int x :: st) h Q := WP_st rfl
theorem S187_71 (hi : okA 1 a i) : WP d 187 71 lv (.int x :: .int i :: .ref a :: st) h Q ↔ WP d 187 72 lv st (setI h a i.toNatClampNeg x) Q := WP_iast rfl hi
theorem S187_72 : WP d 187 72 lv st h Q ↔ WP d 187 73 lv (.int 0 :: st) h Q := WP_st rfl
theorem S187_73 : WP d 187 73 lv [.int x] h Q ↔ Q (some (some (.int x))) h := WP_end rfl rfl rfl
theorem S188_0 : WP d 188 0 (some (.ref a) :: lv) st h Q ↔ WP d 188 1 (some (.ref a) :: lv) (.ref a :: st) h Q := WP_st rfl
theorem S188_1 : WP d 188 1 lv st h Q ↔ WP d 188 2 lv (.int 0 :: st) h Q := WP_st rfl
theorem S188_2 (hs : shp a = some (0, 8)) : WP d 188 2 lv (.int x :: .ref a :: st) h Q ↔ WP d 188 5 lv st (setI h a 0 x) Q := WP_putI (r := 512) rfl hs (by decide)
theorem S188_5 : WP d 188 5 (some (.ref a) :: lv) st h Q ↔ WP d 188 6 (some (.ref a) :: lv) (.ref a :: st) h Q := WP_st rfl
theorem S188_6 {pr0 : Nat} (hs : shp pr0 = some (0, 8)) : WP (d + 1) 188 6 lv [.ref pr0] h Q ↔ WP d 129 0 [some (.ref pr0)] [] h (kR (d + 1) 188 9 lv [] Q) := WP_callVR rfl rfl rfl rfl rfl hs
theorem S188_9 : WP d 188 9 lv st h Q ↔ WP d 188 11 lv (.int 11 :: st) h Q := WP_st rfl
theorem S188_11 : WP d 188 11 lv (.int y :: .int x :: st) h Q ↔ if x = y then WP d 188 56 lv st h Q else WP d 188 14 lv st h Q := WP_br rfl
theorem S188_14 : WP d 188 14 (some (.ref a) :: lv) st h Q ↔ WP d 188 15 (some (.ref a) :: lv) (.ref a :: st) h Q := WP_st rfl
theorem S188_15 : WP d 188 15 (a0 :: some (.int x) :: lv) st h Q ↔ WP d 188 16 (a0 :: some (.int x) :: lv) (.int x :: st) h Q := WP_st rfl
theorem S188_16 {pr0 : Nat} {pi0 : Int32} (hs : shp pr0 = some (0, 8)) : WP (d + 1) 188 16 lv [.int pi0, .ref pr0] h Q ↔ WP d 130 0 [some (.ref pr0), some (.int pi0)] [] h (kR (d + 1) 188 19 lv [] Q) := WP_callVR rfl rfl rfl rfl rfl hs
theorem S188_19 : WP d 188 19 lv (.int x :: st) h Q ↔ if x = 0 then WP d 188 56 lv st h Q else WP d 188 22 lv st h Q := WP_br rfl
theorem S188_22 : WP d 188 22 (some (.ref a) :: lv) st h Q ↔ WP d 188 23 (some (.ref a) :: lv) (.ref a :: st) h Q := WP_st rfl
theorem S188_23 : WP d 188 23 (a0 :: a1 :: some (.int x) :: lv) st h Q ↔ WP d 188 24 (a0 :: a1 :: some (.int x) :: lv) (.int x :: st) h Q := WP_st rfl
theorem S188_24 {pr0 : Nat} {pi0 : Int32} (hs : shp pr0 = some (0, 8)) : WP (d + 1) 188 24 lv [.int pi0, .ref pr0] h Q ↔ WP d 130 0 [some (.ref pr0), some (.int pi0)] [] h (kR (d + 1) 188 27 lv [] Q) := WP_callVR rfl rfl rfl rfl rfl hs
theorem S188_27 : WP d 188 27 lv (.int x :: st) h Q ↔ if x = 0 then WP d 188 56 lv st h Q else WP d 188 30 lv st h Q := WP_br rfl
theorem S188_30 : WP d 188 30 (a0 :: some (.int x) :: lv) st h Q ↔ WP d 188 31 (a0 :: some (.int x) :: lv) (.int x :: st) h Q := WP_st rfl
theorem S188_31 : WP d 188 31 (a0 :: a1 :: some (.int x) :: lv) st h Q ↔ WP d 188 32 (a0 :: a1 :: some (.int x) :: lv) (.int x :: st) h Q := WP_st rfl
theorem S188_32 : WP d 188 32 lv (.int y :: .int x :: st) h Q ↔ if x = y then WP d 188 56 lv st h Q else WP d 188 35 lv st h Q := WP_br rfl
theorem S188_35 : WP d 188 35 (a0 :: a1 :: a2v :: some (.int x) :: lv) st h Q ↔ WP d 188 36 (a0 :: a1 :: a2v :: some (.int x) :: lv) (.int x :: st) h Q := WP_st rfl
theorem S188_36 : WP d 188 36 lv st h Q ↔ WP d 188 38 lv (.int (-99) :: st) h Q := WP_st rfl
theorem S188_38 : WP d 188 38 lv st h Q ↔ WP d 188 40 lv (.int 99 :: st) h Q := WP_st rfl
theorem S188_40 {pi0 : Int32} {pi1 : Int32} {pi2 : Int32} : WP (d + 1) 188 40 lv [.int pi2, .int pi1, .int pi0] h Q ↔ WP d 101 0 [some (.int pi0), some (.int pi1), some (.int pi2)] [] h (kR (d + 1) 188 43 lv [] Q) := WP_callSR rfl rfl rfl rfl rfl
theorem S188_43 : WP d 188 43 lv (.int x :: st) h Q ↔ if x = 0 then WP d 188 56 lv st h Q else WP d 188 46 lv st h Q := WP_br rfl
theorem S188_46 : WP d 188 46 (a0 :: a1 :: a2v :: a3 :: some (.int x) :: lv) st h Q ↔ WP d 188 48 (a0 :: a1 :: a2v :: a3 :: some (.int x) :: lv) (.int x :: st) h Q := WP_st rfl
theorem S188_48 : WP d 188 48 lv st h Q ↔ WP d 188 49 lv (.int 1 :: st) h Q := WP_st rfl
theorem S188_49 : WP d 188 49 lv st h Q ↔ WP d 188 50 lv (.int 4 :: st) h Q := WP_st rfl
theorem S188_50 {pi0 : Int32} {pi1 : Int32} {pi2 : Int32} : WP (d + 1) 188 50 lv [.int pi2, .int pi1, .int pi0] h Q ↔ WP d 101 0 [some (.int pi0), some (.int pi1), some (.int pi2)] [] h (kR (d + 1) 188 53 lv [] Q) := WP_callSR rfl rfl rfl rfl rfl
theorem S188_53 : WP d 188 53 lv (.int x :: st) h Q ↔ if x = 0 then WP d 188 56 lv st h Q else WP d 188 58 lv st h Q := WP_br rfl
theorem S188_56 : WP d 188 56 lv st h Q ↔ WP d 188 57 lv (.int (-1) :: st) h Q := WP_st rfl
theorem S188_57 : WP d 188 57 lv [.int x] h Q ↔ Q (some (some (.int x))) h := WP_end rfl rfl rfl
theorem S188_58 : WP d 188 58 (some (.ref a) :: lv) st h Q ↔ WP d 188 59 (some (.ref a) :: lv) (.ref a :: st) h Q := WP_st rfl
theorem S188_59 {pr0 : Nat} (hs : shp pr0 = some (0, 8)) : WP (d + 1) 188 59 lv [.ref pr0] h Q ↔ WP d 179 0 [some (.ref pr0), none] [] h (kV (d + 1) 188 62 lv [] Q) := WP_callVV rfl rfl rfl rfl rfl hs
theorem S188_62 : WP d 188 62 (some (.ref a) :: lv) st h Q ↔ WP d 188 63 (some (.ref a) :: lv) (.ref a :: st) h Q := WP_st rfl
theorem S188_63 (hs : shp a = some (0, 8)) : WP d 188 63 lv (.ref a :: st) h Q ↔ WP d 188 66 lv (.ref (RV a 13) :: st) h Q := WP_getR (r := 525) rfl hs (by decide)
theorem S188_66 : WP d 188 66 (a0 :: some (.int x) :: lv) st h Q ↔ WP d 188 67 (a0 :: some (.int x) :: lv) (.int x :: st) h Q := WP_st rfl
theorem S188_67 : WP d 188 67 (a0 :: a1 :: some (.int x) :: lv) st h Q ↔ WP d 188 68 (a0 :: a1 :: some (.int x) :: lv) (.int x :: st) h Q := WP_st rfl
theorem S188_68 : WP d 188 68 (a0 :: a1 :: a2v :: some (.int x) :: lv) st h Q ↔ WP d 188 69 (a0 :: a1 :: a2v :: some (.int x) :: lv) (.int x :: st) h Q := WP_st rfl
theorem S188_69 : WP d 188 69 (a0 :: a1 :: a2v :: a3 :: some (.int x) :: lv) st h Q ↔ WP d 188 71 (a0 :: a1 :: a2v :: a3 :: some (.int x) :: lv) (.int x :: st) h Q := WP_st rfl
theorem S188_71 {pr0 : Nat} {pi0 : Int32} {pi1 : Int32} {pi2 : Int32} {pi3 : Int32} : WP (d + 1) 188 71 lv [.int pi3, .int pi2, .int pi1, .int pi0, .ref pr0] h Q ↔ WP d 124 0 [some (.ref pr0), some (.int pi0), some (.int pi1), some (.int pi2), some (.int pi3), none] [] h (kV (d + 1) 188 74 lv [] Q) := WP_callSV rfl rfl rfl rfl rfl
theorem S188_74 : WP d 188 74 (some (.ref a) :: lv) st h Q ↔ WP d 188 75 (some (.ref a) :: lv) (.ref a :: st) h Q := WP_st rfl
theorem S188_75 {pr0 : Nat} (hs : shp pr0 = some (0, 8)) : WP (d + 1) 188 75 lv [.ref pr0] h Q ↔ WP d 129 0 [some (.ref pr0)] [] h (kR (d + 1) 188 78 lv [] Q) := WP_callVR rfl rfl rfl rfl rfl hs
theorem S188_78 : WP d 188 78 lv st h Q ↔ WP d 188 79 lv (.int 1 :: st) h Q := WP_st rfl
theorem S188_79 : WP d 188 79 lv (.int y :: .int x :: st) h Q ↔ WP d 188 80 lv (.int (x - y) :: st) h Q := WP_st rfl
theorem S188_80 : WP d 188 80 lv [.int x] h Q ↔ Q (some (some (.int x))) h := WP_end rfl rfl rfl
theorem S189_0 : WP d 189 0 (some (.ref a) :: lv) st h Q ↔ WP d 189 1 (some (.ref a) :: lv) (.ref a :: st) h Q := WP_st rfl
theorem S189_1 : WP d 189 1 lv st h Q ↔ WP d 189 2 lv (.int 0 :: st) h Q := WP_st rfl
theorem S189_2 (hs : shp a = some (0, 8)) : WP d 189 2 lv (.int x :: .ref a :: st) h Q ↔ WP d 189 5 lv st (setI h a 0 x) Q := WP_putI (r := 512) rfl hs (by decide)
theorem S189_5 : WP d 189 5 (a0 :: some (.int x) :: lv) st h Q ↔ WP d 189 6 (a0 :: some (.int x) :: lv) (.int x :: st) h Q := WP_st rfl
theorem S189_6 : WP d 189 6 lv st h Q ↔ WP d 189 7 lv (.int 0 :: st) h Q := WP_st rfl
theorem S189_7 : WP d 189 7 lv st h Q ↔ WP d 189 10 lv (.int 9999 :: st) h Q := WP_st rfl
theorem S189_10 {pi0 : Int32} {pi1 : Int32} {pi2 : Int32} : WP (d + 1) 189 10 lv [.int pi2, .int pi1, .int pi0] h Q ↔ WP d 101 0 [some (.int pi0), some (.int pi1), some (.int pi2)] [] h (kR (d + 1) 189 13 lv [] Q) := WP_callSR rfl rfl rfl rfl rfl
theorem S189_13 : WP d 189 13 lv (.int x :: st) h Q ↔ if x = 0 then WP d 189 16 lv st h Q else WP d 189 18 lv st h Q := WP_br rfl
theorem S189_16 : WP d 189 16 lv st h Q ↔ WP d 189 17 lv (.int (-1) :: st) h Q := WP_st rfl
theorem S189_17 : WP d 189 17 lv [.int x] h Q ↔ Q (some (some (.int x))) h := WP_end rfl rfl rfl
theorem S189_18 : WP d 189 18 (some (.ref a) :: lv) st h Q ↔ WP d 189 19 (some (.ref a) :: lv) (.ref a :: st) h Q := WP_st rfl
theorem S189_19 (hs : shp a = some (0, 8)) : WP d 189 19 lv (.ref a :: st) h Q ↔ WP d 189 22 lv (.ref (RV a 13) :: st) h Q := WP_getR (r := 525) rfl hs (by decide)
theorem S189_22 : WP d 189 22 lv st h Q ↔ WP d 189 23 lv (.int 0 :: st) h Q := WP_st rfl
theorem S189_23 : WP d 189 23 (some (.ref a) :: lv) st h Q ↔ WP d 189 24 (some (.ref a) :: lv) (.ref a :: st) h Q := WP_st rfl
theorem S189_24 (hs : shp a = some (0, 8)) : WP d 189 24 lv (.ref a :: st) h Q ↔ WP d 189 27 lv (.ref (RV a 17) :: st) h Q := WP_getR (r := 529) rfl hs (by decide)
theorem S189_27 : WP d 189 27 lv st h Q ↔ WP d 189 28 lv (.int 0 :: st) h Q := WP_st rfl
theorem S189_28 {pr0 : Nat} {pi0 : Int32} {pr1 : Nat} {pi1 : Int32} : WP (d + 1) 189 28 lv [.int pi1, .ref pr1, .int pi0, .ref pr0] h Q ↔ WP d 119 0 [some (.ref pr0), some (.int pi0), some (.ref pr1), some (.int pi1), none] [] h (kV (d + 1) 189 31 lv [] Q) := WP_callSV rfl rfl rfl rfl rfl
theorem S189_31 : WP d 189 31 lv st h Q ↔ WP d 189 32 lv (.int 0 :: st) h Q := WP_st rfl
theorem S189_32 : WP d 189 32 (a0 :: a1 :: a2v :: lv) (.int x :: st) h Q ↔ WP d 189 33 (a0 :: kl a1 :: some (.int x) :: lv) st h Q := WP_st (by rfl)
theorem S189_33 : WP d 189 33 (some (.ref a) :: lv) st h Q ↔ WP d 189 34 (some (.ref a) :: lv) (.ref a :: st) h Q := WP_st rfl
theorem S189_34 {pr0 : Nat} (hs : shp pr0 = some (0, 8)) : WP (d + 1) 189 34 lv [.ref pr0] h Q ↔ WP d 177 0 [some (.ref pr0), none, none] [] h (kR (d + 1) 189 37 lv [] Q) := WP_callVR rfl rfl rfl rfl rfl hs
theorem S189_37 : WP d 189 37 (a0 :: a1 :: a2v :: a3 :: lv) (.int x :: st) h Q ↔ WP d 189 38 (a0 :: a1 :: kl a2v :: some (.int x) :: lv) st h Q := WP_st (by rfl)
theorem S189_38 : WP d 189 38 (a0 :: a1 :: a2v :: some (.int x) :: lv) st h Q ↔ WP d 189 39 (a0 :: a1 :: a2v :: some (.int x) :: lv) (.int x :: st) h Q := WP_st rfl
theorem S189_39 : WP d 189 39 lv st h Q ↔ WP d 189 40 lv (.int (-1) :: st) h Q := WP_st rfl
theorem S189_40 : WP d 189 40 lv (.int y :: .int x :: st) h Q ↔ if x = y then WP d 189 81 lv st h Q else WP d 189 43 lv st h Q := WP_br rfl
theorem S189_43 : WP d 189 43 (some (.ref a) :: lv) st h Q ↔ WP d 189 44 (some (.ref a) :: lv) (.ref a :: st) h Q := WP_st rfl
theorem S189_44 (hs : shp a = some (0, 8)) : WP d 189 44 lv (.ref a :: st) h Q ↔ WP d 189 47 lv (.long (h.2.1 a 32) :: st) h Q := WP_getL (r := 544) rfl hs (by decide)
theorem S189_47 : WP d 189 47 (some (.ref a) :: lv) st h Q ↔ WP d 189 48 (some (.ref a) :: lv) (.ref a :: st) h Q := WP_st rfl
theorem S189_48 (hs : shp a = some (0, 8)) : WP d 189 48 lv (.ref a :: st) h Q ↔ WP d 189 51 lv (.long (h.2.1 a 33) :: st) h Q := WP_getL (r := 545) rfl hs (by decide)
theorem S189_51 : WP d 189 51 (a0 :: some (.int x) :: lv) st h Q ↔ WP d 189 52 (a0 :: some (.int x) :: lv) (.int x :: st) h Q := WP_st rfl
theorem S189_52 : WP d 189 52 lv (.int x :: st) h Q ↔ WP d 189 53 lv (.long x.toInt64 :: st) h Q := WP_st rfl
theorem S189_53 : WP d 189 53 lv st h Q ↔ WP d 189 54 lv (.long 1 :: st) h Q := WP_st rfl
theorem S189_54 {pj0 : Int64} {pj1 : Int64} {pj2 : Int64} {pj3 : Int64} : WP (d + 1) 189 54 lv [.long pj3, .long pj2, .long pj1, .long pj0] h Q ↔ WP d 176 0 [some (.long pj0), none, some (.long pj1), none, some (.long pj2), none, some (.long pj3), none] [] h (kR (d + 1) 189 57 lv [] Q) := WP_callSR rfl rfl rfl rfl rfl
theorem S189_57 : WP d 189 57 lv (.int x :: st) h Q ↔ if x = 0 then WP d 189 81 lv st h Q else WP d 189 60 lv st h Q := WP_br rfl
theorem S189_60 : WP d 189 60 (some (.ref a) :: lv) st h Q ↔ WP d 189 61 (some (.ref a) :: lv) (.ref a :: st) h Q := WP_st rfl
theorem S189_61 (hs : shp a = some (0, 8)) : WP d 189 61 lv (.ref a :: st) h Q ↔ WP d 189 64 lv (.ref (RV a 13) :: st) h Q := WP_getR (r := 525) rfl hs (by decide)
theorem S189_64 : WP d 189 64 lv st h Q ↔ WP d 189 66 lv (.int 58 :: st) h Q := WP_st rfl
theorem S189_66 : WP d 189 66 (a0 :: a1 :: a2v :: some (.int x) :: lv) st h Q ↔ WP d 189 67 (a0 :: a1 :: a2v :: some (.int x) :: lv) (.int x :: st) h Q := WP_st rfl
theorem S189_67 : WP d 189 67 lv (.int y :: .int x :: st) h Q ↔ WP d 189 68 lv (.int (x + y) :: st) h Q := WP_st rfl
theorem S189_68 : WP d 189 68 lv st h Q ↔ WP d 189 69 lv (.int 0 :: st) h Q := WP_st rfl
theorem S189_69 (hi : okA 1 a i) : WP d 189 69 lv (.int x :: .int i :: .ref a :: st) h Q ↔ WP d 189 70 lv st (setI h a i.toNatClampNeg x) Q := WP_iast rfl hi
theorem S189_70 : WP d 189 70 (a0 :: a1 :: some (.int x) :: lv) st h Q ↔ WP d 189 73 (a0 :: kl a1 :: some (.int (x + 1)) :: lv) st h Q := WP_st (by rfl)
theorem S189_73 : WP d 189 73 (some (.ref a) :: lv) st h Q ↔ WP d 189 74 (some (.ref a) :: lv) (.ref a :: st) h Q := WP_st rfl
theorem S189_74 {pr0 : Nat} (hs : shp pr0 = some (0, 8)) : WP (d + 1) 189 74 lv [.ref pr0] h Q ↔ WP d 177 0 [some (.ref pr0), none, none] [] h (kR (d + 1) 189 77 lv [] Q) := WP_callVR rfl rfl rfl rfl rfl hs
theorem S189_77 : WP d 189 77 (a0 :: a1 :: a2v :: a3 :: lv) (.int x :: st) h Q ↔ WP d 189 78 (a0 :: a1 :: kl a2v :: some (.int x) :: lv) st h Q := WP_st (by rfl)
theorem S189_78 : WP d 189 78 lv st h Q ↔ WP d 189 38 lv st h Q := WP_st rfl
theorem S189_81 : WP d 189 81 (a0 :: a1 :: some (.int x) :: lv) st h Q ↔ WP d 189 82 (a0 :: a1 :: some (.int x) :: lv) (.int x :: st) h Q := WP_st rfl
theorem S189_82 : WP d 189 82 lv (.int x :: st) h Q ↔ if x ≤ 0 then WP d 189 89 lv st h Q else WP d 189 85 lv st h Q := WP_br rfl
theorem S189_85 : WP d 189 85 (some (.ref a) :: lv) st h Q ↔ WP d 189 86 (some (.ref a) :: lv) (.ref a :: st) h Q := WP_st rfl
theorem S189_86 {pr0 : Nat} (hs : shp pr0 = some (0, 8)) : WP (d + 1) 189 86 lv [.ref pr0] h Q ↔ WP d 180 0 [some (.ref pr0)] [] h (kV (d + 1) 189 89 lv [] Q) := WP_callVV rfl rfl rfl rfl rfl hs
theorem S189_89 : WP d 189 89 (a0 :: a1 :: some (.int x) :: lv) st h Q ↔ WP d 189 90 (a0 :: a1 :: some (.int x) :: lv) (.int x :: st) h Q := WP_st rfl
theorem S189_90 : WP d 189 90 lv [.int x] h Q ↔ Q (some (some (.int x))) h := WP_end rfl rfl rfl
theorem S190_0 : WP d 190 0 (some (.ref a) :: lv) st h Q ↔ WP d 190 1 (some (.ref a) :: lv) (.ref a :: st) h Q := WP_st rfl
theorem S190_1 : WP d 190 1 (some (.ref a) :: lv) st h Q ↔ WP d 190 2 (some (.ref a) :: lv) (.ref a :: st) h Q := WP_st rfl
theorem S190_2 (hs : shp a = some (0, 8)) : WP d 190 2 lv (.ref a :: st) h Q ↔ WP d 190 5 lv (.int (h.1 a 34) :: st) h Q := WP_getI (r := 546) rfl hs (by decide)
theorem S190_5 : WP d 190 5 lv st h Q ↔ WP d 190 8 lv (.int 1103515245 :: st) h Q := WP_st rfl
theorem S190_8 : WP d 190 8 lv (.int y :: .int x :: st) h Q ↔ WP d 190 9 lv (.int (x * y) :: st) h Q := WP_st rfl
theorem S190_9 : WP d 190 9 lv st h Q ↔ WP d 190 12 lv (.int 12345 :: st) h Q := WP_st rfl
theorem S190_12 : WP d 190 12 lv (.int y :: .int x :: st) h Q ↔ WP d 190 13 lv (.int (x + y) :: st) h Q := WP_st rfl
theorem S190_13 (hs : shp a = some (0, 8)) : WP d 190 13 lv (.int x :: .ref a :: st) h Q ↔ WP d 190 16 lv st (setI h a 34 x) Q := WP_putI (r := 546) rfl hs (by decide)
theorem S190_16 : WP d 190 16 (some (.ref a) :: lv) st h Q ↔ WP d 190 17 (some (.ref a) :: lv) (.ref a :: st) h Q := WP_st rfl
theorem S190_17 (hs : shp a = some (0, 8)) : WP d 190 17 lv (.ref a :: st) h Q ↔ WP d 190 20 lv (.int (h.1 a 34) :: st) h Q := WP_getI (r := 546) rfl hs (by decide)
theorem S190_20 : WP d 190 20 lv st h Q ↔ WP d 190 22 lv (.int 8 :: st) h Q := WP_st rfl
theorem S190_22 : WP d 190 22 lv (.int y :: .int x :: st) h Q ↔ WP d 190 23 lv (.int ((x.toUInt32 >>> (y.toUInt32 &&& Int32.toUInt32 31)).toInt32) :: st) h Q := WP_st rfl
theorem S190_23 : WP d 190 23 (a0 :: some (.int x) :: lv) st h Q ↔ WP d 190 24 (a0 :: some (.int x) :: lv) (.int x :: st) h Q := WP_st rfl
theorem S190_24 (hy : y ≠ 0) : WP d 190 24 lv (.int y :: .int x :: st) h Q ↔ WP d 190 25 lv (.int (x - x / y * y) :: st) h Q := WP_irem rfl hy
theorem S190_25 : WP d 190 25 lv [.int x] h Q ↔ Q (some (some (.int x))) h := WP_end rfl rfl rfl
theorem S191_0 : WP d 191 0 (some (.ref a) :: lv) st h Q ↔ WP d 191 1 (some (.ref a) :: lv) (.ref a :: st) h Q := WP_st rfl
theorem S191_1 : WP d 191 1 (some (.ref a) :: lv) st h Q ↔ WP d 191 2 (some (.ref a) :: lv) (.ref a :: st) h Q := WP_st rfl
theorem S191_2 {pr0 : Nat} {qr1 : Nat} (hs : shp pr0 = some (0, 8)) : WP (d + 1) 191 2 lv [.ref pr0, .ref qr1] h Q ↔ WP d 129 0 [some (.ref pr0)] [] h (kR (d + 1) 191 5 lv [.ref qr1] Q) := WP_callVR rfl rfl rfl rfl rfl hs
theorem S191_5 {pr0 : Nat} {pi0 : Int32} (hs : shp pr0 = some (0, 8)) : WP (d + 1) 191 5 lv [.int pi0, .ref pr0] h Q ↔ WP d 190 0 [some (.ref pr0), some (.int pi0)] [] h (kR (d + 1) 191 8 lv [] Q) := WP_callVR rfl rfl rfl rfl rfl hs
theorem S191_8 : WP d 191 8 (a0 :: a1 :: lv) (.int x :: st) h Q ↔ WP d 191 9 (kl a0 :: some (.int x) :: lv) st h Q := WP_st (by rfl)
theorem S191_9 : WP d 191 9 (some (.ref a) :: lv) st h Q ↔ WP d 191 10 (some (.ref a) :: lv) (.ref a :: st) h Q := WP_st rfl
theorem S191_10 : WP d 191 10 lv st h Q ↔ WP d 191 12 lv (.int 9 :: st) h Q := WP_st rfl
theorem S191_12 {pr0 : Nat} {pi0 : Int32} (hs : shp pr0 = some (0, 8)) : WP (d + 1) 191 12 lv [.int pi0, .ref pr0] h Q ↔ WP d 190 0 [some (.ref pr0), some (.int pi0)] [] h (kR (d + 1) 191 15 lv [] Q) := WP_callVR rfl rfl rfl rfl rfl hs
theorem S191_15 : WP d 191 15 lv st h Q ↔ WP d 191 16 lv (.int 4 :: st) h Q := WP_st rfl
theorem S191_16 : WP d 191 16 lv (.int y :: .int x :: st) h Q ↔ WP d 191 17 lv (.int (x - y) :: st) h Q := WP_st rfl
theorem S191_17 : WP d 191 17 (a0 :: a1 :: a2v :: lv) (.int x :: st) h Q ↔ WP d 191 18 (a0 :: kl a1 :: some (.int x) :: lv) st h Q := WP_st (by rfl)
theorem S191_18 : WP d 191 18 (some (.ref a) :: lv) st h Q ↔ WP d 191 19 (some (.ref a) :: lv) (.ref a :: st) h Q := WP_st rfl
theorem S191_19 (hs : shp a = some (0, 8)) : WP d 191 19 lv (.ref a :: st) h Q ↔ WP d 191 22 lv (.ref (RV a 13) :: st) h Q := WP_getR (r := 525) rfl hs (by decide)
theorem S191_22 : WP d 191 22 lv st h Q ↔ WP d 191 24 lv (.int 36 :: st) h Q := WP_st rfl
theorem S191_24 : WP d 191 24 (a0 :: some (.int x) :: lv) st h Q ↔ WP d 191 25 (a0 :: some (.int x) :: lv) (.int x :: st) h Q := WP_st rfl
theorem S191_25 : WP d 191 25 lv (.int y :: .int x :: st) h Q ↔ WP d 191 26 lv (.int (x + y) :: st) h Q := WP_st rfl
theorem S191_26 (hi : okA 1 a i) : WP d 191 26 lv (.int i :: .ref a :: st) h Q ↔ WP d 191 27 lv (.int (h.1 a i.toNatClampNeg) :: st) h Q := WP_iald rfl hi
theorem S191_27 : WP d 191 27 (a0 :: a1 :: some (.int x) :: lv) st h Q ↔ WP d 191 28 (a0 :: a1 :: some (.int x) :: lv) (.int x :: st) h Q := WP_st rfl
theorem S191_28 : WP d 191 28 lv (.int y :: .int x :: st) h Q ↔ WP d 191 29 lv (.int (x + y) :: st) h Q := WP_st rfl
theorem S191_29 : WP d 191 29 (a0 :: a1 :: a2v :: a3 :: lv) (.int x :: st) h Q ↔ WP d 191 30 (a0 :: a1 :: kl a2v :: some (.int x) :: lv) st h Q := WP_st (by rfl)
theorem S191_30 : WP d 191 30 (a0 :: a1 :: some (.int x) :: lv) st h Q ↔ WP d 191 31 (a0 :: a1 :: some (.int x) :: lv) (.int x :: st) h Q := WP_st rfl
theorem S191_31 : WP d 191 31 lv (.int x :: st) h Q ↔ if x = 0 then WP d 191 45 lv st h Q else WP d 191 34 lv st h Q := WP_br rfl
theorem S191_34 : WP d 191 34 (a0 :: a1 :: a2v :: some (.int x) :: lv) st h Q ↔ WP d 191 35 (a0 :: a1 :: a2v :: some (.int x) :: lv) (.int x :: st) h Q := WP_st rfl
theorem S191_35 : WP d 191 35 lv st h Q ↔ WP d 191 37 lv (.int (-99) :: st) h Q := WP_st rfl
theorem S191_37 : WP d 191 37 lv st h Q ↔ WP d 191 39 lv (.int 99 :: st) h Q := WP_st rfl
theorem S191_39 {pi0 : Int32} {pi1 : Int32} {pi2 : Int32} : WP (d + 1) 191 39 lv [.int pi2, .int pi1, .int pi0] h Q ↔ WP d 101 0 [some (.int pi0), some (.int pi1), some (.int pi2)] [] h (kR (d + 1) 191 42 lv [] Q) := WP_callSR rfl rfl rfl rfl rfl
theorem S191_42 : WP d 191 42 lv (.int x :: st) h Q ↔ if x = 0 then WP d 191 45 lv st h Q else WP d 191 47 lv st h Q := WP_br rfl
theorem S191_45 : WP d 191 45 lv st h Q ↔ WP d 191 46 lv (.int 0 :: st) h Q := WP_st rfl
theorem S191_46 (hx : isB x) : WP d 191 46 lv [.int x] h Q ↔ Q (some (some (.int x))) h := WP_endZ rfl rfl hx
theorem S191_47 : WP d 191 47 (some (.ref a) :: lv) st h Q ↔ WP d 191 48 (some (.ref a) :: lv) (.ref a :: st) h Q := WP_st rfl
theorem S191_48 (hs : shp a = some (0, 8)) : WP d 191 48 lv (.ref a :: st) h Q ↔ WP d 191 51 lv (.ref (RV a 13) :: st) h Q := WP_getR (r := 525) rfl hs (by decide)
theorem S191_51 : WP d 191 51 lv st h Q ↔ WP d 191 53 lv (.int 36 :: st) h Q := WP_st rfl
theorem S191_53 : WP d 191 53 (a0 :: some (.int x) :: lv) st h Q ↔ WP d 191 54 (a0 :: some (.int x) :: lv) (.int x :: st) h Q := WP_st rfl
theorem S191_54 : WP d 191 54 lv (.int y :: .int x :: st) h Q ↔ WP d 191 55 lv (.int (x + y) :: st) h Q := WP_st rfl
theorem S191_55 : WP d 191 55 (a0 :: a1 :: a2v :: some (.int x) :: lv) st h Q ↔ WP d 191 56 (a0 :: a1 :: a2v :: some (.int x) :: lv) (.int x :: st) h Q := WP_st rfl
theorem S191_56 (hi : okA 1 a i) : WP d 191 56 lv (.int x :: .int i :: .ref a :: st) h Q ↔ WP d 191 57 lv st (setI h a i.toNatClampNeg x) Q := WP_iast rfl hi
theorem S191_57 : WP d 191 57 lv st h Q ↔ WP d 191 58 lv (.int 1 :: st) h Q := WP_st rfl
theorem S191_58 (hx : isB x) : WP d 191 58 lv [.int x] h Q ↔ Q (some (some (.int x))) h := WP_endZ rfl rfl hx
theorem S192_0 : WP d 192 0 (some (.ref a) :: lv) st h Q ↔ WP d 192 1 (some (.ref a) :: lv) (.ref a :: st) h Q := WP_st rfl
theorem S192_1 : WP d 192 1 lv st h Q ↔ WP d 192 2 lv (.int 0 :: st) h Q := WP_st rfl
theorem S192_2 (hs : shp a = some (0, 8)) : WP d 192 2 lv (.int x :: .ref a :: st) h Q ↔ WP d 192 5 lv st (setI h a 0 x) Q := WP_putI (r := 512) rfl hs (by decide)
theorem S192_5 : WP d 192 5 (a0 :: some (.int x) :: lv) st h Q ↔ WP d 192 6 (a0 :: some (.int x) :: lv) (.int x :: st) h Q := WP_st rfl
theorem S192_6 : WP d 192 6 lv st h Q ↔ WP d 192 7 lv (.int 1 :: st) h Q := WP_st rfl
theorem S192_7 : WP d 192 7 lv st h Q ↔ WP d 192 9 lv (.int 60 :: st) h Q := WP_st rfl
theorem S192_9 {pi0 : Int32} {pi1 : Int32} {pi2 : Int32} : WP (d + 1) 192 9 lv [.int pi2, .int pi1, .int pi0] h Q ↔ WP d 101 0 [some (.int pi0), some (.int pi1), some (.int pi2)] [] h (kR (d + 1) 192 12 lv [] Q) := WP_callSR rfl rfl rfl rfl rfl
theorem S192_12 : WP d 192 12 lv (.int x :: st) h Q ↔ if x = 0 then WP d 192 15 lv st h Q else WP d 192 17 lv st h Q := WP_br rfl
theorem S192_15 : WP d 192 15 lv st h Q ↔ WP d 192 16 lv (.int (-1) :: st) h Q := WP_st rfl
theorem S192_16 : WP d 192 16 lv [.int x] h Q ↔ Q (some (some (.int x))) h := WP_end rfl rfl rfl
theorem S192_17 : WP d 192 17 (some (.ref a) :: lv) st h Q ↔ WP d 192 18 (some (.ref a) :: lv) (.ref a :: st) h Q := WP_st rfl
theorem S192_18 (hs : shp a = some (0, 8)) : WP d 192 18 lv (.ref a :: st) h Q ↔ WP d 192 21 lv (.ref (RV a 13) :: st) h Q := WP_getR (r := 525) rfl hs (by decide)
theorem S192_21 : WP d 192 21 lv st h Q ↔ WP d 192 22 lv (.int 0 :: st) h Q := WP_st rfl
theorem S192_22 : WP d 192 22 (some (.ref a) :: lv) st h Q ↔ WP d 192 23 (some (.ref a) :: lv) (.ref a :: st) h Q := WP_st rfl
theorem S192_23 (hs : shp a = some (0, 8)) : WP d 192 23 lv (.ref a :: st) h Q ↔ WP d 192 26 lv (.ref (RV a 17) :: st) h Q := WP_getR (r := 529) rfl hs (by decide)
theorem S192_26 : WP d 192 26 lv st h Q ↔ WP d 192 27 lv (.int 0 :: st) h Q := WP_st rfl
theorem S192_27 {pr0 : Nat} {pi0 : Int32} {pr1 : Nat} {pi1 : Int32} : WP (d + 1) 192 27 lv [.int pi1, .ref pr1, .int pi0, .ref pr0] h Q ↔ WP d 119 0 [some (.ref pr0), some (.int pi0), some (.ref pr1), some (.int pi1), none] [] h (kV (d + 1) 192 30 lv [] Q) := WP_callSV rfl rfl rfl rfl rfl
theorem S192_30 : WP d 192 30 (some (.ref a) :: lv) st h Q ↔ WP d 192 31 (some (.ref a) :: lv) (.ref a :: st) h Q := WP_st rfl
theorem S192_31 : WP d 192 31 (a0 :: a1 :: some (.int x) :: lv) st h Q ↔ WP d 192 32 (a0 :: a1 :: some (.int x) :: lv) (.int x :: st) h Q := WP_st rfl
theorem S192_32 (hs : shp a = some (0, 8)) : WP d 192 32 lv (.int x :: .ref a :: st) h Q ↔ WP d 192 35 lv st (setI h a 34 x) Q := WP_putI (r := 546) rfl hs (by decide)
theorem S192_35 : WP d 192 35 lv st h Q ↔ WP d 192 36 lv (.int 0 :: st) h Q := WP_st rfl
theorem S192_36 : WP d 192 36 (a0 :: a1 :: a2v :: a3 :: lv) (.int x :: st) h Q ↔ WP d 192 37 (a0 :: a1 :: kl a2v :: some (.int x) :: lv) st h Q := WP_st (by rfl)
theorem S192_37 : WP d 192 37 lv st h Q ↔ WP d 192 38 lv (.int 0 :: st) h Q := WP_st rfl
theorem S192_38 : WP d 192 38 (a0 :: a1 :: a2v :: a3 :: a4 :: lv) (.int x :: st) h Q ↔ WP d 192 40 (a0 :: a1 :: a2v :: kl a3 :: some (.int x) :: lv) st h Q := WP_st (by rfl)
theorem S192_40 : WP d 192 40 (a0 :: a1 :: a2v :: a3 :: some (.int x) :: lv) st h Q ↔ WP d 192 42 (a0 :: a1 :: a2v :: a3 :: some (.int x) :: lv) (.int x :: st) h Q := WP_st rfl
theorem S192_42 : WP d 192 42 (a0 :: some (.int x) :: lv) st h Q ↔ WP d 192 43 (a0 :: some (.int x) :: lv) (.int x :: st) h Q := WP_st rfl
theorem S192_43 : WP d 192 43 lv (.int y :: .int x :: st) h Q ↔ if y ≤ x then WP d 192 69 lv st h Q else WP d 192 46 lv st h Q := WP_br rfl
theorem S192_46 : WP d 192 46 (some (.ref a) :: lv) st h Q ↔ WP d 192 47 (some (.ref a) :: lv) (.ref a :: st) h Q := WP_st rfl
theorem S192_47 {pr0 : Nat} (hs : shp pr0 = some (0, 8)) : WP (d + 1) 192 47 lv [.ref pr0] h Q ↔ WP d 129 0 [some (.ref pr0)] [] h (kR (d + 1) 192 50 lv [] Q) := WP_callVR rfl rfl rfl rfl rfl hs
theorem S192_50 : WP d 192 50 lv (.int x :: st) h Q ↔ if x ≤ 0 then WP d 192 69 lv st h Q else WP d 192 53 lv st h Q := WP_br rfl
theorem S192_53 : WP d 192 53 (some (.ref a) :: lv) st h Q ↔ WP d 192 54 (some (.ref a) :: lv) (.ref a :: st) h Q := WP_st rfl
theorem S192_54 {pr0 : Nat} (hs : shp pr0 = some (0, 8)) : WP (d + 1) 192 54 lv [.ref pr0] h Q ↔ WP d 191 0 [some (.ref pr0), none, none, none] [] h (kR (d + 1) 192 57 lv [] Q) := WP_callVR rfl rfl rfl rfl rfl hs
theorem S192_57 : WP d 192 57 lv (.int x :: st) h Q ↔ if x = 0 then WP d 192 63 lv st h Q else WP d 192 60 lv st h Q := WP_br rfl
theorem S192_60 : WP d 192 60 (a0 :: a1 :: a2v :: some (.int x) :: lv) st h Q ↔ WP d 192 63 (a0 :: a1 :: kl a2v :: some (.int (x + 1)) :: lv) st h Q := WP_st (by rfl)
theorem S192_63 : WP d 192 63 (a0 :: a1 :: a2v :: a3 :: some (.int x) :: lv) st h Q ↔ WP d 192 66 (a0 :: a1 :: a2v :: kl a3 :: some (.int (x + 1)) :: lv) st h Q := WP_st (by rfl)
theorem S192_66 : WP d 192 66 lv st h Q ↔ WP d 192 40 lv st h Q := WP_st rfl
theorem S192_69 : WP d 192 69 (a0 :: a1 :: a2v :: some (.int x) :: lv) st h Q ↔ WP d 192 70 (a0 :: a1 :: a2v :: some (.int x) :: lv) (.int x :: st) h Q := WP_st rfl
theorem S192_70 : WP d 192 70 lv (.int x :: st) h Q ↔ if x ≤ 0 then WP d 192 77 lv st h Q else WP d 192 73 lv st h Q := WP_br rfl
theorem S192_73 : WP d 192 73 (some (.ref a) :: lv) st h Q ↔ WP d 192 74 (some (.ref a) :: lv) (.ref a :: st) h Q := WP_st rfl
theorem S192_74 {pr0 : Nat} (hs : shp pr0 = some (0, 8)) : WP (d + 1) 192 74 lv [.ref pr0] h Q ↔ WP d 180 0 [some (.ref pr0)] [] h (kV (d + 1) 192 77 lv [] Q) := WP_callVV rfl rfl rfl rfl rfl hs
theorem S192_77 : WP d 192 77 (a0 :: a1 :: a2v :: some (.int x) :: lv) st h Q ↔ WP d 192 78 (a0 :: a1 :: a2v :: some (.int x) :: lv) (.int x :: st) h Q := WP_st rfl
theorem S192_78 : WP d 192 78 lv [.int x] h Q ↔ Q (some (some (.int x))) h := WP_end rfl rfl rfl
theorem S193_0 : WP d 193 0 (some (.ref a) :: lv) st h Q ↔ WP d 193 1 (some (.ref a) :: lv) (.ref a :: st) h Q := WP_st rfl
theorem S193_1 : WP d 193 1 lv st h Q ↔ WP d 193 2 lv (.int 0 :: st) h Q := WP_st rfl
theorem S193_2 (hs : shp a = some (0, 8)) : WP d 193 2 lv (.int x :: .ref a :: st) h Q ↔ WP d 193 5 lv st (setI h a 0 x) Q := WP_putI (r := 512) rfl hs (by decide)
theorem S193_5 : WP d 193 5 (some (.ref a) :: lv) st h Q ↔ WP d 193 6 (some (.ref a) :: lv) (.ref a :: st) h Q := WP_st rfl
theorem S193_6 (hs : shp a = some (0, 8)) : WP d 193 6 lv (.ref a :: st) h Q ↔ WP d 193 9 lv (.int (h.1 a 21) :: st) h Q := WP_getI (r := 533) rfl hs (by decide)
theorem S193_9 : WP d 193 9 lv (.int x :: st) h Q ↔ if x = 0 then WP d 193 12 lv st h Q else WP d 193 14 lv st h Q := WP_br rfl
theorem S193_12 : WP d 193 12 lv st h Q ↔ WP d 193 13 lv (.int (-1) :: st) h Q := WP_st rfl
theorem S193_13 : WP d 193 13 lv [.int x] h Q ↔ Q (some (some (.int x))) h := WP_end rfl rfl rfl
theorem S193_14 : WP d 193 14 (some (.ref a) :: lv) st h Q ↔ WP d 193 15 (some (.ref a) :: lv) (.ref a :: st) h Q := WP_st rfl
theorem S193_15 : WP d 193 15 lv (.ref a :: st) h Q ↔ WP d 193 16 lv (.ref a :: .ref a :: st) h Q := WP_st rfl
theorem S193_16 (hs : shp a = some (0, 8)) : WP d 193 16 lv (.ref a :: st) h Q ↔ WP d 193 19 lv (.int (h.1 a 21) :: st) h Q := WP_getI (r := 533) rfl hs (by decide)
theorem S193_19 : WP d 193 19 lv st h Q ↔ WP d 193 20 lv (.int 1 :: st) h Q := WP_st rfl
theorem S193_20 : WP d 193 20 lv (.int y :: .int x :: st) h Q ↔ WP d 193 21 lv (.int (x - y) :: st) h Q := WP_st rfl
theorem S193_21 (hs : shp a = some (0, 8)) : WP d 193 21 lv (.int x :: .ref a :: st) h Q ↔ WP d 193 24 lv st (setI h a 21 x) Q := WP_putI (r := 533) rfl hs (by decide)
theorem S193_24 : WP d 193 24 (some (.ref a) :: lv) st h Q ↔ WP d 193 25 (some (.ref a) :: lv) (.ref a :: st) h Q := WP_st rfl
theorem S193_25 (hs : shp a = some (0, 8)) : WP d 193 25 lv (.ref a :: st) h Q ↔ WP d 193 28 lv (.ref (RV a 16) :: st) h Q := WP_getR (r := 528) rfl hs (by decide)
theorem S193_28 : WP d 193 28 lv st h Q ↔ WP d 193 30 lv (.int 69 :: st) h Q := WP_st rfl
theorem S193_30 : WP d 193 30 (some (.ref a) :: lv) st h Q ↔ WP d 193 31 (some (.ref a) :: lv) (.ref a :: st) h Q := WP_st rfl
theorem S193_31 (hs : shp a = some (0, 8)) : WP d 193 31 lv (.ref a :: st) h Q ↔ WP d 193 34 lv (.int (h.1 a 21) :: st) h Q := WP_getI (r := 533) rfl hs (by decide)
theorem S193_34 : WP d 193 34 lv (.int y :: .int x :: st) h Q ↔ WP d 193 35 lv (.int (x * y) :: st) h Q := WP_st rfl
theorem S193_35 : WP d 193 35 (some (.ref a) :: lv) st h Q ↔ WP d 193 36 (some (.ref a) :: lv) (.ref a :: st) h Q := WP_st rfl
theorem S193_36 (hs : shp a = some (0, 8)) : WP d 193 36 lv (.ref a :: st) h Q ↔ WP d 193 39 lv (.ref (RV a 13) :: st) h Q := WP_getR (r := 525) rfl hs (by decide)
theorem S193_39 : WP d 193 39 lv st h Q ↔ WP d 193 40 lv (.int 0 :: st) h Q := WP_st rfl
theorem S193_40 {pr0 : Nat} {pi0 : Int32} {pr1 : Nat} {pi1 : Int32} : WP (d + 1) 193 40 lv [.int pi1, .ref pr1, .int pi0, .ref pr0] h Q ↔ WP d 119 0 [some (.ref pr0), some (.int pi0), some (.ref pr1), some (.int pi1), none] [] h (kV (d + 1) 193 43 lv [] Q) := WP_callSV rfl rfl rfl rfl rfl
theorem S193_43 : WP d 193 43 (some (.ref a) :: lv) st h Q ↔ WP d 193 44 (some (.ref a) :: lv) (.ref a :: st) h Q := WP_st rfl
theorem S193_44 (hs : shp a = some (0, 8)) : WP d 193 44 lv (.ref a :: st) h Q ↔ WP d 193 47 lv (.int (h.1 a 21) :: st) h Q := WP_getI (r := 533) rfl hs (by decide)
theorem S193_47 : WP d 193 47 lv [.int x] h Q ↔ Q (some (some (.int x))) h := WP_end rfl rfl rfl
theorem S194_0 : WP d 194 0 (some (.ref a) :: lv) st h Q ↔ WP d 194 1 (some (.ref a) :: lv) (.ref a :: st) h Q := WP_st rfl
theorem S194_1 : WP d 194 1 lv st h Q ↔ WP d 194 2 lv (.int 0 :: st) h Q := WP_st rfl
theorem S194_2 (hs : shp a = some (0, 8)) : WP d 194 2 lv (.int x :: .ref a :: st) h Q ↔ WP d 194 5 lv st (setI h a 0 x) Q := WP_putI (r := 512) rfl hs (by decide)
theorem S194_5 : WP d 194 5 (a0 :: some (.int x) :: lv) st h Q ↔ WP d 194 6 (a0 :: some (.int x) :: lv) (.int x :: st) h Q := WP_st rfl
theorem S194_6 : WP d 194 6 lv st h Q ↔ WP d 194 7 lv (.int 0 :: st) h Q := WP_st rfl
theorem S194_7 : WP d 194 7 lv st h Q ↔ WP d 194 8 lv (.int 1 :: st) h Q := WP_st rfl
theorem S194_8 {pi0 : Int32} {pi1 : Int32} {pi2 : Int32} : WP (d + 1) 194 8 lv [.int pi2, .int pi1, .int pi0] h Q ↔ WP d 101 0 [some (.int pi0), some (.int pi1), some (.int pi2)] [] h (kR (d + 1) 194 11 lv [] Q) := WP_callSR rfl rfl rfl rfl rfl
theorem S194_11 : WP d 194 11 lv (.int x :: st) h Q ↔ if x = 0 then WP d 194 14 lv st h Q else WP d 194 16 lv st h Q := WP_br rfl
theorem S194_14 : WP d 194 14 lv st h Q ↔ WP d 194 15 lv (.int 0 :: st) h Q := WP_st rfl
theorem S194_15 (hx : isB x) : WP d 194 15 lv [.int x] h Q ↔ Q (some (some (.int x))) h := WP_endZ rfl rfl hx
theorem S194_16 : WP d 194 16 (some (.ref a) :: lv) st h Q ↔ WP d 194 17 (some (.ref a) :: lv) (.ref a :: st) h Q := WP_st rfl
theorem S194_17 (hs : shp a = some (0, 8)) : WP d 194 17 lv (.ref a :: st) h Q ↔ WP d 194 20 lv (.ref (RV a 13) :: st) h Q := WP_getR (r := 525) rfl hs (by decide)
theorem S194_20 : WP d 194 20 lv st h Q ↔ WP d 194 21 lv (.int 0 :: st) h Q := WP_st rfl
theorem S194_21 : WP d 194 21 (some (.ref a) :: lv) st h Q ↔ WP d 194 22 (some (.ref a) :: lv) (.ref a :: st) h Q := WP_st rfl
theorem S194_22 (hs : shp a = some (0, 8)) : WP d 194 22 lv (.ref a :: st) h Q ↔ WP d 194 25 lv (.ref (RV a 15) :: st) h Q := WP_getR (r := 527) rfl hs (by decide)
theorem S194_25 : WP d 194 25 lv st h Q ↔ WP d 194 27 lv (.int 69 :: st) h Q := WP_st rfl
theorem S194_27 : WP d 194 27 (a0 :: some (.int x) :: lv) st h Q ↔ WP d 194 28 (a0 :: some (.int x) :: lv) (.int x :: st) h Q := WP_st rfl
theorem S194_28 : WP d 194 28 lv (.int y :: .int x :: st) h Q ↔ WP d 194 29 lv (.int (x * y) :: st) h Q := WP_st rfl
theorem S194_29 {pr0 : Nat} {pi0 : Int32} {pr1 : Nat} {pi1 : Int32} : WP (d + 1) 194 29 lv [.int pi1, .ref pr1, .int pi0, .ref pr0] h Q ↔ WP d 119 0 [some (.ref pr0), some (.int pi0), some (.ref pr1), some (.int pi1), none] [] h (kV (d + 1) 194 32 lv [] Q) := WP_callSV rfl rfl rfl rfl rfl
theorem S194_32 : WP d 194 32 (some (.ref a) :: lv) st h Q ↔ WP d 194 33 (some (.ref a) :: lv) (.ref a :: st) h Q := WP_st rfl
theorem S194_33 (hs : shp a = some (0, 8)) : WP d 194 33 lv (.ref a :: st) h Q ↔ WP d 194 36 lv (.ref (RV a 20) :: st) h Q := WP_getR (r := 532) rfl hs (by decide)
theorem S194_36 : WP d 194 36 (a0 :: some (.int x) :: lv) st h Q ↔ WP d 194 37 (a0 :: some (.int x) :: lv) (.int x :: st) h Q := WP_st rfl
theorem S194_37 : WP d 194 37 lv st h Q ↔ WP d 194 38 lv (.int 1 :: st) h Q := WP_st rfl
theorem S194_38 (hi : okA 3 a i) : WP d 194 38 lv (.int x :: .int i :: .ref a :: st) h Q ↔ WP d 194 39 lv st (setI h a i.toNatClampNeg (vp_nar .boolean x)) Q := WP_bast3 rfl hi
theorem S194_39 : WP d 194 39 lv st h Q ↔ WP d 194 40 lv (.int 1 :: st) h Q := WP_st rfl
theorem S194_40 (hx : isB x) : WP d 194 40 lv [.int x] h Q ↔ Q (some (some (.int x))) h := WP_endZ rfl rfl hx
theorem S195_0 : WP d 195 0 (some (.ref a) :: lv) st h Q ↔ WP d 195 1 (some (.ref a) :: lv) (.ref a :: st) h Q := WP_st rfl
theorem S195_1 : WP d 195 1 lv st h Q ↔ WP d 195 2 lv (.int 0 :: st) h Q := WP_st rfl
theorem S195_2 (hs : shp a = some (0, 8)) : WP d 195 2 lv (.int x :: .ref a :: st) h Q ↔ WP d 195 5 lv st (setI h a 0 x) Q := WP_putI (r := 512) rfl hs (by decide)
theorem S195_5 : WP d 195 5 (a0 :: some (.int x) :: lv) st h Q ↔ WP d 195 6 (a0 :: some (.int x) :: lv) (.int x :: st) h Q := WP_st rfl
theorem S195_6 : WP d 195 6 lv st h Q ↔ WP d 195 7 lv (.int 0 :: st) h Q := WP_st rfl
theorem S195_7 : WP d 195 7 lv st h Q ↔ WP d 195 8 lv (.int 1 :: st) h Q := WP_st rfl
theorem S195_8 {pi0 : Int32} {pi1 : Int32} {pi2 : Int32} : WP (d + 1) 195 8 lv [.int pi2, .int pi1, .int pi0] h Q ↔ WP d 101 0 [some (.int pi0), some (.int pi1), some (.int pi2)] [] h (kR (d + 1) 195 11 lv [] Q) := WP_callSR rfl rfl rfl rfl rfl
theorem S195_11 : WP d 195 11 lv (.int x :: st) h Q ↔ if x = 0 then WP d 195 23 lv st h Q else WP d 195 14 lv st h Q := WP_br rfl
theorem S195_14 : WP d 195 14 (some (.ref a) :: lv) st h Q ↔ WP d 195 15 (some (.ref a) :: lv) (.ref a :: st) h Q := WP_st rfl
theorem S195_15 (hs : shp a = some (0, 8)) : WP d 195 15 lv (.ref a :: st) h Q ↔ WP d 195 18 lv (.ref (RV a 20) :: st) h Q := WP_getR (r := 532) rfl hs (by decide)
theorem S195_18 : WP d 195 18 (a0 :: some (.int x) :: lv) st h Q ↔ WP d 195 19 (a0 :: some (.int x) :: lv) (.int x :: st) h Q := WP_st rfl
theorem S195_19 (hi : okB a i) : WP d 195 19 lv (.int i :: .ref a :: st) h Q ↔ WP d 195 20 lv (.int (h.1 a i.toNatClampNeg) :: st) h Q := WP_bald rfl hi
theorem S195_20 : WP d 195 20 lv (.int x :: st) h Q ↔ if x = 0 then WP d 195 23 lv st h Q else WP d 195 25 lv st h Q := WP_br rfl
theorem S195_23 : WP d 195 23 lv st h Q ↔ WP d 195 24 lv (.int 0 :: st) h Q := WP_st rfl
theorem S195_24 (hx : isB x) : WP d 195 24 lv [.int x] h Q ↔ Q (some (some (.int x))) h := WP_endZ rfl rfl hx
theorem S195_25 : WP d 195 25 (some (.ref a) :: lv) st h Q ↔ WP d 195 26 (some (.ref a) :: lv) (.ref a :: st) h Q := WP_st rfl
theorem S195_26 (hs : shp a = some (0, 8)) : WP d 195 26 lv (.ref a :: st) h Q ↔ WP d 195 29 lv (.ref (RV a 15) :: st) h Q := WP_getR (r := 527) rfl hs (by decide)
theorem S195_29 : WP d 195 29 lv st h Q ↔ WP d 195 31 lv (.int 69 :: st) h Q := WP_st rfl
theorem S195_31 : WP d 195 31 (a0 :: some (.int x) :: lv) st h Q ↔ WP d 195 32 (a0 :: some (.int x) :: lv) (.int x :: st) h Q := WP_st rfl
theorem S195_32 : WP d 195 32 lv (.int y :: .int x :: st) h Q ↔ WP d 195 33 lv (.int (x * y) :: st) h Q := WP_st rfl
theorem S195_33 : WP d 195 33 (some (.ref a) :: lv) st h Q ↔ WP d 195 34 (some (.ref a) :: lv) (.ref a :: st) h Q := WP_st rfl
theorem S195_34 (hs : shp a = some (0, 8)) : WP d 195 34 lv (.ref a :: st) h Q ↔ WP d 195 37 lv (.ref (RV a 13) :: st) h Q := WP_getR (r := 525) rfl hs (by decide)
theorem S195_37 : WP d 195 37 lv st h Q ↔ WP d 195 38 lv (.int 0 :: st) h Q := WP_st rfl
theorem S195_38 {pr0 : Nat} {pi0 : Int32} {pr1 : Nat} {pi1 : Int32} : WP (d + 1) 195 38 lv [.int pi1, .ref pr1, .int pi0, .ref pr0] h Q ↔ WP d 119 0 [some (.ref pr0), some (.int pi0), some (.ref pr1), some (.int pi1), none] [] h (kV (d + 1) 195 41 lv [] Q) := WP_callSV rfl rfl rfl rfl rfl
theorem S195_41 : WP d 195 41 (some (.ref a) :: lv) st h Q ↔ WP d 195 42 (some (.ref a) :: lv) (.ref a :: st) h Q := WP_st rfl
theorem S195_42 : WP d 195 42 lv st h Q ↔ WP d 195 43 lv (.int 0 :: st) h Q := WP_st rfl
theorem S195_43 (hs : shp a = some (0, 8)) : WP d 195 43 lv (.int x :: .ref a :: st) h Q ↔ WP d 195 46 lv st (setI h a 21 x) Q := WP_putI (r := 533) rfl hs (by decide)
theorem S195_46 : WP d 195 46 lv st h Q ↔ WP d 195 47 lv (.int 1 :: st) h Q := WP_st rfl
theorem S195_47 (hx : isB x) : WP d 195 47 lv [.int x] h Q ↔ Q (some (some (.int x))) h := WP_endZ rfl rfl hx
theorem S196_0 : WP d 196 0 (some (.ref a) :: lv) st h Q ↔ WP d 196 1 (some (.ref a) :: lv) (.ref a :: st) h Q := WP_st rfl
theorem S196_1 : WP d 196 1 lv st h Q ↔ WP d 196 2 lv (.int 0 :: st) h Q := WP_st rfl
theorem S196_2 (hs : shp a = some (0, 8)) : WP d 196 2 lv (.int x :: .ref a :: st) h Q ↔ WP d 196 5 lv st (setI h a 0 x) Q := WP_putI (r := 512) rfl hs (by decide)
theorem S196_5 : WP d 196 5 (some (.ref a) :: lv) st h Q ↔ WP d 196 6 (some (.ref a) :: lv) (.ref a :: st) h Q := WP_st rfl
theorem S196_6 : WP d 196 6 (a0 :: some (.int x) :: lv) st h Q ↔ WP d 196 7 (a0 :: some (.int x) :: lv) (.int x :: st) h Q := WP_st rfl
theorem S196_7 {pr0 : Nat} {pi0 : Int32} (hs : shp pr0 = some (0, 8)) : WP (d + 1) 196 7 lv [.int pi0, .ref pr0] h Q ↔ WP d 130 0 [some (.ref pr0), some (.int pi0)] [] h (kR (d + 1) 196 10 lv [] Q) := WP_callVR rfl rfl rfl rfl rfl hs
theorem S196_10 : WP d 196 10 lv (.int x :: st) h Q ↔ if x = 0 then WP d 196 13 lv st h Q else WP d 196 18 lv st h Q := WP_br rfl
theorem S196_13 : WP d 196 13 (some (.ref a) :: lv) st h Q ↔ WP d 196 14 (some (.ref a) :: lv) (.ref a :: st) h Q := WP_st rfl
theorem S196_14 {pr0 : Nat} (hs : shp pr0 = some (0, 8)) : WP (d + 1) 196 14 lv [.ref pr0] h Q ↔ WP d 100 0 [some (.ref pr0)] [] h (kR (d + 1) 196 17 lv [] Q) := WP_callVR rfl rfl rfl rfl rfl hs
theorem S196_17 : WP d 196 17 lv [.int x] h Q ↔ Q (some (some (.int x))) h := WP_end rfl rfl rfl
theorem S196_18 : WP d 196 18 (a0 :: a1 :: some (.int x) :: lv) st h Q ↔ WP d 196 19 (a0 :: a1 :: some (.int x) :: lv) (.int x :: st) h Q := WP_st rfl
theorem S196_19 : WP d 196 19 lv (.int x :: st) h Q ↔ if x = 0 then WP d 196 52 lv st h Q else if x = 1 then WP d 196 61 lv st h Q else if x = 2 then WP d 196 85 lv st h Q else if x = 3 then WP d 196 91 lv st h Q else if x = 4 then WP d 196 105 lv st h Q else WP d 196 159 lv st h Q := by
  by_cases e0 : x = 0
  · subst e0
    rw [if_pos rfl]
    exact WP_st rfl
  by_cases e1 : x = 1
  · subst e1
    rw [if_neg (by decide)]
    rw [if_pos rfl]
    exact WP_st rfl
  by_cases e2 : x = 2
  · subst e2
    rw [if_neg (by decide)]
    rw [if_neg (by decide)]
    rw [if_pos rfl]
    exact WP_st rfl
  by_cases e3 : x = 3
  · subst e3
    rw [if_neg (by decide)]
    rw [if_neg (by decide)]
    rw [if_neg (by decide)]
    rw [if_pos rfl]
    exact WP_st rfl
  by_cases e4 : x = 4
  · subst e4
    rw [if_neg (by decide)]
    rw [if_neg (by decide)]
    rw [if_neg (by decide)]
    rw [if_neg (by decide)]
    rw [if_pos rfl]
    exact WP_st rfl
  rw [if_neg e0, if_neg e1, if_neg e2, if_neg e3, if_neg e4]
  have z0 : x.toInt ≠ 0 := fun q => e0 (Int32.toInt_inj.mp (q.trans (by decide)))
  have z1 : x.toInt ≠ 1 := fun q => e1 (Int32.toInt_inj.mp (q.trans (by decide)))
  have z2 : x.toInt ≠ 2 := fun q => e2 (Int32.toInt_inj.mp (q.trans (by decide)))
  have z3 : x.toInt ≠ 3 := fun q => e3 (Int32.toInt_inj.mp (q.trans (by decide)))
  have z4 : x.toInt ≠ 4 := fun q => e4 (Int32.toInt_inj.mp (q.trans (by decide)))
  exact WP_swD rfl (by omega) rfl
theorem S196_52 : WP d 196 52 (some (.ref a) :: lv) st h Q ↔ WP d 196 53 (some (.ref a) :: lv) (.ref a :: st) h Q := WP_st rfl
theorem S196_53 (hs : shp a = some (0, 8)) : WP d 196 53 lv (.ref a :: st) h Q ↔ WP d 196 56 lv (.ref (RV a 13) :: st) h Q := WP_getR (r := 525) rfl hs (by decide)
theorem S196_56 : WP d 196 56 lv st h Q ↔ WP d 196 57 lv (.int 2 :: st) h Q := WP_st rfl
theorem S196_57 : WP d 196 57 (a0 :: some (.int x) :: lv) st h Q ↔ WP d 196 58 (a0 :: some (.int x) :: lv) (.int x :: st) h Q := WP_st rfl
theorem S196_58 : WP d 196 58 lv (.int y :: .int x :: st) h Q ↔ WP d 196 59 lv (.int (x + y) :: st) h Q := WP_st rfl
theorem S196_59 (hi : okA 1 a i) : WP d 196 59 lv (.int i :: .ref a :: st) h Q ↔ WP d 196 60 lv (.int (h.1 a i.toNatClampNeg) :: st) h Q := WP_iald rfl hi
theorem S196_60 : WP d 196 60 lv [.int x] h Q ↔ Q (some (some (.int x))) h := WP_end rfl rfl rfl
theorem S196_61 : WP d 196 61 (some (.ref a) :: lv) st h Q ↔ WP d 196 62 (some (.ref a) :: lv) (.ref a :: st) h Q := WP_st rfl
theorem S196_62 : WP d 196 62 (a0 :: some (.int x) :: lv) st h Q ↔ WP d 196 63 (a0 :: some (.int x) :: lv) (.int x :: st) h Q := WP_st rfl
theorem S196_63 {pr0 : Nat} {pi0 : Int32} (hs : shp pr0 = some (0, 8)) : WP (d + 1) 196 63 lv [.int pi0, .ref pr0] h Q ↔ WP d 132 0 [some (.ref pr0), some (.int pi0)] [] h (kR (d + 1) 196 66 lv [] Q) := WP_callVR rfl rfl rfl rfl rfl hs
theorem S196_66 : WP d 196 66 lv (.int x :: st) h Q ↔ if x = 0 then WP d 196 81 lv st h Q else WP d 196 69 lv st h Q := WP_br rfl
theorem S196_69 : WP d 196 69 (some (.ref a) :: lv) st h Q ↔ WP d 196 70 (some (.ref a) :: lv) (.ref a :: st) h Q := WP_st rfl
theorem S196_70 (hs : shp a = some (0, 8)) : WP d 196 70 lv (.ref a :: st) h Q ↔ WP d 196 73 lv (.ref (RV a 13) :: st) h Q := WP_getR (r := 525) rfl hs (by decide)
theorem S196_73 : WP d 196 73 lv st h Q ↔ WP d 196 75 lv (.int 8 :: st) h Q := WP_st rfl
theorem S196_75 : WP d 196 75 (a0 :: some (.int x) :: lv) st h Q ↔ WP d 196 76 (a0 :: some (.int x) :: lv) (.int x :: st) h Q := WP_st rfl
theorem S196_76 : WP d 196 76 lv (.int y :: .int x :: st) h Q ↔ WP d 196 77 lv (.int (x + y) :: st) h Q := WP_st rfl
theorem S196_77 (hi : okA 1 a i) : WP d 196 77 lv (.int i :: .ref a :: st) h Q ↔ WP d 196 78 lv (.int (h.1 a i.toNatClampNeg) :: st) h Q := WP_iald rfl hi
theorem S196_78 : WP d 196 78 lv st h Q ↔ WP d 196 84 lv st h Q := WP_st rfl
theorem S196_81 : WP d 196 81 lv st h Q ↔ WP d 196 84 lv (.int (-1000000) :: st) h Q := WP_st rfl
theorem S196_84 : WP d 196 84 lv [.int x] h Q ↔ Q (some (some (.int x))) h := WP_end rfl rfl rfl
theorem S196_85 : WP d 196 85 (some (.ref a) :: lv) st h Q ↔ WP d 196 86 (some (.ref a) :: lv) (.ref a :: st) h Q := WP_st rfl
theorem S196_86 : WP d 196 86 (a0 :: some (.int x) :: lv) st h Q ↔ WP d 196 87 (a0 :: some (.int x) :: lv) (.int x :: st) h Q := WP_st rfl
theorem S196_87 {pr0 : Nat} {pi0 : Int32} (hs : shp pr0 = some (0, 8)) : WP (d + 1) 196 87 lv [.int pi0, .ref pr0] h Q ↔ WP d 140 0 [some (.ref pr0), some (.int pi0), none, none] [] h (kR (d + 1) 196 90 lv [] Q) := WP_callVR rfl rfl rfl rfl rfl hs
theorem S196_90 : WP d 196 90 lv [.int x] h Q ↔ Q (some (some (.int x))) h := WP_end rfl rfl rfl
theorem S196_91 : WP d 196 91 (some (.ref a) :: lv) st h Q ↔ WP d 196 92 (some (.ref a) :: lv) (.ref a :: st) h Q := WP_st rfl
theorem S196_92 : WP d 196 92 (a0 :: some (.int x) :: lv) st h Q ↔ WP d 196 93 (a0 :: some (.int x) :: lv) (.int x :: st) h Q := WP_st rfl
theorem S196_93 {pr0 : Nat} {pi0 : Int32} (hs : shp pr0 = some (0, 8)) : WP (d + 1) 196 93 lv [.int pi0, .ref pr0] h Q ↔ WP d 141 0 [some (.ref pr0), some (.int pi0)] [] h (kR (d + 1) 196 96 lv [] Q) := WP_callVR rfl rfl rfl rfl rfl hs
theorem S196_96 : WP d 196 96 lv (.int x :: st) h Q ↔ if x = 0 then WP d 196 103 lv st h Q else WP d 196 99 lv st h Q := WP_br rfl
theorem S196_99 : WP d 196 99 lv st h Q ↔ WP d 196 100 lv (.int 1 :: st) h Q := WP_st rfl
theorem S196_100 : WP d 196 100 lv st h Q ↔ WP d 196 104 lv st h Q := WP_st rfl
theorem S196_103 : WP d 196 103 lv st h Q ↔ WP d 196 104 lv (.int 0 :: st) h Q := WP_st rfl
theorem S196_104 : WP d 196 104 lv [.int x] h Q ↔ Q (some (some (.int x))) h := WP_end rfl rfl rfl
theorem S196_105 : WP d 196 105 lv st h Q ↔ WP d 196 106 lv (.int 0 :: st) h Q := WP_st rfl
theorem S196_106 : WP d 196 106 (a0 :: a1 :: a2v :: a3 :: lv) (.int x :: st) h Q ↔ WP d 196 107 (a0 :: a1 :: kl a2v :: some (.int x) :: lv) st h Q := WP_st (by rfl)
theorem S196_107 : WP d 196 107 lv st h Q ↔ WP d 196 108 lv (.int 0 :: st) h Q := WP_st rfl
theorem S196_108 : WP d 196 108 (a0 :: a1 :: a2v :: a3 :: a4 :: lv) (.int x :: st) h Q ↔ WP d 196 110 (a0 :: a1 :: a2v :: kl a3 :: some (.int x) :: lv) st h Q := WP_st (by rfl)
theorem S196_110 : WP d 196 110 (a0 :: a1 :: a2v :: a3 :: some (.int x) :: lv) st h Q ↔ WP d 196 112 (a0 :: a1 :: a2v :: a3 :: some (.int x) :: lv) (.int x :: st) h Q := WP_st rfl
theorem S196_112 : WP d 196 112 (some (.ref a) :: lv) st h Q ↔ WP d 196 113 (some (.ref a) :: lv) (.ref a :: st) h Q := WP_st rfl
theorem S196_113 {pr0 : Nat} {qi0 : Int32} (hs : shp pr0 = some (0, 8)) : WP (d + 1) 196 113 lv [.ref pr0, .int qi0] h Q ↔ WP d 129 0 [some (.ref pr0)] [] h (kR (d + 1) 196 116 lv [.int qi0] Q) := WP_callVR rfl rfl rfl rfl rfl hs
theorem S196_116 : WP d 196 116 lv (.int y :: .int x :: st) h Q ↔ if y ≤ x then WP d 196 157 lv st h Q else WP d 196 119 lv st h Q := WP_br rfl
theorem S196_119 : WP d 196 119 (some (.ref a) :: lv) st h Q ↔ WP d 196 120 (some (.ref a) :: lv) (.ref a :: st) h Q := WP_st rfl
theorem S196_120 : WP d 196 120 (a0 :: a1 :: a2v :: a3 :: some (.int x) :: lv) st h Q ↔ WP d 196 122 (a0 :: a1 :: a2v :: a3 :: some (.int x) :: lv) (.int x :: st) h Q := WP_st rfl
theorem S196_122 {pr0 : Nat} {pi0 : Int32} (hs : shp pr0 = some (0, 8)) : WP (d + 1) 196 122 lv [.int pi0, .ref pr0] h Q ↔ WP d 133 0 [some (.ref pr0), some (.int pi0)] [] h (kR (d + 1) 196 125 lv [] Q) := WP_callVR rfl rfl rfl rfl rfl hs
theorem S196_125 : WP d 196 125 lv (.int x :: st) h Q ↔ if x = 0 then WP d 196 151 lv st h Q else WP d 196 128 lv st h Q := WP_br rfl
theorem S196_128 : WP d 196 128 (some (.ref a) :: lv) st h Q ↔ WP d 196 129 (some (.ref a) :: lv) (.ref a :: st) h Q := WP_st rfl
theorem S196_129 : WP d 196 129 (a0 :: a1 :: a2v :: a3 :: some (.int x) :: lv) st h Q ↔ WP d 196 131 (a0 :: a1 :: a2v :: a3 :: some (.int x) :: lv) (.int x :: st) h Q := WP_st rfl
theorem S196_131 {pr0 : Nat} {pi0 : Int32} (hs : shp pr0 = some (0, 8)) : WP (d + 1) 196 131 lv [.int pi0, .ref pr0] h Q ↔ WP d 134 0 [some (.ref pr0), some (.int pi0)] [] h (kR (d + 1) 196 134 lv [] Q) := WP_callVR rfl rfl rfl rfl rfl hs
theorem S196_134 : WP d 196 134 (a0 :: some (.int x) :: lv) st h Q ↔ WP d 196 135 (a0 :: some (.int x) :: lv) (.int x :: st) h Q := WP_st rfl
theorem S196_135 : WP d 196 135 lv (.int y :: .int x :: st) h Q ↔ if x = y then WP d 196 148 lv st h Q else WP d 196 138 lv st h Q := WP_br rfl
theorem S196_138 : WP d 196 138 (some (.ref a) :: lv) st h Q ↔ WP d 196 139 (some (.ref a) :: lv) (.ref a :: st) h Q := WP_st rfl
theorem S196_139 : WP d 196 139 (a0 :: a1 :: a2v :: a3 :: some (.int x) :: lv) st h Q ↔ WP d 196 141 (a0 :: a1 :: a2v :: a3 :: some (.int x) :: lv) (.int x :: st) h Q := WP_st rfl
theorem S196_141 {pr0 : Nat} {pi0 : Int32} (hs : shp pr0 = some (0, 8)) : WP (d + 1) 196 141 lv [.int pi0, .ref pr0] h Q ↔ WP d 135 0 [some (.ref pr0), some (.int pi0)] [] h (kR (d + 1) 196 144 lv [] Q) := WP_callVR rfl rfl rfl rfl rfl hs
theorem S196_144 : WP d 196 144 (a0 :: some (.int x) :: lv) st h Q ↔ WP d 196 145 (a0 :: some (.int x) :: lv) (.int x :: st) h Q := WP_st rfl
theorem S196_145 : WP d 196 145 lv (.int y :: .int x :: st) h Q ↔ if x = y then WP d 196 148 lv st h Q else WP d 196 151 lv st h Q := WP_br rfl
theorem S196_148 : WP d 196 148 (a0 :: a1 :: a2v :: some (.int x) :: lv) st h Q ↔ WP d 196 151 (a0 :: a1 :: kl a2v :: some (.int (x + 1)) :: lv) st h Q := WP_st (by rfl)
theorem S196_151 : WP d 196 151 (a0 :: a1 :: a2v :: a3 :: some (.int x) :: lv) st h Q ↔ WP d 196 154 (a0 :: a1 :: a2v :: kl a3 :: some (.int (x + 1)) :: lv) st h Q := WP_st (by rfl)
theorem S196_154 : WP d 196 154 lv st h Q ↔ WP d 196 110 lv st h Q := WP_st rfl
theorem S196_157 : WP d 196 157 (a0 :: a1 :: a2v :: some (.int x) :: lv) st h Q ↔ WP d 196 158 (a0 :: a1 :: a2v :: some (.int x) :: lv) (.int x :: st) h Q := WP_st rfl
theorem S196_158 : WP d 196 158 lv [.int x] h Q ↔ Q (some (some (.int x))) h := WP_end rfl rfl rfl
theorem S196_159 : WP d 196 159 (some (.ref a) :: lv) st h Q ↔ WP d 196 160 (some (.ref a) :: lv) (.ref a :: st) h Q := WP_st rfl
theorem S196_160 {pr0 : Nat} (hs : shp pr0 = some (0, 8)) : WP (d + 1) 196 160 lv [.ref pr0] h Q ↔ WP d 100 0 [some (.ref pr0)] [] h (kR (d + 1) 196 163 lv [] Q) := WP_callVR rfl rfl rfl rfl rfl hs
theorem S196_163 : WP d 196 163 lv [.int x] h Q ↔ Q (some (some (.int x))) h := WP_end rfl rfl rfl
theorem S197_0 : WP d 197 0 (some (.ref a) :: lv) st h Q ↔ WP d 197 1 (some (.ref a) :: lv) (.ref a :: st) h Q := WP_st rfl
theorem S197_1 : WP d 197 1 lv st h Q ↔ WP d 197 2 lv (.int 0 :: st) h Q := WP_st rfl
theorem S197_2 (hs : shp a = some (0, 8)) : WP d 197 2 lv (.int x :: .ref a :: st) h Q ↔ WP d 197 5 lv st (setI h a 0 x) Q := WP_putI (r := 512) rfl hs (by decide)
theorem S197_5 : WP d 197 5 (some (.ref a) :: lv) st h Q ↔ WP d 197 6 (some (.ref a) :: lv) (.ref a :: st) h Q := WP_st rfl
theorem S197_6 : WP d 197 6 (a0 :: some (.int x) :: lv) st h Q ↔ WP d 197 7 (a0 :: some (.int x) :: lv) (.int x :: st) h Q := WP_st rfl
theorem S197_7 {pr0 : Nat} {pi0 : Int32} (hs : shp pr0 = some (0, 8)) : WP (d + 1) 197 7 lv [.int pi0, .ref pr0] h Q ↔ WP d 131 0 [some (.ref pr0), some (.int pi0)] [] h (kR (d + 1) 197 10 lv [] Q) := WP_callVR rfl rfl rfl rfl rfl hs
theorem S197_10 : WP d 197 10 lv (.int x :: st) h Q ↔ if x = 0 then WP d 197 13 lv st h Q else WP d 197 18 lv st h Q := WP_br rfl
theorem S197_13 : WP d 197 13 (some (.ref a) :: lv) st h Q ↔ WP d 197 14 (some (.ref a) :: lv) (.ref a :: st) h Q := WP_st rfl
theorem S197_14 {pr0 : Nat} (hs : shp pr0 = some (0, 8)) : WP (d + 1) 197 14 lv [.ref pr0] h Q ↔ WP d 100 0 [some (.ref pr0)] [] h (kR (d + 1) 197 17 lv [] Q) := WP_callVR rfl rfl rfl rfl rfl hs
theorem S197_17 : WP d 197 17 lv [.int x] h Q ↔ Q (some (some (.int x))) h := WP_end rfl rfl rfl
theorem S197_18 : WP d 197 18 (a0 :: a1 :: some (.int x) :: lv) st h Q ↔ WP d 197 19 (a0 :: a1 :: some (.int x) :: lv) (.int x :: st) h Q := WP_st rfl
theorem S197_19 : WP d 197 19 lv (.int x :: st) h Q ↔ if x = 0 then WP d 197 60 lv st h Q else if x = 1 then WP d 197 66 lv st h Q else if x = 2 then WP d 197 72 lv st h Q else if x = 3 then WP d 197 82 lv st h Q else if x = 4 then WP d 197 92 lv st h Q else if x = 5 then WP d 197 102 lv st h Q else if x = 6 then WP d 197 119 lv st h Q else WP d 197 133 lv st h Q := by
  by_cases e0 : x = 0
  · subst e0
    rw [if_pos rfl]
    exact WP_st rfl
  by_cases e1 : x = 1
  · subst e1
    rw [if_neg (by decide)]
    rw [if_pos rfl]
    exact WP_st rfl
  by_cases e2 : x = 2
  · subst e2
    rw [if_neg (by decide)]
    rw [if_neg (by decide)]
    rw [if_pos rfl]
    exact WP_st rfl
  by_cases e3 : x = 3
  · subst e3
    rw [if_neg (by decide)]
    rw [if_neg (by decide)]
    rw [if_neg (by decide)]
    rw [if_pos rfl]
    exact WP_st rfl
  by_cases e4 : x = 4
  · subst e4
    rw [if_neg (by decide)]
    rw [if_neg (by decide)]
    rw [if_neg (by decide)]
    rw [if_neg (by decide)]
    rw [if_pos rfl]
    exact WP_st rfl
  by_cases e5 : x = 5
  · subst e5
    rw [if_neg (by decide)]
    rw [if_neg (by decide)]
    rw [if_neg (by decide)]
    rw [if_neg (by decide)]
    rw [if_neg (by decide)]
    rw [if_pos rfl]
    exact WP_st rfl
  by_cases e6 : x = 6
  · subst e6
    rw [if_neg (by decide)]
    rw [if_neg (by decide)]
    rw [if_neg (by decide)]
    rw [if_neg (by decide)]
    rw [if_neg (by decide)]
    rw [if_neg (by decide)]
    rw [if_pos rfl]
    exact WP_st rfl
  rw [if_neg e0, if_neg e1, if_neg e2, if_neg e3, if_neg e4, if_neg e5, if_neg e6]
  have z0 : x.toInt ≠ 0 := fun q => e0 (Int32.toInt_inj.mp (q.trans (by decide)))
  have z1 : x.toInt ≠ 1 := fun q => e1 (Int32.toInt_inj.mp (q.trans (by decide)))
  have z2 : x.toInt ≠ 2 := fun q => e2 (Int32.toInt_inj.mp (q.trans (by decide)))
  have z3 : x.toInt ≠ 3 := fun q => e3 (Int32.toInt_inj.mp (q.trans (by decide)))
  have z4 : x.toInt ≠ 4 := fun q => e4 (Int32.toInt_inj.mp (q.trans (by decide)))
  have z5 : x.toInt ≠ 5 := fun q => e5 (Int32.toInt_inj.mp (q.trans (by decide)))
  have z6 : x.toInt ≠ 6 := fun q => e6 (Int32.toInt_inj.mp (q.trans (by decide)))
  exact WP_swD rfl (by omega) rfl
theorem S197_60 : WP d 197 60 (some (.ref a) :: lv) st h Q ↔ WP d 197 61 (some (.ref a) :: lv) (.ref a :: st) h Q := WP_st rfl
theorem S197_61 : WP d 197 61 (a0 :: some (.int x) :: lv) st h Q ↔ WP d 197 62 (a0 :: some (.int x) :: lv) (.int x :: st) h Q := WP_st rfl
theorem S197_62 {pr0 : Nat} {pi0 : Int32} (hs : shp pr0 = some (0, 8)) : WP (d + 1) 197 62 lv [.int pi0, .ref pr0] h Q ↔ WP d 134 0 [some (.ref pr0), some (.int pi0)] [] h (kR (d + 1) 197 65 lv [] Q) := WP_callVR rfl rfl rfl rfl rfl hs
theorem S197_65 : WP d 197 65 lv [.int x] h Q ↔ Q (some (some (.int x))) h := WP_end rfl rfl rfl
theorem S197_66 : WP d 197 66 (some (.ref a) :: lv) st h Q ↔ WP d 197 67 (some (.ref a) :: lv) (.ref a :: st) h Q := WP_st rfl
theorem S197_67 : WP d 197 67 (a0 :: some (.int x) :: lv) st h Q ↔ WP d 197 68 (a0 :: some (.int x) :: lv) (.int x :: st) h Q := WP_st rfl
theorem S197_68 {pr0 : Nat} {pi0 : Int32} (hs : shp pr0 = some (0, 8)) : WP (d + 1) 197 68 lv [.int pi0, .ref pr0] h Q ↔ WP d 135 0 [some (.ref pr0), some (.int pi0)] [] h (kR (d + 1) 197 71 lv [] Q) := WP_callVR rfl rfl rfl rfl rfl hs
theorem S197_71 : WP d 197 71 lv [.int x] h Q ↔ Q (some (some (.int x))) h := WP_end rfl rfl rfl
theorem S197_72 : WP d 197 72 (some (.ref a) :: lv) st h Q ↔ WP d 197 73 (some (.ref a) :: lv) (.ref a :: st) h Q := WP_st rfl
theorem S197_73 (hs : shp a = some (0, 8)) : WP d 197 73 lv (.ref a :: st) h Q ↔ WP d 197 76 lv (.ref (RV a 13) :: st) h Q := WP_getR (r := 525) rfl hs (by decide)
theorem S197_76 : WP d 197 76 lv st h Q ↔ WP d 197 78 lv (.int 36 :: st) h Q := WP_st rfl
theorem S197_78 : WP d 197 78 (a0 :: some (.int x) :: lv) st h Q ↔ WP d 197 79 (a0 :: some (.int x) :: lv) (.int x :: st) h Q := WP_st rfl
theorem S197_79 : WP d 197 79 lv (.int y :: .int x :: st) h Q ↔ WP d 197 80 lv (.int (x + y) :: st) h Q := WP_st rfl
theorem S197_80 (hi : okA 1 a i) : WP d 197 80 lv (.int i :: .ref a :: st) h Q ↔ WP d 197 81 lv (.int (h.1 a i.toNatClampNeg) :: st) h Q := WP_iald rfl hi
theorem S197_81 : WP d 197 81 lv [.int x] h Q ↔ Q (some (some (.int x))) h := WP_end rfl rfl rfl
theorem S197_82 : WP d 197 82 (some (.ref a) :: lv) st h Q ↔ WP d 197 83 (some (.ref a) :: lv) (.ref a :: st) h Q := WP_st rfl
theorem S197_83 (hs : shp a = some (0, 8)) : WP d 197 83 lv (.ref a :: st) h Q ↔ WP d 197 86 lv (.ref (RV a 13) :: st) h Q := WP_getR (r := 525) rfl hs (by decide)
theorem S197_86 : WP d 197 86 lv st h Q ↔ WP d 197 88 lv (.int 47 :: st) h Q := WP_st rfl
theorem S197_88 : WP d 197 88 (a0 :: some (.int x) :: lv) st h Q ↔ WP d 197 89 (a0 :: some (.int x) :: lv) (.int x :: st) h Q := WP_st rfl
theorem S197_89 : WP d 197 89 lv (.int y :: .int x :: st) h Q ↔ WP d 197 90 lv (.int (x + y) :: st) h Q := WP_st rfl
theorem S197_90 (hi : okA 1 a i) : WP d 197 90 lv (.int i :: .ref a :: st) h Q ↔ WP d 197 91 lv (.int (h.1 a i.toNatClampNeg) :: st) h Q := WP_iald rfl hi
theorem S197_91 : WP d 197 91 lv [.int x] h Q ↔ Q (some (some (.int x))) h := WP_end rfl rfl rfl
theorem S197_92 : WP d 197 92 (some (.ref a) :: lv) st h Q ↔ WP d 197 93 (some (.ref a) :: lv) (.ref a :: st) h Q := WP_st rfl
theorem S197_93 (hs : shp a = some (0, 8)) : WP d 197 93 lv (.ref a :: st) h Q ↔ WP d 197 96 lv (.ref (RV a 13) :: st) h Q := WP_getR (r := 525) rfl hs (by decide)
theorem S197_96 : WP d 197 96 lv st h Q ↔ WP d 197 98 lv (.int 58 :: st) h Q := WP_st rfl
theorem S197_98 : WP d 197 98 (a0 :: some (.int x) :: lv) st h Q ↔ WP d 197 99 (a0 :: some (.int x) :: lv) (.int x :: st) h Q := WP_st rfl
theorem S197_99 : WP d 197 99 lv (.int y :: .int x :: st) h Q ↔ WP d 197 100 lv (.int (x + y) :: st) h Q := WP_st rfl
theorem S197_100 (hi : okA 1 a i) : WP d 197 100 lv (.int i :: .ref a :: st) h Q ↔ WP d 197 101 lv (.int (h.1 a i.toNatClampNeg) :: st) h Q := WP_iald rfl hi
theorem S197_101 : WP d 197 101 lv [.int x] h Q ↔ Q (some (some (.int x))) h := WP_end rfl rfl rfl
theorem S197_102 : WP d 197 102 (some (.ref a) :: lv) st h Q ↔ WP d 197 103 (some (.ref a) :: lv) (.ref a :: st) h Q := WP_st rfl
theorem S197_103 {pr0 : Nat} (hs : shp pr0 = some (0, 8)) : WP (d + 1) 197 103 lv [.ref pr0] h Q ↔ WP d 142 0 [some (.ref pr0), none, none] [] h (kR (d + 1) 197 106 lv [] Q) := WP_callVR rfl rfl rfl rfl rfl hs
theorem S197_106 : WP d 197 106 (a0 :: some (.int x) :: lv) st h Q ↔ WP d 197 107 (a0 :: some (.int x) :: lv) (.int x :: st) h Q := WP_st rfl
theorem S197_107 {pi0 : Int32} {pi1 : Int32} : WP (d + 1) 197 107 lv [.int pi1, .int pi0] h Q ↔ WP d 102 0 [some (.int pi0), some (.int pi1)] [] h (kR (d + 1) 197 110 lv [] Q) := WP_callSR rfl rfl rfl rfl rfl
theorem S197_110 : WP d 197 110 lv (.int x :: st) h Q ↔ if x = 0 then WP d 197 117 lv st h Q else WP d 197 113 lv st h Q := WP_br rfl
theorem S197_113 : WP d 197 113 lv st h Q ↔ WP d 197 114 lv (.int 1 :: st) h Q := WP_st rfl
theorem S197_114 : WP d 197 114 lv st h Q ↔ WP d 197 118 lv st h Q := WP_st rfl
theorem S197_117 : WP d 197 117 lv st h Q ↔ WP d 197 118 lv (.int 0 :: st) h Q := WP_st rfl
theorem S197_118 : WP d 197 118 lv [.int x] h Q ↔ Q (some (some (.int x))) h := WP_end rfl rfl rfl
theorem S197_119 : WP d 197 119 (some (.ref a) :: lv) st h Q ↔ WP d 197 120 (some (.ref a) :: lv) (.ref a :: st) h Q := WP_st rfl
theorem S197_120 : WP d 197 120 (a0 :: some (.int x) :: lv) st h Q ↔ WP d 197 121 (a0 :: some (.int x) :: lv) (.int x :: st) h Q := WP_st rfl
theorem S197_121 {pr0 : Nat} {pi0 : Int32} (hs : shp pr0 = some (0, 8)) : WP (d + 1) 197 121 lv [.int pi0, .ref pr0] h Q ↔ WP d 143 0 [some (.ref pr0), some (.int pi0)] [] h (kR (d + 1) 197 124 lv [] Q) := WP_callVR rfl rfl rfl rfl rfl hs
theorem S197_124 : WP d 197 124 lv (.int x :: st) h Q ↔ if x = 0 then WP d 197 131 lv st h Q else WP d 197 127 lv st h Q := WP_br rfl
theorem S197_127 : WP d 197 127 lv st h Q ↔ WP d 197 128 lv (.int 1 :: st) h Q := WP_st rfl
theorem S197_128 : WP d 197 128 lv st h Q ↔ WP d 197 132 lv st h Q := WP_st rfl
theorem S197_131 : WP d 197 131 lv st h Q ↔ WP d 197 132 lv (.int 0 :: st) h Q := WP_st rfl
theorem S197_132 : WP d 197 132 lv [.int x] h Q ↔ Q (some (some (.int x))) h := WP_end rfl rfl rfl
theorem S197_133 : WP d 197 133 (some (.ref a) :: lv) st h Q ↔ WP d 197 134 (some (.ref a) :: lv) (.ref a :: st) h Q := WP_st rfl
theorem S197_134 {pr0 : Nat} (hs : shp pr0 = some (0, 8)) : WP (d + 1) 197 134 lv [.ref pr0] h Q ↔ WP d 100 0 [some (.ref pr0)] [] h (kR (d + 1) 197 137 lv [] Q) := WP_callVR rfl rfl rfl rfl rfl hs
theorem S197_137 : WP d 197 137 lv [.int x] h Q ↔ Q (some (some (.int x))) h := WP_end rfl rfl rfl
theorem S198_0 : WP d 198 0 (some (.ref a) :: lv) st h Q ↔ WP d 198 1 (some (.ref a) :: lv) (.ref a :: st) h Q := WP_st rfl
theorem S198_1 : WP d 198 1 lv st h Q ↔ WP d 198 2 lv (.int 0 :: st) h Q := WP_st rfl
theorem S198_2 (hs : shp a = some (0, 8)) : WP d 198 2 lv (.int x :: .ref a :: st) h Q ↔ WP d 198 5 lv st (setI h a 0 x) Q := WP_putI (r := 512) rfl hs (by decide)
theorem S198_5 : WP d 198 5 (a0 :: some (.int x) :: lv) st h Q ↔ WP d 198 6 (a0 :: some (.int x) :: lv) (.int x :: st) h Q := WP_st rfl
theorem S198_6 : WP d 198 6 lv (.int x :: st) h Q ↔ if x = 0 then WP d 198 52 lv st h Q else if x = 1 then WP d 198 57 lv st h Q else if x = 2 then WP d 198 62 lv st h Q else if x = 3 then WP d 198 70 lv st h Q else if x = 4 then WP d 198 102 lv st h Q else if x = 5 then WP d 198 136 lv st h Q else if x = 6 then WP d 198 141 lv st h Q else if x = 7 then WP d 198 146 lv st h Q else WP d 198 151 lv st h Q := by
  by_cases e0 : x = 0
  · subst e0
    rw [if_pos rfl]
    exact WP_st rfl
  by_cases e1 : x = 1
  · subst e1
    rw [if_neg (by decide)]
    rw [if_pos rfl]
    exact WP_st rfl
  by_cases e2 : x = 2
  · subst e2
    rw [if_neg (by decide)]
    rw [if_neg (by decide)]
    rw [if_pos rfl]
    exact WP_st rfl
  by_cases e3 : x = 3
  · subst e3
    rw [if_neg (by decide)]
    rw [if_neg (by decide)]
    rw [if_neg (by decide)]
    rw [if_pos rfl]
    exact WP_st rfl
  by_cases e4 : x = 4
  · subst e4
    rw [if_neg (by decide)]
    rw [if_neg (by decide)]
    rw [if_neg (by decide)]
    rw [if_neg (by decide)]
    rw [if_pos rfl]
    exact WP_st rfl
  by_cases e5 : x = 5
  · subst e5
    rw [if_neg (by decide)]
    rw [if_neg (by decide)]
    rw [if_neg (by decide)]
    rw [if_neg (by decide)]
    rw [if_neg (by decide)]
    rw [if_pos rfl]
    exact WP_st rfl
  by_cases e6 : x = 6
  · subst e6
    rw [if_neg (by decide)]
    rw [if_neg (by decide)]
    rw [if_neg (by decide)]
    rw [if_neg (by decide)]
    rw [if_neg (by decide)]
    rw [if_neg (by decide)]
    rw [if_pos rfl]
    exact WP_st rfl
  by_cases e7 : x = 7
  · subst e7
    rw [if_neg (by decide)]
    rw [if_neg (by decide)]
    rw [if_neg (by decide)]
    rw [if_neg (by decide)]
    rw [if_neg (by decide)]
    rw [if_neg (by decide)]
    rw [if_neg (by decide)]
    rw [if_pos rfl]
    exact WP_st rfl
  rw [if_neg e0, if_neg e1, if_neg e2, if_neg e3, if_neg e4, if_neg e5, if_neg e6, if_neg e7]
  have z0 : x.toInt ≠ 0 := fun q => e0 (Int32.toInt_inj.mp (q.trans (by decide)))
  have z1 : x.toInt ≠ 1 := fun q => e1 (Int32.toInt_inj.mp (q.trans (by decide)))
  have z2 : x.toInt ≠ 2 := fun q => e2 (Int32.toInt_inj.mp (q.trans (by decide)))
  have z3 : x.toInt ≠ 3 := fun q => e3 (Int32.toInt_inj.mp (q.trans (by decide)))
  have z4 : x.toInt ≠ 4 := fun q => e4 (Int32.toInt_inj.mp (q.trans (by decide)))
  have z5 : x.toInt ≠ 5 := fun q => e5 (Int32.toInt_inj.mp (q.trans (by decide)))
  have z6 : x.toInt ≠ 6 := fun q => e6 (Int32.toInt_inj.mp (q.trans (by decide)))
  have z7 : x.toInt ≠ 7 := fun q => e7 (Int32.toInt_inj.mp (q.trans (by decide)))
  exact WP_swD rfl (by omega) rfl
theorem S198_52 : WP d 198 52 (some (.ref a) :: lv) st h Q ↔ WP d 198 53 (some (.ref a) :: lv) (.ref a :: st) h Q := WP_st rfl
theorem S198_53 {pr0 : Nat} (hs : shp pr0 = some (0, 8)) : WP (d + 1) 198 53 lv [.ref pr0] h Q ↔ WP d 128 0 [some (.ref pr0)] [] h (kR (d + 1) 198 56 lv [] Q) := WP_callVR rfl rfl rfl rfl rfl hs
theorem S198_56 : WP d 198 56 lv [.int x] h Q ↔ Q (some (some (.int x))) h := WP_end rfl rfl rfl
theorem S198_57 : WP d 198 57 (some (.ref a) :: lv) st h Q ↔ WP d 198 58 (some (.ref a) :: lv) (.ref a :: st) h Q := WP_st rfl
theorem S198_58 {pr0 : Nat} (hs : shp pr0 = some (0, 8)) : WP (d + 1) 198 58 lv [.ref pr0] h Q ↔ WP d 129 0 [some (.ref pr0)] [] h (kR (d + 1) 198 61 lv [] Q) := WP_callVR rfl rfl rfl rfl rfl hs
theorem S198_61 : WP d 198 61 lv [.int x] h Q ↔ Q (some (some (.int x))) h := WP_end rfl rfl rfl
theorem S198_62 : WP d 198 62 (some (.ref a) :: lv) st h Q ↔ WP d 198 63 (some (.ref a) :: lv) (.ref a :: st) h Q := WP_st rfl
theorem S198_63 {pr0 : Nat} (hs : shp pr0 = some (0, 8)) : WP (d + 1) 198 63 lv [.ref pr0] h Q ↔ WP d 136 0 [some (.ref pr0), none, none] [] h (kR (d + 1) 198 66 lv [] Q) := WP_callVR rfl rfl rfl rfl rfl hs
theorem S198_66 {pi0 : Int32} : WP (d + 1) 198 66 lv [.int pi0] h Q ↔ WP d 103 0 [some (.int pi0), none, none] [] h (kR (d + 1) 198 69 lv [] Q) := WP_callSR rfl rfl rfl rfl rfl
theorem S198_69 : WP d 198 69 lv [.int x] h Q ↔ Q (some (some (.int x))) h := WP_end rfl rfl rfl
theorem S198_70 : WP d 198 70 lv st h Q ↔ WP d 198 71 lv (.int 0 :: st) h Q := WP_st rfl
theorem S198_71 : WP d 198 71 (a0 :: a1 :: a2v :: lv) (.int x :: st) h Q ↔ WP d 198 72 (a0 :: kl a1 :: some (.int x) :: lv) st h Q := WP_st (by rfl)
theorem S198_72 : WP d 198 72 lv st h Q ↔ WP d 198 73 lv (.int 0 :: st) h Q := WP_st rfl
theorem S198_73 : WP d 198 73 (a0 :: a1 :: a2v :: a3 :: lv) (.int x :: st) h Q ↔ WP d 198 74 (a0 :: a1 :: kl a2v :: some (.int x) :: lv) st h Q := WP_st (by rfl)
theorem S198_74 : WP d 198 74 (a0 :: a1 :: a2v :: some (.int x) :: lv) st h Q ↔ WP d 198 75 (a0 :: a1 :: a2v :: some (.int x) :: lv) (.int x :: st) h Q := WP_st rfl
theorem S198_75 : WP d 198 75 (some (.ref a) :: lv) st h Q ↔ WP d 198 76 (some (.ref a) :: lv) (.ref a :: st) h Q := WP_st rfl
theorem S198_76 {pr0 : Nat} {qi0 : Int32} (hs : shp pr0 = some (0, 8)) : WP (d + 1) 198 76 lv [.ref pr0, .int qi0] h Q ↔ WP d 128 0 [some (.ref pr0)] [] h (kR (d + 1) 198 79 lv [.int qi0] Q) := WP_callVR rfl rfl rfl rfl rfl hs
theorem S198_79 : WP d 198 79 lv (.int y :: .int x :: st) h Q ↔ if y ≤ x then WP d 198 100 lv st h Q else WP d 198 82 lv st h Q := WP_br rfl
theorem S198_82 : WP d 198 82 (some (.ref a) :: lv) st h Q ↔ WP d 198 83 (some (.ref a) :: lv) (.ref a :: st) h Q := WP_st rfl
theorem S198_83 : WP d 198 83 (a0 :: a1 :: a2v :: some (.int x) :: lv) st h Q ↔ WP d 198 84 (a0 :: a1 :: a2v :: some (.int x) :: lv) (.int x :: st) h Q := WP_st rfl
theorem S198_84 {pr0 : Nat} {pi0 : Int32} (hs : shp pr0 = some (0, 8)) : WP (d + 1) 198 84 lv [.int pi0, .ref pr0] h Q ↔ WP d 140 0 [some (.ref pr0), some (.int pi0), none, none] [] h (kR (d + 1) 198 87 lv [] Q) := WP_callVR rfl rfl rfl rfl rfl hs
theorem S198_87 : WP d 198 87 (a0 :: a1 :: a2v :: some (.int x) :: lv) st h Q ↔ WP d 198 88 (a0 :: a1 :: a2v :: some (.int x) :: lv) (.int x :: st) h Q := WP_st rfl
theorem S198_88 : WP d 198 88 lv (.int y :: .int x :: st) h Q ↔ if x = y then WP d 198 91 lv st h Q else WP d 198 94 lv st h Q := WP_br rfl
theorem S198_91 : WP d 198 91 (a0 :: a1 :: some (.int x) :: lv) st h Q ↔ WP d 198 94 (a0 :: kl a1 :: some (.int (x + 1)) :: lv) st h Q := WP_st (by rfl)
theorem S198_94 : WP d 198 94 (a0 :: a1 :: a2v :: some (.int x) :: lv) st h Q ↔ WP d 198 97 (a0 :: a1 :: kl a2v :: some (.int (x + 1)) :: lv) st h Q := WP_st (by rfl)
theorem S198_97 : WP d 198 97 lv st h Q ↔ WP d 198 74 lv st h Q := WP_st rfl
theorem S198_100 : WP d 198 100 (a0 :: a1 :: some (.int x) :: lv) st h Q ↔ WP d 198 101 (a0 :: a1 :: some (.int x) :: lv) (.int x :: st) h Q := WP_st rfl
theorem S198_101 : WP d 198 101 lv [.int x] h Q ↔ Q (some (some (.int x))) h := WP_end rfl rfl rfl
theorem S198_102 : WP d 198 102 lv st h Q ↔ WP d 198 103 lv (.int 0 :: st) h Q := WP_st rfl
theorem S198_103 : WP d 198 103 (a0 :: a1 :: a2v :: lv) (.int x :: st) h Q ↔ WP d 198 104 (a0 :: kl a1 :: some (.int x) :: lv) st h Q := WP_st (by rfl)
theorem S198_104 : WP d 198 104 lv st h Q ↔ WP d 198 105 lv (.int 0 :: st) h Q := WP_st rfl
theorem S198_105 : WP d 198 105 (a0 :: a1 :: a2v :: a3 :: lv) (.int x :: st) h Q ↔ WP d 198 106 (a0 :: a1 :: kl a2v :: some (.int x) :: lv) st h Q := WP_st (by rfl)
theorem S198_106 : WP d 198 106 (a0 :: a1 :: a2v :: some (.int x) :: lv) st h Q ↔ WP d 198 107 (a0 :: a1 :: a2v :: some (.int x) :: lv) (.int x :: st) h Q := WP_st rfl
theorem S198_107 : WP d 198 107 (some (.ref a) :: lv) st h Q ↔ WP d 198 108 (some (.ref a) :: lv) (.ref a :: st) h Q := WP_st rfl
theorem S198_108 {pr0 : Nat} {qi0 : Int32} (hs : shp pr0 = some (0, 8)) : WP (d + 1) 198 108 lv [.ref pr0, .int qi0] h Q ↔ WP d 129 0 [some (.ref pr0)] [] h (kR (d + 1) 198 111 lv [.int qi0] Q) := WP_callVR rfl rfl rfl rfl rfl hs
theorem S198_111 : WP d 198 111 lv (.int y :: .int x :: st) h Q ↔ if y ≤ x then WP d 198 134 lv st h Q else WP d 198 114 lv st h Q := WP_br rfl
theorem S198_114 : WP d 198 114 (some (.ref a) :: lv) st h Q ↔ WP d 198 115 (some (.ref a) :: lv) (.ref a :: st) h Q := WP_st rfl
theorem S198_115 : WP d 198 115 (a0 :: a1 :: a2v :: some (.int x) :: lv) st h Q ↔ WP d 198 116 (a0 :: a1 :: a2v :: some (.int x) :: lv) (.int x :: st) h Q := WP_st rfl
theorem S198_116 {pr0 : Nat} {pi0 : Int32} (hs : shp pr0 = some (0, 8)) : WP (d + 1) 198 116 lv [.int pi0, .ref pr0] h Q ↔ WP d 143 0 [some (.ref pr0), some (.int pi0)] [] h (kR (d + 1) 198 119 lv [] Q) := WP_callVR rfl rfl rfl rfl rfl hs
theorem S198_119 : WP d 198 119 lv (.int x :: st) h Q ↔ if x = 0 then WP d 198 128 lv st h Q else WP d 198 122 lv st h Q := WP_br rfl
theorem S198_122 : WP d 198 122 (a0 :: a1 :: some (.int x) :: lv) st h Q ↔ WP d 198 123 (a0 :: a1 :: some (.int x) :: lv) (.int x :: st) h Q := WP_st rfl
theorem S198_123 : WP d 198 123 lv st h Q ↔ WP d 198 124 lv (.int 1 :: st) h Q := WP_st rfl
theorem S198_124 : WP d 198 124 (a0 :: a1 :: a2v :: some (.int x) :: lv) st h Q ↔ WP d 198 125 (a0 :: a1 :: a2v :: some (.int x) :: lv) (.int x :: st) h Q := WP_st rfl
theorem S198_125 : WP d 198 125 lv (.int y :: .int x :: st) h Q ↔ WP d 198 126 lv (.int (x <<< (y &&& 31)) :: st) h Q := WP_st rfl
theorem S198_126 : WP d 198 126 lv (.int y :: .int x :: st) h Q ↔ WP d 198 127 lv (.int (x ||| y) :: st) h Q := WP_st rfl
theorem S198_127 : WP d 198 127 (a0 :: a1 :: a2v :: lv) (.int x :: st) h Q ↔ WP d 198 128 (a0 :: kl a1 :: some (.int x) :: lv) st h Q := WP_st (by rfl)
theorem S198_128 : WP d 198 128 (a0 :: a1 :: a2v :: some (.int x) :: lv) st h Q ↔ WP d 198 131 (a0 :: a1 :: kl a2v :: some (.int (x + 1)) :: lv) st h Q := WP_st (by rfl)
theorem S198_131 : WP d 198 131 lv st h Q ↔ WP d 198 106 lv st h Q := WP_st rfl
theorem S198_134 : WP d 198 134 (a0 :: a1 :: some (.int x) :: lv) st h Q ↔ WP d 198 135 (a0 :: a1 :: some (.int x) :: lv) (.int x :: st) h Q := WP_st rfl
theorem S198_135 : WP d 198 135 lv [.int x] h Q ↔ Q (some (some (.int x))) h := WP_end rfl rfl rfl
theorem S198_136 : WP d 198 136 (some (.ref a) :: lv) st h Q ↔ WP d 198 137 (some (.ref a) :: lv) (.ref a :: st) h Q := WP_st rfl
theorem S198_137 {pr0 : Nat} (hs : shp pr0 = some (0, 8)) : WP (d + 1) 198 137 lv [.ref pr0] h Q ↔ WP d 142 0 [some (.ref pr0), none, none] [] h (kR (d + 1) 198 140 lv [] Q) := WP_callVR rfl rfl rfl rfl rfl hs
theorem S198_140 : WP d 198 140 lv [.int x] h Q ↔ Q (some (some (.int x))) h := WP_end rfl rfl rfl
theorem S198_141 : WP d 198 141 (some (.ref a) :: lv) st h Q ↔ WP d 198 142 (some (.ref a) :: lv) (.ref a :: st) h Q := WP_st rfl
theorem S198_142 (hs : shp a = some (0, 8)) : WP d 198 142 lv (.ref a :: st) h Q ↔ WP d 198 145 lv (.int (h.1 a 21) :: st) h Q := WP_getI (r := 533) rfl hs (by decide)
theorem S198_145 : WP d 198 145 lv [.int x] h Q ↔ Q (some (some (.int x))) h := WP_end rfl rfl rfl
theorem S198_146 : WP d 198 146 (some (.ref a) :: lv) st h Q ↔ WP d 198 147 (some (.ref a) :: lv) (.ref a :: st) h Q := WP_st rfl
theorem S198_147 (hs : shp a = some (0, 8)) : WP d 198 147 lv (.ref a :: st) h Q ↔ WP d 198 150 lv (.int (h.1 a 2) :: st) h Q := WP_getI (r := 514) rfl hs (by decide)
theorem S198_150 : WP d 198 150 lv [.int x] h Q ↔ Q (some (some (.int x))) h := WP_end rfl rfl rfl
theorem S198_151 : WP d 198 151 lv st h Q ↔ WP d 198 152 lv (.int (-1) :: st) h Q := WP_st rfl
theorem S198_152 : WP d 198 152 lv [.int x] h Q ↔ Q (some (some (.int x))) h := WP_end rfl rfl rfl
theorem S199_0 : WP d 199 0 (some (.int x) :: lv) st h Q ↔ WP d 199 1 (some (.int x) :: lv) (.int x :: st) h Q := WP_st rfl
theorem S199_1 : WP d 199 1 (some (.int x) :: lv) st h Q ↔ WP d 199 2 (some (.int x) :: lv) (.int x :: st) h Q := WP_st rfl
theorem S199_2 : WP d 199 2 lv st h Q ↔ WP d 199 3 lv (.int 1 :: st) h Q := WP_st rfl
theorem S199_3 : WP d 199 3 lv (.int y :: .int x :: st) h Q ↔ WP d 199 4 lv (.int ((x.toUInt32 >>> (y.toUInt32 &&& Int32.toUInt32 31)).toInt32) :: st) h Q := WP_st rfl
theorem S199_4 : WP d 199 4 lv st h Q ↔ WP d 199 7 lv (.int 1431655765 :: st) h Q := WP_st rfl
theorem S199_7 : WP d 199 7 lv (.int y :: .int x :: st) h Q ↔ WP d 199 8 lv (.int (x &&& y) :: st) h Q := WP_st rfl
theorem S199_8 : WP d 199 8 lv (.int y :: .int x :: st) h Q ↔ WP d 199 9 lv (.int (x - y) :: st) h Q := WP_st rfl
theorem S199_9 : WP d 199 9 (a0 :: lv) (.int x :: st) h Q ↔ WP d 199 10 (some (.int x) :: lv) st h Q := WP_st (by rfl)
theorem S199_10 : WP d 199 10 (some (.int x) :: lv) st h Q ↔ WP d 199 11 (some (.int x) :: lv) (.int x :: st) h Q := WP_st rfl
theorem S199_11 : WP d 199 11 lv st h Q ↔ WP d 199 14 lv (.int 858993459 :: st) h Q := WP_st rfl
theorem S199_14 : WP d 199 14 lv (.int y :: .int x :: st) h Q ↔ WP d 199 15 lv (.int (x &&& y) :: st) h Q := WP_st rfl
theorem S199_15 : WP d 199 15 (some (.int x) :: lv) st h Q ↔ WP d 199 16 (some (.int x) :: lv) (.int x :: st) h Q := WP_st rfl
theorem S199_16 : WP d 199 16 lv st h Q ↔ WP d 199 17 lv (.int 2 :: st) h Q := WP_st rfl
theorem S199_17 : WP d 199 17 lv (.int y :: .int x :: st) h Q ↔ WP d 199 18 lv (.int ((x.toUInt32 >>> (y.toUInt32 &&& Int32.toUInt32 31)).toInt32) :: st) h Q := WP_st rfl
theorem S199_18 : WP d 199 18 lv st h Q ↔ WP d 199 21 lv (.int 858993459 :: st) h Q := WP_st rfl
theorem S199_21 : WP d 199 21 lv (.int y :: .int x :: st) h Q ↔ WP d 199 22 lv (.int (x &&& y) :: st) h Q := WP_st rfl
theorem S199_22 : WP d 199 22 lv (.int y :: .int x :: st) h Q ↔ WP d 199 23 lv (.int (x + y) :: st) h Q := WP_st rfl
theorem S199_23 : WP d 199 23 (a0 :: lv) (.int x :: st) h Q ↔ WP d 199 24 (some (.int x) :: lv) st h Q := WP_st (by rfl)
theorem S199_24 : WP d 199 24 (some (.int x) :: lv) st h Q ↔ WP d 199 25 (some (.int x) :: lv) (.int x :: st) h Q := WP_st rfl
theorem S199_25 : WP d 199 25 (some (.int x) :: lv) st h Q ↔ WP d 199 26 (some (.int x) :: lv) (.int x :: st) h Q := WP_st rfl
theorem S199_26 : WP d 199 26 lv st h Q ↔ WP d 199 27 lv (.int 4 :: st) h Q := WP_st rfl
theorem S199_27 : WP d 199 27 lv (.int y :: .int x :: st) h Q ↔ WP d 199 28 lv (.int ((x.toUInt32 >>> (y.toUInt32 &&& Int32.toUInt32 31)).toInt32) :: st) h Q := WP_st rfl
theorem S199_28 : WP d 199 28 lv (.int y :: .int x :: st) h Q ↔ WP d 199 29 lv (.int (x + y) :: st) h Q := WP_st rfl
theorem S199_29 : WP d 199 29 lv st h Q ↔ WP d 199 32 lv (.int 252645135 :: st) h Q := WP_st rfl
theorem S199_32 : WP d 199 32 lv (.int y :: .int x :: st) h Q ↔ WP d 199 33 lv (.int (x &&& y) :: st) h Q := WP_st rfl
theorem S199_33 : WP d 199 33 (a0 :: lv) (.int x :: st) h Q ↔ WP d 199 34 (some (.int x) :: lv) st h Q := WP_st (by rfl)
theorem S199_34 : WP d 199 34 (some (.int x) :: lv) st h Q ↔ WP d 199 35 (some (.int x) :: lv) (.int x :: st) h Q := WP_st rfl
theorem S199_35 : WP d 199 35 (some (.int x) :: lv) st h Q ↔ WP d 199 36 (some (.int x) :: lv) (.int x :: st) h Q := WP_st rfl
theorem S199_36 : WP d 199 36 lv st h Q ↔ WP d 199 38 lv (.int 8 :: st) h Q := WP_st rfl
theorem S199_38 : WP d 199 38 lv (.int y :: .int x :: st) h Q ↔ WP d 199 39 lv (.int ((x.toUInt32 >>> (y.toUInt32 &&& Int32.toUInt32 31)).toInt32) :: st) h Q := WP_st rfl
theorem S199_39 : WP d 199 39 lv (.int y :: .int x :: st) h Q ↔ WP d 199 40 lv (.int (x + y) :: st) h Q := WP_st rfl
theorem S199_40 : WP d 199 40 (a0 :: lv) (.int x :: st) h Q ↔ WP d 199 41 (some (.int x) :: lv) st h Q := WP_st (by rfl)
theorem S199_41 : WP d 199 41 (some (.int x) :: lv) st h Q ↔ WP d 199 42 (some (.int x) :: lv) (.int x :: st) h Q := WP_st rfl
theorem S199_42 : WP d 199 42 (some (.int x) :: lv) st h Q ↔ WP d 199 43 (some (.int x) :: lv) (.int x :: st) h Q := WP_st rfl
theorem S199_43 : WP d 199 43 lv st h Q ↔ WP d 199 45 lv (.int 16 :: st) h Q := WP_st rfl
theorem S199_45 : WP d 199 45 lv (.int y :: .int x :: st) h Q ↔ WP d 199 46 lv (.int ((x.toUInt32 >>> (y.toUInt32 &&& Int32.toUInt32 31)).toInt32) :: st) h Q := WP_st rfl
theorem S199_46 : WP d 199 46 lv (.int y :: .int x :: st) h Q ↔ WP d 199 47 lv (.int (x + y) :: st) h Q := WP_st rfl
theorem S199_47 : WP d 199 47 (a0 :: lv) (.int x :: st) h Q ↔ WP d 199 48 (some (.int x) :: lv) st h Q := WP_st (by rfl)
theorem S199_48 : WP d 199 48 (some (.int x) :: lv) st h Q ↔ WP d 199 49 (some (.int x) :: lv) (.int x :: st) h Q := WP_st rfl
theorem S199_49 : WP d 199 49 lv st h Q ↔ WP d 199 51 lv (.int 63 :: st) h Q := WP_st rfl
theorem S199_51 : WP d 199 51 lv (.int y :: .int x :: st) h Q ↔ WP d 199 52 lv (.int (x &&& y) :: st) h Q := WP_st rfl
theorem S199_52 : WP d 199 52 lv [.int x] h Q ↔ Q (some (some (.int x))) h := WP_end rfl rfl rfl
theorem S200_0 : WP d 200 0 (some (.long u) :: lv) st h Q ↔ WP d 200 1 (some (.long u) :: lv) (.long u :: st) h Q := WP_st rfl
theorem S200_1 : WP d 200 1 (a0 :: a1 :: some (.long u) :: lv) st h Q ↔ WP d 200 2 (a0 :: a1 :: some (.long u) :: lv) (.long u :: st) h Q := WP_st rfl
theorem S200_2 (hy : w ≠ 0) : WP d 200 2 lv (.long w :: .long u :: st) h Q ↔ WP d 200 3 lv (.long (u / w) :: st) h Q := WP_ldiv rfl hy
theorem S200_3 : WP d 200 3 (a0 :: a1 :: a2v :: a3 :: a4 :: a5 :: lv) (.long u :: st) h Q ↔ WP d 200 5 (a0 :: a1 :: a2v :: kl a3 :: some (.long u) :: none :: lv) st h Q := WP_st (by rfl)
theorem S200_5 : WP d 200 5 (some (.long u) :: lv) st h Q ↔ WP d 200 6 (some (.long u) :: lv) (.long u :: st) h Q := WP_st rfl
theorem S200_6 : WP d 200 6 (a0 :: a1 :: some (.long u) :: lv) st h Q ↔ WP d 200 7 (a0 :: a1 :: some (.long u) :: lv) (.long u :: st) h Q := WP_st rfl
theorem S200_7 : WP d 200 7 lv (.long w :: .long u :: st) h Q ↔ WP d 200 8 lv (.long (u ^^^ w) :: st) h Q := WP_st rfl
theorem S200_8 : WP d 200 8 lv st h Q ↔ WP d 200 9 lv (.long 0 :: st) h Q := WP_st rfl
theorem S200_9 : WP d 200 9 lv (.long w :: .long u :: st) h Q ↔ WP d 200 10 lv (.int (lg_cmp u w) :: st) h Q := WP_st rfl
theorem S200_10 : WP d 200 10 lv (.int x :: st) h Q ↔ if 0 ≤ x then WP d 200 27 lv st h Q else WP d 200 13 lv st h Q := WP_br rfl
theorem S200_13 : WP d 200 13 (a0 :: a1 :: a2v :: a3 :: some (.long u) :: lv) st h Q ↔ WP d 200 15 (a0 :: a1 :: a2v :: a3 :: some (.long u) :: lv) (.long u :: st) h Q := WP_st rfl
theorem S200_15 : WP d 200 15 (a0 :: a1 :: some (.long u) :: lv) st h Q ↔ WP d 200 16 (a0 :: a1 :: some (.long u) :: lv) (.long u :: st) h Q := WP_st rfl
theorem S200_16 : WP d 200 16 lv (.long w :: .long u :: st) h Q ↔ WP d 200 17 lv (.long (u * w) :: st) h Q := WP_st rfl
theorem S200_17 : WP d 200 17 (some (.long u) :: lv) st h Q ↔ WP d 200 18 (some (.long u) :: lv) (.long u :: st) h Q := WP_st rfl
theorem S200_18 : WP d 200 18 lv (.long w :: .long u :: st) h Q ↔ WP d 200 19 lv (.int (lg_cmp u w) :: st) h Q := WP_st rfl
theorem S200_19 : WP d 200 19 lv (.int x :: st) h Q ↔ if x = 0 then WP d 200 27 lv st h Q else WP d 200 22 lv st h Q := WP_br rfl
theorem S200_22 : WP d 200 22 (a0 :: a1 :: a2v :: a3 :: some (.long u) :: lv) st h Q ↔ WP d 200 24 (a0 :: a1 :: a2v :: a3 :: some (.long u) :: lv) (.long u :: st) h Q := WP_st rfl
theorem S200_24 : WP d 200 24 lv st h Q ↔ WP d 200 25 lv (.long 1 :: st) h Q := WP_st rfl
theorem S200_25 : WP d 200 25 lv (.long w :: .long u :: st) h Q ↔ WP d 200 26 lv (.long (u - w) :: st) h Q := WP_st rfl
theorem S200_26 : WP d 200 26 lv [.long u] h Q ↔ Q (some (some (.long u))) h := WP_end rfl rfl rfl
theorem S200_27 : WP d 200 27 (a0 :: a1 :: a2v :: a3 :: some (.long u) :: lv) st h Q ↔ WP d 200 29 (a0 :: a1 :: a2v :: a3 :: some (.long u) :: lv) (.long u :: st) h Q := WP_st rfl
theorem S200_29 : WP d 200 29 lv [.long u] h Q ↔ Q (some (some (.long u))) h := WP_end rfl rfl rfl
theorem S201_0 : WP d 201 0 (some (.int x) :: lv) st h Q ↔ WP d 201 1 (some (.int x) :: lv) (.int x :: st) h Q := WP_st rfl
theorem S201_1 : WP d 201 1 lv (.int x :: st) h Q ↔ if 0 ≤ x then WP d 201 9 lv st h Q else WP d 201 4 lv st h Q := WP_br rfl
theorem S201_4 : WP d 201 4 (some (.int x) :: lv) st h Q ↔ WP d 201 5 (some (.int x) :: lv) (.int x :: st) h Q := WP_st rfl
theorem S201_5 : WP d 201 5 lv (.int x :: st) h Q ↔ WP d 201 6 lv (.int (-x) :: st) h Q := WP_st rfl
theorem S201_6 : WP d 201 6 lv st h Q ↔ WP d 201 10 lv st h Q := WP_st rfl
theorem S201_9 : WP d 201 9 (some (.int x) :: lv) st h Q ↔ WP d 201 10 (some (.int x) :: lv) (.int x :: st) h Q := WP_st rfl
theorem S201_10 : WP d 201 10 lv [.int x] h Q ↔ Q (some (some (.int x))) h := WP_end rfl rfl rfl
theorem S202_0 : WP d 202 0 (some (.long u) :: lv) st h Q ↔ WP d 202 1 (some (.long u) :: lv) (.long u :: st) h Q := WP_st rfl
theorem S202_1 : WP d 202 1 lv st h Q ↔ WP d 202 2 lv (.long 0 :: st) h Q := WP_st rfl
theorem S202_2 : WP d 202 2 lv (.long w :: .long u :: st) h Q ↔ WP d 202 3 lv (.int (lg_cmp u w) :: st) h Q := WP_st rfl
theorem S202_3 : WP d 202 3 lv (.int x :: st) h Q ↔ if 0 ≤ x then WP d 202 11 lv st h Q else WP d 202 6 lv st h Q := WP_br rfl
theorem S202_6 : WP d 202 6 (some (.long u) :: lv) st h Q ↔ WP d 202 7 (some (.long u) :: lv) (.long u :: st) h Q := WP_st rfl
theorem S202_7 : WP d 202 7 lv (.long u :: st) h Q ↔ WP d 202 8 lv (.long (-u) :: st) h Q := WP_st rfl
theorem S202_8 : WP d 202 8 lv st h Q ↔ WP d 202 12 lv st h Q := WP_st rfl
theorem S202_11 : WP d 202 11 (some (.long u) :: lv) st h Q ↔ WP d 202 12 (some (.long u) :: lv) (.long u :: st) h Q := WP_st rfl
theorem S202_12 : WP d 202 12 lv [.long u] h Q ↔ Q (some (some (.long u))) h := WP_end rfl rfl rfl
theorem S203_0 : WP d 203 0 (some (.int x) :: lv) st h Q ↔ WP d 203 1 (some (.int x) :: lv) (.int x :: st) h Q := WP_st rfl
theorem S203_1 : WP d 203 1 (a0 :: some (.int x) :: lv) st h Q ↔ WP d 203 2 (a0 :: some (.int x) :: lv) (.int x :: st) h Q := WP_st rfl
theorem S203_2 : WP d 203 2 lv (.int y :: .int x :: st) h Q ↔ if x < y then WP d 203 9 lv st h Q else WP d 203 5 lv st h Q := WP_br rfl
theorem S203_5 : WP d 203 5 (some (.int x) :: lv) st h Q ↔ WP d 203 6 (some (.int x) :: lv) (.int x :: st) h Q := WP_st rfl
theorem S203_6 : WP d 203 6 lv st h Q ↔ WP d 203 10 lv st h Q := WP_st rfl
theorem S203_9 : WP d 203 9 (a0 :: some (.int x) :: lv) st h Q ↔ WP d 203 10 (a0 :: some (.int x) :: lv) (.int x :: st) h Q := WP_st rfl
theorem S203_10 : WP d 203 10 lv [.int x] h Q ↔ Q (some (some (.int x))) h := WP_end rfl rfl rfl
theorem S204_0 : WP d 204 0 (some (.int x) :: lv) st h Q ↔ WP d 204 1 (some (.int x) :: lv) (.int x :: st) h Q := WP_st rfl
theorem S204_1 : WP d 204 1 (a0 :: some (.int x) :: lv) st h Q ↔ WP d 204 2 (a0 :: some (.int x) :: lv) (.int x :: st) h Q := WP_st rfl
theorem S204_2 : WP d 204 2 lv (.int y :: .int x :: st) h Q ↔ if y < x then WP d 204 9 lv st h Q else WP d 204 5 lv st h Q := WP_br rfl
theorem S204_5 : WP d 204 5 (some (.int x) :: lv) st h Q ↔ WP d 204 6 (some (.int x) :: lv) (.int x :: st) h Q := WP_st rfl
theorem S204_6 : WP d 204 6 lv st h Q ↔ WP d 204 10 lv st h Q := WP_st rfl
theorem S204_9 : WP d 204 9 (a0 :: some (.int x) :: lv) st h Q ↔ WP d 204 10 (a0 :: some (.int x) :: lv) (.int x :: st) h Q := WP_st rfl
theorem S204_10 : WP d 204 10 lv [.int x] h Q ↔ Q (some (some (.int x))) h := WP_end rfl rfl rfl
theorem S214_20 : WP d 214 20 lv st h Q ↔ WP d 214 21 lv (.int 0 :: st) h Q := WP_st rfl
theorem S214_21 : WP d 214 21 (a0 :: a1 :: a2v :: a3 :: a4 :: lv) (.int x :: st) h Q ↔ WP d 214 23 (a0 :: a1 :: a2v :: kl a3 :: some (.int x) :: lv) st h Q := WP_st (by rfl)
theorem S214_23 : WP d 214 23 (a0 :: a1 :: a2v :: a3 :: some (.int x) :: lv) st h Q ↔ WP d 214 25 (a0 :: a1 :: a2v :: a3 :: some (.int x) :: lv) (.int x :: st) h Q := WP_st rfl
theorem S214_25 : WP d 214 25 (some (.ref a) :: lv) st h Q ↔ WP d 214 26 (some (.ref a) :: lv) (.ref a :: st) h Q := WP_st rfl
theorem S214_26 : WP d 214 26 lv (.ref 1000 :: st) h Q ↔ WP d 214 27 lv (.int (Int32.ofNat h.2.2.2) :: st) h Q := WP_st rfl
theorem S214_27 : WP d 214 27 lv st h Q ↔ WP d 214 29 lv (.int 6 :: st) h Q := WP_st rfl
theorem S214_29 : WP d 214 29 lv (.int y :: .int x :: st) h Q ↔ WP d 214 30 lv (.int (x - y) :: st) h Q := WP_st rfl
theorem S214_30 : WP d 214 30 lv (.int y :: .int x :: st) h Q ↔ if y < x then WP d 214 1471 lv st h Q else WP d 214 33 lv st h Q := WP_br rfl
theorem S214_33 : WP d 214 33 (some (.ref a) :: lv) st h Q ↔ WP d 214 34 (some (.ref a) :: lv) (.ref a :: st) h Q := WP_st rfl
theorem S214_34 : WP d 214 34 (a0 :: a1 :: a2v :: a3 :: some (.int x) :: lv) st h Q ↔ WP d 214 36 (a0 :: a1 :: a2v :: a3 :: some (.int x) :: lv) (.int x :: st) h Q := WP_st rfl
theorem S214_36 (hi : 0 ≤ i.toInt ∧ i.toInt < h.2.2.2) : WP d 214 36 lv (.int i :: .ref 1000 :: st) h Q ↔ WP d 214 37 lv (.int (h.1 1000 i.toNatClampNeg) :: st) h Q := WP_sld rfl hi
theorem S214_37 : WP d 214 37 lv st h Q ↔ WP d 214 39 lv (.int 63 :: st) h Q := WP_st rfl
theorem S214_39 : WP d 214 39 lv (.int y :: .int x :: st) h Q ↔ WP d 214 40 lv (.int (x &&& y) :: st) h Q := WP_st rfl
theorem S214_40 : WP d 214 40 lv (.int x :: st) h Q ↔ if x = 0 then WP d 214 188 lv st h Q else if x = 1 then WP d 214 261 lv st h Q else if x = 2 then WP d 214 286 lv st h Q else if x = 3 then WP d 214 299 lv st h Q else if x = 4 then WP d 214 324 lv st h Q else if x = 5 then WP d 214 392 lv st h Q else if x = 6 then WP d 214 460 lv st h Q else if x = 7 then WP d 214 527 lv st h Q else if x = 8 then WP d 214 552 lv st h Q else if x = 9 then WP d 214 619 lv st h Q else if x = 10 then WP d 214 674 lv st h Q else if x = 11 then WP d 214 687 lv st h Q else if x = 12 then WP d 214 712 lv st h Q else if x = 13 then WP d 214 737 lv st h Q else if x = 14 then WP d 214 750 lv st h Q else if x = 15 then WP d 214 817 lv st h Q else if x = 16 then WP d 214 884 lv st h Q else if x = 17 then WP d 214 951 lv st h Q else if x = 18 then WP d 214 964 lv st h Q else if x = 19 then WP d 214 1043 lv st h Q else if x = 20 then WP d 214 1068 lv st h Q else if x = 21 then WP d 214 1093 lv st h Q else if x = 22 then WP d 214 1118 lv st h Q else if x = 23 then WP d 214 1143 lv st h Q else if x = 24 then WP d 214 1180 lv st h Q else if x = 25 then WP d 214 1217 lv st h Q else if x = 26 then WP d 214 1278 lv st h Q else if x = 27 then WP d 214 1315 lv st h Q else if x = 28 then WP d 214 1340 lv st h Q else if x = 29 then WP d 214 1377 lv st h Q else if x = 30 then WP d 214 1390 lv st h Q else if x = 31 then WP d 214 1415 lv st h Q else if x = 32 then WP d 214 1440 lv st h Q else WP d 214 1465 lv st h Q := by
  by_cases e0 : x = 0
  · subst e0
    rw [if_pos rfl]
    exact WP_st rfl
  by_cases e1 : x = 1
  · subst e1
    rw [if_neg (by decide)]
    rw [if_pos rfl]
    exact WP_st rfl
  by_cases e2 : x = 2
  · subst e2
    rw [if_neg (by decide)]
    rw [if_neg (by decide)]
    rw [if_pos rfl]
    exact WP_st rfl
  by_cases e3 : x = 3
  · subst e3
    rw [if_neg (by decide)]
    rw [if_neg (by decide)]
    rw [if_neg (by decide)]
    rw [if_pos rfl]
    exact WP_st rfl
  by_cases e4 : x = 4
  · subst e4
    rw [if_neg (by decide)]
    rw [if_neg (by decide)]
    rw [if_neg (by decide)]
    rw [if_neg (by decide)]
    rw [if_pos rfl]
    exact WP_st rfl
  by_cases e5 : x = 5
  · subst e5
    rw [if_neg (by decide)]
    rw [if_neg (by decide)]
    rw [if_neg (by decide)]
    rw [if_neg (by decide)]
    rw [if_neg (by decide)]
    rw [if_pos rfl]
    exact WP_st rfl
  by_cases e6 : x = 6
  · subst e6
    rw [if_neg (by decide)]
    rw [if_neg (by decide)]
    rw [if_neg (by decide)]
    rw [if_neg (by decide)]
    rw [if_neg (by decide)]
    rw [if_neg (by decide)]
    rw [if_pos rfl]
    exact WP_st rfl
  by_cases e7 : x = 7
  · subst e7
    rw [if_neg (by decide)]
    rw [if_neg (by decide)]
    rw [if_neg (by decide)]
    rw [if_neg (by decide)]
    rw [if_neg (by decide)]
    rw [if_neg (by decide)]
    rw [if_neg (by decide)]
    rw [if_pos rfl]
    exact WP_st rfl
  by_cases e8 : x = 8
  · subst e8
    rw [if_neg (by decide)]
    rw [if_neg (by decide)]
    rw [if_neg (by decide)]
    rw [if_neg (by decide)]
    rw [if_neg (by decide)]
    rw [if_neg (by decide)]
    rw [if_neg (by decide)]
    rw [if_neg (by decide)]
    rw [if_pos rfl]
    exact WP_st rfl
  by_cases e9 : x = 9
  · subst e9
    rw [if_neg (by decide)]
    rw [if_neg (by decide)]
    rw [if_neg (by decide)]
    rw [if_neg (by decide)]
    rw [if_neg (by decide)]
    rw [if_neg (by decide)]
    rw [if_neg (by decide)]
    rw [if_neg (by decide)]
    rw [if_neg (by decide)]
    rw [if_pos rfl]
    exact WP_st rfl
  by_cases e10 : x = 10
  · subst e10
    rw [if_neg (by decide)]
    rw [if_neg (by decide)]
    rw [if_neg (by decide)]
    rw [if_neg (by decide)]
    rw [if_neg (by decide)]
    rw [if_neg (by decide)]
    rw [if_neg (by decide)]
    rw [if_neg (by decide)]
    rw [if_neg (by decide)]
    rw [if_neg (by decide)]
    rw [if_pos rfl]
    exact WP_st rfl
  by_cases e11 : x = 11
  · subst e11
    rw [if_neg (by decide)]
    rw [if_neg (by decide)]
    rw [if_neg (by decide)]
    rw [if_neg (by decide)]
    rw [if_neg (by decide)]
    rw [if_neg (by decide)]
    rw [if_neg (by decide)]
    rw [if_neg (by decide)]
    rw [if_neg (by decide)]
    rw [if_neg (by decide)]
    rw [if_neg (by decide)]
    rw [if_pos rfl]
    exact WP_st rfl
  by_cases e12 : x = 12
  · subst e12
    rw [if_neg (by decide)]
    rw [if_neg (by decide)]
    rw [if_neg (by decide)]
    rw [if_neg (by decide)]
    rw [if_neg (by decide)]
    rw [if_neg (by decide)]
    rw [if_neg (by decide)]
    rw [if_neg (by decide)]
    rw [if_neg (by decide)]
    rw [if_neg (by decide)]
    rw [if_neg (by decide)]
    rw [if_neg (by decide)]
    rw [if_pos rfl]
    exact WP_st rfl
  by_cases e13 : x = 13
  · subst e13
    rw [if_neg (by decide)]
    rw [if_neg (by decide)]
    rw [if_neg (by decide)]
    rw [if_neg (by decide)]
    rw [if_neg (by decide)]
    rw [if_neg (by decide)]
    rw [if_neg (by decide)]
    rw [if_neg (by decide)]
    rw [if_neg (by decide)]
    rw [if_neg (by decide)]
    rw [if_neg (by decide)]
    rw [if_neg (by decide)]
    rw [if_neg (by decide)]
    rw [if_pos rfl]
    exact WP_st rfl
  by_cases e14 : x = 14
  · subst e14
    rw [if_neg (by decide)]
    rw [if_neg (by decide)]
    rw [if_neg (by decide)]
    rw [if_neg (by decide)]
    rw [if_neg (by decide)]
    rw [if_neg (by decide)]
    rw [if_neg (by decide)]
    rw [if_neg (by decide)]
    rw [if_neg (by decide)]
    rw [if_neg (by decide)]
    rw [if_neg (by decide)]
    rw [if_neg (by decide)]
    rw [if_neg (by decide)]
    rw [if_neg (by decide)]
    rw [if_pos rfl]
    exact WP_st rfl
  by_cases e15 : x = 15
  · subst e15
    rw [if_neg (by decide)]
    rw [if_neg (by decide)]
    rw [if_neg (by decide)]
    rw [if_neg (by decide)]
    rw [if_neg (by decide)]
    rw [if_neg (by decide)]
    rw [if_neg (by decide)]
    rw [if_neg (by decide)]
    rw [if_neg (by decide)]
    rw [if_neg (by decide)]
    rw [if_neg (by decide)]
    rw [if_neg (by decide)]
    rw [if_neg (by decide)]
    rw [if_neg (by decide)]
    rw [if_neg (by decide)]
    rw [if_pos rfl]
    exact WP_st rfl
  by_cases e16 : x = 16
  · subst e16
    rw [if_neg (by decide)]
    rw [if_neg (by decide)]
    rw [if_neg (by decide)]
    rw [if_neg (by decide)]
    rw [if_neg (by decide)]
    rw [if_neg (by decide)]
    rw [if_neg (by decide)]
    rw [if_neg (by decide)]
    rw [if_neg (by decide)]
    rw [if_neg (by decide)]
    rw [if_neg (by decide)]
    rw [if_neg (by decide)]
    rw [if_neg (by decide)]
    rw [if_neg (by decide)]
    rw [if_neg (by decide)]
    rw [if_neg (by decide)]
    rw [if_pos rfl]
    exact WP_st rfl
  by_cases e17 : x = 17
  · subst e17
    rw [if_neg (by decide)]
    rw [if_neg (by decide)]
    rw [if_neg (by decide)]
    rw [if_neg (by decide)]
    rw [if_neg (by decide)]
    rw [if_neg (by decide)]
    rw [if_neg (by decide)]
    rw [if_neg (by decide)]
    rw [if_neg (by decide)]
    rw [if_neg (by decide)]
    rw [if_neg (by decide)]
    rw [if_neg (by decide)]
    rw [if_neg (by decide)]
    rw [if_neg (by decide)]
    rw [if_neg (by decide)]
    rw [if_neg (by decide)]
    rw [if_neg (by decide)]
    rw [if_pos rfl]
    exact WP_st rfl
  by_cases e18 : x = 18
  · subst e18
    rw [if_neg (by decide)]
    rw [if_neg (by decide)]
    rw [if_neg (by decide)]
    rw [if_neg (by decide)]
    rw [if_neg (by decide)]
    rw [if_neg (by decide)]
    rw [if_neg (by decide)]
    rw [if_neg (by decide)]
    rw [if_neg (by decide)]
    rw [if_neg (by decide)]
    rw [if_neg (by decide)]
    rw [if_neg (by decide)]
    rw [if_neg (by decide)]
    rw [if_neg (by decide)]
    rw [if_neg (by decide)]
    rw [if_neg (by decide)]
    rw [if_neg (by decide)]
    rw [if_neg (by decide)]
    rw [if_pos rfl]
    exact WP_st rfl
  by_cases e19 : x = 19
  · subst e19
    rw [if_neg (by decide)]
    rw [if_neg (by decide)]
    rw [if_neg (by decide)]
    rw [if_neg (by decide)]
    rw [if_neg (by decide)]
    rw [if_neg (by decide)]
    rw [if_neg (by decide)]
    rw [if_neg (by decide)]
    rw [if_neg (by decide)]
    rw [if_neg (by decide)]
    rw [if_neg (by decide)]
    rw [if_neg (by decide)]
    rw [if_neg (by decide)]
    rw [if_neg (by decide)]
    rw [if_neg (by decide)]
    rw [if_neg (by decide)]
    rw [if_neg (by decide)]
    rw [if_neg (by decide)]
    rw [if_neg (by decide)]
    rw [if_pos rfl]
    exact WP_st rfl
  by_cases e20 : x = 20
  · subst e20
    rw [if_neg (by decide)]
    rw [if_neg (by decide)]
    rw [if_neg (by decide)]
    rw [if_neg (by decide)]
    rw [if_neg (by decide)]
    rw [if_neg (by decide)]
    rw [if_neg (by decide)]
    rw [if_neg (by decide)]
    rw [if_neg (by decide)]
    rw [if_neg (by decide)]
    rw [if_neg (by decide)]
    rw [if_neg (by decide)]
    rw [if_neg (by decide)]
    rw [if_neg (by decide)]
    rw [if_neg (by decide)]
    rw [if_neg (by decide)]
    rw [if_neg (by decide)]
    rw [if_neg (by decide)]
    rw [if_neg (by decide)]
    rw [if_neg (by decide)]
    rw [if_pos rfl]
    exact WP_st rfl
  by_cases e21 : x = 21
  · subst e21
    rw [if_neg (by decide)]
    rw [if_neg (by decide)]
    rw [if_neg (by decide)]
    rw [if_neg (by decide)]
    rw [if_neg (by decide)]
    rw [if_neg (by decide)]
    rw [if_neg (by decide)]
    rw [if_neg (by decide)]
    rw [if_neg (by decide)]
    rw [if_neg (by decide)]
    rw [if_neg (by decide)]
    rw [if_neg (by decide)]
    rw [if_neg (by decide)]
    rw [if_neg (by decide)]
    rw [if_neg (by decide)]
    rw [if_neg (by decide)]
    rw [if_neg (by decide)]
    rw [if_neg (by decide)]
    rw [if_neg (by decide)]
    rw [if_neg (by decide)]
    rw [if_neg (by decide)]
    rw [if_pos rfl]
    exact WP_st rfl
  by_cases e22 : x = 22
  · subst e22
    rw [if_neg (by decide)]
    rw [if_neg (by decide)]
    rw [if_neg (by decide)]
    rw [if_neg (by decide)]
    rw [if_neg (by decide)]
    rw [if_neg (by decide)]
    rw [if_neg (by decide)]
    rw [if_neg (by decide)]
    rw [if_neg (by decide)]
    rw [if_neg (by decide)]
    rw [if_neg (by decide)]
    rw [if_neg (by decide)]
    rw [if_neg (by decide)]
    rw [if_neg (by decide)]
    rw [if_neg (by decide)]
    rw [if_neg (by decide)]
    rw [if_neg (by decide)]
    rw [if_neg (by decide)]
    rw [if_neg (by decide)]
    rw [if_neg (by decide)]
    rw [if_neg (by decide)]
    rw [if_neg (by decide)]
    rw [if_pos rfl]
    exact WP_st rfl
  by_cases e23 : x = 23
  · subst e23
    rw [if_neg (by decide)]
    rw [if_neg (by decide)]
    rw [if_neg (by decide)]
    rw [if_neg (by decide)]
    rw [if_neg (by decide)]
    rw [if_neg (by decide)]
    rw [if_neg (by decide)]
    rw [if_neg (by decide)]
    rw [if_neg (by decide)]
    rw [if_neg (by decide)]
    rw [if_neg (by decide)]
    rw [if_neg (by decide)]
    rw [if_neg (by decide)]
    rw [if_neg (by decide)]
    rw [if_neg (by decide)]
    rw [if_neg (by decide)]
    rw [if_neg (by decide)]
    rw [if_neg (by decide)]
    rw [if_neg (by decide)]
    rw [if_neg (by decide)]
    rw [if_neg (by decide)]
    rw [if_neg (by decide)]
    rw [if_neg (by decide)]
    rw [if_pos rfl]
    exact WP_st rfl
  by_cases e24 : x = 24
  · subst e24
    rw [if_neg (by decide)]
    rw [if_neg (by decide)]
    rw [if_neg (by decide)]
    rw [if_neg (by decide)]
    rw [if_neg (by decide)]
    rw [if_neg (by decide)]
    rw [if_neg (by decide)]
    rw [if_neg (by decide)]
    rw [if_neg (by decide)]
    rw [if_neg (by decide)]
    rw [if_neg (by decide)]
    rw [if_neg (by decide)]
    rw [if_neg (by decide)]
    rw [if_neg (by decide)]
    rw [if_neg (by decide)]
    rw [if_neg (by decide)]
    rw [if_neg (by decide)]
    rw [if_neg (by decide)]
    rw [if_neg (by decide)]
    rw [if_neg (by decide)]
    rw [if_neg (by decide)]
    rw [if_neg (by decide)]
    rw [if_neg (by decide)]
    rw [if_neg (by decide)]
    rw [if_pos rfl]
    exact WP_st rfl
  by_cases e25 : x = 25
  · subst e25
    rw [if_neg (by decide)]
    rw [if_neg (by decide)]
    rw [if_neg (by decide)]
    rw [if_neg (by decide)]
    rw [if_neg (by decide)]
    rw [if_neg (by decide)]
    rw [if_neg (by decide)]
    rw [if_neg (by decide)]
    rw [if_neg (by decide)]
    rw [if_neg (by decide)]
    rw [if_neg (by decide)]
    rw [if_neg (by decide)]
    rw [if_neg (by decide)]
    rw [if_neg (by decide)]
    rw [if_neg (by decide)]
    rw [if_neg (by decide)]
    rw [if_neg (by decide)]
    rw [if_neg (by decide)]
    rw [if_neg (by decide)]
    rw [if_neg (by decide)]
    rw [if_neg (by decide)]
    rw [if_neg (by decide)]
    rw [if_neg (by decide)]
    rw [if_neg (by decide)]
    rw [if_neg (by decide)]
    rw [if_pos rfl]
    exact WP_st rfl
  by_cases e26 : x = 26
  · subst e26
    rw [if_neg (by decide)]
    rw [if_neg (by decide)]
    rw [if_neg (by decide)]
    rw [if_neg (by decide)]
    rw [if_neg (by decide)]
    rw [if_neg (by decide)]
    rw [if_neg (by decide)]
    rw [if_neg (by decide)]
    rw [if_neg (by decide)]
    rw [if_neg (by decide)]
    rw [if_neg (by decide)]
    rw [if_neg (by decide)]
    rw [if_neg (by decide)]
    rw [if_neg (by decide)]
    rw [if_neg (by decide)]
    rw [if_neg (by decide)]
    rw [if_neg (by decide)]
    rw [if_neg (by decide)]
    rw [if_neg (by decide)]
    rw [if_neg (by decide)]
    rw [if_neg (by decide)]
    rw [if_neg (by decide)]
    rw [if_neg (by decide)]
    rw [if_neg (by decide)]
    rw [if_neg (by decide)]
    rw [if_neg (by decide)]
    rw [if_pos rfl]
    exact WP_st rfl
  by_cases e27 : x = 27
  · subst e27
    rw [if_neg (by decide)]
    rw [if_neg (by decide)]
    rw [if_neg (by decide)]
    rw [if_neg (by decide)]
    rw [if_neg (by decide)]
    rw [if_neg (by decide)]
    rw [if_neg (by decide)]
    rw [if_neg (by decide)]
    rw [if_neg (by decide)]
    rw [if_neg (by decide)]
    rw [if_neg (by decide)]
    rw [if_neg (by decide)]
    rw [if_neg (by decide)]
    rw [if_neg (by decide)]
    rw [if_neg (by decide)]
    rw [if_neg (by decide)]
    rw [if_neg (by decide)]
    rw [if_neg (by decide)]
    rw [if_neg (by decide)]
    rw [if_neg (by decide)]
    rw [if_neg (by decide)]
    rw [if_neg (by decide)]
    rw [if_neg (by decide)]
    rw [if_neg (by decide)]
    rw [if_neg (by decide)]
    rw [if_neg (by decide)]
    rw [if_neg (by decide)]
    rw [if_pos rfl]
    exact WP_st rfl
  by_cases e28 : x = 28
  · subst e28
    rw [if_neg (by decide)]
    rw [if_neg (by decide)]
    rw [if_neg (by decide)]
    rw [if_neg (by decide)]
    rw [if_neg (by decide)]
    rw [if_neg (by decide)]
    rw [if_neg (by decide)]
    rw [if_neg (by decide)]
    rw [if_neg (by decide)]
    rw [if_neg (by decide)]
    rw [if_neg (by decide)]
    rw [if_neg (by decide)]
    rw [if_neg (by decide)]
    rw [if_neg (by decide)]
    rw [if_neg (by decide)]
    rw [if_neg (by decide)]
    rw [if_neg (by decide)]
    rw [if_neg (by decide)]
    rw [if_neg (by decide)]
    rw [if_neg (by decide)]
    rw [if_neg (by decide)]
    rw [if_neg (by decide)]
    rw [if_neg (by decide)]
    rw [if_neg (by decide)]
    rw [if_neg (by decide)]
    rw [if_neg (by decide)]
    rw [if_neg (by decide)]
    rw [if_neg (by decide)]
    rw [if_pos rfl]
    exact WP_st rfl
  by_cases e29 : x = 29
  · subst e29
    rw [if_neg (by decide)]
    rw [if_neg (by decide)]
    rw [if_neg (by decide)]
    rw [if_neg (by decide)]
    rw [if_neg (by decide)]
    rw [if_neg (by decide)]
    rw [if_neg (by decide)]
    rw [if_neg (by decide)]
    rw [if_neg (by decide)]
    rw [if_neg (by decide)]
    rw [if_neg (by decide)]
    rw [if_neg (by decide)]
    rw [if_neg (by decide)]
    rw [if_neg (by decide)]
    rw [if_neg (by decide)]
    rw [if_neg (by decide)]
    rw [if_neg (by decide)]
    rw [if_neg (by decide)]
    rw [if_neg (by decide)]
    rw [if_neg (by decide)]
    rw [if_neg (by decide)]
    rw [if_neg (by decide)]
    rw [if_neg (by decide)]
    rw [if_neg (by decide)]
    rw [if_neg (by decide)]
    rw [if_neg (by decide)]
    rw [if_neg (by decide)]
    rw [if_neg (by decide)]
    rw [if_neg (by decide)]
    rw [if_pos rfl]
    exact WP_st rfl
  by_cases e30 : x = 30
  · subst e30
    rw [if_neg (by decide)]
    rw [if_neg (by decide)]
    rw [if_neg (by decide)]
    rw [if_neg (by decide)]
    rw [if_neg (by decide)]
    rw [if_neg (by decide)]
    rw [if_neg (by decide)]
    rw [if_neg (by decide)]
    rw [if_neg (by decide)]
    rw [if_neg (by decide)]
    rw [if_neg (by decide)]
    rw [if_neg (by decide)]
    rw [if_neg (by decide)]
    rw [if_neg (by decide)]
    rw [if_neg (by decide)]
    rw [if_neg (by decide)]
    rw [if_neg (by decide)]
    rw [if_neg (by decide)]
    rw [if_neg (by decide)]
    rw [if_neg (by decide)]
    rw [if_neg (by decide)]
    rw [if_neg (by decide)]
    rw [if_neg (by decide)]
    rw [if_neg (by decide)]
    rw [if_neg (by decide)]
    rw [if_neg (by decide)]
    rw [if_neg (by decide)]
    rw [if_neg (by decide)]
    rw [if_neg (by decide)]
    rw [if_neg (by decide)]
    rw [if_pos rfl]
    exact WP_st rfl
  by_cases e31 : x = 31
  · subst e31
    rw [if_neg (by decide)]
    rw [if_neg (by decide)]
    rw [if_neg (by decide)]
    rw [if_neg (by decide)]
    rw [if_neg (by decide)]
    rw [if_neg (by decide)]
    rw [if_neg (by decide)]
    rw [if_neg (by decide)]
    rw [if_neg (by decide)]
    rw [if_neg (by decide)]
    rw [if_neg (by decide)]
    rw [if_neg (by decide)]
    rw [if_neg (by decide)]
    rw [if_neg (by decide)]
    rw [if_neg (by decide)]
    rw [if_neg (by decide)]
    rw [if_neg (by decide)]
    rw [if_neg (by decide)]
    rw [if_neg (by decide)]
    rw [if_neg (by decide)]
    rw [if_neg (by decide)]
    rw [if_neg (by decide)]
    rw [if_neg (by decide)]
    rw [if_neg (by decide)]
    rw [if_neg (by decide)]
    rw [if_neg (by decide)]
    rw [if_neg (by decide)]
    rw [if_neg (by decide)]
    rw [if_neg (by decide)]
    rw [if_neg (by decide)]
    rw [if_neg (by decide)]
    rw [if_pos rfl]
    exact WP_st rfl
  by_cases e32 : x = 32
  · subst e32
    rw [if_neg (by decide)]
    rw [if_neg (by decide)]
    rw [if_neg (by decide)]
    rw [if_neg (by decide)]
    rw [if_neg (by decide)]
    rw [if_neg (by decide)]
    rw [if_neg (by decide)]
    rw [if_neg (by decide)]
    rw [if_neg (by decide)]
    rw [if_neg (by decide)]
    rw [if_neg (by decide)]
    rw [if_neg (by decide)]
    rw [if_neg (by decide)]
    rw [if_neg (by decide)]
    rw [if_neg (by decide)]
    rw [if_neg (by decide)]
    rw [if_neg (by decide)]
    rw [if_neg (by decide)]
    rw [if_neg (by decide)]
    rw [if_neg (by decide)]
    rw [if_neg (by decide)]
    rw [if_neg (by decide)]
    rw [if_neg (by decide)]
    rw [if_neg (by decide)]
    rw [if_neg (by decide)]
    rw [if_neg (by decide)]
    rw [if_neg (by decide)]
    rw [if_neg (by decide)]
    rw [if_neg (by decide)]
    rw [if_neg (by decide)]
    rw [if_neg (by decide)]
    rw [if_neg (by decide)]
    rw [if_pos rfl]
    exact WP_st rfl
  rw [if_neg e0, if_neg e1, if_neg e2, if_neg e3, if_neg e4, if_neg e5, if_neg e6, if_neg e7, if_neg e8, if_neg e9, if_neg e10, if_neg e11, if_neg e12, if_neg e13, if_neg e14, if_neg e15, if_neg e16, if_neg e17, if_neg e18, if_neg e19, if_neg e20, if_neg e21, if_neg e22, if_neg e23, if_neg e24, if_neg e25, if_neg e26, if_neg e27, if_neg e28, if_neg e29, if_neg e30, if_neg e31, if_neg e32]
  have z0 : x.toInt ≠ 0 := fun q => e0 (Int32.toInt_inj.mp (q.trans (by decide)))
  have z1 : x.toInt ≠ 1 := fun q => e1 (Int32.toInt_inj.mp (q.trans (by decide)))
  have z2 : x.toInt ≠ 2 := fun q => e2 (Int32.toInt_inj.mp (q.trans (by decide)))
  have z3 : x.toInt ≠ 3 := fun q => e3 (Int32.toInt_inj.mp (q.trans (by decide)))
  have z4 : x.toInt ≠ 4 := fun q => e4 (Int32.toInt_inj.mp (q.trans (by decide)))
  have z5 : x.toInt ≠ 5 := fun q => e5 (Int32.toInt_inj.mp (q.trans (by decide)))
  have z6 : x.toInt ≠ 6 := fun q => e6 (Int32.toInt_inj.mp (q.trans (by decide)))
  have z7 : x.toInt ≠ 7 := fun q => e7 (Int32.toInt_inj.mp (q.trans (by decide)))
  have z8 : x.toInt ≠ 8 := fun q => e8 (Int32.toInt_inj.mp (q.trans (by decide)))
  have z9 : x.toInt ≠ 9 := fun q => e9 (Int32.toInt_inj.mp (q.trans (by decide)))
  have z10 : x.toInt ≠ 10 := fun q => e10 (Int32.toInt_inj.mp (q.trans (by decide)))
  have z11 : x.toInt ≠ 11 := fun q => e11 (Int32.toInt_inj.mp (q.trans (by decide)))
  have z12 : x.toInt ≠ 12 := fun q => e12 (Int32.toInt_inj.mp (q.trans (by decide)))
  have z13 : x.toInt ≠ 13 := fun q => e13 (Int32.toInt_inj.mp (q.trans (by decide)))
  have z14 : x.toInt ≠ 14 := fun q => e14 (Int32.toInt_inj.mp (q.trans (by decide)))
  have z15 : x.toInt ≠ 15 := fun q => e15 (Int32.toInt_inj.mp (q.trans (by decide)))
  have z16 : x.toInt ≠ 16 := fun q => e16 (Int32.toInt_inj.mp (q.trans (by decide)))
  have z17 : x.toInt ≠ 17 := fun q => e17 (Int32.toInt_inj.mp (q.trans (by decide)))
  have z18 : x.toInt ≠ 18 := fun q => e18 (Int32.toInt_inj.mp (q.trans (by decide)))
  have z19 : x.toInt ≠ 19 := fun q => e19 (Int32.toInt_inj.mp (q.trans (by decide)))
  have z20 : x.toInt ≠ 20 := fun q => e20 (Int32.toInt_inj.mp (q.trans (by decide)))
  have z21 : x.toInt ≠ 21 := fun q => e21 (Int32.toInt_inj.mp (q.trans (by decide)))
  have z22 : x.toInt ≠ 22 := fun q => e22 (Int32.toInt_inj.mp (q.trans (by decide)))
  have z23 : x.toInt ≠ 23 := fun q => e23 (Int32.toInt_inj.mp (q.trans (by decide)))
  have z24 : x.toInt ≠ 24 := fun q => e24 (Int32.toInt_inj.mp (q.trans (by decide)))
  have z25 : x.toInt ≠ 25 := fun q => e25 (Int32.toInt_inj.mp (q.trans (by decide)))
  have z26 : x.toInt ≠ 26 := fun q => e26 (Int32.toInt_inj.mp (q.trans (by decide)))
  have z27 : x.toInt ≠ 27 := fun q => e27 (Int32.toInt_inj.mp (q.trans (by decide)))
  have z28 : x.toInt ≠ 28 := fun q => e28 (Int32.toInt_inj.mp (q.trans (by decide)))
  have z29 : x.toInt ≠ 29 := fun q => e29 (Int32.toInt_inj.mp (q.trans (by decide)))
  have z30 : x.toInt ≠ 30 := fun q => e30 (Int32.toInt_inj.mp (q.trans (by decide)))
  have z31 : x.toInt ≠ 31 := fun q => e31 (Int32.toInt_inj.mp (q.trans (by decide)))
  have z32 : x.toInt ≠ 32 := fun q => e32 (Int32.toInt_inj.mp (q.trans (by decide)))
  exact WP_swD rfl (by omega) rfl
theorem S214_188 : WP d 214 188 (a0 :: some (.ref a) :: lv) st h Q ↔ WP d 214 189 (a0 :: some (.ref a) :: lv) (.ref a :: st) h Q := WP_st rfl
theorem S214_189 : WP d 214 189 (some (.ref a) :: lv) st h Q ↔ WP d 214 190 (some (.ref a) :: lv) (.ref a :: st) h Q := WP_st rfl
theorem S214_190 : WP d 214 190 (a0 :: a1 :: a2v :: a3 :: some (.int x) :: lv) st h Q ↔ WP d 214 192 (a0 :: a1 :: a2v :: a3 :: some (.int x) :: lv) (.int x :: st) h Q := WP_st rfl
theorem S214_192 : WP d 214 192 lv st h Q ↔ WP d 214 193 lv (.int 1 :: st) h Q := WP_st rfl
theorem S214_193 : WP d 214 193 lv (.int y :: .int x :: st) h Q ↔ WP d 214 194 lv (.int (x + y) :: st) h Q := WP_st rfl
theorem S214_194 (hi : 0 ≤ i.toInt ∧ i.toInt < h.2.2.2) : WP d 214 194 lv (.int i :: .ref 1000 :: st) h Q ↔ WP d 214 195 lv (.int (h.1 1000 i.toNatClampNeg) :: st) h Q := WP_sld rfl hi
theorem S214_195 : WP d 214 195 (some (.ref a) :: lv) st h Q ↔ WP d 214 196 (some (.ref a) :: lv) (.ref a :: st) h Q := WP_st rfl
theorem S214_196 : WP d 214 196 (a0 :: a1 :: a2v :: a3 :: some (.int x) :: lv) st h Q ↔ WP d 214 198 (a0 :: a1 :: a2v :: a3 :: some (.int x) :: lv) (.int x :: st) h Q := WP_st rfl
theorem S214_198 : WP d 214 198 lv st h Q ↔ WP d 214 199 lv (.int 2 :: st) h Q := WP_st rfl
theorem S214_199 : WP d 214 199 lv (.int y :: .int x :: st) h Q ↔ WP d 214 200 lv (.int (x + y) :: st) h Q := WP_st rfl
theorem S214_200 (hi : 0 ≤ i.toInt ∧ i.toInt < h.2.2.2) : WP d 214 200 lv (.int i :: .ref 1000 :: st) h Q ↔ WP d 214 201 lv (.int (h.1 1000 i.toNatClampNeg) :: st) h Q := WP_sld rfl hi
theorem S214_201 : WP d 214 201 (some (.ref a) :: lv) st h Q ↔ WP d 214 202 (some (.ref a) :: lv) (.ref a :: st) h Q := WP_st rfl
theorem S214_202 : WP d 214 202 (a0 :: a1 :: a2v :: a3 :: some (.int x) :: lv) st h Q ↔ WP d 214 204 (a0 :: a1 :: a2v :: a3 :: some (.int x) :: lv) (.int x :: st) h Q := WP_st rfl
theorem S214_204 : WP d 214 204 lv st h Q ↔ WP d 214 205 lv (.int 3 :: st) h Q := WP_st rfl
theorem S214_205 : WP d 214 205 lv (.int y :: .int x :: st) h Q ↔ WP d 214 206 lv (.int (x + y) :: st) h Q := WP_st rfl
theorem S214_206 (hi : 0 ≤ i.toInt ∧ i.toInt < h.2.2.2) : WP d 214 206 lv (.int i :: .ref 1000 :: st) h Q ↔ WP d 214 207 lv (.int (h.1 1000 i.toNatClampNeg) :: st) h Q := WP_sld rfl hi
theorem S214_207 : WP d 214 207 (some (.ref a) :: lv) st h Q ↔ WP d 214 208 (some (.ref a) :: lv) (.ref a :: st) h Q := WP_st rfl
theorem S214_208 : WP d 214 208 (a0 :: a1 :: a2v :: a3 :: some (.int x) :: lv) st h Q ↔ WP d 214 210 (a0 :: a1 :: a2v :: a3 :: some (.int x) :: lv) (.int x :: st) h Q := WP_st rfl
theorem S214_210 : WP d 214 210 lv st h Q ↔ WP d 214 211 lv (.int 4 :: st) h Q := WP_st rfl
theorem S214_211 : WP d 214 211 lv (.int y :: .int x :: st) h Q ↔ WP d 214 212 lv (.int (x + y) :: st) h Q := WP_st rfl
theorem S214_212 (hi : 0 ≤ i.toInt ∧ i.toInt < h.2.2.2) : WP d 214 212 lv (.int i :: .ref 1000 :: st) h Q ↔ WP d 214 213 lv (.int (h.1 1000 i.toNatClampNeg) :: st) h Q := WP_sld rfl hi
theorem S214_213 : WP d 214 213 (some (.ref a) :: lv) st h Q ↔ WP d 214 214 (some (.ref a) :: lv) (.ref a :: st) h Q := WP_st rfl
theorem S214_214 : WP d 214 214 (a0 :: a1 :: a2v :: a3 :: some (.int x) :: lv) st h Q ↔ WP d 214 216 (a0 :: a1 :: a2v :: a3 :: some (.int x) :: lv) (.int x :: st) h Q := WP_st rfl
theorem S214_216 : WP d 214 216 lv st h Q ↔ WP d 214 217 lv (.int 5 :: st) h Q := WP_st rfl
theorem S214_217 : WP d 214 217 lv (.int y :: .int x :: st) h Q ↔ WP d 214 218 lv (.int (x + y) :: st) h Q := WP_st rfl
theorem S214_218 (hi : 0 ≤ i.toInt ∧ i.toInt < h.2.2.2) : WP d 214 218 lv (.int i :: .ref 1000 :: st) h Q ↔ WP d 214 219 lv (.int (h.1 1000 i.toNatClampNeg) :: st) h Q := WP_sld rfl hi
theorem S214_219 {pr0 : Nat} {pi0 : Int32} {pi1 : Int32} {pi2 : Int32} {pi3 : Int32} {pi4 : Int32} (hs : shp pr0 = some (0, 7)) : WP (d + 1) 214 219 lv [.int pi4, .int pi3, .int pi2, .int pi1, .int pi0, .ref pr0] h Q ↔ WP d 54 0 [some (.ref pr0), some (.int pi0), some (.int pi1), some (.int pi2), some (.int pi3), some (.int pi4)] [] h (kR (d + 1) 214 222 lv [] Q) := WP_callVR rfl rfl rfl rfl rfl hs
theorem S214_222 : WP d 214 222 (a0 :: a1 :: some (.ref a) :: lv) st h Q ↔ WP d 214 223 (a0 :: a1 :: some (.ref a) :: lv) (.ref a :: st) h Q := WP_st rfl
theorem S214_223 : WP d 214 223 (some (.ref a) :: lv) st h Q ↔ WP d 214 224 (some (.ref a) :: lv) (.ref a :: st) h Q := WP_st rfl
theorem S214_224 : WP d 214 224 (a0 :: a1 :: a2v :: a3 :: some (.int x) :: lv) st h Q ↔ WP d 214 226 (a0 :: a1 :: a2v :: a3 :: some (.int x) :: lv) (.int x :: st) h Q := WP_st rfl
theorem S214_226 : WP d 214 226 lv st h Q ↔ WP d 214 227 lv (.int 1 :: st) h Q := WP_st rfl
theorem S214_227 : WP d 214 227 lv (.int y :: .int x :: st) h Q ↔ WP d 214 228 lv (.int (x + y) :: st) h Q := WP_st rfl
theorem S214_228 (hi : 0 ≤ i.toInt ∧ i.toInt < h.2.2.2) : WP d 214 228 lv (.int i :: .ref 1000 :: st) h Q ↔ WP d 214 229 lv (.int (h.1 1000 i.toNatClampNeg) :: st) h Q := WP_sld rfl hi
theorem S214_229 : WP d 214 229 (some (.ref a) :: lv) st h Q ↔ WP d 214 230 (some (.ref a) :: lv) (.ref a :: st) h Q := WP_st rfl
theorem S214_230 : WP d 214 230 (a0 :: a1 :: a2v :: a3 :: some (.int x) :: lv) st h Q ↔ WP d 214 232 (a0 :: a1 :: a2v :: a3 :: some (.int x) :: lv) (.int x :: st) h Q := WP_st rfl
theorem S214_232 : WP d 214 232 lv st h Q ↔ WP d 214 233 lv (.int 2 :: st) h Q := WP_st rfl
theorem S214_233 : WP d 214 233 lv (.int y :: .int x :: st) h Q ↔ WP d 214 234 lv (.int (x + y) :: st) h Q := WP_st rfl
theorem S214_234 (hi : 0 ≤ i.toInt ∧ i.toInt < h.2.2.2) : WP d 214 234 lv (.int i :: .ref 1000 :: st) h Q ↔ WP d 214 235 lv (.int (h.1 1000 i.toNatClampNeg) :: st) h Q := WP_sld rfl hi
theorem S214_235 : WP d 214 235 (some (.ref a) :: lv) st h Q ↔ WP d 214 236 (some (.ref a) :: lv) (.ref a :: st) h Q := WP_st rfl
theorem S214_236 : WP d 214 236 (a0 :: a1 :: a2v :: a3 :: some (.int x) :: lv) st h Q ↔ WP d 214 238 (a0 :: a1 :: a2v :: a3 :: some (.int x) :: lv) (.int x :: st) h Q := WP_st rfl
theorem S214_238 : WP d 214 238 lv st h Q ↔ WP d 214 239 lv (.int 3 :: st) h Q := WP_st rfl
theorem S214_239 : WP d 214 239 lv (.int y :: .int x :: st) h Q ↔ WP d 214 240 lv (.int (x + y) :: st) h Q := WP_st rfl
theorem S214_240 (hi : 0 ≤ i.toInt ∧ i.toInt < h.2.2.2) : WP d 214 240 lv (.int i :: .ref 1000 :: st) h Q ↔ WP d 214 241 lv (.int (h.1 1000 i.toNatClampNeg) :: st) h Q := WP_sld rfl hi
theorem S214_241 : WP d 214 241 (some (.ref a) :: lv) st h Q ↔ WP d 214 242 (some (.ref a) :: lv) (.ref a :: st) h Q := WP_st rfl
theorem S214_242 : WP d 214 242 (a0 :: a1 :: a2v :: a3 :: some (.int x) :: lv) st h Q ↔ WP d 214 244 (a0 :: a1 :: a2v :: a3 :: some (.int x) :: lv) (.int x :: st) h Q := WP_st rfl
theorem S214_244 : WP d 214 244 lv st h Q ↔ WP d 214 245 lv (.int 4 :: st) h Q := WP_st rfl
theorem S214_245 : WP d 214 245 lv (.int y :: .int x :: st) h Q ↔ WP d 214 246 lv (.int (x + y) :: st) h Q := WP_st rfl
theorem S214_246 (hi : 0 ≤ i.toInt ∧ i.toInt < h.2.2.2) : WP d 214 246 lv (.int i :: .ref 1000 :: st) h Q ↔ WP d 214 247 lv (.int (h.1 1000 i.toNatClampNeg) :: st) h Q := WP_sld rfl hi
theorem S214_247 : WP d 214 247 (some (.ref a) :: lv) st h Q ↔ WP d 214 248 (some (.ref a) :: lv) (.ref a :: st) h Q := WP_st rfl
theorem S214_248 : WP d 214 248 (a0 :: a1 :: a2v :: a3 :: some (.int x) :: lv) st h Q ↔ WP d 214 250 (a0 :: a1 :: a2v :: a3 :: some (.int x) :: lv) (.int x :: st) h Q := WP_st rfl
theorem S214_250 : WP d 214 250 lv st h Q ↔ WP d 214 251 lv (.int 5 :: st) h Q := WP_st rfl
theorem S214_251 : WP d 214 251 lv (.int y :: .int x :: st) h Q ↔ WP d 214 252 lv (.int (x + y) :: st) h Q := WP_st rfl
theorem S214_252 (hi : 0 ≤ i.toInt ∧ i.toInt < h.2.2.2) : WP d 214 252 lv (.int i :: .ref 1000 :: st) h Q ↔ WP d 214 253 lv (.int (h.1 1000 i.toNatClampNeg) :: st) h Q := WP_sld rfl hi
theorem S214_253 {pr0 : Nat} {pi0 : Int32} {pi1 : Int32} {pi2 : Int32} {pi3 : Int32} {pi4 : Int32} {qi5 : Int32} (hs : shp pr0 = some (0, 8)) : WP (d + 1) 214 253 lv [.int pi4, .int pi3, .int pi2, .int pi1, .int pi0, .ref pr0, .int qi5] h Q ↔ WP d 105 0 [some (.ref pr0), some (.int pi0), some (.int pi1), some (.int pi2), some (.int pi3), some (.int pi4)] [] h (kR (d + 1) 214 256 lv [.int qi5] Q) := WP_callVR rfl rfl rfl rfl rfl hs
theorem S214_256 : WP d 214 256 lv (.int y :: .int x :: st) h Q ↔ if x = y then WP d 214 1465 lv st h Q else WP d 214 259 lv st h Q := WP_br rfl
theorem S214_259 : WP d 214 259 lv st h Q ↔ WP d 214 260 lv (.int 0 :: st) h Q := WP_st rfl
set_option maxRecDepth 20000 in
theorem S214_260 (hx : isB x) : WP d 214 260 lv [.int x] h Q ↔ Q (some (some (.int x))) h := WP_endZ rfl rfl hx
set_option maxRecDepth 20000 in
theorem S214_261 : WP d 214 261 (a0 :: some (.ref a) :: lv) st h Q ↔ WP d 214 262 (a0 :: some (.ref a) :: lv) (.ref a :: st) h Q := WP_st rfl
set_option maxRecDepth 20000 in
theorem S214_262 : WP d 214 262 (some (.ref a) :: lv) st h Q ↔ WP d 214 263 (some (.ref a) :: lv) (.ref a :: st) h Q := WP_st rfl
set_option maxRecDepth 20000 in
theorem S214_263 : WP d 214 263 (a0 :: a1 :: a2v :: a3 :: some (.int x) :: lv) st h Q ↔ WP d 214 265 (a0 :: a1 :: a2v :: a3 :: some (.int x) :: lv) (.int x :: st) h Q := WP_st rfl
set_option maxRecDepth 20000 in
theorem S214_265 : WP d 214 265 lv st h Q ↔ WP d 214 266 lv (.int 1 :: st) h Q := WP_st rfl
set_option maxRecDepth 20000 in
theorem S214_266 : WP d 214 266 lv (.int y :: .int x :: st) h Q ↔ WP d 214 267 lv (.int (x + y) :: st) h Q := WP_st rfl
set_option maxRecDepth 20000 in
theorem S214_267 (hi : 0 ≤ i.toInt ∧ i.toInt < h.2.2.2) : WP d 214 267 lv (.int i :: .ref 1000 :: st) h Q ↔ WP d 214 268 lv (.int (h.1 1000 i.toNatClampNeg) :: st) h Q := WP_sld rfl hi
set_option maxRecDepth 20000 in
theorem S214_268 {pr0 : Nat} {pi0 : Int32} (hs : shp pr0 = some (0, 7)) : WP (d + 1) 214 268 lv [.int pi0, .ref pr0] h Q ↔ WP d 55 0 [some (.ref pr0), some (.int pi0)] [] h (kR (d + 1) 214 271 lv [] Q) := WP_callVR rfl rfl rfl rfl rfl hs
set_option maxRecDepth 20000 in
theorem S214_271 : WP d 214 271 (a0 :: a1 :: some (.ref a) :: lv) st h Q ↔ WP d 214 272 (a0 :: a1 :: some (.ref a) :: lv) (.ref a :: st) h Q := WP_st rfl
set_option maxRecDepth 20000 in
theorem S214_272 : WP d 214 272 (some (.ref a) :: lv) st h Q ↔ WP d 214 273 (some (.ref a) :: lv) (.ref a :: st) h Q := WP_st rfl
set_option maxRecDepth 20000 in
theorem S214_273 : WP d 214 273 (a0 :: a1 :: a2v :: a3 :: some (.int x) :: lv) st h Q ↔ WP d 214 275 (a0 :: a1 :: a2v :: a3 :: some (.int x) :: lv) (.int x :: st) h Q := WP_st rfl
set_option maxRecDepth 20000 in
theorem S214_275 : WP d 214 275 lv st h Q ↔ WP d 214 276 lv (.int 1 :: st) h Q := WP_st rfl
set_option maxRecDepth 20000 in
theorem S214_276 : WP d 214 276 lv (.int y :: .int x :: st) h Q ↔ WP d 214 277 lv (.int (x + y) :: st) h Q := WP_st rfl
set_option maxRecDepth 20000 in
theorem S214_277 (hi : 0 ≤ i.toInt ∧ i.toInt < h.2.2.2) : WP d 214 277 lv (.int i :: .ref 1000 :: st) h Q ↔ WP d 214 278 lv (.int (h.1 1000 i.toNatClampNeg) :: st) h Q := WP_sld rfl hi
set_option maxRecDepth 20000 in
theorem S214_278 {pr0 : Nat} {pi0 : Int32} {qi1 : Int32} (hs : shp pr0 = some (0, 8)) : WP (d + 1) 214 278 lv [.int pi0, .ref pr0, .int qi1] h Q ↔ WP d 106 0 [some (.ref pr0), some (.int pi0)] [] h (kR (d + 1) 214 281 lv [.int qi1] Q) := WP_callVR rfl rfl rfl rfl rfl hs
set_option maxRecDepth 20000 in
theorem S214_281 : WP d 214 281 lv (.int y :: .int x :: st) h Q ↔ if x = y then WP d 214 1465 lv st h Q else WP d 214 284 lv st h Q := WP_br rfl
set_option maxRecDepth 20000 in
theorem S214_284 : WP d 214 284 lv st h Q ↔ WP d 214 285 lv (.int 0 :: st) h Q := WP_st rfl
set_option maxRecDepth 20000 in
theorem S214_285 (hx : isB x) : WP d 214 285 lv [.int x] h Q ↔ Q (some (some (.int x))) h := WP_endZ rfl rfl hx
set_option maxRecDepth 20000 in
theorem S214_286 : WP d 214 286 (a0 :: some (.ref a) :: lv) st h Q ↔ WP d 214 287 (a0 :: some (.ref a) :: lv) (.ref a :: st) h Q := WP_st rfl
set_option maxRecDepth 20000 in
theorem S214_287 {pr0 : Nat} (hs : shp pr0 = some (0, 7)) : WP (d + 1) 214 287 lv [.ref pr0] h Q ↔ WP d 56 0 [some (.ref pr0), none] [] h (kR (d + 1) 214 290 lv [] Q) := WP_callVR rfl rfl rfl rfl rfl hs
set_option maxRecDepth 20000 in
theorem S214_290 : WP d 214 290 (a0 :: a1 :: some (.ref a) :: lv) st h Q ↔ WP d 214 291 (a0 :: a1 :: some (.ref a) :: lv) (.ref a :: st) h Q := WP_st rfl
set_option maxRecDepth 20000 in
theorem S214_291 {pr0 : Nat} {qi0 : Int32} (hs : shp pr0 = some (0, 8)) : WP (d + 1) 214 291 lv [.ref pr0, .int qi0] h Q ↔ WP d 126 0 [some (.ref pr0), none] [] h (kR (d + 1) 214 294 lv [.int qi0] Q) := WP_callVR rfl rfl rfl rfl rfl hs
set_option maxRecDepth 20000 in
theorem S214_294 : WP d 214 294 lv (.int y :: .int x :: st) h Q ↔ if x = y then WP d 214 1465 lv st h Q else WP d 214 297 lv st h Q := WP_br rfl
set_option maxRecDepth 20000 in
theorem S214_297 : WP d 214 297 lv st h Q ↔ WP d 214 298 lv (.int 0 :: st) h Q := WP_st rfl
set_option maxRecDepth 20000 in
theorem S214_298 (hx : isB x) : WP d 214 298 lv [.int x] h Q ↔ Q (some (some (.int x))) h := WP_endZ rfl rfl hx
set_option maxRecDepth 20000 in
theorem S214_299 : WP d 214 299 (a0 :: some (.ref a) :: lv) st h Q ↔ WP d 214 300 (a0 :: some (.ref a) :: lv) (.ref a :: st) h Q := WP_st rfl
set_option maxRecDepth 20000 in
theorem S214_300 : WP d 214 300 (some (.ref a) :: lv) st h Q ↔ WP d 214 301 (some (.ref a) :: lv) (.ref a :: st) h Q := WP_st rfl
set_option maxRecDepth 20000 in
theorem S214_301 : WP d 214 301 (a0 :: a1 :: a2v :: a3 :: some (.int x) :: lv) st h Q ↔ WP d 214 303 (a0 :: a1 :: a2v :: a3 :: some (.int x) :: lv) (.int x :: st) h Q := WP_st rfl
set_option maxRecDepth 20000 in
theorem S214_303 : WP d 214 303 lv st h Q ↔ WP d 214 304 lv (.int 1 :: st) h Q := WP_st rfl
set_option maxRecDepth 20000 in
theorem S214_304 : WP d 214 304 lv (.int y :: .int x :: st) h Q ↔ WP d 214 305 lv (.int (x + y) :: st) h Q := WP_st rfl
set_option maxRecDepth 20000 in
theorem S214_305 (hi : 0 ≤ i.toInt ∧ i.toInt < h.2.2.2) : WP d 214 305 lv (.int i :: .ref 1000 :: st) h Q ↔ WP d 214 306 lv (.int (h.1 1000 i.toNatClampNeg) :: st) h Q := WP_sld rfl hi
set_option maxRecDepth 20000 in
theorem S214_306 {pr0 : Nat} {pi0 : Int32} (hs : shp pr0 = some (0, 7)) : WP (d + 1) 214 306 lv [.int pi0, .ref pr0] h Q ↔ WP d 57 0 [some (.ref pr0), some (.int pi0)] [] h (kR (d + 1) 214 309 lv [] Q) := WP_callVR rfl rfl rfl rfl rfl hs
set_option maxRecDepth 20000 in
theorem S214_309 : WP d 214 309 (a0 :: a1 :: some (.ref a) :: lv) st h Q ↔ WP d 214 310 (a0 :: a1 :: some (.ref a) :: lv) (.ref a :: st) h Q := WP_st rfl
set_option maxRecDepth 20000 in
theorem S214_310 : WP d 214 310 (some (.ref a) :: lv) st h Q ↔ WP d 214 311 (some (.ref a) :: lv) (.ref a :: st) h Q := WP_st rfl
set_option maxRecDepth 20000 in
theorem S214_311 : WP d 214 311 (a0 :: a1 :: a2v :: a3 :: some (.int x) :: lv) st h Q ↔ WP d 214 313 (a0 :: a1 :: a2v :: a3 :: some (.int x) :: lv) (.int x :: st) h Q := WP_st rfl
set_option maxRecDepth 20000 in
theorem S214_313 : WP d 214 313 lv st h Q ↔ WP d 214 314 lv (.int 1 :: st) h Q := WP_st rfl
set_option maxRecDepth 20000 in
theorem S214_314 : WP d 214 314 lv (.int y :: .int x :: st) h Q ↔ WP d 214 315 lv (.int (x + y) :: st) h Q := WP_st rfl
set_option maxRecDepth 20000 in
theorem S214_315 (hi : 0 ≤ i.toInt ∧ i.toInt < h.2.2.2) : WP d 214 315 lv (.int i :: .ref 1000 :: st) h Q ↔ WP d 214 316 lv (.int (h.1 1000 i.toNatClampNeg) :: st) h Q := WP_sld rfl hi
set_option maxRecDepth 20000 in
theorem S214_316 {pr0 : Nat} {pi0 : Int32} {qi1 : Int32} (hs : shp pr0 = some (0, 8)) : WP (d + 1) 214 316 lv [.int pi0, .ref pr0, .int qi1] h Q ↔ WP d 127 0 [some (.ref pr0), some (.int pi0)] [] h (kR (d + 1) 214 319 lv [.int qi1] Q) := WP_callVR rfl rfl rfl rfl rfl hs
set_option maxRecDepth 20000 in
theorem S214_319 : WP d 214 319 lv (.int y :: .int x :: st) h Q ↔ if x = y then WP d 214 1465 lv st h Q else WP d 214 322 lv st h Q := WP_br rfl
set_option maxRecDepth 20000 in
theorem S214_322 : WP d 214 322 lv st h Q ↔ WP d 214 323 lv (.int 0 :: st) h Q := WP_st rfl
set_option maxRecDepth 20000 in
theorem S214_323 (hx : isB x) : WP d 214 323 lv [.int x] h Q ↔ Q (some (some (.int x))) h := WP_endZ rfl rfl hx
set_option maxRecDepth 20000 in
theorem S214_324 : WP d 214 324 (a0 :: some (.ref a) :: lv) st h Q ↔ WP d 214 325 (a0 :: some (.ref a) :: lv) (.ref a :: st) h Q := WP_st rfl
set_option maxRecDepth 20000 in
theorem S214_325 : WP d 214 325 (some (.ref a) :: lv) st h Q ↔ WP d 214 326 (some (.ref a) :: lv) (.ref a :: st) h Q := WP_st rfl
set_option maxRecDepth 20000 in
theorem S214_326 : WP d 214 326 (a0 :: a1 :: a2v :: a3 :: some (.int x) :: lv) st h Q ↔ WP d 214 328 (a0 :: a1 :: a2v :: a3 :: some (.int x) :: lv) (.int x :: st) h Q := WP_st rfl
set_option maxRecDepth 20000 in
theorem S214_328 : WP d 214 328 lv st h Q ↔ WP d 214 329 lv (.int 1 :: st) h Q := WP_st rfl
set_option maxRecDepth 20000 in
theorem S214_329 : WP d 214 329 lv (.int y :: .int x :: st) h Q ↔ WP d 214 330 lv (.int (x + y) :: st) h Q := WP_st rfl
set_option maxRecDepth 20000 in
theorem S214_330 (hi : 0 ≤ i.toInt ∧ i.toInt < h.2.2.2) : WP d 214 330 lv (.int i :: .ref 1000 :: st) h Q ↔ WP d 214 331 lv (.int (h.1 1000 i.toNatClampNeg) :: st) h Q := WP_sld rfl hi
set_option maxRecDepth 20000 in
theorem S214_331 : WP d 214 331 (some (.ref a) :: lv) st h Q ↔ WP d 214 332 (some (.ref a) :: lv) (.ref a :: st) h Q := WP_st rfl
set_option maxRecDepth 20000 in
theorem S214_332 : WP d 214 332 (a0 :: a1 :: a2v :: a3 :: some (.int x) :: lv) st h Q ↔ WP d 214 334 (a0 :: a1 :: a2v :: a3 :: some (.int x) :: lv) (.int x :: st) h Q := WP_st rfl
set_option maxRecDepth 20000 in
theorem S214_334 : WP d 214 334 lv st h Q ↔ WP d 214 335 lv (.int 2 :: st) h Q := WP_st rfl
set_option maxRecDepth 20000 in
theorem S214_335 : WP d 214 335 lv (.int y :: .int x :: st) h Q ↔ WP d 214 336 lv (.int (x + y) :: st) h Q := WP_st rfl
set_option maxRecDepth 20000 in
theorem S214_336 (hi : 0 ≤ i.toInt ∧ i.toInt < h.2.2.2) : WP d 214 336 lv (.int i :: .ref 1000 :: st) h Q ↔ WP d 214 337 lv (.int (h.1 1000 i.toNatClampNeg) :: st) h Q := WP_sld rfl hi
set_option maxRecDepth 20000 in
theorem S214_337 : WP d 214 337 (a0 :: a1 :: a2v :: some (.ref a) :: lv) st h Q ↔ WP d 214 338 (a0 :: a1 :: a2v :: some (.ref a) :: lv) (.ref a :: st) h Q := WP_st rfl
set_option maxRecDepth 20000 in
theorem S214_341 : WP d 214 341 (a0 :: a1 :: a2v :: a3 :: a4 :: a5 :: lv) (.int x :: st) h Q ↔ WP d 214 343 (a0 :: a1 :: a2v :: a3 :: kl a4 :: some (.int x) :: lv) st h Q := WP_st (by rfl)
set_option maxRecDepth 20000 in
theorem S214_343 : WP d 214 343 (a0 :: a1 :: some (.ref a) :: lv) st h Q ↔ WP d 214 344 (a0 :: a1 :: some (.ref a) :: lv) (.ref a :: st) h Q := WP_st rfl
set_option maxRecDepth 20000 in
theorem S214_344 : WP d 214 344 (some (.ref a) :: lv) st h Q ↔ WP d 214 345 (some (.ref a) :: lv) (.ref a :: st) h Q := WP_st rfl
set_option maxRecDepth 20000 in
theorem S214_345 : WP d 214 345 (a0 :: a1 :: a2v :: a3 :: some (.int x) :: lv) st h Q ↔ WP d 214 347 (a0 :: a1 :: a2v :: a3 :: some (.int x) :: lv) (.int x :: st) h Q := WP_st rfl
set_option maxRecDepth 20000 in
theorem S214_347 : WP d 214 347 lv st h Q ↔ WP d 214 348 lv (.int 1 :: st) h Q := WP_st rfl
set_option maxRecDepth 20000 in
theorem S214_348 : WP d 214 348 lv (.int y :: .int x :: st) h Q ↔ WP d 214 349 lv (.int (x + y) :: st) h Q := WP_st rfl
set_option maxRecDepth 20000 in
theorem S214_349 (hi : 0 ≤ i.toInt ∧ i.toInt < h.2.2.2) : WP d 214 349 lv (.int i :: .ref 1000 :: st) h Q ↔ WP d 214 350 lv (.int (h.1 1000 i.toNatClampNeg) :: st) h Q := WP_sld rfl hi
set_option maxRecDepth 20000 in
theorem S214_350 : WP d 214 350 (some (.ref a) :: lv) st h Q ↔ WP d 214 351 (some (.ref a) :: lv) (.ref a :: st) h Q := WP_st rfl
set_option maxRecDepth 20000 in
theorem S214_351 : WP d 214 351 (a0 :: a1 :: a2v :: a3 :: some (.int x) :: lv) st h Q ↔ WP d 214 353 (a0 :: a1 :: a2v :: a3 :: some (.int x) :: lv) (.int x :: st) h Q := WP_st rfl
set_option maxRecDepth 20000 in
theorem S214_353 : WP d 214 353 lv st h Q ↔ WP d 214 354 lv (.int 2 :: st) h Q := WP_st rfl
set_option maxRecDepth 20000 in
theorem S214_354 : WP d 214 354 lv (.int y :: .int x :: st) h Q ↔ WP d 214 355 lv (.int (x + y) :: st) h Q := WP_st rfl
set_option maxRecDepth 20000 in
theorem S214_355 (hi : 0 ≤ i.toInt ∧ i.toInt < h.2.2.2) : WP d 214 355 lv (.int i :: .ref 1000 :: st) h Q ↔ WP d 214 356 lv (.int (h.1 1000 i.toNatClampNeg) :: st) h Q := WP_sld rfl hi
set_option maxRecDepth 20000 in
theorem S214_356 {pr0 : Nat} {pi0 : Int32} {pi1 : Int32} (hs : shp pr0 = some (0, 8)) : WP (d + 1) 214 356 lv [.int pi1, .int pi0, .ref pr0] h Q ↔ WP d 196 0 [some (.ref pr0), some (.int pi0), some (.int pi1), none, none] [] h (kR (d + 1) 214 359 lv [] Q) := WP_callVR rfl rfl rfl rfl rfl hs
set_option maxRecDepth 20000 in
theorem S214_359 : WP d 214 359 (a0 :: a1 :: a2v :: a3 :: a4 :: a5 :: a6 :: lv) (.int x :: st) h Q ↔ WP d 214 361 (a0 :: a1 :: a2v :: a3 :: a4 :: kl a5 :: some (.int x) :: lv) st h Q := WP_st (by rfl)
set_option maxRecDepth 20000 in
theorem S214_361 : WP d 214 361 (a0 :: a1 :: some (.ref a) :: lv) st h Q ↔ WP d 214 362 (a0 :: a1 :: some (.ref a) :: lv) (.ref a :: st) h Q := WP_st rfl
set_option maxRecDepth 20000 in
theorem S214_362 {pr0 : Nat} (hs : shp pr0 = some (0, 8)) : WP (d + 1) 214 362 lv [.ref pr0] h Q ↔ WP d 99 0 [some (.ref pr0)] [] h (kR (d + 1) 214 365 lv [] Q) := WP_callVR rfl rfl rfl rfl rfl hs
set_option maxRecDepth 20000 in
theorem S214_365 : WP d 214 365 (a0 :: a1 :: a2v :: a3 :: a4 :: some (.int x) :: lv) st h Q ↔ WP d 214 367 (a0 :: a1 :: a2v :: a3 :: a4 :: some (.int x) :: lv) (.int x :: st) h Q := WP_st rfl
set_option maxRecDepth 20000 in
theorem S214_367 : WP d 214 367 lv (.int y :: .int x :: st) h Q ↔ if x = y then WP d 214 372 lv st h Q else WP d 214 370 lv st h Q := WP_br rfl
set_option maxRecDepth 20000 in
theorem S214_370 : WP d 214 370 lv st h Q ↔ WP d 214 371 lv (.int 0 :: st) h Q := WP_st rfl
set_option maxRecDepth 20000 in
theorem S214_371 (hx : isB x) : WP d 214 371 lv [.int x] h Q ↔ Q (some (some (.int x))) h := WP_endZ rfl rfl hx
set_option maxRecDepth 20000 in
theorem S214_372 : WP d 214 372 (a0 :: a1 :: a2v :: a3 :: a4 :: some (.int x) :: lv) st h Q ↔ WP d 214 374 (a0 :: a1 :: a2v :: a3 :: a4 :: some (.int x) :: lv) (.int x :: st) h Q := WP_st rfl
set_option maxRecDepth 20000 in
theorem S214_374 : WP d 214 374 lv (.int x :: st) h Q ↔ if x = 0 then WP d 214 377 lv st h Q else WP d 214 389 lv st h Q := WP_br rfl
set_option maxRecDepth 20000 in
theorem S214_377 : WP d 214 377 (a0 :: a1 :: a2v :: some (.ref a) :: lv) st h Q ↔ WP d 214 378 (a0 :: a1 :: a2v :: some (.ref a) :: lv) (.ref a :: st) h Q := WP_st rfl
set_option maxRecDepth 20000 in
theorem S214_378 : WP d 214 378 lv st h Q ↔ WP d 214 379 lv (.int 0 :: st) h Q := WP_st rfl
set_option maxRecDepth 20000 in
theorem S214_379 (hi : okA 4 a i) : WP d 214 379 lv (.int i :: .ref a :: st) h Q ↔ WP d 214 380 lv (.long (h.2.1 a i.toNatClampNeg) :: st) h Q := WP_lald rfl hi
set_option maxRecDepth 20000 in
theorem S214_380 : WP d 214 380 (a0 :: a1 :: a2v :: a3 :: a4 :: a5 :: some (.int x) :: lv) st h Q ↔ WP d 214 382 (a0 :: a1 :: a2v :: a3 :: a4 :: a5 :: some (.int x) :: lv) (.int x :: st) h Q := WP_st rfl
set_option maxRecDepth 20000 in
theorem S214_382 : WP d 214 382 lv (.int x :: st) h Q ↔ WP d 214 383 lv (.long x.toInt64 :: st) h Q := WP_st rfl
set_option maxRecDepth 20000 in
theorem S214_383 : WP d 214 383 lv (.long w :: .long u :: st) h Q ↔ WP d 214 384 lv (.int (lg_cmp u w) :: st) h Q := WP_st rfl
set_option maxRecDepth 20000 in
theorem S214_384 : WP d 214 384 lv (.int x :: st) h Q ↔ if x = 0 then WP d 214 389 lv st h Q else WP d 214 387 lv st h Q := WP_br rfl
set_option maxRecDepth 20000 in
theorem S214_387 : WP d 214 387 lv st h Q ↔ WP d 214 388 lv (.int 0 :: st) h Q := WP_st rfl
set_option maxRecDepth 20000 in
theorem S214_388 (hx : isB x) : WP d 214 388 lv [.int x] h Q ↔ Q (some (some (.int x))) h := WP_endZ rfl rfl hx
set_option maxRecDepth 20000 in
theorem S214_389 : WP d 214 389 lv st h Q ↔ WP d 214 1465 lv st h Q := WP_st rfl
set_option maxRecDepth 20000 in
theorem S214_392 : WP d 214 392 (a0 :: some (.ref a) :: lv) st h Q ↔ WP d 214 393 (a0 :: some (.ref a) :: lv) (.ref a :: st) h Q := WP_st rfl
set_option maxRecDepth 20000 in
theorem S214_393 : WP d 214 393 (some (.ref a) :: lv) st h Q ↔ WP d 214 394 (some (.ref a) :: lv) (.ref a :: st) h Q := WP_st rfl
set_option maxRecDepth 20000 in
theorem S214_394 : WP d 214 394 (a0 :: a1 :: a2v :: a3 :: some (.int x) :: lv) st h Q ↔ WP d 214 396 (a0 :: a1 :: a2v :: a3 :: some (.int x) :: lv) (.int x :: st) h Q := WP_st rfl
set_option maxRecDepth 20000 in
theorem S214_396 : WP d 214 396 lv st h Q ↔ WP d 214 397 lv (.int 1 :: st) h Q := WP_st rfl
set_option maxRecDepth 20000 in
theorem S214_397 : WP d 214 397 lv (.int y :: .int x :: st) h Q ↔ WP d 214 398 lv (.int (x + y) :: st) h Q := WP_st rfl
set_option maxRecDepth 20000 in
theorem S214_398 (hi : 0 ≤ i.toInt ∧ i.toInt < h.2.2.2) : WP d 214 398 lv (.int i :: .ref 1000 :: st) h Q ↔ WP d 214 399 lv (.int (h.1 1000 i.toNatClampNeg) :: st) h Q := WP_sld rfl hi
set_option maxRecDepth 20000 in
theorem S214_399 : WP d 214 399 (some (.ref a) :: lv) st h Q ↔ WP d 214 400 (some (.ref a) :: lv) (.ref a :: st) h Q := WP_st rfl
set_option maxRecDepth 20000 in
theorem S214_400 : WP d 214 400 (a0 :: a1 :: a2v :: a3 :: some (.int x) :: lv) st h Q ↔ WP d 214 402 (a0 :: a1 :: a2v :: a3 :: some (.int x) :: lv) (.int x :: st) h Q := WP_st rfl
set_option maxRecDepth 20000 in
theorem S214_402 : WP d 214 402 lv st h Q ↔ WP d 214 403 lv (.int 2 :: st) h Q := WP_st rfl
set_option maxRecDepth 20000 in
theorem S214_403 : WP d 214 403 lv (.int y :: .int x :: st) h Q ↔ WP d 214 404 lv (.int (x + y) :: st) h Q := WP_st rfl
set_option maxRecDepth 20000 in
theorem S214_404 (hi : 0 ≤ i.toInt ∧ i.toInt < h.2.2.2) : WP d 214 404 lv (.int i :: .ref 1000 :: st) h Q ↔ WP d 214 405 lv (.int (h.1 1000 i.toNatClampNeg) :: st) h Q := WP_sld rfl hi
set_option maxRecDepth 20000 in
theorem S214_405 : WP d 214 405 (a0 :: a1 :: a2v :: some (.ref a) :: lv) st h Q ↔ WP d 214 406 (a0 :: a1 :: a2v :: some (.ref a) :: lv) (.ref a :: st) h Q := WP_st rfl
set_option maxRecDepth 20000 in
theorem S214_409 : WP d 214 409 (a0 :: a1 :: a2v :: a3 :: a4 :: a5 :: lv) (.int x :: st) h Q ↔ WP d 214 411 (a0 :: a1 :: a2v :: a3 :: kl a4 :: some (.int x) :: lv) st h Q := WP_st (by rfl)
set_option maxRecDepth 20000 in
theorem S214_411 : WP d 214 411 (a0 :: a1 :: some (.ref a) :: lv) st h Q ↔ WP d 214 412 (a0 :: a1 :: some (.ref a) :: lv) (.ref a :: st) h Q := WP_st rfl
set_option maxRecDepth 20000 in
theorem S214_412 : WP d 214 412 (some (.ref a) :: lv) st h Q ↔ WP d 214 413 (some (.ref a) :: lv) (.ref a :: st) h Q := WP_st rfl
set_option maxRecDepth 20000 in
theorem S214_413 : WP d 214 413 (a0 :: a1 :: a2v :: a3 :: some (.int x) :: lv) st h Q ↔ WP d 214 415 (a0 :: a1 :: a2v :: a3 :: some (.int x) :: lv) (.int x :: st) h Q := WP_st rfl
set_option maxRecDepth 20000 in
theorem S214_415 : WP d 214 415 lv st h Q ↔ WP d 214 416 lv (.int 1 :: st) h Q := WP_st rfl
set_option maxRecDepth 20000 in
theorem S214_416 : WP d 214 416 lv (.int y :: .int x :: st) h Q ↔ WP d 214 417 lv (.int (x + y) :: st) h Q := WP_st rfl
set_option maxRecDepth 20000 in
theorem S214_417 (hi : 0 ≤ i.toInt ∧ i.toInt < h.2.2.2) : WP d 214 417 lv (.int i :: .ref 1000 :: st) h Q ↔ WP d 214 418 lv (.int (h.1 1000 i.toNatClampNeg) :: st) h Q := WP_sld rfl hi
set_option maxRecDepth 20000 in
theorem S214_418 : WP d 214 418 (some (.ref a) :: lv) st h Q ↔ WP d 214 419 (some (.ref a) :: lv) (.ref a :: st) h Q := WP_st rfl
set_option maxRecDepth 20000 in
theorem S214_419 : WP d 214 419 (a0 :: a1 :: a2v :: a3 :: some (.int x) :: lv) st h Q ↔ WP d 214 421 (a0 :: a1 :: a2v :: a3 :: some (.int x) :: lv) (.int x :: st) h Q := WP_st rfl
set_option maxRecDepth 20000 in
theorem S214_421 : WP d 214 421 lv st h Q ↔ WP d 214 422 lv (.int 2 :: st) h Q := WP_st rfl
set_option maxRecDepth 20000 in
theorem S214_422 : WP d 214 422 lv (.int y :: .int x :: st) h Q ↔ WP d 214 423 lv (.int (x + y) :: st) h Q := WP_st rfl
set_option maxRecDepth 20000 in
theorem S214_423 (hi : 0 ≤ i.toInt ∧ i.toInt < h.2.2.2) : WP d 214 423 lv (.int i :: .ref 1000 :: st) h Q ↔ WP d 214 424 lv (.int (h.1 1000 i.toNatClampNeg) :: st) h Q := WP_sld rfl hi
set_option maxRecDepth 20000 in
theorem S214_424 {pr0 : Nat} {pi0 : Int32} {pi1 : Int32} (hs : shp pr0 = some (0, 8)) : WP (d + 1) 214 424 lv [.int pi1, .int pi0, .ref pr0] h Q ↔ WP d 197 0 [some (.ref pr0), some (.int pi0), some (.int pi1)] [] h (kR (d + 1) 214 427 lv [] Q) := WP_callVR rfl rfl rfl rfl rfl hs
set_option maxRecDepth 20000 in
theorem S214_427 : WP d 214 427 (a0 :: a1 :: a2v :: a3 :: a4 :: a5 :: a6 :: lv) (.int x :: st) h Q ↔ WP d 214 429 (a0 :: a1 :: a2v :: a3 :: a4 :: kl a5 :: some (.int x) :: lv) st h Q := WP_st (by rfl)
set_option maxRecDepth 20000 in
theorem S214_429 : WP d 214 429 (a0 :: a1 :: some (.ref a) :: lv) st h Q ↔ WP d 214 430 (a0 :: a1 :: some (.ref a) :: lv) (.ref a :: st) h Q := WP_st rfl
set_option maxRecDepth 20000 in
theorem S214_430 {pr0 : Nat} (hs : shp pr0 = some (0, 8)) : WP (d + 1) 214 430 lv [.ref pr0] h Q ↔ WP d 99 0 [some (.ref pr0)] [] h (kR (d + 1) 214 433 lv [] Q) := WP_callVR rfl rfl rfl rfl rfl hs
set_option maxRecDepth 20000 in
theorem S214_433 : WP d 214 433 (a0 :: a1 :: a2v :: a3 :: a4 :: some (.int x) :: lv) st h Q ↔ WP d 214 435 (a0 :: a1 :: a2v :: a3 :: a4 :: some (.int x) :: lv) (.int x :: st) h Q := WP_st rfl
set_option maxRecDepth 20000 in
theorem S214_435 : WP d 214 435 lv (.int y :: .int x :: st) h Q ↔ if x = y then WP d 214 440 lv st h Q else WP d 214 438 lv st h Q := WP_br rfl
set_option maxRecDepth 20000 in
theorem S214_438 : WP d 214 438 lv st h Q ↔ WP d 214 439 lv (.int 0 :: st) h Q := WP_st rfl
set_option maxRecDepth 20000 in
theorem S214_439 (hx : isB x) : WP d 214 439 lv [.int x] h Q ↔ Q (some (some (.int x))) h := WP_endZ rfl rfl hx
set_option maxRecDepth 20000 in
theorem S214_440 : WP d 214 440 (a0 :: a1 :: a2v :: a3 :: a4 :: some (.int x) :: lv) st h Q ↔ WP d 214 442 (a0 :: a1 :: a2v :: a3 :: a4 :: some (.int x) :: lv) (.int x :: st) h Q := WP_st rfl
set_option maxRecDepth 20000 in
theorem S214_442 : WP d 214 442 lv (.int x :: st) h Q ↔ if x = 0 then WP d 214 445 lv st h Q else WP d 214 457 lv st h Q := WP_br rfl
set_option maxRecDepth 20000 in
theorem S214_445 : WP d 214 445 (a0 :: a1 :: a2v :: some (.ref a) :: lv) st h Q ↔ WP d 214 446 (a0 :: a1 :: a2v :: some (.ref a) :: lv) (.ref a :: st) h Q := WP_st rfl
set_option maxRecDepth 20000 in
theorem S214_446 : WP d 214 446 lv st h Q ↔ WP d 214 447 lv (.int 0 :: st) h Q := WP_st rfl
set_option maxRecDepth 20000 in
theorem S214_447 (hi : okA 4 a i) : WP d 214 447 lv (.int i :: .ref a :: st) h Q ↔ WP d 214 448 lv (.long (h.2.1 a i.toNatClampNeg) :: st) h Q := WP_lald rfl hi
set_option maxRecDepth 20000 in
theorem S214_448 : WP d 214 448 (a0 :: a1 :: a2v :: a3 :: a4 :: a5 :: some (.int x) :: lv) st h Q ↔ WP d 214 450 (a0 :: a1 :: a2v :: a3 :: a4 :: a5 :: some (.int x) :: lv) (.int x :: st) h Q := WP_st rfl
set_option maxRecDepth 20000 in
theorem S214_450 : WP d 214 450 lv (.int x :: st) h Q ↔ WP d 214 451 lv (.long x.toInt64 :: st) h Q := WP_st rfl
set_option maxRecDepth 20000 in
theorem S214_451 : WP d 214 451 lv (.long w :: .long u :: st) h Q ↔ WP d 214 452 lv (.int (lg_cmp u w) :: st) h Q := WP_st rfl
set_option maxRecDepth 20000 in
theorem S214_452 : WP d 214 452 lv (.int x :: st) h Q ↔ if x = 0 then WP d 214 457 lv st h Q else WP d 214 455 lv st h Q := WP_br rfl
set_option maxRecDepth 20000 in
theorem S214_455 : WP d 214 455 lv st h Q ↔ WP d 214 456 lv (.int 0 :: st) h Q := WP_st rfl
set_option maxRecDepth 20000 in
theorem S214_456 (hx : isB x) : WP d 214 456 lv [.int x] h Q ↔ Q (some (some (.int x))) h := WP_endZ rfl rfl hx
set_option maxRecDepth 20000 in
theorem S214_457 : WP d 214 457 lv st h Q ↔ WP d 214 1465 lv st h Q := WP_st rfl
set_option maxRecDepth 20000 in
theorem S214_460 : WP d 214 460 (a0 :: some (.ref a) :: lv) st h Q ↔ WP d 214 461 (a0 :: some (.ref a) :: lv) (.ref a :: st) h Q := WP_st rfl
set_option maxRecDepth 20000 in
theorem S214_461 : WP d 214 461 (some (.ref a) :: lv) st h Q ↔ WP d 214 462 (some (.ref a) :: lv) (.ref a :: st) h Q := WP_st rfl
set_option maxRecDepth 20000 in
theorem S214_462 : WP d 214 462 (a0 :: a1 :: a2v :: a3 :: some (.int x) :: lv) st h Q ↔ WP d 214 464 (a0 :: a1 :: a2v :: a3 :: some (.int x) :: lv) (.int x :: st) h Q := WP_st rfl
set_option maxRecDepth 20000 in
theorem S214_464 : WP d 214 464 lv st h Q ↔ WP d 214 465 lv (.int 1 :: st) h Q := WP_st rfl
set_option maxRecDepth 20000 in
theorem S214_465 : WP d 214 465 lv (.int y :: .int x :: st) h Q ↔ WP d 214 466 lv (.int (x + y) :: st) h Q := WP_st rfl
set_option maxRecDepth 20000 in
theorem S214_466 (hi : 0 ≤ i.toInt ∧ i.toInt < h.2.2.2) : WP d 214 466 lv (.int i :: .ref 1000 :: st) h Q ↔ WP d 214 467 lv (.int (h.1 1000 i.toNatClampNeg) :: st) h Q := WP_sld rfl hi
set_option maxRecDepth 20000 in
theorem S214_467 : WP d 214 467 (some (.ref a) :: lv) st h Q ↔ WP d 214 468 (some (.ref a) :: lv) (.ref a :: st) h Q := WP_st rfl
set_option maxRecDepth 20000 in
theorem S214_468 : WP d 214 468 (a0 :: a1 :: a2v :: a3 :: some (.int x) :: lv) st h Q ↔ WP d 214 470 (a0 :: a1 :: a2v :: a3 :: some (.int x) :: lv) (.int x :: st) h Q := WP_st rfl
set_option maxRecDepth 20000 in
theorem S214_470 : WP d 214 470 lv st h Q ↔ WP d 214 471 lv (.int 2 :: st) h Q := WP_st rfl
set_option maxRecDepth 20000 in
theorem S214_471 : WP d 214 471 lv (.int y :: .int x :: st) h Q ↔ WP d 214 472 lv (.int (x + y) :: st) h Q := WP_st rfl
set_option maxRecDepth 20000 in
theorem S214_472 (hi : 0 ≤ i.toInt ∧ i.toInt < h.2.2.2) : WP d 214 472 lv (.int i :: .ref 1000 :: st) h Q ↔ WP d 214 473 lv (.int (h.1 1000 i.toNatClampNeg) :: st) h Q := WP_sld rfl hi
set_option maxRecDepth 20000 in
theorem S214_473 : WP d 214 473 (a0 :: a1 :: a2v :: some (.ref a) :: lv) st h Q ↔ WP d 214 474 (a0 :: a1 :: a2v :: some (.ref a) :: lv) (.ref a :: st) h Q := WP_st rfl
set_option maxRecDepth 20000 in
theorem S214_477 : WP d 214 477 (a0 :: a1 :: a2v :: a3 :: a4 :: a5 :: lv) (.int x :: st) h Q ↔ WP d 214 479 (a0 :: a1 :: a2v :: a3 :: kl a4 :: some (.int x) :: lv) st h Q := WP_st (by rfl)
set_option maxRecDepth 20000 in
theorem S214_479 : WP d 214 479 (a0 :: a1 :: some (.ref a) :: lv) st h Q ↔ WP d 214 480 (a0 :: a1 :: some (.ref a) :: lv) (.ref a :: st) h Q := WP_st rfl
set_option maxRecDepth 20000 in
theorem S214_480 : WP d 214 480 (some (.ref a) :: lv) st h Q ↔ WP d 214 481 (some (.ref a) :: lv) (.ref a :: st) h Q := WP_st rfl
set_option maxRecDepth 20000 in
theorem S214_481 : WP d 214 481 (a0 :: a1 :: a2v :: a3 :: some (.int x) :: lv) st h Q ↔ WP d 214 483 (a0 :: a1 :: a2v :: a3 :: some (.int x) :: lv) (.int x :: st) h Q := WP_st rfl
set_option maxRecDepth 20000 in
theorem S214_483 : WP d 214 483 lv st h Q ↔ WP d 214 484 lv (.int 1 :: st) h Q := WP_st rfl
set_option maxRecDepth 20000 in
theorem S214_484 : WP d 214 484 lv (.int y :: .int x :: st) h Q ↔ WP d 214 485 lv (.int (x + y) :: st) h Q := WP_st rfl
set_option maxRecDepth 20000 in
theorem S214_485 (hi : 0 ≤ i.toInt ∧ i.toInt < h.2.2.2) : WP d 214 485 lv (.int i :: .ref 1000 :: st) h Q ↔ WP d 214 486 lv (.int (h.1 1000 i.toNatClampNeg) :: st) h Q := WP_sld rfl hi
set_option maxRecDepth 20000 in
theorem S214_486 : WP d 214 486 (some (.ref a) :: lv) st h Q ↔ WP d 214 487 (some (.ref a) :: lv) (.ref a :: st) h Q := WP_st rfl
set_option maxRecDepth 20000 in
theorem S214_487 : WP d 214 487 (a0 :: a1 :: a2v :: a3 :: some (.int x) :: lv) st h Q ↔ WP d 214 489 (a0 :: a1 :: a2v :: a3 :: some (.int x) :: lv) (.int x :: st) h Q := WP_st rfl
set_option maxRecDepth 20000 in
theorem S214_489 : WP d 214 489 lv st h Q ↔ WP d 214 490 lv (.int 2 :: st) h Q := WP_st rfl
set_option maxRecDepth 20000 in
theorem S214_490 : WP d 214 490 lv (.int y :: .int x :: st) h Q ↔ WP d 214 491 lv (.int (x + y) :: st) h Q := WP_st rfl
set_option maxRecDepth 20000 in
theorem S214_491 (hi : 0 ≤ i.toInt ∧ i.toInt < h.2.2.2) : WP d 214 491 lv (.int i :: .ref 1000 :: st) h Q ↔ WP d 214 492 lv (.int (h.1 1000 i.toNatClampNeg) :: st) h Q := WP_sld rfl hi
set_option maxRecDepth 20000 in
theorem S214_492 {pr0 : Nat} {pi0 : Int32} {pi1 : Int32} (hs : shp pr0 = some (0, 8)) : WP (d + 1) 214 492 lv [.int pi1, .int pi0, .ref pr0] h Q ↔ WP d 154 0 [some (.ref pr0), some (.int pi0), some (.int pi1)] [] h (kR (d + 1) 214 495 lv [] Q) := WP_callVR rfl rfl rfl rfl rfl hs
set_option maxRecDepth 20000 in
theorem S214_495 : WP d 214 495 (a0 :: a1 :: a2v :: a3 :: a4 :: a5 :: a6 :: a7 :: lv) (.long u :: st) h Q ↔ WP d 214 497 (a0 :: a1 :: a2v :: a3 :: a4 :: kl a5 :: some (.long u) :: none :: lv) st h Q := WP_st (by rfl)
set_option maxRecDepth 20000 in
theorem S214_497 : WP d 214 497 (a0 :: a1 :: some (.ref a) :: lv) st h Q ↔ WP d 214 498 (a0 :: a1 :: some (.ref a) :: lv) (.ref a :: st) h Q := WP_st rfl
set_option maxRecDepth 20000 in
theorem S214_498 {pr0 : Nat} (hs : shp pr0 = some (0, 8)) : WP (d + 1) 214 498 lv [.ref pr0] h Q ↔ WP d 99 0 [some (.ref pr0)] [] h (kR (d + 1) 214 501 lv [] Q) := WP_callVR rfl rfl rfl rfl rfl hs
set_option maxRecDepth 20000 in
theorem S214_501 : WP d 214 501 (a0 :: a1 :: a2v :: a3 :: a4 :: some (.int x) :: lv) st h Q ↔ WP d 214 503 (a0 :: a1 :: a2v :: a3 :: a4 :: some (.int x) :: lv) (.int x :: st) h Q := WP_st rfl
set_option maxRecDepth 20000 in
theorem S214_503 : WP d 214 503 lv (.int y :: .int x :: st) h Q ↔ if x = y then WP d 214 508 lv st h Q else WP d 214 506 lv st h Q := WP_br rfl
set_option maxRecDepth 20000 in
theorem S214_506 : WP d 214 506 lv st h Q ↔ WP d 214 507 lv (.int 0 :: st) h Q := WP_st rfl
set_option maxRecDepth 20000 in
theorem S214_507 (hx : isB x) : WP d 214 507 lv [.int x] h Q ↔ Q (some (some (.int x))) h := WP_endZ rfl rfl hx
set_option maxRecDepth 20000 in
theorem S214_508 : WP d 214 508 (a0 :: a1 :: a2v :: a3 :: a4 :: some (.int x) :: lv) st h Q ↔ WP d 214 510 (a0 :: a1 :: a2v :: a3 :: a4 :: some (.int x) :: lv) (.int x :: st) h Q := WP_st rfl
set_option maxRecDepth 20000 in
theorem S214_510 : WP d 214 510 lv (.int x :: st) h Q ↔ if x = 0 then WP d 214 513 lv st h Q else WP d 214 524 lv st h Q := WP_br rfl
set_option maxRecDepth 20000 in
theorem S214_513 : WP d 214 513 (a0 :: a1 :: a2v :: some (.ref a) :: lv) st h Q ↔ WP d 214 514 (a0 :: a1 :: a2v :: some (.ref a) :: lv) (.ref a :: st) h Q := WP_st rfl
set_option maxRecDepth 20000 in
theorem S214_514 : WP d 214 514 lv st h Q ↔ WP d 214 515 lv (.int 0 :: st) h Q := WP_st rfl
set_option maxRecDepth 20000 in
theorem S214_515 (hi : okA 4 a i) : WP d 214 515 lv (.int i :: .ref a :: st) h Q ↔ WP d 214 516 lv (.long (h.2.1 a i.toNatClampNeg) :: st) h Q := WP_lald rfl hi
set_option maxRecDepth 20000 in
theorem S214_516 : WP d 214 516 (a0 :: a1 :: a2v :: a3 :: a4 :: a5 :: some (.long u) :: lv) st h Q ↔ WP d 214 518 (a0 :: a1 :: a2v :: a3 :: a4 :: a5 :: some (.long u) :: lv) (.long u :: st) h Q := WP_st rfl
set_option maxRecDepth 20000 in
theorem S214_518 : WP d 214 518 lv (.long w :: .long u :: st) h Q ↔ WP d 214 519 lv (.int (lg_cmp u w) :: st) h Q := WP_st rfl
set_option maxRecDepth 20000 in
theorem S214_519 : WP d 214 519 lv (.int x :: st) h Q ↔ if x = 0 then WP d 214 524 lv st h Q else WP d 214 522 lv st h Q := WP_br rfl
set_option maxRecDepth 20000 in
theorem S214_522 : WP d 214 522 lv st h Q ↔ WP d 214 523 lv (.int 0 :: st) h Q := WP_st rfl
set_option maxRecDepth 20000 in
theorem S214_523 (hx : isB x) : WP d 214 523 lv [.int x] h Q ↔ Q (some (some (.int x))) h := WP_endZ rfl rfl hx
set_option maxRecDepth 20000 in
theorem S214_524 : WP d 214 524 lv st h Q ↔ WP d 214 1465 lv st h Q := WP_st rfl
set_option maxRecDepth 20000 in
theorem S214_527 : WP d 214 527 (a0 :: some (.ref a) :: lv) st h Q ↔ WP d 214 528 (a0 :: some (.ref a) :: lv) (.ref a :: st) h Q := WP_st rfl
set_option maxRecDepth 20000 in
theorem S214_528 : WP d 214 528 (some (.ref a) :: lv) st h Q ↔ WP d 214 529 (some (.ref a) :: lv) (.ref a :: st) h Q := WP_st rfl
set_option maxRecDepth 20000 in
theorem S214_529 : WP d 214 529 (a0 :: a1 :: a2v :: a3 :: some (.int x) :: lv) st h Q ↔ WP d 214 531 (a0 :: a1 :: a2v :: a3 :: some (.int x) :: lv) (.int x :: st) h Q := WP_st rfl
set_option maxRecDepth 20000 in
theorem S214_531 : WP d 214 531 lv st h Q ↔ WP d 214 532 lv (.int 1 :: st) h Q := WP_st rfl
set_option maxRecDepth 20000 in
theorem S214_532 : WP d 214 532 lv (.int y :: .int x :: st) h Q ↔ WP d 214 533 lv (.int (x + y) :: st) h Q := WP_st rfl
set_option maxRecDepth 20000 in
theorem S214_533 (hi : 0 ≤ i.toInt ∧ i.toInt < h.2.2.2) : WP d 214 533 lv (.int i :: .ref 1000 :: st) h Q ↔ WP d 214 534 lv (.int (h.1 1000 i.toNatClampNeg) :: st) h Q := WP_sld rfl hi
set_option maxRecDepth 20000 in
theorem S214_534 {pr0 : Nat} {pi0 : Int32} (hs : shp pr0 = some (0, 7)) : WP (d + 1) 214 534 lv [.int pi0, .ref pr0] h Q ↔ WP d 61 0 [some (.ref pr0), some (.int pi0)] [] h (kR (d + 1) 214 537 lv [] Q) := WP_callVR rfl rfl rfl rfl rfl hs
set_option maxRecDepth 20000 in
theorem S214_537 : WP d 214 537 (a0 :: a1 :: some (.ref a) :: lv) st h Q ↔ WP d 214 538 (a0 :: a1 :: some (.ref a) :: lv) (.ref a :: st) h Q := WP_st rfl
set_option maxRecDepth 20000 in
theorem S214_538 : WP d 214 538 (some (.ref a) :: lv) st h Q ↔ WP d 214 539 (some (.ref a) :: lv) (.ref a :: st) h Q := WP_st rfl
set_option maxRecDepth 20000 in
theorem S214_539 : WP d 214 539 (a0 :: a1 :: a2v :: a3 :: some (.int x) :: lv) st h Q ↔ WP d 214 541 (a0 :: a1 :: a2v :: a3 :: some (.int x) :: lv) (.int x :: st) h Q := WP_st rfl
set_option maxRecDepth 20000 in
theorem S214_541 : WP d 214 541 lv st h Q ↔ WP d 214 542 lv (.int 1 :: st) h Q := WP_st rfl
set_option maxRecDepth 20000 in
theorem S214_542 : WP d 214 542 lv (.int y :: .int x :: st) h Q ↔ WP d 214 543 lv (.int (x + y) :: st) h Q := WP_st rfl
set_option maxRecDepth 20000 in
theorem S214_543 (hi : 0 ≤ i.toInt ∧ i.toInt < h.2.2.2) : WP d 214 543 lv (.int i :: .ref 1000 :: st) h Q ↔ WP d 214 544 lv (.int (h.1 1000 i.toNatClampNeg) :: st) h Q := WP_sld rfl hi
set_option maxRecDepth 20000 in
theorem S214_544 {pr0 : Nat} {pi0 : Int32} {qi1 : Int32} (hs : shp pr0 = some (0, 8)) : WP (d + 1) 214 544 lv [.int pi0, .ref pr0, .int qi1] h Q ↔ WP d 155 0 [some (.ref pr0), some (.int pi0), none, none, none, none, none, none] [] h (kR (d + 1) 214 547 lv [.int qi1] Q) := WP_callVR rfl rfl rfl rfl rfl hs
set_option maxRecDepth 20000 in
theorem S214_547 : WP d 214 547 lv (.int y :: .int x :: st) h Q ↔ if x = y then WP d 214 1465 lv st h Q else WP d 214 550 lv st h Q := WP_br rfl
set_option maxRecDepth 20000 in
theorem S214_550 : WP d 214 550 lv st h Q ↔ WP d 214 551 lv (.int 0 :: st) h Q := WP_st rfl
set_option maxRecDepth 20000 in
theorem S214_551 (hx : isB x) : WP d 214 551 lv [.int x] h Q ↔ Q (some (some (.int x))) h := WP_endZ rfl rfl hx
set_option maxRecDepth 20000 in
theorem S214_552 : WP d 214 552 (a0 :: some (.ref a) :: lv) st h Q ↔ WP d 214 553 (a0 :: some (.ref a) :: lv) (.ref a :: st) h Q := WP_st rfl
set_option maxRecDepth 20000 in
theorem S214_553 : WP d 214 553 (some (.ref a) :: lv) st h Q ↔ WP d 214 554 (some (.ref a) :: lv) (.ref a :: st) h Q := WP_st rfl
set_option maxRecDepth 20000 in
theorem S214_554 : WP d 214 554 (a0 :: a1 :: a2v :: a3 :: some (.int x) :: lv) st h Q ↔ WP d 214 556 (a0 :: a1 :: a2v :: a3 :: some (.int x) :: lv) (.int x :: st) h Q := WP_st rfl
set_option maxRecDepth 20000 in
theorem S214_556 : WP d 214 556 lv st h Q ↔ WP d 214 557 lv (.int 1 :: st) h Q := WP_st rfl
set_option maxRecDepth 20000 in
theorem S214_557 : WP d 214 557 lv (.int y :: .int x :: st) h Q ↔ WP d 214 558 lv (.int (x + y) :: st) h Q := WP_st rfl
set_option maxRecDepth 20000 in
theorem S214_558 (hi : 0 ≤ i.toInt ∧ i.toInt < h.2.2.2) : WP d 214 558 lv (.int i :: .ref 1000 :: st) h Q ↔ WP d 214 559 lv (.int (h.1 1000 i.toNatClampNeg) :: st) h Q := WP_sld rfl hi
set_option maxRecDepth 20000 in
theorem S214_559 : WP d 214 559 (some (.ref a) :: lv) st h Q ↔ WP d 214 560 (some (.ref a) :: lv) (.ref a :: st) h Q := WP_st rfl
set_option maxRecDepth 20000 in
theorem S214_560 : WP d 214 560 (a0 :: a1 :: a2v :: a3 :: some (.int x) :: lv) st h Q ↔ WP d 214 562 (a0 :: a1 :: a2v :: a3 :: some (.int x) :: lv) (.int x :: st) h Q := WP_st rfl
set_option maxRecDepth 20000 in
theorem S214_562 : WP d 214 562 lv st h Q ↔ WP d 214 563 lv (.int 2 :: st) h Q := WP_st rfl
set_option maxRecDepth 20000 in
theorem S214_563 : WP d 214 563 lv (.int y :: .int x :: st) h Q ↔ WP d 214 564 lv (.int (x + y) :: st) h Q := WP_st rfl
set_option maxRecDepth 20000 in
theorem S214_564 (hi : 0 ≤ i.toInt ∧ i.toInt < h.2.2.2) : WP d 214 564 lv (.int i :: .ref 1000 :: st) h Q ↔ WP d 214 565 lv (.int (h.1 1000 i.toNatClampNeg) :: st) h Q := WP_sld rfl hi
set_option maxRecDepth 20000 in
theorem S214_565 : WP d 214 565 (a0 :: a1 :: a2v :: some (.ref a) :: lv) st h Q ↔ WP d 214 566 (a0 :: a1 :: a2v :: some (.ref a) :: lv) (.ref a :: st) h Q := WP_st rfl
set_option maxRecDepth 20000 in
theorem S214_569 : WP d 214 569 (a0 :: a1 :: a2v :: a3 :: a4 :: a5 :: lv) (.int x :: st) h Q ↔ WP d 214 571 (a0 :: a1 :: a2v :: a3 :: kl a4 :: some (.int x) :: lv) st h Q := WP_st (by rfl)
set_option maxRecDepth 20000 in
theorem S214_571 : WP d 214 571 (a0 :: a1 :: some (.ref a) :: lv) st h Q ↔ WP d 214 572 (a0 :: a1 :: some (.ref a) :: lv) (.ref a :: st) h Q := WP_st rfl
set_option maxRecDepth 20000 in
theorem S214_572 : WP d 214 572 (some (.ref a) :: lv) st h Q ↔ WP d 214 573 (some (.ref a) :: lv) (.ref a :: st) h Q := WP_st rfl
set_option maxRecDepth 20000 in
theorem S214_573 : WP d 214 573 (a0 :: a1 :: a2v :: a3 :: some (.int x) :: lv) st h Q ↔ WP d 214 575 (a0 :: a1 :: a2v :: a3 :: some (.int x) :: lv) (.int x :: st) h Q := WP_st rfl
set_option maxRecDepth 20000 in
theorem S214_575 : WP d 214 575 lv st h Q ↔ WP d 214 576 lv (.int 1 :: st) h Q := WP_st rfl
set_option maxRecDepth 20000 in
theorem S214_576 : WP d 214 576 lv (.int y :: .int x :: st) h Q ↔ WP d 214 577 lv (.int (x + y) :: st) h Q := WP_st rfl
set_option maxRecDepth 20000 in
theorem S214_577 (hi : 0 ≤ i.toInt ∧ i.toInt < h.2.2.2) : WP d 214 577 lv (.int i :: .ref 1000 :: st) h Q ↔ WP d 214 578 lv (.int (h.1 1000 i.toNatClampNeg) :: st) h Q := WP_sld rfl hi
set_option maxRecDepth 20000 in
theorem S214_578 : WP d 214 578 (some (.ref a) :: lv) st h Q ↔ WP d 214 579 (some (.ref a) :: lv) (.ref a :: st) h Q := WP_st rfl
set_option maxRecDepth 20000 in
theorem S214_579 : WP d 214 579 (a0 :: a1 :: a2v :: a3 :: some (.int x) :: lv) st h Q ↔ WP d 214 581 (a0 :: a1 :: a2v :: a3 :: some (.int x) :: lv) (.int x :: st) h Q := WP_st rfl
set_option maxRecDepth 20000 in
theorem S214_581 : WP d 214 581 lv st h Q ↔ WP d 214 582 lv (.int 2 :: st) h Q := WP_st rfl
set_option maxRecDepth 20000 in
theorem S214_582 : WP d 214 582 lv (.int y :: .int x :: st) h Q ↔ WP d 214 583 lv (.int (x + y) :: st) h Q := WP_st rfl
set_option maxRecDepth 20000 in
theorem S214_583 (hi : 0 ≤ i.toInt ∧ i.toInt < h.2.2.2) : WP d 214 583 lv (.int i :: .ref 1000 :: st) h Q ↔ WP d 214 584 lv (.int (h.1 1000 i.toNatClampNeg) :: st) h Q := WP_sld rfl hi
set_option maxRecDepth 20000 in
theorem S214_584 {pr0 : Nat} {pi0 : Int32} {pi1 : Int32} (hs : shp pr0 = some (0, 8)) : WP (d + 1) 214 584 lv [.int pi1, .int pi0, .ref pr0] h Q ↔ WP d 157 0 [some (.ref pr0), some (.int pi0), some (.int pi1)] [] h (kR (d + 1) 214 587 lv [] Q) := WP_callVR rfl rfl rfl rfl rfl hs
set_option maxRecDepth 20000 in
theorem S214_587 : WP d 214 587 (a0 :: a1 :: a2v :: a3 :: a4 :: a5 :: a6 :: a7 :: lv) (.long u :: st) h Q ↔ WP d 214 589 (a0 :: a1 :: a2v :: a3 :: a4 :: kl a5 :: some (.long u) :: none :: lv) st h Q := WP_st (by rfl)
set_option maxRecDepth 20000 in
theorem S214_589 : WP d 214 589 (a0 :: a1 :: some (.ref a) :: lv) st h Q ↔ WP d 214 590 (a0 :: a1 :: some (.ref a) :: lv) (.ref a :: st) h Q := WP_st rfl
set_option maxRecDepth 20000 in
theorem S214_590 {pr0 : Nat} (hs : shp pr0 = some (0, 8)) : WP (d + 1) 214 590 lv [.ref pr0] h Q ↔ WP d 99 0 [some (.ref pr0)] [] h (kR (d + 1) 214 593 lv [] Q) := WP_callVR rfl rfl rfl rfl rfl hs
set_option maxRecDepth 20000 in
theorem S214_593 : WP d 214 593 (a0 :: a1 :: a2v :: a3 :: a4 :: some (.int x) :: lv) st h Q ↔ WP d 214 595 (a0 :: a1 :: a2v :: a3 :: a4 :: some (.int x) :: lv) (.int x :: st) h Q := WP_st rfl
set_option maxRecDepth 20000 in
theorem S214_595 : WP d 214 595 lv (.int y :: .int x :: st) h Q ↔ if x = y then WP d 214 600 lv st h Q else WP d 214 598 lv st h Q := WP_br rfl
set_option maxRecDepth 20000 in
theorem S214_598 : WP d 214 598 lv st h Q ↔ WP d 214 599 lv (.int 0 :: st) h Q := WP_st rfl
set_option maxRecDepth 20000 in
theorem S214_599 (hx : isB x) : WP d 214 599 lv [.int x] h Q ↔ Q (some (some (.int x))) h := WP_endZ rfl rfl hx
set_option maxRecDepth 20000 in
theorem S214_600 : WP d 214 600 (a0 :: a1 :: a2v :: a3 :: a4 :: some (.int x) :: lv) st h Q ↔ WP d 214 602 (a0 :: a1 :: a2v :: a3 :: a4 :: some (.int x) :: lv) (.int x :: st) h Q := WP_st rfl
set_option maxRecDepth 20000 in
theorem S214_602 : WP d 214 602 lv (.int x :: st) h Q ↔ if x = 0 then WP d 214 605 lv st h Q else WP d 214 616 lv st h Q := WP_br rfl
set_option maxRecDepth 20000 in
theorem S214_605 : WP d 214 605 (a0 :: a1 :: a2v :: some (.ref a) :: lv) st h Q ↔ WP d 214 606 (a0 :: a1 :: a2v :: some (.ref a) :: lv) (.ref a :: st) h Q := WP_st rfl
set_option maxRecDepth 20000 in
theorem S214_606 : WP d 214 606 lv st h Q ↔ WP d 214 607 lv (.int 0 :: st) h Q := WP_st rfl
set_option maxRecDepth 20000 in
theorem S214_607 (hi : okA 4 a i) : WP d 214 607 lv (.int i :: .ref a :: st) h Q ↔ WP d 214 608 lv (.long (h.2.1 a i.toNatClampNeg) :: st) h Q := WP_lald rfl hi
set_option maxRecDepth 20000 in
theorem S214_608 : WP d 214 608 (a0 :: a1 :: a2v :: a3 :: a4 :: a5 :: some (.long u) :: lv) st h Q ↔ WP d 214 610 (a0 :: a1 :: a2v :: a3 :: a4 :: a5 :: some (.long u) :: lv) (.long u :: st) h Q := WP_st rfl
set_option maxRecDepth 20000 in
theorem S214_610 : WP d 214 610 lv (.long w :: .long u :: st) h Q ↔ WP d 214 611 lv (.int (lg_cmp u w) :: st) h Q := WP_st rfl
set_option maxRecDepth 20000 in
theorem S214_611 : WP d 214 611 lv (.int x :: st) h Q ↔ if x = 0 then WP d 214 616 lv st h Q else WP d 214 614 lv st h Q := WP_br rfl
set_option maxRecDepth 20000 in
theorem S214_614 : WP d 214 614 lv st h Q ↔ WP d 214 615 lv (.int 0 :: st) h Q := WP_st rfl
set_option maxRecDepth 20000 in
theorem S214_615 (hx : isB x) : WP d 214 615 lv [.int x] h Q ↔ Q (some (some (.int x))) h := WP_endZ rfl rfl hx
set_option maxRecDepth 20000 in
theorem S214_616 : WP d 214 616 lv st h Q ↔ WP d 214 1465 lv st h Q := WP_st rfl
set_option maxRecDepth 20000 in
theorem S214_619 : WP d 214 619 (a0 :: some (.ref a) :: lv) st h Q ↔ WP d 214 620 (a0 :: some (.ref a) :: lv) (.ref a :: st) h Q := WP_st rfl
set_option maxRecDepth 20000 in
theorem S214_620 : WP d 214 620 (some (.ref a) :: lv) st h Q ↔ WP d 214 621 (some (.ref a) :: lv) (.ref a :: st) h Q := WP_st rfl
set_option maxRecDepth 20000 in
theorem S214_621 : WP d 214 621 (a0 :: a1 :: a2v :: a3 :: some (.int x) :: lv) st h Q ↔ WP d 214 623 (a0 :: a1 :: a2v :: a3 :: some (.int x) :: lv) (.int x :: st) h Q := WP_st rfl
set_option maxRecDepth 20000 in
theorem S214_623 : WP d 214 623 lv st h Q ↔ WP d 214 624 lv (.int 1 :: st) h Q := WP_st rfl
set_option maxRecDepth 20000 in
theorem S214_624 : WP d 214 624 lv (.int y :: .int x :: st) h Q ↔ WP d 214 625 lv (.int (x + y) :: st) h Q := WP_st rfl
set_option maxRecDepth 20000 in
theorem S214_625 (hi : 0 ≤ i.toInt ∧ i.toInt < h.2.2.2) : WP d 214 625 lv (.int i :: .ref 1000 :: st) h Q ↔ WP d 214 626 lv (.int (h.1 1000 i.toNatClampNeg) :: st) h Q := WP_sld rfl hi
set_option maxRecDepth 20000 in
theorem S214_626 : WP d 214 626 (a0 :: a1 :: a2v :: some (.ref a) :: lv) st h Q ↔ WP d 214 627 (a0 :: a1 :: a2v :: some (.ref a) :: lv) (.ref a :: st) h Q := WP_st rfl
set_option maxRecDepth 20000 in
theorem S214_630 : WP d 214 630 (a0 :: a1 :: a2v :: a3 :: a4 :: a5 :: lv) (.int x :: st) h Q ↔ WP d 214 632 (a0 :: a1 :: a2v :: a3 :: kl a4 :: some (.int x) :: lv) st h Q := WP_st (by rfl)
set_option maxRecDepth 20000 in
theorem S214_632 : WP d 214 632 (a0 :: a1 :: some (.ref a) :: lv) st h Q ↔ WP d 214 633 (a0 :: a1 :: some (.ref a) :: lv) (.ref a :: st) h Q := WP_st rfl
set_option maxRecDepth 20000 in
theorem S214_633 : WP d 214 633 (some (.ref a) :: lv) st h Q ↔ WP d 214 634 (some (.ref a) :: lv) (.ref a :: st) h Q := WP_st rfl
set_option maxRecDepth 20000 in
theorem S214_634 : WP d 214 634 (a0 :: a1 :: a2v :: a3 :: some (.int x) :: lv) st h Q ↔ WP d 214 636 (a0 :: a1 :: a2v :: a3 :: some (.int x) :: lv) (.int x :: st) h Q := WP_st rfl
set_option maxRecDepth 20000 in
theorem S214_636 : WP d 214 636 lv st h Q ↔ WP d 214 637 lv (.int 1 :: st) h Q := WP_st rfl
set_option maxRecDepth 20000 in
theorem S214_637 : WP d 214 637 lv (.int y :: .int x :: st) h Q ↔ WP d 214 638 lv (.int (x + y) :: st) h Q := WP_st rfl
set_option maxRecDepth 20000 in
theorem S214_638 (hi : 0 ≤ i.toInt ∧ i.toInt < h.2.2.2) : WP d 214 638 lv (.int i :: .ref 1000 :: st) h Q ↔ WP d 214 639 lv (.int (h.1 1000 i.toNatClampNeg) :: st) h Q := WP_sld rfl hi
set_option maxRecDepth 20000 in
theorem S214_639 {pr0 : Nat} {pi0 : Int32} (hs : shp pr0 = some (0, 8)) : WP (d + 1) 214 639 lv [.int pi0, .ref pr0] h Q ↔ WP d 159 0 [some (.ref pr0), some (.int pi0), none, none, none] [] h (kR (d + 1) 214 642 lv [] Q) := WP_callVR rfl rfl rfl rfl rfl hs
set_option maxRecDepth 20000 in
theorem S214_642 : WP d 214 642 (a0 :: a1 :: a2v :: a3 :: a4 :: a5 :: a6 :: a7 :: lv) (.long u :: st) h Q ↔ WP d 214 644 (a0 :: a1 :: a2v :: a3 :: a4 :: kl a5 :: some (.long u) :: none :: lv) st h Q := WP_st (by rfl)
set_option maxRecDepth 20000 in
theorem S214_644 : WP d 214 644 (a0 :: a1 :: some (.ref a) :: lv) st h Q ↔ WP d 214 645 (a0 :: a1 :: some (.ref a) :: lv) (.ref a :: st) h Q := WP_st rfl
set_option maxRecDepth 20000 in
theorem S214_645 {pr0 : Nat} (hs : shp pr0 = some (0, 8)) : WP (d + 1) 214 645 lv [.ref pr0] h Q ↔ WP d 99 0 [some (.ref pr0)] [] h (kR (d + 1) 214 648 lv [] Q) := WP_callVR rfl rfl rfl rfl rfl hs
set_option maxRecDepth 20000 in
theorem S214_648 : WP d 214 648 (a0 :: a1 :: a2v :: a3 :: a4 :: some (.int x) :: lv) st h Q ↔ WP d 214 650 (a0 :: a1 :: a2v :: a3 :: a4 :: some (.int x) :: lv) (.int x :: st) h Q := WP_st rfl
set_option maxRecDepth 20000 in
theorem S214_650 : WP d 214 650 lv (.int y :: .int x :: st) h Q ↔ if x = y then WP d 214 655 lv st h Q else WP d 214 653 lv st h Q := WP_br rfl
set_option maxRecDepth 20000 in
theorem S214_653 : WP d 214 653 lv st h Q ↔ WP d 214 654 lv (.int 0 :: st) h Q := WP_st rfl
set_option maxRecDepth 20000 in
theorem S214_654 (hx : isB x) : WP d 214 654 lv [.int x] h Q ↔ Q (some (some (.int x))) h := WP_endZ rfl rfl hx
set_option maxRecDepth 20000 in
theorem S214_655 : WP d 214 655 (a0 :: a1 :: a2v :: a3 :: a4 :: some (.int x) :: lv) st h Q ↔ WP d 214 657 (a0 :: a1 :: a2v :: a3 :: a4 :: some (.int x) :: lv) (.int x :: st) h Q := WP_st rfl
set_option maxRecDepth 20000 in
theorem S214_657 : WP d 214 657 lv (.int x :: st) h Q ↔ if x = 0 then WP d 214 660 lv st h Q else WP d 214 671 lv st h Q := WP_br rfl
set_option maxRecDepth 20000 in
theorem S214_660 : WP d 214 660 (a0 :: a1 :: a2v :: some (.ref a) :: lv) st h Q ↔ WP d 214 661 (a0 :: a1 :: a2v :: some (.ref a) :: lv) (.ref a :: st) h Q := WP_st rfl
set_option maxRecDepth 20000 in
theorem S214_661 : WP d 214 661 lv st h Q ↔ WP d 214 662 lv (.int 0 :: st) h Q := WP_st rfl
set_option maxRecDepth 20000 in
theorem S214_662 (hi : okA 4 a i) : WP d 214 662 lv (.int i :: .ref a :: st) h Q ↔ WP d 214 663 lv (.long (h.2.1 a i.toNatClampNeg) :: st) h Q := WP_lald rfl hi
set_option maxRecDepth 20000 in
theorem S214_663 : WP d 214 663 (a0 :: a1 :: a2v :: a3 :: a4 :: a5 :: some (.long u) :: lv) st h Q ↔ WP d 214 665 (a0 :: a1 :: a2v :: a3 :: a4 :: a5 :: some (.long u) :: lv) (.long u :: st) h Q := WP_st rfl
set_option maxRecDepth 20000 in
theorem S214_665 : WP d 214 665 lv (.long w :: .long u :: st) h Q ↔ WP d 214 666 lv (.int (lg_cmp u w) :: st) h Q := WP_st rfl
set_option maxRecDepth 20000 in
theorem S214_666 : WP d 214 666 lv (.int x :: st) h Q ↔ if x = 0 then WP d 214 671 lv st h Q else WP d 214 669 lv st h Q := WP_br rfl
set_option maxRecDepth 20000 in
theorem S214_669 : WP d 214 669 lv st h Q ↔ WP d 214 670 lv (.int 0 :: st) h Q := WP_st rfl
set_option maxRecDepth 20000 in
theorem S214_670 (hx : isB x) : WP d 214 670 lv [.int x] h Q ↔ Q (some (some (.int x))) h := WP_endZ rfl rfl hx
set_option maxRecDepth 20000 in
theorem S214_671 : WP d 214 671 lv st h Q ↔ WP d 214 1465 lv st h Q := WP_st rfl
set_option maxRecDepth 20000 in
theorem S214_674 : WP d 214 674 (a0 :: some (.ref a) :: lv) st h Q ↔ WP d 214 675 (a0 :: some (.ref a) :: lv) (.ref a :: st) h Q := WP_st rfl
set_option maxRecDepth 20000 in
theorem S214_675 {pr0 : Nat} (hs : shp pr0 = some (0, 7)) : WP (d + 1) 214 675 lv [.ref pr0] h Q ↔ WP d 64 0 [some (.ref pr0)] [] h (kR (d + 1) 214 678 lv [] Q) := WP_callVR rfl rfl rfl rfl rfl hs
set_option maxRecDepth 20000 in
theorem S214_678 : WP d 214 678 (a0 :: a1 :: some (.ref a) :: lv) st h Q ↔ WP d 214 679 (a0 :: a1 :: some (.ref a) :: lv) (.ref a :: st) h Q := WP_st rfl
set_option maxRecDepth 20000 in
theorem S214_679 {pr0 : Nat} {qi0 : Int32} (hs : shp pr0 = some (0, 8)) : WP (d + 1) 214 679 lv [.ref pr0, .int qi0] h Q ↔ WP d 161 0 [some (.ref pr0)] [] h (kR (d + 1) 214 682 lv [.int qi0] Q) := WP_callVR rfl rfl rfl rfl rfl hs
set_option maxRecDepth 20000 in
theorem S214_682 : WP d 214 682 lv (.int y :: .int x :: st) h Q ↔ if x = y then WP d 214 1465 lv st h Q else WP d 214 685 lv st h Q := WP_br rfl
set_option maxRecDepth 20000 in
theorem S214_685 : WP d 214 685 lv st h Q ↔ WP d 214 686 lv (.int 0 :: st) h Q := WP_st rfl
set_option maxRecDepth 20000 in
theorem S214_686 (hx : isB x) : WP d 214 686 lv [.int x] h Q ↔ Q (some (some (.int x))) h := WP_endZ rfl rfl hx
set_option maxRecDepth 20000 in
theorem S214_687 : WP d 214 687 (a0 :: some (.ref a) :: lv) st h Q ↔ WP d 214 688 (a0 :: some (.ref a) :: lv) (.ref a :: st) h Q := WP_st rfl
set_option maxRecDepth 20000 in
theorem S214_688 : WP d 214 688 (some (.ref a) :: lv) st h Q ↔ WP d 214 689 (some (.ref a) :: lv) (.ref a :: st) h Q := WP_st rfl
set_option maxRecDepth 20000 in
theorem S214_689 : WP d 214 689 (a0 :: a1 :: a2v :: a3 :: some (.int x) :: lv) st h Q ↔ WP d 214 691 (a0 :: a1 :: a2v :: a3 :: some (.int x) :: lv) (.int x :: st) h Q := WP_st rfl
set_option maxRecDepth 20000 in
theorem S214_691 : WP d 214 691 lv st h Q ↔ WP d 214 692 lv (.int 1 :: st) h Q := WP_st rfl
set_option maxRecDepth 20000 in
theorem S214_692 : WP d 214 692 lv (.int y :: .int x :: st) h Q ↔ WP d 214 693 lv (.int (x + y) :: st) h Q := WP_st rfl
set_option maxRecDepth 20000 in
theorem S214_693 (hi : 0 ≤ i.toInt ∧ i.toInt < h.2.2.2) : WP d 214 693 lv (.int i :: .ref 1000 :: st) h Q ↔ WP d 214 694 lv (.int (h.1 1000 i.toNatClampNeg) :: st) h Q := WP_sld rfl hi
set_option maxRecDepth 20000 in
theorem S214_694 {pr0 : Nat} {pi0 : Int32} (hs : shp pr0 = some (0, 7)) : WP (d + 1) 214 694 lv [.int pi0, .ref pr0] h Q ↔ WP d 65 0 [some (.ref pr0), some (.int pi0)] [] h (kR (d + 1) 214 697 lv [] Q) := WP_callVR rfl rfl rfl rfl rfl hs
set_option maxRecDepth 20000 in
theorem S214_697 : WP d 214 697 (a0 :: a1 :: some (.ref a) :: lv) st h Q ↔ WP d 214 698 (a0 :: a1 :: some (.ref a) :: lv) (.ref a :: st) h Q := WP_st rfl
set_option maxRecDepth 20000 in
theorem S214_698 : WP d 214 698 (some (.ref a) :: lv) st h Q ↔ WP d 214 699 (some (.ref a) :: lv) (.ref a :: st) h Q := WP_st rfl
set_option maxRecDepth 20000 in
theorem S214_699 : WP d 214 699 (a0 :: a1 :: a2v :: a3 :: some (.int x) :: lv) st h Q ↔ WP d 214 701 (a0 :: a1 :: a2v :: a3 :: some (.int x) :: lv) (.int x :: st) h Q := WP_st rfl
set_option maxRecDepth 20000 in
theorem S214_701 : WP d 214 701 lv st h Q ↔ WP d 214 702 lv (.int 1 :: st) h Q := WP_st rfl
set_option maxRecDepth 20000 in
theorem S214_702 : WP d 214 702 lv (.int y :: .int x :: st) h Q ↔ WP d 214 703 lv (.int (x + y) :: st) h Q := WP_st rfl
set_option maxRecDepth 20000 in
theorem S214_703 (hi : 0 ≤ i.toInt ∧ i.toInt < h.2.2.2) : WP d 214 703 lv (.int i :: .ref 1000 :: st) h Q ↔ WP d 214 704 lv (.int (h.1 1000 i.toNatClampNeg) :: st) h Q := WP_sld rfl hi
set_option maxRecDepth 20000 in
theorem S214_704 {pr0 : Nat} {pi0 : Int32} {qi1 : Int32} (hs : shp pr0 = some (0, 8)) : WP (d + 1) 214 704 lv [.int pi0, .ref pr0, .int qi1] h Q ↔ WP d 162 0 [some (.ref pr0), some (.int pi0), none, none, none] [] h (kR (d + 1) 214 707 lv [.int qi1] Q) := WP_callVR rfl rfl rfl rfl rfl hs
set_option maxRecDepth 20000 in
theorem S214_707 : WP d 214 707 lv (.int y :: .int x :: st) h Q ↔ if x = y then WP d 214 1465 lv st h Q else WP d 214 710 lv st h Q := WP_br rfl
set_option maxRecDepth 20000 in
theorem S214_710 : WP d 214 710 lv st h Q ↔ WP d 214 711 lv (.int 0 :: st) h Q := WP_st rfl
set_option maxRecDepth 20000 in
theorem S214_711 (hx : isB x) : WP d 214 711 lv [.int x] h Q ↔ Q (some (some (.int x))) h := WP_endZ rfl rfl hx
set_option maxRecDepth 20000 in
theorem S214_712 : WP d 214 712 (a0 :: some (.ref a) :: lv) st h Q ↔ WP d 214 713 (a0 :: some (.ref a) :: lv) (.ref a :: st) h Q := WP_st rfl
set_option maxRecDepth 20000 in
theorem S214_713 : WP d 214 713 (some (.ref a) :: lv) st h Q ↔ WP d 214 714 (some (.ref a) :: lv) (.ref a :: st) h Q := WP_st rfl
set_option maxRecDepth 20000 in
theorem S214_714 : WP d 214 714 (a0 :: a1 :: a2v :: a3 :: some (.int x) :: lv) st h Q ↔ WP d 214 716 (a0 :: a1 :: a2v :: a3 :: some (.int x) :: lv) (.int x :: st) h Q := WP_st rfl
set_option maxRecDepth 20000 in
theorem S214_716 : WP d 214 716 lv st h Q ↔ WP d 214 717 lv (.int 1 :: st) h Q := WP_st rfl
set_option maxRecDepth 20000 in
theorem S214_717 : WP d 214 717 lv (.int y :: .int x :: st) h Q ↔ WP d 214 718 lv (.int (x + y) :: st) h Q := WP_st rfl
set_option maxRecDepth 20000 in
theorem S214_718 (hi : 0 ≤ i.toInt ∧ i.toInt < h.2.2.2) : WP d 214 718 lv (.int i :: .ref 1000 :: st) h Q ↔ WP d 214 719 lv (.int (h.1 1000 i.toNatClampNeg) :: st) h Q := WP_sld rfl hi
set_option maxRecDepth 20000 in
theorem S214_719 {pr0 : Nat} {pi0 : Int32} (hs : shp pr0 = some (0, 7)) : WP (d + 1) 214 719 lv [.int pi0, .ref pr0] h Q ↔ WP d 66 0 [some (.ref pr0), some (.int pi0)] [] h (kR (d + 1) 214 722 lv [] Q) := WP_callVR rfl rfl rfl rfl rfl hs
set_option maxRecDepth 20000 in
theorem S214_722 : WP d 214 722 (a0 :: a1 :: some (.ref a) :: lv) st h Q ↔ WP d 214 723 (a0 :: a1 :: some (.ref a) :: lv) (.ref a :: st) h Q := WP_st rfl
set_option maxRecDepth 20000 in
theorem S214_723 : WP d 214 723 (some (.ref a) :: lv) st h Q ↔ WP d 214 724 (some (.ref a) :: lv) (.ref a :: st) h Q := WP_st rfl
set_option maxRecDepth 20000 in
theorem S214_724 : WP d 214 724 (a0 :: a1 :: a2v :: a3 :: some (.int x) :: lv) st h Q ↔ WP d 214 726 (a0 :: a1 :: a2v :: a3 :: some (.int x) :: lv) (.int x :: st) h Q := WP_st rfl
set_option maxRecDepth 20000 in
theorem S214_726 : WP d 214 726 lv st h Q ↔ WP d 214 727 lv (.int 1 :: st) h Q := WP_st rfl
set_option maxRecDepth 20000 in
theorem S214_727 : WP d 214 727 lv (.int y :: .int x :: st) h Q ↔ WP d 214 728 lv (.int (x + y) :: st) h Q := WP_st rfl
set_option maxRecDepth 20000 in
theorem S214_728 (hi : 0 ≤ i.toInt ∧ i.toInt < h.2.2.2) : WP d 214 728 lv (.int i :: .ref 1000 :: st) h Q ↔ WP d 214 729 lv (.int (h.1 1000 i.toNatClampNeg) :: st) h Q := WP_sld rfl hi
set_option maxRecDepth 20000 in
theorem S214_729 {pr0 : Nat} {pi0 : Int32} {qi1 : Int32} (hs : shp pr0 = some (0, 8)) : WP (d + 1) 214 729 lv [.int pi0, .ref pr0, .int qi1] h Q ↔ WP d 165 0 [some (.ref pr0), some (.int pi0)] [] h (kR (d + 1) 214 732 lv [.int qi1] Q) := WP_callVR rfl rfl rfl rfl rfl hs
set_option maxRecDepth 20000 in
theorem S214_732 : WP d 214 732 lv (.int y :: .int x :: st) h Q ↔ if x = y then WP d 214 1465 lv st h Q else WP d 214 735 lv st h Q := WP_br rfl
set_option maxRecDepth 20000 in
theorem S214_735 : WP d 214 735 lv st h Q ↔ WP d 214 736 lv (.int 0 :: st) h Q := WP_st rfl
set_option maxRecDepth 20000 in
theorem S214_736 (hx : isB x) : WP d 214 736 lv [.int x] h Q ↔ Q (some (some (.int x))) h := WP_endZ rfl rfl hx
set_option maxRecDepth 20000 in
theorem S214_737 : WP d 214 737 (a0 :: some (.ref a) :: lv) st h Q ↔ WP d 214 738 (a0 :: some (.ref a) :: lv) (.ref a :: st) h Q := WP_st rfl
set_option maxRecDepth 20000 in
theorem S214_738 {pr0 : Nat} (hs : shp pr0 = some (0, 7)) : WP (d + 1) 214 738 lv [.ref pr0] h Q ↔ WP d 67 0 [some (.ref pr0), none, none, none, none] [] h (kR (d + 1) 214 741 lv [] Q) := WP_callVR rfl rfl rfl rfl rfl hs
set_option maxRecDepth 20000 in
theorem S214_741 : WP d 214 741 (a0 :: a1 :: some (.ref a) :: lv) st h Q ↔ WP d 214 742 (a0 :: a1 :: some (.ref a) :: lv) (.ref a :: st) h Q := WP_st rfl
set_option maxRecDepth 20000 in
theorem S214_742 {pr0 : Nat} {qi0 : Int32} (hs : shp pr0 = some (0, 8)) : WP (d + 1) 214 742 lv [.ref pr0, .int qi0] h Q ↔ WP d 167 0 [some (.ref pr0), none, none] [] h (kR (d + 1) 214 745 lv [.int qi0] Q) := WP_callVR rfl rfl rfl rfl rfl hs
set_option maxRecDepth 20000 in
theorem S214_745 : WP d 214 745 lv (.int y :: .int x :: st) h Q ↔ if x = y then WP d 214 1465 lv st h Q else WP d 214 748 lv st h Q := WP_br rfl
set_option maxRecDepth 20000 in
theorem S214_748 : WP d 214 748 lv st h Q ↔ WP d 214 749 lv (.int 0 :: st) h Q := WP_st rfl
set_option maxRecDepth 20000 in
theorem S214_749 (hx : isB x) : WP d 214 749 lv [.int x] h Q ↔ Q (some (some (.int x))) h := WP_endZ rfl rfl hx
set_option maxRecDepth 20000 in
theorem S214_750 : WP d 214 750 (a0 :: some (.ref a) :: lv) st h Q ↔ WP d 214 751 (a0 :: some (.ref a) :: lv) (.ref a :: st) h Q := WP_st rfl
set_option maxRecDepth 20000 in
theorem S214_751 : WP d 214 751 (some (.ref a) :: lv) st h Q ↔ WP d 214 752 (some (.ref a) :: lv) (.ref a :: st) h Q := WP_st rfl
set_option maxRecDepth 20000 in
theorem S214_752 : WP d 214 752 (a0 :: a1 :: a2v :: a3 :: some (.int x) :: lv) st h Q ↔ WP d 214 754 (a0 :: a1 :: a2v :: a3 :: some (.int x) :: lv) (.int x :: st) h Q := WP_st rfl
set_option maxRecDepth 20000 in
theorem S214_754 : WP d 214 754 lv st h Q ↔ WP d 214 755 lv (.int 1 :: st) h Q := WP_st rfl
set_option maxRecDepth 20000 in
theorem S214_755 : WP d 214 755 lv (.int y :: .int x :: st) h Q ↔ WP d 214 756 lv (.int (x + y) :: st) h Q := WP_st rfl
set_option maxRecDepth 20000 in
theorem S214_756 (hi : 0 ≤ i.toInt ∧ i.toInt < h.2.2.2) : WP d 214 756 lv (.int i :: .ref 1000 :: st) h Q ↔ WP d 214 757 lv (.int (h.1 1000 i.toNatClampNeg) :: st) h Q := WP_sld rfl hi
set_option maxRecDepth 20000 in
theorem S214_757 : WP d 214 757 (some (.ref a) :: lv) st h Q ↔ WP d 214 758 (some (.ref a) :: lv) (.ref a :: st) h Q := WP_st rfl
set_option maxRecDepth 20000 in
theorem S214_758 : WP d 214 758 (a0 :: a1 :: a2v :: a3 :: some (.int x) :: lv) st h Q ↔ WP d 214 760 (a0 :: a1 :: a2v :: a3 :: some (.int x) :: lv) (.int x :: st) h Q := WP_st rfl
set_option maxRecDepth 20000 in
theorem S214_760 : WP d 214 760 lv st h Q ↔ WP d 214 761 lv (.int 2 :: st) h Q := WP_st rfl
set_option maxRecDepth 20000 in
theorem S214_761 : WP d 214 761 lv (.int y :: .int x :: st) h Q ↔ WP d 214 762 lv (.int (x + y) :: st) h Q := WP_st rfl
set_option maxRecDepth 20000 in
theorem S214_762 (hi : 0 ≤ i.toInt ∧ i.toInt < h.2.2.2) : WP d 214 762 lv (.int i :: .ref 1000 :: st) h Q ↔ WP d 214 763 lv (.int (h.1 1000 i.toNatClampNeg) :: st) h Q := WP_sld rfl hi
set_option maxRecDepth 20000 in
theorem S214_763 : WP d 214 763 (a0 :: a1 :: a2v :: some (.ref a) :: lv) st h Q ↔ WP d 214 764 (a0 :: a1 :: a2v :: some (.ref a) :: lv) (.ref a :: st) h Q := WP_st rfl
set_option maxRecDepth 20000 in
theorem S214_767 : WP d 214 767 (a0 :: a1 :: a2v :: a3 :: a4 :: a5 :: lv) (.int x :: st) h Q ↔ WP d 214 769 (a0 :: a1 :: a2v :: a3 :: kl a4 :: some (.int x) :: lv) st h Q := WP_st (by rfl)
set_option maxRecDepth 20000 in
theorem S214_769 : WP d 214 769 (a0 :: a1 :: some (.ref a) :: lv) st h Q ↔ WP d 214 770 (a0 :: a1 :: some (.ref a) :: lv) (.ref a :: st) h Q := WP_st rfl
set_option maxRecDepth 20000 in
theorem S214_770 : WP d 214 770 (some (.ref a) :: lv) st h Q ↔ WP d 214 771 (some (.ref a) :: lv) (.ref a :: st) h Q := WP_st rfl
set_option maxRecDepth 20000 in
theorem S214_771 : WP d 214 771 (a0 :: a1 :: a2v :: a3 :: some (.int x) :: lv) st h Q ↔ WP d 214 773 (a0 :: a1 :: a2v :: a3 :: some (.int x) :: lv) (.int x :: st) h Q := WP_st rfl
set_option maxRecDepth 20000 in
theorem S214_773 : WP d 214 773 lv st h Q ↔ WP d 214 774 lv (.int 1 :: st) h Q := WP_st rfl
set_option maxRecDepth 20000 in
theorem S214_774 : WP d 214 774 lv (.int y :: .int x :: st) h Q ↔ WP d 214 775 lv (.int (x + y) :: st) h Q := WP_st rfl
set_option maxRecDepth 20000 in
theorem S214_775 (hi : 0 ≤ i.toInt ∧ i.toInt < h.2.2.2) : WP d 214 775 lv (.int i :: .ref 1000 :: st) h Q ↔ WP d 214 776 lv (.int (h.1 1000 i.toNatClampNeg) :: st) h Q := WP_sld rfl hi
set_option maxRecDepth 20000 in
theorem S214_776 : WP d 214 776 (some (.ref a) :: lv) st h Q ↔ WP d 214 777 (some (.ref a) :: lv) (.ref a :: st) h Q := WP_st rfl
set_option maxRecDepth 20000 in
theorem S214_777 : WP d 214 777 (a0 :: a1 :: a2v :: a3 :: some (.int x) :: lv) st h Q ↔ WP d 214 779 (a0 :: a1 :: a2v :: a3 :: some (.int x) :: lv) (.int x :: st) h Q := WP_st rfl
set_option maxRecDepth 20000 in
theorem S214_779 : WP d 214 779 lv st h Q ↔ WP d 214 780 lv (.int 2 :: st) h Q := WP_st rfl
set_option maxRecDepth 20000 in
theorem S214_780 : WP d 214 780 lv (.int y :: .int x :: st) h Q ↔ WP d 214 781 lv (.int (x + y) :: st) h Q := WP_st rfl
set_option maxRecDepth 20000 in
theorem S214_781 (hi : 0 ≤ i.toInt ∧ i.toInt < h.2.2.2) : WP d 214 781 lv (.int i :: .ref 1000 :: st) h Q ↔ WP d 214 782 lv (.int (h.1 1000 i.toNatClampNeg) :: st) h Q := WP_sld rfl hi
set_option maxRecDepth 20000 in
theorem S214_782 {pr0 : Nat} {pi0 : Int32} {pi1 : Int32} (hs : shp pr0 = some (0, 8)) : WP (d + 1) 214 782 lv [.int pi1, .int pi0, .ref pr0] h Q ↔ WP d 171 0 [some (.ref pr0), some (.int pi0), some (.int pi1), none, none] [] h (kR (d + 1) 214 785 lv [] Q) := WP_callVR rfl rfl rfl rfl rfl hs
set_option maxRecDepth 20000 in
theorem S214_785 : WP d 214 785 (a0 :: a1 :: a2v :: a3 :: a4 :: a5 :: a6 :: a7 :: lv) (.long u :: st) h Q ↔ WP d 214 787 (a0 :: a1 :: a2v :: a3 :: a4 :: kl a5 :: some (.long u) :: none :: lv) st h Q := WP_st (by rfl)
set_option maxRecDepth 20000 in
theorem S214_787 : WP d 214 787 (a0 :: a1 :: some (.ref a) :: lv) st h Q ↔ WP d 214 788 (a0 :: a1 :: some (.ref a) :: lv) (.ref a :: st) h Q := WP_st rfl
set_option maxRecDepth 20000 in
theorem S214_788 {pr0 : Nat} (hs : shp pr0 = some (0, 8)) : WP (d + 1) 214 788 lv [.ref pr0] h Q ↔ WP d 99 0 [some (.ref pr0)] [] h (kR (d + 1) 214 791 lv [] Q) := WP_callVR rfl rfl rfl rfl rfl hs
set_option maxRecDepth 20000 in
theorem S214_791 : WP d 214 791 (a0 :: a1 :: a2v :: a3 :: a4 :: some (.int x) :: lv) st h Q ↔ WP d 214 793 (a0 :: a1 :: a2v :: a3 :: a4 :: some (.int x) :: lv) (.int x :: st) h Q := WP_st rfl
set_option maxRecDepth 20000 in
theorem S214_793 : WP d 214 793 lv (.int y :: .int x :: st) h Q ↔ if x = y then WP d 214 798 lv st h Q else WP d 214 796 lv st h Q := WP_br rfl
set_option maxRecDepth 20000 in
theorem S214_796 : WP d 214 796 lv st h Q ↔ WP d 214 797 lv (.int 0 :: st) h Q := WP_st rfl
set_option maxRecDepth 20000 in
theorem S214_797 (hx : isB x) : WP d 214 797 lv [.int x] h Q ↔ Q (some (some (.int x))) h := WP_endZ rfl rfl hx
set_option maxRecDepth 20000 in
theorem S214_798 : WP d 214 798 (a0 :: a1 :: a2v :: a3 :: a4 :: some (.int x) :: lv) st h Q ↔ WP d 214 800 (a0 :: a1 :: a2v :: a3 :: a4 :: some (.int x) :: lv) (.int x :: st) h Q := WP_st rfl
set_option maxRecDepth 20000 in
theorem S214_800 : WP d 214 800 lv (.int x :: st) h Q ↔ if x = 0 then WP d 214 803 lv st h Q else WP d 214 814 lv st h Q := WP_br rfl
set_option maxRecDepth 20000 in
theorem S214_803 : WP d 214 803 (a0 :: a1 :: a2v :: some (.ref a) :: lv) st h Q ↔ WP d 214 804 (a0 :: a1 :: a2v :: some (.ref a) :: lv) (.ref a :: st) h Q := WP_st rfl
set_option maxRecDepth 20000 in
theorem S214_804 : WP d 214 804 lv st h Q ↔ WP d 214 805 lv (.int 0 :: st) h Q := WP_st rfl
set_option maxRecDepth 20000 in
theorem S214_805 (hi : okA 4 a i) : WP d 214 805 lv (.int i :: .ref a :: st) h Q ↔ WP d 214 806 lv (.long (h.2.1 a i.toNatClampNeg) :: st) h Q := WP_lald rfl hi
set_option maxRecDepth 20000 in
theorem S214_806 : WP d 214 806 (a0 :: a1 :: a2v :: a3 :: a4 :: a5 :: some (.long u) :: lv) st h Q ↔ WP d 214 808 (a0 :: a1 :: a2v :: a3 :: a4 :: a5 :: some (.long u) :: lv) (.long u :: st) h Q := WP_st rfl
set_option maxRecDepth 20000 in
theorem S214_808 : WP d 214 808 lv (.long w :: .long u :: st) h Q ↔ WP d 214 809 lv (.int (lg_cmp u w) :: st) h Q := WP_st rfl
set_option maxRecDepth 20000 in
theorem S214_809 : WP d 214 809 lv (.int x :: st) h Q ↔ if x = 0 then WP d 214 814 lv st h Q else WP d 214 812 lv st h Q := WP_br rfl
set_option maxRecDepth 20000 in
theorem S214_812 : WP d 214 812 lv st h Q ↔ WP d 214 813 lv (.int 0 :: st) h Q := WP_st rfl
set_option maxRecDepth 20000 in
theorem S214_813 (hx : isB x) : WP d 214 813 lv [.int x] h Q ↔ Q (some (some (.int x))) h := WP_endZ rfl rfl hx
set_option maxRecDepth 20000 in
theorem S214_814 : WP d 214 814 lv st h Q ↔ WP d 214 1465 lv st h Q := WP_st rfl
set_option maxRecDepth 20000 in
theorem S214_817 : WP d 214 817 (a0 :: some (.ref a) :: lv) st h Q ↔ WP d 214 818 (a0 :: some (.ref a) :: lv) (.ref a :: st) h Q := WP_st rfl
set_option maxRecDepth 20000 in
theorem S214_818 : WP d 214 818 (some (.ref a) :: lv) st h Q ↔ WP d 214 819 (some (.ref a) :: lv) (.ref a :: st) h Q := WP_st rfl
set_option maxRecDepth 20000 in
theorem S214_819 : WP d 214 819 (a0 :: a1 :: a2v :: a3 :: some (.int x) :: lv) st h Q ↔ WP d 214 821 (a0 :: a1 :: a2v :: a3 :: some (.int x) :: lv) (.int x :: st) h Q := WP_st rfl
set_option maxRecDepth 20000 in
theorem S214_821 : WP d 214 821 lv st h Q ↔ WP d 214 822 lv (.int 1 :: st) h Q := WP_st rfl
set_option maxRecDepth 20000 in
theorem S214_822 : WP d 214 822 lv (.int y :: .int x :: st) h Q ↔ WP d 214 823 lv (.int (x + y) :: st) h Q := WP_st rfl
set_option maxRecDepth 20000 in
theorem S214_823 (hi : 0 ≤ i.toInt ∧ i.toInt < h.2.2.2) : WP d 214 823 lv (.int i :: .ref 1000 :: st) h Q ↔ WP d 214 824 lv (.int (h.1 1000 i.toNatClampNeg) :: st) h Q := WP_sld rfl hi
set_option maxRecDepth 20000 in
theorem S214_824 : WP d 214 824 (some (.ref a) :: lv) st h Q ↔ WP d 214 825 (some (.ref a) :: lv) (.ref a :: st) h Q := WP_st rfl
set_option maxRecDepth 20000 in
theorem S214_825 : WP d 214 825 (a0 :: a1 :: a2v :: a3 :: some (.int x) :: lv) st h Q ↔ WP d 214 827 (a0 :: a1 :: a2v :: a3 :: some (.int x) :: lv) (.int x :: st) h Q := WP_st rfl
set_option maxRecDepth 20000 in
theorem S214_827 : WP d 214 827 lv st h Q ↔ WP d 214 828 lv (.int 2 :: st) h Q := WP_st rfl
set_option maxRecDepth 20000 in
theorem S214_828 : WP d 214 828 lv (.int y :: .int x :: st) h Q ↔ WP d 214 829 lv (.int (x + y) :: st) h Q := WP_st rfl
set_option maxRecDepth 20000 in
theorem S214_829 (hi : 0 ≤ i.toInt ∧ i.toInt < h.2.2.2) : WP d 214 829 lv (.int i :: .ref 1000 :: st) h Q ↔ WP d 214 830 lv (.int (h.1 1000 i.toNatClampNeg) :: st) h Q := WP_sld rfl hi
set_option maxRecDepth 20000 in
theorem S214_830 : WP d 214 830 (a0 :: a1 :: a2v :: some (.ref a) :: lv) st h Q ↔ WP d 214 831 (a0 :: a1 :: a2v :: some (.ref a) :: lv) (.ref a :: st) h Q := WP_st rfl
set_option maxRecDepth 20000 in
theorem S214_834 : WP d 214 834 (a0 :: a1 :: a2v :: a3 :: a4 :: a5 :: lv) (.int x :: st) h Q ↔ WP d 214 836 (a0 :: a1 :: a2v :: a3 :: kl a4 :: some (.int x) :: lv) st h Q := WP_st (by rfl)
set_option maxRecDepth 20000 in
theorem S214_836 : WP d 214 836 (a0 :: a1 :: some (.ref a) :: lv) st h Q ↔ WP d 214 837 (a0 :: a1 :: some (.ref a) :: lv) (.ref a :: st) h Q := WP_st rfl
set_option maxRecDepth 20000 in
theorem S214_837 : WP d 214 837 (some (.ref a) :: lv) st h Q ↔ WP d 214 838 (some (.ref a) :: lv) (.ref a :: st) h Q := WP_st rfl
set_option maxRecDepth 20000 in
theorem S214_838 : WP d 214 838 (a0 :: a1 :: a2v :: a3 :: some (.int x) :: lv) st h Q ↔ WP d 214 840 (a0 :: a1 :: a2v :: a3 :: some (.int x) :: lv) (.int x :: st) h Q := WP_st rfl
set_option maxRecDepth 20000 in
theorem S214_840 : WP d 214 840 lv st h Q ↔ WP d 214 841 lv (.int 1 :: st) h Q := WP_st rfl
set_option maxRecDepth 20000 in
theorem S214_841 : WP d 214 841 lv (.int y :: .int x :: st) h Q ↔ WP d 214 842 lv (.int (x + y) :: st) h Q := WP_st rfl
set_option maxRecDepth 20000 in
theorem S214_842 (hi : 0 ≤ i.toInt ∧ i.toInt < h.2.2.2) : WP d 214 842 lv (.int i :: .ref 1000 :: st) h Q ↔ WP d 214 843 lv (.int (h.1 1000 i.toNatClampNeg) :: st) h Q := WP_sld rfl hi
set_option maxRecDepth 20000 in
theorem S214_843 : WP d 214 843 (some (.ref a) :: lv) st h Q ↔ WP d 214 844 (some (.ref a) :: lv) (.ref a :: st) h Q := WP_st rfl
set_option maxRecDepth 20000 in
theorem S214_844 : WP d 214 844 (a0 :: a1 :: a2v :: a3 :: some (.int x) :: lv) st h Q ↔ WP d 214 846 (a0 :: a1 :: a2v :: a3 :: some (.int x) :: lv) (.int x :: st) h Q := WP_st rfl
set_option maxRecDepth 20000 in
theorem S214_846 : WP d 214 846 lv st h Q ↔ WP d 214 847 lv (.int 2 :: st) h Q := WP_st rfl
set_option maxRecDepth 20000 in
theorem S214_847 : WP d 214 847 lv (.int y :: .int x :: st) h Q ↔ WP d 214 848 lv (.int (x + y) :: st) h Q := WP_st rfl
set_option maxRecDepth 20000 in
theorem S214_848 (hi : 0 ≤ i.toInt ∧ i.toInt < h.2.2.2) : WP d 214 848 lv (.int i :: .ref 1000 :: st) h Q ↔ WP d 214 849 lv (.int (h.1 1000 i.toNatClampNeg) :: st) h Q := WP_sld rfl hi
set_option maxRecDepth 20000 in
theorem S214_849 {pr0 : Nat} {pi0 : Int32} {pi1 : Int32} (hs : shp pr0 = some (0, 8)) : WP (d + 1) 214 849 lv [.int pi1, .int pi0, .ref pr0] h Q ↔ WP d 175 0 [some (.ref pr0), some (.int pi0), some (.int pi1)] [] h (kR (d + 1) 214 852 lv [] Q) := WP_callVR rfl rfl rfl rfl rfl hs
set_option maxRecDepth 20000 in
theorem S214_852 : WP d 214 852 (a0 :: a1 :: a2v :: a3 :: a4 :: a5 :: a6 :: a7 :: lv) (.long u :: st) h Q ↔ WP d 214 854 (a0 :: a1 :: a2v :: a3 :: a4 :: kl a5 :: some (.long u) :: none :: lv) st h Q := WP_st (by rfl)
set_option maxRecDepth 20000 in
theorem S214_854 : WP d 214 854 (a0 :: a1 :: some (.ref a) :: lv) st h Q ↔ WP d 214 855 (a0 :: a1 :: some (.ref a) :: lv) (.ref a :: st) h Q := WP_st rfl
set_option maxRecDepth 20000 in
theorem S214_855 {pr0 : Nat} (hs : shp pr0 = some (0, 8)) : WP (d + 1) 214 855 lv [.ref pr0] h Q ↔ WP d 99 0 [some (.ref pr0)] [] h (kR (d + 1) 214 858 lv [] Q) := WP_callVR rfl rfl rfl rfl rfl hs
set_option maxRecDepth 20000 in
theorem S214_858 : WP d 214 858 (a0 :: a1 :: a2v :: a3 :: a4 :: some (.int x) :: lv) st h Q ↔ WP d 214 860 (a0 :: a1 :: a2v :: a3 :: a4 :: some (.int x) :: lv) (.int x :: st) h Q := WP_st rfl
set_option maxRecDepth 20000 in
theorem S214_860 : WP d 214 860 lv (.int y :: .int x :: st) h Q ↔ if x = y then WP d 214 865 lv st h Q else WP d 214 863 lv st h Q := WP_br rfl
set_option maxRecDepth 20000 in
theorem S214_863 : WP d 214 863 lv st h Q ↔ WP d 214 864 lv (.int 0 :: st) h Q := WP_st rfl
set_option maxRecDepth 20000 in
theorem S214_864 (hx : isB x) : WP d 214 864 lv [.int x] h Q ↔ Q (some (some (.int x))) h := WP_endZ rfl rfl hx
set_option maxRecDepth 20000 in
theorem S214_865 : WP d 214 865 (a0 :: a1 :: a2v :: a3 :: a4 :: some (.int x) :: lv) st h Q ↔ WP d 214 867 (a0 :: a1 :: a2v :: a3 :: a4 :: some (.int x) :: lv) (.int x :: st) h Q := WP_st rfl
set_option maxRecDepth 20000 in
theorem S214_867 : WP d 214 867 lv (.int x :: st) h Q ↔ if x = 0 then WP d 214 870 lv st h Q else WP d 214 881 lv st h Q := WP_br rfl
set_option maxRecDepth 20000 in
theorem S214_870 : WP d 214 870 (a0 :: a1 :: a2v :: some (.ref a) :: lv) st h Q ↔ WP d 214 871 (a0 :: a1 :: a2v :: some (.ref a) :: lv) (.ref a :: st) h Q := WP_st rfl
set_option maxRecDepth 20000 in
theorem S214_871 : WP d 214 871 lv st h Q ↔ WP d 214 872 lv (.int 0 :: st) h Q := WP_st rfl
set_option maxRecDepth 20000 in
theorem S214_872 (hi : okA 4 a i) : WP d 214 872 lv (.int i :: .ref a :: st) h Q ↔ WP d 214 873 lv (.long (h.2.1 a i.toNatClampNeg) :: st) h Q := WP_lald rfl hi
set_option maxRecDepth 20000 in
theorem S214_873 : WP d 214 873 (a0 :: a1 :: a2v :: a3 :: a4 :: a5 :: some (.long u) :: lv) st h Q ↔ WP d 214 875 (a0 :: a1 :: a2v :: a3 :: a4 :: a5 :: some (.long u) :: lv) (.long u :: st) h Q := WP_st rfl
set_option maxRecDepth 20000 in
theorem S214_875 : WP d 214 875 lv (.long w :: .long u :: st) h Q ↔ WP d 214 876 lv (.int (lg_cmp u w) :: st) h Q := WP_st rfl
set_option maxRecDepth 20000 in
theorem S214_876 : WP d 214 876 lv (.int x :: st) h Q ↔ if x = 0 then WP d 214 881 lv st h Q else WP d 214 879 lv st h Q := WP_br rfl
set_option maxRecDepth 20000 in
theorem S214_879 : WP d 214 879 lv st h Q ↔ WP d 214 880 lv (.int 0 :: st) h Q := WP_st rfl
set_option maxRecDepth 20000 in
theorem S214_880 (hx : isB x) : WP d 214 880 lv [.int x] h Q ↔ Q (some (some (.int x))) h := WP_endZ rfl rfl hx
set_option maxRecDepth 20000 in
theorem S214_881 : WP d 214 881 lv st h Q ↔ WP d 214 1465 lv st h Q := WP_st rfl
set_option maxRecDepth 20000 in
theorem S214_884 : WP d 214 884 (a0 :: some (.ref a) :: lv) st h Q ↔ WP d 214 885 (a0 :: some (.ref a) :: lv) (.ref a :: st) h Q := WP_st rfl
set_option maxRecDepth 20000 in
theorem S214_885 : WP d 214 885 (some (.ref a) :: lv) st h Q ↔ WP d 214 886 (some (.ref a) :: lv) (.ref a :: st) h Q := WP_st rfl
set_option maxRecDepth 20000 in
theorem S214_886 : WP d 214 886 (a0 :: a1 :: a2v :: a3 :: some (.int x) :: lv) st h Q ↔ WP d 214 888 (a0 :: a1 :: a2v :: a3 :: some (.int x) :: lv) (.int x :: st) h Q := WP_st rfl
set_option maxRecDepth 20000 in
theorem S214_888 : WP d 214 888 lv st h Q ↔ WP d 214 889 lv (.int 1 :: st) h Q := WP_st rfl
set_option maxRecDepth 20000 in
theorem S214_889 : WP d 214 889 lv (.int y :: .int x :: st) h Q ↔ WP d 214 890 lv (.int (x + y) :: st) h Q := WP_st rfl
set_option maxRecDepth 20000 in
theorem S214_890 (hi : 0 ≤ i.toInt ∧ i.toInt < h.2.2.2) : WP d 214 890 lv (.int i :: .ref 1000 :: st) h Q ↔ WP d 214 891 lv (.int (h.1 1000 i.toNatClampNeg) :: st) h Q := WP_sld rfl hi
set_option maxRecDepth 20000 in
theorem S214_891 : WP d 214 891 (some (.ref a) :: lv) st h Q ↔ WP d 214 892 (some (.ref a) :: lv) (.ref a :: st) h Q := WP_st rfl
set_option maxRecDepth 20000 in
theorem S214_892 : WP d 214 892 (a0 :: a1 :: a2v :: a3 :: some (.int x) :: lv) st h Q ↔ WP d 214 894 (a0 :: a1 :: a2v :: a3 :: some (.int x) :: lv) (.int x :: st) h Q := WP_st rfl
set_option maxRecDepth 20000 in
theorem S214_894 : WP d 214 894 lv st h Q ↔ WP d 214 895 lv (.int 2 :: st) h Q := WP_st rfl
set_option maxRecDepth 20000 in
theorem S214_895 : WP d 214 895 lv (.int y :: .int x :: st) h Q ↔ WP d 214 896 lv (.int (x + y) :: st) h Q := WP_st rfl
set_option maxRecDepth 20000 in
theorem S214_896 (hi : 0 ≤ i.toInt ∧ i.toInt < h.2.2.2) : WP d 214 896 lv (.int i :: .ref 1000 :: st) h Q ↔ WP d 214 897 lv (.int (h.1 1000 i.toNatClampNeg) :: st) h Q := WP_sld rfl hi
set_option maxRecDepth 20000 in
theorem S214_897 : WP d 214 897 (a0 :: a1 :: a2v :: some (.ref a) :: lv) st h Q ↔ WP d 214 898 (a0 :: a1 :: a2v :: some (.ref a) :: lv) (.ref a :: st) h Q := WP_st rfl
set_option maxRecDepth 20000 in
theorem S214_901 : WP d 214 901 (a0 :: a1 :: a2v :: a3 :: a4 :: a5 :: lv) (.int x :: st) h Q ↔ WP d 214 903 (a0 :: a1 :: a2v :: a3 :: kl a4 :: some (.int x) :: lv) st h Q := WP_st (by rfl)
set_option maxRecDepth 20000 in
theorem S214_903 : WP d 214 903 (a0 :: a1 :: some (.ref a) :: lv) st h Q ↔ WP d 214 904 (a0 :: a1 :: some (.ref a) :: lv) (.ref a :: st) h Q := WP_st rfl
set_option maxRecDepth 20000 in
theorem S214_904 : WP d 214 904 (some (.ref a) :: lv) st h Q ↔ WP d 214 905 (some (.ref a) :: lv) (.ref a :: st) h Q := WP_st rfl
set_option maxRecDepth 20000 in
theorem S214_905 : WP d 214 905 (a0 :: a1 :: a2v :: a3 :: some (.int x) :: lv) st h Q ↔ WP d 214 907 (a0 :: a1 :: a2v :: a3 :: some (.int x) :: lv) (.int x :: st) h Q := WP_st rfl
set_option maxRecDepth 20000 in
theorem S214_907 : WP d 214 907 lv st h Q ↔ WP d 214 908 lv (.int 1 :: st) h Q := WP_st rfl
set_option maxRecDepth 20000 in
theorem S214_908 : WP d 214 908 lv (.int y :: .int x :: st) h Q ↔ WP d 214 909 lv (.int (x + y) :: st) h Q := WP_st rfl
set_option maxRecDepth 20000 in
theorem S214_909 (hi : 0 ≤ i.toInt ∧ i.toInt < h.2.2.2) : WP d 214 909 lv (.int i :: .ref 1000 :: st) h Q ↔ WP d 214 910 lv (.int (h.1 1000 i.toNatClampNeg) :: st) h Q := WP_sld rfl hi
set_option maxRecDepth 20000 in
theorem S214_910 : WP d 214 910 (some (.ref a) :: lv) st h Q ↔ WP d 214 911 (some (.ref a) :: lv) (.ref a :: st) h Q := WP_st rfl
set_option maxRecDepth 20000 in
theorem S214_911 : WP d 214 911 (a0 :: a1 :: a2v :: a3 :: some (.int x) :: lv) st h Q ↔ WP d 214 913 (a0 :: a1 :: a2v :: a3 :: some (.int x) :: lv) (.int x :: st) h Q := WP_st rfl
set_option maxRecDepth 20000 in
theorem S214_913 : WP d 214 913 lv st h Q ↔ WP d 214 914 lv (.int 2 :: st) h Q := WP_st rfl
set_option maxRecDepth 20000 in
theorem S214_914 : WP d 214 914 lv (.int y :: .int x :: st) h Q ↔ WP d 214 915 lv (.int (x + y) :: st) h Q := WP_st rfl
set_option maxRecDepth 20000 in
theorem S214_915 (hi : 0 ≤ i.toInt ∧ i.toInt < h.2.2.2) : WP d 214 915 lv (.int i :: .ref 1000 :: st) h Q ↔ WP d 214 916 lv (.int (h.1 1000 i.toNatClampNeg) :: st) h Q := WP_sld rfl hi
set_option maxRecDepth 20000 in
theorem S214_916 {pr0 : Nat} {pi0 : Int32} {pi1 : Int32} (hs : shp pr0 = some (0, 8)) : WP (d + 1) 214 916 lv [.int pi1, .int pi0, .ref pr0] h Q ↔ WP d 173 0 [some (.ref pr0), some (.int pi0), some (.int pi1)] [] h (kR (d + 1) 214 919 lv [] Q) := WP_callVR rfl rfl rfl rfl rfl hs
set_option maxRecDepth 20000 in
theorem S214_919 : WP d 214 919 (a0 :: a1 :: a2v :: a3 :: a4 :: a5 :: a6 :: a7 :: lv) (.long u :: st) h Q ↔ WP d 214 921 (a0 :: a1 :: a2v :: a3 :: a4 :: kl a5 :: some (.long u) :: none :: lv) st h Q := WP_st (by rfl)
set_option maxRecDepth 20000 in
theorem S214_921 : WP d 214 921 (a0 :: a1 :: some (.ref a) :: lv) st h Q ↔ WP d 214 922 (a0 :: a1 :: some (.ref a) :: lv) (.ref a :: st) h Q := WP_st rfl
set_option maxRecDepth 20000 in
theorem S214_922 {pr0 : Nat} (hs : shp pr0 = some (0, 8)) : WP (d + 1) 214 922 lv [.ref pr0] h Q ↔ WP d 99 0 [some (.ref pr0)] [] h (kR (d + 1) 214 925 lv [] Q) := WP_callVR rfl rfl rfl rfl rfl hs
set_option maxRecDepth 20000 in
theorem S214_925 : WP d 214 925 (a0 :: a1 :: a2v :: a3 :: a4 :: some (.int x) :: lv) st h Q ↔ WP d 214 927 (a0 :: a1 :: a2v :: a3 :: a4 :: some (.int x) :: lv) (.int x :: st) h Q := WP_st rfl
set_option maxRecDepth 20000 in
theorem S214_927 : WP d 214 927 lv (.int y :: .int x :: st) h Q ↔ if x = y then WP d 214 932 lv st h Q else WP d 214 930 lv st h Q := WP_br rfl
set_option maxRecDepth 20000 in
theorem S214_930 : WP d 214 930 lv st h Q ↔ WP d 214 931 lv (.int 0 :: st) h Q := WP_st rfl
set_option maxRecDepth 20000 in
theorem S214_931 (hx : isB x) : WP d 214 931 lv [.int x] h Q ↔ Q (some (some (.int x))) h := WP_endZ rfl rfl hx
set_option maxRecDepth 20000 in
theorem S214_932 : WP d 214 932 (a0 :: a1 :: a2v :: a3 :: a4 :: some (.int x) :: lv) st h Q ↔ WP d 214 934 (a0 :: a1 :: a2v :: a3 :: a4 :: some (.int x) :: lv) (.int x :: st) h Q := WP_st rfl
set_option maxRecDepth 20000 in
theorem S214_934 : WP d 214 934 lv (.int x :: st) h Q ↔ if x = 0 then WP d 214 937 lv st h Q else WP d 214 948 lv st h Q := WP_br rfl
set_option maxRecDepth 20000 in
theorem S214_937 : WP d 214 937 (a0 :: a1 :: a2v :: some (.ref a) :: lv) st h Q ↔ WP d 214 938 (a0 :: a1 :: a2v :: some (.ref a) :: lv) (.ref a :: st) h Q := WP_st rfl
set_option maxRecDepth 20000 in
theorem S214_938 : WP d 214 938 lv st h Q ↔ WP d 214 939 lv (.int 0 :: st) h Q := WP_st rfl
set_option maxRecDepth 20000 in
theorem S214_939 (hi : okA 4 a i) : WP d 214 939 lv (.int i :: .ref a :: st) h Q ↔ WP d 214 940 lv (.long (h.2.1 a i.toNatClampNeg) :: st) h Q := WP_lald rfl hi
set_option maxRecDepth 20000 in
theorem S214_940 : WP d 214 940 (a0 :: a1 :: a2v :: a3 :: a4 :: a5 :: some (.long u) :: lv) st h Q ↔ WP d 214 942 (a0 :: a1 :: a2v :: a3 :: a4 :: a5 :: some (.long u) :: lv) (.long u :: st) h Q := WP_st rfl
set_option maxRecDepth 20000 in
theorem S214_942 : WP d 214 942 lv (.long w :: .long u :: st) h Q ↔ WP d 214 943 lv (.int (lg_cmp u w) :: st) h Q := WP_st rfl
set_option maxRecDepth 20000 in
theorem S214_943 : WP d 214 943 lv (.int x :: st) h Q ↔ if x = 0 then WP d 214 948 lv st h Q else WP d 214 946 lv st h Q := WP_br rfl
set_option maxRecDepth 20000 in
theorem S214_946 : WP d 214 946 lv st h Q ↔ WP d 214 947 lv (.int 0 :: st) h Q := WP_st rfl
set_option maxRecDepth 20000 in
theorem S214_947 (hx : isB x) : WP d 214 947 lv [.int x] h Q ↔ Q (some (some (.int x))) h := WP_endZ rfl rfl hx
set_option maxRecDepth 20000 in
theorem S214_948 : WP d 214 948 lv st h Q ↔ WP d 214 1465 lv st h Q := WP_st rfl
set_option maxRecDepth 20000 in
theorem S214_951 : WP d 214 951 (a0 :: some (.ref a) :: lv) st h Q ↔ WP d 214 952 (a0 :: some (.ref a) :: lv) (.ref a :: st) h Q := WP_st rfl
set_option maxRecDepth 20000 in
theorem S214_952 {pr0 : Nat} (hs : shp pr0 = some (0, 7)) : WP (d + 1) 214 952 lv [.ref pr0] h Q ↔ WP d 71 0 [some (.ref pr0)] [] h (kR (d + 1) 214 955 lv [] Q) := WP_callVR rfl rfl rfl rfl rfl hs
set_option maxRecDepth 20000 in
theorem S214_955 : WP d 214 955 (a0 :: a1 :: some (.ref a) :: lv) st h Q ↔ WP d 214 956 (a0 :: a1 :: some (.ref a) :: lv) (.ref a :: st) h Q := WP_st rfl
set_option maxRecDepth 20000 in
theorem S214_956 {pr0 : Nat} {qi0 : Int32} (hs : shp pr0 = some (0, 8)) : WP (d + 1) 214 956 lv [.ref pr0, .int qi0] h Q ↔ WP d 178 0 [some (.ref pr0)] [] h (kR (d + 1) 214 959 lv [.int qi0] Q) := WP_callVR rfl rfl rfl rfl rfl hs
set_option maxRecDepth 20000 in
theorem S214_959 : WP d 214 959 lv (.int y :: .int x :: st) h Q ↔ if x = y then WP d 214 1465 lv st h Q else WP d 214 962 lv st h Q := WP_br rfl
set_option maxRecDepth 20000 in
theorem S214_962 : WP d 214 962 lv st h Q ↔ WP d 214 963 lv (.int 0 :: st) h Q := WP_st rfl
set_option maxRecDepth 20000 in
theorem S214_963 (hx : isB x) : WP d 214 963 lv [.int x] h Q ↔ Q (some (some (.int x))) h := WP_endZ rfl rfl hx
set_option maxRecDepth 20000 in
theorem S214_964 : WP d 214 964 (a0 :: some (.ref a) :: lv) st h Q ↔ WP d 214 965 (a0 :: some (.ref a) :: lv) (.ref a :: st) h Q := WP_st rfl
set_option maxRecDepth 20000 in
theorem S214_965 : WP d 214 965 (some (.ref a) :: lv) st h Q ↔ WP d 214 966 (some (.ref a) :: lv) (.ref a :: st) h Q := WP_st rfl
set_option maxRecDepth 20000 in
theorem S214_966 : WP d 214 966 (a0 :: a1 :: a2v :: a3 :: some (.int x) :: lv) st h Q ↔ WP d 214 968 (a0 :: a1 :: a2v :: a3 :: some (.int x) :: lv) (.int x :: st) h Q := WP_st rfl
set_option maxRecDepth 20000 in
theorem S214_968 : WP d 214 968 lv st h Q ↔ WP d 214 969 lv (.int 1 :: st) h Q := WP_st rfl
set_option maxRecDepth 20000 in
theorem S214_969 : WP d 214 969 lv (.int y :: .int x :: st) h Q ↔ WP d 214 970 lv (.int (x + y) :: st) h Q := WP_st rfl
set_option maxRecDepth 20000 in
theorem S214_970 (hi : 0 ≤ i.toInt ∧ i.toInt < h.2.2.2) : WP d 214 970 lv (.int i :: .ref 1000 :: st) h Q ↔ WP d 214 971 lv (.int (h.1 1000 i.toNatClampNeg) :: st) h Q := WP_sld rfl hi
set_option maxRecDepth 20000 in
theorem S214_971 : WP d 214 971 (some (.ref a) :: lv) st h Q ↔ WP d 214 972 (some (.ref a) :: lv) (.ref a :: st) h Q := WP_st rfl
set_option maxRecDepth 20000 in
theorem S214_972 : WP d 214 972 (a0 :: a1 :: a2v :: a3 :: some (.int x) :: lv) st h Q ↔ WP d 214 974 (a0 :: a1 :: a2v :: a3 :: some (.int x) :: lv) (.int x :: st) h Q := WP_st rfl
set_option maxRecDepth 20000 in
theorem S214_974 : WP d 214 974 lv st h Q ↔ WP d 214 975 lv (.int 2 :: st) h Q := WP_st rfl
set_option maxRecDepth 20000 in
theorem S214_975 : WP d 214 975 lv (.int y :: .int x :: st) h Q ↔ WP d 214 976 lv (.int (x + y) :: st) h Q := WP_st rfl
set_option maxRecDepth 20000 in
theorem S214_976 (hi : 0 ≤ i.toInt ∧ i.toInt < h.2.2.2) : WP d 214 976 lv (.int i :: .ref 1000 :: st) h Q ↔ WP d 214 977 lv (.int (h.1 1000 i.toNatClampNeg) :: st) h Q := WP_sld rfl hi
set_option maxRecDepth 20000 in
theorem S214_977 : WP d 214 977 (some (.ref a) :: lv) st h Q ↔ WP d 214 978 (some (.ref a) :: lv) (.ref a :: st) h Q := WP_st rfl
set_option maxRecDepth 20000 in
theorem S214_978 : WP d 214 978 (a0 :: a1 :: a2v :: a3 :: some (.int x) :: lv) st h Q ↔ WP d 214 980 (a0 :: a1 :: a2v :: a3 :: some (.int x) :: lv) (.int x :: st) h Q := WP_st rfl
set_option maxRecDepth 20000 in
theorem S214_980 : WP d 214 980 lv st h Q ↔ WP d 214 981 lv (.int 3 :: st) h Q := WP_st rfl
set_option maxRecDepth 20000 in
theorem S214_981 : WP d 214 981 lv (.int y :: .int x :: st) h Q ↔ WP d 214 982 lv (.int (x + y) :: st) h Q := WP_st rfl
set_option maxRecDepth 20000 in
theorem S214_982 (hi : 0 ≤ i.toInt ∧ i.toInt < h.2.2.2) : WP d 214 982 lv (.int i :: .ref 1000 :: st) h Q ↔ WP d 214 983 lv (.int (h.1 1000 i.toNatClampNeg) :: st) h Q := WP_sld rfl hi
set_option maxRecDepth 20000 in
theorem S214_983 : WP d 214 983 (a0 :: a1 :: a2v :: some (.ref a) :: lv) st h Q ↔ WP d 214 984 (a0 :: a1 :: a2v :: some (.ref a) :: lv) (.ref a :: st) h Q := WP_st rfl
set_option maxRecDepth 20000 in
theorem S214_987 : WP d 214 987 (a0 :: a1 :: a2v :: a3 :: a4 :: a5 :: lv) (.int x :: st) h Q ↔ WP d 214 989 (a0 :: a1 :: a2v :: a3 :: kl a4 :: some (.int x) :: lv) st h Q := WP_st (by rfl)
set_option maxRecDepth 20000 in
theorem S214_989 : WP d 214 989 (a0 :: a1 :: some (.ref a) :: lv) st h Q ↔ WP d 214 990 (a0 :: a1 :: some (.ref a) :: lv) (.ref a :: st) h Q := WP_st rfl
set_option maxRecDepth 20000 in
theorem S214_990 : WP d 214 990 (some (.ref a) :: lv) st h Q ↔ WP d 214 991 (some (.ref a) :: lv) (.ref a :: st) h Q := WP_st rfl
set_option maxRecDepth 20000 in
theorem S214_991 : WP d 214 991 (a0 :: a1 :: a2v :: a3 :: some (.int x) :: lv) st h Q ↔ WP d 214 993 (a0 :: a1 :: a2v :: a3 :: some (.int x) :: lv) (.int x :: st) h Q := WP_st rfl
set_option maxRecDepth 20000 in
theorem S214_993 : WP d 214 993 lv st h Q ↔ WP d 214 994 lv (.int 1 :: st) h Q := WP_st rfl
set_option maxRecDepth 20000 in
theorem S214_994 : WP d 214 994 lv (.int y :: .int x :: st) h Q ↔ WP d 214 995 lv (.int (x + y) :: st) h Q := WP_st rfl
set_option maxRecDepth 20000 in
theorem S214_995 (hi : 0 ≤ i.toInt ∧ i.toInt < h.2.2.2) : WP d 214 995 lv (.int i :: .ref 1000 :: st) h Q ↔ WP d 214 996 lv (.int (h.1 1000 i.toNatClampNeg) :: st) h Q := WP_sld rfl hi
set_option maxRecDepth 20000 in
theorem S214_996 : WP d 214 996 (some (.ref a) :: lv) st h Q ↔ WP d 214 997 (some (.ref a) :: lv) (.ref a :: st) h Q := WP_st rfl
set_option maxRecDepth 20000 in
theorem S214_997 : WP d 214 997 (a0 :: a1 :: a2v :: a3 :: some (.int x) :: lv) st h Q ↔ WP d 214 999 (a0 :: a1 :: a2v :: a3 :: some (.int x) :: lv) (.int x :: st) h Q := WP_st rfl
set_option maxRecDepth 20000 in
theorem S214_999 : WP d 214 999 lv st h Q ↔ WP d 214 1000 lv (.int 2 :: st) h Q := WP_st rfl
set_option maxRecDepth 20000 in
theorem S214_1000 : WP d 214 1000 lv (.int y :: .int x :: st) h Q ↔ WP d 214 1001 lv (.int (x + y) :: st) h Q := WP_st rfl
set_option maxRecDepth 20000 in
theorem S214_1001 (hi : 0 ≤ i.toInt ∧ i.toInt < h.2.2.2) : WP d 214 1001 lv (.int i :: .ref 1000 :: st) h Q ↔ WP d 214 1002 lv (.int (h.1 1000 i.toNatClampNeg) :: st) h Q := WP_sld rfl hi
set_option maxRecDepth 20000 in
theorem S214_1002 : WP d 214 1002 (some (.ref a) :: lv) st h Q ↔ WP d 214 1003 (some (.ref a) :: lv) (.ref a :: st) h Q := WP_st rfl
set_option maxRecDepth 20000 in
theorem S214_1003 : WP d 214 1003 (a0 :: a1 :: a2v :: a3 :: some (.int x) :: lv) st h Q ↔ WP d 214 1005 (a0 :: a1 :: a2v :: a3 :: some (.int x) :: lv) (.int x :: st) h Q := WP_st rfl
set_option maxRecDepth 20000 in
theorem S214_1005 : WP d 214 1005 lv st h Q ↔ WP d 214 1006 lv (.int 3 :: st) h Q := WP_st rfl
set_option maxRecDepth 20000 in
theorem S214_1006 : WP d 214 1006 lv (.int y :: .int x :: st) h Q ↔ WP d 214 1007 lv (.int (x + y) :: st) h Q := WP_st rfl
set_option maxRecDepth 20000 in
theorem S214_1007 (hi : 0 ≤ i.toInt ∧ i.toInt < h.2.2.2) : WP d 214 1007 lv (.int i :: .ref 1000 :: st) h Q ↔ WP d 214 1008 lv (.int (h.1 1000 i.toNatClampNeg) :: st) h Q := WP_sld rfl hi
set_option maxRecDepth 20000 in
theorem S214_1008 {pr0 : Nat} {pi0 : Int32} {pi1 : Int32} {pi2 : Int32} (hs : shp pr0 = some (0, 8)) : WP (d + 1) 214 1008 lv [.int pi2, .int pi1, .int pi0, .ref pr0] h Q ↔ WP d 169 0 [some (.ref pr0), some (.int pi0), some (.int pi1), some (.int pi2), none, none] [] h (kR (d + 1) 214 1011 lv [] Q) := WP_callVR rfl rfl rfl rfl rfl hs
set_option maxRecDepth 20000 in
theorem S214_1011 : WP d 214 1011 (a0 :: a1 :: a2v :: a3 :: a4 :: a5 :: a6 :: a7 :: lv) (.long u :: st) h Q ↔ WP d 214 1013 (a0 :: a1 :: a2v :: a3 :: a4 :: kl a5 :: some (.long u) :: none :: lv) st h Q := WP_st (by rfl)
set_option maxRecDepth 20000 in
theorem S214_1013 : WP d 214 1013 (a0 :: a1 :: some (.ref a) :: lv) st h Q ↔ WP d 214 1014 (a0 :: a1 :: some (.ref a) :: lv) (.ref a :: st) h Q := WP_st rfl
set_option maxRecDepth 20000 in
theorem S214_1014 {pr0 : Nat} (hs : shp pr0 = some (0, 8)) : WP (d + 1) 214 1014 lv [.ref pr0] h Q ↔ WP d 99 0 [some (.ref pr0)] [] h (kR (d + 1) 214 1017 lv [] Q) := WP_callVR rfl rfl rfl rfl rfl hs
set_option maxRecDepth 20000 in
theorem S214_1017 : WP d 214 1017 (a0 :: a1 :: a2v :: a3 :: a4 :: some (.int x) :: lv) st h Q ↔ WP d 214 1019 (a0 :: a1 :: a2v :: a3 :: a4 :: some (.int x) :: lv) (.int x :: st) h Q := WP_st rfl
set_option maxRecDepth 20000 in
theorem S214_1019 : WP d 214 1019 lv (.int y :: .int x :: st) h Q ↔ if x = y then WP d 214 1024 lv st h Q else WP d 214 1022 lv st h Q := WP_br rfl
set_option maxRecDepth 20000 in
theorem S214_1022 : WP d 214 1022 lv st h Q ↔ WP d 214 1023 lv (.int 0 :: st) h Q := WP_st rfl
set_option maxRecDepth 20000 in
theorem S214_1023 (hx : isB x) : WP d 214 1023 lv [.int x] h Q ↔ Q (some (some (.int x))) h := WP_endZ rfl rfl hx
set_option maxRecDepth 20000 in
theorem S214_1024 : WP d 214 1024 (a0 :: a1 :: a2v :: a3 :: a4 :: some (.int x) :: lv) st h Q ↔ WP d 214 1026 (a0 :: a1 :: a2v :: a3 :: a4 :: some (.int x) :: lv) (.int x :: st) h Q := WP_st rfl
set_option maxRecDepth 20000 in
theorem S214_1026 : WP d 214 1026 lv (.int x :: st) h Q ↔ if x = 0 then WP d 214 1029 lv st h Q else WP d 214 1040 lv st h Q := WP_br rfl
set_option maxRecDepth 20000 in
theorem S214_1029 : WP d 214 1029 (a0 :: a1 :: a2v :: some (.ref a) :: lv) st h Q ↔ WP d 214 1030 (a0 :: a1 :: a2v :: some (.ref a) :: lv) (.ref a :: st) h Q := WP_st rfl
set_option maxRecDepth 20000 in
theorem S214_1030 : WP d 214 1030 lv st h Q ↔ WP d 214 1031 lv (.int 0 :: st) h Q := WP_st rfl
set_option maxRecDepth 20000 in
theorem S214_1031 (hi : okA 4 a i) : WP d 214 1031 lv (.int i :: .ref a :: st) h Q ↔ WP d 214 1032 lv (.long (h.2.1 a i.toNatClampNeg) :: st) h Q := WP_lald rfl hi
set_option maxRecDepth 20000 in
theorem S214_1032 : WP d 214 1032 (a0 :: a1 :: a2v :: a3 :: a4 :: a5 :: some (.long u) :: lv) st h Q ↔ WP d 214 1034 (a0 :: a1 :: a2v :: a3 :: a4 :: a5 :: some (.long u) :: lv) (.long u :: st) h Q := WP_st rfl
set_option maxRecDepth 20000 in
theorem S214_1034 : WP d 214 1034 lv (.long w :: .long u :: st) h Q ↔ WP d 214 1035 lv (.int (lg_cmp u w) :: st) h Q := WP_st rfl
set_option maxRecDepth 20000 in
theorem S214_1035 : WP d 214 1035 lv (.int x :: st) h Q ↔ if x = 0 then WP d 214 1040 lv st h Q else WP d 214 1038 lv st h Q := WP_br rfl
set_option maxRecDepth 20000 in
theorem S214_1038 : WP d 214 1038 lv st h Q ↔ WP d 214 1039 lv (.int 0 :: st) h Q := WP_st rfl
set_option maxRecDepth 20000 in
theorem S214_1039 (hx : isB x) : WP d 214 1039 lv [.int x] h Q ↔ Q (some (some (.int x))) h := WP_endZ rfl rfl hx
set_option maxRecDepth 20000 in
theorem S214_1040 : WP d 214 1040 lv st h Q ↔ WP d 214 1465 lv st h Q := WP_st rfl
set_option maxRecDepth 20000 in
theorem S214_1043 : WP d 214 1043 (a0 :: some (.ref a) :: lv) st h Q ↔ WP d 214 1044 (a0 :: some (.ref a) :: lv) (.ref a :: st) h Q := WP_st rfl
set_option maxRecDepth 20000 in
theorem S214_1044 : WP d 214 1044 (some (.ref a) :: lv) st h Q ↔ WP d 214 1045 (some (.ref a) :: lv) (.ref a :: st) h Q := WP_st rfl
set_option maxRecDepth 20000 in
theorem S214_1045 : WP d 214 1045 (a0 :: a1 :: a2v :: a3 :: some (.int x) :: lv) st h Q ↔ WP d 214 1047 (a0 :: a1 :: a2v :: a3 :: some (.int x) :: lv) (.int x :: st) h Q := WP_st rfl
set_option maxRecDepth 20000 in
theorem S214_1047 : WP d 214 1047 lv st h Q ↔ WP d 214 1048 lv (.int 1 :: st) h Q := WP_st rfl
set_option maxRecDepth 20000 in
theorem S214_1048 : WP d 214 1048 lv (.int y :: .int x :: st) h Q ↔ WP d 214 1049 lv (.int (x + y) :: st) h Q := WP_st rfl
set_option maxRecDepth 20000 in
theorem S214_1049 (hi : 0 ≤ i.toInt ∧ i.toInt < h.2.2.2) : WP d 214 1049 lv (.int i :: .ref 1000 :: st) h Q ↔ WP d 214 1050 lv (.int (h.1 1000 i.toNatClampNeg) :: st) h Q := WP_sld rfl hi
set_option maxRecDepth 20000 in
theorem S214_1050 {pr0 : Nat} {pi0 : Int32} (hs : shp pr0 = some (0, 7)) : WP (d + 1) 214 1050 lv [.int pi0, .ref pr0] h Q ↔ WP d 73 0 [some (.ref pr0), some (.int pi0), none, none, none, none, none] [] h (kR (d + 1) 214 1053 lv [] Q) := WP_callVR rfl rfl rfl rfl rfl hs
set_option maxRecDepth 20000 in
theorem S214_1053 : WP d 214 1053 (a0 :: a1 :: some (.ref a) :: lv) st h Q ↔ WP d 214 1054 (a0 :: a1 :: some (.ref a) :: lv) (.ref a :: st) h Q := WP_st rfl
set_option maxRecDepth 20000 in
theorem S214_1054 : WP d 214 1054 (some (.ref a) :: lv) st h Q ↔ WP d 214 1055 (some (.ref a) :: lv) (.ref a :: st) h Q := WP_st rfl
set_option maxRecDepth 20000 in
theorem S214_1055 : WP d 214 1055 (a0 :: a1 :: a2v :: a3 :: some (.int x) :: lv) st h Q ↔ WP d 214 1057 (a0 :: a1 :: a2v :: a3 :: some (.int x) :: lv) (.int x :: st) h Q := WP_st rfl
set_option maxRecDepth 20000 in
theorem S214_1057 : WP d 214 1057 lv st h Q ↔ WP d 214 1058 lv (.int 1 :: st) h Q := WP_st rfl
set_option maxRecDepth 20000 in
theorem S214_1058 : WP d 214 1058 lv (.int y :: .int x :: st) h Q ↔ WP d 214 1059 lv (.int (x + y) :: st) h Q := WP_st rfl
set_option maxRecDepth 20000 in
theorem S214_1059 (hi : 0 ≤ i.toInt ∧ i.toInt < h.2.2.2) : WP d 214 1059 lv (.int i :: .ref 1000 :: st) h Q ↔ WP d 214 1060 lv (.int (h.1 1000 i.toNatClampNeg) :: st) h Q := WP_sld rfl hi
set_option maxRecDepth 20000 in
theorem S214_1060 {pr0 : Nat} {pi0 : Int32} {qi1 : Int32} (hs : shp pr0 = some (0, 8)) : WP (d + 1) 214 1060 lv [.int pi0, .ref pr0, .int qi1] h Q ↔ WP d 170 0 [some (.ref pr0), some (.int pi0), none, none, none, none, none, none, none, none] [] h (kR (d + 1) 214 1063 lv [.int qi1] Q) := WP_callVR rfl rfl rfl rfl rfl hs
set_option maxRecDepth 20000 in
theorem S214_1063 : WP d 214 1063 lv (.int y :: .int x :: st) h Q ↔ if x = y then WP d 214 1465 lv st h Q else WP d 214 1066 lv st h Q := WP_br rfl
set_option maxRecDepth 20000 in
theorem S214_1066 : WP d 214 1066 lv st h Q ↔ WP d 214 1067 lv (.int 0 :: st) h Q := WP_st rfl
set_option maxRecDepth 20000 in
theorem S214_1067 (hx : isB x) : WP d 214 1067 lv [.int x] h Q ↔ Q (some (some (.int x))) h := WP_endZ rfl rfl hx
set_option maxRecDepth 20000 in
theorem S214_1068 : WP d 214 1068 (a0 :: some (.ref a) :: lv) st h Q ↔ WP d 214 1069 (a0 :: some (.ref a) :: lv) (.ref a :: st) h Q := WP_st rfl
set_option maxRecDepth 20000 in
theorem S214_1069 : WP d 214 1069 (some (.ref a) :: lv) st h Q ↔ WP d 214 1070 (some (.ref a) :: lv) (.ref a :: st) h Q := WP_st rfl
set_option maxRecDepth 20000 in
theorem S214_1070 : WP d 214 1070 (a0 :: a1 :: a2v :: a3 :: some (.int x) :: lv) st h Q ↔ WP d 214 1072 (a0 :: a1 :: a2v :: a3 :: some (.int x) :: lv) (.int x :: st) h Q := WP_st rfl
set_option maxRecDepth 20000 in
theorem S214_1072 : WP d 214 1072 lv st h Q ↔ WP d 214 1073 lv (.int 1 :: st) h Q := WP_st rfl
set_option maxRecDepth 20000 in
theorem S214_1073 : WP d 214 1073 lv (.int y :: .int x :: st) h Q ↔ WP d 214 1074 lv (.int (x + y) :: st) h Q := WP_st rfl
set_option maxRecDepth 20000 in
theorem S214_1074 (hi : 0 ≤ i.toInt ∧ i.toInt < h.2.2.2) : WP d 214 1074 lv (.int i :: .ref 1000 :: st) h Q ↔ WP d 214 1075 lv (.int (h.1 1000 i.toNatClampNeg) :: st) h Q := WP_sld rfl hi
set_option maxRecDepth 20000 in
theorem S214_1075 {pr0 : Nat} {pi0 : Int32} (hs : shp pr0 = some (0, 7)) : WP (d + 1) 214 1075 lv [.int pi0, .ref pr0] h Q ↔ WP d 74 0 [some (.ref pr0), some (.int pi0)] [] h (kR (d + 1) 214 1078 lv [] Q) := WP_callVR rfl rfl rfl rfl rfl hs
set_option maxRecDepth 20000 in
theorem S214_1078 : WP d 214 1078 (a0 :: a1 :: some (.ref a) :: lv) st h Q ↔ WP d 214 1079 (a0 :: a1 :: some (.ref a) :: lv) (.ref a :: st) h Q := WP_st rfl
set_option maxRecDepth 20000 in
theorem S214_1079 : WP d 214 1079 (some (.ref a) :: lv) st h Q ↔ WP d 214 1080 (some (.ref a) :: lv) (.ref a :: st) h Q := WP_st rfl
set_option maxRecDepth 20000 in
theorem S214_1080 : WP d 214 1080 (a0 :: a1 :: a2v :: a3 :: some (.int x) :: lv) st h Q ↔ WP d 214 1082 (a0 :: a1 :: a2v :: a3 :: some (.int x) :: lv) (.int x :: st) h Q := WP_st rfl
set_option maxRecDepth 20000 in
theorem S214_1082 : WP d 214 1082 lv st h Q ↔ WP d 214 1083 lv (.int 1 :: st) h Q := WP_st rfl
set_option maxRecDepth 20000 in
theorem S214_1083 : WP d 214 1083 lv (.int y :: .int x :: st) h Q ↔ WP d 214 1084 lv (.int (x + y) :: st) h Q := WP_st rfl
set_option maxRecDepth 20000 in
theorem S214_1084 (hi : 0 ≤ i.toInt ∧ i.toInt < h.2.2.2) : WP d 214 1084 lv (.int i :: .ref 1000 :: st) h Q ↔ WP d 214 1085 lv (.int (h.1 1000 i.toNatClampNeg) :: st) h Q := WP_sld rfl hi
set_option maxRecDepth 20000 in
theorem S214_1085 {pr0 : Nat} {pi0 : Int32} {qi1 : Int32} (hs : shp pr0 = some (0, 8)) : WP (d + 1) 214 1085 lv [.int pi0, .ref pr0, .int qi1] h Q ↔ WP d 182 0 [some (.ref pr0), some (.int pi0)] [] h (kR (d + 1) 214 1088 lv [.int qi1] Q) := WP_callVR rfl rfl rfl rfl rfl hs
set_option maxRecDepth 20000 in
theorem S214_1088 : WP d 214 1088 lv (.int y :: .int x :: st) h Q ↔ if x = y then WP d 214 1465 lv st h Q else WP d 214 1091 lv st h Q := WP_br rfl
set_option maxRecDepth 20000 in
theorem S214_1091 : WP d 214 1091 lv st h Q ↔ WP d 214 1092 lv (.int 0 :: st) h Q := WP_st rfl
set_option maxRecDepth 20000 in
theorem S214_1092 (hx : isB x) : WP d 214 1092 lv [.int x] h Q ↔ Q (some (some (.int x))) h := WP_endZ rfl rfl hx
set_option maxRecDepth 20000 in
theorem S214_1093 : WP d 214 1093 (a0 :: some (.ref a) :: lv) st h Q ↔ WP d 214 1094 (a0 :: some (.ref a) :: lv) (.ref a :: st) h Q := WP_st rfl
set_option maxRecDepth 20000 in
theorem S214_1094 : WP d 214 1094 (some (.ref a) :: lv) st h Q ↔ WP d 214 1095 (some (.ref a) :: lv) (.ref a :: st) h Q := WP_st rfl
set_option maxRecDepth 20000 in
theorem S214_1095 : WP d 214 1095 (a0 :: a1 :: a2v :: a3 :: some (.int x) :: lv) st h Q ↔ WP d 214 1097 (a0 :: a1 :: a2v :: a3 :: some (.int x) :: lv) (.int x :: st) h Q := WP_st rfl
set_option maxRecDepth 20000 in
theorem S214_1097 : WP d 214 1097 lv st h Q ↔ WP d 214 1098 lv (.int 1 :: st) h Q := WP_st rfl
set_option maxRecDepth 20000 in
theorem S214_1098 : WP d 214 1098 lv (.int y :: .int x :: st) h Q ↔ WP d 214 1099 lv (.int (x + y) :: st) h Q := WP_st rfl
set_option maxRecDepth 20000 in
theorem S214_1099 (hi : 0 ≤ i.toInt ∧ i.toInt < h.2.2.2) : WP d 214 1099 lv (.int i :: .ref 1000 :: st) h Q ↔ WP d 214 1100 lv (.int (h.1 1000 i.toNatClampNeg) :: st) h Q := WP_sld rfl hi
set_option maxRecDepth 20000 in
theorem S214_1100 {pr0 : Nat} {pi0 : Int32} (hs : shp pr0 = some (0, 7)) : WP (d + 1) 214 1100 lv [.int pi0, .ref pr0] h Q ↔ WP d 75 0 [some (.ref pr0), some (.int pi0)] [] h (kR (d + 1) 214 1103 lv [] Q) := WP_callVR rfl rfl rfl rfl rfl hs
set_option maxRecDepth 20000 in
theorem S214_1103 : WP d 214 1103 (a0 :: a1 :: some (.ref a) :: lv) st h Q ↔ WP d 214 1104 (a0 :: a1 :: some (.ref a) :: lv) (.ref a :: st) h Q := WP_st rfl
set_option maxRecDepth 20000 in
theorem S214_1104 : WP d 214 1104 (some (.ref a) :: lv) st h Q ↔ WP d 214 1105 (some (.ref a) :: lv) (.ref a :: st) h Q := WP_st rfl
set_option maxRecDepth 20000 in
theorem S214_1105 : WP d 214 1105 (a0 :: a1 :: a2v :: a3 :: some (.int x) :: lv) st h Q ↔ WP d 214 1107 (a0 :: a1 :: a2v :: a3 :: some (.int x) :: lv) (.int x :: st) h Q := WP_st rfl
set_option maxRecDepth 20000 in
theorem S214_1107 : WP d 214 1107 lv st h Q ↔ WP d 214 1108 lv (.int 1 :: st) h Q := WP_st rfl
set_option maxRecDepth 20000 in
theorem S214_1108 : WP d 214 1108 lv (.int y :: .int x :: st) h Q ↔ WP d 214 1109 lv (.int (x + y) :: st) h Q := WP_st rfl
set_option maxRecDepth 20000 in
theorem S214_1109 (hi : 0 ≤ i.toInt ∧ i.toInt < h.2.2.2) : WP d 214 1109 lv (.int i :: .ref 1000 :: st) h Q ↔ WP d 214 1110 lv (.int (h.1 1000 i.toNatClampNeg) :: st) h Q := WP_sld rfl hi
set_option maxRecDepth 20000 in
theorem S214_1110 {pr0 : Nat} {pi0 : Int32} {qi1 : Int32} (hs : shp pr0 = some (0, 8)) : WP (d + 1) 214 1110 lv [.int pi0, .ref pr0, .int qi1] h Q ↔ WP d 183 0 [some (.ref pr0), some (.int pi0)] [] h (kR (d + 1) 214 1113 lv [.int qi1] Q) := WP_callVR rfl rfl rfl rfl rfl hs
set_option maxRecDepth 20000 in
theorem S214_1113 : WP d 214 1113 lv (.int y :: .int x :: st) h Q ↔ if x = y then WP d 214 1465 lv st h Q else WP d 214 1116 lv st h Q := WP_br rfl
set_option maxRecDepth 20000 in
theorem S214_1116 : WP d 214 1116 lv st h Q ↔ WP d 214 1117 lv (.int 0 :: st) h Q := WP_st rfl
set_option maxRecDepth 20000 in
theorem S214_1117 (hx : isB x) : WP d 214 1117 lv [.int x] h Q ↔ Q (some (some (.int x))) h := WP_endZ rfl rfl hx
set_option maxRecDepth 20000 in
theorem S214_1118 : WP d 214 1118 (a0 :: some (.ref a) :: lv) st h Q ↔ WP d 214 1119 (a0 :: some (.ref a) :: lv) (.ref a :: st) h Q := WP_st rfl
set_option maxRecDepth 20000 in
theorem S214_1119 : WP d 214 1119 (some (.ref a) :: lv) st h Q ↔ WP d 214 1120 (some (.ref a) :: lv) (.ref a :: st) h Q := WP_st rfl
set_option maxRecDepth 20000 in
theorem S214_1120 : WP d 214 1120 (a0 :: a1 :: a2v :: a3 :: some (.int x) :: lv) st h Q ↔ WP d 214 1122 (a0 :: a1 :: a2v :: a3 :: some (.int x) :: lv) (.int x :: st) h Q := WP_st rfl
set_option maxRecDepth 20000 in
theorem S214_1122 : WP d 214 1122 lv st h Q ↔ WP d 214 1123 lv (.int 1 :: st) h Q := WP_st rfl
set_option maxRecDepth 20000 in
theorem S214_1123 : WP d 214 1123 lv (.int y :: .int x :: st) h Q ↔ WP d 214 1124 lv (.int (x + y) :: st) h Q := WP_st rfl
set_option maxRecDepth 20000 in
theorem S214_1124 (hi : 0 ≤ i.toInt ∧ i.toInt < h.2.2.2) : WP d 214 1124 lv (.int i :: .ref 1000 :: st) h Q ↔ WP d 214 1125 lv (.int (h.1 1000 i.toNatClampNeg) :: st) h Q := WP_sld rfl hi
set_option maxRecDepth 20000 in
theorem S214_1125 {pr0 : Nat} {pi0 : Int32} (hs : shp pr0 = some (0, 7)) : WP (d + 1) 214 1125 lv [.int pi0, .ref pr0] h Q ↔ WP d 76 0 [some (.ref pr0), some (.int pi0), none, none, none] [] h (kR (d + 1) 214 1128 lv [] Q) := WP_callVR rfl rfl rfl rfl rfl hs
set_option maxRecDepth 20000 in
theorem S214_1128 : WP d 214 1128 (a0 :: a1 :: some (.ref a) :: lv) st h Q ↔ WP d 214 1129 (a0 :: a1 :: some (.ref a) :: lv) (.ref a :: st) h Q := WP_st rfl
set_option maxRecDepth 20000 in
theorem S214_1129 : WP d 214 1129 (some (.ref a) :: lv) st h Q ↔ WP d 214 1130 (some (.ref a) :: lv) (.ref a :: st) h Q := WP_st rfl
set_option maxRecDepth 20000 in
theorem S214_1130 : WP d 214 1130 (a0 :: a1 :: a2v :: a3 :: some (.int x) :: lv) st h Q ↔ WP d 214 1132 (a0 :: a1 :: a2v :: a3 :: some (.int x) :: lv) (.int x :: st) h Q := WP_st rfl
set_option maxRecDepth 20000 in
theorem S214_1132 : WP d 214 1132 lv st h Q ↔ WP d 214 1133 lv (.int 1 :: st) h Q := WP_st rfl
set_option maxRecDepth 20000 in
theorem S214_1133 : WP d 214 1133 lv (.int y :: .int x :: st) h Q ↔ WP d 214 1134 lv (.int (x + y) :: st) h Q := WP_st rfl
set_option maxRecDepth 20000 in
theorem S214_1134 (hi : 0 ≤ i.toInt ∧ i.toInt < h.2.2.2) : WP d 214 1134 lv (.int i :: .ref 1000 :: st) h Q ↔ WP d 214 1135 lv (.int (h.1 1000 i.toNatClampNeg) :: st) h Q := WP_sld rfl hi
set_option maxRecDepth 20000 in
theorem S214_1135 {pr0 : Nat} {pi0 : Int32} {qi1 : Int32} (hs : shp pr0 = some (0, 8)) : WP (d + 1) 214 1135 lv [.int pi0, .ref pr0, .int qi1] h Q ↔ WP d 189 0 [some (.ref pr0), some (.int pi0), none, none] [] h (kR (d + 1) 214 1138 lv [.int qi1] Q) := WP_callVR rfl rfl rfl rfl rfl hs
set_option maxRecDepth 20000 in
theorem S214_1138 : WP d 214 1138 lv (.int y :: .int x :: st) h Q ↔ if x = y then WP d 214 1465 lv st h Q else WP d 214 1141 lv st h Q := WP_br rfl
set_option maxRecDepth 20000 in
theorem S214_1141 : WP d 214 1141 lv st h Q ↔ WP d 214 1142 lv (.int 0 :: st) h Q := WP_st rfl
set_option maxRecDepth 20000 in
theorem S214_1142 (hx : isB x) : WP d 214 1142 lv [.int x] h Q ↔ Q (some (some (.int x))) h := WP_endZ rfl rfl hx
set_option maxRecDepth 20000 in
theorem S214_1143 : WP d 214 1143 (a0 :: some (.ref a) :: lv) st h Q ↔ WP d 214 1144 (a0 :: some (.ref a) :: lv) (.ref a :: st) h Q := WP_st rfl
set_option maxRecDepth 20000 in
theorem S214_1144 : WP d 214 1144 (some (.ref a) :: lv) st h Q ↔ WP d 214 1145 (some (.ref a) :: lv) (.ref a :: st) h Q := WP_st rfl
set_option maxRecDepth 20000 in
theorem S214_1145 : WP d 214 1145 (a0 :: a1 :: a2v :: a3 :: some (.int x) :: lv) st h Q ↔ WP d 214 1147 (a0 :: a1 :: a2v :: a3 :: some (.int x) :: lv) (.int x :: st) h Q := WP_st rfl
set_option maxRecDepth 20000 in
theorem S214_1147 : WP d 214 1147 lv st h Q ↔ WP d 214 1148 lv (.int 1 :: st) h Q := WP_st rfl
set_option maxRecDepth 20000 in
theorem S214_1148 : WP d 214 1148 lv (.int y :: .int x :: st) h Q ↔ WP d 214 1149 lv (.int (x + y) :: st) h Q := WP_st rfl
set_option maxRecDepth 20000 in
theorem S214_1149 (hi : 0 ≤ i.toInt ∧ i.toInt < h.2.2.2) : WP d 214 1149 lv (.int i :: .ref 1000 :: st) h Q ↔ WP d 214 1150 lv (.int (h.1 1000 i.toNatClampNeg) :: st) h Q := WP_sld rfl hi
set_option maxRecDepth 20000 in
theorem S214_1150 : WP d 214 1150 (some (.ref a) :: lv) st h Q ↔ WP d 214 1151 (some (.ref a) :: lv) (.ref a :: st) h Q := WP_st rfl
set_option maxRecDepth 20000 in
theorem S214_1151 : WP d 214 1151 (a0 :: a1 :: a2v :: a3 :: some (.int x) :: lv) st h Q ↔ WP d 214 1153 (a0 :: a1 :: a2v :: a3 :: some (.int x) :: lv) (.int x :: st) h Q := WP_st rfl
set_option maxRecDepth 20000 in
theorem S214_1153 : WP d 214 1153 lv st h Q ↔ WP d 214 1154 lv (.int 2 :: st) h Q := WP_st rfl
set_option maxRecDepth 20000 in
theorem S214_1154 : WP d 214 1154 lv (.int y :: .int x :: st) h Q ↔ WP d 214 1155 lv (.int (x + y) :: st) h Q := WP_st rfl
set_option maxRecDepth 20000 in
theorem S214_1155 (hi : 0 ≤ i.toInt ∧ i.toInt < h.2.2.2) : WP d 214 1155 lv (.int i :: .ref 1000 :: st) h Q ↔ WP d 214 1156 lv (.int (h.1 1000 i.toNatClampNeg) :: st) h Q := WP_sld rfl hi
set_option maxRecDepth 20000 in
theorem S214_1156 {pr0 : Nat} {pi0 : Int32} {pi1 : Int32} (hs : shp pr0 = some (0, 7)) : WP (d + 1) 214 1156 lv [.int pi1, .int pi0, .ref pr0] h Q ↔ WP d 77 0 [some (.ref pr0), some (.int pi0), some (.int pi1)] [] h (kR (d + 1) 214 1159 lv [] Q) := WP_callVR rfl rfl rfl rfl rfl hs
set_option maxRecDepth 20000 in
theorem S214_1159 : WP d 214 1159 (a0 :: a1 :: some (.ref a) :: lv) st h Q ↔ WP d 214 1160 (a0 :: a1 :: some (.ref a) :: lv) (.ref a :: st) h Q := WP_st rfl
set_option maxRecDepth 20000 in
theorem S214_1160 : WP d 214 1160 (some (.ref a) :: lv) st h Q ↔ WP d 214 1161 (some (.ref a) :: lv) (.ref a :: st) h Q := WP_st rfl
set_option maxRecDepth 20000 in
theorem S214_1161 : WP d 214 1161 (a0 :: a1 :: a2v :: a3 :: some (.int x) :: lv) st h Q ↔ WP d 214 1163 (a0 :: a1 :: a2v :: a3 :: some (.int x) :: lv) (.int x :: st) h Q := WP_st rfl
set_option maxRecDepth 20000 in
theorem S214_1163 : WP d 214 1163 lv st h Q ↔ WP d 214 1164 lv (.int 1 :: st) h Q := WP_st rfl
set_option maxRecDepth 20000 in
theorem S214_1164 : WP d 214 1164 lv (.int y :: .int x :: st) h Q ↔ WP d 214 1165 lv (.int (x + y) :: st) h Q := WP_st rfl
set_option maxRecDepth 20000 in
theorem S214_1165 (hi : 0 ≤ i.toInt ∧ i.toInt < h.2.2.2) : WP d 214 1165 lv (.int i :: .ref 1000 :: st) h Q ↔ WP d 214 1166 lv (.int (h.1 1000 i.toNatClampNeg) :: st) h Q := WP_sld rfl hi
set_option maxRecDepth 20000 in
theorem S214_1166 : WP d 214 1166 (some (.ref a) :: lv) st h Q ↔ WP d 214 1167 (some (.ref a) :: lv) (.ref a :: st) h Q := WP_st rfl
set_option maxRecDepth 20000 in
theorem S214_1167 : WP d 214 1167 (a0 :: a1 :: a2v :: a3 :: some (.int x) :: lv) st h Q ↔ WP d 214 1169 (a0 :: a1 :: a2v :: a3 :: some (.int x) :: lv) (.int x :: st) h Q := WP_st rfl
set_option maxRecDepth 20000 in
theorem S214_1169 : WP d 214 1169 lv st h Q ↔ WP d 214 1170 lv (.int 2 :: st) h Q := WP_st rfl
set_option maxRecDepth 20000 in
theorem S214_1170 : WP d 214 1170 lv (.int y :: .int x :: st) h Q ↔ WP d 214 1171 lv (.int (x + y) :: st) h Q := WP_st rfl
set_option maxRecDepth 20000 in
theorem S214_1171 (hi : 0 ≤ i.toInt ∧ i.toInt < h.2.2.2) : WP d 214 1171 lv (.int i :: .ref 1000 :: st) h Q ↔ WP d 214 1172 lv (.int (h.1 1000 i.toNatClampNeg) :: st) h Q := WP_sld rfl hi
set_option maxRecDepth 20000 in
theorem S214_1172 {pr0 : Nat} {pi0 : Int32} {pi1 : Int32} {qi2 : Int32} (hs : shp pr0 = some (0, 8)) : WP (d + 1) 214 1172 lv [.int pi1, .int pi0, .ref pr0, .int qi2] h Q ↔ WP d 184 0 [some (.ref pr0), some (.int pi0), some (.int pi1)] [] h (kR (d + 1) 214 1175 lv [.int qi2] Q) := WP_callVR rfl rfl rfl rfl rfl hs
set_option maxRecDepth 20000 in
theorem S214_1175 : WP d 214 1175 lv (.int y :: .int x :: st) h Q ↔ if x = y then WP d 214 1465 lv st h Q else WP d 214 1178 lv st h Q := WP_br rfl
set_option maxRecDepth 20000 in
theorem S214_1178 : WP d 214 1178 lv st h Q ↔ WP d 214 1179 lv (.int 0 :: st) h Q := WP_st rfl
set_option maxRecDepth 20000 in
theorem S214_1179 (hx : isB x) : WP d 214 1179 lv [.int x] h Q ↔ Q (some (some (.int x))) h := WP_endZ rfl rfl hx
set_option maxRecDepth 20000 in
theorem S214_1180 : WP d 214 1180 (a0 :: some (.ref a) :: lv) st h Q ↔ WP d 214 1181 (a0 :: some (.ref a) :: lv) (.ref a :: st) h Q := WP_st rfl
set_option maxRecDepth 20000 in
theorem S214_1181 : WP d 214 1181 (some (.ref a) :: lv) st h Q ↔ WP d 214 1182 (some (.ref a) :: lv) (.ref a :: st) h Q := WP_st rfl
set_option maxRecDepth 20000 in
theorem S214_1182 : WP d 214 1182 (a0 :: a1 :: a2v :: a3 :: some (.int x) :: lv) st h Q ↔ WP d 214 1184 (a0 :: a1 :: a2v :: a3 :: some (.int x) :: lv) (.int x :: st) h Q := WP_st rfl
set_option maxRecDepth 20000 in
theorem S214_1184 : WP d 214 1184 lv st h Q ↔ WP d 214 1185 lv (.int 1 :: st) h Q := WP_st rfl
set_option maxRecDepth 20000 in
theorem S214_1185 : WP d 214 1185 lv (.int y :: .int x :: st) h Q ↔ WP d 214 1186 lv (.int (x + y) :: st) h Q := WP_st rfl
set_option maxRecDepth 20000 in
theorem S214_1186 (hi : 0 ≤ i.toInt ∧ i.toInt < h.2.2.2) : WP d 214 1186 lv (.int i :: .ref 1000 :: st) h Q ↔ WP d 214 1187 lv (.int (h.1 1000 i.toNatClampNeg) :: st) h Q := WP_sld rfl hi
set_option maxRecDepth 20000 in
theorem S214_1187 : WP d 214 1187 (some (.ref a) :: lv) st h Q ↔ WP d 214 1188 (some (.ref a) :: lv) (.ref a :: st) h Q := WP_st rfl
set_option maxRecDepth 20000 in
theorem S214_1188 : WP d 214 1188 (a0 :: a1 :: a2v :: a3 :: some (.int x) :: lv) st h Q ↔ WP d 214 1190 (a0 :: a1 :: a2v :: a3 :: some (.int x) :: lv) (.int x :: st) h Q := WP_st rfl
set_option maxRecDepth 20000 in
theorem S214_1190 : WP d 214 1190 lv st h Q ↔ WP d 214 1191 lv (.int 2 :: st) h Q := WP_st rfl
set_option maxRecDepth 20000 in
theorem S214_1191 : WP d 214 1191 lv (.int y :: .int x :: st) h Q ↔ WP d 214 1192 lv (.int (x + y) :: st) h Q := WP_st rfl
set_option maxRecDepth 20000 in
theorem S214_1192 (hi : 0 ≤ i.toInt ∧ i.toInt < h.2.2.2) : WP d 214 1192 lv (.int i :: .ref 1000 :: st) h Q ↔ WP d 214 1193 lv (.int (h.1 1000 i.toNatClampNeg) :: st) h Q := WP_sld rfl hi
set_option maxRecDepth 20000 in
theorem S214_1193 {pr0 : Nat} {pi0 : Int32} {pi1 : Int32} (hs : shp pr0 = some (0, 7)) : WP (d + 1) 214 1193 lv [.int pi1, .int pi0, .ref pr0] h Q ↔ WP d 78 0 [some (.ref pr0), some (.int pi0), some (.int pi1)] [] h (kR (d + 1) 214 1196 lv [] Q) := WP_callVR rfl rfl rfl rfl rfl hs
set_option maxRecDepth 20000 in
theorem S214_1196 : WP d 214 1196 (a0 :: a1 :: some (.ref a) :: lv) st h Q ↔ WP d 214 1197 (a0 :: a1 :: some (.ref a) :: lv) (.ref a :: st) h Q := WP_st rfl
set_option maxRecDepth 20000 in
theorem S214_1197 : WP d 214 1197 (some (.ref a) :: lv) st h Q ↔ WP d 214 1198 (some (.ref a) :: lv) (.ref a :: st) h Q := WP_st rfl
set_option maxRecDepth 20000 in
theorem S214_1198 : WP d 214 1198 (a0 :: a1 :: a2v :: a3 :: some (.int x) :: lv) st h Q ↔ WP d 214 1200 (a0 :: a1 :: a2v :: a3 :: some (.int x) :: lv) (.int x :: st) h Q := WP_st rfl
set_option maxRecDepth 20000 in
theorem S214_1200 : WP d 214 1200 lv st h Q ↔ WP d 214 1201 lv (.int 1 :: st) h Q := WP_st rfl
set_option maxRecDepth 20000 in
theorem S214_1201 : WP d 214 1201 lv (.int y :: .int x :: st) h Q ↔ WP d 214 1202 lv (.int (x + y) :: st) h Q := WP_st rfl
set_option maxRecDepth 20000 in
theorem S214_1202 (hi : 0 ≤ i.toInt ∧ i.toInt < h.2.2.2) : WP d 214 1202 lv (.int i :: .ref 1000 :: st) h Q ↔ WP d 214 1203 lv (.int (h.1 1000 i.toNatClampNeg) :: st) h Q := WP_sld rfl hi
set_option maxRecDepth 20000 in
theorem S214_1203 : WP d 214 1203 (some (.ref a) :: lv) st h Q ↔ WP d 214 1204 (some (.ref a) :: lv) (.ref a :: st) h Q := WP_st rfl
set_option maxRecDepth 20000 in
theorem S214_1204 : WP d 214 1204 (a0 :: a1 :: a2v :: a3 :: some (.int x) :: lv) st h Q ↔ WP d 214 1206 (a0 :: a1 :: a2v :: a3 :: some (.int x) :: lv) (.int x :: st) h Q := WP_st rfl
set_option maxRecDepth 20000 in
theorem S214_1206 : WP d 214 1206 lv st h Q ↔ WP d 214 1207 lv (.int 2 :: st) h Q := WP_st rfl
set_option maxRecDepth 20000 in
theorem S214_1207 : WP d 214 1207 lv (.int y :: .int x :: st) h Q ↔ WP d 214 1208 lv (.int (x + y) :: st) h Q := WP_st rfl
set_option maxRecDepth 20000 in
theorem S214_1208 (hi : 0 ≤ i.toInt ∧ i.toInt < h.2.2.2) : WP d 214 1208 lv (.int i :: .ref 1000 :: st) h Q ↔ WP d 214 1209 lv (.int (h.1 1000 i.toNatClampNeg) :: st) h Q := WP_sld rfl hi
set_option maxRecDepth 20000 in
theorem S214_1209 {pr0 : Nat} {pi0 : Int32} {pi1 : Int32} {qi2 : Int32} (hs : shp pr0 = some (0, 8)) : WP (d + 1) 214 1209 lv [.int pi1, .int pi0, .ref pr0, .int qi2] h Q ↔ WP d 185 0 [some (.ref pr0), some (.int pi0), some (.int pi1)] [] h (kR (d + 1) 214 1212 lv [.int qi2] Q) := WP_callVR rfl rfl rfl rfl rfl hs
set_option maxRecDepth 20000 in
theorem S214_1212 : WP d 214 1212 lv (.int y :: .int x :: st) h Q ↔ if x = y then WP d 214 1465 lv st h Q else WP d 214 1215 lv st h Q := WP_br rfl
set_option maxRecDepth 20000 in
theorem S214_1215 : WP d 214 1215 lv st h Q ↔ WP d 214 1216 lv (.int 0 :: st) h Q := WP_st rfl
set_option maxRecDepth 20000 in
theorem S214_1216 (hx : isB x) : WP d 214 1216 lv [.int x] h Q ↔ Q (some (some (.int x))) h := WP_endZ rfl rfl hx
set_option maxRecDepth 20000 in
theorem S214_1217 : WP d 214 1217 (a0 :: some (.ref a) :: lv) st h Q ↔ WP d 214 1218 (a0 :: some (.ref a) :: lv) (.ref a :: st) h Q := WP_st rfl
set_option maxRecDepth 20000 in
theorem S214_1218 : WP d 214 1218 (some (.ref a) :: lv) st h Q ↔ WP d 214 1219 (some (.ref a) :: lv) (.ref a :: st) h Q := WP_st rfl
set_option maxRecDepth 20000 in
theorem S214_1219 : WP d 214 1219 (a0 :: a1 :: a2v :: a3 :: some (.int x) :: lv) st h Q ↔ WP d 214 1221 (a0 :: a1 :: a2v :: a3 :: some (.int x) :: lv) (.int x :: st) h Q := WP_st rfl
set_option maxRecDepth 20000 in
theorem S214_1221 : WP d 214 1221 lv st h Q ↔ WP d 214 1222 lv (.int 1 :: st) h Q := WP_st rfl
set_option maxRecDepth 20000 in
theorem S214_1222 : WP d 214 1222 lv (.int y :: .int x :: st) h Q ↔ WP d 214 1223 lv (.int (x + y) :: st) h Q := WP_st rfl
set_option maxRecDepth 20000 in
theorem S214_1223 (hi : 0 ≤ i.toInt ∧ i.toInt < h.2.2.2) : WP d 214 1223 lv (.int i :: .ref 1000 :: st) h Q ↔ WP d 214 1224 lv (.int (h.1 1000 i.toNatClampNeg) :: st) h Q := WP_sld rfl hi
set_option maxRecDepth 20000 in
theorem S214_1224 : WP d 214 1224 (some (.ref a) :: lv) st h Q ↔ WP d 214 1225 (some (.ref a) :: lv) (.ref a :: st) h Q := WP_st rfl
set_option maxRecDepth 20000 in
theorem S214_1225 : WP d 214 1225 (a0 :: a1 :: a2v :: a3 :: some (.int x) :: lv) st h Q ↔ WP d 214 1227 (a0 :: a1 :: a2v :: a3 :: some (.int x) :: lv) (.int x :: st) h Q := WP_st rfl
set_option maxRecDepth 20000 in
theorem S214_1227 : WP d 214 1227 lv st h Q ↔ WP d 214 1228 lv (.int 2 :: st) h Q := WP_st rfl
set_option maxRecDepth 20000 in
theorem S214_1228 : WP d 214 1228 lv (.int y :: .int x :: st) h Q ↔ WP d 214 1229 lv (.int (x + y) :: st) h Q := WP_st rfl
set_option maxRecDepth 20000 in
theorem S214_1229 (hi : 0 ≤ i.toInt ∧ i.toInt < h.2.2.2) : WP d 214 1229 lv (.int i :: .ref 1000 :: st) h Q ↔ WP d 214 1230 lv (.int (h.1 1000 i.toNatClampNeg) :: st) h Q := WP_sld rfl hi
set_option maxRecDepth 20000 in
theorem S214_1230 : WP d 214 1230 (some (.ref a) :: lv) st h Q ↔ WP d 214 1231 (some (.ref a) :: lv) (.ref a :: st) h Q := WP_st rfl
set_option maxRecDepth 20000 in
theorem S214_1231 : WP d 214 1231 (a0 :: a1 :: a2v :: a3 :: some (.int x) :: lv) st h Q ↔ WP d 214 1233 (a0 :: a1 :: a2v :: a3 :: some (.int x) :: lv) (.int x :: st) h Q := WP_st rfl
set_option maxRecDepth 20000 in
theorem S214_1233 : WP d 214 1233 lv st h Q ↔ WP d 214 1234 lv (.int 3 :: st) h Q := WP_st rfl
set_option maxRecDepth 20000 in
theorem S214_1234 : WP d 214 1234 lv (.int y :: .int x :: st) h Q ↔ WP d 214 1235 lv (.int (x + y) :: st) h Q := WP_st rfl
set_option maxRecDepth 20000 in
theorem S214_1235 (hi : 0 ≤ i.toInt ∧ i.toInt < h.2.2.2) : WP d 214 1235 lv (.int i :: .ref 1000 :: st) h Q ↔ WP d 214 1236 lv (.int (h.1 1000 i.toNatClampNeg) :: st) h Q := WP_sld rfl hi
set_option maxRecDepth 20000 in
theorem S214_1236 : WP d 214 1236 (some (.ref a) :: lv) st h Q ↔ WP d 214 1237 (some (.ref a) :: lv) (.ref a :: st) h Q := WP_st rfl
set_option maxRecDepth 20000 in
theorem S214_1237 : WP d 214 1237 (a0 :: a1 :: a2v :: a3 :: some (.int x) :: lv) st h Q ↔ WP d 214 1239 (a0 :: a1 :: a2v :: a3 :: some (.int x) :: lv) (.int x :: st) h Q := WP_st rfl
set_option maxRecDepth 20000 in
theorem S214_1239 : WP d 214 1239 lv st h Q ↔ WP d 214 1240 lv (.int 4 :: st) h Q := WP_st rfl
set_option maxRecDepth 20000 in
theorem S214_1240 : WP d 214 1240 lv (.int y :: .int x :: st) h Q ↔ WP d 214 1241 lv (.int (x + y) :: st) h Q := WP_st rfl
set_option maxRecDepth 20000 in
theorem S214_1241 (hi : 0 ≤ i.toInt ∧ i.toInt < h.2.2.2) : WP d 214 1241 lv (.int i :: .ref 1000 :: st) h Q ↔ WP d 214 1242 lv (.int (h.1 1000 i.toNatClampNeg) :: st) h Q := WP_sld rfl hi
set_option maxRecDepth 20000 in
theorem S214_1242 {pr0 : Nat} {pi0 : Int32} {pi1 : Int32} {pi2 : Int32} {pi3 : Int32} (hs : shp pr0 = some (0, 7)) : WP (d + 1) 214 1242 lv [.int pi3, .int pi2, .int pi1, .int pi0, .ref pr0] h Q ↔ WP d 79 0 [some (.ref pr0), some (.int pi0), some (.int pi1), some (.int pi2), some (.int pi3), none] [] h (kR (d + 1) 214 1245 lv [] Q) := WP_callVR rfl rfl rfl rfl rfl hs
set_option maxRecDepth 20000 in
theorem S214_1245 : WP d 214 1245 (a0 :: a1 :: some (.ref a) :: lv) st h Q ↔ WP d 214 1246 (a0 :: a1 :: some (.ref a) :: lv) (.ref a :: st) h Q := WP_st rfl
set_option maxRecDepth 20000 in
theorem S214_1246 : WP d 214 1246 (some (.ref a) :: lv) st h Q ↔ WP d 214 1247 (some (.ref a) :: lv) (.ref a :: st) h Q := WP_st rfl
set_option maxRecDepth 20000 in
theorem S214_1247 : WP d 214 1247 (a0 :: a1 :: a2v :: a3 :: some (.int x) :: lv) st h Q ↔ WP d 214 1249 (a0 :: a1 :: a2v :: a3 :: some (.int x) :: lv) (.int x :: st) h Q := WP_st rfl
set_option maxRecDepth 20000 in
theorem S214_1249 : WP d 214 1249 lv st h Q ↔ WP d 214 1250 lv (.int 1 :: st) h Q := WP_st rfl
set_option maxRecDepth 20000 in
theorem S214_1250 : WP d 214 1250 lv (.int y :: .int x :: st) h Q ↔ WP d 214 1251 lv (.int (x + y) :: st) h Q := WP_st rfl
set_option maxRecDepth 20000 in
theorem S214_1251 (hi : 0 ≤ i.toInt ∧ i.toInt < h.2.2.2) : WP d 214 1251 lv (.int i :: .ref 1000 :: st) h Q ↔ WP d 214 1252 lv (.int (h.1 1000 i.toNatClampNeg) :: st) h Q := WP_sld rfl hi
set_option maxRecDepth 20000 in
theorem S214_1252 : WP d 214 1252 (some (.ref a) :: lv) st h Q ↔ WP d 214 1253 (some (.ref a) :: lv) (.ref a :: st) h Q := WP_st rfl
set_option maxRecDepth 20000 in
theorem S214_1253 : WP d 214 1253 (a0 :: a1 :: a2v :: a3 :: some (.int x) :: lv) st h Q ↔ WP d 214 1255 (a0 :: a1 :: a2v :: a3 :: some (.int x) :: lv) (.int x :: st) h Q := WP_st rfl
set_option maxRecDepth 20000 in
theorem S214_1255 : WP d 214 1255 lv st h Q ↔ WP d 214 1256 lv (.int 2 :: st) h Q := WP_st rfl
set_option maxRecDepth 20000 in
theorem S214_1256 : WP d 214 1256 lv (.int y :: .int x :: st) h Q ↔ WP d 214 1257 lv (.int (x + y) :: st) h Q := WP_st rfl
set_option maxRecDepth 20000 in
theorem S214_1257 (hi : 0 ≤ i.toInt ∧ i.toInt < h.2.2.2) : WP d 214 1257 lv (.int i :: .ref 1000 :: st) h Q ↔ WP d 214 1258 lv (.int (h.1 1000 i.toNatClampNeg) :: st) h Q := WP_sld rfl hi
set_option maxRecDepth 20000 in
theorem S214_1258 : WP d 214 1258 (some (.ref a) :: lv) st h Q ↔ WP d 214 1259 (some (.ref a) :: lv) (.ref a :: st) h Q := WP_st rfl
set_option maxRecDepth 20000 in
theorem S214_1259 : WP d 214 1259 (a0 :: a1 :: a2v :: a3 :: some (.int x) :: lv) st h Q ↔ WP d 214 1261 (a0 :: a1 :: a2v :: a3 :: some (.int x) :: lv) (.int x :: st) h Q := WP_st rfl
set_option maxRecDepth 20000 in
theorem S214_1261 : WP d 214 1261 lv st h Q ↔ WP d 214 1262 lv (.int 3 :: st) h Q := WP_st rfl
set_option maxRecDepth 20000 in
theorem S214_1262 : WP d 214 1262 lv (.int y :: .int x :: st) h Q ↔ WP d 214 1263 lv (.int (x + y) :: st) h Q := WP_st rfl
set_option maxRecDepth 20000 in
theorem S214_1263 (hi : 0 ≤ i.toInt ∧ i.toInt < h.2.2.2) : WP d 214 1263 lv (.int i :: .ref 1000 :: st) h Q ↔ WP d 214 1264 lv (.int (h.1 1000 i.toNatClampNeg) :: st) h Q := WP_sld rfl hi
set_option maxRecDepth 20000 in
theorem S214_1264 : WP d 214 1264 (some (.ref a) :: lv) st h Q ↔ WP d 214 1265 (some (.ref a) :: lv) (.ref a :: st) h Q := WP_st rfl
set_option maxRecDepth 20000 in
theorem S214_1265 : WP d 214 1265 (a0 :: a1 :: a2v :: a3 :: some (.int x) :: lv) st h Q ↔ WP d 214 1267 (a0 :: a1 :: a2v :: a3 :: some (.int x) :: lv) (.int x :: st) h Q := WP_st rfl
set_option maxRecDepth 20000 in
theorem S214_1267 : WP d 214 1267 lv st h Q ↔ WP d 214 1268 lv (.int 4 :: st) h Q := WP_st rfl
set_option maxRecDepth 20000 in
theorem S214_1268 : WP d 214 1268 lv (.int y :: .int x :: st) h Q ↔ WP d 214 1269 lv (.int (x + y) :: st) h Q := WP_st rfl
set_option maxRecDepth 20000 in
theorem S214_1269 (hi : 0 ≤ i.toInt ∧ i.toInt < h.2.2.2) : WP d 214 1269 lv (.int i :: .ref 1000 :: st) h Q ↔ WP d 214 1270 lv (.int (h.1 1000 i.toNatClampNeg) :: st) h Q := WP_sld rfl hi
set_option maxRecDepth 20000 in
theorem S214_1270 {pr0 : Nat} {pi0 : Int32} {pi1 : Int32} {pi2 : Int32} {pi3 : Int32} {qi4 : Int32} (hs : shp pr0 = some (0, 8)) : WP (d + 1) 214 1270 lv [.int pi3, .int pi2, .int pi1, .int pi0, .ref pr0, .int qi4] h Q ↔ WP d 188 0 [some (.ref pr0), some (.int pi0), some (.int pi1), some (.int pi2), some (.int pi3)] [] h (kR (d + 1) 214 1273 lv [.int qi4] Q) := WP_callVR rfl rfl rfl rfl rfl hs
set_option maxRecDepth 20000 in
theorem S214_1273 : WP d 214 1273 lv (.int y :: .int x :: st) h Q ↔ if x = y then WP d 214 1465 lv st h Q else WP d 214 1276 lv st h Q := WP_br rfl
set_option maxRecDepth 20000 in
theorem S214_1276 : WP d 214 1276 lv st h Q ↔ WP d 214 1277 lv (.int 0 :: st) h Q := WP_st rfl
set_option maxRecDepth 20000 in
theorem S214_1277 (hx : isB x) : WP d 214 1277 lv [.int x] h Q ↔ Q (some (some (.int x))) h := WP_endZ rfl rfl hx
set_option maxRecDepth 20000 in
theorem S214_1278 : WP d 214 1278 (a0 :: some (.ref a) :: lv) st h Q ↔ WP d 214 1279 (a0 :: some (.ref a) :: lv) (.ref a :: st) h Q := WP_st rfl
set_option maxRecDepth 20000 in
theorem S214_1279 : WP d 214 1279 (some (.ref a) :: lv) st h Q ↔ WP d 214 1280 (some (.ref a) :: lv) (.ref a :: st) h Q := WP_st rfl
set_option maxRecDepth 20000 in
theorem S214_1280 : WP d 214 1280 (a0 :: a1 :: a2v :: a3 :: some (.int x) :: lv) st h Q ↔ WP d 214 1282 (a0 :: a1 :: a2v :: a3 :: some (.int x) :: lv) (.int x :: st) h Q := WP_st rfl
set_option maxRecDepth 20000 in
theorem S214_1282 : WP d 214 1282 lv st h Q ↔ WP d 214 1283 lv (.int 1 :: st) h Q := WP_st rfl
set_option maxRecDepth 20000 in
theorem S214_1283 : WP d 214 1283 lv (.int y :: .int x :: st) h Q ↔ WP d 214 1284 lv (.int (x + y) :: st) h Q := WP_st rfl
set_option maxRecDepth 20000 in
theorem S214_1284 (hi : 0 ≤ i.toInt ∧ i.toInt < h.2.2.2) : WP d 214 1284 lv (.int i :: .ref 1000 :: st) h Q ↔ WP d 214 1285 lv (.int (h.1 1000 i.toNatClampNeg) :: st) h Q := WP_sld rfl hi
set_option maxRecDepth 20000 in
theorem S214_1285 : WP d 214 1285 (some (.ref a) :: lv) st h Q ↔ WP d 214 1286 (some (.ref a) :: lv) (.ref a :: st) h Q := WP_st rfl
set_option maxRecDepth 20000 in
theorem S214_1286 : WP d 214 1286 (a0 :: a1 :: a2v :: a3 :: some (.int x) :: lv) st h Q ↔ WP d 214 1288 (a0 :: a1 :: a2v :: a3 :: some (.int x) :: lv) (.int x :: st) h Q := WP_st rfl
set_option maxRecDepth 20000 in
theorem S214_1288 : WP d 214 1288 lv st h Q ↔ WP d 214 1289 lv (.int 2 :: st) h Q := WP_st rfl
set_option maxRecDepth 20000 in
theorem S214_1289 : WP d 214 1289 lv (.int y :: .int x :: st) h Q ↔ WP d 214 1290 lv (.int (x + y) :: st) h Q := WP_st rfl
set_option maxRecDepth 20000 in
theorem S214_1290 (hi : 0 ≤ i.toInt ∧ i.toInt < h.2.2.2) : WP d 214 1290 lv (.int i :: .ref 1000 :: st) h Q ↔ WP d 214 1291 lv (.int (h.1 1000 i.toNatClampNeg) :: st) h Q := WP_sld rfl hi
set_option maxRecDepth 20000 in
theorem S214_1291 {pr0 : Nat} {pi0 : Int32} {pi1 : Int32} (hs : shp pr0 = some (0, 7)) : WP (d + 1) 214 1291 lv [.int pi1, .int pi0, .ref pr0] h Q ↔ WP d 80 0 [some (.ref pr0), some (.int pi0), some (.int pi1)] [] h (kR (d + 1) 214 1294 lv [] Q) := WP_callVR rfl rfl rfl rfl rfl hs
set_option maxRecDepth 20000 in
theorem S214_1294 : WP d 214 1294 (a0 :: a1 :: some (.ref a) :: lv) st h Q ↔ WP d 214 1295 (a0 :: a1 :: some (.ref a) :: lv) (.ref a :: st) h Q := WP_st rfl
set_option maxRecDepth 20000 in
theorem S214_1295 : WP d 214 1295 (some (.ref a) :: lv) st h Q ↔ WP d 214 1296 (some (.ref a) :: lv) (.ref a :: st) h Q := WP_st rfl
set_option maxRecDepth 20000 in
theorem S214_1296 : WP d 214 1296 (a0 :: a1 :: a2v :: a3 :: some (.int x) :: lv) st h Q ↔ WP d 214 1298 (a0 :: a1 :: a2v :: a3 :: some (.int x) :: lv) (.int x :: st) h Q := WP_st rfl
set_option maxRecDepth 20000 in
theorem S214_1298 : WP d 214 1298 lv st h Q ↔ WP d 214 1299 lv (.int 1 :: st) h Q := WP_st rfl
set_option maxRecDepth 20000 in
theorem S214_1299 : WP d 214 1299 lv (.int y :: .int x :: st) h Q ↔ WP d 214 1300 lv (.int (x + y) :: st) h Q := WP_st rfl
set_option maxRecDepth 20000 in
theorem S214_1300 (hi : 0 ≤ i.toInt ∧ i.toInt < h.2.2.2) : WP d 214 1300 lv (.int i :: .ref 1000 :: st) h Q ↔ WP d 214 1301 lv (.int (h.1 1000 i.toNatClampNeg) :: st) h Q := WP_sld rfl hi
set_option maxRecDepth 20000 in
theorem S214_1301 : WP d 214 1301 (some (.ref a) :: lv) st h Q ↔ WP d 214 1302 (some (.ref a) :: lv) (.ref a :: st) h Q := WP_st rfl
set_option maxRecDepth 20000 in
theorem S214_1302 : WP d 214 1302 (a0 :: a1 :: a2v :: a3 :: some (.int x) :: lv) st h Q ↔ WP d 214 1304 (a0 :: a1 :: a2v :: a3 :: some (.int x) :: lv) (.int x :: st) h Q := WP_st rfl
set_option maxRecDepth 20000 in
theorem S214_1304 : WP d 214 1304 lv st h Q ↔ WP d 214 1305 lv (.int 2 :: st) h Q := WP_st rfl
set_option maxRecDepth 20000 in
theorem S214_1305 : WP d 214 1305 lv (.int y :: .int x :: st) h Q ↔ WP d 214 1306 lv (.int (x + y) :: st) h Q := WP_st rfl
set_option maxRecDepth 20000 in
theorem S214_1306 (hi : 0 ≤ i.toInt ∧ i.toInt < h.2.2.2) : WP d 214 1306 lv (.int i :: .ref 1000 :: st) h Q ↔ WP d 214 1307 lv (.int (h.1 1000 i.toNatClampNeg) :: st) h Q := WP_sld rfl hi
set_option maxRecDepth 20000 in
theorem S214_1307 {pr0 : Nat} {pi0 : Int32} {pi1 : Int32} {qi2 : Int32} (hs : shp pr0 = some (0, 8)) : WP (d + 1) 214 1307 lv [.int pi1, .int pi0, .ref pr0, .int qi2] h Q ↔ WP d 187 0 [some (.ref pr0), some (.int pi0), some (.int pi1)] [] h (kR (d + 1) 214 1310 lv [.int qi2] Q) := WP_callVR rfl rfl rfl rfl rfl hs
set_option maxRecDepth 20000 in
theorem S214_1310 : WP d 214 1310 lv (.int y :: .int x :: st) h Q ↔ if x = y then WP d 214 1465 lv st h Q else WP d 214 1313 lv st h Q := WP_br rfl
set_option maxRecDepth 20000 in
theorem S214_1313 : WP d 214 1313 lv st h Q ↔ WP d 214 1314 lv (.int 0 :: st) h Q := WP_st rfl
set_option maxRecDepth 20000 in
theorem S214_1314 (hx : isB x) : WP d 214 1314 lv [.int x] h Q ↔ Q (some (some (.int x))) h := WP_endZ rfl rfl hx
set_option maxRecDepth 20000 in
theorem S214_1315 : WP d 214 1315 (a0 :: some (.ref a) :: lv) st h Q ↔ WP d 214 1316 (a0 :: some (.ref a) :: lv) (.ref a :: st) h Q := WP_st rfl
set_option maxRecDepth 20000 in
theorem S214_1316 : WP d 214 1316 (some (.ref a) :: lv) st h Q ↔ WP d 214 1317 (some (.ref a) :: lv) (.ref a :: st) h Q := WP_st rfl
set_option maxRecDepth 20000 in
theorem S214_1317 : WP d 214 1317 (a0 :: a1 :: a2v :: a3 :: some (.int x) :: lv) st h Q ↔ WP d 214 1319 (a0 :: a1 :: a2v :: a3 :: some (.int x) :: lv) (.int x :: st) h Q := WP_st rfl
set_option maxRecDepth 20000 in
theorem S214_1319 : WP d 214 1319 lv st h Q ↔ WP d 214 1320 lv (.int 1 :: st) h Q := WP_st rfl
set_option maxRecDepth 20000 in
theorem S214_1320 : WP d 214 1320 lv (.int y :: .int x :: st) h Q ↔ WP d 214 1321 lv (.int (x + y) :: st) h Q := WP_st rfl
set_option maxRecDepth 20000 in
theorem S214_1321 (hi : 0 ≤ i.toInt ∧ i.toInt < h.2.2.2) : WP d 214 1321 lv (.int i :: .ref 1000 :: st) h Q ↔ WP d 214 1322 lv (.int (h.1 1000 i.toNatClampNeg) :: st) h Q := WP_sld rfl hi
set_option maxRecDepth 20000 in
theorem S214_1322 {pr0 : Nat} {pi0 : Int32} (hs : shp pr0 = some (0, 7)) : WP (d + 1) 214 1322 lv [.int pi0, .ref pr0] h Q ↔ WP d 81 0 [some (.ref pr0), some (.int pi0)] [] h (kR (d + 1) 214 1325 lv [] Q) := WP_callVR rfl rfl rfl rfl rfl hs
set_option maxRecDepth 20000 in
theorem S214_1325 : WP d 214 1325 (a0 :: a1 :: some (.ref a) :: lv) st h Q ↔ WP d 214 1326 (a0 :: a1 :: some (.ref a) :: lv) (.ref a :: st) h Q := WP_st rfl
set_option maxRecDepth 20000 in
theorem S214_1326 : WP d 214 1326 (some (.ref a) :: lv) st h Q ↔ WP d 214 1327 (some (.ref a) :: lv) (.ref a :: st) h Q := WP_st rfl
set_option maxRecDepth 20000 in
theorem S214_1327 : WP d 214 1327 (a0 :: a1 :: a2v :: a3 :: some (.int x) :: lv) st h Q ↔ WP d 214 1329 (a0 :: a1 :: a2v :: a3 :: some (.int x) :: lv) (.int x :: st) h Q := WP_st rfl
set_option maxRecDepth 20000 in
theorem S214_1329 : WP d 214 1329 lv st h Q ↔ WP d 214 1330 lv (.int 1 :: st) h Q := WP_st rfl
set_option maxRecDepth 20000 in
theorem S214_1330 : WP d 214 1330 lv (.int y :: .int x :: st) h Q ↔ WP d 214 1331 lv (.int (x + y) :: st) h Q := WP_st rfl
set_option maxRecDepth 20000 in
theorem S214_1331 (hi : 0 ≤ i.toInt ∧ i.toInt < h.2.2.2) : WP d 214 1331 lv (.int i :: .ref 1000 :: st) h Q ↔ WP d 214 1332 lv (.int (h.1 1000 i.toNatClampNeg) :: st) h Q := WP_sld rfl hi
set_option maxRecDepth 20000 in
theorem S214_1332 {pr0 : Nat} {pi0 : Int32} {qi1 : Int32} (hs : shp pr0 = some (0, 8)) : WP (d + 1) 214 1332 lv [.int pi0, .ref pr0, .int qi1] h Q ↔ WP d 186 0 [some (.ref pr0), some (.int pi0)] [] h (kR (d + 1) 214 1335 lv [.int qi1] Q) := WP_callVR rfl rfl rfl rfl rfl hs
set_option maxRecDepth 20000 in
theorem S214_1335 : WP d 214 1335 lv (.int y :: .int x :: st) h Q ↔ if x = y then WP d 214 1465 lv st h Q else WP d 214 1338 lv st h Q := WP_br rfl
set_option maxRecDepth 20000 in
theorem S214_1338 : WP d 214 1338 lv st h Q ↔ WP d 214 1339 lv (.int 0 :: st) h Q := WP_st rfl
set_option maxRecDepth 20000 in
theorem S214_1339 (hx : isB x) : WP d 214 1339 lv [.int x] h Q ↔ Q (some (some (.int x))) h := WP_endZ rfl rfl hx
set_option maxRecDepth 20000 in
theorem S214_1340 : WP d 214 1340 (a0 :: some (.ref a) :: lv) st h Q ↔ WP d 214 1341 (a0 :: some (.ref a) :: lv) (.ref a :: st) h Q := WP_st rfl
set_option maxRecDepth 20000 in
theorem S214_1341 : WP d 214 1341 (some (.ref a) :: lv) st h Q ↔ WP d 214 1342 (some (.ref a) :: lv) (.ref a :: st) h Q := WP_st rfl
set_option maxRecDepth 20000 in
theorem S214_1342 : WP d 214 1342 (a0 :: a1 :: a2v :: a3 :: some (.int x) :: lv) st h Q ↔ WP d 214 1344 (a0 :: a1 :: a2v :: a3 :: some (.int x) :: lv) (.int x :: st) h Q := WP_st rfl
set_option maxRecDepth 20000 in
theorem S214_1344 : WP d 214 1344 lv st h Q ↔ WP d 214 1345 lv (.int 1 :: st) h Q := WP_st rfl
set_option maxRecDepth 20000 in
theorem S214_1345 : WP d 214 1345 lv (.int y :: .int x :: st) h Q ↔ WP d 214 1346 lv (.int (x + y) :: st) h Q := WP_st rfl
set_option maxRecDepth 20000 in
theorem S214_1346 (hi : 0 ≤ i.toInt ∧ i.toInt < h.2.2.2) : WP d 214 1346 lv (.int i :: .ref 1000 :: st) h Q ↔ WP d 214 1347 lv (.int (h.1 1000 i.toNatClampNeg) :: st) h Q := WP_sld rfl hi
set_option maxRecDepth 20000 in
theorem S214_1347 : WP d 214 1347 (some (.ref a) :: lv) st h Q ↔ WP d 214 1348 (some (.ref a) :: lv) (.ref a :: st) h Q := WP_st rfl
set_option maxRecDepth 20000 in
theorem S214_1348 : WP d 214 1348 (a0 :: a1 :: a2v :: a3 :: some (.int x) :: lv) st h Q ↔ WP d 214 1350 (a0 :: a1 :: a2v :: a3 :: some (.int x) :: lv) (.int x :: st) h Q := WP_st rfl
set_option maxRecDepth 20000 in
theorem S214_1350 : WP d 214 1350 lv st h Q ↔ WP d 214 1351 lv (.int 2 :: st) h Q := WP_st rfl
set_option maxRecDepth 20000 in
theorem S214_1351 : WP d 214 1351 lv (.int y :: .int x :: st) h Q ↔ WP d 214 1352 lv (.int (x + y) :: st) h Q := WP_st rfl
set_option maxRecDepth 20000 in
theorem S214_1352 (hi : 0 ≤ i.toInt ∧ i.toInt < h.2.2.2) : WP d 214 1352 lv (.int i :: .ref 1000 :: st) h Q ↔ WP d 214 1353 lv (.int (h.1 1000 i.toNatClampNeg) :: st) h Q := WP_sld rfl hi
set_option maxRecDepth 20000 in
theorem S214_1353 {pr0 : Nat} {pi0 : Int32} {pi1 : Int32} (hs : shp pr0 = some (0, 7)) : WP (d + 1) 214 1353 lv [.int pi1, .int pi0, .ref pr0] h Q ↔ WP d 82 0 [some (.ref pr0), some (.int pi0), some (.int pi1), none, none, none, none, none] [] h (kR (d + 1) 214 1356 lv [] Q) := WP_callVR rfl rfl rfl rfl rfl hs
set_option maxRecDepth 20000 in
theorem S214_1356 : WP d 214 1356 (a0 :: a1 :: some (.ref a) :: lv) st h Q ↔ WP d 214 1357 (a0 :: a1 :: some (.ref a) :: lv) (.ref a :: st) h Q := WP_st rfl
set_option maxRecDepth 20000 in
theorem S214_1357 : WP d 214 1357 (some (.ref a) :: lv) st h Q ↔ WP d 214 1358 (some (.ref a) :: lv) (.ref a :: st) h Q := WP_st rfl
set_option maxRecDepth 20000 in
theorem S214_1358 : WP d 214 1358 (a0 :: a1 :: a2v :: a3 :: some (.int x) :: lv) st h Q ↔ WP d 214 1360 (a0 :: a1 :: a2v :: a3 :: some (.int x) :: lv) (.int x :: st) h Q := WP_st rfl
set_option maxRecDepth 20000 in
theorem S214_1360 : WP d 214 1360 lv st h Q ↔ WP d 214 1361 lv (.int 1 :: st) h Q := WP_st rfl
set_option maxRecDepth 20000 in
theorem S214_1361 : WP d 214 1361 lv (.int y :: .int x :: st) h Q ↔ WP d 214 1362 lv (.int (x + y) :: st) h Q := WP_st rfl
set_option maxRecDepth 20000 in
theorem S214_1362 (hi : 0 ≤ i.toInt ∧ i.toInt < h.2.2.2) : WP d 214 1362 lv (.int i :: .ref 1000 :: st) h Q ↔ WP d 214 1363 lv (.int (h.1 1000 i.toNatClampNeg) :: st) h Q := WP_sld rfl hi
set_option maxRecDepth 20000 in
theorem S214_1363 : WP d 214 1363 (some (.ref a) :: lv) st h Q ↔ WP d 214 1364 (some (.ref a) :: lv) (.ref a :: st) h Q := WP_st rfl
set_option maxRecDepth 20000 in
theorem S214_1364 : WP d 214 1364 (a0 :: a1 :: a2v :: a3 :: some (.int x) :: lv) st h Q ↔ WP d 214 1366 (a0 :: a1 :: a2v :: a3 :: some (.int x) :: lv) (.int x :: st) h Q := WP_st rfl
set_option maxRecDepth 20000 in
theorem S214_1366 : WP d 214 1366 lv st h Q ↔ WP d 214 1367 lv (.int 2 :: st) h Q := WP_st rfl
set_option maxRecDepth 20000 in
theorem S214_1367 : WP d 214 1367 lv (.int y :: .int x :: st) h Q ↔ WP d 214 1368 lv (.int (x + y) :: st) h Q := WP_st rfl
set_option maxRecDepth 20000 in
theorem S214_1368 (hi : 0 ≤ i.toInt ∧ i.toInt < h.2.2.2) : WP d 214 1368 lv (.int i :: .ref 1000 :: st) h Q ↔ WP d 214 1369 lv (.int (h.1 1000 i.toNatClampNeg) :: st) h Q := WP_sld rfl hi
set_option maxRecDepth 20000 in
theorem S214_1369 {pr0 : Nat} {pi0 : Int32} {pi1 : Int32} {qi2 : Int32} (hs : shp pr0 = some (0, 8)) : WP (d + 1) 214 1369 lv [.int pi1, .int pi0, .ref pr0, .int qi2] h Q ↔ WP d 192 0 [some (.ref pr0), some (.int pi0), some (.int pi1), none, none] [] h (kR (d + 1) 214 1372 lv [.int qi2] Q) := WP_callVR rfl rfl rfl rfl rfl hs
set_option maxRecDepth 20000 in
theorem S214_1372 : WP d 214 1372 lv (.int y :: .int x :: st) h Q ↔ if x = y then WP d 214 1465 lv st h Q else WP d 214 1375 lv st h Q := WP_br rfl
set_option maxRecDepth 20000 in
theorem S214_1375 : WP d 214 1375 lv st h Q ↔ WP d 214 1376 lv (.int 0 :: st) h Q := WP_st rfl
set_option maxRecDepth 20000 in
theorem S214_1376 (hx : isB x) : WP d 214 1376 lv [.int x] h Q ↔ Q (some (some (.int x))) h := WP_endZ rfl rfl hx
set_option maxRecDepth 20000 in
theorem S214_1377 : WP d 214 1377 (a0 :: some (.ref a) :: lv) st h Q ↔ WP d 214 1378 (a0 :: some (.ref a) :: lv) (.ref a :: st) h Q := WP_st rfl
set_option maxRecDepth 20000 in
theorem S214_1378 {pr0 : Nat} (hs : shp pr0 = some (0, 7)) : WP (d + 1) 214 1378 lv [.ref pr0] h Q ↔ WP d 83 0 [some (.ref pr0)] [] h (kR (d + 1) 214 1381 lv [] Q) := WP_callVR rfl rfl rfl rfl rfl hs
set_option maxRecDepth 20000 in
theorem S214_1381 : WP d 214 1381 (a0 :: a1 :: some (.ref a) :: lv) st h Q ↔ WP d 214 1382 (a0 :: a1 :: some (.ref a) :: lv) (.ref a :: st) h Q := WP_st rfl
set_option maxRecDepth 20000 in
theorem S214_1382 {pr0 : Nat} {qi0 : Int32} (hs : shp pr0 = some (0, 8)) : WP (d + 1) 214 1382 lv [.ref pr0, .int qi0] h Q ↔ WP d 193 0 [some (.ref pr0)] [] h (kR (d + 1) 214 1385 lv [.int qi0] Q) := WP_callVR rfl rfl rfl rfl rfl hs
set_option maxRecDepth 20000 in
theorem S214_1385 : WP d 214 1385 lv (.int y :: .int x :: st) h Q ↔ if x = y then WP d 214 1465 lv st h Q else WP d 214 1388 lv st h Q := WP_br rfl
set_option maxRecDepth 20000 in
theorem S214_1388 : WP d 214 1388 lv st h Q ↔ WP d 214 1389 lv (.int 0 :: st) h Q := WP_st rfl
set_option maxRecDepth 20000 in
theorem S214_1389 (hx : isB x) : WP d 214 1389 lv [.int x] h Q ↔ Q (some (some (.int x))) h := WP_endZ rfl rfl hx
set_option maxRecDepth 20000 in
theorem S214_1390 : WP d 214 1390 (a0 :: some (.ref a) :: lv) st h Q ↔ WP d 214 1391 (a0 :: some (.ref a) :: lv) (.ref a :: st) h Q := WP_st rfl
set_option maxRecDepth 20000 in
theorem S214_1391 : WP d 214 1391 (some (.ref a) :: lv) st h Q ↔ WP d 214 1392 (some (.ref a) :: lv) (.ref a :: st) h Q := WP_st rfl
set_option maxRecDepth 20000 in
theorem S214_1392 : WP d 214 1392 (a0 :: a1 :: a2v :: a3 :: some (.int x) :: lv) st h Q ↔ WP d 214 1394 (a0 :: a1 :: a2v :: a3 :: some (.int x) :: lv) (.int x :: st) h Q := WP_st rfl
set_option maxRecDepth 20000 in
theorem S214_1394 : WP d 214 1394 lv st h Q ↔ WP d 214 1395 lv (.int 1 :: st) h Q := WP_st rfl
set_option maxRecDepth 20000 in
theorem S214_1395 : WP d 214 1395 lv (.int y :: .int x :: st) h Q ↔ WP d 214 1396 lv (.int (x + y) :: st) h Q := WP_st rfl
set_option maxRecDepth 20000 in
theorem S214_1396 (hi : 0 ≤ i.toInt ∧ i.toInt < h.2.2.2) : WP d 214 1396 lv (.int i :: .ref 1000 :: st) h Q ↔ WP d 214 1397 lv (.int (h.1 1000 i.toNatClampNeg) :: st) h Q := WP_sld rfl hi
set_option maxRecDepth 20000 in
theorem S214_1397 {pr0 : Nat} {pi0 : Int32} (hs : shp pr0 = some (0, 7)) : WP (d + 1) 214 1397 lv [.int pi0, .ref pr0] h Q ↔ WP d 84 0 [some (.ref pr0), some (.int pi0)] [] h (kR (d + 1) 214 1400 lv [] Q) := WP_callVR rfl rfl rfl rfl rfl hs
set_option maxRecDepth 20000 in
theorem S214_1400 : WP d 214 1400 (a0 :: a1 :: some (.ref a) :: lv) st h Q ↔ WP d 214 1401 (a0 :: a1 :: some (.ref a) :: lv) (.ref a :: st) h Q := WP_st rfl
set_option maxRecDepth 20000 in
theorem S214_1401 : WP d 214 1401 (some (.ref a) :: lv) st h Q ↔ WP d 214 1402 (some (.ref a) :: lv) (.ref a :: st) h Q := WP_st rfl
set_option maxRecDepth 20000 in
theorem S214_1402 : WP d 214 1402 (a0 :: a1 :: a2v :: a3 :: some (.int x) :: lv) st h Q ↔ WP d 214 1404 (a0 :: a1 :: a2v :: a3 :: some (.int x) :: lv) (.int x :: st) h Q := WP_st rfl
set_option maxRecDepth 20000 in
theorem S214_1404 : WP d 214 1404 lv st h Q ↔ WP d 214 1405 lv (.int 1 :: st) h Q := WP_st rfl
set_option maxRecDepth 20000 in
theorem S214_1405 : WP d 214 1405 lv (.int y :: .int x :: st) h Q ↔ WP d 214 1406 lv (.int (x + y) :: st) h Q := WP_st rfl
set_option maxRecDepth 20000 in
theorem S214_1406 (hi : 0 ≤ i.toInt ∧ i.toInt < h.2.2.2) : WP d 214 1406 lv (.int i :: .ref 1000 :: st) h Q ↔ WP d 214 1407 lv (.int (h.1 1000 i.toNatClampNeg) :: st) h Q := WP_sld rfl hi
set_option maxRecDepth 20000 in
theorem S214_1407 {pr0 : Nat} {pi0 : Int32} {qi1 : Int32} (hs : shp pr0 = some (0, 8)) : WP (d + 1) 214 1407 lv [.int pi0, .ref pr0, .int qi1] h Q ↔ WP d 194 0 [some (.ref pr0), some (.int pi0)] [] h (kR (d + 1) 214 1410 lv [.int qi1] Q) := WP_callVR rfl rfl rfl rfl rfl hs
set_option maxRecDepth 20000 in
theorem S214_1410 : WP d 214 1410 lv (.int y :: .int x :: st) h Q ↔ if x = y then WP d 214 1465 lv st h Q else WP d 214 1413 lv st h Q := WP_br rfl
set_option maxRecDepth 20000 in
theorem S214_1413 : WP d 214 1413 lv st h Q ↔ WP d 214 1414 lv (.int 0 :: st) h Q := WP_st rfl
set_option maxRecDepth 20000 in
theorem S214_1414 (hx : isB x) : WP d 214 1414 lv [.int x] h Q ↔ Q (some (some (.int x))) h := WP_endZ rfl rfl hx
set_option maxRecDepth 20000 in
theorem S214_1415 : WP d 214 1415 (a0 :: some (.ref a) :: lv) st h Q ↔ WP d 214 1416 (a0 :: some (.ref a) :: lv) (.ref a :: st) h Q := WP_st rfl
set_option maxRecDepth 20000 in
theorem S214_1416 : WP d 214 1416 (some (.ref a) :: lv) st h Q ↔ WP d 214 1417 (some (.ref a) :: lv) (.ref a :: st) h Q := WP_st rfl
set_option maxRecDepth 20000 in
theorem S214_1417 : WP d 214 1417 (a0 :: a1 :: a2v :: a3 :: some (.int x) :: lv) st h Q ↔ WP d 214 1419 (a0 :: a1 :: a2v :: a3 :: some (.int x) :: lv) (.int x :: st) h Q := WP_st rfl
set_option maxRecDepth 20000 in
theorem S214_1419 : WP d 214 1419 lv st h Q ↔ WP d 214 1420 lv (.int 1 :: st) h Q := WP_st rfl
set_option maxRecDepth 20000 in
theorem S214_1420 : WP d 214 1420 lv (.int y :: .int x :: st) h Q ↔ WP d 214 1421 lv (.int (x + y) :: st) h Q := WP_st rfl
set_option maxRecDepth 20000 in
theorem S214_1421 (hi : 0 ≤ i.toInt ∧ i.toInt < h.2.2.2) : WP d 214 1421 lv (.int i :: .ref 1000 :: st) h Q ↔ WP d 214 1422 lv (.int (h.1 1000 i.toNatClampNeg) :: st) h Q := WP_sld rfl hi
set_option maxRecDepth 20000 in
theorem S214_1422 {pr0 : Nat} {pi0 : Int32} (hs : shp pr0 = some (0, 7)) : WP (d + 1) 214 1422 lv [.int pi0, .ref pr0] h Q ↔ WP d 85 0 [some (.ref pr0), some (.int pi0)] [] h (kR (d + 1) 214 1425 lv [] Q) := WP_callVR rfl rfl rfl rfl rfl hs
set_option maxRecDepth 20000 in
theorem S214_1425 : WP d 214 1425 (a0 :: a1 :: some (.ref a) :: lv) st h Q ↔ WP d 214 1426 (a0 :: a1 :: some (.ref a) :: lv) (.ref a :: st) h Q := WP_st rfl
set_option maxRecDepth 20000 in
theorem S214_1426 : WP d 214 1426 (some (.ref a) :: lv) st h Q ↔ WP d 214 1427 (some (.ref a) :: lv) (.ref a :: st) h Q := WP_st rfl
set_option maxRecDepth 20000 in
theorem S214_1427 : WP d 214 1427 (a0 :: a1 :: a2v :: a3 :: some (.int x) :: lv) st h Q ↔ WP d 214 1429 (a0 :: a1 :: a2v :: a3 :: some (.int x) :: lv) (.int x :: st) h Q := WP_st rfl
set_option maxRecDepth 20000 in
theorem S214_1429 : WP d 214 1429 lv st h Q ↔ WP d 214 1430 lv (.int 1 :: st) h Q := WP_st rfl
set_option maxRecDepth 20000 in
theorem S214_1430 : WP d 214 1430 lv (.int y :: .int x :: st) h Q ↔ WP d 214 1431 lv (.int (x + y) :: st) h Q := WP_st rfl
set_option maxRecDepth 20000 in
theorem S214_1431 (hi : 0 ≤ i.toInt ∧ i.toInt < h.2.2.2) : WP d 214 1431 lv (.int i :: .ref 1000 :: st) h Q ↔ WP d 214 1432 lv (.int (h.1 1000 i.toNatClampNeg) :: st) h Q := WP_sld rfl hi
set_option maxRecDepth 20000 in
theorem S214_1432 {pr0 : Nat} {pi0 : Int32} {qi1 : Int32} (hs : shp pr0 = some (0, 8)) : WP (d + 1) 214 1432 lv [.int pi0, .ref pr0, .int qi1] h Q ↔ WP d 195 0 [some (.ref pr0), some (.int pi0)] [] h (kR (d + 1) 214 1435 lv [.int qi1] Q) := WP_callVR rfl rfl rfl rfl rfl hs
set_option maxRecDepth 20000 in
theorem S214_1435 : WP d 214 1435 lv (.int y :: .int x :: st) h Q ↔ if x = y then WP d 214 1465 lv st h Q else WP d 214 1438 lv st h Q := WP_br rfl
set_option maxRecDepth 20000 in
theorem S214_1438 : WP d 214 1438 lv st h Q ↔ WP d 214 1439 lv (.int 0 :: st) h Q := WP_st rfl
set_option maxRecDepth 20000 in
theorem S214_1439 (hx : isB x) : WP d 214 1439 lv [.int x] h Q ↔ Q (some (some (.int x))) h := WP_endZ rfl rfl hx
set_option maxRecDepth 20000 in
theorem S214_1440 : WP d 214 1440 (a0 :: some (.ref a) :: lv) st h Q ↔ WP d 214 1441 (a0 :: some (.ref a) :: lv) (.ref a :: st) h Q := WP_st rfl
set_option maxRecDepth 20000 in
theorem S214_1441 : WP d 214 1441 (some (.ref a) :: lv) st h Q ↔ WP d 214 1442 (some (.ref a) :: lv) (.ref a :: st) h Q := WP_st rfl
set_option maxRecDepth 20000 in
theorem S214_1442 : WP d 214 1442 (a0 :: a1 :: a2v :: a3 :: some (.int x) :: lv) st h Q ↔ WP d 214 1444 (a0 :: a1 :: a2v :: a3 :: some (.int x) :: lv) (.int x :: st) h Q := WP_st rfl
set_option maxRecDepth 20000 in
theorem S214_1444 : WP d 214 1444 lv st h Q ↔ WP d 214 1445 lv (.int 1 :: st) h Q := WP_st rfl
set_option maxRecDepth 20000 in
theorem S214_1445 : WP d 214 1445 lv (.int y :: .int x :: st) h Q ↔ WP d 214 1446 lv (.int (x + y) :: st) h Q := WP_st rfl
set_option maxRecDepth 20000 in
theorem S214_1446 (hi : 0 ≤ i.toInt ∧ i.toInt < h.2.2.2) : WP d 214 1446 lv (.int i :: .ref 1000 :: st) h Q ↔ WP d 214 1447 lv (.int (h.1 1000 i.toNatClampNeg) :: st) h Q := WP_sld rfl hi
set_option maxRecDepth 20000 in
theorem S214_1447 {pr0 : Nat} {pi0 : Int32} (hs : shp pr0 = some (0, 7)) : WP (d + 1) 214 1447 lv [.int pi0, .ref pr0] h Q ↔ WP d 86 0 [some (.ref pr0), some (.int pi0)] [] h (kR (d + 1) 214 1450 lv [] Q) := WP_callVR rfl rfl rfl rfl rfl hs
set_option maxRecDepth 20000 in
theorem S214_1450 : WP d 214 1450 (a0 :: a1 :: some (.ref a) :: lv) st h Q ↔ WP d 214 1451 (a0 :: a1 :: some (.ref a) :: lv) (.ref a :: st) h Q := WP_st rfl
set_option maxRecDepth 20000 in
theorem S214_1451 : WP d 214 1451 (some (.ref a) :: lv) st h Q ↔ WP d 214 1452 (some (.ref a) :: lv) (.ref a :: st) h Q := WP_st rfl
set_option maxRecDepth 20000 in
theorem S214_1452 : WP d 214 1452 (a0 :: a1 :: a2v :: a3 :: some (.int x) :: lv) st h Q ↔ WP d 214 1454 (a0 :: a1 :: a2v :: a3 :: some (.int x) :: lv) (.int x :: st) h Q := WP_st rfl
set_option maxRecDepth 20000 in
theorem S214_1454 : WP d 214 1454 lv st h Q ↔ WP d 214 1455 lv (.int 1 :: st) h Q := WP_st rfl
set_option maxRecDepth 20000 in
theorem S214_1455 : WP d 214 1455 lv (.int y :: .int x :: st) h Q ↔ WP d 214 1456 lv (.int (x + y) :: st) h Q := WP_st rfl
set_option maxRecDepth 20000 in
theorem S214_1456 (hi : 0 ≤ i.toInt ∧ i.toInt < h.2.2.2) : WP d 214 1456 lv (.int i :: .ref 1000 :: st) h Q ↔ WP d 214 1457 lv (.int (h.1 1000 i.toNatClampNeg) :: st) h Q := WP_sld rfl hi
set_option maxRecDepth 20000 in
theorem S214_1457 {pr0 : Nat} {pi0 : Int32} {qi1 : Int32} (hs : shp pr0 = some (0, 8)) : WP (d + 1) 214 1457 lv [.int pi0, .ref pr0, .int qi1] h Q ↔ WP d 198 0 [some (.ref pr0), some (.int pi0), none, none] [] h (kR (d + 1) 214 1460 lv [.int qi1] Q) := WP_callVR rfl rfl rfl rfl rfl hs
set_option maxRecDepth 20000 in
theorem S214_1460 : WP d 214 1460 lv (.int y :: .int x :: st) h Q ↔ if x = y then WP d 214 1465 lv st h Q else WP d 214 1463 lv st h Q := WP_br rfl
set_option maxRecDepth 20000 in
theorem S214_1463 : WP d 214 1463 lv st h Q ↔ WP d 214 1464 lv (.int 0 :: st) h Q := WP_st rfl
set_option maxRecDepth 20000 in
theorem S214_1464 (hx : isB x) : WP d 214 1464 lv [.int x] h Q ↔ Q (some (some (.int x))) h := WP_endZ rfl rfl hx
set_option maxRecDepth 20000 in
theorem S214_1465 : WP d 214 1465 (a0 :: a1 :: a2v :: a3 :: some (.int x) :: lv) st h Q ↔ WP d 214 1468 (a0 :: a1 :: a2v :: kl a3 :: some (.int (x + 6)) :: lv) st h Q := WP_st (by rfl)
set_option maxRecDepth 20000 in
theorem S214_1468 : WP d 214 1468 lv st h Q ↔ WP d 214 23 lv st h Q := WP_st rfl
set_option maxRecDepth 20000 in
theorem S214_1471 : WP d 214 1471 lv st h Q ↔ WP d 214 1472 lv (.int 1 :: st) h Q := WP_st rfl
set_option maxRecDepth 20000 in
theorem S214_1472 (hx : isB x) : WP d 214 1472 lv [.int x] h Q ↔ Q (some (some (.int x))) h := WP_endZ rfl rfl hx
end
