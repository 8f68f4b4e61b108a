theorem all_d0 {α : Type} {f : α → Bool} {l : List α} (h : (l.drop 0).all f = true) : l.all f = true := h
set_option maxRecDepth 20000 in
theorem okM_0 : kd0.all (okE 0) = true := by decide +kernel
set_option maxRecDepth 20000 in
theorem okM_1 : kd1.all (okE 1) = true := by decide +kernel
set_option maxRecDepth 20000 in
theorem okM_2 : kd2.all (okE 2) = true := by decide +kernel
set_option maxRecDepth 20000 in
theorem okM_3_0 : ((kd3.drop 0).take 60).all (okE 3) = true := by decide +kernel
set_option maxRecDepth 20000 in
theorem okM_3_60 : ((kd3.drop 60).take 60).all (okE 3) = true := by decide +kernel
set_option maxRecDepth 20000 in
theorem okM_3_120 : ((kd3.drop 120).take 60).all (okE 3) = true := by decide +kernel
theorem okM_3 : kd3.all (okE 3) = true := all_d0 (all_dt (l := kd3) (j := 0) 60 okM_3_0 (all_dt (l := kd3) (j := 60) 60 okM_3_60 (all_dl (l := kd3) (j := 120) (k := 60) okM_3_120 (by decide +kernel))))
set_option maxRecDepth 20000 in
theorem okM_4 : kd4.all (okE 4) = true := by decide +kernel
set_option maxRecDepth 20000 in
theorem okM_5 : kd5.all (okE 5) = true := by decide +kernel
set_option maxRecDepth 20000 in
theorem okM_6 : kd6.all (okE 6) = true := by decide +kernel
set_option maxRecDepth 20000 in
theorem okM_7 : kd7.all (okE 7) = true := by decide +kernel
set_option maxRecDepth 20000 in
theorem okM_8 : kd8.all (okE 8) = true := by decide +kernel
set_option maxRecDepth 20000 in
theorem okM_9 : kd9.all (okE 9) = true := by decide +kernel
set_option maxRecDepth 20000 in
theorem okM_10 : kd10.all (okE 10) = true := by decide +kernel
set_option maxRecDepth 20000 in
theorem okM_11 : kd11.all (okE 11) = true := by decide +kernel
set_option maxRecDepth 20000 in
theorem okM_12 : kd12.all (okE 12) = true := by decide +kernel
set_option maxRecDepth 20000 in
theorem okM_13 : kd13.all (okE 13) = true := by decide +kernel
set_option maxRecDepth 20000 in
theorem okM_14 : kd14.all (okE 14) = true := by decide +kernel
set_option maxRecDepth 20000 in
theorem okM_15 : kd15.all (okE 15) = true := by decide +kernel
set_option maxRecDepth 20000 in
theorem okM_16_0 : ((kd16.drop 0).take 60).all (okE 16) = true := by decide +kernel
set_option maxRecDepth 20000 in
theorem okM_16_60 : ((kd16.drop 60).take 60).all (okE 16) = true := by decide +kernel
theorem okM_16 : kd16.all (okE 16) = true := all_d0 (all_dt (l := kd16) (j := 0) 60 okM_16_0 (all_dl (l := kd16) (j := 60) (k := 60) okM_16_60 (by decide +kernel)))
set_option maxRecDepth 20000 in
theorem okM_17 : kd17.all (okE 17) = true := by decide +kernel
set_option maxRecDepth 20000 in
theorem okM_18 : kd18.all (okE 18) = true := by decide +kernel
set_option maxRecDepth 20000 in
theorem okM_19 : kd19.all (okE 19) = true := by decide +kernel
set_option maxRecDepth 20000 in
theorem okM_20 : kd20.all (okE 20) = true := by decide +kernel
set_option maxRecDepth 20000 in
theorem okM_21 : kd21.all (okE 21) = true := by decide +kernel
set_option maxRecDepth 20000 in
theorem okM_22 : kd22.all (okE 22) = true := by decide +kernel
set_option maxRecDepth 20000 in
theorem okM_23_0 : ((kd23.drop 0).take 60).all (okE 23) = true := by decide +kernel
set_option maxRecDepth 20000 in
theorem okM_23_60 : ((kd23.drop 60).take 60).all (okE 23) = true := by decide +kernel
theorem okM_23 : kd23.all (okE 23) = true := all_d0 (all_dt (l := kd23) (j := 0) 60 okM_23_0 (all_dl (l := kd23) (j := 60) (k := 60) okM_23_60 (by decide +kernel)))
set_option maxRecDepth 20000 in
theorem okM_24 : kd24.all (okE 24) = true := by decide +kernel
set_option maxRecDepth 20000 in
theorem okM_25_0 : ((kd25.drop 0).take 60).all (okE 25) = true := by decide +kernel
set_option maxRecDepth 20000 in
theorem okM_25_60 : ((kd25.drop 60).take 60).all (okE 25) = true := by decide +kernel
theorem okM_25 : kd25.all (okE 25) = true := all_d0 (all_dt (l := kd25) (j := 0) 60 okM_25_0 (all_dl (l := kd25) (j := 60) (k := 60) okM_25_60 (by decide +kernel)))
set_option maxRecDepth 20000 in
theorem okM_26 : kd26.all (okE 26) = true := by decide +kernel
set_option maxRecDepth 20000 in
theorem okM_27 : kd27.all (okE 27) = true := by decide +kernel
set_option maxRecDepth 20000 in
theorem okM_28 : kd28.all (okE 28) = true := by decide +kernel
set_option maxRecDepth 20000 in
theorem okM_29 : kd29.all (okE 29) = true := by decide +kernel
set_option maxRecDepth 20000 in
theorem okM_30_0 : ((kd30.drop 0).take 60).all (okE 30) = true := by decide +kernel
set_option maxRecDepth 20000 in
theorem okM_30_60 : ((kd30.drop 60).take 60).all (okE 30) = true := by decide +kernel
theorem okM_30 : kd30.all (okE 30) = true := all_d0 (all_dt (l := kd30) (j := 0) 60 okM_30_0 (all_dl (l := kd30) (j := 60) (k := 60) okM_30_60 (by decide +kernel)))
set_option maxRecDepth 20000 in
theorem okM_31_0 : ((kd31.drop 0).take 60).all (okE 31) = true := by decide +kernel
set_option maxRecDepth 20000 in
theorem okM_31_60 : ((kd31.drop 60).take 60).all (okE 31) = true := by decide +kernel
theorem okM_31 : kd31.all (okE 31) = true := all_d0 (all_dt (l := kd31) (j := 0) 60 okM_31_0 (all_dl (l := kd31) (j := 60) (k := 60) okM_31_60 (by decide +kernel)))
set_option maxRecDepth 20000 in
theorem okM_32_0 : ((kd32.drop 0).take 60).all (okE 32) = true := by decide +kernel
set_option maxRecDepth 20000 in
theorem okM_32_60 : ((kd32.drop 60).take 60).all (okE 32) = true := by decide +kernel
theorem okM_32 : kd32.all (okE 32) = true := all_d0 (all_dt (l := kd32) (j := 0) 60 okM_32_0 (all_dl (l := kd32) (j := 60) (k := 60) okM_32_60 (by decide +kernel)))
set_option maxRecDepth 20000 in
theorem okM_33 : kd33.all (okE 33) = true := by decide +kernel
set_option maxRecDepth 20000 in
theorem okM_34 : kd34.all (okE 34) = true := by decide +kernel
set_option maxRecDepth 20000 in
theorem okM_35 : kd35.all (okE 35) = true := by decide +kernel
set_option maxRecDepth 20000 in
theorem okM_36 : kd36.all (okE 36) = true := by decide +kernel
set_option maxRecDepth 20000 in
theorem okM_37 : kd37.all (okE 37) = true := by decide +kernel
set_option maxRecDepth 20000 in
theorem okM_38 : kd38.all (okE 38) = true := by decide +kernel
set_option maxRecDepth 20000 in
theorem okM_39 : kd39.all (okE 39) = true := by decide +kernel
set_option maxRecDepth 20000 in
theorem okM_40_0 : ((kd40.drop 0).take 60).all (okE 40) = true := by decide +kernel
set_option maxRecDepth 20000 in
theorem okM_40_60 : ((kd40.drop 60).take 60).all (okE 40) = true := by decide +kernel
theorem okM_40 : kd40.all (okE 40) = true := all_d0 (all_dt (l := kd40) (j := 0) 60 okM_40_0 (all_dl (l := kd40) (j := 60) (k := 60) okM_40_60 (by decide +kernel)))
set_option maxRecDepth 20000 in
theorem okM_41_0 : ((kd41.drop 0).take 60).all (okE 41) = true := by decide +kernel
set_option maxRecDepth 20000 in
theorem okM_41_60 : ((kd41.drop 60).take 60).all (okE 41) = true := by decide +kernel
theorem okM_41 : kd41.all (okE 41) = true := all_d0 (all_dt (l := kd41) (j := 0) 60 okM_41_0 (all_dl (l := kd41) (j := 60) (k := 60) okM_41_60 (by decide +kernel)))
set_option maxRecDepth 20000 in
theorem okM_42 : kd42.all (okE 42) = true := by decide +kernel
set_option maxRecDepth 20000 in
theorem okM_43 : kd43.all (okE 43) = true := by decide +kernel
