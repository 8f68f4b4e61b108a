set_option maxRecDepth 20000 in
theorem okM_44_0 : ((kd44.drop 0).take 60).all (okE 44) = true := by decide +kernel
set_option maxRecDepth 20000 in
theorem okM_44_60 : ((kd44.drop 60).take 60).all (okE 44) = true := by decide +kernel
theorem okM_44 : kd44.all (okE 44) = true := all_d0 (all_dt (l := kd44) (j := 0) 60 okM_44_0 (all_dl (l := kd44) (j := 60) (k := 60) okM_44_60 (by decide +kernel)))
set_option maxRecDepth 20000 in
theorem okM_45 : kd45.all (okE 45) = true := by decide +kernel
set_option maxRecDepth 20000 in
theorem okM_46 : kd46.all (okE 46) = true := by decide +kernel
set_option maxRecDepth 20000 in
theorem okM_47 : kd47.all (okE 47) = true := by decide +kernel
set_option maxRecDepth 20000 in
theorem okM_48 : kd48.all (okE 48) = true := by decide +kernel
set_option maxRecDepth 20000 in
theorem okM_49 : kd49.all (okE 49) = true := by decide +kernel
set_option maxRecDepth 20000 in
theorem okM_50 : kd50.all (okE 50) = true := by decide +kernel
set_option maxRecDepth 20000 in
theorem okM_51 : kd51.all (okE 51) = true := by decide +kernel
set_option maxRecDepth 20000 in
theorem okM_52_0 : ((kd52.drop 0).take 60).all (okE 52) = true := by decide +kernel
set_option maxRecDepth 20000 in
theorem okM_52_60 : ((kd52.drop 60).take 60).all (okE 52) = true := by decide +kernel
theorem okM_52 : kd52.all (okE 52) = true := all_d0 (all_dt (l := kd52) (j := 0) 60 okM_52_0 (all_dl (l := kd52) (j := 60) (k := 60) okM_52_60 (by decide +kernel)))
set_option maxRecDepth 20000 in
theorem okM_53_0 : ((kd53.drop 0).take 60).all (okE 53) = true := by decide +kernel
set_option maxRecDepth 20000 in
theorem okM_53_60 : ((kd53.drop 60).take 60).all (okE 53) = true := by decide +kernel
theorem okM_53 : kd53.all (okE 53) = true := all_d0 (all_dt (l := kd53) (j := 0) 60 okM_53_0 (all_dl (l := kd53) (j := 60) (k := 60) okM_53_60 (by decide +kernel)))
set_option maxRecDepth 20000 in
theorem okM_54 : kd54.all (okE 54) = true := by decide +kernel
set_option maxRecDepth 20000 in
theorem okM_55 : kd55.all (okE 55) = true := by decide +kernel
set_option maxRecDepth 20000 in
theorem okM_56 : kd56.all (okE 56) = true := by decide +kernel
set_option maxRecDepth 20000 in
theorem okM_57 : kd57.all (okE 57) = true := by decide +kernel
set_option maxRecDepth 20000 in
theorem okM_58 : kd58.all (okE 58) = true := by decide +kernel
set_option maxRecDepth 20000 in
theorem okM_59 : kd59.all (okE 59) = true := by decide +kernel
set_option maxRecDepth 20000 in
theorem okM_60 : kd60.all (okE 60) = true := by decide +kernel
set_option maxRecDepth 20000 in
theorem okM_61 : kd61.all (okE 61) = true := by decide +kernel
set_option maxRecDepth 20000 in
theorem okM_62 : kd62.all (okE 62) = true := by decide +kernel
set_option maxRecDepth 20000 in
theorem okM_63 : kd63.all (okE 63) = true := by decide +kernel
set_option maxRecDepth 20000 in
theorem okM_64 : kd64.all (okE 64) = true := by decide +kernel
set_option maxRecDepth 20000 in
theorem okM_65 : kd65.all (okE 65) = true := by decide +kernel
set_option maxRecDepth 20000 in
theorem okM_66 : kd66.all (okE 66) = true := by decide +kernel
set_option maxRecDepth 20000 in
theorem okM_67 : kd67.all (okE 67) = true := by decide +kernel
set_option maxRecDepth 20000 in
theorem okM_68 : kd68.all (okE 68) = true := by decide +kernel
set_option maxRecDepth 20000 in
theorem okM_69 : kd69.all (okE 69) = true := by decide +kernel
set_option maxRecDepth 20000 in
theorem okM_70 : kd70.all (okE 70) = true := by decide +kernel
set_option maxRecDepth 20000 in
theorem okM_71 : kd71.all (okE 71) = true := by decide +kernel
set_option maxRecDepth 20000 in
theorem okM_72 : kd72.all (okE 72) = true := by decide +kernel
set_option maxRecDepth 20000 in
theorem okM_73_0 : ((kd73.drop 0).take 60).all (okE 73) = true := by decide +kernel
set_option maxRecDepth 20000 in
theorem okM_73_60 : ((kd73.drop 60).take 60).all (okE 73) = true := by decide +kernel
theorem okM_73 : kd73.all (okE 73) = true := all_d0 (all_dt (l := kd73) (j := 0) 60 okM_73_0 (all_dl (l := kd73) (j := 60) (k := 60) okM_73_60 (by decide +kernel)))
set_option maxRecDepth 20000 in
theorem okM_74 : kd74.all (okE 74) = true := by decide +kernel
set_option maxRecDepth 20000 in
theorem okM_75 : kd75.all (okE 75) = true := by decide +kernel
set_option maxRecDepth 20000 in
theorem okM_76_0 : ((kd76.drop 0).take 60).all (okE 76) = true := by decide +kernel
set_option maxRecDepth 20000 in
theorem okM_76_60 : ((kd76.drop 60).take 60).all (okE 76) = true := by decide +kernel
theorem okM_76 : kd76.all (okE 76) = true := all_d0 (all_dt (l := kd76) (j := 0) 60 okM_76_0 (all_dl (l := kd76) (j := 60) (k := 60) okM_76_60 (by decide +kernel)))
set_option maxRecDepth 20000 in
theorem okM_77 : kd77.all (okE 77) = true := by decide +kernel
set_option maxRecDepth 20000 in
theorem okM_78 : kd78.all (okE 78) = true := by decide +kernel
set_option maxRecDepth 20000 in
theorem okM_79 : kd79.all (okE 79) = true := by decide +kernel
set_option maxRecDepth 20000 in
theorem okM_80 : kd80.all (okE 80) = true := by decide +kernel
set_option maxRecDepth 20000 in
theorem okM_81 : kd81.all (okE 81) = true := by decide +kernel
set_option maxRecDepth 20000 in
theorem okM_82_0 : ((kd82.drop 0).take 60).all (okE 82) = true := by decide +kernel
set_option maxRecDepth 20000 in
theorem okM_82_60 : ((kd82.drop 60).take 60).all (okE 82) = true := by decide +kernel
theorem okM_82 : kd82.all (okE 82) = true := all_d0 (all_dt (l := kd82) (j := 0) 60 okM_82_0 (all_dl (l := kd82) (j := 60) (k := 60) okM_82_60 (by decide +kernel)))
set_option maxRecDepth 20000 in
theorem okM_83 : kd83.all (okE 83) = true := by decide +kernel
set_option maxRecDepth 20000 in
theorem okM_84 : kd84.all (okE 84) = true := by decide +kernel
set_option maxRecDepth 20000 in
theorem okM_85 : kd85.all (okE 85) = true := by decide +kernel
set_option maxRecDepth 20000 in
theorem okM_86 : kd86.all (okE 86) = true := by decide +kernel
set_option maxRecDepth 20000 in
theorem okM_87 : kd87.all (okE 87) = true := by decide +kernel
