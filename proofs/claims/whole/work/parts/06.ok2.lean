set_option maxRecDepth 20000 in
theorem okM_88 : kd88.all (okE 88) = true := by decide +kernel
set_option maxRecDepth 20000 in
theorem okM_89 : kd89.all (okE 89) = true := by decide +kernel
set_option maxRecDepth 20000 in
theorem okM_90 : kd90.all (okE 90) = true := by decide +kernel
set_option maxRecDepth 20000 in
theorem okM_91 : kd91.all (okE 91) = true := by decide +kernel
set_option maxRecDepth 20000 in
theorem okM_92 : kd92.all (okE 92) = true := by decide +kernel
set_option maxRecDepth 20000 in
theorem okM_93 : kd93.all (okE 93) = true := by decide +kernel
set_option maxRecDepth 20000 in
theorem okM_94 : kd94.all (okE 94) = true := by decide +kernel
set_option maxRecDepth 20000 in
theorem okM_95 : kd95.all (okE 95) = true := by decide +kernel
set_option maxRecDepth 20000 in
theorem okM_96 : kd96.all (okE 96) = true := by decide +kernel
set_option maxRecDepth 20000 in
theorem okM_97 : kd97.all (okE 97) = true := by decide +kernel
set_option maxRecDepth 20000 in
theorem okM_98 : kd98.all (okE 98) = true := by decide +kernel
set_option maxRecDepth 20000 in
theorem okM_99 : kd99.all (okE 99) = true := by decide +kernel
set_option maxRecDepth 20000 in
theorem okM_100 : kd100.all (okE 100) = true := by decide +kernel
set_option maxRecDepth 20000 in
theorem okM_101 : kd101.all (okE 101) = true := by decide +kernel
set_option maxRecDepth 20000 in
theorem okM_102 : kd102.all (okE 102) = true := by decide +kernel
set_option maxRecDepth 20000 in
theorem okM_103 : kd103.all (okE 103) = true := by decide +kernel
set_option maxRecDepth 20000 in
theorem okM_104 : kd104.all (okE 104) = true := by decide +kernel
set_option maxRecDepth 20000 in
theorem okM_105 : kd105.all (okE 105) = true := by decide +kernel
set_option maxRecDepth 20000 in
theorem okM_106 : kd106.all (okE 106) = true := by decide +kernel
set_option maxRecDepth 20000 in
theorem okM_107 : kd107.all (okE 107) = true := by decide +kernel
set_option maxRecDepth 20000 in
theorem okM_108 : kd108.all (okE 108) = true := by decide +kernel
set_option maxRecDepth 20000 in
theorem okM_109 : kd109.all (okE 109) = true := by decide +kernel
set_option maxRecDepth 20000 in
theorem okM_110_0 : ((kd110.drop 0).take 60).all (okE 110) = true := by decide +kernel
set_option maxRecDepth 20000 in
theorem okM_110_60 : ((kd110.drop 60).take 60).all (okE 110) = true := by decide +kernel
set_option maxRecDepth 20000 in
theorem okM_110_120 : ((kd110.drop 120).take 60).all (okE 110) = true := by decide +kernel
set_option maxRecDepth 20000 in
theorem okM_110_180 : ((kd110.drop 180).take 60).all (okE 110) = true := by decide +kernel
theorem okM_110 : kd110.all (okE 110) = true := all_d0 (all_dt (l := kd110) (j := 0) 60 okM_110_0 (all_dt (l := kd110) (j := 60) 60 okM_110_60 (all_dt (l := kd110) (j := 120) 60 okM_110_120 (all_dl (l := kd110) (j := 180) (k := 60) okM_110_180 (by decide +kernel)))))
set_option maxRecDepth 20000 in
theorem okM_111 : kd111.all (okE 111) = true := by decide +kernel
set_option maxRecDepth 20000 in
theorem okM_112 : kd112.all (okE 112) = true := by decide +kernel
set_option maxRecDepth 20000 in
theorem okM_113 : kd113.all (okE 113) = true := by decide +kernel
set_option maxRecDepth 20000 in
theorem okM_114 : kd114.all (okE 114) = true := by decide +kernel
set_option maxRecDepth 20000 in
theorem okM_115 : kd115.all (okE 115) = true := by decide +kernel
set_option maxRecDepth 20000 in
theorem okM_116 : kd116.all (okE 116) = true := by decide +kernel
set_option maxRecDepth 20000 in
theorem okM_117 : kd117.all (okE 117) = true := by decide +kernel
set_option maxRecDepth 20000 in
theorem okM_118 : kd118.all (okE 118) = true := by decide +kernel
set_option maxRecDepth 20000 in
theorem okM_119 : kd119.all (okE 119) = true := by decide +kernel
set_option maxRecDepth 20000 in
theorem okM_120 : kd120.all (okE 120) = true := by decide +kernel
set_option maxRecDepth 20000 in
theorem okM_121 : kd121.all (okE 121) = true := by decide +kernel
set_option maxRecDepth 20000 in
theorem okM_122_0 : ((kd122.drop 0).take 60).all (okE 122) = true := by decide +kernel
set_option maxRecDepth 20000 in
theorem okM_122_60 : ((kd122.drop 60).take 60).all (okE 122) = true := by decide +kernel
theorem okM_122 : kd122.all (okE 122) = true := all_d0 (all_dt (l := kd122) (j := 0) 60 okM_122_0 (all_dl (l := kd122) (j := 60) (k := 60) okM_122_60 (by decide +kernel)))
set_option maxRecDepth 20000 in
theorem okM_123_0 : ((kd123.drop 0).take 60).all (okE 123) = true := by decide +kernel
set_option maxRecDepth 20000 in
theorem okM_123_60 : ((kd123.drop 60).take 60).all (okE 123) = true := by decide +kernel
theorem okM_123 : kd123.all (okE 123) = true := all_d0 (all_dt (l := kd123) (j := 0) 60 okM_123_0 (all_dl (l := kd123) (j := 60) (k := 60) okM_123_60 (by decide +kernel)))
set_option maxRecDepth 20000 in
theorem okM_124 : kd124.all (okE 124) = true := by decide +kernel
set_option maxRecDepth 20000 in
theorem okM_125 : kd125.all (okE 125) = true := by decide +kernel
set_option maxRecDepth 20000 in
theorem okM_126_0 : ((kd126.drop 0).take 60).all (okE 126) = true := by decide +kernel
set_option maxRecDepth 20000 in
theorem okM_126_60 : ((kd126.drop 60).take 60).all (okE 126) = true := by decide +kernel
theorem okM_126 : kd126.all (okE 126) = true := all_d0 (all_dt (l := kd126) (j := 0) 60 okM_126_0 (all_dl (l := kd126) (j := 60) (k := 60) okM_126_60 (by decide +kernel)))
set_option maxRecDepth 20000 in
theorem okM_127 : kd127.all (okE 127) = true := by decide +kernel
set_option maxRecDepth 20000 in
theorem okM_128 : kd128.all (okE 128) = true := by decide +kernel
set_option maxRecDepth 20000 in
theorem okM_129 : kd129.all (okE 129) = true := by decide +kernel
set_option maxRecDepth 20000 in
theorem okM_130 : kd130.all (okE 130) = true := by decide +kernel
set_option maxRecDepth 20000 in
theorem okM_131 : kd131.all (okE 131) = true := by decide +kernel
set_option maxRecDepth 20000 in
theorem okM_132 : kd132.all (okE 132) = true := by decide +kernel
set_option maxRecDepth 20000 in
theorem okM_133 : kd133.all (okE 133) = true := by decide +kernel
set_option maxRecDepth 20000 in
theorem okM_134 : kd134.all (okE 134) = true := by decide +kernel
set_option maxRecDepth 20000 in
theorem okM_135 : kd135.all (okE 135) = true := by decide +kernel
set_option maxRecDepth 20000 in
theorem okM_136 : kd136.all (okE 136) = true := by decide +kernel
set_option maxRecDepth 20000 in
theorem okM_137 : kd137.all (okE 137) = true := by decide +kernel
set_option maxRecDepth 20000 in
theorem okM_138 : kd138.all (okE 138) = true := by decide +kernel
set_option maxRecDepth 20000 in
theorem okM_139 : kd139.all (okE 139) = true := by decide +kernel
set_option maxRecDepth 20000 in
theorem okM_140 : kd140.all (okE 140) = true := by decide +kernel
set_option maxRecDepth 20000 in
theorem okM_141 : kd141.all (okE 141) = true := by decide +kernel
set_option maxRecDepth 20000 in
theorem okM_142 : kd142.all (okE 142) = true := by decide +kernel
set_option maxRecDepth 20000 in
theorem okM_143 : kd143.all (okE 143) = true := by decide +kernel
set_option maxRecDepth 20000 in
theorem okM_144 : kd144.all (okE 144) = true := by decide +kernel
set_option maxRecDepth 20000 in
theorem okM_145 : kd145.all (okE 145) = true := by decide +kernel
set_option maxRecDepth 20000 in
theorem okM_146_0 : ((kd146.drop 0).take 60).all (okE 146) = true := by decide +kernel
set_option maxRecDepth 20000 in
theorem okM_146_60 : ((kd146.drop 60).take 60).all (okE 146) = true := by decide +kernel
theorem okM_146 : kd146.all (okE 146) = true := all_d0 (all_dt (l := kd146) (j := 0) 60 okM_146_0 (all_dl (l := kd146) (j := 60) (k := 60) okM_146_60 (by decide +kernel)))
set_option maxRecDepth 20000 in
theorem okM_147_0 : ((kd147.drop 0).take 60).all (okE 147) = true := by decide +kernel
set_option maxRecDepth 20000 in
theorem okM_147_60 : ((kd147.drop 60).take 60).all (okE 147) = true := by decide +kernel
theorem okM_147 : kd147.all (okE 147) = true := all_d0 (all_dt (l := kd147) (j := 0) 60 okM_147_0 (all_dl (l := kd147) (j := 60) (k := 60) okM_147_60 (by decide +kernel)))
set_option maxRecDepth 20000 in
theorem okM_148_0 : ((kd148.drop 0).take 60).all (okE 148) = true := by decide +kernel
set_option maxRecDepth 20000 in
theorem okM_148_60 : ((kd148.drop 60).take 60).all (okE 148) = true := by decide +kernel
theorem okM_148 : kd148.all (okE 148) = true := all_d0 (all_dt (l := kd148) (j := 0) 60 okM_148_0 (all_dl (l := kd148) (j := 60) (k := 60) okM_148_60 (by decide +kernel)))
