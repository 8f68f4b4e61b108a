set_option maxRecDepth 20000 in
theorem okM_195 : kd195.all (okE 195) = true := by decide +kernel
set_option maxRecDepth 20000 in
theorem okM_196_0 : ((kd196.drop 0).take 60).all (okE 196) = true := by decide +kernel
set_option maxRecDepth 20000 in
theorem okM_196_60 : ((kd196.drop 60).take 60).all (okE 196) = true := by decide +kernel
theorem okM_196 : kd196.all (okE 196) = true := all_d0 (all_dt (l := kd196) (j := 0) 60 okM_196_0 (all_dl (l := kd196) (j := 60) (k := 60) okM_196_60 (by decide +kernel)))
set_option maxRecDepth 20000 in
theorem okM_197_0 : ((kd197.drop 0).take 60).all (okE 197) = true := by decide +kernel
set_option maxRecDepth 20000 in
theorem okM_197_60 : ((kd197.drop 60).take 60).all (okE 197) = true := by decide +kernel
theorem okM_197 : kd197.all (okE 197) = true := all_d0 (all_dt (l := kd197) (j := 0) 60 okM_197_0 (all_dl (l := kd197) (j := 60) (k := 60) okM_197_60 (by decide +kernel)))
set_option maxRecDepth 20000 in
theorem okM_198_0 : ((kd198.drop 0).take 60).all (okE 198) = true := by decide +kernel
set_option maxRecDepth 20000 in
theorem okM_198_60 : ((kd198.drop 60).take 60).all (okE 198) = true := by decide +kernel
theorem okM_198 : kd198.all (okE 198) = true := all_d0 (all_dt (l := kd198) (j := 0) 60 okM_198_0 (all_dl (l := kd198) (j := 60) (k := 60) okM_198_60 (by decide +kernel)))
set_option maxRecDepth 20000 in
theorem okM_199 : kd199.all (okE 199) = true := by decide +kernel
set_option maxRecDepth 20000 in
theorem okM_200 : kd200.all (okE 200) = true := by decide +kernel
set_option maxRecDepth 20000 in
theorem okM_201 : kd201.all (okE 201) = true := by decide +kernel
set_option maxRecDepth 20000 in
theorem okM_202 : kd202.all (okE 202) = true := by decide +kernel
set_option maxRecDepth 20000 in
theorem okM_203 : kd203.all (okE 203) = true := by decide +kernel
set_option maxRecDepth 20000 in
theorem okM_204 : kd204.all (okE 204) = true := by decide +kernel
set_option maxRecDepth 20000 in
theorem okM_205 : kd205.all (okE 205) = true := by decide +kernel
set_option maxRecDepth 20000 in
theorem okM_206 : kd206.all (okE 206) = true := by decide +kernel
set_option maxRecDepth 20000 in
theorem okM_207 : kd207.all (okE 207) = true := by decide +kernel
set_option maxRecDepth 20000 in
theorem okM_208 : kd208.all (okE 208) = true := by decide +kernel
set_option maxRecDepth 20000 in
theorem okM_209 : kd209.all (okE 209) = true := by decide +kernel
set_option maxRecDepth 20000 in
theorem okM_210 : kd210.all (okE 210) = true := by decide +kernel
set_option maxRecDepth 20000 in
theorem okM_211 : kd211.all (okE 211) = true := by decide +kernel
set_option maxRecDepth 20000 in
theorem okM_212 : kd212.all (okE 212) = true := by decide +kernel
set_option maxRecDepth 20000 in
theorem okM_213 : kd213.all (okE 213) = true := by decide +kernel
set_option maxRecDepth 20000 in
theorem okM_214_0 : ((kd214.drop 0).take 60).all (okE 214) = true := by decide +kernel
set_option maxRecDepth 20000 in
theorem okM_214_60 : ((kd214.drop 60).take 60).all (okE 214) = true := by decide +kernel
set_option maxRecDepth 20000 in
theorem okM_214_120 : ((kd214.drop 120).take 60).all (okE 214) = true := by decide +kernel
set_option maxRecDepth 20000 in
theorem okM_214_180 : ((kd214.drop 180).take 60).all (okE 214) = true := by decide +kernel
set_option maxRecDepth 20000 in
theorem okM_214_240 : ((kd214.drop 240).take 60).all (okE 214) = true := by decide +kernel
set_option maxRecDepth 20000 in
theorem okM_214_300 : ((kd214.drop 300).take 60).all (okE 214) = true := by decide +kernel
set_option maxRecDepth 20000 in
theorem okM_214_360 : ((kd214.drop 360).take 60).all (okE 214) = true := by decide +kernel
set_option maxRecDepth 20000 in
theorem okM_214_420 : ((kd214.drop 420).take 60).all (okE 214) = true := by decide +kernel
set_option maxRecDepth 20000 in
theorem okM_214_480 : ((kd214.drop 480).take 60).all (okE 214) = true := by decide +kernel
set_option maxRecDepth 20000 in
theorem okM_214_540 : ((kd214.drop 540).take 60).all (okE 214) = true := by decide +kernel
set_option maxRecDepth 20000 in
theorem okM_214_600 : ((kd214.drop 600).take 60).all (okE 214) = true := by decide +kernel
set_option maxRecDepth 20000 in
theorem okM_214_660 : ((kd214.drop 660).take 60).all (okE 214) = true := by decide +kernel
set_option maxRecDepth 20000 in
theorem okM_214_720 : ((kd214.drop 720).take 60).all (okE 214) = true := by decide +kernel
set_option maxRecDepth 20000 in
theorem okM_214_780 : ((kd214.drop 780).take 60).all (okE 214) = true := by decide +kernel
set_option maxRecDepth 20000 in
theorem okM_214_840 : ((kd214.drop 840).take 60).all (okE 214) = true := by decide +kernel
theorem okM_214 : kd214.all (okE 214) = true := all_d0 (all_dt (l := kd214) (j := 0) 60 okM_214_0 (all_dt (l := kd214) (j := 60) 60 okM_214_60 (all_dt (l := kd214) (j := 120) 60 okM_214_120 (all_dt (l := kd214) (j := 180) 60 okM_214_180 (all_dt (l := kd214) (j := 240) 60 okM_214_240 (all_dt (l := kd214) (j := 300) 60 okM_214_300 (all_dt (l := kd214) (j := 360) 60 okM_214_360 (all_dt (l := kd214) (j := 420) 60 okM_214_420 (all_dt (l := kd214) (j := 480) 60 okM_214_480 (all_dt (l := kd214) (j := 540) 60 okM_214_540 (all_dt (l := kd214) (j := 600) 60 okM_214_600 (all_dt (l := kd214) (j := 660) 60 okM_214_660 (all_dt (l := kd214) (j := 720) 60 okM_214_720 (all_dt (l := kd214) (j := 780) 60 okM_214_780 (all_dl (l := kd214) (j := 840) (k := 60) okM_214_840 (by decide +kernel))))))))))))))))
