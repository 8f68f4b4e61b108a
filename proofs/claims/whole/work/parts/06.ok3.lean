set_option maxRecDepth 20000 in
theorem okM_149 : kd149.all (okE 149) = true := by decide +kernel
set_option maxRecDepth 20000 in
theorem okM_150 : kd150.all (okE 150) = true := by decide +kernel
set_option maxRecDepth 20000 in
theorem okM_151 : kd151.all (okE 151) = true := by decide +kernel
set_option maxRecDepth 20000 in
theorem okM_152 : kd152.all (okE 152) = true := by decide +kernel
set_option maxRecDepth 20000 in
theorem okM_153 : kd153.all (okE 153) = true := by decide +kernel
set_option maxRecDepth 20000 in
theorem okM_154 : kd154.all (okE 154) = true := by decide +kernel
set_option maxRecDepth 20000 in
theorem okM_155 : kd155.all (okE 155) = true := by decide +kernel
set_option maxRecDepth 20000 in
theorem okM_156 : kd156.all (okE 156) = true := by decide +kernel
set_option maxRecDepth 20000 in
theorem okM_157 : kd157.all (okE 157) = true := by decide +kernel
set_option maxRecDepth 20000 in
theorem okM_158 : kd158.all (okE 158) = true := by decide +kernel
set_option maxRecDepth 20000 in
theorem okM_159_0 : ((kd159.drop 0).take 60).all (okE 159) = true := by decide +kernel
set_option maxRecDepth 20000 in
theorem okM_159_60 : ((kd159.drop 60).take 60).all (okE 159) = true := by decide +kernel
theorem okM_159 : kd159.all (okE 159) = true := all_d0 (all_dt (l := kd159) (j := 0) 60 okM_159_0 (all_dl (l := kd159) (j := 60) (k := 60) okM_159_60 (by decide +kernel)))
set_option maxRecDepth 20000 in
theorem okM_160 : kd160.all (okE 160) = true := by decide +kernel
set_option maxRecDepth 20000 in
theorem okM_161 : kd161.all (okE 161) = true := by decide +kernel
set_option maxRecDepth 20000 in
theorem okM_162 : kd162.all (okE 162) = true := by decide +kernel
set_option maxRecDepth 20000 in
theorem okM_163_0 : ((kd163.drop 0).take 60).all (okE 163) = true := by decide +kernel
set_option maxRecDepth 20000 in
theorem okM_163_60 : ((kd163.drop 60).take 60).all (okE 163) = true := by decide +kernel
set_option maxRecDepth 20000 in
theorem okM_163_120 : ((kd163.drop 120).take 60).all (okE 163) = true := by decide +kernel
theorem okM_163 : kd163.all (okE 163) = true := all_d0 (all_dt (l := kd163) (j := 0) 60 okM_163_0 (all_dt (l := kd163) (j := 60) 60 okM_163_60 (all_dl (l := kd163) (j := 120) (k := 60) okM_163_120 (by decide +kernel))))
set_option maxRecDepth 20000 in
theorem okM_164 : kd164.all (okE 164) = true := by decide +kernel
set_option maxRecDepth 20000 in
theorem okM_165 : kd165.all (okE 165) = true := by decide +kernel
set_option maxRecDepth 20000 in
theorem okM_166 : kd166.all (okE 166) = true := by decide +kernel
set_option maxRecDepth 20000 in
theorem okM_167 : kd167.all (okE 167) = true := by decide +kernel
set_option maxRecDepth 20000 in
theorem okM_168 : kd168.all (okE 168) = true := by decide +kernel
set_option maxRecDepth 20000 in
theorem okM_169 : kd169.all (okE 169) = true := by decide +kernel
set_option maxRecDepth 20000 in
theorem okM_170_0 : ((kd170.drop 0).take 60).all (okE 170) = true := by decide +kernel
set_option maxRecDepth 20000 in
theorem okM_170_60 : ((kd170.drop 60).take 60).all (okE 170) = true := by decide +kernel
theorem okM_170 : kd170.all (okE 170) = true := all_d0 (all_dt (l := kd170) (j := 0) 60 okM_170_0 (all_dl (l := kd170) (j := 60) (k := 60) okM_170_60 (by decide +kernel)))
set_option maxRecDepth 20000 in
theorem okM_171 : kd171.all (okE 171) = true := by decide +kernel
set_option maxRecDepth 20000 in
theorem okM_172 : kd172.all (okE 172) = true := by decide +kernel
set_option maxRecDepth 20000 in
theorem okM_173 : kd173.all (okE 173) = true := by decide +kernel
set_option maxRecDepth 20000 in
theorem okM_174_0 : ((kd174.drop 0).take 60).all (okE 174) = true := by decide +kernel
set_option maxRecDepth 20000 in
theorem okM_174_60 : ((kd174.drop 60).take 60).all (okE 174) = true := by decide +kernel
theorem okM_174 : kd174.all (okE 174) = true := all_d0 (all_dt (l := kd174) (j := 0) 60 okM_174_0 (all_dl (l := kd174) (j := 60) (k := 60) okM_174_60 (by decide +kernel)))
set_option maxRecDepth 20000 in
theorem okM_175 : kd175.all (okE 175) = true := by decide +kernel
set_option maxRecDepth 20000 in
theorem okM_176 : kd176.all (okE 176) = true := by decide +kernel
set_option maxRecDepth 20000 in
theorem okM_177 : kd177.all (okE 177) = true := by decide +kernel
set_option maxRecDepth 20000 in
theorem okM_178 : kd178.all (okE 178) = true := by decide +kernel
set_option maxRecDepth 20000 in
theorem okM_179 : kd179.all (okE 179) = true := by decide +kernel
set_option maxRecDepth 20000 in
theorem okM_180 : kd180.all (okE 180) = true := by decide +kernel
set_option maxRecDepth 20000 in
theorem okM_181 : kd181.all (okE 181) = true := by decide +kernel
set_option maxRecDepth 20000 in
theorem okM_182 : kd182.all (okE 182) = true := by decide +kernel
set_option maxRecDepth 20000 in
theorem okM_183 : kd183.all (okE 183) = true := by decide +kernel
set_option maxRecDepth 20000 in
theorem okM_184 : kd184.all (okE 184) = true := by decide +kernel
set_option maxRecDepth 20000 in
theorem okM_185 : kd185.all (okE 185) = true := by decide +kernel
set_option maxRecDepth 20000 in
theorem okM_186 : kd186.all (okE 186) = true := by decide +kernel
set_option maxRecDepth 20000 in
theorem okM_187 : kd187.all (okE 187) = true := by decide +kernel
set_option maxRecDepth 20000 in
theorem okM_188 : kd188.all (okE 188) = true := by decide +kernel
set_option maxRecDepth 20000 in
theorem okM_189 : kd189.all (okE 189) = true := by decide +kernel
set_option maxRecDepth 20000 in
theorem okM_190 : kd190.all (okE 190) = true := by decide +kernel
set_option maxRecDepth 20000 in
theorem okM_191 : kd191.all (okE 191) = true := by decide +kernel
set_option maxRecDepth 20000 in
theorem okM_192 : kd192.all (okE 192) = true := by decide +kernel
set_option maxRecDepth 20000 in
theorem okM_193 : kd193.all (okE 193) = true := by decide +kernel
set_option maxRecDepth 20000 in
theorem okM_194 : kd194.all (okE 194) = true := by decide +kernel
