/-! The law: a case a call, and its loop. -/
def LJ (h h' : Hp) : Prop := J h' ∧ h'.1 1000 = h.1 1000 ∧ h'.2.2.2 = h.2.2.2 ∧ h'.2.2.1 ≤ h.2.2.1 + 1
theorem ia_2 (n : Nat) : nI n + 2 = nI (n + 2) := nI_add n 2
theorem ia_3 (n : Nat) : nI n + 3 = nI (n + 3) := nI_add n 3
theorem ia_4 (n : Nat) : nI n + 4 = nI (n + 4) := nI_add n 4
theorem ia_5 (n : Nat) : nI n + 5 = nI (n + 5) := nI_add n 5
theorem sl_ok {L i k : Nat} (h1 : i + 6 ≤ L) (h2 : L ≤ 3072) (hk : k < 6) : (0 : Int) ≤ (nI (i + k)).toInt ∧ (nI (i + k)).toInt < (L : Int) := by rw [nI_toInt (by omega)]; omega
section
variable {d i L : Nat} {hc : Hp} {Q : Option (Option Value) → Hp → Prop} {o5 o6 o7 : Option Value}
theorem law_0 (hJ : J hc) (hL : hc.2.2.2 = L) (hi : i + 6 ≤ L) (hL2 : L ≤ 3072) (kk : ∀ (h' : Hp) (o5 o6 o7 : Option Value), LJ hc h' → WP (d + 100) 214 1465 [some (.ref 1000), some (.ref 0), some (.ref 93), some (.ref 108), some (.int (nI i)), o5, o6, o7] [] h' Q) : WP (d + 100) 214 188 [some (.ref 1000), some (.ref 0), some (.ref 93), some (.ref 108), some (.int (nI i)), o5, o6, o7] [] hc Q := by
  have b1 := sl_ok (k := 1) hi hL2 (by omega)
  rw [← hL] at b1
  have b2 := sl_ok (k := 2) hi hL2 (by omega)
  rw [← hL] at b2
  have b3 := sl_ok (k := 3) hi hL2 (by omega)
  rw [← hL] at b3
  have b4 := sl_ok (k := 4) hi hL2 (by omega)
  rw [← hL] at b4
  have b5 := sl_ok (k := 5) hi hL2 (by omega)
  rw [← hL] at b5
  obtain ⟨v, P, hP, hcl, hm⟩ := ag_feed (d := d) (x1 := hc.1 1000 (i + 1)) (x2 := hc.1 1000 (i + 2)) (x3 := hc.1 1000 (i + 3)) (x4 := hc.1 1000 (i + 4)) (x5 := hc.1 1000 (i + 5)) hJ
  simp only [S214_188, S214_189, S214_190, S214_192, S214_193, S214_194, S214_195, S214_196, S214_198, S214_199, S214_200, S214_201, S214_202, S214_204, S214_205, S214_206, S214_207, S214_208, S214_210, S214_211, S214_212, S214_213, S214_214, S214_216, S214_217, S214_218, S214_219, shp_0, nI_add1, ia_2, ia_3, ia_4, ia_5, nI_cl (show i + 1 < 2147483648 by omega), nI_cl (show i + 2 < 2147483648 by omega), nI_cl (show i + 3 < 2147483648 by omega), nI_cl (show i + 4 < 2147483648 by omega), nI_cl (show i + 5 < 2147483648 by omega), b1, b2, b3, b4, b5, and_self]
  refine hcl _ (fun h1 p1 => ?_)
  have e1 := (hP h1 p1).1
  have e2 := (hP h1 p1).2
  have c1 := b1
  rw [← e2] at c1
  have c2 := b2
  rw [← e2] at c2
  have c3 := b3
  rw [← e2] at c3
  have c4 := b4
  rw [← e2] at c4
  have c5 := b5
  rw [← e2] at c5
  simp only [kR_at, S214_222, S214_223, S214_224, S214_226, S214_227, S214_228, S214_229, S214_230, S214_232, S214_233, S214_234, S214_235, S214_236, S214_238, S214_239, S214_240, S214_241, S214_242, S214_244, S214_245, S214_246, S214_247, S214_248, S214_250, S214_251, S214_252, S214_253, shp_93, nI_add1, ia_2, ia_3, ia_4, ia_5, nI_cl (show i + 1 < 2147483648 by omega), nI_cl (show i + 2 < 2147483648 by omega), nI_cl (show i + 3 < 2147483648 by omega), nI_cl (show i + 4 < 2147483648 by omega), nI_cl (show i + 5 < 2147483648 by omega), c1, c2, c3, c4, c5, and_self, e1]
  refine hm h1 p1 _ (fun h2 j2 k2 => ?_)
  simp only [kR_at, S214_256, if_true]
  exact kk h2 _ _ _ ⟨j2, k2.1, by rw [k2.2], by rw [k2.2]; omega⟩
theorem law_1 (hJ : J hc) (hL : hc.2.2.2 = L) (hi : i + 6 ≤ L) (hL2 : L ≤ 3072) (kk : ∀ (h' : Hp) (o5 o6 o7 : Option Value), LJ hc h' → WP (d + 100) 214 1465 [some (.ref 1000), some (.ref 0), some (.ref 93), some (.ref 108), some (.int (nI i)), o5, o6, o7] [] h' Q) : WP (d + 100) 214 261 [some (.ref 1000), some (.ref 0), some (.ref 93), some (.ref 108), some (.int (nI i)), o5, o6, o7] [] hc Q := by
  have b1 := sl_ok (k := 1) hi hL2 (by omega)
  rw [← hL] at b1
  obtain ⟨v, P, hP, hcl, hm⟩ := ag_end (d := d) (x := hc.1 1000 (i + 1)) hJ
  simp only [S214_261, S214_262, S214_263, S214_265, S214_266, S214_267, S214_268, shp_0, nI_add1, ia_2, ia_3, ia_4, ia_5, nI_cl (show i + 1 < 2147483648 by omega), b1, and_self]
  refine hcl _ (fun h1 p1 => ?_)
  have e1 := (hP h1 p1).1
  have e2 := (hP h1 p1).2
  have c1 := b1
  rw [← e2] at c1
  simp only [kR_at, S214_271, S214_272, S214_273, S214_275, S214_276, S214_277, S214_278, shp_93, nI_add1, ia_2, ia_3, ia_4, ia_5, nI_cl (show i + 1 < 2147483648 by omega), c1, and_self, e1]
  refine hm h1 p1 _ (fun h2 j2 k2 => ?_)
  simp only [kR_at, S214_281, if_true]
  exact kk h2 _ _ _ ⟨j2, k2.1, by rw [k2.2], by rw [k2.2]; omega⟩
theorem law_2 (hJ : J hc) (hL : hc.2.2.2 = L) (hi : i + 6 ≤ L) (hL2 : L ≤ 3072) (kk : ∀ (h' : Hp) (o5 o6 o7 : Option Value), LJ hc h' → WP (d + 100) 214 1465 [some (.ref 1000), some (.ref 0), some (.ref 93), some (.ref 108), some (.int (nI i)), o5, o6, o7] [] h' Q) : WP (d + 100) 214 286 [some (.ref 1000), some (.ref 0), some (.ref 93), some (.ref 108), some (.int (nI i)), o5, o6, o7] [] hc Q := by
  obtain ⟨v, P, hP, hcl, hm⟩ := ag_net (d := d)  hJ
  simp only [S214_286, S214_287, shp_0]
  refine hcl _ (fun h1 p1 => ?_)
  have e1 := (hP h1 p1).1
  have e2 := (hP h1 p1).2
  simp only [kR_at, S214_290, S214_291, shp_93]
  refine hm h1 p1 _ (fun h2 j2 k2 => ?_)
  simp only [kR_at, S214_294, if_true]
  exact kk h2 _ _ _ ⟨j2, k2.1, by rw [k2.2], by rw [k2.2]; omega⟩
theorem law_3 (hJ : J hc) (hL : hc.2.2.2 = L) (hi : i + 6 ≤ L) (hL2 : L ≤ 3072) (kk : ∀ (h' : Hp) (o5 o6 o7 : Option Value), LJ hc h' → WP (d + 100) 214 1465 [some (.ref 1000), some (.ref 0), some (.ref 93), some (.ref 108), some (.int (nI i)), o5, o6, o7] [] h' Q) : WP (d + 100) 214 299 [some (.ref 1000), some (.ref 0), some (.ref 93), some (.ref 108), some (.int (nI i)), o5, o6, o7] [] hc Q := by
  have b1 := sl_ok (k := 1) hi hL2 (by omega)
  rw [← hL] at b1
  obtain ⟨v, P, hP, hcl, hm⟩ := ag_fault (d := d) (x := hc.1 1000 (i + 1)) hJ
  simp only [S214_299, S214_300, S214_301, S214_303, S214_304, S214_305, S214_306, shp_0, nI_add1, ia_2, ia_3, ia_4, ia_5, nI_cl (show i + 1 < 2147483648 by omega), b1, and_self]
  refine hcl _ (fun h1 p1 => ?_)
  have e1 := (hP h1 p1).1
  have e2 := (hP h1 p1).2
  have c1 := b1
  rw [← e2] at c1
  simp only [kR_at, S214_309, S214_310, S214_311, S214_313, S214_314, S214_315, S214_316, shp_93, nI_add1, ia_2, ia_3, ia_4, ia_5, nI_cl (show i + 1 < 2147483648 by omega), c1, and_self, e1]
  refine hm h1 p1 _ (fun h2 j2 k2 => ?_)
  simp only [kR_at, S214_319, if_true]
  exact kk h2 _ _ _ ⟨j2, k2.1, by rw [k2.2], by rw [k2.2]; omega⟩
set_option maxRecDepth 20000 in
theorem law_4 (hJ : J hc) (hL : hc.2.2.2 = L) (hi : i + 6 ≤ L) (hL2 : L ≤ 3072) (kk : ∀ (h' : Hp) (o5 o6 o7 : Option Value), LJ hc h' → WP (d + 100) 214 1465 [some (.ref 1000), some (.ref 0), some (.ref 93), some (.ref 108), some (.int (nI i)), o5, o6, o7] [] h' Q) : WP (d + 100) 214 324 [some (.ref 1000), some (.ref 0), some (.ref 93), some (.ref 108), some (.int (nI i)), o5, o6, o7] [] hc Q := by
  have b1 := sl_ok (k := 1) hi hL2 (by omega)
  rw [← hL] at b1
  have b2 := sl_ok (k := 2) hi hL2 (by omega)
  rw [← hL] at b2
  have AW := aw_point (d := d) (x := hc.1 1000 (i + 1)) (y := hc.1 1000 (i + 2)) hJ
  simp only [S214_324, S214_325, S214_326, S214_328, S214_329, S214_330, S214_331, S214_332, S214_334, S214_335, S214_336, S214_337, nI_add1, ia_2, ia_3, ia_4, ia_5, nI_cl (show i + 1 < 2147483648 by omega), nI_cl (show i + 2 < 2147483648 by omega), b1, b2, and_self]
  refine WP_wrap (d := d + 98) (tg := 58) (o := 108) rfl rfl rfl rfl rfl rfl (by omega) ?_
  rcases AW with ⟨hcl, hm⟩ | ⟨v, hcl, hm⟩
  · refine hcl _ (fun h1 j1 r1 k1 => ?_)
    have e1 : (tick h1).1 1000 = hc.1 1000 := k1.1
    have e2 : (tick h1).2.2.2 = hc.2.2.2 := by show h1.2.2.2 = _; rw [k1.2]
    have c1 := b1
    rw [← e2] at c1
    have c2 := b2
    rw [← e2] at c2
    show WP (d + 100) 214 341 _ [.int 1] (tick h1) Q
    simp only [S214_341, S214_343, S214_344, S214_345, S214_347, S214_348, S214_349, S214_350, S214_351, S214_353, S214_354, S214_355, S214_356, shp_93, nI_add1, ia_2, ia_3, ia_4, ia_5, nI_cl (show i + 1 < 2147483648 by omega), nI_cl (show i + 2 < 2147483648 by omega), c1, c2, and_self, e1, kl_int]
    refine hm (tick h1) j1 r1 _ (fun h2 j2 k2 t2 => ?_)
    simp only [kR_at, S214_359, S214_361, S214_362, S214_365, S214_367, S214_370, S214_371, S214_372, S214_374, S214_377, S214_378, S214_379, S214_380, S214_382, S214_383, S214_384, S214_387, S214_388, S214_389, shp_93, m_thrown, t2, kl_int, kl_none, kl_long, if_true, i10, if_false]
    refine kk h2 _ _ _ ⟨j2, k2.1.1.trans e1, by rw [k2.1.2]; exact e2, ?_⟩
    have e3 : (tick h1).2.2.1 = h1.2.2.1 + 1 := rfl
    rw [k2.1.2, e3, k1.2]
    exact Nat.le_refl _
  · refine hcl _ (fun h1 j1 r1 k1 => ?_)
    have e1 : (setL h1 108 0 v.toInt64).1 1000 = hc.1 1000 := k1.1
    have e2 : (setL h1 108 0 v.toInt64).2.2.2 = hc.2.2.2 := by show h1.2.2.2 = _; rw [k1.2]
    have c1 := b1
    rw [← e2] at c1
    have c2 := b2
    rw [← e2] at c2
    show WP (d + 100) 214 341 _ [.int 0] (setL h1 108 0 v.toInt64) Q
    simp only [S214_341, S214_343, S214_344, S214_345, S214_347, S214_348, S214_349, S214_350, S214_351, S214_353, S214_354, S214_355, S214_356, shp_93, nI_add1, ia_2, ia_3, ia_4, ia_5, nI_cl (show i + 1 < 2147483648 by omega), nI_cl (show i + 2 < 2147483648 by omega), c1, c2, and_self, e1, kl_int]
    refine hm (setL h1 108 0 v.toInt64) (J_out j1) r1 _ (fun h2 j2 k2 t2 => ?_)
    have g : h2.2.1 108 0 = v.toInt64 := by rw [k2.2, setL_rd, if_pos ⟨rfl, rfl⟩]
    have o8 : okA 4 108 0 := okA_nI (n := 0) shp_108 (by decide) (by decide)
    simp only [kR_at, S214_359, S214_361, S214_362, S214_365, S214_367, S214_370, S214_371, S214_372, S214_374, S214_377, S214_378, S214_379, S214_380, S214_382, S214_383, S214_384, S214_387, S214_388, S214_389, shp_93, m_thrown, t2, kl_int, kl_none, kl_long, if_true, o8, cl_0, g, lg_cmp_eq]
    refine kk h2 _ _ _ ⟨j2, k2.1.1.trans e1, by rw [k2.1.2]; exact e2, ?_⟩
    have e3 : (setL h1 108 0 v.toInt64).2.2.1 = h1.2.2.1 := rfl
    rw [k2.1.2, e3, k1.2]
    omega
set_option maxRecDepth 20000 in
theorem law_5 (hJ : J hc) (hL : hc.2.2.2 = L) (hi : i + 6 ≤ L) (hL2 : L ≤ 3072) (kk : ∀ (h' : Hp) (o5 o6 o7 : Option Value), LJ hc h' → WP (d + 100) 214 1465 [some (.ref 1000), some (.ref 0), some (.ref 93), some (.ref 108), some (.int (nI i)), o5, o6, o7] [] h' Q) : WP (d + 100) 214 392 [some (.ref 1000), some (.ref 0), some (.ref 93), some (.ref 108), some (.int (nI i)), o5, o6, o7] [] hc Q := by
  have b1 := sl_ok (k := 1) hi hL2 (by omega)
  rw [← hL] at b1
  have b2 := sl_ok (k := 2) hi hL2 (by omega)
  rw [← hL] at b2
  have AW := aw_line (d := d) (x := hc.1 1000 (i + 1)) (y := hc.1 1000 (i + 2)) hJ
  simp only [S214_392, S214_393, S214_394, S214_396, S214_397, S214_398, S214_399, S214_400, S214_402, S214_403, S214_404, S214_405, nI_add1, ia_2, ia_3, ia_4, ia_5, nI_cl (show i + 1 < 2147483648 by omega), nI_cl (show i + 2 < 2147483648 by omega), b1, b2, and_self]
  refine WP_wrap (d := d + 98) (tg := 59) (o := 108) rfl rfl rfl rfl rfl rfl (by omega) ?_
  rcases AW with ⟨hcl, hm⟩ | ⟨v, hcl, hm⟩
  · refine hcl _ (fun h1 j1 r1 k1 => ?_)
    have e1 : (tick h1).1 1000 = hc.1 1000 := k1.1
    have e2 : (tick h1).2.2.2 = hc.2.2.2 := by show h1.2.2.2 = _; rw [k1.2]
    have c1 := b1
    rw [← e2] at c1
    have c2 := b2
    rw [← e2] at c2
    show WP (d + 100) 214 409 _ [.int 1] (tick h1) Q
    simp only [S214_409, S214_411, S214_412, S214_413, S214_415, S214_416, S214_417, S214_418, S214_419, S214_421, S214_422, S214_423, S214_424, shp_93, nI_add1, ia_2, ia_3, ia_4, ia_5, nI_cl (show i + 1 < 2147483648 by omega), nI_cl (show i + 2 < 2147483648 by omega), c1, c2, and_self, e1, kl_int]
    refine hm (tick h1) j1 r1 _ (fun h2 j2 k2 t2 => ?_)
    simp only [kR_at, S214_427, S214_429, S214_430, S214_433, S214_435, S214_438, S214_439, S214_440, S214_442, S214_445, S214_446, S214_447, S214_448, S214_450, S214_451, S214_452, S214_455, S214_456, S214_457, shp_93, m_thrown, t2, kl_int, kl_none, kl_long, if_true, i10, if_false]
    refine kk h2 _ _ _ ⟨j2, k2.1.1.trans e1, by rw [k2.1.2]; exact e2, ?_⟩
    have e3 : (tick h1).2.2.1 = h1.2.2.1 + 1 := rfl
    rw [k2.1.2, e3, k1.2]
    exact Nat.le_refl _
  · refine hcl _ (fun h1 j1 r1 k1 => ?_)
    have e1 : (setL h1 108 0 v.toInt64).1 1000 = hc.1 1000 := k1.1
    have e2 : (setL h1 108 0 v.toInt64).2.2.2 = hc.2.2.2 := by show h1.2.2.2 = _; rw [k1.2]
    have c1 := b1
    rw [← e2] at c1
    have c2 := b2
    rw [← e2] at c2
    show WP (d + 100) 214 409 _ [.int 0] (setL h1 108 0 v.toInt64) Q
    simp only [S214_409, S214_411, S214_412, S214_413, S214_415, S214_416, S214_417, S214_418, S214_419, S214_421, S214_422, S214_423, S214_424, shp_93, nI_add1, ia_2, ia_3, ia_4, ia_5, nI_cl (show i + 1 < 2147483648 by omega), nI_cl (show i + 2 < 2147483648 by omega), c1, c2, and_self, e1, kl_int]
    refine hm (setL h1 108 0 v.toInt64) (J_out j1) r1 _ (fun h2 j2 k2 t2 => ?_)
    have g : h2.2.1 108 0 = v.toInt64 := by rw [k2.2, setL_rd, if_pos ⟨rfl, rfl⟩]
    have o8 : okA 4 108 0 := okA_nI (n := 0) shp_108 (by decide) (by decide)
    simp only [kR_at, S214_427, S214_429, S214_430, S214_433, S214_435, S214_438, S214_439, S214_440, S214_442, S214_445, S214_446, S214_447, S214_448, S214_450, S214_451, S214_452, S214_455, S214_456, S214_457, shp_93, m_thrown, t2, kl_int, kl_none, kl_long, if_true, o8, cl_0, g, lg_cmp_eq]
    refine kk h2 _ _ _ ⟨j2, k2.1.1.trans e1, by rw [k2.1.2]; exact e2, ?_⟩
    have e3 : (setL h1 108 0 v.toInt64).2.2.1 = h1.2.2.1 := rfl
    rw [k2.1.2, e3, k1.2]
    omega
set_option maxRecDepth 20000 in
theorem law_6 (hJ : J hc) (hL : hc.2.2.2 = L) (hi : i + 6 ≤ L) (hL2 : L ≤ 3072) (kk : ∀ (h' : Hp) (o5 o6 o7 : Option Value), LJ hc h' → WP (d + 100) 214 1465 [some (.ref 1000), some (.ref 0), some (.ref 93), some (.ref 108), some (.int (nI i)), o5, o6, o7] [] h' Q) : WP (d + 100) 214 460 [some (.ref 1000), some (.ref 0), some (.ref 93), some (.ref 108), some (.int (nI i)), o5, o6, o7] [] hc Q := by
  have b1 := sl_ok (k := 1) hi hL2 (by omega)
  rw [← hL] at b1
  have b2 := sl_ok (k := 2) hi hL2 (by omega)
  rw [← hL] at b2
  have AW := aw_height (d := d) (x := hc.1 1000 (i + 1)) (y := hc.1 1000 (i + 2)) hJ
  simp only [S214_460, S214_461, S214_462, S214_464, S214_465, S214_466, S214_467, S214_468, S214_470, S214_471, S214_472, S214_473, nI_add1, ia_2, ia_3, ia_4, ia_5, nI_cl (show i + 1 < 2147483648 by omega), nI_cl (show i + 2 < 2147483648 by omega), b1, b2, and_self]
  refine WP_wrap (d := d + 98) (tg := 60) (o := 108) rfl rfl rfl rfl rfl rfl (by omega) ?_
  rcases AW with ⟨hcl, hm⟩ | ⟨v, hcl, hm⟩
  · refine hcl _ (fun h1 j1 r1 k1 => ?_)
    have e1 : (tick h1).1 1000 = hc.1 1000 := k1.1
    have e2 : (tick h1).2.2.2 = hc.2.2.2 := by show h1.2.2.2 = _; rw [k1.2]
    have c1 := b1
    rw [← e2] at c1
    have c2 := b2
    rw [← e2] at c2
    show WP (d + 100) 214 477 _ [.int 1] (tick h1) Q
    simp only [S214_477, S214_479, S214_480, S214_481, S214_483, S214_484, S214_485, S214_486, S214_487, S214_489, S214_490, S214_491, S214_492, shp_93, nI_add1, ia_2, ia_3, ia_4, ia_5, nI_cl (show i + 1 < 2147483648 by omega), nI_cl (show i + 2 < 2147483648 by omega), c1, c2, and_self, e1, kl_int]
    refine hm (tick h1) j1 r1 _ (fun h2 j2 k2 t2 => ?_)
    simp only [kR_at, S214_495, S214_497, S214_498, S214_501, S214_503, S214_506, S214_507, S214_508, S214_510, S214_513, S214_514, S214_515, S214_516, S214_518, S214_519, S214_522, S214_523, S214_524, shp_93, m_thrown, t2, kl_int, kl_none, kl_long, if_true, i10, if_false]
    refine kk h2 _ _ _ ⟨j2, k2.1.1.trans e1, by rw [k2.1.2]; exact e2, ?_⟩
    have e3 : (tick h1).2.2.1 = h1.2.2.1 + 1 := rfl
    rw [k2.1.2, e3, k1.2]
    exact Nat.le_refl _
  · refine hcl _ (fun h1 j1 r1 k1 => ?_)
    have e1 : (setL h1 108 0 v).1 1000 = hc.1 1000 := k1.1
    have e2 : (setL h1 108 0 v).2.2.2 = hc.2.2.2 := by show h1.2.2.2 = _; rw [k1.2]
    have c1 := b1
    rw [← e2] at c1
    have c2 := b2
    rw [← e2] at c2
    show WP (d + 100) 214 477 _ [.int 0] (setL h1 108 0 v) Q
    simp only [S214_477, S214_479, S214_480, S214_481, S214_483, S214_484, S214_485, S214_486, S214_487, S214_489, S214_490, S214_491, S214_492, shp_93, nI_add1, ia_2, ia_3, ia_4, ia_5, nI_cl (show i + 1 < 2147483648 by omega), nI_cl (show i + 2 < 2147483648 by omega), c1, c2, and_self, e1, kl_int]
    refine hm (setL h1 108 0 v) (J_out j1) r1 _ (fun h2 j2 k2 t2 => ?_)
    have g : h2.2.1 108 0 = v := by rw [k2.2, setL_rd, if_pos ⟨rfl, rfl⟩]
    have o8 : okA 4 108 0 := okA_nI (n := 0) shp_108 (by decide) (by decide)
    simp only [kR_at, S214_495, S214_497, S214_498, S214_501, S214_503, S214_506, S214_507, S214_508, S214_510, S214_513, S214_514, S214_515, S214_516, S214_518, S214_519, S214_522, S214_523, S214_524, shp_93, m_thrown, t2, kl_int, kl_none, kl_long, if_true, o8, cl_0, g, lg_cmp_eq]
    refine kk h2 _ _ _ ⟨j2, k2.1.1.trans e1, by rw [k2.1.2]; exact e2, ?_⟩
    have e3 : (setL h1 108 0 v).2.2.1 = h1.2.2.1 := rfl
    rw [k2.1.2, e3, k1.2]
    omega
theorem law_7 (hJ : J hc) (hL : hc.2.2.2 = L) (hi : i + 6 ≤ L) (hL2 : L ≤ 3072) (kk : ∀ (h' : Hp) (o5 o6 o7 : Option Value), LJ hc h' → WP (d + 100) 214 1465 [some (.ref 1000), some (.ref 0), some (.ref 93), some (.ref 108), some (.int (nI i)), o5, o6, o7] [] h' Q) : WP (d + 100) 214 527 [some (.ref 1000), some (.ref 0), some (.ref 93), some (.ref 108), some (.int (nI i)), o5, o6, o7] [] hc Q := by
  have b1 := sl_ok (k := 1) hi hL2 (by omega)
  rw [← hL] at b1
  obtain ⟨v, P, hP, hcl, hm⟩ := ag_rounded (d := d) (x := hc.1 1000 (i + 1)) hJ
  simp only [S214_527, S214_528, S214_529, S214_531, S214_532, S214_533, S214_534, shp_0, nI_add1, ia_2, ia_3, ia_4, ia_5, nI_cl (show i + 1 < 2147483648 by omega), b1, and_self]
  refine hcl _ (fun h1 p1 => ?_)
  have e1 := (hP h1 p1).1
  have e2 := (hP h1 p1).2
  have c1 := b1
  rw [← e2] at c1
  simp only [kR_at, S214_537, S214_538, S214_539, S214_541, S214_542, S214_543, S214_544, shp_93, nI_add1, ia_2, ia_3, ia_4, ia_5, nI_cl (show i + 1 < 2147483648 by omega), c1, and_self, e1]
  refine hm h1 p1 _ (fun h2 j2 k2 => ?_)
  simp only [kR_at, S214_547, if_true]
  exact kk h2 _ _ _ ⟨j2, k2.1, by rw [k2.2], by rw [k2.2]; omega⟩
set_option maxRecDepth 20000 in
theorem law_8 (hJ : J hc) (hL : hc.2.2.2 = L) (hi : i + 6 ≤ L) (hL2 : L ≤ 3072) (kk : ∀ (h' : Hp) (o5 o6 o7 : Option Value), LJ hc h' → WP (d + 100) 214 1465 [some (.ref 1000), some (.ref 0), some (.ref 93), some (.ref 108), some (.int (nI i)), o5, o6, o7] [] h' Q) : WP (d + 100) 214 552 [some (.ref 1000), some (.ref 0), some (.ref 93), some (.ref 108), some (.int (nI i)), o5, o6, o7] [] hc Q := by
  have b1 := sl_ok (k := 1) hi hL2 (by omega)
  rw [← hL] at b1
  have b2 := sl_ok (k := 2) hi hL2 (by omega)
  rw [← hL] at b2
  have AW := aw_off (d := d) (x := hc.1 1000 (i + 1)) (y := hc.1 1000 (i + 2)) hJ
  simp only [S214_552, S214_553, S214_554, S214_556, S214_557, S214_558, S214_559, S214_560, S214_562, S214_563, S214_564, S214_565, nI_add1, ia_2, ia_3, ia_4, ia_5, nI_cl (show i + 1 < 2147483648 by omega), nI_cl (show i + 2 < 2147483648 by omega), b1, b2, and_self]
  refine WP_wrap (d := d + 98) (tg := 62) (o := 108) rfl rfl rfl rfl rfl rfl (by omega) ?_
  rcases AW with ⟨hcl, hm⟩ | ⟨v, hcl, hm⟩
  · refine hcl _ (fun h1 j1 r1 k1 => ?_)
    have e1 : (tick h1).1 1000 = hc.1 1000 := k1.1
    have e2 : (tick h1).2.2.2 = hc.2.2.2 := by show h1.2.2.2 = _; rw [k1.2]
    have c1 := b1
    rw [← e2] at c1
    have c2 := b2
    rw [← e2] at c2
    show WP (d + 100) 214 569 _ [.int 1] (tick h1) Q
    simp only [S214_569, S214_571, S214_572, S214_573, S214_575, S214_576, S214_577, S214_578, S214_579, S214_581, S214_582, S214_583, S214_584, shp_93, nI_add1, ia_2, ia_3, ia_4, ia_5, nI_cl (show i + 1 < 2147483648 by omega), nI_cl (show i + 2 < 2147483648 by omega), c1, c2, and_self, e1, kl_int]
    refine hm (tick h1) j1 r1 _ (fun h2 j2 k2 t2 => ?_)
    simp only [kR_at, S214_587, S214_589, S214_590, S214_593, S214_595, S214_598, S214_599, S214_600, S214_602, S214_605, S214_606, S214_607, S214_608, S214_610, S214_611, S214_614, S214_615, S214_616, shp_93, m_thrown, t2, kl_int, kl_none, kl_long, if_true, i10, if_false]
    refine kk h2 _ _ _ ⟨j2, k2.1.1.trans e1, by rw [k2.1.2]; exact e2, ?_⟩
    have e3 : (tick h1).2.2.1 = h1.2.2.1 + 1 := rfl
    rw [k2.1.2, e3, k1.2]
    exact Nat.le_refl _
  · refine hcl _ (fun h1 j1 r1 k1 => ?_)
    have e1 : (setL h1 108 0 v).1 1000 = hc.1 1000 := k1.1
    have e2 : (setL h1 108 0 v).2.2.2 = hc.2.2.2 := by show h1.2.2.2 = _; rw [k1.2]
    have c1 := b1
    rw [← e2] at c1
    have c2 := b2
    rw [← e2] at c2
    show WP (d + 100) 214 569 _ [.int 0] (setL h1 108 0 v) Q
    simp only [S214_569, S214_571, S214_572, S214_573, S214_575, S214_576, S214_577, S214_578, S214_579, S214_581, S214_582, S214_583, S214_584, shp_93, nI_add1, ia_2, ia_3, ia_4, ia_5, nI_cl (show i + 1 < 2147483648 by omega), nI_cl (show i + 2 < 2147483648 by omega), c1, c2, and_self, e1, kl_int]
    refine hm (setL h1 108 0 v) (J_out j1) r1 _ (fun h2 j2 k2 t2 => ?_)
    have g : h2.2.1 108 0 = v := by rw [k2.2, setL_rd, if_pos ⟨rfl, rfl⟩]
    have o8 : okA 4 108 0 := okA_nI (n := 0) shp_108 (by decide) (by decide)
    simp only [kR_at, S214_587, S214_589, S214_590, S214_593, S214_595, S214_598, S214_599, S214_600, S214_602, S214_605, S214_606, S214_607, S214_608, S214_610, S214_611, S214_614, S214_615, S214_616, shp_93, m_thrown, t2, kl_int, kl_none, kl_long, if_true, o8, cl_0, g, lg_cmp_eq]
    refine kk h2 _ _ _ ⟨j2, k2.1.1.trans e1, by rw [k2.1.2]; exact e2, ?_⟩
    have e3 : (setL h1 108 0 v).2.2.1 = h1.2.2.1 := rfl
    rw [k2.1.2, e3, k1.2]
    omega
set_option maxRecDepth 20000 in
theorem law_9 (hJ : J hc) (hL : hc.2.2.2 = L) (hi : i + 6 ≤ L) (hL2 : L ≤ 3072) (kk : ∀ (h' : Hp) (o5 o6 o7 : Option Value), LJ hc h' → WP (d + 100) 214 1465 [some (.ref 1000), some (.ref 0), some (.ref 93), some (.ref 108), some (.int (nI i)), o5, o6, o7] [] h' Q) : WP (d + 100) 214 619 [some (.ref 1000), some (.ref 0), some (.ref 93), some (.ref 108), some (.int (nI i)), o5, o6, o7] [] hc Q := by
  have b1 := sl_ok (k := 1) hi hL2 (by omega)
  rw [← hL] at b1
  have AW := aw_sum (d := d) (y := hc.1 1000 (i + 1)) hJ
  simp only [S214_619, S214_620, S214_621, S214_623, S214_624, S214_625, S214_626, nI_add1, ia_2, ia_3, ia_4, ia_5, nI_cl (show i + 1 < 2147483648 by omega), b1, and_self]
  refine WP_wrap (d := d + 98) (tg := 63) (o := 108) rfl rfl rfl rfl rfl rfl (by omega) ?_
  rcases AW with ⟨hcl, hm⟩ | ⟨v, hcl, hm⟩
  · refine hcl _ (fun h1 j1 r1 k1 => ?_)
    have e1 : (tick h1).1 1000 = hc.1 1000 := k1.1
    have e2 : (tick h1).2.2.2 = hc.2.2.2 := by show h1.2.2.2 = _; rw [k1.2]
    have c1 := b1
    rw [← e2] at c1
    show WP (d + 100) 214 630 _ [.int 1] (tick h1) Q
    simp only [S214_630, S214_632, S214_633, S214_634, S214_636, S214_637, S214_638, S214_639, shp_93, nI_add1, ia_2, ia_3, ia_4, ia_5, nI_cl (show i + 1 < 2147483648 by omega), c1, and_self, e1, kl_int]
    refine hm (tick h1) j1 r1 _ (fun h2 j2 k2 t2 => ?_)
    simp only [kR_at, S214_642, S214_644, S214_645, S214_648, S214_650, S214_653, S214_654, S214_655, S214_657, S214_660, S214_661, S214_662, S214_663, S214_665, S214_666, S214_669, S214_670, S214_671, shp_93, m_thrown, t2, kl_int, kl_none, kl_long, if_true, i10, if_false]
    refine kk h2 _ _ _ ⟨j2, k2.1.1.trans e1, by rw [k2.1.2]; exact e2, ?_⟩
    have e3 : (tick h1).2.2.1 = h1.2.2.1 + 1 := rfl
    rw [k2.1.2, e3, k1.2]
    exact Nat.le_refl _
  · refine hcl _ (fun h1 j1 r1 k1 => ?_)
    have e1 : (setL h1 108 0 v).1 1000 = hc.1 1000 := k1.1
    have e2 : (setL h1 108 0 v).2.2.2 = hc.2.2.2 := by show h1.2.2.2 = _; rw [k1.2]
    have c1 := b1
    rw [← e2] at c1
    show WP (d + 100) 214 630 _ [.int 0] (setL h1 108 0 v) Q
    simp only [S214_630, S214_632, S214_633, S214_634, S214_636, S214_637, S214_638, S214_639, shp_93, nI_add1, ia_2, ia_3, ia_4, ia_5, nI_cl (show i + 1 < 2147483648 by omega), c1, and_self, e1, kl_int]
    refine hm (setL h1 108 0 v) (J_out j1) r1 _ (fun h2 j2 k2 t2 => ?_)
    have g : h2.2.1 108 0 = v := by rw [k2.2, setL_rd, if_pos ⟨rfl, rfl⟩]
    have o8 : okA 4 108 0 := okA_nI (n := 0) shp_108 (by decide) (by decide)
    simp only [kR_at, S214_642, S214_644, S214_645, S214_648, S214_650, S214_653, S214_654, S214_655, S214_657, S214_660, S214_661, S214_662, S214_663, S214_665, S214_666, S214_669, S214_670, S214_671, shp_93, m_thrown, t2, kl_int, kl_none, kl_long, if_true, o8, cl_0, g, lg_cmp_eq]
    refine kk h2 _ _ _ ⟨j2, k2.1.1.trans e1, by rw [k2.1.2]; exact e2, ?_⟩
    have e3 : (setL h1 108 0 v).2.2.1 = h1.2.2.1 := rfl
    rw [k2.1.2, e3, k1.2]
    omega
theorem law_10 (hJ : J hc) (hL : hc.2.2.2 = L) (hi : i + 6 ≤ L) (hL2 : L ≤ 3072) (kk : ∀ (h' : Hp) (o5 o6 o7 : Option Value), LJ hc h' → WP (d + 100) 214 1465 [some (.ref 1000), some (.ref 0), some (.ref 93), some (.ref 108), some (.int (nI i)), o5, o6, o7] [] h' Q) : WP (d + 100) 214 674 [some (.ref 1000), some (.ref 0), some (.ref 93), some (.ref 108), some (.int (nI i)), o5, o6, o7] [] hc Q := by
  obtain ⟨v, P, hP, hcl, hm⟩ := ag_rings (d := d)  hJ
  simp only [S214_674, S214_675, shp_0]
  refine hcl _ (fun h1 p1 => ?_)
  have e1 := (hP h1 p1).1
  have e2 := (hP h1 p1).2
  simp only [kR_at, S214_678, S214_679, shp_93]
  refine hm h1 p1 _ (fun h2 j2 k2 => ?_)
  simp only [kR_at, S214_682, if_true]
  exact kk h2 _ _ _ ⟨j2, k2.1, by rw [k2.2], by rw [k2.2]; omega⟩
theorem law_11 (hJ : J hc) (hL : hc.2.2.2 = L) (hi : i + 6 ≤ L) (hL2 : L ≤ 3072) (kk : ∀ (h' : Hp) (o5 o6 o7 : Option Value), LJ hc h' → WP (d + 100) 214 1465 [some (.ref 1000), some (.ref 0), some (.ref 93), some (.ref 108), some (.int (nI i)), o5, o6, o7] [] h' Q) : WP (d + 100) 214 687 [some (.ref 1000), some (.ref 0), some (.ref 93), some (.ref 108), some (.int (nI i)), o5, o6, o7] [] hc Q := by
  have b1 := sl_ok (k := 1) hi hL2 (by omega)
  rw [← hL] at b1
  obtain ⟨v, P, hP, hcl, hm⟩ := ag_ring (d := d) (x := hc.1 1000 (i + 1)) hJ
  simp only [S214_687, S214_688, S214_689, S214_691, S214_692, S214_693, S214_694, shp_0, nI_add1, ia_2, ia_3, ia_4, ia_5, nI_cl (show i + 1 < 2147483648 by omega), b1, and_self]
  refine hcl _ (fun h1 p1 => ?_)
  have e1 := (hP h1 p1).1
  have e2 := (hP h1 p1).2
  have c1 := b1
  rw [← e2] at c1
  simp only [kR_at, S214_697, S214_698, S214_699, S214_701, S214_702, S214_703, S214_704, shp_93, nI_add1, ia_2, ia_3, ia_4, ia_5, nI_cl (show i + 1 < 2147483648 by omega), c1, and_self, e1]
  refine hm h1 p1 _ (fun h2 j2 k2 => ?_)
  simp only [kR_at, S214_707, if_true]
  exact kk h2 _ _ _ ⟨j2, k2.1, by rw [k2.2], by rw [k2.2]; omega⟩
theorem law_12 (hJ : J hc) (hL : hc.2.2.2 = L) (hi : i + 6 ≤ L) (hL2 : L ≤ 3072) (kk : ∀ (h' : Hp) (o5 o6 o7 : Option Value), LJ hc h' → WP (d + 100) 214 1465 [some (.ref 1000), some (.ref 0), some (.ref 93), some (.ref 108), some (.int (nI i)), o5, o6, o7] [] h' Q) : WP (d + 100) 214 712 [some (.ref 1000), some (.ref 0), some (.ref 93), some (.ref 108), some (.int (nI i)), o5, o6, o7] [] hc Q := by
  have b1 := sl_ok (k := 1) hi hL2 (by omega)
  rw [← hL] at b1
  obtain ⟨v, P, hP, hcl, hm⟩ := ag_closes (d := d) (x := hc.1 1000 (i + 1)) hJ
  simp only [S214_712, S214_713, S214_714, S214_716, S214_717, S214_718, S214_719, shp_0, nI_add1, ia_2, ia_3, ia_4, ia_5, nI_cl (show i + 1 < 2147483648 by omega), b1, and_self]
  refine hcl _ (fun h1 p1 => ?_)
  have e1 := (hP h1 p1).1
  have e2 := (hP h1 p1).2
  have c1 := b1
  rw [← e2] at c1
  simp only [kR_at, S214_722, S214_723, S214_724, S214_726, S214_727, S214_728, S214_729, shp_93, nI_add1, ia_2, ia_3, ia_4, ia_5, nI_cl (show i + 1 < 2147483648 by omega), c1, and_self, e1]
  refine hm h1 p1 _ (fun h2 j2 k2 => ?_)
  simp only [kR_at, S214_732, if_true]
  exact kk h2 _ _ _ ⟨j2, k2.1, by rw [k2.2], by rw [k2.2]; omega⟩
theorem law_13 (hJ : J hc) (hL : hc.2.2.2 = L) (hi : i + 6 ≤ L) (hL2 : L ≤ 3072) (kk : ∀ (h' : Hp) (o5 o6 o7 : Option Value), LJ hc h' → WP (d + 100) 214 1465 [some (.ref 1000), some (.ref 0), some (.ref 93), some (.ref 108), some (.int (nI i)), o5, o6, o7] [] h' Q) : WP (d + 100) 214 737 [some (.ref 1000), some (.ref 0), some (.ref 93), some (.ref 108), some (.int (nI i)), o5, o6, o7] [] hc Q := by
  obtain ⟨v, P, hP, hcl, hm⟩ := ag_worst (d := d)  hJ
  simp only [S214_737, S214_738, shp_0]
  refine hcl _ (fun h1 p1 => ?_)
  have e1 := (hP h1 p1).1
  have e2 := (hP h1 p1).2
  simp only [kR_at, S214_741, S214_742, shp_93]
  refine hm h1 p1 _ (fun h2 j2 k2 => ?_)
  simp only [kR_at, S214_745, if_true]
  exact kk h2 _ _ _ ⟨j2, k2.1, by rw [k2.2], by rw [k2.2]; omega⟩
set_option maxRecDepth 20000 in
theorem law_14 (hJ : J hc) (hL : hc.2.2.2 = L) (hi : i + 6 ≤ L) (hL2 : L ≤ 3072) (kk : ∀ (h' : Hp) (o5 o6 o7 : Option Value), LJ hc h' → WP (d + 100) 214 1465 [some (.ref 1000), some (.ref 0), some (.ref 93), some (.ref 108), some (.int (nI i)), o5, o6, o7] [] h' Q) : WP (d + 100) 214 750 [some (.ref 1000), some (.ref 0), some (.ref 93), some (.ref 108), some (.int (nI i)), o5, o6, o7] [] hc Q := by
  have b1 := sl_ok (k := 1) hi hL2 (by omega)
  rw [← hL] at b1
  have b2 := sl_ok (k := 2) hi hL2 (by omega)
  rw [← hL] at b2
  have AW := aw_check (d := d) (x := hc.1 1000 (i + 1)) (y := hc.1 1000 (i + 2)) hJ
  simp only [S214_750, S214_751, S214_752, S214_754, S214_755, S214_756, S214_757, S214_758, S214_760, S214_761, S214_762, S214_763, nI_add1, ia_2, ia_3, ia_4, ia_5, nI_cl (show i + 1 < 2147483648 by omega), nI_cl (show i + 2 < 2147483648 by omega), b1, b2, and_self]
  refine WP_wrap (d := d + 98) (tg := 68) (o := 108) rfl rfl rfl rfl rfl rfl (by omega) ?_
  rcases AW with ⟨hcl, hm⟩ | ⟨v, hcl, hm⟩
  · refine hcl _ (fun h1 j1 r1 k1 => ?_)
    have e1 : (tick h1).1 1000 = hc.1 1000 := k1.1
    have e2 : (tick h1).2.2.2 = hc.2.2.2 := by show h1.2.2.2 = _; rw [k1.2]
    have c1 := b1
    rw [← e2] at c1
    have c2 := b2
    rw [← e2] at c2
    show WP (d + 100) 214 767 _ [.int 1] (tick h1) Q
    simp only [S214_767, S214_769, S214_770, S214_771, S214_773, S214_774, S214_775, S214_776, S214_777, S214_779, S214_780, S214_781, S214_782, shp_93, nI_add1, ia_2, ia_3, ia_4, ia_5, nI_cl (show i + 1 < 2147483648 by omega), nI_cl (show i + 2 < 2147483648 by omega), c1, c2, and_self, e1, kl_int]
    refine hm (tick h1) j1 r1 _ (fun h2 j2 k2 t2 => ?_)
    simp only [kR_at, S214_785, S214_787, S214_788, S214_791, S214_793, S214_796, S214_797, S214_798, S214_800, S214_803, S214_804, S214_805, S214_806, S214_808, S214_809, S214_812, S214_813, S214_814, shp_93, m_thrown, t2, kl_int, kl_none, kl_long, if_true, i10, if_false]
    refine kk h2 _ _ _ ⟨j2, k2.1.1.trans e1, by rw [k2.1.2]; exact e2, ?_⟩
    have e3 : (tick h1).2.2.1 = h1.2.2.1 + 1 := rfl
    rw [k2.1.2, e3, k1.2]
    exact Nat.le_refl _
  · refine hcl _ (fun h1 j1 r1 k1 => ?_)
    have e1 : (setL h1 108 0 v).1 1000 = hc.1 1000 := k1.1
    have e2 : (setL h1 108 0 v).2.2.2 = hc.2.2.2 := by show h1.2.2.2 = _; rw [k1.2]
    have c1 := b1
    rw [← e2] at c1
    have c2 := b2
    rw [← e2] at c2
    show WP (d + 100) 214 767 _ [.int 0] (setL h1 108 0 v) Q
    simp only [S214_767, S214_769, S214_770, S214_771, S214_773, S214_774, S214_775, S214_776, S214_777, S214_779, S214_780, S214_781, S214_782, shp_93, nI_add1, ia_2, ia_3, ia_4, ia_5, nI_cl (show i + 1 < 2147483648 by omega), nI_cl (show i + 2 < 2147483648 by omega), c1, c2, and_self, e1, kl_int]
    refine hm (setL h1 108 0 v) (J_out j1) r1 _ (fun h2 j2 k2 t2 => ?_)
    have g : h2.2.1 108 0 = v := by rw [k2.2, setL_rd, if_pos ⟨rfl, rfl⟩]
    have o8 : okA 4 108 0 := okA_nI (n := 0) shp_108 (by decide) (by decide)
    simp only [kR_at, S214_785, S214_787, S214_788, S214_791, S214_793, S214_796, S214_797, S214_798, S214_800, S214_803, S214_804, S214_805, S214_806, S214_808, S214_809, S214_812, S214_813, S214_814, shp_93, m_thrown, t2, kl_int, kl_none, kl_long, if_true, o8, cl_0, g, lg_cmp_eq]
    refine kk h2 _ _ _ ⟨j2, k2.1.1.trans e1, by rw [k2.1.2]; exact e2, ?_⟩
    have e3 : (setL h1 108 0 v).2.2.1 = h1.2.2.1 := rfl
    rw [k2.1.2, e3, k1.2]
    omega
set_option maxRecDepth 20000 in
theorem law_15 (hJ : J hc) (hL : hc.2.2.2 = L) (hi : i + 6 ≤ L) (hL2 : L ≤ 3072) (kk : ∀ (h' : Hp) (o5 o6 o7 : Option Value), LJ hc h' → WP (d + 100) 214 1465 [some (.ref 1000), some (.ref 0), some (.ref 93), some (.ref 108), some (.int (nI i)), o5, o6, o7] [] h' Q) : WP (d + 100) 214 817 [some (.ref 1000), some (.ref 0), some (.ref 93), some (.ref 108), some (.int (nI i)), o5, o6, o7] [] hc Q := by
  have b1 := sl_ok (k := 1) hi hL2 (by omega)
  rw [← hL] at b1
  have b2 := sl_ok (k := 2) hi hL2 (by omega)
  rw [← hL] at b2
  have AW := aw_fall (d := d) (x := hc.1 1000 (i + 1)) (y := hc.1 1000 (i + 2)) hJ
  simp only [S214_817, S214_818, S214_819, S214_821, S214_822, S214_823, S214_824, S214_825, S214_827, S214_828, S214_829, S214_830, nI_add1, ia_2, ia_3, ia_4, ia_5, nI_cl (show i + 1 < 2147483648 by omega), nI_cl (show i + 2 < 2147483648 by omega), b1, b2, and_self]
  refine WP_wrap (d := d + 98) (tg := 69) (o := 108) rfl rfl rfl rfl rfl rfl (by omega) ?_
  rcases AW with ⟨hcl, hm⟩ | ⟨v, hcl, hm⟩
  · refine hcl _ (fun h1 j1 r1 k1 => ?_)
    have e1 : (tick h1).1 1000 = hc.1 1000 := k1.1
    have e2 : (tick h1).2.2.2 = hc.2.2.2 := by show h1.2.2.2 = _; rw [k1.2]
    have c1 := b1
    rw [← e2] at c1
    have c2 := b2
    rw [← e2] at c2
    show WP (d + 100) 214 834 _ [.int 1] (tick h1) Q
    simp only [S214_834, S214_836, S214_837, S214_838, S214_840, S214_841, S214_842, S214_843, S214_844, S214_846, S214_847, S214_848, S214_849, shp_93, nI_add1, ia_2, ia_3, ia_4, ia_5, nI_cl (show i + 1 < 2147483648 by omega), nI_cl (show i + 2 < 2147483648 by omega), c1, c2, and_self, e1, kl_int]
    refine hm (tick h1) j1 r1 _ (fun h2 j2 k2 t2 => ?_)
    simp only [kR_at, S214_852, S214_854, S214_855, S214_858, S214_860, S214_863, S214_864, S214_865, S214_867, S214_870, S214_871, S214_872, S214_873, S214_875, S214_876, S214_879, S214_880, S214_881, shp_93, m_thrown, t2, kl_int, kl_none, kl_long, if_true, i10, if_false]
    refine kk h2 _ _ _ ⟨j2, k2.1.1.trans e1, by rw [k2.1.2]; exact e2, ?_⟩
    have e3 : (tick h1).2.2.1 = h1.2.2.1 + 1 := rfl
    rw [k2.1.2, e3, k1.2]
    exact Nat.le_refl _
  · refine hcl _ (fun h1 j1 r1 k1 => ?_)
    have e1 : (setL h1 108 0 v).1 1000 = hc.1 1000 := k1.1
    have e2 : (setL h1 108 0 v).2.2.2 = hc.2.2.2 := by show h1.2.2.2 = _; rw [k1.2]
    have c1 := b1
    rw [← e2] at c1
    have c2 := b2
    rw [← e2] at c2
    show WP (d + 100) 214 834 _ [.int 0] (setL h1 108 0 v) Q
    simp only [S214_834, S214_836, S214_837, S214_838, S214_840, S214_841, S214_842, S214_843, S214_844, S214_846, S214_847, S214_848, S214_849, shp_93, nI_add1, ia_2, ia_3, ia_4, ia_5, nI_cl (show i + 1 < 2147483648 by omega), nI_cl (show i + 2 < 2147483648 by omega), c1, c2, and_self, e1, kl_int]
    refine hm (setL h1 108 0 v) (J_out j1) r1 _ (fun h2 j2 k2 t2 => ?_)
    have g : h2.2.1 108 0 = v := by rw [k2.2, setL_rd, if_pos ⟨rfl, rfl⟩]
    have o8 : okA 4 108 0 := okA_nI (n := 0) shp_108 (by decide) (by decide)
    simp only [kR_at, S214_852, S214_854, S214_855, S214_858, S214_860, S214_863, S214_864, S214_865, S214_867, S214_870, S214_871, S214_872, S214_873, S214_875, S214_876, S214_879, S214_880, S214_881, shp_93, m_thrown, t2, kl_int, kl_none, kl_long, if_true, o8, cl_0, g, lg_cmp_eq]
    refine kk h2 _ _ _ ⟨j2, k2.1.1.trans e1, by rw [k2.1.2]; exact e2, ?_⟩
    have e3 : (setL h1 108 0 v).2.2.1 = h1.2.2.1 := rfl
    rw [k2.1.2, e3, k1.2]
    omega
set_option maxRecDepth 20000 in
theorem law_16 (hJ : J hc) (hL : hc.2.2.2 = L) (hi : i + 6 ≤ L) (hL2 : L ≤ 3072) (kk : ∀ (h' : Hp) (o5 o6 o7 : Option Value), LJ hc h' → WP (d + 100) 214 1465 [some (.ref 1000), some (.ref 0), some (.ref 93), some (.ref 108), some (.int (nI i)), o5, o6, o7] [] h' Q) : WP (d + 100) 214 884 [some (.ref 1000), some (.ref 0), some (.ref 93), some (.ref 108), some (.int (nI i)), o5, o6, o7] [] hc Q := by
  have b1 := sl_ok (k := 1) hi hL2 (by omega)
  rw [← hL] at b1
  have b2 := sl_ok (k := 2) hi hL2 (by omega)
  rw [← hL] at b2
  have AW := aw_wanted (d := d) (x := hc.1 1000 (i + 1)) (y := hc.1 1000 (i + 2)) hJ
  simp only [S214_884, S214_885, S214_886, S214_888, S214_889, S214_890, S214_891, S214_892, S214_894, S214_895, S214_896, S214_897, nI_add1, ia_2, ia_3, ia_4, ia_5, nI_cl (show i + 1 < 2147483648 by omega), nI_cl (show i + 2 < 2147483648 by omega), b1, b2, and_self]
  refine WP_wrap (d := d + 98) (tg := 70) (o := 108) rfl rfl rfl rfl rfl rfl (by omega) ?_
  rcases AW with ⟨hcl, hm⟩ | ⟨v, hcl, hm⟩
  · refine hcl _ (fun h1 j1 r1 k1 => ?_)
    have e1 : (tick h1).1 1000 = hc.1 1000 := k1.1
    have e2 : (tick h1).2.2.2 = hc.2.2.2 := by show h1.2.2.2 = _; rw [k1.2]
    have c1 := b1
    rw [← e2] at c1
    have c2 := b2
    rw [← e2] at c2
    show WP (d + 100) 214 901 _ [.int 1] (tick h1) Q
    simp only [S214_901, S214_903, S214_904, S214_905, S214_907, S214_908, S214_909, S214_910, S214_911, S214_913, S214_914, S214_915, S214_916, shp_93, nI_add1, ia_2, ia_3, ia_4, ia_5, nI_cl (show i + 1 < 2147483648 by omega), nI_cl (show i + 2 < 2147483648 by omega), c1, c2, and_self, e1, kl_int]
    refine hm (tick h1) j1 r1 _ (fun h2 j2 k2 t2 => ?_)
    simp only [kR_at, S214_919, S214_921, S214_922, S214_925, S214_927, S214_930, S214_931, S214_932, S214_934, S214_937, S214_938, S214_939, S214_940, S214_942, S214_943, S214_946, S214_947, S214_948, shp_93, m_thrown, t2, kl_int, kl_none, kl_long, if_true, i10, if_false]
    refine kk h2 _ _ _ ⟨j2, k2.1.1.trans e1, by rw [k2.1.2]; exact e2, ?_⟩
    have e3 : (tick h1).2.2.1 = h1.2.2.1 + 1 := rfl
    rw [k2.1.2, e3, k1.2]
    exact Nat.le_refl _
  · refine hcl _ (fun h1 j1 r1 k1 => ?_)
    have e1 : (setL h1 108 0 v).1 1000 = hc.1 1000 := k1.1
    have e2 : (setL h1 108 0 v).2.2.2 = hc.2.2.2 := by show h1.2.2.2 = _; rw [k1.2]
    have c1 := b1
    rw [← e2] at c1
    have c2 := b2
    rw [← e2] at c2
    show WP (d + 100) 214 901 _ [.int 0] (setL h1 108 0 v) Q
    simp only [S214_901, S214_903, S214_904, S214_905, S214_907, S214_908, S214_909, S214_910, S214_911, S214_913, S214_914, S214_915, S214_916, shp_93, nI_add1, ia_2, ia_3, ia_4, ia_5, nI_cl (show i + 1 < 2147483648 by omega), nI_cl (show i + 2 < 2147483648 by omega), c1, c2, and_self, e1, kl_int]
    refine hm (setL h1 108 0 v) (J_out j1) r1 _ (fun h2 j2 k2 t2 => ?_)
    have g : h2.2.1 108 0 = v := by rw [k2.2, setL_rd, if_pos ⟨rfl, rfl⟩]
    have o8 : okA 4 108 0 := okA_nI (n := 0) shp_108 (by decide) (by decide)
    simp only [kR_at, S214_919, S214_921, S214_922, S214_925, S214_927, S214_930, S214_931, S214_932, S214_934, S214_937, S214_938, S214_939, S214_940, S214_942, S214_943, S214_946, S214_947, S214_948, shp_93, m_thrown, t2, kl_int, kl_none, kl_long, if_true, o8, cl_0, g, lg_cmp_eq]
    refine kk h2 _ _ _ ⟨j2, k2.1.1.trans e1, by rw [k2.1.2]; exact e2, ?_⟩
    have e3 : (setL h1 108 0 v).2.2.1 = h1.2.2.1 := rfl
    rw [k2.1.2, e3, k1.2]
    omega
theorem law_17 (hJ : J hc) (hL : hc.2.2.2 = L) (hi : i + 6 ≤ L) (hL2 : L ≤ 3072) (kk : ∀ (h' : Hp) (o5 o6 o7 : Option Value), LJ hc h' → WP (d + 100) 214 1465 [some (.ref 1000), some (.ref 0), some (.ref 93), some (.ref 108), some (.int (nI i)), o5, o6, o7] [] h' Q) : WP (d + 100) 214 951 [some (.ref 1000), some (.ref 0), some (.ref 93), some (.ref 108), some (.int (nI i)), o5, o6, o7] [] hc Q := by
  obtain ⟨v, P, hP, hcl, hm⟩ := ag_blunder (d := d)  hJ
  simp only [S214_951, S214_952, shp_0]
  refine hcl _ (fun h1 p1 => ?_)
  have e1 := (hP h1 p1).1
  have e2 := (hP h1 p1).2
  simp only [kR_at, S214_955, S214_956, shp_93]
  refine hm h1 p1 _ (fun h2 j2 k2 => ?_)
  simp only [kR_at, S214_959, if_true]
  exact kk h2 _ _ _ ⟨j2, k2.1, by rw [k2.2], by rw [k2.2]; omega⟩
set_option maxRecDepth 20000 in
theorem law_18 (hJ : J hc) (hL : hc.2.2.2 = L) (hi : i + 6 ≤ L) (hL2 : L ≤ 3072) (kk : ∀ (h' : Hp) (o5 o6 o7 : Option Value), LJ hc h' → WP (d + 100) 214 1465 [some (.ref 1000), some (.ref 0), some (.ref 93), some (.ref 108), some (.int (nI i)), o5, o6, o7] [] h' Q) : WP (d + 100) 214 964 [some (.ref 1000), some (.ref 0), some (.ref 93), some (.ref 108), some (.int (nI i)), o5, o6, o7] [] hc Q := by
  have b1 := sl_ok (k := 1) hi hL2 (by omega)
  rw [← hL] at b1
  have b2 := sl_ok (k := 2) hi hL2 (by omega)
  rw [← hL] at b2
  have b3 := sl_ok (k := 3) hi hL2 (by omega)
  rw [← hL] at b3
  have AW := aw_doubt (d := d) (x := hc.1 1000 (i + 1)) (z := hc.1 1000 (i + 2)) (y := hc.1 1000 (i + 3)) hJ
  simp only [S214_964, S214_965, S214_966, S214_968, S214_969, S214_970, S214_971, S214_972, S214_974, S214_975, S214_976, S214_977, S214_978, S214_980, S214_981, S214_982, S214_983, nI_add1, ia_2, ia_3, ia_4, ia_5, nI_cl (show i + 1 < 2147483648 by omega), nI_cl (show i + 2 < 2147483648 by omega), nI_cl (show i + 3 < 2147483648 by omega), b1, b2, b3, and_self]
  refine WP_wrap (d := d + 98) (tg := 72) (o := 108) rfl rfl rfl rfl rfl rfl (by omega) ?_
  rcases AW with ⟨hcl, hm⟩ | ⟨v, hcl, hm⟩
  · refine hcl _ (fun h1 j1 r1 k1 => ?_)
    have e1 : (tick h1).1 1000 = hc.1 1000 := k1.1
    have e2 : (tick h1).2.2.2 = hc.2.2.2 := by show h1.2.2.2 = _; rw [k1.2]
    have c1 := b1
    rw [← e2] at c1
    have c2 := b2
    rw [← e2] at c2
    have c3 := b3
    rw [← e2] at c3
    show WP (d + 100) 214 987 _ [.int 1] (tick h1) Q
    simp only [S214_987, S214_989, S214_990, S214_991, S214_993, S214_994, S214_995, S214_996, S214_997, S214_999, S214_1000, S214_1001, S214_1002, S214_1003, S214_1005, S214_1006, S214_1007, S214_1008, shp_93, nI_add1, ia_2, ia_3, ia_4, ia_5, nI_cl (show i + 1 < 2147483648 by omega), nI_cl (show i + 2 < 2147483648 by omega), nI_cl (show i + 3 < 2147483648 by omega), c1, c2, c3, and_self, e1, kl_int]
    refine hm (tick h1) j1 r1 _ (fun h2 j2 k2 t2 => ?_)
    simp only [kR_at, S214_1011, S214_1013, S214_1014, S214_1017, S214_1019, S214_1022, S214_1023, S214_1024, S214_1026, S214_1029, S214_1030, S214_1031, S214_1032, S214_1034, S214_1035, S214_1038, S214_1039, S214_1040, shp_93, m_thrown, t2, kl_int, kl_none, kl_long, if_true, i10, if_false]
    refine kk h2 _ _ _ ⟨j2, k2.1.1.trans e1, by rw [k2.1.2]; exact e2, ?_⟩
    have e3 : (tick h1).2.2.1 = h1.2.2.1 + 1 := rfl
    rw [k2.1.2, e3, k1.2]
    exact Nat.le_refl _
  · refine hcl _ (fun h1 j1 r1 k1 => ?_)
    have e1 : (setL h1 108 0 v).1 1000 = hc.1 1000 := k1.1
    have e2 : (setL h1 108 0 v).2.2.2 = hc.2.2.2 := by show h1.2.2.2 = _; rw [k1.2]
    have c1 := b1
    rw [← e2] at c1
    have c2 := b2
    rw [← e2] at c2
    have c3 := b3
    rw [← e2] at c3
    show WP (d + 100) 214 987 _ [.int 0] (setL h1 108 0 v) Q
    simp only [S214_987, S214_989, S214_990, S214_991, S214_993, S214_994, S214_995, S214_996, S214_997, S214_999, S214_1000, S214_1001, S214_1002, S214_1003, S214_1005, S214_1006, S214_1007, S214_1008, shp_93, nI_add1, ia_2, ia_3, ia_4, ia_5, nI_cl (show i + 1 < 2147483648 by omega), nI_cl (show i + 2 < 2147483648 by omega), nI_cl (show i + 3 < 2147483648 by omega), c1, c2, c3, and_self, e1, kl_int]
    refine hm (setL h1 108 0 v) (J_out j1) r1 _ (fun h2 j2 k2 t2 => ?_)
    have g : h2.2.1 108 0 = v := by rw [k2.2, setL_rd, if_pos ⟨rfl, rfl⟩]
    have o8 : okA 4 108 0 := okA_nI (n := 0) shp_108 (by decide) (by decide)
    simp only [kR_at, S214_1011, S214_1013, S214_1014, S214_1017, S214_1019, S214_1022, S214_1023, S214_1024, S214_1026, S214_1029, S214_1030, S214_1031, S214_1032, S214_1034, S214_1035, S214_1038, S214_1039, S214_1040, shp_93, m_thrown, t2, kl_int, kl_none, kl_long, if_true, o8, cl_0, g, lg_cmp_eq]
    refine kk h2 _ _ _ ⟨j2, k2.1.1.trans e1, by rw [k2.1.2]; exact e2, ?_⟩
    have e3 : (setL h1 108 0 v).2.2.1 = h1.2.2.1 := rfl
    rw [k2.1.2, e3, k1.2]
    omega
theorem law_19 (hJ : J hc) (hL : hc.2.2.2 = L) (hi : i + 6 ≤ L) (hL2 : L ≤ 3072) (kk : ∀ (h' : Hp) (o5 o6 o7 : Option Value), LJ hc h' → WP (d + 100) 214 1465 [some (.ref 1000), some (.ref 0), some (.ref 93), some (.ref 108), some (.int (nI i)), o5, o6, o7] [] h' Q) : WP (d + 100) 214 1043 [some (.ref 1000), some (.ref 0), some (.ref 93), some (.ref 108), some (.int (nI i)), o5, o6, o7] [] hc Q := by
  have b1 := sl_ok (k := 1) hi hL2 (by omega)
  rw [← hL] at b1
  obtain ⟨v, P, hP, hcl, hm⟩ := ag_next (d := d) (x := hc.1 1000 (i + 1)) hJ
  simp only [S214_1043, S214_1044, S214_1045, S214_1047, S214_1048, S214_1049, S214_1050, shp_0, nI_add1, ia_2, ia_3, ia_4, ia_5, nI_cl (show i + 1 < 2147483648 by omega), b1, and_self]
  refine hcl _ (fun h1 p1 => ?_)
  have e1 := (hP h1 p1).1
  have e2 := (hP h1 p1).2
  have c1 := b1
  rw [← e2] at c1
  simp only [kR_at, S214_1053, S214_1054, S214_1055, S214_1057, S214_1058, S214_1059, S214_1060, shp_93, nI_add1, ia_2, ia_3, ia_4, ia_5, nI_cl (show i + 1 < 2147483648 by omega), c1, and_self, e1]
  refine hm h1 p1 _ (fun h2 j2 k2 => ?_)
  simp only [kR_at, S214_1063, if_true]
  exact kk h2 _ _ _ ⟨j2, k2.1, by rw [k2.2], by rw [k2.2]; omega⟩
theorem law_20 (hJ : J hc) (hL : hc.2.2.2 = L) (hi : i + 6 ≤ L) (hL2 : L ≤ 3072) (kk : ∀ (h' : Hp) (o5 o6 o7 : Option Value), LJ hc h' → WP (d + 100) 214 1465 [some (.ref 1000), some (.ref 0), some (.ref 93), some (.ref 108), some (.int (nI i)), o5, o6, o7] [] h' Q) : WP (d + 100) 214 1068 [some (.ref 1000), some (.ref 0), some (.ref 93), some (.ref 108), some (.int (nI i)), o5, o6, o7] [] hc Q := by
  have b1 := sl_ok (k := 1) hi hL2 (by omega)
  rw [← hL] at b1
  obtain ⟨v, P, hP, hcl, hm⟩ := ag_strike (d := d) (x := hc.1 1000 (i + 1)) hJ
  simp only [S214_1068, S214_1069, S214_1070, S214_1072, S214_1073, S214_1074, S214_1075, shp_0, nI_add1, ia_2, ia_3, ia_4, ia_5, nI_cl (show i + 1 < 2147483648 by omega), b1, and_self]
  refine hcl _ (fun h1 p1 => ?_)
  have e1 := (hP h1 p1).1
  have e2 := (hP h1 p1).2
  have c1 := b1
  rw [← e2] at c1
  simp only [kR_at, S214_1078, S214_1079, S214_1080, S214_1082, S214_1083, S214_1084, S214_1085, shp_93, nI_add1, ia_2, ia_3, ia_4, ia_5, nI_cl (show i + 1 < 2147483648 by omega), c1, and_self, e1]
  refine hm h1 p1 _ (fun h2 j2 k2 => ?_)
  simp only [kR_at, S214_1088, if_true]
  exact kk h2 _ _ _ ⟨j2, k2.1, by rw [k2.2], by rw [k2.2]; omega⟩
theorem law_21 (hJ : J hc) (hL : hc.2.2.2 = L) (hi : i + 6 ≤ L) (hL2 : L ≤ 3072) (kk : ∀ (h' : Hp) (o5 o6 o7 : Option Value), LJ hc h' → WP (d + 100) 214 1465 [some (.ref 1000), some (.ref 0), some (.ref 93), some (.ref 108), some (.int (nI i)), o5, o6, o7] [] h' Q) : WP (d + 100) 214 1093 [some (.ref 1000), some (.ref 0), some (.ref 93), some (.ref 108), some (.int (nI i)), o5, o6, o7] [] hc Q := by
  have b1 := sl_ok (k := 1) hi hL2 (by omega)
  rw [← hL] at b1
  obtain ⟨v, P, hP, hcl, hm⟩ := ag_mend (d := d) (x := hc.1 1000 (i + 1)) hJ
  simp only [S214_1093, S214_1094, S214_1095, S214_1097, S214_1098, S214_1099, S214_1100, shp_0, nI_add1, ia_2, ia_3, ia_4, ia_5, nI_cl (show i + 1 < 2147483648 by omega), b1, and_self]
  refine hcl _ (fun h1 p1 => ?_)
  have e1 := (hP h1 p1).1
  have e2 := (hP h1 p1).2
  have c1 := b1
  rw [← e2] at c1
  simp only [kR_at, S214_1103, S214_1104, S214_1105, S214_1107, S214_1108, S214_1109, S214_1110, shp_93, nI_add1, ia_2, ia_3, ia_4, ia_5, nI_cl (show i + 1 < 2147483648 by omega), c1, and_self, e1]
  refine hm h1 p1 _ (fun h2 j2 k2 => ?_)
  simp only [kR_at, S214_1113, if_true]
  exact kk h2 _ _ _ ⟨j2, k2.1, by rw [k2.2], by rw [k2.2]; omega⟩
theorem law_22 (hJ : J hc) (hL : hc.2.2.2 = L) (hi : i + 6 ≤ L) (hL2 : L ≤ 3072) (kk : ∀ (h' : Hp) (o5 o6 o7 : Option Value), LJ hc h' → WP (d + 100) 214 1465 [some (.ref 1000), some (.ref 0), some (.ref 93), some (.ref 108), some (.int (nI i)), o5, o6, o7] [] h' Q) : WP (d + 100) 214 1118 [some (.ref 1000), some (.ref 0), some (.ref 93), some (.ref 108), some (.int (nI i)), o5, o6, o7] [] hc Q := by
  have b1 := sl_ok (k := 1) hi hL2 (by omega)
  rw [← hL] at b1
  obtain ⟨v, P, hP, hcl, hm⟩ := ag_snoop (d := d) (x := hc.1 1000 (i + 1)) hJ
  simp only [S214_1118, S214_1119, S214_1120, S214_1122, S214_1123, S214_1124, S214_1125, shp_0, nI_add1, ia_2, ia_3, ia_4, ia_5, nI_cl (show i + 1 < 2147483648 by omega), b1, and_self]
  refine hcl _ (fun h1 p1 => ?_)
  have e1 := (hP h1 p1).1
  have e2 := (hP h1 p1).2
  have c1 := b1
  rw [← e2] at c1
  simp only [kR_at, S214_1128, S214_1129, S214_1130, S214_1132, S214_1133, S214_1134, S214_1135, shp_93, nI_add1, ia_2, ia_3, ia_4, ia_5, nI_cl (show i + 1 < 2147483648 by omega), c1, and_self, e1]
  refine hm h1 p1 _ (fun h2 j2 k2 => ?_)
  simp only [kR_at, S214_1138, if_true]
  exact kk h2 _ _ _ ⟨j2, k2.1, by rw [k2.2], by rw [k2.2]; omega⟩
theorem law_23 (hJ : J hc) (hL : hc.2.2.2 = L) (hi : i + 6 ≤ L) (hL2 : L ≤ 3072) (kk : ∀ (h' : Hp) (o5 o6 o7 : Option Value), LJ hc h' → WP (d + 100) 214 1465 [some (.ref 1000), some (.ref 0), some (.ref 93), some (.ref 108), some (.int (nI i)), o5, o6, o7] [] h' Q) : WP (d + 100) 214 1143 [some (.ref 1000), some (.ref 0), some (.ref 93), some (.ref 108), some (.int (nI i)), o5, o6, o7] [] hc Q := by
  have b1 := sl_ok (k := 1) hi hL2 (by omega)
  rw [← hL] at b1
  have b2 := sl_ok (k := 2) hi hL2 (by omega)
  rw [← hL] at b2
  obtain ⟨v, P, hP, hcl, hm⟩ := ag_read (d := d) (x := hc.1 1000 (i + 1)) (y := hc.1 1000 (i + 2)) hJ
  simp only [S214_1143, S214_1144, S214_1145, S214_1147, S214_1148, S214_1149, S214_1150, S214_1151, S214_1153, S214_1154, S214_1155, S214_1156, shp_0, nI_add1, ia_2, ia_3, ia_4, ia_5, nI_cl (show i + 1 < 2147483648 by omega), nI_cl (show i + 2 < 2147483648 by omega), b1, b2, and_self]
  refine hcl _ (fun h1 p1 => ?_)
  have e1 := (hP h1 p1).1
  have e2 := (hP h1 p1).2
  have c1 := b1
  rw [← e2] at c1
  have c2 := b2
  rw [← e2] at c2
  simp only [kR_at, S214_1159, S214_1160, S214_1161, S214_1163, S214_1164, S214_1165, S214_1166, S214_1167, S214_1169, S214_1170, S214_1171, S214_1172, shp_93, nI_add1, ia_2, ia_3, ia_4, ia_5, nI_cl (show i + 1 < 2147483648 by omega), nI_cl (show i + 2 < 2147483648 by omega), c1, c2, and_self, e1]
  refine hm h1 p1 _ (fun h2 j2 k2 => ?_)
  simp only [kR_at, S214_1175, if_true]
  exact kk h2 _ _ _ ⟨j2, k2.1, by rw [k2.2], by rw [k2.2]; omega⟩
theorem law_24 (hJ : J hc) (hL : hc.2.2.2 = L) (hi : i + 6 ≤ L) (hL2 : L ≤ 3072) (kk : ∀ (h' : Hp) (o5 o6 o7 : Option Value), LJ hc h' → WP (d + 100) 214 1465 [some (.ref 1000), some (.ref 0), some (.ref 93), some (.ref 108), some (.int (nI i)), o5, o6, o7] [] h' Q) : WP (d + 100) 214 1180 [some (.ref 1000), some (.ref 0), some (.ref 93), some (.ref 108), some (.int (nI i)), o5, o6, o7] [] hc Q := by
  have b1 := sl_ok (k := 1) hi hL2 (by omega)
  rw [← hL] at b1
  have b2 := sl_ok (k := 2) hi hL2 (by omega)
  rw [← hL] at b2
  obtain ⟨v, P, hP, hcl, hm⟩ := ag_weigh (d := d) (x := hc.1 1000 (i + 1)) (y := hc.1 1000 (i + 2)) hJ
  simp only [S214_1180, S214_1181, S214_1182, S214_1184, S214_1185, S214_1186, S214_1187, S214_1188, S214_1190, S214_1191, S214_1192, S214_1193, shp_0, nI_add1, ia_2, ia_3, ia_4, ia_5, nI_cl (show i + 1 < 2147483648 by omega), nI_cl (show i + 2 < 2147483648 by omega), b1, b2, and_self]
  refine hcl _ (fun h1 p1 => ?_)
  have e1 := (hP h1 p1).1
  have e2 := (hP h1 p1).2
  have c1 := b1
  rw [← e2] at c1
  have c2 := b2
  rw [← e2] at c2
  simp only [kR_at, S214_1196, S214_1197, S214_1198, S214_1200, S214_1201, S214_1202, S214_1203, S214_1204, S214_1206, S214_1207, S214_1208, S214_1209, shp_93, nI_add1, ia_2, ia_3, ia_4, ia_5, nI_cl (show i + 1 < 2147483648 by omega), nI_cl (show i + 2 < 2147483648 by omega), c1, c2, and_self, e1]
  refine hm h1 p1 _ (fun h2 j2 k2 => ?_)
  simp only [kR_at, S214_1212, if_true]
  exact kk h2 _ _ _ ⟨j2, k2.1, by rw [k2.2], by rw [k2.2]; omega⟩
theorem law_25 (hJ : J hc) (hL : hc.2.2.2 = L) (hi : i + 6 ≤ L) (hL2 : L ≤ 3072) (kk : ∀ (h' : Hp) (o5 o6 o7 : Option Value), LJ hc h' → WP (d + 100) 214 1465 [some (.ref 1000), some (.ref 0), some (.ref 93), some (.ref 108), some (.int (nI i)), o5, o6, o7] [] h' Q) : WP (d + 100) 214 1217 [some (.ref 1000), some (.ref 0), some (.ref 93), some (.ref 108), some (.int (nI i)), o5, o6, o7] [] hc Q := by
  have b1 := sl_ok (k := 1) hi hL2 (by omega)
  rw [← hL] at b1
  have b2 := sl_ok (k := 2) hi hL2 (by omega)
  rw [← hL] at b2
  have b3 := sl_ok (k := 3) hi hL2 (by omega)
  rw [← hL] at b3
  have b4 := sl_ok (k := 4) hi hL2 (by omega)
  rw [← hL] at b4
  obtain ⟨v, P, hP, hcl, hm⟩ := ag_add (d := d) (x := hc.1 1000 (i + 1)) (y := hc.1 1000 (i + 2)) (z := hc.1 1000 (i + 3)) (w := hc.1 1000 (i + 4)) hJ
  simp only [S214_1217, S214_1218, S214_1219, S214_1221, S214_1222, S214_1223, S214_1224, S214_1225, S214_1227, S214_1228, S214_1229, S214_1230, S214_1231, S214_1233, S214_1234, S214_1235, S214_1236, S214_1237, S214_1239, S214_1240, S214_1241, S214_1242, shp_0, nI_add1, ia_2, ia_3, ia_4, ia_5, nI_cl (show i + 1 < 2147483648 by omega), nI_cl (show i + 2 < 2147483648 by omega), nI_cl (show i + 3 < 2147483648 by omega), nI_cl (show i + 4 < 2147483648 by omega), b1, b2, b3, b4, and_self]
  refine hcl _ (fun h1 p1 => ?_)
  have e1 := (hP h1 p1).1
  have e2 := (hP h1 p1).2
  have c1 := b1
  rw [← e2] at c1
  have c2 := b2
  rw [← e2] at c2
  have c3 := b3
  rw [← e2] at c3
  have c4 := b4
  rw [← e2] at c4
  simp only [kR_at, S214_1245, S214_1246, S214_1247, S214_1249, S214_1250, S214_1251, S214_1252, S214_1253, S214_1255, S214_1256, S214_1257, S214_1258, S214_1259, S214_1261, S214_1262, S214_1263, S214_1264, S214_1265, S214_1267, S214_1268, S214_1269, S214_1270, shp_93, nI_add1, ia_2, ia_3, ia_4, ia_5, nI_cl (show i + 1 < 2147483648 by omega), nI_cl (show i + 2 < 2147483648 by omega), nI_cl (show i + 3 < 2147483648 by omega), nI_cl (show i + 4 < 2147483648 by omega), c1, c2, c3, c4, and_self, e1]
  refine hm h1 p1 _ (fun h2 j2 k2 => ?_)
  simp only [kR_at, S214_1273, if_true]
  exact kk h2 _ _ _ ⟨j2, k2.1, by rw [k2.2], by rw [k2.2]; omega⟩
theorem law_26 (hJ : J hc) (hL : hc.2.2.2 = L) (hi : i + 6 ≤ L) (hL2 : L ≤ 3072) (kk : ∀ (h' : Hp) (o5 o6 o7 : Option Value), LJ hc h' → WP (d + 100) 214 1465 [some (.ref 1000), some (.ref 0), some (.ref 93), some (.ref 108), some (.int (nI i)), o5, o6, o7] [] h' Q) : WP (d + 100) 214 1278 [some (.ref 1000), some (.ref 0), some (.ref 93), some (.ref 108), some (.int (nI i)), o5, o6, o7] [] hc Q := by
  have b1 := sl_ok (k := 1) hi hL2 (by omega)
  rw [← hL] at b1
  have b2 := sl_ok (k := 2) hi hL2 (by omega)
  rw [← hL] at b2
  obtain ⟨v, P, hP, hcl, hm⟩ := ag_fix (d := d) (x := hc.1 1000 (i + 1)) (y := hc.1 1000 (i + 2)) hJ
  simp only [S214_1278, S214_1279, S214_1280, S214_1282, S214_1283, S214_1284, S214_1285, S214_1286, S214_1288, S214_1289, S214_1290, S214_1291, shp_0, nI_add1, ia_2, ia_3, ia_4, ia_5, nI_cl (show i + 1 < 2147483648 by omega), nI_cl (show i + 2 < 2147483648 by omega), b1, b2, and_self]
  refine hcl _ (fun h1 p1 => ?_)
  have e1 := (hP h1 p1).1
  have e2 := (hP h1 p1).2
  have c1 := b1
  rw [← e2] at c1
  have c2 := b2
  rw [← e2] at c2
  simp only [kR_at, S214_1294, S214_1295, S214_1296, S214_1298, S214_1299, S214_1300, S214_1301, S214_1302, S214_1304, S214_1305, S214_1306, S214_1307, shp_93, nI_add1, ia_2, ia_3, ia_4, ia_5, nI_cl (show i + 1 < 2147483648 by omega), nI_cl (show i + 2 < 2147483648 by omega), c1, c2, and_self, e1]
  refine hm h1 p1 _ (fun h2 j2 k2 => ?_)
  simp only [kR_at, S214_1310, if_true]
  exact kk h2 _ _ _ ⟨j2, k2.1, by rw [k2.2], by rw [k2.2]; omega⟩
theorem law_27 (hJ : J hc) (hL : hc.2.2.2 = L) (hi : i + 6 ≤ L) (hL2 : L ≤ 3072) (kk : ∀ (h' : Hp) (o5 o6 o7 : Option Value), LJ hc h' → WP (d + 100) 214 1465 [some (.ref 1000), some (.ref 0), some (.ref 93), some (.ref 108), some (.int (nI i)), o5, o6, o7] [] h' Q) : WP (d + 100) 214 1315 [some (.ref 1000), some (.ref 0), some (.ref 93), some (.ref 108), some (.int (nI i)), o5, o6, o7] [] hc Q := by
  have b1 := sl_ok (k := 1) hi hL2 (by omega)
  rw [← hL] at b1
  obtain ⟨v, P, hP, hcl, hm⟩ := ag_free (d := d) (x := hc.1 1000 (i + 1)) hJ
  simp only [S214_1315, S214_1316, S214_1317, S214_1319, S214_1320, S214_1321, S214_1322, shp_0, nI_add1, ia_2, ia_3, ia_4, ia_5, nI_cl (show i + 1 < 2147483648 by omega), b1, and_self]
  refine hcl _ (fun h1 p1 => ?_)
  have e1 := (hP h1 p1).1
  have e2 := (hP h1 p1).2
  have c1 := b1
  rw [← e2] at c1
  simp only [kR_at, S214_1325, S214_1326, S214_1327, S214_1329, S214_1330, S214_1331, S214_1332, shp_93, nI_add1, ia_2, ia_3, ia_4, ia_5, nI_cl (show i + 1 < 2147483648 by omega), c1, and_self, e1]
  refine hm h1 p1 _ (fun h2 j2 k2 => ?_)
  simp only [kR_at, S214_1335, if_true]
  exact kk h2 _ _ _ ⟨j2, k2.1, by rw [k2.2], by rw [k2.2]; omega⟩
theorem law_28 (hJ : J hc) (hL : hc.2.2.2 = L) (hi : i + 6 ≤ L) (hL2 : L ≤ 3072) (kk : ∀ (h' : Hp) (o5 o6 o7 : Option Value), LJ hc h' → WP (d + 100) 214 1465 [some (.ref 1000), some (.ref 0), some (.ref 93), some (.ref 108), some (.int (nI i)), o5, o6, o7] [] h' Q) : WP (d + 100) 214 1340 [some (.ref 1000), some (.ref 0), some (.ref 93), some (.ref 108), some (.int (nI i)), o5, o6, o7] [] hc Q := by
  have b1 := sl_ok (k := 1) hi hL2 (by omega)
  rw [← hL] at b1
  have b2 := sl_ok (k := 2) hi hL2 (by omega)
  rw [← hL] at b2
  obtain ⟨v, P, hP, hcl, hm⟩ := ag_drawn (d := d) (x := hc.1 1000 (i + 1)) (y := hc.1 1000 (i + 2)) hJ
  simp only [S214_1340, S214_1341, S214_1342, S214_1344, S214_1345, S214_1346, S214_1347, S214_1348, S214_1350, S214_1351, S214_1352, S214_1353, shp_0, nI_add1, ia_2, ia_3, ia_4, ia_5, nI_cl (show i + 1 < 2147483648 by omega), nI_cl (show i + 2 < 2147483648 by omega), b1, b2, and_self]
  refine hcl _ (fun h1 p1 => ?_)
  have e1 := (hP h1 p1).1
  have e2 := (hP h1 p1).2
  have c1 := b1
  rw [← e2] at c1
  have c2 := b2
  rw [← e2] at c2
  simp only [kR_at, S214_1356, S214_1357, S214_1358, S214_1360, S214_1361, S214_1362, S214_1363, S214_1364, S214_1366, S214_1367, S214_1368, S214_1369, shp_93, nI_add1, ia_2, ia_3, ia_4, ia_5, nI_cl (show i + 1 < 2147483648 by omega), nI_cl (show i + 2 < 2147483648 by omega), c1, c2, and_self, e1]
  refine hm h1 p1 _ (fun h2 j2 k2 => ?_)
  simp only [kR_at, S214_1372, if_true]
  exact kk h2 _ _ _ ⟨j2, k2.1, by rw [k2.2], by rw [k2.2]; omega⟩
theorem law_29 (hJ : J hc) (hL : hc.2.2.2 = L) (hi : i + 6 ≤ L) (hL2 : L ≤ 3072) (kk : ∀ (h' : Hp) (o5 o6 o7 : Option Value), LJ hc h' → WP (d + 100) 214 1465 [some (.ref 1000), some (.ref 0), some (.ref 93), some (.ref 108), some (.int (nI i)), o5, o6, o7] [] h' Q) : WP (d + 100) 214 1377 [some (.ref 1000), some (.ref 0), some (.ref 93), some (.ref 108), some (.int (nI i)), o5, o6, o7] [] hc Q := by
  obtain ⟨v, P, hP, hcl, hm⟩ := ag_undo (d := d)  hJ
  simp only [S214_1377, S214_1378, shp_0]
  refine hcl _ (fun h1 p1 => ?_)
  have e1 := (hP h1 p1).1
  have e2 := (hP h1 p1).2
  simp only [kR_at, S214_1381, S214_1382, shp_93]
  refine hm h1 p1 _ (fun h2 j2 k2 => ?_)
  simp only [kR_at, S214_1385, if_true]
  exact kk h2 _ _ _ ⟨j2, k2.1, by rw [k2.2], by rw [k2.2]; omega⟩
theorem law_30 (hJ : J hc) (hL : hc.2.2.2 = L) (hi : i + 6 ≤ L) (hL2 : L ≤ 3072) (kk : ∀ (h' : Hp) (o5 o6 o7 : Option Value), LJ hc h' → WP (d + 100) 214 1465 [some (.ref 1000), some (.ref 0), some (.ref 93), some (.ref 108), some (.int (nI i)), o5, o6, o7] [] h' Q) : WP (d + 100) 214 1390 [some (.ref 1000), some (.ref 0), some (.ref 93), some (.ref 108), some (.int (nI i)), o5, o6, o7] [] hc Q := by
  have b1 := sl_ok (k := 1) hi hL2 (by omega)
  rw [← hL] at b1
  obtain ⟨v, P, hP, hcl, hm⟩ := ag_image (d := d) (x := hc.1 1000 (i + 1)) hJ
  simp only [S214_1390, S214_1391, S214_1392, S214_1394, S214_1395, S214_1396, S214_1397, shp_0, nI_add1, ia_2, ia_3, ia_4, ia_5, nI_cl (show i + 1 < 2147483648 by omega), b1, and_self]
  refine hcl _ (fun h1 p1 => ?_)
  have e1 := (hP h1 p1).1
  have e2 := (hP h1 p1).2
  have c1 := b1
  rw [← e2] at c1
  simp only [kR_at, S214_1400, S214_1401, S214_1402, S214_1404, S214_1405, S214_1406, S214_1407, shp_93, nI_add1, ia_2, ia_3, ia_4, ia_5, nI_cl (show i + 1 < 2147483648 by omega), c1, and_self, e1]
  refine hm h1 p1 _ (fun h2 j2 k2 => ?_)
  simp only [kR_at, S214_1410, if_true]
  exact kk h2 _ _ _ ⟨j2, k2.1, by rw [k2.2], by rw [k2.2]; omega⟩
theorem law_31 (hJ : J hc) (hL : hc.2.2.2 = L) (hi : i + 6 ≤ L) (hL2 : L ≤ 3072) (kk : ∀ (h' : Hp) (o5 o6 o7 : Option Value), LJ hc h' → WP (d + 100) 214 1465 [some (.ref 1000), some (.ref 0), some (.ref 93), some (.ref 108), some (.int (nI i)), o5, o6, o7] [] h' Q) : WP (d + 100) 214 1415 [some (.ref 1000), some (.ref 0), some (.ref 93), some (.ref 108), some (.int (nI i)), o5, o6, o7] [] hc Q := by
  have b1 := sl_ok (k := 1) hi hL2 (by omega)
  rw [← hL] at b1
  obtain ⟨v, P, hP, hcl, hm⟩ := ag_restore (d := d) (x := hc.1 1000 (i + 1)) hJ
  simp only [S214_1415, S214_1416, S214_1417, S214_1419, S214_1420, S214_1421, S214_1422, shp_0, nI_add1, ia_2, ia_3, ia_4, ia_5, nI_cl (show i + 1 < 2147483648 by omega), b1, and_self]
  refine hcl _ (fun h1 p1 => ?_)
  have e1 := (hP h1 p1).1
  have e2 := (hP h1 p1).2
  have c1 := b1
  rw [← e2] at c1
  simp only [kR_at, S214_1425, S214_1426, S214_1427, S214_1429, S214_1430, S214_1431, S214_1432, shp_93, nI_add1, ia_2, ia_3, ia_4, ia_5, nI_cl (show i + 1 < 2147483648 by omega), c1, and_self, e1]
  refine hm h1 p1 _ (fun h2 j2 k2 => ?_)
  simp only [kR_at, S214_1435, if_true]
  exact kk h2 _ _ _ ⟨j2, k2.1, by rw [k2.2], by rw [k2.2]; omega⟩
theorem law_32 (hJ : J hc) (hL : hc.2.2.2 = L) (hi : i + 6 ≤ L) (hL2 : L ≤ 3072) (kk : ∀ (h' : Hp) (o5 o6 o7 : Option Value), LJ hc h' → WP (d + 100) 214 1465 [some (.ref 1000), some (.ref 0), some (.ref 93), some (.ref 108), some (.int (nI i)), o5, o6, o7] [] h' Q) : WP (d + 100) 214 1440 [some (.ref 1000), some (.ref 0), some (.ref 93), some (.ref 108), some (.int (nI i)), o5, o6, o7] [] hc Q := by
  have b1 := sl_ok (k := 1) hi hL2 (by omega)
  rw [← hL] at b1
  obtain ⟨v, P, hP, hcl, hm⟩ := ag_count (d := d) (x := hc.1 1000 (i + 1)) hJ
  simp only [S214_1440, S214_1441, S214_1442, S214_1444, S214_1445, S214_1446, S214_1447, shp_0, nI_add1, ia_2, ia_3, ia_4, ia_5, nI_cl (show i + 1 < 2147483648 by omega), b1, and_self]
  refine hcl _ (fun h1 p1 => ?_)
  have e1 := (hP h1 p1).1
  have e2 := (hP h1 p1).2
  have c1 := b1
  rw [← e2] at c1
  simp only [kR_at, S214_1450, S214_1451, S214_1452, S214_1454, S214_1455, S214_1456, S214_1457, shp_93, nI_add1, ia_2, ia_3, ia_4, ia_5, nI_cl (show i + 1 < 2147483648 by omega), c1, and_self, e1]
  refine hm h1 p1 _ (fun h2 j2 k2 => ?_)
  simp only [kR_at, S214_1460, if_true]
  exact kk h2 _ _ _ ⟨j2, k2.1, by rw [k2.2], by rw [k2.2]; omega⟩
end
section
variable {d L : Nat} {h : Hp} {Q : Option (Option Value) → Hp → Prop} {xs : Nat → Int32}
theorem len_if {i : Nat} (hL2 : L ≤ 3072) (hi : i ≤ 4000) : (Int32.ofNat L - 6 < nI i) ↔ ¬ i + 6 ≤ L := by
  rw [Int32.lt_iff_toInt_lt, Int32.toInt_sub, nI_toInt (by omega), show (Int32.ofNat L).toInt = (L : Int) from nI_toInt (show L < 2 ^ 31 by omega), show (6 : Int32).toInt = 6 by decide, Int.bmod_eq_of_le (by omega) (by omega)]
  omega
set_option maxHeartbeats 4000000 in
theorem law_loop (hL2 : L ≤ 3072) : ∀ (m i : Nat) (hc : Hp) (o5 o6 o7 : Option Value), L - i ≤ m → i ≤ 4000 → J hc → hc.2.2.2 = L → hc.1 1000 = xs → (∀ h' : Hp, h'.1 1000 = xs → h'.2.2.2 = L → h'.2.2.1 ≤ hc.2.2.1 + m → Q (some (some (.int 1))) h') → WP (d + 100) 214 23 [some (.ref 1000), some (.ref 0), some (.ref 93), some (.ref 108), some (.int (nI i)), o5, o6, o7] [] hc Q := by
  intro m
  induction m with
  | zero =>
    intro i hc o5 o6 o7 hm hi4 hJ hL hx kk
    have c : Int32.ofNat L - 6 < nI i := (len_if hL2 hi4).mpr (by omega)
    rw [S214_23, S214_25, S214_26]
    simp only [hL, S214_27, S214_29, S214_30, S214_1471, S214_1472, if_pos c, isB_1]
    exact kk hc hx hL (Nat.le_refl _)
  | succ m ih =>
    intro i hc o5 o6 o7 hm hi4 hJ hL hx kk
    by_cases ci : i + 6 ≤ L
    · have c : ¬ Int32.ofNat L - 6 < nI i := fun z => (len_if hL2 hi4).mp z ci
      have k2 : ∀ (h' : Hp) (o5 o6 o7 : Option Value), LJ hc h' → WP (d + 100) 214 1465 [some (.ref 1000), some (.ref 0), some (.ref 93), some (.ref 108), some (.int (nI i)), o5, o6, o7] [] h' Q := by
        intro h' o5 o6 o7 z
        have e6 : nI i + 6 = nI (i + 6) := nI_add i 6
        simp only [S214_1465, S214_1468, e6, kl_ref]
        refine ih (i + 6) h' o5 o6 o7 (by omega) (by omega) z.1 (z.2.2.1.trans hL) (z.2.1.trans hx) (fun h2 a1 a2 a3 => kk h2 a1 a2 ?_)
        have := z.2.2.2
        omega
      have b0 := sl_ok (k := 0) ci hL2 (by omega)
      rw [Nat.add_zero] at b0
      rw [S214_23, S214_25, S214_26]
      simp only [hL, S214_27, S214_29, S214_30, S214_33, S214_34, S214_36, S214_37, S214_39, if_neg c, b0, and_self, nI_cl (show i < 2147483648 by omega)]
      rw [S214_40]
      by_cases c0 : hc.1 1000 i &&& 63 = 0
      · rw [if_pos c0]
        exact law_0 hJ hL ci hL2 k2
      rw [if_neg c0]
      by_cases c1 : hc.1 1000 i &&& 63 = 1
      · rw [if_pos c1]
        exact law_1 hJ hL ci hL2 k2
      rw [if_neg c1]
      by_cases c2 : hc.1 1000 i &&& 63 = 2
      · rw [if_pos c2]
        exact law_2 hJ hL ci hL2 k2
      rw [if_neg c2]
      by_cases c3 : hc.1 1000 i &&& 63 = 3
      · rw [if_pos c3]
        exact law_3 hJ hL ci hL2 k2
      rw [if_neg c3]
      by_cases c4 : hc.1 1000 i &&& 63 = 4
      · rw [if_pos c4]
        exact law_4 hJ hL ci hL2 k2
      rw [if_neg c4]
      by_cases c5 : hc.1 1000 i &&& 63 = 5
      · rw [if_pos c5]
        exact law_5 hJ hL ci hL2 k2
      rw [if_neg c5]
      by_cases c6 : hc.1 1000 i &&& 63 = 6
      · rw [if_pos c6]
        exact law_6 hJ hL ci hL2 k2
      rw [if_neg c6]
      by_cases c7 : hc.1 1000 i &&& 63 = 7
      · rw [if_pos c7]
        exact law_7 hJ hL ci hL2 k2
      rw [if_neg c7]
      by_cases c8 : hc.1 1000 i &&& 63 = 8
      · rw [if_pos c8]
        exact law_8 hJ hL ci hL2 k2
      rw [if_neg c8]
      by_cases c9 : hc.1 1000 i &&& 63 = 9
      · rw [if_pos c9]
        exact law_9 hJ hL ci hL2 k2
      rw [if_neg c9]
      by_cases c10 : hc.1 1000 i &&& 63 = 10
      · rw [if_pos c10]
        exact law_10 hJ hL ci hL2 k2
      rw [if_neg c10]
      by_cases c11 : hc.1 1000 i &&& 63 = 11
      · rw [if_pos c11]
        exact law_11 hJ hL ci hL2 k2
      rw [if_neg c11]
      by_cases c12 : hc.1 1000 i &&& 63 = 12
      · rw [if_pos c12]
        exact law_12 hJ hL ci hL2 k2
      rw [if_neg c12]
      by_cases c13 : hc.1 1000 i &&& 63 = 13
      · rw [if_pos c13]
        exact law_13 hJ hL ci hL2 k2
      rw [if_neg c13]
      by_cases c14 : hc.1 1000 i &&& 63 = 14
      · rw [if_pos c14]
        exact law_14 hJ hL ci hL2 k2
      rw [if_neg c14]
      by_cases c15 : hc.1 1000 i &&& 63 = 15
      · rw [if_pos c15]
        exact law_15 hJ hL ci hL2 k2
      rw [if_neg c15]
      by_cases c16 : hc.1 1000 i &&& 63 = 16
      · rw [if_pos c16]
        exact law_16 hJ hL ci hL2 k2
      rw [if_neg c16]
      by_cases c17 : hc.1 1000 i &&& 63 = 17
      · rw [if_pos c17]
        exact law_17 hJ hL ci hL2 k2
      rw [if_neg c17]
      by_cases c18 : hc.1 1000 i &&& 63 = 18
      · rw [if_pos c18]
        exact law_18 hJ hL ci hL2 k2
      rw [if_neg c18]
      by_cases c19 : hc.1 1000 i &&& 63 = 19
      · rw [if_pos c19]
        exact law_19 hJ hL ci hL2 k2
      rw [if_neg c19]
      by_cases c20 : hc.1 1000 i &&& 63 = 20
      · rw [if_pos c20]
        exact law_20 hJ hL ci hL2 k2
      rw [if_neg c20]
      by_cases c21 : hc.1 1000 i &&& 63 = 21
      · rw [if_pos c21]
        exact law_21 hJ hL ci hL2 k2
      rw [if_neg c21]
      by_cases c22 : hc.1 1000 i &&& 63 = 22
      · rw [if_pos c22]
        exact law_22 hJ hL ci hL2 k2
      rw [if_neg c22]
      by_cases c23 : hc.1 1000 i &&& 63 = 23
      · rw [if_pos c23]
        exact law_23 hJ hL ci hL2 k2
      rw [if_neg c23]
      by_cases c24 : hc.1 1000 i &&& 63 = 24
      · rw [if_pos c24]
        exact law_24 hJ hL ci hL2 k2
      rw [if_neg c24]
      by_cases c25 : hc.1 1000 i &&& 63 = 25
      · rw [if_pos c25]
        exact law_25 hJ hL ci hL2 k2
      rw [if_neg c25]
      by_cases c26 : hc.1 1000 i &&& 63 = 26
      · rw [if_pos c26]
        exact law_26 hJ hL ci hL2 k2
      rw [if_neg c26]
      by_cases c27 : hc.1 1000 i &&& 63 = 27
      · rw [if_pos c27]
        exact law_27 hJ hL ci hL2 k2
      rw [if_neg c27]
      by_cases c28 : hc.1 1000 i &&& 63 = 28
      · rw [if_pos c28]
        exact law_28 hJ hL ci hL2 k2
      rw [if_neg c28]
      by_cases c29 : hc.1 1000 i &&& 63 = 29
      · rw [if_pos c29]
        exact law_29 hJ hL ci hL2 k2
      rw [if_neg c29]
      by_cases c30 : hc.1 1000 i &&& 63 = 30
      · rw [if_pos c30]
        exact law_30 hJ hL ci hL2 k2
      rw [if_neg c30]
      by_cases c31 : hc.1 1000 i &&& 63 = 31
      · rw [if_pos c31]
        exact law_31 hJ hL ci hL2 k2
      rw [if_neg c31]
      by_cases c32 : hc.1 1000 i &&& 63 = 32
      · rw [if_pos c32]
        exact law_32 hJ hL ci hL2 k2
      rw [if_neg c32]
      exact k2 hc o5 o6 o7 ⟨hJ, rfl, rfl, by omega⟩
    · have c : Int32.ofNat L - 6 < nI i := (len_if hL2 hi4).mpr ci
      rw [S214_23, S214_25, S214_26]
      simp only [hL, S214_27, S214_29, S214_30, S214_1471, S214_1472, if_pos c, isB_1]
      exact kk hc hx hL (by omega)
/-- the law behind what it makes -/
theorem law_all (hL2 : L ≤ 3072) (hJ : J h) (hL : h.2.2.2 = L) (hx : h.1 1000 = xs) (kk : ∀ h' : Hp, h'.1 1000 = xs → h'.2.2.2 = L → h'.2.2.1 ≤ h.2.2.1 + 3072 → Q (some (some (.int 1))) h') : WP (d + 100) 214 20 [some (.ref 1000), some (.ref 0), some (.ref 93), some (.ref 108), none, none, none, none] [] h Q := by
  simp only [S214_20, S214_21, kl_ref]
  rw [nI_l0]
  exact law_loop hL2 3072 0 h none none none (by omega) (by omega) hJ hL hx kk
end
