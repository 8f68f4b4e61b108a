/-! The model's go. -/
def rdM (b : Nat → Nat) (n : Nat) (h : Hp) : Prop := n ≤ 540 ∧ (∀ j, b j < 256) ∧ h.1 93 3 = nI n ∧ ∀ j, j < n → h.1 94 j = nI (b j)
def RMs (a j : Nat) : Prop := a = 93 ∧ ((4 ≤ j ∧ j ≤ 7) ∨ j = 12)
def goG (lt : Prop) (s : ES) : Prop := (lt → s.2.2.1 = 0) ∧ (¬ lt → s.2.1 = 0)
def goI (q : Nat) (lt : Prop) (s : ES) (h : Hp) : Prop := (s.2.2.1 = 0 ∧ s.2.1 ≤ 7 → h.2.1 93 12 = iL s.2.2.2) ∧ (s.2.1 = 0 ∧ s.2.2.1 ≤ 2 → h.1 93 7 = Int32.ofInt s.2.2.2) ∧ (s.1 = q ∨ ((lt → 1 ≤ s.2.1) ∧ (¬ lt → 1 ≤ s.2.2.1)))
section
variable {d : Nat} {h h' : Hp} {Q : Option (Option Value) → Hp → Prop} {x y z w v : Int32} {k l p q t n m c : Nat} {b : Nat → Nat} {s : ES} {lt : Prop}
theorem rdM_fr (hf : frmF RMs h h') (hr : rdM b n h) : rdM b n h' := ⟨hr.1, hr.2.1, by rw [(hf.1 93 3 (by unfold RMs; omega)).1]; exact hr.2.2.1, fun j hj => by rw [(hf.1 94 j (by unfold RMs; omega)).1]; exact hr.2.2.2 j hj⟩
theorem ok94 (hn : n ≤ 540) (hp : p < n) : okA 1 94 (nI p) := okA_nI shp_94 (by omega) (by decide)
theorem m_isLtX (hc : c < 256) : WP d 109 0 [some (.int (nI c))] [] h Q ↔ Q (some (some (.int (pb (isLt c))))) h := by
  have e1 : nI c < 97 ↔ ¬ 97 ≤ c := by rw [show (97 : Int32) = nI 97 by decide, nI_ltI (by omega) (by omega)]; omega
  have e2 : 122 < nI c ↔ ¬ c ≤ 122 := by rw [show (122 : Int32) = nI 122 by decide, nI_ltI (by omega) (by omega)]; omega
  have e : (if nI c < 97 then (0 : Int32) else if 122 < nI c then 0 else 1) = pb (isLt c) := by
    unfold isLt
    by_cases c1 : 97 ≤ c
    · rw [if_neg (fun z => e1.mp z c1)]
      by_cases c2 : c ≤ 122
      · rw [if_neg (fun z => e2.mp z c2), pb_t ⟨c1, c2⟩]
      · rw [if_pos (e2.mpr c2), pb_f (fun z => c2 z.2)]
    · rw [if_pos (e1.mpr c1), pb_f (fun z => c1 z.1)]
  rw [m_isLetter, e]
theorem m_isDgX (hc : c < 256) : WP d 108 0 [some (.int (nI c))] [] h Q ↔ Q (some (some (.int (pb (isDg c))))) h := by
  have e1 : nI c < 48 ↔ ¬ 48 ≤ c := by rw [show (48 : Int32) = nI 48 by decide, nI_ltI (by omega) (by omega)]; omega
  have e2 : 57 < nI c ↔ ¬ c ≤ 57 := by rw [show (57 : Int32) = nI 57 by decide, nI_ltI (by omega) (by omega)]; omega
  have e : (if nI c < 48 then (0 : Int32) else if 57 < nI c then 0 else 1) = pb (isDg c) := by
    unfold isDg
    by_cases c1 : 48 ≤ c
    · rw [if_neg (fun z => e1.mp z c1)]
      by_cases c2 : c ≤ 57
      · rw [if_neg (fun z => e2.mp z c2), pb_t ⟨c1, c2⟩]
      · rw [if_pos (e2.mpr c2), pb_f (fun z => c2 z.2)]
    · rw [if_pos (e1.mpr c1), pb_f (fun z => c1 z.1)]
  rw [m_isDigit, e]
def bz (b : Nat → Nat) (n p : Nat) : Nat := if p < n then b p else 0
theorem m_tapeAt (hr : rdM b n h) (hp : p ≤ n) : WP d 107 0 [some (.ref 93), some (.int (nI p))] [] h Q ↔ Q (some (some (.int (nI (bz b n p))))) h := by
  have hn := hr.1
  unfold bz
  by_cases c : p < n
  · have hcd : ¬ nI n ≤ nI p := nI_ge c (by omega)
    simp only [S107_0, S107_1, S107_2, S107_5, S107_8, S107_9, S107_12, S107_13, S107_14, S107_17, S107_18, shp_93, RV_93_1, RV_93_13, RV_93_14, RV_93_15, RV_93_16, RV_93_17, RV_93_18, RV_93_19, RV_93_20, RV_93_23, RV_93_24, RV_93_27, RV_93_28, RV_93_29, hr.2.2.1, if_neg hcd, ok94 hn c, nI_cl (show p < 2147483648 by omega), hr.2.2.2 p c, if_pos c]
  · have hcd : nI n ≤ nI p := nI_le (by omega) (by omega)
    simp only [S107_0, S107_1, S107_2, S107_5, S107_8, S107_9, S107_12, S107_13, S107_14, S107_17, S107_18, shp_93, RV_93_1, RV_93_13, RV_93_14, RV_93_15, RV_93_16, RV_93_17, RV_93_18, RV_93_19, RV_93_20, RV_93_23, RV_93_24, RV_93_27, RV_93_28, RV_93_29, hr.2.2.1, if_pos hcd, if_neg c]
    exact Iff.rfl
theorem bz_lt (hb : ∀ j, b j < 256) : bz b n p < 256 := by unfold bz; split; exact hb p; decide
theorem bz_l : isLt (bz b n p) ↔ p < n ∧ isLt (b p) := by
  unfold bz
  by_cases c : p < n
  · rw [if_pos c]; exact ⟨fun z => ⟨c, z⟩, fun z => z.2⟩
  · rw [if_neg c]; exact ⟨fun z => absurd z (by unfold isLt; omega), fun z => absurd z.1 c⟩
theorem bz_d : isDg (bz b n p) ↔ p < n ∧ isDg (b p) := by
  unfold bz
  by_cases c : p < n
  · rw [if_pos c]; exact ⟨fun z => ⟨c, z⟩, fun z => z.2⟩
  · rw [if_neg c]; exact ⟨fun z => absurd z (by unfold isDg; omega), fun z => absurd z.1 c⟩
theorem nI_sub (a k : Nat) : nI (a + k) - nI a = nI k := by
  rw [← nI_add]
  grind
theorem m_skip : ∀ (m p : Nat) (hc : Hp), n - p ≤ m → p ≤ n → rdM b n hc → hc.1 93 4 = nI p → frmF RMs h hc → (∀ h' : Hp, frmF RMs h h' → h'.1 93 4 = nI (skq b n p) → WP d 110 52 [some (.ref 93), none, none, none, none] [] h' Q) → WP d 110 0 [some (.ref 93), none, none, none, none] [] hc Q := by
  intro m
  induction m with
  | zero =>
    intro p hc hm hp hr h6 hf kk
    have k1 := kk hc hf
    rw [skq_n (fun z => by omega)] at k1
    have hn := hr.1
    have hcd : nI n ≤ nI p := nI_le (by omega) (by omega)
    rw [S110_0, S110_1 shp_93, h6, S110_4, S110_5 shp_93, hr.2.2.1, S110_8, if_pos hcd]
    exact k1 h6
  | succ m ih =>
    intro p hc hm hp hr h6 hf kk
    have hn := hr.1
    by_cases c : p < n
    · have hcd : ¬ nI n ≤ nI p := nI_ge c (by omega)
      have hb := hr.2.1 p
      have e2 := hr.2.2.2 p c
      have q1 : nI (b p) = 32 ↔ b p = 32 := nI_eq (b := 32) (by omega) (by omega)
      have q2 : nI (b p) = 10 ↔ b p = 10 := nI_eq (b := 10) (by omega) (by omega)
      by_cases cs : isSp (b p)
      · have ih := ih (p + 1) (setI hc 93 4 (nI (p + 1))) (by omega) (by omega) (rdM_fr (frmF_I ⟨rfl, by omega⟩) hr) (by rw [setI_rd, if_pos ⟨rfl, rfl⟩]) (frmF_tr hf (frmF_I ⟨rfl, by omega⟩)) (by rw [← skq_y c cs]; exact kk)
        rw [S110_0]
        simp only [S110_1, S110_4, S110_5, S110_8, S110_11, S110_12, S110_15, S110_16, S110_19, S110_20, S110_22, S110_25, S110_26, S110_29, S110_30, S110_33, S110_34, S110_36, S110_39, S110_40, S110_41, S110_44, S110_45, S110_46, S110_49, S110_53, S110_54, S110_57, S110_60, S110_61, S110_64, S110_67, S110_70, S110_71, S110_74, S110_77, S110_80, S110_81, S110_84, S110_87, S110_88, S110_89, S110_92, S110_93, S110_94, S110_97, S110_98, S110_101, S110_104, S110_105, S110_106, S110_109, S110_110, S110_111, S110_114, S110_115, S110_118, S110_119, S110_120, S110_121, S110_124, S110_127, S110_128, S110_131, S110_134, S110_135, S110_136, S110_138, S110_141, S110_142, S110_145, S110_146, S110_149, S110_150, S110_151, S110_154, S110_155, S110_156, S110_159, S110_160, S110_161, S110_164, S110_165, S110_166, S110_167, S110_168, S110_169, S110_172, S110_173, S110_174, S110_178, S110_179, S110_182, S110_185, S110_188, S110_191, S110_192, S110_193, S110_196, S110_199, S110_202, S110_205, S110_206, S110_209, S110_210, S110_213, S110_214, S110_216, S110_217, S110_220, S110_222, S110_225, S110_226, S110_229, S110_230, S110_233, S110_234, S110_235, S110_236, S110_239, S110_240, S110_243, S110_244, S110_246, S110_249, S110_250, S110_253, S110_254, S110_257, S110_258, S110_260, S110_261, S110_262, S110_265, S110_266, S110_269, S110_270, S110_273, S110_274, S110_277, S110_278, S110_279, S110_282, S110_283, S110_285, S110_286, S110_289, S110_290, S110_292, S110_293, S110_295, S110_296, S110_299, S110_300, S110_301, S110_304, S110_305, S110_306, S110_309, S110_312, S110_313, S110_314, S110_317, S110_318, S110_321, S110_322, S110_325, S110_326, S110_327, S110_330, S110_332, S110_335, S110_336, S110_339, S110_340, S110_343, S110_344, S110_347, S110_348, S110_351, S110_352, S110_355, shp_93, RV_93_1, RV_93_13, RV_93_14, RV_93_15, RV_93_16, RV_93_17, RV_93_18, RV_93_19, RV_93_20, RV_93_23, RV_93_24, RV_93_27, RV_93_28, RV_93_29, h6, hr.2.2.1, if_neg hcd, ok94 hn c, nI_cl (show p < 2147483648 by omega), e2, q1, q2, nI_add1]
        rcases cs with c1 | c1
        · rw [if_pos c1]; exact ih
        · rw [if_neg (by omega), if_pos c1]; exact ih
      · have k1 := kk hc hf
        rw [skq_n (fun z => cs z.2)] at k1
        rw [S110_0]
        simp only [S110_1, S110_4, S110_5, S110_8, S110_11, S110_12, S110_15, S110_16, S110_19, S110_20, S110_22, S110_25, S110_26, S110_29, S110_30, S110_33, S110_34, S110_36, S110_39, S110_40, S110_41, S110_44, S110_45, S110_46, S110_49, S110_53, S110_54, S110_57, S110_60, S110_61, S110_64, S110_67, S110_70, S110_71, S110_74, S110_77, S110_80, S110_81, S110_84, S110_87, S110_88, S110_89, S110_92, S110_93, S110_94, S110_97, S110_98, S110_101, S110_104, S110_105, S110_106, S110_109, S110_110, S110_111, S110_114, S110_115, S110_118, S110_119, S110_120, S110_121, S110_124, S110_127, S110_128, S110_131, S110_134, S110_135, S110_136, S110_138, S110_141, S110_142, S110_145, S110_146, S110_149, S110_150, S110_151, S110_154, S110_155, S110_156, S110_159, S110_160, S110_161, S110_164, S110_165, S110_166, S110_167, S110_168, S110_169, S110_172, S110_173, S110_174, S110_178, S110_179, S110_182, S110_185, S110_188, S110_191, S110_192, S110_193, S110_196, S110_199, S110_202, S110_205, S110_206, S110_209, S110_210, S110_213, S110_214, S110_216, S110_217, S110_220, S110_222, S110_225, S110_226, S110_229, S110_230, S110_233, S110_234, S110_235, S110_236, S110_239, S110_240, S110_243, S110_244, S110_246, S110_249, S110_250, S110_253, S110_254, S110_257, S110_258, S110_260, S110_261, S110_262, S110_265, S110_266, S110_269, S110_270, S110_273, S110_274, S110_277, S110_278, S110_279, S110_282, S110_283, S110_285, S110_286, S110_289, S110_290, S110_292, S110_293, S110_295, S110_296, S110_299, S110_300, S110_301, S110_304, S110_305, S110_306, S110_309, S110_312, S110_313, S110_314, S110_317, S110_318, S110_321, S110_322, S110_325, S110_326, S110_327, S110_330, S110_332, S110_335, S110_336, S110_339, S110_340, S110_343, S110_344, S110_347, S110_348, S110_351, S110_352, S110_355, shp_93, RV_93_1, RV_93_13, RV_93_14, RV_93_15, RV_93_16, RV_93_17, RV_93_18, RV_93_19, RV_93_20, RV_93_23, RV_93_24, RV_93_27, RV_93_28, RV_93_29, h6, hr.2.2.1, if_neg hcd, ok94 hn c, nI_cl (show p < 2147483648 by omega), e2, q1, q2, nI_add1]
        unfold isSp at cs
        rw [if_neg (by omega), if_neg (by omega)]
        exact k1 h6
    · have k1 := kk hc hf
      rw [skq_n (fun z => by omega)] at k1
      have hcd : nI n ≤ nI p := nI_le (by omega) (by omega)
      rw [S110_0, S110_1 shp_93, h6, S110_4, S110_5 shp_93, hr.2.2.1, S110_8, if_pos hcd]
      exact k1 h6
/-- from the sign on to the next turn -/
theorem m_go_body {hc : Hp} {e : Nat} (he : e < 1000) (hq : q < 1000) (h4 : hc.1 93 4 = nI (q + e)) (h5 : hc.1 93 5 = nI q) (kk : ∀ h' : Hp, frmF RMs hc h' → h'.1 93 4 = nI (q + e + 1) → h'.1 93 5 = nI q → (e < 7 → h'.2.1 93 12 = 27 * hc.2.1 93 12 + w.toInt64 - 96) → (e < 2 → h'.1 93 7 = 10 * hc.1 93 7 + w - 48) → WP d 110 177 [some (.ref 93), some (.int x), some (.int y), some (.int z), some (.int w)] [] h' Q) : WP d 110 235 [some (.ref 93), some (.int x), some (.int y), some (.int z), some (.int w)] [] hc Q := by
  have go299 : ∀ h' : Hp, frmF RMs hc h' → h'.1 93 4 = nI (q + e) → h'.1 93 5 = nI q → (e < 7 → h'.2.1 93 12 = 27 * hc.2.1 93 12 + w.toInt64 - 96) → (e < 2 → h'.1 93 7 = 10 * hc.1 93 7 + w - 48) → WP d 110 299 [some (.ref 93), some (.int x), some (.int y), some (.int z), some (.int w)] [] h' Q := by
    intro h' f g4 g5 g12 g7
    simp only [S110_1, S110_4, S110_5, S110_8, S110_11, S110_12, S110_15, S110_16, S110_19, S110_20, S110_22, S110_25, S110_26, S110_29, S110_30, S110_33, S110_34, S110_36, S110_39, S110_40, S110_41, S110_44, S110_45, S110_46, S110_49, S110_52, S110_53, S110_54, S110_57, S110_60, S110_61, S110_64, S110_67, S110_70, S110_71, S110_74, S110_77, S110_80, S110_81, S110_84, S110_87, S110_88, S110_89, S110_92, S110_93, S110_94, S110_97, S110_98, S110_101, S110_104, S110_105, S110_106, S110_109, S110_110, S110_111, S110_114, S110_115, S110_118, S110_119, S110_120, S110_121, S110_124, S110_127, S110_128, S110_131, S110_134, S110_135, S110_136, S110_138, S110_141, S110_142, S110_145, S110_146, S110_149, S110_150, S110_151, S110_154, S110_155, S110_156, S110_159, S110_160, S110_161, S110_164, S110_165, S110_166, S110_167, S110_168, S110_169, S110_172, S110_173, S110_174, S110_178, S110_179, S110_182, S110_185, S110_188, S110_191, S110_192, S110_193, S110_196, S110_199, S110_202, S110_205, S110_206, S110_209, S110_210, S110_213, S110_214, S110_216, S110_217, S110_220, S110_222, S110_225, S110_226, S110_229, S110_230, S110_233, S110_234, S110_235, S110_236, S110_239, S110_240, S110_243, S110_244, S110_246, S110_249, S110_250, S110_253, S110_254, S110_257, S110_258, S110_260, S110_261, S110_262, S110_265, S110_266, S110_269, S110_270, S110_273, S110_274, S110_277, S110_278, S110_279, S110_282, S110_283, S110_285, S110_286, S110_289, S110_290, S110_292, S110_293, S110_295, S110_296, S110_299, S110_300, S110_301, S110_304, S110_305, S110_306, S110_309, S110_312, S110_313, S110_314, S110_317, S110_318, S110_321, S110_322, S110_325, S110_326, S110_327, S110_330, S110_332, S110_335, S110_336, S110_339, S110_340, S110_343, S110_344, S110_347, S110_348, S110_351, S110_352, S110_355, shp_93, RV_93_1, RV_93_13, RV_93_14, RV_93_15, RV_93_16, RV_93_17, RV_93_18, RV_93_19, RV_93_20, RV_93_23, RV_93_24, RV_93_27, RV_93_28, RV_93_29, g4, nI_add1]
    refine kk _ (frmF_tr f (frmF_I ⟨rfl, by omega⟩)) (by rw [setI_rd, if_pos ⟨rfl, rfl⟩]) (by rw [setI_rd, if_neg (by decide)]; exact g5) g12 (fun z => by rw [setI_rd, if_neg (by decide)]; exact g7 z)
  have go269 : ∀ h' : Hp, frmF RMs hc h' → h'.1 93 4 = nI (q + e) → h'.1 93 5 = nI q → h'.1 93 7 = hc.1 93 7 → (e < 7 → h'.2.1 93 12 = 27 * hc.2.1 93 12 + w.toInt64 - 96) → WP d 110 269 [some (.ref 93), some (.int x), some (.int y), some (.int z), some (.int w)] [] h' Q := by
    intro h' f g4 g5 g7 g12
    have e2 : (2 : Int32) ≤ nI e ↔ ¬ e < 2 := by rw [show (2 : Int32) = nI 2 by decide, nI_leI (by omega) (by omega)]; omega
    simp only [S110_1, S110_4, S110_5, S110_8, S110_11, S110_12, S110_15, S110_16, S110_19, S110_20, S110_22, S110_25, S110_26, S110_29, S110_30, S110_33, S110_34, S110_36, S110_39, S110_40, S110_41, S110_44, S110_45, S110_46, S110_49, S110_52, S110_53, S110_54, S110_57, S110_60, S110_61, S110_64, S110_67, S110_70, S110_71, S110_74, S110_77, S110_80, S110_81, S110_84, S110_87, S110_88, S110_89, S110_92, S110_93, S110_94, S110_97, S110_98, S110_101, S110_104, S110_105, S110_106, S110_109, S110_110, S110_111, S110_114, S110_115, S110_118, S110_119, S110_120, S110_121, S110_124, S110_127, S110_128, S110_131, S110_134, S110_135, S110_136, S110_138, S110_141, S110_142, S110_145, S110_146, S110_149, S110_150, S110_151, S110_154, S110_155, S110_156, S110_159, S110_160, S110_161, S110_164, S110_165, S110_166, S110_167, S110_168, S110_169, S110_172, S110_173, S110_174, S110_178, S110_179, S110_182, S110_185, S110_188, S110_191, S110_192, S110_193, S110_196, S110_199, S110_202, S110_205, S110_206, S110_209, S110_210, S110_213, S110_214, S110_216, S110_217, S110_220, S110_222, S110_225, S110_226, S110_229, S110_230, S110_233, S110_234, S110_235, S110_236, S110_239, S110_240, S110_243, S110_244, S110_246, S110_249, S110_250, S110_253, S110_254, S110_257, S110_258, S110_260, S110_261, S110_262, S110_265, S110_266, S110_269, S110_270, S110_273, S110_274, S110_277, S110_278, S110_279, S110_282, S110_283, S110_285, S110_286, S110_289, S110_290, S110_292, S110_293, S110_295, S110_296, S110_300, S110_301, S110_304, S110_305, S110_306, S110_309, S110_312, S110_313, S110_314, S110_317, S110_318, S110_321, S110_322, S110_325, S110_326, S110_327, S110_330, S110_332, S110_335, S110_336, S110_339, S110_340, S110_343, S110_344, S110_347, S110_348, S110_351, S110_352, S110_355, shp_93, RV_93_1, RV_93_13, RV_93_14, RV_93_15, RV_93_16, RV_93_17, RV_93_18, RV_93_19, RV_93_20, RV_93_23, RV_93_24, RV_93_27, RV_93_28, RV_93_29, g4, g5, nI_sub, e2, g7]
    by_cases c : e < 2
    · rw [if_neg (fun z => z c)]
      refine go299 _ (frmF_tr f (frmF_I ⟨rfl, by omega⟩)) (by rw [setI_rd, if_neg (by decide)]; exact g4) (by rw [setI_rd, if_neg (by decide)]; exact g5) g12 (fun _ => by rw [setI_rd, if_pos ⟨rfl, rfl⟩])
    · rw [if_pos c]
      exact go299 h' f g4 g5 g12 (fun z => absurd z c)
  have e7 : (7 : Int32) ≤ nI e ↔ ¬ e < 7 := by rw [show (7 : Int32) = nI 7 by decide, nI_leI (by omega) (by omega)]; omega
  simp only [S110_1, S110_4, S110_5, S110_8, S110_11, S110_12, S110_15, S110_16, S110_19, S110_20, S110_22, S110_25, S110_26, S110_29, S110_30, S110_33, S110_34, S110_36, S110_39, S110_40, S110_41, S110_44, S110_45, S110_46, S110_49, S110_52, S110_53, S110_54, S110_57, S110_60, S110_61, S110_64, S110_67, S110_70, S110_71, S110_74, S110_77, S110_80, S110_81, S110_84, S110_87, S110_88, S110_89, S110_92, S110_93, S110_94, S110_97, S110_98, S110_101, S110_104, S110_105, S110_106, S110_109, S110_110, S110_111, S110_114, S110_115, S110_118, S110_119, S110_120, S110_121, S110_124, S110_127, S110_128, S110_131, S110_134, S110_135, S110_136, S110_138, S110_141, S110_142, S110_145, S110_146, S110_149, S110_150, S110_151, S110_154, S110_155, S110_156, S110_159, S110_160, S110_161, S110_164, S110_165, S110_166, S110_167, S110_168, S110_169, S110_172, S110_173, S110_174, S110_178, S110_179, S110_182, S110_185, S110_188, S110_191, S110_192, S110_193, S110_196, S110_199, S110_202, S110_205, S110_206, S110_209, S110_210, S110_213, S110_214, S110_216, S110_217, S110_220, S110_222, S110_225, S110_226, S110_229, S110_230, S110_233, S110_234, S110_235, S110_236, S110_239, S110_240, S110_243, S110_244, S110_246, S110_249, S110_250, S110_253, S110_254, S110_257, S110_258, S110_260, S110_261, S110_262, S110_265, S110_266, S110_270, S110_273, S110_274, S110_277, S110_278, S110_279, S110_282, S110_283, S110_285, S110_286, S110_289, S110_290, S110_292, S110_293, S110_295, S110_296, S110_299, S110_300, S110_301, S110_304, S110_305, S110_306, S110_309, S110_312, S110_313, S110_314, S110_317, S110_318, S110_321, S110_322, S110_325, S110_326, S110_327, S110_330, S110_332, S110_335, S110_336, S110_339, S110_340, S110_343, S110_344, S110_347, S110_348, S110_351, S110_352, S110_355, shp_93, RV_93_1, RV_93_13, RV_93_14, RV_93_15, RV_93_16, RV_93_17, RV_93_18, RV_93_19, RV_93_20, RV_93_23, RV_93_24, RV_93_27, RV_93_28, RV_93_29, h4, h5, nI_sub, e7]
  by_cases c : e < 7
  · rw [if_neg (fun z => z c)]
    exact go269 _ (frmF_L ⟨rfl, by omega⟩) h4 h5 rfl (fun _ => by rw [setL_rd, if_pos ⟨rfl, rfl⟩])
  · rw [if_pos c]
    exact go269 hc frmF_rf h4 h5 rfl (fun z => absurd z c)
theorem pb_iff {A B : Prop} (z : pb A = pb B) : A ↔ B := by
  constructor
  · intro y; rw [pb_t y] at z; exact pb_1.mp z.symm
  · intro y; rw [pb_t y] at z; exact pb_1.mp z
theorem gd_l {v1 v2 : Int} : goG lt (p, k + 1, l, v1) ↔ goG lt (q, k, l, v2) ∧ lt := by
  constructor
  · intro z
    have : lt := by
      by_cases c : lt
      · exact c
      · have : k + 1 = 0 := z.2 c
        omega
    exact ⟨⟨fun _ => z.1 this, fun y => absurd this y⟩, this⟩
  · intro z
    exact ⟨fun _ => z.1.1 z.2, fun y => absurd z.2 y⟩
theorem gd_d {v1 v2 : Int} : goG lt (p, k, l + 1, v1) ↔ goG lt (q, k, l, v2) ∧ ¬ lt := by
  constructor
  · intro z
    have : ¬ lt := fun c => by
      have : l + 1 = 0 := z.1 c
      omega
    exact ⟨⟨fun y => absurd y this, fun _ => z.2 this⟩, this⟩
  · intro z
    exact ⟨fun y => absurd y z.2, fun _ => z.1.2 z.2⟩
theorem m_go_loop (hq : q < n) (hlt : lt ↔ isLt (b q)) (hal : isLt (b q) ∨ isDg (b q)) : ∀ (m : Nat) (s : ES) (hc : Hp) (o4 : Option Value), n - s.1 ≤ m → esI q n s → goI q lt s hc → rdM b n hc → hc.1 93 4 = nI s.1 → hc.1 93 5 = nI q → frmF RMs h hc → (∀ (h' : Hp) (o4 : Option Value), frmF RMs h h' → h'.1 93 4 = nI (exF b n s).1 → h'.1 93 5 = nI q → esI q n (exF b n s) → goI q lt (exF b n s) h' → ¬ (exF b n s).1 = q → WP (d + 1) 110 312 [some (.ref 93), some (.int x), some (.int (pb lt)), some (.int (pb (goG lt (exF b n s)))), o4] [] h' Q) → WP (d + 1) 110 177 [some (.ref 93), some (.int x), some (.int (pb lt)), some (.int (pb (goG lt s))), o4] [] hc Q := by
  intro m
  induction m with
  | zero =>
    intro s hc o4 hm hI hG hr h4 h5 hf kk
    have hn := hr.1
    have hs := hI.1
    have k1 := kk hc o4 hf
    have hx : ¬ (s.1 < n ∧ (isLt (b s.1) ∨ isDg (b s.1))) := fun z => by have := z.1; omega
    rw [exF_n hx] at k1
    have nl : ¬ isLt (bz b n s.1) := fun z => by have := (bz_l.mp z).1; omega
    have nd : ¬ isDg (bz b n s.1) := fun z => by have := (bz_d.mp z).1; omega
    rw [S110_177]
    simp only [S110_1, S110_4, S110_5, S110_8, S110_11, S110_12, S110_15, S110_16, S110_19, S110_20, S110_22, S110_25, S110_26, S110_29, S110_30, S110_33, S110_34, S110_36, S110_39, S110_40, S110_41, S110_44, S110_45, S110_46, S110_49, S110_52, S110_53, S110_54, S110_57, S110_60, S110_61, S110_64, S110_67, S110_70, S110_71, S110_74, S110_77, S110_80, S110_81, S110_84, S110_87, S110_88, S110_89, S110_92, S110_93, S110_94, S110_97, S110_98, S110_101, S110_104, S110_105, S110_106, S110_109, S110_110, S110_111, S110_114, S110_115, S110_118, S110_119, S110_120, S110_121, S110_124, S110_127, S110_128, S110_131, S110_134, S110_135, S110_136, S110_138, S110_141, S110_142, S110_145, S110_146, S110_149, S110_150, S110_151, S110_154, S110_155, S110_156, S110_159, S110_160, S110_161, S110_164, S110_165, S110_166, S110_167, S110_168, S110_169, S110_172, S110_173, S110_174, S110_178, S110_179, S110_182, S110_185, S110_188, S110_191, S110_192, S110_193, S110_196, S110_199, S110_202, S110_206, S110_209, S110_210, S110_213, S110_214, S110_216, S110_217, S110_220, S110_222, S110_225, S110_226, S110_229, S110_230, S110_233, S110_234, S110_235, S110_236, S110_239, S110_240, S110_243, S110_244, S110_246, S110_249, S110_250, S110_253, S110_254, S110_257, S110_258, S110_260, S110_261, S110_262, S110_265, S110_266, S110_269, S110_270, S110_273, S110_274, S110_277, S110_278, S110_279, S110_282, S110_283, S110_285, S110_286, S110_289, S110_290, S110_292, S110_293, S110_295, S110_296, S110_299, S110_300, S110_301, S110_304, S110_305, S110_306, S110_309, S110_313, S110_314, S110_317, S110_318, S110_321, S110_322, S110_325, S110_326, S110_327, S110_330, S110_332, S110_335, S110_336, S110_339, S110_340, S110_343, S110_344, S110_347, S110_348, S110_351, S110_352, S110_355, shp_93, RV_93_1, RV_93_13, RV_93_14, RV_93_15, RV_93_16, RV_93_17, RV_93_18, RV_93_19, RV_93_20, RV_93_23, RV_93_24, RV_93_27, RV_93_28, RV_93_29, h4, m_tapeAt hr hI.2.1, m_isLtX (bz_lt (p := s.1) hr.2.1), m_isDgX (bz_lt (p := s.1) hr.2.1), kR_at, if_pos (pb_0.mpr nl), if_pos (pb_0.mpr nd)]
    exact k1 h4 h5 hI hG (fun e => by omega)
  | succ m ih =>
    intro s hc o4 hm hI hG hr h4 h5 hf kk
    have hn := hr.1
    have hs := hI.1
    have hsn := hI.2.1
    by_cases ca : s.1 < n ∧ (isLt (b s.1) ∨ isDg (b s.1))
    · have hcn := ca.1
      have e2 := hr.2.2.2 s.1 hcn
      have b256 := hr.2.1 s.1
      have go205 : WP (d + 1) 110 205 [some (.ref 93), some (.int x), some (.int (pb lt)), some (.int (pb (goG lt s))), o4] [] hc Q := by
        have st : ∀ (s' : ES), s'.1 = s.1 + 1 → esI q n s' → (pb (goG lt s') = pb (goG lt s ∧ (isLt (b s.1) ↔ lt))) → exF b n s = exF b n s' → (∀ h' : Hp, frmF RMs hc h' → (s.2.1 + s.2.2.1 < 7 → h'.2.1 93 12 = 27 * hc.2.1 93 12 + (nI (b s.1)).toInt64 - 96) → (s.2.1 + s.2.2.1 < 2 → h'.1 93 7 = 10 * hc.1 93 7 + nI (b s.1) - 48) → goI q lt s' h') → WP (d + 1) 110 235 [some (.ref 93), some (.int x), some (.int (pb lt)), some (.int (pb (goG lt s ∧ (isLt (b s.1) ↔ lt)))), some (.int (nI (b s.1)))] [] hc Q := by
          intro s' e1 eI eg ex eG
          refine m_go_body (q := q) (e := s.2.1 + s.2.2.1) (by omega) (by omega) (by rw [h4]; congr 1; omega) h5 (fun h1 f1 g4 g5 g12 g7 => ?_)
          rw [← eg]
          refine ih s' h1 _ (by omega) eI (eG h1 f1 g12 g7) (rdM_fr f1 hr) (by rw [g4, e1]; congr 1; omega) g5 (frmF_tr hf f1) ?_
          rw [← ex]
          exact kk
        have fin : WP (d + 1) 110 235 [some (.ref 93), some (.int x), some (.int (pb lt)), some (.int (pb (goG lt s ∧ (isLt (b s.1) ↔ lt)))), some (.int (nI (b s.1)))] [] hc Q := by
          rcases ca.2 with cl | cd
          · have c128 : b s.1 < 128 := by unfold isLt at cl; omega
            refine st _ rfl (esI_l hI hcn cl) ?_ (exF_l hcn cl) (fun h1 f1 g12 g7 => ?_)
            · refine pb_congr ?_
              show goG lt (s.1 + 1, s.2.1 + 1, s.2.2.1, _) ↔ goG lt (s.1, s.2.1, s.2.2.1, s.2.2.2) ∧ _
              rw [gd_l (q := s.1) (v2 := s.2.2.2)]
              exact ⟨fun z => ⟨z.1, fun _ => z.2, fun _ => cl⟩, fun z => ⟨z.1, z.2.mp cl⟩⟩
            · refine ⟨fun z => ?_, fun z => absurd z.1 (by show ¬ s.2.1 + 1 = 0; omega), Or.inr ⟨fun _ => by show 1 ≤ s.2.1 + 1; omega, fun y => ?_⟩⟩
              · obtain ⟨z1, z2⟩ := z
                have z1 : s.2.2.1 = 0 := z1
                have z2 : s.2.1 + 1 ≤ 7 := z2
                rw [g12 (by omega), hG.1 ⟨z1, by omega⟩, nI_l (show b s.1 < 2 ^ 31 by omega), show (27 : Int64) = iL 27 by decide, show (96 : Int64) = iL 96 by decide, ← iL_N, iL_mul, iL_add, iL_sub]
                show iL (27 * s.2.2.2 + (b s.1 : Int) - 96) = iL (s.2.2.2 * 27 + ((b s.1 : Int) - 96))
                congr 1
                omega
              · rcases hG.2.2 with e | e
                · rw [e] at cl; exact absurd (hlt.mpr cl) y
                · exact e.2 y
          · have c128 : b s.1 < 128 := by unfold isDg at cd; omega
            have ncl : ¬ isLt (b s.1) := fun z => by unfold isLt at z; unfold isDg at cd; omega
            refine st _ rfl (esI_d hI hcn cd) ?_ (exF_d hcn cd) (fun h1 f1 g12 g7 => ?_)
            · refine pb_congr ?_
              show goG lt (s.1 + 1, s.2.1, s.2.2.1 + 1, _) ↔ goG lt (s.1, s.2.1, s.2.2.1, s.2.2.2) ∧ _
              rw [gd_d (q := s.1) (v2 := s.2.2.2)]
              exact ⟨fun z => ⟨z.1, fun y => absurd y ncl, fun y => absurd y z.2⟩, fun z => ⟨z.1, fun y => ncl (z.2.mpr y)⟩⟩
            · refine ⟨fun z => absurd z.1 (by show ¬ s.2.2.1 + 1 = 0; omega), fun z => ?_, Or.inr ⟨fun y => ?_, fun _ => by show 1 ≤ s.2.2.1 + 1; omega⟩⟩
              · obtain ⟨z1, z2⟩ := z
                have z1 : s.2.1 = 0 := z1
                have z2 : s.2.2.1 + 1 ≤ 2 := z2
                rw [g7 (by omega), hG.2.1 ⟨z1, by omega⟩, show (10 : Int32) = Int32.ofInt 10 by decide, show (48 : Int32) = Int32.ofInt 48 by decide, show nI (b s.1) = Int32.ofInt (b s.1 : Int) from rfl, ← Int32.ofInt_mul, ← Int32.ofInt_add, ← Int32.ofInt_sub]
                show Int32.ofInt (10 * s.2.2.2 + (b s.1 : Int) - 48) = Int32.ofInt (s.2.2.2 * 10 + ((b s.1 : Int) - 48))
                congr 1
                omega
              · rcases hG.2.2 with e | e
                · rw [e] at ncl; exact absurd (hlt.mp y) ncl
                · exact e.1 y
        simp only [S110_1, S110_4, S110_5, S110_8, S110_11, S110_12, S110_15, S110_16, S110_19, S110_20, S110_22, S110_25, S110_26, S110_29, S110_30, S110_33, S110_34, S110_36, S110_39, S110_40, S110_41, S110_44, S110_45, S110_46, S110_49, S110_52, S110_53, S110_54, S110_57, S110_60, S110_61, S110_64, S110_67, S110_70, S110_71, S110_74, S110_77, S110_80, S110_81, S110_84, S110_87, S110_88, S110_89, S110_92, S110_93, S110_94, S110_97, S110_98, S110_101, S110_104, S110_105, S110_106, S110_109, S110_110, S110_111, S110_114, S110_115, S110_118, S110_119, S110_120, S110_121, S110_124, S110_127, S110_128, S110_131, S110_134, S110_135, S110_136, S110_138, S110_141, S110_142, S110_145, S110_146, S110_149, S110_150, S110_151, S110_154, S110_155, S110_156, S110_159, S110_160, S110_161, S110_164, S110_165, S110_166, S110_167, S110_168, S110_169, S110_172, S110_173, S110_174, S110_178, S110_179, S110_182, S110_185, S110_188, S110_191, S110_192, S110_193, S110_196, S110_199, S110_202, S110_205, S110_206, S110_209, S110_210, S110_213, S110_214, S110_216, S110_217, S110_220, S110_222, S110_225, S110_226, S110_229, S110_230, S110_233, S110_234, S110_236, S110_239, S110_240, S110_243, S110_244, S110_246, S110_249, S110_250, S110_253, S110_254, S110_257, S110_258, S110_260, S110_261, S110_262, S110_265, S110_266, S110_269, S110_270, S110_273, S110_274, S110_277, S110_278, S110_279, S110_282, S110_283, S110_285, S110_286, S110_289, S110_290, S110_292, S110_293, S110_295, S110_296, S110_299, S110_300, S110_301, S110_304, S110_305, S110_306, S110_309, S110_312, S110_313, S110_314, S110_317, S110_318, S110_321, S110_322, S110_325, S110_326, S110_327, S110_330, S110_332, S110_335, S110_336, S110_339, S110_340, S110_343, S110_344, S110_347, S110_348, S110_351, S110_352, S110_355, shp_93, RV_93_1, RV_93_13, RV_93_14, RV_93_15, RV_93_16, RV_93_17, RV_93_18, RV_93_19, RV_93_20, RV_93_23, RV_93_24, RV_93_27, RV_93_28, RV_93_29, h4, ok94 hn hcn, nI_cl (show s.1 < 2147483648 by omega), e2, m_isLtX b256, kR_at, kl_int]
        by_cases cg : goG lt s
        · rw [if_neg (fun z => pb_0.mp z cg)]
          by_cases cq : isLt (b s.1) ↔ lt
          · rw [if_pos (pb_congr cq)]
            have pt : pb (goG lt s ∧ (isLt (b s.1) ↔ lt)) = 1 := pb_t ⟨cg, cq⟩
            rw [pt] at fin
            exact fin
          · rw [if_neg (fun z => cq (pb_iff z))]
            · have pf : pb (goG lt s ∧ (isLt (b s.1) ↔ lt)) = 0 := pb_f (fun z => cq z.2)
              rw [pf] at fin
              exact fin
        · rw [if_pos (pb_0.mpr cg)]
          have pf : pb (goG lt s ∧ (isLt (b s.1) ↔ lt)) = 0 := pb_f (fun z => cg z.1)
          rw [pf] at fin
          exact fin
      rw [S110_177]
      simp only [S110_1, S110_4, S110_5, S110_8, S110_11, S110_12, S110_15, S110_16, S110_19, S110_20, S110_22, S110_25, S110_26, S110_29, S110_30, S110_33, S110_34, S110_36, S110_39, S110_40, S110_41, S110_44, S110_45, S110_46, S110_49, S110_52, S110_53, S110_54, S110_57, S110_60, S110_61, S110_64, S110_67, S110_70, S110_71, S110_74, S110_77, S110_80, S110_81, S110_84, S110_87, S110_88, S110_89, S110_92, S110_93, S110_94, S110_97, S110_98, S110_101, S110_104, S110_105, S110_106, S110_109, S110_110, S110_111, S110_114, S110_115, S110_118, S110_119, S110_120, S110_121, S110_124, S110_127, S110_128, S110_131, S110_134, S110_135, S110_136, S110_138, S110_141, S110_142, S110_145, S110_146, S110_149, S110_150, S110_151, S110_154, S110_155, S110_156, S110_159, S110_160, S110_161, S110_164, S110_165, S110_166, S110_167, S110_168, S110_169, S110_172, S110_173, S110_174, S110_178, S110_179, S110_182, S110_185, S110_188, S110_191, S110_192, S110_193, S110_196, S110_199, S110_202, S110_206, S110_209, S110_210, S110_213, S110_214, S110_216, S110_217, S110_220, S110_222, S110_225, S110_226, S110_229, S110_230, S110_233, S110_234, S110_235, S110_236, S110_239, S110_240, S110_243, S110_244, S110_246, S110_249, S110_250, S110_253, S110_254, S110_257, S110_258, S110_260, S110_261, S110_262, S110_265, S110_266, S110_269, S110_270, S110_273, S110_274, S110_277, S110_278, S110_279, S110_282, S110_283, S110_285, S110_286, S110_289, S110_290, S110_292, S110_293, S110_295, S110_296, S110_299, S110_300, S110_301, S110_304, S110_305, S110_306, S110_309, S110_313, S110_314, S110_317, S110_318, S110_321, S110_322, S110_325, S110_326, S110_327, S110_330, S110_332, S110_335, S110_336, S110_339, S110_340, S110_343, S110_344, S110_347, S110_348, S110_351, S110_352, S110_355, shp_93, RV_93_1, RV_93_13, RV_93_14, RV_93_15, RV_93_16, RV_93_17, RV_93_18, RV_93_19, RV_93_20, RV_93_23, RV_93_24, RV_93_27, RV_93_28, RV_93_29, h4, m_tapeAt hr hI.2.1, m_isLtX (bz_lt (p := s.1) hr.2.1), m_isDgX (bz_lt (p := s.1) hr.2.1), kR_at]
      by_cases cl : isLt (b s.1)
      · rw [if_neg (fun z => pb_0.mp z (bz_l.mpr ⟨hcn, cl⟩))]
        exact go205
      · have cd : isDg (b s.1) := by rcases ca.2 with z | z; exact absurd z cl; exact z
        rw [if_pos (pb_0.mpr (fun z => cl (bz_l.mp z).2)), if_neg (fun z => pb_0.mp z (bz_d.mpr ⟨hcn, cd⟩))]
        exact go205
    · have k1 := kk hc o4 hf
      rw [exF_n ca] at k1
      have nl : ¬ isLt (bz b n s.1) := fun z => ca ⟨(bz_l.mp z).1, Or.inl (bz_l.mp z).2⟩
      have nd : ¬ isDg (bz b n s.1) := fun z => ca ⟨(bz_d.mp z).1, Or.inr (bz_d.mp z).2⟩
      rw [S110_177]
      simp only [S110_1, S110_4, S110_5, S110_8, S110_11, S110_12, S110_15, S110_16, S110_19, S110_20, S110_22, S110_25, S110_26, S110_29, S110_30, S110_33, S110_34, S110_36, S110_39, S110_40, S110_41, S110_44, S110_45, S110_46, S110_49, S110_52, S110_53, S110_54, S110_57, S110_60, S110_61, S110_64, S110_67, S110_70, S110_71, S110_74, S110_77, S110_80, S110_81, S110_84, S110_87, S110_88, S110_89, S110_92, S110_93, S110_94, S110_97, S110_98, S110_101, S110_104, S110_105, S110_106, S110_109, S110_110, S110_111, S110_114, S110_115, S110_118, S110_119, S110_120, S110_121, S110_124, S110_127, S110_128, S110_131, S110_134, S110_135, S110_136, S110_138, S110_141, S110_142, S110_145, S110_146, S110_149, S110_150, S110_151, S110_154, S110_155, S110_156, S110_159, S110_160, S110_161, S110_164, S110_165, S110_166, S110_167, S110_168, S110_169, S110_172, S110_173, S110_174, S110_178, S110_179, S110_182, S110_185, S110_188, S110_191, S110_192, S110_193, S110_196, S110_199, S110_202, S110_206, S110_209, S110_210, S110_213, S110_214, S110_216, S110_217, S110_220, S110_222, S110_225, S110_226, S110_229, S110_230, S110_233, S110_234, S110_235, S110_236, S110_239, S110_240, S110_243, S110_244, S110_246, S110_249, S110_250, S110_253, S110_254, S110_257, S110_258, S110_260, S110_261, S110_262, S110_265, S110_266, S110_269, S110_270, S110_273, S110_274, S110_277, S110_278, S110_279, S110_282, S110_283, S110_285, S110_286, S110_289, S110_290, S110_292, S110_293, S110_295, S110_296, S110_299, S110_300, S110_301, S110_304, S110_305, S110_306, S110_309, S110_313, S110_314, S110_317, S110_318, S110_321, S110_322, S110_325, S110_326, S110_327, S110_330, S110_332, S110_335, S110_336, S110_339, S110_340, S110_343, S110_344, S110_347, S110_348, S110_351, S110_352, S110_355, shp_93, RV_93_1, RV_93_13, RV_93_14, RV_93_15, RV_93_16, RV_93_17, RV_93_18, RV_93_19, RV_93_20, RV_93_23, RV_93_24, RV_93_27, RV_93_28, RV_93_29, h4, m_tapeAt hr hI.2.1, m_isLtX (bz_lt (p := s.1) hr.2.1), m_isDgX (bz_lt (p := s.1) hr.2.1), kR_at, if_pos (pb_0.mpr nl), if_pos (pb_0.mpr nd)]
      exact k1 h4 h5 hI hG (fun e => ca (by rw [e]; exact ⟨hq, hal⟩))
end
