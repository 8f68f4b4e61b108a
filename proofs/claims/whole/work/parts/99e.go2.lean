/-! The model's go, whole. -/
section
variable {d : Nat} {h h' : Hp} {Q : Option (Option Value) → Hp → Prop} {x y z w v : Int32} {k l p q t n m c : Nat} {b : Nat → Nat} {s : ES} {lt : Prop}
theorem m_go_end {hc : Hp} {o4 : Option Value} {e : ES} (hn : n ≤ 540) (hI : esI q n e) (hG : goI q lt e hc) (hne : ¬ e.1 = q) (h4 : hc.1 93 4 = nI e.1) (h5 : hc.1 93 5 = nI q) (kk : ∀ h' : Hp, frmF RMs hc h' → tkM (tkE q e) h' → Q (some none) h') : WP d 110 312 [some (.ref 93), some (.int x), some (.int (pb lt)), some (.int (pb (goG lt e))), o4] [] hc Q := by
  have i1 := hI.1
  have i2 := hI.2.1
  have hLD : ((lt → 1 ≤ e.2.1) ∧ (¬ lt → 1 ≤ e.2.2.1)) := by rcases hG.2.2 with z | z; exact absurd z hne; exact z
  have e4 : nI e.1 - nI q = nI (e.2.1 + e.2.2.1) := by rw [i1, show q + e.2.1 + e.2.2.1 = q + (e.2.1 + e.2.2.1) by omega, nI_sub]
  have l7 : nI (e.2.1 + e.2.2.1) ≤ 7 ↔ e.2.1 + e.2.2.1 ≤ 7 := by rw [show (7 : Int32) = nI 7 by decide, nI_leI (by omega) (by omega)]
  have l2 : nI (e.2.1 + e.2.2.1) ≤ 2 ↔ e.2.1 + e.2.2.1 ≤ 2 := by rw [show (2 : Int32) = nI 2 by decide, nI_leI (by omega) (by omega)]
  have FN : ∀ k : Int32, frmF RMs hc (setI hc 93 6 k) := fun k => frmF_I ⟨rfl, by omega⟩
  have g6 : ∀ k : Int32, (setI hc 93 6 k).1 93 6 = k := fun k => by rw [setI_rd, if_pos ⟨rfl, rfl⟩]
  have g5 : ∀ k : Int32, (setI hc 93 6 k).1 93 5 = nI q := fun k => by rw [setI_rd, if_neg (by decide)]; exact h5
  have g4 : ∀ k : Int32, (setI hc 93 6 k).1 93 4 = nI e.1 := fun k => by rw [setI_rd, if_neg (by decide)]; exact h4
  have g7 : ∀ k : Int32, (setI hc 93 6 k).1 93 7 = hc.1 93 7 := fun k => by rw [setI_rd, if_neg (by decide)]
  have k1 : ¬ (e.2.2.1 = 0 ∧ 1 ≤ e.2.1 ∧ e.2.1 ≤ 7) → ¬ (e.2.1 = 0 ∧ 1 ≤ e.2.2.1 ∧ e.2.2.1 ≤ 2) → Q (some none) (setI hc 93 6 1) := fun a1 a2 => by
    have := kk _ (FN 1)
    unfold tkE at this
    rw [if_neg a1, if_neg a2] at this
    exact this ⟨(g6 1).trans (by show (1 : Int32) = nI (mkk 4); decide), g5 1, fun z => absurd z (by simp), fun z => absurd z (by simp), fun z => absurd z (by simp)⟩
  have k2 : (e.2.2.1 = 0 ∧ 1 ≤ e.2.1 ∧ e.2.1 ≤ 7) → Q (some none) (setI hc 93 6 2) := fun a1 => by
    have := kk _ (FN 2)
    unfold tkE at this
    rw [if_pos a1] at this
    exact this ⟨(g6 2).trans (by show (2 : Int32) = nI (mkk 1); decide), g5 2, fun _ => hG.1 ⟨a1.1, a1.2.2⟩, fun z => absurd z (by simp), fun _ => g4 2⟩
  have k3 : ¬ (e.2.2.1 = 0 ∧ 1 ≤ e.2.1 ∧ e.2.1 ≤ 7) → (e.2.1 = 0 ∧ 1 ≤ e.2.2.1 ∧ e.2.2.1 ≤ 2) → Q (some none) (setI hc 93 6 3) := fun a1 a2 => by
    have := kk _ (FN 3)
    unfold tkE at this
    rw [if_neg a1, if_pos a2] at this
    exact this ⟨(g6 3).trans (by show (3 : Int32) = nI (mkk 2); decide), g5 3, fun z => absurd z (by simp), fun _ => (g7 3).trans (hG.2.1 ⟨a2.1, a2.2.2⟩), fun _ => g4 3⟩
  simp only [S110_1, S110_4, S110_5, S110_8, S110_11, S110_12, S110_15, S110_16, S110_19, S110_20, S110_22, S110_25, S110_26, S110_29, S110_30, S110_33, S110_34, S110_36, S110_39, S110_40, S110_41, S110_44, S110_45, S110_46, S110_49, S110_52, S110_53, S110_54, S110_57, S110_60, S110_61, S110_64, S110_67, S110_70, S110_71, S110_74, S110_77, S110_80, S110_81, S110_84, S110_87, S110_88, S110_89, S110_92, S110_93, S110_94, S110_97, S110_98, S110_101, S110_104, S110_105, S110_106, S110_109, S110_110, S110_111, S110_114, S110_115, S110_118, S110_119, S110_120, S110_121, S110_124, S110_127, S110_128, S110_131, S110_134, S110_135, S110_136, S110_138, S110_141, S110_142, S110_145, S110_146, S110_149, S110_150, S110_151, S110_154, S110_155, S110_156, S110_159, S110_160, S110_161, S110_164, S110_165, S110_166, S110_167, S110_168, S110_169, S110_172, S110_173, S110_174, S110_178, S110_179, S110_182, S110_185, S110_188, S110_191, S110_192, S110_193, S110_196, S110_199, S110_202, S110_205, S110_206, S110_209, S110_210, S110_213, S110_214, S110_216, S110_217, S110_220, S110_222, S110_225, S110_226, S110_229, S110_230, S110_233, S110_234, S110_235, S110_236, S110_239, S110_240, S110_243, S110_244, S110_246, S110_249, S110_250, S110_253, S110_254, S110_257, S110_258, S110_260, S110_261, S110_262, S110_265, S110_266, S110_269, S110_270, S110_273, S110_274, S110_277, S110_278, S110_279, S110_282, S110_283, S110_285, S110_286, S110_289, S110_290, S110_292, S110_293, S110_295, S110_296, S110_299, S110_300, S110_301, S110_304, S110_305, S110_306, S110_309, S110_312, S110_313, S110_314, S110_317, S110_318, S110_321, S110_322, S110_325, S110_326, S110_327, S110_330, S110_332, S110_335, S110_336, S110_339, S110_340, S110_343, S110_344, S110_347, S110_348, S110_351, S110_352, S110_355, shp_93, RV_93_1, RV_93_13, RV_93_14, RV_93_15, RV_93_16, RV_93_17, RV_93_18, RV_93_19, RV_93_20, RV_93_23, RV_93_24, RV_93_27, RV_93_28, RV_93_29, h4, h5, e4]
  by_cases cg : goG lt e
  · rw [if_neg (fun z => pb_0.mp z cg)]
    by_cases cl : lt
    · have D0 := cg.1 cl
      have L1 := hLD.1 cl
      rw [if_neg (fun z => pb_0.mp z cl), if_neg (fun z => pb_0.mp z cl)]
      by_cases c7 : e.2.1 + e.2.2.1 ≤ 7
      · rw [if_pos (l7.mpr c7)]
        exact k2 ⟨D0, L1, by omega⟩
      · rw [if_neg (fun z => c7 (l7.mp z))]
        exact k1 (by omega) (by omega)
    · have L0 := cg.2 cl
      have D1 := hLD.2 cl
      rw [if_pos (pb_0.mpr cl), if_pos (pb_0.mpr cl)]
      by_cases c2 : e.2.1 + e.2.2.1 ≤ 2
      · rw [if_pos (l2.mpr c2)]
        exact k3 (by omega) ⟨L0, D1, by omega⟩
      · rw [if_neg (fun z => c2 (l2.mp z))]
        exact k1 (by omega) (by omega)
  · rw [if_pos (pb_0.mpr cg)]
    have : ¬ e.2.2.1 = 0 ∧ ¬ e.2.1 = 0 := by
      by_cases cl : lt
      · have := hLD.1 cl
        exact ⟨fun z => cg ⟨fun _ => z, fun y => absurd cl y⟩, by omega⟩
      · have := hLD.2 cl
        exact ⟨by omega, fun z => cg ⟨fun y => absurd y cl, fun _ => z⟩⟩
    exact k1 (by omega) (by omega)
theorem m_go (hr : rdM b n h) (hp : p ≤ n) (h4 : h.1 93 4 = nI p) (kk : ∀ h' : Hp, frmF RMs h h' → tkM (tk b n p) h' → Q (some none) h') : WP (d + 1) 110 0 [some (.ref 93), none, none, none, none] [] h Q := by
  have hn := hr.1
  refine m_skip (h := h) (d := d + 1) n p h (by omega) hp hr h4 frmF_rf (fun h1 f1 g4 => ?_)
  have hr1 := rdM_fr f1 hr
  have hq : skq b n p ≤ n := skq_le hp
  unfold tk tkQ at kk
  generalize skq b n p = q at *
  have l500 : nI n ≤ 500 ↔ ¬ 500 < n := by rw [show (500 : Int32) = nI 500 by decide, nI_leI (by omega) (by omega)]; omega
  have q500 : nI q < 500 ↔ ¬ 500 ≤ q := by rw [show (500 : Int32) = nI 500 by decide, nI_ltI (by omega) (by omega)]; omega
  have g4' : ∀ y, (setI h1 93 5 y).1 93 4 = nI q := fun y => by rw [setI_rd, if_neg (by decide)]; exact g4
  have g3' : ∀ y, (setI h1 93 5 y).1 93 3 = nI n := fun y => by rw [setI_rd, if_neg (by decide)]; exact hr1.2.2.1
  have g5' : ∀ y, (setI h1 93 5 y).1 93 5 = y := fun y => by rw [setI_rd, if_pos ⟨rfl, rfl⟩]
  have F1 : frmF RMs h (setI h1 93 5 (nI q)) := frmF_tr f1 (frmF_I ⟨rfl, by omega⟩)
  have go93 : ¬ (500 < n ∧ 500 ≤ q) → WP (d + 1) 110 93 [some (.ref 93), none, none, none, none] [] (setI h1 93 5 (nI q)) Q := by
    intro nc
    rw [if_neg nc] at kk
    have hr2 : rdM b n (setI h1 93 5 (nI q)) := rdM_fr (frmF_I ⟨rfl, by omega⟩) hr1
    by_cases c2 : n ≤ q
    · rw [if_pos c2] at kk
      have hcd : ¬ nI q < nI n := nI_nlt c2 (by omega)
      have eq : q = n := by omega
      simp only [S110_1, S110_4, S110_5, S110_8, S110_11, S110_12, S110_15, S110_16, S110_19, S110_20, S110_22, S110_25, S110_26, S110_29, S110_30, S110_33, S110_34, S110_36, S110_39, S110_40, S110_41, S110_44, S110_45, S110_46, S110_49, S110_52, S110_53, S110_54, S110_57, S110_60, S110_61, S110_64, S110_67, S110_70, S110_71, S110_74, S110_77, S110_80, S110_81, S110_84, S110_87, S110_88, S110_89, S110_92, S110_93, S110_94, S110_97, S110_98, S110_101, S110_104, S110_105, S110_106, S110_109, S110_111, S110_114, S110_115, S110_118, S110_119, S110_120, S110_121, S110_124, S110_127, S110_128, S110_131, S110_134, S110_135, S110_136, S110_138, S110_141, S110_142, S110_145, S110_146, S110_149, S110_150, S110_151, S110_154, S110_155, S110_156, S110_159, S110_160, S110_161, S110_164, S110_165, S110_166, S110_167, S110_168, S110_169, S110_172, S110_173, S110_174, S110_178, S110_179, S110_182, S110_185, S110_188, S110_191, S110_192, S110_193, S110_196, S110_199, S110_202, S110_205, S110_206, S110_209, S110_210, S110_213, S110_214, S110_216, S110_217, S110_220, S110_222, S110_225, S110_226, S110_229, S110_230, S110_233, S110_234, S110_235, S110_236, S110_239, S110_240, S110_243, S110_244, S110_246, S110_249, S110_250, S110_253, S110_254, S110_257, S110_258, S110_260, S110_261, S110_262, S110_265, S110_266, S110_269, S110_270, S110_273, S110_274, S110_277, S110_278, S110_279, S110_282, S110_283, S110_285, S110_286, S110_289, S110_290, S110_292, S110_293, S110_295, S110_296, S110_299, S110_300, S110_301, S110_304, S110_305, S110_306, S110_309, S110_312, S110_313, S110_314, S110_317, S110_318, S110_321, S110_322, S110_325, S110_326, S110_327, S110_330, S110_332, S110_335, S110_336, S110_339, S110_340, S110_343, S110_344, S110_347, S110_348, S110_351, S110_352, S110_355, shp_93, RV_93_1, RV_93_13, RV_93_14, RV_93_15, RV_93_16, RV_93_17, RV_93_18, RV_93_19, RV_93_20, RV_93_23, RV_93_24, RV_93_27, RV_93_28, RV_93_29, g4', g3', if_neg hcd]
      refine kk _ (frmF_tr F1 (frmF_I ⟨rfl, by omega⟩)) ⟨?_, ?_, fun z => absurd z (by simp), fun z => absurd z (by simp), fun z => absurd z (by simp)⟩
      · rw [setI_rd, if_pos ⟨rfl, rfl⟩]; show (0 : Int32) = nI (mkk 0); decide
      · rw [setI_rd, if_neg (by decide), g5', eq]
    · rw [if_neg c2] at kk
      have hqn : q < n := by omega
      have hcd : nI q < nI n := nI_lt hqn (by omega)
      have e2 := hr2.2.2.2 q hqn
      have b256 := hr.2.1 q
      have q59 : nI (b q) = 59 ↔ b q = 59 := nI_eq (b := 59) (by omega) (by omega)
      simp only [S110_1, S110_4, S110_5, S110_8, S110_11, S110_12, S110_15, S110_16, S110_19, S110_20, S110_22, S110_25, S110_26, S110_29, S110_30, S110_33, S110_34, S110_36, S110_39, S110_40, S110_41, S110_44, S110_45, S110_46, S110_49, S110_52, S110_53, S110_54, S110_57, S110_60, S110_61, S110_64, S110_67, S110_70, S110_71, S110_74, S110_77, S110_80, S110_81, S110_84, S110_87, S110_88, S110_89, S110_92, S110_93, S110_94, S110_97, S110_98, S110_101, S110_104, S110_105, S110_106, S110_109, S110_110, S110_111, S110_114, S110_115, S110_118, S110_119, S110_120, S110_121, S110_124, S110_127, S110_128, S110_131, S110_135, S110_136, S110_138, S110_141, S110_142, S110_145, S110_146, S110_149, S110_150, S110_151, S110_154, S110_155, S110_156, S110_159, S110_161, S110_164, S110_165, S110_166, S110_167, S110_168, S110_169, S110_172, S110_173, S110_174, S110_178, S110_179, S110_182, S110_185, S110_188, S110_191, S110_192, S110_193, S110_196, S110_199, S110_202, S110_205, S110_206, S110_209, S110_210, S110_213, S110_214, S110_216, S110_217, S110_220, S110_222, S110_225, S110_226, S110_229, S110_230, S110_233, S110_234, S110_235, S110_236, S110_239, S110_240, S110_243, S110_244, S110_246, S110_249, S110_250, S110_253, S110_254, S110_257, S110_258, S110_260, S110_261, S110_262, S110_265, S110_266, S110_269, S110_270, S110_273, S110_274, S110_277, S110_278, S110_279, S110_282, S110_283, S110_285, S110_286, S110_289, S110_290, S110_292, S110_293, S110_295, S110_296, S110_299, S110_300, S110_301, S110_304, S110_305, S110_306, S110_309, S110_312, S110_313, S110_314, S110_317, S110_318, S110_321, S110_322, S110_325, S110_326, S110_327, S110_330, S110_332, S110_335, S110_336, S110_339, S110_340, S110_343, S110_344, S110_347, S110_348, S110_351, S110_352, S110_355, shp_93, RV_93_1, RV_93_13, RV_93_14, RV_93_15, RV_93_16, RV_93_17, RV_93_18, RV_93_19, RV_93_20, RV_93_23, RV_93_24, RV_93_27, RV_93_28, RV_93_29, g4', g3', if_pos hcd, ok94 hn hqn, nI_cl (show q < 2147483648 by omega), e2, m_isLtX b256, m_isDgX b256, kR_at, kl_ref]
      have go134 : ¬ isLt (b q) → ¬ isDg (b q) → WP (d + 1) 110 134 [some (.ref 93), some (.int (nI (b q))), none, none, none] [] (setI h1 93 5 (nI q)) Q := by
        intro nl nd
        have g4'' : ∀ y, (setI (setI h1 93 5 (nI q)) 93 6 y).1 93 4 = nI q := fun y => by rw [setI_rd, if_neg (by decide)]; exact g4' _
        simp only [S110_1, S110_4, S110_5, S110_8, S110_11, S110_12, S110_15, S110_16, S110_19, S110_20, S110_22, S110_25, S110_26, S110_29, S110_30, S110_33, S110_34, S110_36, S110_39, S110_40, S110_41, S110_44, S110_45, S110_46, S110_49, S110_52, S110_53, S110_54, S110_57, S110_60, S110_61, S110_64, S110_67, S110_70, S110_71, S110_74, S110_77, S110_80, S110_81, S110_84, S110_87, S110_88, S110_89, S110_92, S110_93, S110_94, S110_97, S110_98, S110_101, S110_104, S110_105, S110_106, S110_109, S110_110, S110_111, S110_114, S110_115, S110_118, S110_119, S110_120, S110_121, S110_124, S110_127, S110_128, S110_131, S110_134, S110_135, S110_136, S110_138, S110_141, S110_142, S110_145, S110_146, S110_149, S110_150, S110_151, S110_154, S110_155, S110_156, S110_159, S110_160, S110_161, S110_164, S110_165, S110_166, S110_167, S110_168, S110_169, S110_172, S110_173, S110_174, S110_178, S110_179, S110_182, S110_185, S110_188, S110_191, S110_192, S110_193, S110_196, S110_199, S110_202, S110_205, S110_206, S110_209, S110_210, S110_213, S110_214, S110_216, S110_217, S110_220, S110_222, S110_225, S110_226, S110_229, S110_230, S110_233, S110_234, S110_235, S110_236, S110_239, S110_240, S110_243, S110_244, S110_246, S110_249, S110_250, S110_253, S110_254, S110_257, S110_258, S110_260, S110_261, S110_262, S110_265, S110_266, S110_269, S110_270, S110_273, S110_274, S110_277, S110_278, S110_279, S110_282, S110_283, S110_285, S110_286, S110_289, S110_290, S110_292, S110_293, S110_295, S110_296, S110_299, S110_300, S110_301, S110_304, S110_305, S110_306, S110_309, S110_312, S110_313, S110_314, S110_317, S110_318, S110_321, S110_322, S110_325, S110_326, S110_327, S110_330, S110_332, S110_335, S110_336, S110_339, S110_340, S110_343, S110_344, S110_347, S110_348, S110_351, S110_352, S110_355, shp_93, RV_93_1, RV_93_13, RV_93_14, RV_93_15, RV_93_16, RV_93_17, RV_93_18, RV_93_19, RV_93_20, RV_93_23, RV_93_24, RV_93_27, RV_93_28, RV_93_29, q59, g4'', nI_add1]
        have F3 : ∀ y, frmF RMs h (setI (setI (setI h1 93 5 (nI q)) 93 6 y) 93 4 (nI (q + 1))) := fun y => frmF_tr F1 (frmF_tr (frmF_I ⟨rfl, by omega⟩) (frmF_I ⟨rfl, by omega⟩))
        have a6 : ∀ y, (setI (setI (setI h1 93 5 (nI q)) 93 6 y) 93 4 (nI (q + 1))).1 93 6 = y := fun y => by rw [setI_rd, if_neg (by decide), setI_rd, if_pos ⟨rfl, rfl⟩]
        have a5 : ∀ y, (setI (setI (setI h1 93 5 (nI q)) 93 6 y) 93 4 (nI (q + 1))).1 93 5 = nI q := fun y => by rw [setI_rd, if_neg (by decide), setI_rd, if_neg (by decide), g5']
        by_cases c3 : b q = 59
        · rw [if_pos c3] at kk ⊢
          exact kk _ (F3 4) ⟨(a6 4).trans (by show (4 : Int32) = nI (mkk 3); decide), a5 4, fun z => absurd z (by simp), fun z => absurd z (by simp), fun _ => by rw [setI_rd, if_pos ⟨rfl, rfl⟩]⟩
        · rw [if_neg c3] at kk ⊢
          have ee : exE b n q = (q, 0, 0, 0) := exF_n (fun z => by rcases z.2 with y | y; exact nl y; exact nd y)
          rw [ee] at kk
          exact kk _ (F3 1) ⟨(a6 1).trans (by show (1 : Int32) = nI (mkk 4); decide), a5 1, fun z => absurd z (by show ¬ (4 : Nat) = 1; decide), fun z => absurd z (by show ¬ (4 : Nat) = 2; decide), fun z => absurd z (by show ¬ ((4 : Nat) = 1 ∨ (4 : Nat) = 2 ∨ (4 : Nat) = 3); decide)⟩
      have go160 : (isLt (b q) ∨ isDg (b q)) → WP (d + 1) 110 160 [some (.ref 93), some (.int (nI (b q))), none, none, none] [] (setI h1 93 5 (nI q)) Q := by
        intro al
        have c3 : ¬ b q = 59 := fun z => by unfold isLt isDg at al; omega
        rw [if_neg c3] at kk
        simp only [S110_1, S110_4, S110_5, S110_8, S110_11, S110_12, S110_15, S110_16, S110_19, S110_20, S110_22, S110_25, S110_26, S110_29, S110_30, S110_33, S110_34, S110_36, S110_39, S110_40, S110_41, S110_44, S110_45, S110_46, S110_49, S110_52, S110_53, S110_54, S110_57, S110_60, S110_61, S110_64, S110_67, S110_70, S110_71, S110_74, S110_77, S110_80, S110_81, S110_84, S110_87, S110_88, S110_89, S110_92, S110_93, S110_94, S110_97, S110_98, S110_101, S110_104, S110_105, S110_106, S110_109, S110_110, S110_111, S110_114, S110_115, S110_118, S110_119, S110_120, S110_121, S110_124, S110_127, S110_128, S110_131, S110_134, S110_135, S110_136, S110_138, S110_141, S110_142, S110_145, S110_146, S110_149, S110_150, S110_151, S110_154, S110_155, S110_156, S110_159, S110_160, S110_161, S110_164, S110_165, S110_166, S110_167, S110_168, S110_169, S110_172, S110_173, S110_174, S110_178, S110_179, S110_182, S110_185, S110_188, S110_191, S110_192, S110_193, S110_196, S110_199, S110_202, S110_205, S110_206, S110_209, S110_210, S110_213, S110_214, S110_216, S110_217, S110_220, S110_222, S110_225, S110_226, S110_229, S110_230, S110_233, S110_234, S110_235, S110_236, S110_239, S110_240, S110_243, S110_244, S110_246, S110_249, S110_250, S110_253, S110_254, S110_257, S110_258, S110_260, S110_261, S110_262, S110_265, S110_266, S110_269, S110_270, S110_273, S110_274, S110_277, S110_278, S110_279, S110_282, S110_283, S110_285, S110_286, S110_289, S110_290, S110_292, S110_293, S110_295, S110_296, S110_299, S110_300, S110_301, S110_304, S110_305, S110_306, S110_309, S110_313, S110_314, S110_317, S110_318, S110_321, S110_322, S110_325, S110_326, S110_327, S110_330, S110_332, S110_335, S110_336, S110_339, S110_340, S110_343, S110_344, S110_347, S110_348, S110_351, S110_352, S110_355, shp_93, RV_93_1, RV_93_13, RV_93_14, RV_93_15, RV_93_16, RV_93_17, RV_93_18, RV_93_19, RV_93_20, RV_93_23, RV_93_24, RV_93_27, RV_93_28, RV_93_29, m_isLtX b256, kR_at, kl_int, kl_none]
        have G0 : pb (goG (isLt (b q)) (q, 0, 0, 0)) = 1 := pb_t ⟨fun _ => rfl, fun _ => rfl⟩
        have st := m_go_loop (h := h) (d := d) (x := nI (b q)) (Q := Q) (lt := isLt (b q)) hqn Iff.rfl al n (q, 0, 0, 0) (setI (setL (setI h1 93 5 (nI q)) 93 12 0) 93 7 0) none (by show n - q ≤ n; omega) ⟨by show q = q + 0 + 0; omega, hq, fun _ => ⟨by show (0 : Int) ≤ 0; decide, by show (0 : Int) < ((27 ^ 0 : Nat) : Int); decide⟩, fun _ => ⟨by show (0 : Int) ≤ 0; decide, by show (0 : Int) < ((10 ^ 0 : Nat) : Int); decide⟩⟩ ⟨fun _ => by show (setL (setI h1 93 5 (nI q)) 93 12 0).2.1 93 12 = iL 0; rw [setL_rd, if_pos ⟨rfl, rfl⟩]; decide, fun _ => by rw [setI_rd, if_pos ⟨rfl, rfl⟩]; show (0 : Int32) = Int32.ofInt 0; decide, Or.inl rfl⟩ (rdM_fr (frmF_tr (frmF_L ⟨rfl, by omega⟩) (frmF_I ⟨rfl, by omega⟩)) hr2) (by rw [setI_rd, if_neg (by decide)]; exact g4' (nI q)) (by rw [setI_rd, if_neg (by decide)]; exact g5' (nI q)) (frmF_tr F1 (frmF_tr (frmF_L ⟨rfl, by omega⟩) (frmF_I ⟨rfl, by omega⟩)))
        rw [G0] at st
        refine st (fun h2 o4 f2 w4 w5 wI wG wn => ?_)
        exact m_go_end hn wI wG wn w4 w5 (fun h3 f3 t3 => kk h3 (frmF_tr f2 f3) t3)
      by_cases cl : isLt (b q)
      · rw [if_neg (fun z => pb_0.mp z cl)]
        exact go160 (Or.inl cl)
      · rw [if_pos (pb_0.mpr cl)]
        by_cases cd : isDg (b q)
        · rw [if_neg (fun z => pb_0.mp z cd)]
          exact go160 (Or.inr cd)
        · rw [if_pos (pb_0.mpr cd)]
          exact go134 cl cd
  simp only [S110_1, S110_4, S110_5, S110_8, S110_11, S110_12, S110_15, S110_16, S110_19, S110_20, S110_22, S110_25, S110_26, S110_29, S110_30, S110_33, S110_34, S110_36, S110_39, S110_40, S110_41, S110_44, S110_45, S110_46, S110_49, S110_52, S110_53, S110_54, S110_57, S110_60, S110_61, S110_64, S110_67, S110_70, S110_71, S110_74, S110_77, S110_80, S110_81, S110_84, S110_87, S110_88, S110_89, S110_92, S110_94, S110_97, S110_98, S110_101, S110_104, S110_105, S110_106, S110_109, S110_110, S110_111, S110_114, S110_115, S110_118, S110_119, S110_120, S110_121, S110_124, S110_127, S110_128, S110_131, S110_134, S110_135, S110_136, S110_138, S110_141, S110_142, S110_145, S110_146, S110_149, S110_150, S110_151, S110_154, S110_155, S110_156, S110_159, S110_160, S110_161, S110_164, S110_165, S110_166, S110_167, S110_168, S110_169, S110_172, S110_173, S110_174, S110_178, S110_179, S110_182, S110_185, S110_188, S110_191, S110_192, S110_193, S110_196, S110_199, S110_202, S110_205, S110_206, S110_209, S110_210, S110_213, S110_214, S110_216, S110_217, S110_220, S110_222, S110_225, S110_226, S110_229, S110_230, S110_233, S110_234, S110_235, S110_236, S110_239, S110_240, S110_243, S110_244, S110_246, S110_249, S110_250, S110_253, S110_254, S110_257, S110_258, S110_260, S110_261, S110_262, S110_265, S110_266, S110_269, S110_270, S110_273, S110_274, S110_277, S110_278, S110_279, S110_282, S110_283, S110_285, S110_286, S110_289, S110_290, S110_292, S110_293, S110_295, S110_296, S110_299, S110_300, S110_301, S110_304, S110_305, S110_306, S110_309, S110_312, S110_313, S110_314, S110_317, S110_318, S110_321, S110_322, S110_325, S110_326, S110_327, S110_330, S110_332, S110_335, S110_336, S110_339, S110_340, S110_343, S110_344, S110_347, S110_348, S110_351, S110_352, S110_355, shp_93, RV_93_1, RV_93_13, RV_93_14, RV_93_15, RV_93_16, RV_93_17, RV_93_18, RV_93_19, RV_93_20, RV_93_23, RV_93_24, RV_93_27, RV_93_28, RV_93_29, g4, g3', g5', l500, q500]
  by_cases c1 : 500 < n
  · rw [if_neg (fun z => z c1)]
    by_cases c2 : 500 ≤ q
    · rw [if_neg (fun z => z c2)]
      rw [if_pos ⟨c1, c2⟩] at kk
      refine kk _ (frmF_tr F1 (frmF_tr (frmF_I ⟨rfl, by omega⟩) (frmF_I ⟨rfl, by omega⟩))) ⟨?_, ?_, fun z => absurd z (by simp), fun z => absurd z (by simp), fun z => absurd z (by simp)⟩
      · rw [setI_rd, if_pos ⟨rfl, rfl⟩]; show (1 : Int32) = nI (mkk 5); decide
      · rw [setI_rd, if_neg (by decide), setI_rd, if_pos ⟨rfl, rfl⟩]; show (500 : Int32) = nI 500; decide
    · rw [if_pos c2]
      exact go93 (fun z => c2 z.2)
  · rw [if_pos c1]
    exact go93 (fun z => c1 z.1)
end
