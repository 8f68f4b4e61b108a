/-! Heights along the tree; the model's way of it. -/
abbrev AS : Type := (Nat → Prop) × (Nat → Int32)
noncomputable def alS (r : Nat → Int32) (l : Nat) (s : AS) : AS := @ite _ (tre r l ∧ ¬ (s.1 (rA r l) ↔ s.1 (rB r l))) (Classical.propDecidable _) (fun i => s.1 i ∨ i = rA r l ∨ i = rB r l, @ite _ (s.1 (rA r l)) (Classical.propDecidable _) (upd s.2 (rB r l) (s.2 (rA r l) + r (36 + l))) (upd s.2 (rA r l) (s.2 (rB r l) - r (36 + l)))) s
noncomputable def alLn (r : Nat → Int32) : Nat → AS → AS
  | 0, s => s
  | n + 1, s => alS r n (alLn r n s)
noncomputable def alRd (r : Nat → Int32) : Nat → AS → AS
  | 0, s => s
  | n + 1, s => alLn r (rL r) (alRd r n s)
noncomputable def al0 (r : Nat → Int32) : AS := (fun i => fxd r i ∨ (i < rP r ∧ isRt r i), fun p => if r (2 + p) = 1 then r (8 + p) else 0)
noncomputable def alF (r : Nat → Int32) : AS := alRd r (rP r) (al0 r)
/-- a mask and places that hold such a state -/
def alR (r : Nat → Int32) (a : Nat) (s : AS) (K : Int32) (h : Hp) : Prop := (∀ i, i < 32 → (bt K i = true ↔ s.1 i)) ∧ ∀ j, j < rP r → h.1 a j = s.2 j
theorem alS_no {r : Nat → Int32} {l : Nat} {s : AS} (h : ¬ (tre r l ∧ ¬ (s.1 (rA r l) ↔ s.1 (rB r l)))) : alS r l s = s := @if_neg _ (Classical.propDecidable _) h _ _ _
theorem alS_a {r : Nat → Int32} {l : Nat} {s : AS} (ht : tre r l) (h1 : s.1 (rA r l)) (h2 : ¬ s.1 (rB r l)) : alS r l s = (fun i => s.1 i ∨ i = rA r l ∨ i = rB r l, upd s.2 (rB r l) (s.2 (rA r l) + r (36 + l))) := by
  unfold alS
  rw [@if_pos _ (Classical.propDecidable _) (show tre r l ∧ ¬ (s.1 (rA r l) ↔ s.1 (rB r l)) from ⟨ht, fun q => h2 (q.mp h1)⟩), @if_pos _ (Classical.propDecidable _) h1]
theorem alS_b {r : Nat → Int32} {l : Nat} {s : AS} (ht : tre r l) (h1 : ¬ s.1 (rA r l)) (h2 : s.1 (rB r l)) : alS r l s = (fun i => s.1 i ∨ i = rA r l ∨ i = rB r l, upd s.2 (rA r l) (s.2 (rB r l) - r (36 + l))) := by
  unfold alS
  rw [@if_pos _ (Classical.propDecidable _) (show tre r l ∧ ¬ (s.1 (rA r l) ↔ s.1 (rB r l)) from ⟨ht, fun q => h1 (q.mpr h2)⟩), @if_neg _ (Classical.propDecidable _) h1]
theorem s95_107 {h : Hp} {j : Nat} {x : Int32} : (setI h 107 j x).1 95 = h.1 95 := setI_1 (by decide)
theorem ok107 {n : Nat} (h : n < 6) : okA 1 107 (nI n) := okA_nI shp_107 h (by decide)
section
variable {d : Nat} {h : Hp} {Q : Option (Option Value) → Hp → Prop} {r : Nat → Int32}
theorem m_al1 (hV : VR r) {o4 : Option Value} {T : Int32} : ∀ (n p : Nat) (hc : Hp) (K : Int32), p + n = rP r → hc.1 95 = r → (∀ i, i < 32 → (bt K i = true ↔ fxd r i ∨ (i < p ∧ isRt r i))) → (∀ j, j < p → hc.1 107 j = (al0 r).2 j) → frm (fun a => a = 107) h hc →
    (∀ (hc' : Hp) (K' : Int32), hc'.1 95 = r → alR r 107 (al0 r) K' hc' → frm (fun a => a = 107) h hc' → WP (d + 5) 163 67 [some (.ref 93), some (.int T), some (.int K'), some (.int (nI (rP r))), o4] [] hc' Q) →
    WP (d + 5) 163 12 [some (.ref 93), some (.int T), some (.int K), some (.int (nI p)), o4] [] hc Q := by
  have hP := hV.1
  intro n
  induction n with
  | zero =>
    intro p hc K hp hr hK hj hf kk
    have hcd : nI (rP r) ≤ nI p := nI_le (by omega) (by omega)
    have : p = rP r := by omega
    subst this
    rw [S163_12]
    simp only [S163_0, S163_1, S163_4, S163_5, S163_6, S163_9, S163_10, S163_11, S163_13, S163_14, S163_17, S163_20, S163_21, S163_24, S163_25, S163_26, S163_27, S163_30, S163_33, S163_34, S163_37, S163_39, S163_40, S163_41, S163_42, S163_45, S163_46, S163_47, S163_48, S163_49, S163_52, S163_55, S163_56, S163_57, S163_58, S163_59, S163_60, S163_61, S163_64, S163_67, S163_68, S163_70, S163_71, S163_74, S163_77, S163_78, S163_82, S163_83, S163_86, S163_89, S163_90, S163_92, S163_95, S163_98, S163_99, S163_100, S163_102, S163_105, S163_108, S163_109, S163_110, S163_112, S163_115, S163_118, S163_121, S163_124, S163_125, S163_126, S163_128, S163_131, S163_134, S163_137, S163_138, S163_141, S163_142, S163_144, S163_147, S163_148, S163_151, S163_152, S163_154, S163_157, S163_158, S163_159, S163_162, S163_164, S163_166, S163_167, S163_168, S163_169, S163_170, S163_173, S163_174, S163_177, S163_178, S163_180, S163_183, S163_184, S163_187, S163_188, S163_190, S163_193, S163_194, S163_195, S163_198, S163_200, S163_202, S163_203, S163_204, S163_205, S163_206, S163_207, S163_208, S163_209, S163_211, S163_214, S163_215, S163_216, S163_217, S163_219, S163_222, S163_223, S163_224, S163_225, S163_226, S163_229, S163_232, S163_235, S163_238, shp_93, RV_93_1, RV_93_13, RV_93_14, RV_93_15, RV_93_16, RV_93_17, RV_93_18, RV_93_19, RV_93_20, RV_93_23, RV_93_24, RV_93_27, RV_93_28, RV_93_29, m_points, kR_at, hr, hP.1, if_pos hcd]
    have := kk hc K hr ⟨hK, hj⟩ hf
    simp only [S163_0, S163_1, S163_4, S163_5, S163_6, S163_9, S163_10, S163_11, S163_13, S163_14, S163_17, S163_20, S163_21, S163_24, S163_25, S163_26, S163_27, S163_30, S163_33, S163_34, S163_37, S163_39, S163_40, S163_41, S163_42, S163_45, S163_46, S163_47, S163_48, S163_49, S163_52, S163_55, S163_56, S163_57, S163_58, S163_59, S163_60, S163_61, S163_64, S163_67, S163_68, S163_70, S163_71, S163_74, S163_77, S163_78, S163_82, S163_83, S163_86, S163_89, S163_90, S163_92, S163_95, S163_98, S163_99, S163_100, S163_102, S163_105, S163_108, S163_109, S163_110, S163_112, S163_115, S163_118, S163_121, S163_124, S163_125, S163_126, S163_128, S163_131, S163_134, S163_137, S163_138, S163_141, S163_142, S163_144, S163_147, S163_148, S163_151, S163_152, S163_154, S163_157, S163_158, S163_159, S163_162, S163_164, S163_166, S163_167, S163_168, S163_169, S163_170, S163_173, S163_174, S163_177, S163_178, S163_180, S163_183, S163_184, S163_187, S163_188, S163_190, S163_193, S163_194, S163_195, S163_198, S163_200, S163_202, S163_203, S163_204, S163_205, S163_206, S163_207, S163_208, S163_209, S163_211, S163_214, S163_215, S163_216, S163_217, S163_219, S163_222, S163_223, S163_224, S163_225, S163_226, S163_229, S163_232, S163_235, S163_238, kl_int] at this
    exact this
  | succ n ih =>
    intro p hc K hp hr hK hj hf kk
    have hcd : ¬ nI (rP r) ≤ nI p := nI_ge (by omega) (by omega)
    have hp6 : p < 6 := by omega
    have o1 := ok107 hp6
    have c1 := nI_cl (n := p) (by omega)
    have o2 := ok95 (n := 8 + p) (by omega)
    have c2 := nI_cl (n := 8 + p) (by omega)
    rw [S163_12]
    simp only [S163_0, S163_1, S163_4, S163_5, S163_6, S163_9, S163_10, S163_11, S163_13, S163_14, S163_17, S163_20, S163_21, S163_24, S163_25, S163_26, S163_27, S163_30, S163_33, S163_34, S163_37, S163_39, S163_40, S163_41, S163_42, S163_45, S163_46, S163_47, S163_48, S163_49, S163_52, S163_55, S163_56, S163_57, S163_58, S163_59, S163_60, S163_61, S163_64, S163_67, S163_68, S163_70, S163_71, S163_74, S163_77, S163_78, S163_82, S163_83, S163_86, S163_89, S163_90, S163_92, S163_95, S163_98, S163_99, S163_100, S163_102, S163_105, S163_108, S163_109, S163_110, S163_112, S163_115, S163_118, S163_121, S163_124, S163_125, S163_126, S163_128, S163_131, S163_134, S163_137, S163_138, S163_141, S163_142, S163_144, S163_147, S163_148, S163_151, S163_152, S163_154, S163_157, S163_158, S163_159, S163_162, S163_164, S163_166, S163_167, S163_168, S163_169, S163_170, S163_173, S163_174, S163_177, S163_178, S163_180, S163_183, S163_184, S163_187, S163_188, S163_190, S163_193, S163_194, S163_195, S163_198, S163_200, S163_202, S163_203, S163_204, S163_205, S163_206, S163_207, S163_208, S163_209, S163_211, S163_214, S163_215, S163_216, S163_217, S163_219, S163_222, S163_223, S163_224, S163_225, S163_226, S163_229, S163_232, S163_235, S163_238, shp_93, RV_93_1, RV_93_13, RV_93_14, RV_93_15, RV_93_16, RV_93_17, RV_93_18, RV_93_19, RV_93_20, RV_93_23, RV_93_24, RV_93_27, RV_93_28, RV_93_29, m_points, kR_at, hr, hP.1, if_neg hcd, m_isFixed hp6, ite1, la_8, o2, c2, o1, c1, kl_int, nI_add1]
    have key : ∀ v : Int32, v = (al0 r).2 p → WP (d + 5) 163 47 [some (.ref 93), some (.int T), some (.int K), some (.int (nI p)), o4] [] (setI hc 107 p v) Q := by
      intro v hv
      have hr' : (setI hc 107 p v).1 95 = r := by rw [setI_1 (by decide)]; exact hr
      have hf' : frm (fun a => a = 107) h (setI hc 107 p v) := frm_tr hf (frm_I rfl)
      have hj' : ∀ j, j < p + 1 → (setI hc 107 p v).1 107 j = (al0 r).2 j := by
        intro j hjp
        rw [setI_rd]
        by_cases e : j = p
        · subst e; rw [if_pos ⟨rfl, rfl⟩]; exact hv
        · rw [if_neg (fun z => e z.2)]; exact hj j (by omega)
      simp only [S163_0, S163_1, S163_4, S163_5, S163_6, S163_9, S163_10, S163_11, S163_13, S163_14, S163_17, S163_20, S163_21, S163_24, S163_25, S163_26, S163_27, S163_30, S163_33, S163_34, S163_37, S163_39, S163_40, S163_41, S163_42, S163_45, S163_46, S163_47, S163_48, S163_49, S163_52, S163_55, S163_56, S163_57, S163_58, S163_59, S163_60, S163_61, S163_64, S163_67, S163_68, S163_70, S163_71, S163_74, S163_77, S163_78, S163_82, S163_83, S163_86, S163_89, S163_90, S163_92, S163_95, S163_98, S163_99, S163_100, S163_102, S163_105, S163_108, S163_109, S163_110, S163_112, S163_115, S163_118, S163_121, S163_124, S163_125, S163_126, S163_128, S163_131, S163_134, S163_137, S163_138, S163_141, S163_142, S163_144, S163_147, S163_148, S163_151, S163_152, S163_154, S163_157, S163_158, S163_159, S163_162, S163_164, S163_166, S163_167, S163_168, S163_169, S163_170, S163_173, S163_174, S163_177, S163_178, S163_180, S163_183, S163_184, S163_187, S163_188, S163_190, S163_193, S163_194, S163_195, S163_198, S163_200, S163_202, S163_203, S163_204, S163_205, S163_206, S163_207, S163_208, S163_209, S163_211, S163_214, S163_215, S163_216, S163_217, S163_219, S163_222, S163_223, S163_224, S163_225, S163_226, S163_229, S163_232, S163_235, S163_238, shp_93, RV_93_1, RV_93_13, RV_93_14, RV_93_15, RV_93_16, RV_93_17, RV_93_18, RV_93_19, RV_93_20, RV_93_23, RV_93_24, RV_93_27, RV_93_28, RV_93_29, m_isRoot (h := setI hc 107 p v) (d := d) (p := p) (by rw [hr']; exact hV) (by rw [hr']; omega), kR_at, hr', kl_int, nI_add1]
      by_cases hrt : isRt r p
      · rw [if_neg (fun z => pb_0.mp z hrt)]
        refine ih (p + 1) _ _ (by omega) hr' (fun i hi => ?_) hj' hf' kk
        rw [b_or, Bool.or_eq_true, hK i hi, b_one (by omega) hi, decide_eq_true_eq]
        constructor
        · rintro ((q | ⟨q1, q2⟩) | rfl)
          · exact Or.inl q
          · exact Or.inr ⟨by omega, q2⟩
          · exact Or.inr ⟨by omega, hrt⟩
        · rintro (q | ⟨q1, q2⟩)
          · exact Or.inl (Or.inl q)
          · by_cases e : i = p
            · exact Or.inr e
            · exact Or.inl (Or.inr ⟨by omega, q2⟩)
      · rw [if_pos (pb_0.mpr hrt)]
        refine ih (p + 1) _ _ (by omega) hr' (fun i hi => ?_) hj' hf' kk
        rw [hK i hi]
        constructor
        · rintro (q | ⟨q1, q2⟩)
          · exact Or.inl q
          · exact Or.inr ⟨by omega, q2⟩
        · rintro (q | ⟨q1, q2⟩)
          · exact Or.inl q
          · refine Or.inr ⟨?_, q2⟩
            by_cases e : i = p
            · subst e; exact absurd q2 hrt
            · omega
    by_cases hx : r (2 + p) = 1
    · rw [if_neg (fun z => z hx)]
      have := key (r (8 + p)) (by show _ = if r (2 + p) = 1 then r (8 + p) else 0; rw [if_pos hx])
      simp only [S163_0, S163_1, S163_4, S163_5, S163_6, S163_9, S163_10, S163_11, S163_13, S163_14, S163_17, S163_20, S163_21, S163_24, S163_25, S163_26, S163_27, S163_30, S163_33, S163_34, S163_37, S163_39, S163_40, S163_41, S163_42, S163_45, S163_46, S163_47, S163_48, S163_49, S163_52, S163_55, S163_56, S163_57, S163_58, S163_59, S163_60, S163_61, S163_64, S163_67, S163_68, S163_70, S163_71, S163_74, S163_77, S163_78, S163_82, S163_83, S163_86, S163_89, S163_90, S163_92, S163_95, S163_98, S163_99, S163_100, S163_102, S163_105, S163_108, S163_109, S163_110, S163_112, S163_115, S163_118, S163_121, S163_124, S163_125, S163_126, S163_128, S163_131, S163_134, S163_137, S163_138, S163_141, S163_142, S163_144, S163_147, S163_148, S163_151, S163_152, S163_154, S163_157, S163_158, S163_159, S163_162, S163_164, S163_166, S163_167, S163_168, S163_169, S163_170, S163_173, S163_174, S163_177, S163_178, S163_180, S163_183, S163_184, S163_187, S163_188, S163_190, S163_193, S163_194, S163_195, S163_198, S163_200, S163_202, S163_203, S163_204, S163_205, S163_206, S163_207, S163_208, S163_209, S163_211, S163_214, S163_215, S163_216, S163_217, S163_219, S163_222, S163_223, S163_224, S163_225, S163_226, S163_229, S163_232, S163_235, S163_238, shp_93, RV_93_1, RV_93_13, RV_93_14, RV_93_15, RV_93_16, RV_93_17, RV_93_18, RV_93_19, RV_93_20, RV_93_23, RV_93_24, RV_93_27, RV_93_28, RV_93_29, kl_int, nI_add1] at this
      exact this
    · rw [if_pos hx]
      have := key 0 (by show _ = if r (2 + p) = 1 then r (8 + p) else 0; rw [if_neg hx])
      simp only [S163_0, S163_1, S163_4, S163_5, S163_6, S163_9, S163_10, S163_11, S163_13, S163_14, S163_17, S163_20, S163_21, S163_24, S163_25, S163_26, S163_27, S163_30, S163_33, S163_34, S163_37, S163_39, S163_40, S163_41, S163_42, S163_45, S163_46, S163_47, S163_48, S163_49, S163_52, S163_55, S163_56, S163_57, S163_58, S163_59, S163_60, S163_61, S163_64, S163_67, S163_68, S163_70, S163_71, S163_74, S163_77, S163_78, S163_82, S163_83, S163_86, S163_89, S163_90, S163_92, S163_95, S163_98, S163_99, S163_100, S163_102, S163_105, S163_108, S163_109, S163_110, S163_112, S163_115, S163_118, S163_121, S163_124, S163_125, S163_126, S163_128, S163_131, S163_134, S163_137, S163_138, S163_141, S163_142, S163_144, S163_147, S163_148, S163_151, S163_152, S163_154, S163_157, S163_158, S163_159, S163_162, S163_164, S163_166, S163_167, S163_168, S163_169, S163_170, S163_173, S163_174, S163_177, S163_178, S163_180, S163_183, S163_184, S163_187, S163_188, S163_190, S163_193, S163_194, S163_195, S163_198, S163_200, S163_202, S163_203, S163_204, S163_205, S163_206, S163_207, S163_208, S163_209, S163_211, S163_214, S163_215, S163_216, S163_217, S163_219, S163_222, S163_223, S163_224, S163_225, S163_226, S163_229, S163_232, S163_235, S163_238, shp_93, RV_93_1, RV_93_13, RV_93_14, RV_93_15, RV_93_16, RV_93_17, RV_93_18, RV_93_19, RV_93_20, RV_93_23, RV_93_24, RV_93_27, RV_93_28, RV_93_29, kl_int, nI_add1] at this
      exact this
theorem m_al3 (hV : VR r) {s0 : AS} {i3 : Int32} : ∀ (n l : Nat) (hc : Hp) (K : Int32), l + n = rL r → hc.1 95 = r → alR r 107 (alLn r l s0) K hc → frm (fun a => a = 107) h hc →
    (∀ (hc' : Hp) (K' : Int32) (o4 : Option Value), hc'.1 95 = r → alR r 107 (alLn r (rL r) s0) K' hc' → frm (fun a => a = 107) h hc' → WP (d + 5) 163 69 [some (.ref 93), some (.int (maskOf (tre r))), some (.int K'), some (.int (i3 + 1)), o4] [] hc' Q) →
    WP (d + 5) 163 80 [some (.ref 93), some (.int (maskOf (tre r))), some (.int K), some (.int i3), some (.int (nI l))] [] hc Q := by
  have hP := hV.1
  have hL := hV.2.1
  intro n
  induction n with
  | zero =>
    intro l hc K hl hr hA hf kk
    have hcd : nI (rL r) ≤ nI l := nI_le (by omega) (by omega)
    have : l = rL r := by omega
    subst this
    rw [S163_80]
    simp only [S163_0, S163_1, S163_4, S163_5, S163_6, S163_9, S163_10, S163_11, S163_13, S163_14, S163_17, S163_20, S163_21, S163_24, S163_25, S163_26, S163_27, S163_30, S163_33, S163_34, S163_37, S163_39, S163_40, S163_41, S163_42, S163_45, S163_46, S163_47, S163_48, S163_49, S163_52, S163_55, S163_56, S163_57, S163_58, S163_59, S163_60, S163_61, S163_64, S163_67, S163_68, S163_70, S163_71, S163_74, S163_77, S163_78, S163_82, S163_83, S163_86, S163_89, S163_90, S163_92, S163_95, S163_98, S163_99, S163_100, S163_102, S163_105, S163_108, S163_109, S163_110, S163_112, S163_115, S163_118, S163_121, S163_124, S163_125, S163_126, S163_128, S163_131, S163_134, S163_137, S163_138, S163_141, S163_142, S163_144, S163_147, S163_148, S163_151, S163_152, S163_154, S163_157, S163_158, S163_159, S163_162, S163_164, S163_166, S163_167, S163_168, S163_169, S163_170, S163_173, S163_174, S163_177, S163_178, S163_180, S163_183, S163_184, S163_187, S163_188, S163_190, S163_193, S163_194, S163_195, S163_198, S163_200, S163_202, S163_203, S163_204, S163_205, S163_206, S163_207, S163_208, S163_209, S163_211, S163_214, S163_215, S163_216, S163_217, S163_219, S163_222, S163_223, S163_224, S163_225, S163_226, S163_229, S163_232, S163_235, S163_238, shp_93, RV_93_1, RV_93_13, RV_93_14, RV_93_15, RV_93_16, RV_93_17, RV_93_18, RV_93_19, RV_93_20, RV_93_23, RV_93_24, RV_93_27, RV_93_28, RV_93_29, m_lines, kR_at, hr, hL.1, if_pos hcd, kl_int]
    exact kk hc K _ hr hA hf
  | succ n ih =>
    intro l hc K hl hr hA hf kk
    have hcd : ¬ nI (rL r) ≤ nI l := nI_ge (by omega) (by omega)
    have hl11 : l < 11 := by omega
    have hV1 := hV.2.2.2 l (by omega)
    have a6 : rA r l < 6 := by omega
    have b6 : rB r l < 6 := by omega
    have o1 := ok107 a6
    have o2 := ok107 b6
    have c1 := nI_cl (n := rA r l) (by omega)
    have c2 := nI_cl (n := rB r l) (by omega)
    have o3 := ok95 (n := 36 + l) (by omega)
    have c3 := nI_cl (n := 36 + l) (by omega)
    rw [S163_80]
    simp only [S163_0, S163_1, S163_4, S163_5, S163_6, S163_9, S163_10, S163_11, S163_13, S163_14, S163_17, S163_20, S163_21, S163_24, S163_25, S163_26, S163_27, S163_30, S163_33, S163_34, S163_37, S163_39, S163_40, S163_41, S163_42, S163_45, S163_46, S163_47, S163_48, S163_49, S163_52, S163_55, S163_56, S163_57, S163_58, S163_59, S163_60, S163_61, S163_64, S163_67, S163_68, S163_70, S163_71, S163_74, S163_77, S163_78, S163_82, S163_83, S163_86, S163_89, S163_90, S163_92, S163_95, S163_98, S163_99, S163_100, S163_102, S163_105, S163_108, S163_109, S163_110, S163_112, S163_115, S163_118, S163_121, S163_124, S163_125, S163_126, S163_128, S163_131, S163_134, S163_137, S163_138, S163_141, S163_142, S163_144, S163_147, S163_148, S163_151, S163_152, S163_154, S163_157, S163_158, S163_159, S163_162, S163_164, S163_166, S163_167, S163_168, S163_169, S163_170, S163_173, S163_174, S163_177, S163_178, S163_180, S163_183, S163_184, S163_187, S163_188, S163_190, S163_193, S163_194, S163_195, S163_198, S163_200, S163_202, S163_203, S163_204, S163_205, S163_206, S163_207, S163_208, S163_209, S163_211, S163_214, S163_215, S163_216, S163_217, S163_219, S163_222, S163_223, S163_224, S163_225, S163_226, S163_229, S163_232, S163_235, S163_238, shp_93, RV_93_1, RV_93_13, RV_93_14, RV_93_15, RV_93_16, RV_93_17, RV_93_18, RV_93_19, RV_93_20, RV_93_23, RV_93_24, RV_93_27, RV_93_28, RV_93_29, m_lines, kR_at, hr, hL.1, if_neg hcd, m_has (show l < 32 by omega), b2i_mask (show l < 32 by omega), m_first hl11, m_second hl11, hV1.1.1, hV1.2.1.1, m_has (show rA r l < 32 by omega), m_has (show rB r l < 32 by omega), la_36, o1, o2, o3, c1, c2, c3, kl_int, nI_add1, s95_107]
    have step : ∀ (hc' : Hp) (K' : Int32), hc'.1 95 = r → alR r 107 (alS r l (alLn r l s0)) K' hc' → frm (fun a => a = 107) h hc' → WP (d + 5) 163 80 [some (.ref 93), some (.int (maskOf (tre r))), some (.int K'), some (.int i3), some (.int (nI (l + 1)))] [] hc' Q := fun hc' K' q1 q2 q3 => ih (l + 1) hc' K' (by omega) q1 q2 q3 kk
    by_cases ht : tre r l
    · rw [if_neg (fun z => pb_0.mp z ht)]
      cases qa : bt K (rA r l) with
      | true =>
        have ha : (alLn r l s0).1 (rA r l) := (hA.1 _ (by omega)).mp qa
        cases qb : bt K (rB r l) with
        | true =>
          have hb : (alLn r l s0).1 (rB r l) := (hA.1 _ (by omega)).mp qb
          rw [if_pos rfl]
          exact step hc K hr (by rw [alS_no (fun z => z.2 ⟨fun _ => hb, fun _ => ha⟩)]; exact hA) hf
        | false =>
          have hb : ¬ (alLn r l s0).1 (rB r l) := fun z => by rw [(hA.1 _ (by omega)).mpr z] at qb; cases qb
          rw [if_neg (by decide), if_neg (by decide)]
          refine step _ _ (by rw [setI_1 (by decide)]; exact hr) ?_ (frm_tr hf (frm_I rfl))
          rw [alS_a ht ha hb]
          refine ⟨fun i hi => ?_, fun j hj => ?_⟩
          · rw [b_or, b_or, b_one (by omega) hi, b_one (by omega) hi, Bool.or_eq_true, Bool.or_eq_true, hA.1 i hi, decide_eq_true_eq, decide_eq_true_eq]
          · rw [setI_rd]
            unfold upd
            dsimp only
            by_cases e : j = rB r l
            · rw [if_pos ⟨rfl, e⟩, if_pos e, hA.2 _ (by omega)]
            · rw [if_neg (fun z => e z.2), if_neg e, hA.2 _ hj]
      | false =>
        have ha : ¬ (alLn r l s0).1 (rA r l) := fun z => by rw [(hA.1 _ (by omega)).mpr z] at qa; cases qa
        cases qb : bt K (rB r l) with
        | true =>
          have hb : (alLn r l s0).1 (rB r l) := (hA.1 _ (by omega)).mp qb
          rw [if_neg (by decide), if_pos (by decide)]
          refine step _ _ (by rw [setI_1 (by decide)]; exact hr) ?_ (frm_tr hf (frm_I rfl))
          rw [alS_b ht ha hb]
          refine ⟨fun i hi => ?_, fun j hj => ?_⟩
          · rw [b_or, b_or, b_one (by omega) hi, b_one (by omega) hi, Bool.or_eq_true, Bool.or_eq_true, hA.1 i hi, decide_eq_true_eq, decide_eq_true_eq]
          · rw [setI_rd]
            unfold upd
            dsimp only
            by_cases e : j = rA r l
            · rw [if_pos ⟨rfl, e⟩, if_pos e, hA.2 _ (by omega)]
            · rw [if_neg (fun z => e z.2), if_neg e, hA.2 _ hj]
        | false =>
          have hb : ¬ (alLn r l s0).1 (rB r l) := fun z => by rw [(hA.1 _ (by omega)).mpr z] at qb; cases qb
          rw [if_pos rfl]
          exact step hc K hr (by rw [alS_no (fun z => z.2 ⟨fun q => absurd q ha, fun q => absurd q hb⟩)]; exact hA) hf
    · rw [if_pos (pb_0.mpr ht)]
      exact step hc K hr (by rw [alS_no (fun z => ht z.1)]; exact hA) hf
theorem m_al2 (hV : VR r) : ∀ (n k : Nat) (hc : Hp) (K : Int32) (o4 : Option Value), k + n = rP r → hc.1 95 = r → alR r 107 (alRd r k (al0 r)) K hc → frm (fun a => a = 107) h hc →
    (∀ hc' : Hp, hc'.1 95 = r → (∀ j, j < rP r → hc'.1 107 j = (alF r).2 j) → frm (fun a => a = 107) h hc' → Q (some none) hc') →
    WP (d + 5) 163 69 [some (.ref 93), some (.int (maskOf (tre r))), some (.int K), some (.int (nI k)), o4] [] hc Q := by
  have hP := hV.1
  intro n
  induction n with
  | zero =>
    intro k hc K o4 hk hr hA hf kk
    have hcd : nI (rP r) ≤ nI k := nI_le (by omega) (by omega)
    have : k = rP r := by omega
    subst this
    rw [S163_69]
    simp only [S163_0, S163_1, S163_4, S163_5, S163_6, S163_9, S163_10, S163_11, S163_13, S163_14, S163_17, S163_20, S163_21, S163_24, S163_25, S163_26, S163_27, S163_30, S163_33, S163_34, S163_37, S163_39, S163_40, S163_41, S163_42, S163_45, S163_46, S163_47, S163_48, S163_49, S163_52, S163_55, S163_56, S163_57, S163_58, S163_59, S163_60, S163_61, S163_64, S163_67, S163_68, S163_70, S163_71, S163_74, S163_77, S163_78, S163_82, S163_83, S163_86, S163_89, S163_90, S163_92, S163_95, S163_98, S163_99, S163_100, S163_102, S163_105, S163_108, S163_109, S163_110, S163_112, S163_115, S163_118, S163_121, S163_124, S163_125, S163_126, S163_128, S163_131, S163_134, S163_137, S163_138, S163_141, S163_142, S163_144, S163_147, S163_148, S163_151, S163_152, S163_154, S163_157, S163_158, S163_159, S163_162, S163_164, S163_166, S163_167, S163_168, S163_169, S163_170, S163_173, S163_174, S163_177, S163_178, S163_180, S163_183, S163_184, S163_187, S163_188, S163_190, S163_193, S163_194, S163_195, S163_198, S163_200, S163_202, S163_203, S163_204, S163_205, S163_206, S163_207, S163_208, S163_209, S163_211, S163_214, S163_215, S163_216, S163_217, S163_219, S163_222, S163_223, S163_224, S163_225, S163_226, S163_229, S163_232, S163_235, S163_238, shp_93, RV_93_1, RV_93_13, RV_93_14, RV_93_15, RV_93_16, RV_93_17, RV_93_18, RV_93_19, RV_93_20, RV_93_23, RV_93_24, RV_93_27, RV_93_28, RV_93_29, m_points, kR_at, hr, hP.1, if_pos hcd]
    exact kk hc hr hA.2 hf
  | succ n ih =>
    intro k hc K o4 hk hr hA hf kk
    have hcd : ¬ nI (rP r) ≤ nI k := nI_ge (by omega) (by omega)
    rw [S163_69]
    simp only [S163_0, S163_1, S163_4, S163_5, S163_6, S163_9, S163_10, S163_11, S163_13, S163_14, S163_17, S163_20, S163_21, S163_24, S163_25, S163_26, S163_27, S163_30, S163_33, S163_34, S163_37, S163_39, S163_40, S163_41, S163_42, S163_45, S163_46, S163_47, S163_48, S163_49, S163_52, S163_55, S163_56, S163_57, S163_58, S163_59, S163_60, S163_61, S163_64, S163_67, S163_68, S163_70, S163_71, S163_74, S163_77, S163_78, S163_82, S163_83, S163_86, S163_89, S163_90, S163_92, S163_95, S163_98, S163_99, S163_100, S163_102, S163_105, S163_108, S163_109, S163_110, S163_112, S163_115, S163_118, S163_121, S163_124, S163_125, S163_126, S163_128, S163_131, S163_134, S163_137, S163_138, S163_141, S163_142, S163_144, S163_147, S163_148, S163_151, S163_152, S163_154, S163_157, S163_158, S163_159, S163_162, S163_164, S163_166, S163_167, S163_168, S163_169, S163_170, S163_173, S163_174, S163_177, S163_178, S163_180, S163_183, S163_184, S163_187, S163_188, S163_190, S163_193, S163_194, S163_195, S163_198, S163_200, S163_202, S163_203, S163_204, S163_205, S163_206, S163_207, S163_208, S163_209, S163_211, S163_214, S163_215, S163_216, S163_217, S163_219, S163_222, S163_223, S163_224, S163_225, S163_226, S163_229, S163_232, S163_235, S163_238, shp_93, RV_93_1, RV_93_13, RV_93_14, RV_93_15, RV_93_16, RV_93_17, RV_93_18, RV_93_19, RV_93_20, RV_93_23, RV_93_24, RV_93_27, RV_93_28, RV_93_29, m_points, kR_at, hr, hP.1, if_neg hcd, kl_int]
    rw [nI_l0]
    refine m_al3 hV (rL r) 0 hc K (by omega) hr hA hf (fun hc' K' o4' q1 q2 q3 => ?_)
    rw [nI_add1]
    exact ih (k + 1) hc' K' o4' (by omega) q1 q2 q3 kk
theorem m_laysAlong (hr : h.1 95 = r) (hV : VR r) (kk : ∀ hc' : Hp, (∀ j, j < rP r → hc'.1 107 j = (alF r).2 j) → frm (fun a => a = 107) h hc' → Q (some none) hc') : WP (d + 5) 163 0 [some (.ref 93), none, none, none, none] [] h Q := by
  have hV' : VR (h.1 95) := by rw [hr]; exact hV
  simp only [S163_0, S163_1, S163_4, S163_5, S163_6, S163_9, S163_10, S163_11, S163_13, S163_14, S163_17, S163_20, S163_21, S163_24, S163_25, S163_26, S163_27, S163_30, S163_33, S163_34, S163_37, S163_39, S163_40, S163_41, S163_42, S163_45, S163_46, S163_47, S163_48, S163_49, S163_52, S163_55, S163_56, S163_57, S163_58, S163_59, S163_60, S163_61, S163_64, S163_67, S163_68, S163_70, S163_71, S163_74, S163_77, S163_78, S163_82, S163_83, S163_86, S163_89, S163_90, S163_92, S163_95, S163_98, S163_99, S163_100, S163_102, S163_105, S163_108, S163_109, S163_110, S163_112, S163_115, S163_118, S163_121, S163_124, S163_125, S163_126, S163_128, S163_131, S163_134, S163_137, S163_138, S163_141, S163_142, S163_144, S163_147, S163_148, S163_151, S163_152, S163_154, S163_157, S163_158, S163_159, S163_162, S163_164, S163_166, S163_167, S163_168, S163_169, S163_170, S163_173, S163_174, S163_177, S163_178, S163_180, S163_183, S163_184, S163_187, S163_188, S163_190, S163_193, S163_194, S163_195, S163_198, S163_200, S163_202, S163_203, S163_204, S163_205, S163_206, S163_207, S163_208, S163_209, S163_211, S163_214, S163_215, S163_216, S163_217, S163_219, S163_222, S163_223, S163_224, S163_225, S163_226, S163_229, S163_232, S163_235, S163_238, shp_93, RV_93_1, RV_93_13, RV_93_14, RV_93_15, RV_93_16, RV_93_17, RV_93_18, RV_93_19, RV_93_20, RV_93_23, RV_93_24, RV_93_27, RV_93_28, RV_93_29, m_tree hV', m_fixed hV', kR_at, kl_int, kl_ref, hr]
  rw [nI_l0]
  refine m_al1 hV (rP r) 0 h _ (by omega) hr (fun i hi => ?_) (fun j hj => by omega) frm_rf (fun hc' K' q1 q2 q3 => ?_)
  · rw [bt_mask hi]
    exact ⟨Or.inl, fun q => q.elim id (fun z => by omega)⟩
  · simp only [S163_0, S163_1, S163_4, S163_5, S163_6, S163_9, S163_10, S163_11, S163_13, S163_14, S163_17, S163_20, S163_21, S163_24, S163_25, S163_26, S163_27, S163_30, S163_33, S163_34, S163_37, S163_39, S163_40, S163_41, S163_42, S163_45, S163_46, S163_47, S163_48, S163_49, S163_52, S163_55, S163_56, S163_57, S163_58, S163_59, S163_60, S163_61, S163_64, S163_67, S163_68, S163_70, S163_71, S163_74, S163_77, S163_78, S163_82, S163_83, S163_86, S163_89, S163_90, S163_92, S163_95, S163_98, S163_99, S163_100, S163_102, S163_105, S163_108, S163_109, S163_110, S163_112, S163_115, S163_118, S163_121, S163_124, S163_125, S163_126, S163_128, S163_131, S163_134, S163_137, S163_138, S163_141, S163_142, S163_144, S163_147, S163_148, S163_151, S163_152, S163_154, S163_157, S163_158, S163_159, S163_162, S163_164, S163_166, S163_167, S163_168, S163_169, S163_170, S163_173, S163_174, S163_177, S163_178, S163_180, S163_183, S163_184, S163_187, S163_188, S163_190, S163_193, S163_194, S163_195, S163_198, S163_200, S163_202, S163_203, S163_204, S163_205, S163_206, S163_207, S163_208, S163_209, S163_211, S163_214, S163_215, S163_216, S163_217, S163_219, S163_222, S163_223, S163_224, S163_225, S163_226, S163_229, S163_232, S163_235, S163_238, kl_int]
    rw [nI_l0]
    exact m_al2 hV (rP r) 0 hc' K' _ (by omega) q1 q2 q3 (fun hc' _ => kk hc')
theorem m_closing {l : Nat} (hr : h.1 95 = r) (hV : VR r) (hl : l < rL r) : WP (d + 1) 164 0 [some (.ref 93), some (.int (nI l))] [] h Q ↔ Q (some (some (.int (r (36 + l) - h.1 107 (rB r l) + h.1 107 (rA r l))))) h := by
  have hP := hV.1
  have hL := hV.2.1
  have hl11 : l < 11 := by omega
  have hV1 := hV.2.2.2 l hl
  have o1 := ok107 (n := rA r l) (by omega)
  have o2 := ok107 (n := rB r l) (by omega)
  have c1 := nI_cl (n := rA r l) (by omega)
  have c2 := nI_cl (n := rB r l) (by omega)
  have o3 := ok95 (n := 36 + l) (by omega)
  have c3 := nI_cl (n := 36 + l) (by omega)
  simp only [S164_0, S164_1, S164_4, S164_6, S164_7, S164_8, S164_9, S164_10, S164_13, S164_14, S164_15, S164_18, S164_19, S164_20, S164_21, S164_24, S164_25, S164_26, S164_29, S164_30, S164_31, shp_93, RV_93_1, RV_93_13, RV_93_14, RV_93_15, RV_93_16, RV_93_17, RV_93_18, RV_93_19, RV_93_20, RV_93_23, RV_93_24, RV_93_27, RV_93_28, RV_93_29, kR_at, hr, m_first hl11, m_second hl11, hV1.1.1, hV1.2.1.1, la_36, o1, o2, o3, c1, c2, c3]
end
