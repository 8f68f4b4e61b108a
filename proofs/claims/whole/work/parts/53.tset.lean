/-! What the class settles of ties. -/
def tiOK (r : Nat → Int32) (h : Hp) : Prop := tiA r h ∧ h.1 8 2 = maskOf (rngL r) ∧ h.1 8 3 = maskOf (brg r) ∧ ∀ j, j < rP r → h.1 11 j = (alF r).2 j ∧ h.1 10 j = (wyRd r (rP r) (wy0 r)).2 j
theorem tiOK_frm {S : Nat → Prop} {h h' : Hp} {r : Nat → Int32} (hf : frm S h h') (hS : ∀ a, 8 ≤ a → a ≤ 11 → ¬ S a) (ht : tiOK r h) : tiOK r h' := by
  unfold tiOK tiA
  rw [(hf.1 8 (hS 8 (by omega) (by omega))).1, (hf.1 9 (hS 9 (by omega) (by omega))).1, (hf.1 10 (hS 10 (by omega) (by omega))).1, (hf.1 11 (hS 11 (by omega) (by omega))).1]
  exact ht
section
variable {d : Nat} {h : Hp} {Q : Option (Option Value) → Hp → Prop} {x y z : Int32} {k l p q : Nat} {r : Nat → Int32}
theorem c_ringOf (hV : VR r) (hN : CN h 21 r) (hl : l < rL r) : WP d 47 0 [some (.ref 8), some (.ref 21), some (.int (nI l))] [] h Q ↔ Q (some (some (.int (h.1 10 (rA r l) ^^^ h.1 10 (rB r l))))) h := by
  have hP := hV.1
  have hL := hV.2.1
  have hVl := hV.2.2.2 l hl
  have hNl := hN.2.2.2.2.2 l hl
  have o1 := ok23 (n := l) (by omega)
  have o2 := ok24 (n := l) (by omega)
  have c0 := nI_cl (n := l) (by omega)
  have c1 := nI_cl (n := rA r l) (by omega)
  have c2 := nI_cl (n := rB r l) (by omega)
  have oa := ok10 (n := rA r l) (by omega)
  have ob := ok10 (n := rB r l) (by omega)
  simp only [S47_0, S47_1, S47_4, S47_5, S47_8, S47_9, S47_10, S47_11, S47_12, S47_15, S47_16, S47_19, S47_20, S47_21, S47_22, S47_23, shp_8, RV_8_0, RV_8_5, RV_8_6, shp_21, RV_21_2, RV_21_5, RV_21_6, RV_21_7, RV_21_8, o1, o2, c0, hNl.1, hNl.2.1, hVl.1.1, hVl.2.1.1, oa, ob, c1, c2]
theorem c_closingOf (hV : VR r) (hN : CN h 21 r) (hl : l < rL r) : WP d 48 0 [some (.ref 8), some (.ref 21), some (.int (nI l))] [] h Q ↔ Q (some (some (.int (r (36 + l) - (h.1 11 (rB r l) - h.1 11 (rA r l)))))) h := by
  have hP := hV.1
  have hL := hV.2.1
  have hVl := hV.2.2.2 l hl
  have hNl := hN.2.2.2.2.2 l hl
  have o1 := ok23 (n := l) (by omega)
  have o2 := ok24 (n := l) (by omega)
  have o3 := ok25 (n := l) (by omega)
  have c0 := nI_cl (n := l) (by omega)
  have c1 := nI_cl (n := rA r l) (by omega)
  have c2 := nI_cl (n := rB r l) (by omega)
  have oa := ok11 (n := rA r l) (by omega)
  have ob := ok11 (n := rB r l) (by omega)
  simp only [S48_0, S48_1, S48_4, S48_5, S48_6, S48_7, S48_10, S48_11, S48_14, S48_15, S48_16, S48_17, S48_18, S48_21, S48_22, S48_25, S48_26, S48_27, S48_28, S48_29, S48_30, shp_8, RV_8_0, RV_8_5, RV_8_6, shp_21, RV_21_2, RV_21_5, RV_21_6, RV_21_7, RV_21_8, o1, o2, o3, c0, hNl.1, hNl.2.1, hNl.2.2.1, hVl.1.1, hVl.2.1.1, oa, ob, c1, c2]
theorem c_tset1 : ∀ (n p : Nat) (hc : Hp) (o3 o4 : Option Value), p + n = 6 → frm (fun a => 9 ≤ a ∧ a ≤ 11) h hc → (∀ j, j < p → hc.1 9 j = nI j ∧ hc.1 10 j = 0 ∧ hc.1 11 j = 0) →
    (∀ hc' : Hp, frm (fun a => 9 ≤ a ∧ a ≤ 11) h hc' → (∀ j, j < 6 → hc'.1 9 j = nI j ∧ hc'.1 10 j = 0 ∧ hc'.1 11 j = 0) → WP d 44 35 [some (.ref 8), some (.ref 21), some (.int 6), o3, o4] [] hc' Q) →
    WP d 44 2 [some (.ref 8), some (.ref 21), some (.int (nI p)), o3, o4] [] hc Q := by
  intro n
  induction n with
  | zero =>
    intro p hc o3 o4 hp hf hj kk
    have : p = 6 := by omega
    subst this
    rw [S44_2]
    have k1 := kk hc hf hj
    simp only [S44_0, S44_1, S44_3, S44_5, S44_8, S44_9, S44_12, S44_13, S44_14, S44_15, S44_16, S44_19, S44_20, S44_21, S44_22, S44_23, S44_26, S44_27, S44_28, S44_29, S44_32, S44_35, S44_36, S44_37, S44_40, S44_41, S44_42, S44_43, S44_46, S44_47, S44_48, S44_49, S44_52, S44_53, S44_56, S44_57, S44_60, S44_61, S44_62, S44_65, S44_66, S44_67, S44_70, S44_71, S44_72, S44_75, S44_76, S44_79, S44_80, S44_81, S44_82, S44_85, S44_86, S44_87, S44_88, S44_92, S44_93, S44_96, S44_99, S44_100, S44_103, S44_105, S44_108, S44_109, S44_112, S44_113, S44_114, S44_115, S44_117, S44_120, S44_121, S44_122, S44_125, S44_128, S44_129, S44_130, S44_133, S44_134, S44_135, S44_136, S44_137, S44_140, shp_8, RV_8_0, RV_8_5, RV_8_6, shp_21, RV_21_2, RV_21_5, RV_21_6, RV_21_7, RV_21_8] at k1 ⊢
    rw [if_pos (by decide)]
    exact k1
  | succ n ih =>
    intro p hc o3 o4 hp hf hj kk
    have hp6 : p < 6 := by omega
    have c1 := nI_cl (n := p) (by omega)
    rw [S44_2]
    simp only [S44_0, S44_1, S44_3, S44_5, S44_8, S44_9, S44_12, S44_13, S44_14, S44_15, S44_16, S44_19, S44_20, S44_21, S44_22, S44_23, S44_26, S44_27, S44_28, S44_29, S44_32, S44_35, S44_36, S44_37, S44_40, S44_41, S44_42, S44_43, S44_46, S44_47, S44_48, S44_49, S44_52, S44_53, S44_56, S44_57, S44_60, S44_61, S44_62, S44_65, S44_66, S44_67, S44_70, S44_71, S44_72, S44_75, S44_76, S44_79, S44_80, S44_81, S44_82, S44_85, S44_86, S44_87, S44_88, S44_92, S44_93, S44_96, S44_99, S44_100, S44_103, S44_105, S44_108, S44_109, S44_112, S44_113, S44_114, S44_115, S44_117, S44_120, S44_121, S44_122, S44_125, S44_128, S44_129, S44_130, S44_133, S44_134, S44_135, S44_136, S44_137, S44_140, shp_8, RV_8_0, RV_8_5, RV_8_6, shp_21, RV_21_2, RV_21_5, RV_21_6, RV_21_7, RV_21_8, if_neg (lt6 hp6), ok9 hp6, ok10 hp6, ok11 hp6, c1, kl_int, kl_ref, nI_add1]
    refine ih (p + 1) _ o3 o4 (by omega) (frm_tr hf (frm_tr (frm_I ⟨by decide, by decide⟩) (frm_tr (frm_I ⟨by decide, by decide⟩) (frm_I ⟨by decide, by decide⟩)))) (fun j hjp => ?_) kk
    simp only [setI_rd]
    by_cases e : j = p
    · subst e
      simp
    · have := hj j (by omega)
      simp [e, this]
theorem c_tset2 (hV : VR r) (hN : CN h 21 r) (hR : h.1 8 2 = maskOf (rngL r)) (hW : ∀ j, j < rP r → h.1 10 j = (wyRd r (rP r) (wy0 r)).2 j) {i2 : Int32} : ∀ (n l : Nat) (ch : Int32), l + n = rL r → (∀ e, e < 32 → (bt ch e = true ↔ ∃ k, k < l ∧ rngL r k ∧ rng r k e)) →
    (∀ ch' : Int32, (∀ e, e < 32 → (bt ch' e = true ↔ ∃ k, rngL r k ∧ rng r k e)) → WP (d + 1) 44 128 [some (.ref 8), some (.ref 21), some (.int i2), some (.int ch'), some (.int (nI (rL r)))] [] h Q) →
    WP (d + 1) 44 90 [some (.ref 8), some (.ref 21), some (.int i2), some (.int ch), some (.int (nI l))] [] h Q := by
  have hP := hV.1
  have hL := hV.2.1
  intro n
  induction n with
  | zero =>
    intro l ch hl hch kk
    have hcd : nI (rL r) ≤ nI l := nI_le (by omega) (by omega)
    have : l = rL r := by omega
    subst this
    rw [S44_90]
    have k1 := kk ch (fun e he => (hch e he).trans ⟨fun ⟨k, _, b, c⟩ => ⟨k, b, c⟩, fun ⟨k, b, c⟩ => ⟨k, b.1.1, b, c⟩⟩)
    simp only [S44_0, S44_1, S44_3, S44_5, S44_8, S44_9, S44_12, S44_13, S44_14, S44_15, S44_16, S44_19, S44_20, S44_21, S44_22, S44_23, S44_26, S44_27, S44_28, S44_29, S44_32, S44_35, S44_36, S44_37, S44_40, S44_41, S44_42, S44_43, S44_46, S44_47, S44_48, S44_49, S44_52, S44_53, S44_56, S44_57, S44_60, S44_61, S44_62, S44_65, S44_66, S44_67, S44_70, S44_71, S44_72, S44_75, S44_76, S44_79, S44_80, S44_81, S44_82, S44_85, S44_86, S44_87, S44_88, S44_92, S44_93, S44_96, S44_99, S44_100, S44_103, S44_105, S44_108, S44_109, S44_112, S44_113, S44_114, S44_115, S44_117, S44_120, S44_121, S44_122, S44_125, S44_128, S44_129, S44_130, S44_133, S44_134, S44_135, S44_136, S44_137, S44_140, shp_8, RV_8_0, RV_8_5, RV_8_6, shp_21, RV_21_2, RV_21_5, RV_21_6, RV_21_7, RV_21_8, hN.2.2.1, hL.1, if_pos hcd] at k1 ⊢
    exact k1
  | succ n ih =>
    intro l ch hl hch kk
    have hcd : ¬ nI (rL r) ≤ nI l := nI_ge (by omega) (by omega)
    have hlt : l < rL r := by omega
    have hVl := hV.2.2.2 l hlt
    rw [S44_90]
    simp only [S44_0, S44_1, S44_3, S44_5, S44_8, S44_9, S44_12, S44_13, S44_14, S44_15, S44_16, S44_19, S44_20, S44_21, S44_22, S44_23, S44_26, S44_27, S44_28, S44_29, S44_32, S44_35, S44_36, S44_37, S44_40, S44_41, S44_42, S44_43, S44_46, S44_47, S44_48, S44_49, S44_52, S44_53, S44_56, S44_57, S44_60, S44_61, S44_62, S44_65, S44_66, S44_67, S44_70, S44_71, S44_72, S44_75, S44_76, S44_79, S44_80, S44_81, S44_82, S44_85, S44_86, S44_87, S44_88, S44_92, S44_93, S44_96, S44_99, S44_100, S44_103, S44_105, S44_108, S44_109, S44_112, S44_113, S44_114, S44_115, S44_117, S44_120, S44_121, S44_122, S44_125, S44_128, S44_129, S44_130, S44_133, S44_134, S44_135, S44_136, S44_137, S44_140, shp_8, RV_8_0, RV_8_5, RV_8_6, shp_21, RV_21_2, RV_21_5, RV_21_6, RV_21_7, RV_21_8, hN.2.2.1, hL.1, if_neg hcd, hR, c_bit, bitm (show l < 32 by omega), c_ringOf hV hN hlt, kR_at, kl_int, nI_add1]
    by_cases hg : rngL r l
    · rw [if_pos (pb_1.mpr hg), hW _ hVl.1.2, hW _ hVl.2.1.2, wy_ring hV hg]
      refine ih (l + 1) _ (by omega) (fun e he => ?_) kk
      rw [b_or, Bool.or_eq_true, hch e he, bt_mask he]
      constructor
      · rintro (⟨k, a, b, c⟩ | c)
        · exact ⟨k, by omega, b, c⟩
        · exact ⟨l, by omega, hg, c⟩
      · rintro ⟨k, a, b, c⟩
        by_cases e2 : k = l
        · subst e2; exact Or.inr c
        · exact Or.inl ⟨k, by omega, b, c⟩
    · rw [if_neg (fun z => hg (pb_1.mp z))]
      refine ih (l + 1) _ (by omega) (fun e he => ?_) kk
      rw [hch e he]
      constructor
      · rintro ⟨k, a, b, c⟩
        exact ⟨k, by omega, b, c⟩
      · rintro ⟨k, a, b, c⟩
        refine ⟨k, ?_, b, c⟩
        by_cases e2 : k = l
        · subst e2; exact absurd b hg
        · omega
theorem c_tsettle (hV : VR r) (hN : CN h 21 r) (kk : ∀ hc' : Hp, frm (fun a => 8 ≤ a ∧ a ≤ 11) h hc' → tiOK r hc' → Q (some none) hc') : WP (d + 3) 44 0 [some (.ref 8), some (.ref 21), none, none, none] [] h Q := by
  have hP := hV.1
  have hL := hV.2.1
  have hS : ∀ a, 21 ≤ a → a ≤ 21 + 5 → ¬ (fun a => 8 ≤ a ∧ a ≤ 11) a := fun a h1 h2 h3 => by have := h3.2; omega
  simp only [S44_0, S44_1, S44_3, S44_5, S44_8, S44_9, S44_12, S44_13, S44_14, S44_15, S44_16, S44_19, S44_20, S44_21, S44_22, S44_23, S44_26, S44_27, S44_28, S44_29, S44_32, S44_35, S44_36, S44_37, S44_40, S44_41, S44_42, S44_43, S44_46, S44_47, S44_48, S44_49, S44_52, S44_53, S44_56, S44_57, S44_60, S44_61, S44_62, S44_65, S44_66, S44_67, S44_70, S44_71, S44_72, S44_75, S44_76, S44_79, S44_80, S44_81, S44_82, S44_85, S44_86, S44_87, S44_88, S44_92, S44_93, S44_96, S44_99, S44_100, S44_103, S44_105, S44_108, S44_109, S44_112, S44_113, S44_114, S44_115, S44_117, S44_120, S44_121, S44_122, S44_125, S44_128, S44_129, S44_130, S44_133, S44_134, S44_135, S44_136, S44_137, S44_140, kl_ref]
  rw [nI_l0]
  refine c_tset1 (h := h) 6 0 h none none (by omega) frm_rf (fun j hj => by omega) (fun h1 f1 q1 => ?_)
  have f1' : frm (fun a => 8 ≤ a ∧ a ≤ 11) h h1 := frm_mono (fun a z => ⟨by omega, z.2⟩) f1
  have hN1 := CN_frm f1' hS hN
  simp only [S44_0, S44_1, S44_3, S44_5, S44_8, S44_9, S44_12, S44_13, S44_14, S44_15, S44_16, S44_19, S44_20, S44_21, S44_22, S44_23, S44_26, S44_27, S44_28, S44_29, S44_32, S44_35, S44_36, S44_37, S44_40, S44_41, S44_42, S44_43, S44_46, S44_47, S44_48, S44_49, S44_52, S44_53, S44_56, S44_57, S44_60, S44_61, S44_62, S44_65, S44_66, S44_67, S44_70, S44_71, S44_72, S44_75, S44_76, S44_79, S44_80, S44_81, S44_82, S44_85, S44_86, S44_87, S44_88, S44_92, S44_93, S44_96, S44_99, S44_100, S44_103, S44_105, S44_108, S44_109, S44_112, S44_113, S44_114, S44_115, S44_117, S44_120, S44_121, S44_122, S44_125, S44_128, S44_129, S44_130, S44_133, S44_134, S44_135, S44_136, S44_137, S44_140, shp_8, RV_8_0, RV_8_5, RV_8_6, shp_21, RV_21_2, RV_21_5, RV_21_6, RV_21_7, RV_21_8, kl_ref, kl_int]
  refine c_tieFixed hV hN1 (fun j hj => (q1 j hj).1) (fun h2 f hN2 f2 j1 j2 j3 => ?_)
  have f2' : frm (fun a => 8 ≤ a ∧ a ≤ 11) h1 h2 := frm_mono (fun a z => by have : a = 9 := z; omega) f2
  simp only [kR_at, S44_0, S44_1, S44_3, S44_5, S44_8, S44_9, S44_12, S44_13, S44_14, S44_15, S44_16, S44_19, S44_20, S44_21, S44_22, S44_23, S44_26, S44_27, S44_28, S44_29, S44_32, S44_35, S44_36, S44_37, S44_40, S44_41, S44_42, S44_43, S44_46, S44_47, S44_48, S44_49, S44_52, S44_53, S44_56, S44_57, S44_60, S44_61, S44_62, S44_65, S44_66, S44_67, S44_70, S44_71, S44_72, S44_75, S44_76, S44_79, S44_80, S44_81, S44_82, S44_85, S44_86, S44_87, S44_88, S44_92, S44_93, S44_96, S44_99, S44_100, S44_103, S44_105, S44_108, S44_109, S44_112, S44_113, S44_114, S44_115, S44_117, S44_120, S44_121, S44_122, S44_125, S44_128, S44_129, S44_130, S44_133, S44_134, S44_135, S44_136, S44_137, S44_140, shp_8, RV_8_0, RV_8_5, RV_8_6, shp_21, RV_21_2, RV_21_5, RV_21_6, RV_21_7, RV_21_8, kl_ref, kl_int]
  refine c_growTree (d := d + 1) hV hN2 j3 (fun h3 hN3 f3 g1 g2 g3 => ?_)
  have f3' : frm (fun a => 8 ≤ a ∧ a ≤ 11) h2 h3 := frm_mono (fun a z => by rcases z with z | z <;> omega) f3
  simp only [kV_at, S44_0, S44_1, S44_3, S44_5, S44_8, S44_9, S44_12, S44_13, S44_14, S44_15, S44_16, S44_19, S44_20, S44_21, S44_22, S44_23, S44_26, S44_27, S44_28, S44_29, S44_32, S44_35, S44_36, S44_37, S44_40, S44_41, S44_42, S44_43, S44_46, S44_47, S44_48, S44_49, S44_52, S44_53, S44_56, S44_57, S44_60, S44_61, S44_62, S44_65, S44_66, S44_67, S44_70, S44_71, S44_72, S44_75, S44_76, S44_79, S44_80, S44_81, S44_82, S44_85, S44_86, S44_87, S44_88, S44_92, S44_93, S44_96, S44_99, S44_100, S44_103, S44_105, S44_108, S44_109, S44_112, S44_113, S44_114, S44_115, S44_117, S44_120, S44_121, S44_122, S44_125, S44_128, S44_129, S44_130, S44_133, S44_134, S44_135, S44_136, S44_137, S44_140, shp_8, RV_8_0, RV_8_5, RV_8_6, shp_21, RV_21_2, RV_21_5, RV_21_6, RV_21_7, RV_21_8, kl_ref, kl_int]
  -- the part of the fixed points
  have fin : ∀ (fp : Int32), (∀ j, f = some j → fxd r j ∧ fp = nI (ptOf r j)) → (f = none → fp = -1 ∧ ∀ i, ¬ fxd r i) → WP (d + 3) 44 62 [some (.ref 8), some (.ref 21), some (.int (match f with | some j => nI j | none => -1)), none, none] [.int fp, .ref 8] h3 Q := by
    intro fp k1 k2
    have f4 : frm (fun a => 8 ≤ a ∧ a ≤ 11) h3 (setI h3 8 4 fp) := frm_I ⟨by decide, by decide⟩
    have hN4 := CN_frm f4 hS hN3
    have hT : tiA r (setI h3 8 4 fp) := by
      refine ⟨by rw [setI_rd, if_neg (by decide)]; exact g2, fun j hj => by rw [setI_1 (by decide)]; exact g3 j hj, fun p hp => ?_⟩
      rw [setI_rd, if_pos ⟨rfl, rfl⟩]
      exact rt_lab hV hp k1 k2
    have e10 : ∀ a, a = 10 ∨ a = 11 → (setI h3 8 4 fp).1 a = h1.1 a := by
      intro a ha
      rw [setI_1 (by omega), (f3.1 a (by omega)).1, (f2.1 a (by show ¬ a = 9; omega)).1]
    simp only [S44_0, S44_1, S44_3, S44_5, S44_8, S44_9, S44_12, S44_13, S44_14, S44_15, S44_16, S44_19, S44_20, S44_21, S44_22, S44_23, S44_26, S44_27, S44_28, S44_29, S44_32, S44_35, S44_36, S44_37, S44_40, S44_41, S44_42, S44_43, S44_46, S44_47, S44_48, S44_49, S44_52, S44_53, S44_56, S44_57, S44_60, S44_61, S44_62, S44_65, S44_66, S44_67, S44_70, S44_71, S44_72, S44_75, S44_76, S44_79, S44_80, S44_81, S44_82, S44_85, S44_86, S44_87, S44_88, S44_92, S44_93, S44_96, S44_99, S44_100, S44_103, S44_105, S44_108, S44_109, S44_112, S44_113, S44_114, S44_115, S44_117, S44_120, S44_121, S44_122, S44_125, S44_128, S44_129, S44_130, S44_133, S44_134, S44_135, S44_136, S44_137, S44_140, shp_8, RV_8_0, RV_8_5, RV_8_6, shp_21, RV_21_2, RV_21_5, RV_21_6, RV_21_7, RV_21_8, kl_ref, kl_int]
    refine c_walkTree (d := d) hV hN4 hT (fun j hj => by rw [e10 10 (Or.inl rfl)]; exact (q1 j hj).2.1) (fun j hj => by rw [e10 11 (Or.inr rfl)]; exact (q1 j hj).2.2) (fun h5 hN5 hT5 f5 w5 => ?_)
    have f5' : frm (fun a => 8 ≤ a ∧ a ≤ 11) (setI h3 8 4 fp) h5 := frm_mono (fun a z => by rcases z with z | z <;> omega) f5
    simp only [kV_at, S44_0, S44_1, S44_3, S44_5, S44_8, S44_9, S44_12, S44_13, S44_14, S44_15, S44_16, S44_19, S44_20, S44_21, S44_22, S44_23, S44_26, S44_27, S44_28, S44_29, S44_32, S44_35, S44_36, S44_37, S44_40, S44_41, S44_42, S44_43, S44_46, S44_47, S44_48, S44_49, S44_52, S44_53, S44_56, S44_57, S44_60, S44_61, S44_62, S44_65, S44_66, S44_67, S44_70, S44_71, S44_72, S44_75, S44_76, S44_79, S44_80, S44_81, S44_82, S44_85, S44_86, S44_87, S44_88, S44_92, S44_93, S44_96, S44_99, S44_100, S44_103, S44_105, S44_108, S44_109, S44_112, S44_113, S44_114, S44_115, S44_117, S44_120, S44_121, S44_122, S44_125, S44_128, S44_129, S44_130, S44_133, S44_134, S44_135, S44_136, S44_137, S44_140, shp_8, RV_8_0, RV_8_5, RV_8_6, shp_21, RV_21_2, RV_21_5, RV_21_6, RV_21_7, RV_21_8, kl_ref, kl_int, hN5.2.2.2.1, hT5.1]
    have hrm : maskOf (snd r) &&& (maskOf (tre r) ^^^ (-1)) = maskOf (rngL r) := eq_mask (fun i hi => by
      rw [b_and, b_not hi, Bool.and_eq_true, bt_mask hi]
      unfold rngL
      cases q : bt (maskOf (tre r)) i with
      | true => have := (bt_mask hi).mp q; simp [this]
      | false =>
        have : ¬ tre r i := fun z => by rw [(bt_mask hi).mpr z] at q; cases q
        simp [this])
    rw [hrm]
    have f6 : frm (fun a => 8 ≤ a ∧ a ≤ 11) h5 (setI h5 8 2 (maskOf (rngL r))) := frm_I ⟨by decide, by decide⟩
    have hN6 := CN_frm f6 hS hN5
    rw [nI_l0]
    refine c_tset2 (d := d + 2) hV hN6 (by rw [setI_rd, if_pos ⟨rfl, rfl⟩]) (fun j hj => by rw [setI_1 (by decide)]; exact (w5 j hj).2) (rL r) 0 _ (by omega) (fun e he => by rw [nI_0, b_0]; simp) (fun ch hch => ?_)
    simp only [S44_0, S44_1, S44_3, S44_5, S44_8, S44_9, S44_12, S44_13, S44_14, S44_15, S44_16, S44_19, S44_20, S44_21, S44_22, S44_23, S44_26, S44_27, S44_28, S44_29, S44_32, S44_35, S44_36, S44_37, S44_40, S44_41, S44_42, S44_43, S44_46, S44_47, S44_48, S44_49, S44_52, S44_53, S44_56, S44_57, S44_60, S44_61, S44_62, S44_65, S44_66, S44_67, S44_70, S44_71, S44_72, S44_75, S44_76, S44_79, S44_80, S44_81, S44_82, S44_85, S44_86, S44_87, S44_88, S44_92, S44_93, S44_96, S44_99, S44_100, S44_103, S44_105, S44_108, S44_109, S44_112, S44_113, S44_114, S44_115, S44_117, S44_120, S44_121, S44_122, S44_125, S44_128, S44_129, S44_130, S44_133, S44_134, S44_135, S44_136, S44_137, S44_140, shp_8, RV_8_0, RV_8_5, RV_8_6, shp_21, RV_21_2, RV_21_5, RV_21_6, RV_21_7, RV_21_8, kl_ref, kl_int]
    have e1 : (setI h5 8 2 (maskOf (rngL r))).1 8 1 = maskOf (tre r) := by rw [setI_rd, if_neg (by decide)]; exact hT5.1
    rw [e1]
    have hbm : maskOf (tre r) &&& (ch ^^^ (-1)) = maskOf (brg r) := eq_mask (fun i hi => by
      rw [b_and, b_not hi, Bool.and_eq_true, bt_mask hi, brg_iff]
      cases q : bt ch i with
      | true =>
        obtain ⟨k, a, b⟩ := (hch i hi).mp q
        constructor
        · rintro ⟨-, z⟩; cases z
        · rintro ⟨-, z⟩; exact absurd b (z k a)
      | false =>
        constructor
        · rintro ⟨z, -⟩
          exact ⟨z, fun k a b => by rw [(hch i hi).mpr ⟨k, a, b⟩] at q; cases q⟩
        · rintro ⟨z, -⟩
          exact ⟨z, rfl⟩)
    rw [hbm]
    refine kk _ (frm_tr f1' (frm_tr f2' (frm_tr f3' (frm_tr f4 (frm_tr f5' (frm_tr f6 (frm_I ⟨by decide, by decide⟩))))))) ⟨⟨?_, ?_, ?_⟩, ?_, ?_, ?_⟩
    · rw [setI_rd, if_neg (by decide)]; exact e1
    · intro j hj
      rw [setI_1 (by decide), setI_1 (by decide)]; exact hT5.2.1 j hj
    · intro p hp
      rw [setI_rd, if_neg (by decide), setI_rd, if_neg (by decide)]
      exact hT5.2.2 p hp
    · rw [setI_rd, if_neg (by decide), setI_rd, if_pos ⟨rfl, rfl⟩]
    · rw [setI_rd, if_pos ⟨rfl, rfl⟩]
    · intro j hj
      rw [setI_1 (by decide), setI_1 (by decide), setI_1 (by decide), setI_1 (by decide)]
      exact w5 j hj
  cases f with
  | none =>
    simp only [if_true]
    have := fin (-1) (fun j e => by cases e) (fun _ => ⟨rfl, j2 rfl⟩)
    simp only [S44_0, S44_1, S44_3, S44_5, S44_8, S44_9, S44_12, S44_13, S44_14, S44_15, S44_16, S44_19, S44_20, S44_21, S44_22, S44_23, S44_26, S44_27, S44_28, S44_29, S44_32, S44_35, S44_36, S44_37, S44_40, S44_41, S44_42, S44_43, S44_46, S44_47, S44_48, S44_49, S44_52, S44_53, S44_56, S44_57, S44_60, S44_61, S44_62, S44_65, S44_66, S44_67, S44_70, S44_71, S44_72, S44_75, S44_76, S44_79, S44_80, S44_81, S44_82, S44_85, S44_86, S44_87, S44_88, S44_92, S44_93, S44_96, S44_99, S44_100, S44_103, S44_105, S44_108, S44_109, S44_112, S44_113, S44_114, S44_115, S44_117, S44_120, S44_121, S44_122, S44_125, S44_128, S44_129, S44_130, S44_133, S44_134, S44_135, S44_136, S44_137, S44_140, shp_8, RV_8_0, RV_8_5, RV_8_6, shp_21, RV_21_2, RV_21_5, RV_21_6, RV_21_7, RV_21_8, kl_ref, kl_int] at this
    exact this
  | some g =>
    have hg := j1 g rfl
    have g6 : g < 6 := by have := hg.1; omega
    have hne : ¬ nI g = -1 := fun z => by
      have h0 := congrArg Int32.toInt z
      rw [nI_int (by omega)] at h0
      have : (-1 : Int32).toInt = -1 := by decide
      omega
    simp only [hne, if_false, ok9 g6, nI_cl (show g < 2147483648 by omega), g3 g g6, S44_0, S44_1, S44_3, S44_5, S44_8, S44_9, S44_12, S44_13, S44_14, S44_15, S44_16, S44_19, S44_20, S44_21, S44_22, S44_23, S44_26, S44_27, S44_28, S44_29, S44_32, S44_35, S44_36, S44_37, S44_40, S44_41, S44_42, S44_43, S44_46, S44_47, S44_48, S44_49, S44_52, S44_53, S44_56, S44_57, S44_60, S44_61, S44_62, S44_65, S44_66, S44_67, S44_70, S44_71, S44_72, S44_75, S44_76, S44_79, S44_80, S44_81, S44_82, S44_85, S44_86, S44_87, S44_88, S44_92, S44_93, S44_96, S44_99, S44_100, S44_103, S44_105, S44_108, S44_109, S44_112, S44_113, S44_114, S44_115, S44_117, S44_120, S44_121, S44_122, S44_125, S44_128, S44_129, S44_130, S44_133, S44_134, S44_135, S44_136, S44_137, S44_140, shp_8, RV_8_0, RV_8_5, RV_8_6, shp_21, RV_21_2, RV_21_5, RV_21_6, RV_21_7, RV_21_8]
    have := fin (nI (ptOf r g)) (fun j e => by cases e; exact ⟨hg, rfl⟩) (fun e => by cases e)
    simp only [S44_0, S44_1, S44_3, S44_5, S44_8, S44_9, S44_12, S44_13, S44_14, S44_15, S44_16, S44_19, S44_20, S44_21, S44_22, S44_23, S44_26, S44_27, S44_28, S44_29, S44_32, S44_35, S44_36, S44_37, S44_40, S44_41, S44_42, S44_43, S44_46, S44_47, S44_48, S44_49, S44_52, S44_53, S44_56, S44_57, S44_60, S44_61, S44_62, S44_65, S44_66, S44_67, S44_70, S44_71, S44_72, S44_75, S44_76, S44_79, S44_80, S44_81, S44_82, S44_85, S44_86, S44_87, S44_88, S44_92, S44_93, S44_96, S44_99, S44_100, S44_103, S44_105, S44_108, S44_109, S44_112, S44_113, S44_114, S44_115, S44_117, S44_120, S44_121, S44_122, S44_125, S44_128, S44_129, S44_130, S44_133, S44_134, S44_135, S44_136, S44_137, S44_140, shp_8, RV_8_0, RV_8_5, RV_8_6, shp_21, RV_21_2, RV_21_5, RV_21_6, RV_21_7, RV_21_8, kl_ref, kl_int] at this
    exact this
theorem c_parts_loop (hV : VR r) (hN : CN h 21 r) (hT : tiA r h) : ∀ (n p m : Nat), p + n = rP r → (WP d 46 4 [some (.ref 8), some (.ref 21), some (.int (nI m)), some (.int (nI p))] [] h Q ↔ Q (some (some (.int (nI (m + ((List.range' p n).filter (fun j => @decide (ptOf r j = j) (Classical.propDecidable _))).length))))) h) := by
  have hP := hV.1
  intro n
  induction n with
  | zero =>
    intro p m hp
    have hcd : nI (rP r) ≤ nI p := nI_le (by omega) (by omega)
    rw [S46_4]
    simp only [S46_0, S46_1, S46_2, S46_3, S46_5, S46_6, S46_9, S46_12, S46_13, S46_16, S46_17, S46_18, S46_19, S46_22, S46_25, S46_28, S46_31, S46_32, shp_8, RV_8_0, RV_8_5, RV_8_6, shp_21, RV_21_2, RV_21_5, RV_21_6, RV_21_7, RV_21_8, hN.1, hP.1, if_pos hcd]
    rfl
  | succ n ih =>
    intro p m hp
    have hcd : ¬ nI (rP r) ≤ nI p := nI_ge (by omega) (by omega)
    have hp6 : p < 6 := by omega
    have hpt := (ptOf_ok r p).2.1
    rw [S46_4]
    simp only [S46_0, S46_1, S46_2, S46_3, S46_5, S46_6, S46_9, S46_12, S46_13, S46_16, S46_17, S46_18, S46_19, S46_22, S46_25, S46_28, S46_31, S46_32, shp_8, RV_8_0, RV_8_5, RV_8_6, shp_21, RV_21_2, RV_21_5, RV_21_6, RV_21_7, RV_21_8, hN.1, hP.1, if_neg hcd, ok9 hp6, nI_cl (show p < 2147483648 by omega), hT.2.1 p hp6, nI_eq (show ptOf r p < 2 ^ 31 by omega) (show p < 2 ^ 31 by omega), kl_int, kl_ref, nI_add1]
    rw [List.range'_succ, List.filter_cons]
    by_cases e : ptOf r p = p
    · rw [if_pos e, ih (p + 1) (m + 1) (by omega)]
      simp only [e, decide_true, if_true, List.length_cons]
      rw [show m + 1 + (List.filter (fun j => @decide (ptOf r j = j) (Classical.propDecidable _)) (List.range' (p + 1) n)).length = m + ((List.filter (fun j => @decide (ptOf r j = j) (Classical.propDecidable _)) (List.range' (p + 1) n)).length + 1) by omega]
    · rw [if_neg e, ih (p + 1) m (by omega)]
      simp only [e, decide_false, Bool.false_eq_true, if_false]
end
