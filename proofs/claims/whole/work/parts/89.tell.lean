/-! point, line, count, alike on both sides. -/
def isW (n y : Int32) : Prop := ¬ y < 0 ∧ y ≤ n
def sAt (r : Nat → Int32) (p l : Nat) : Prop := snd r l ∧ (rA r l = p ∨ rB r l = p)
noncomputable def ptsN (r : Nat → Int32) : Nat := ((List.range' 0 (rP r)).filter (fun j => @decide (ptOf r j = j) (Classical.propDecidable _))).length
noncomputable def ptV (r : Nat → Int32) (p : Nat) (y : Int32) : Int32 := if y = 0 then r (2 + p) else if y = 1 then (if r (2 + p) = 1 then r (8 + p) else -1000000) else if y = 2 then nI (ptOf r p) else if y = 3 then pb (isRt r p) else nI (cK (sAt r p) (rL r))
noncomputable def lnV (r : Nat → Int32) (l : Nat) (y : Int32) : Int32 := if y = 0 then r (14 + l) else if y = 1 then r (25 + l) else if y = 2 then r (36 + l) else if y = 3 then r (47 + l) else if y = 4 then r (58 + l) else if y = 5 then pb (tre r l) else pb (brg r l)
noncomputable def cntV (r : Nat → Int32) (sz tp y : Int32) : Int32 := if y = 0 then r 0 else if y = 1 then r 1 else if y = 2 then nI (cnt11 (maskOf (snd r))) else if y = 3 then nI (ptsN r) else if y = 4 then maskOf (brg r) else if y = 5 then maskOf (tre r) else if y = 6 then sz else if y = 7 then tp else -1
section
variable {d : Nat} {h : Hp} {Q : Option (Option Value) → Hp → Prop} {x y z t : Int32} {k l p q : Nat} {r : Nat → Int32}
theorem isW_4 (hy : isW 4 y) : y = 0 ∨ y = 1 ∨ y = 2 ∨ y = 3 ∨ y = 4 := by
  obtain ⟨j, h1, rfl⟩ := nI_of2 (n := 4) (by decide) hy.1 hy.2
  rcases (show j = 0 ∨ j = 1 ∨ j = 2 ∨ j = 3 ∨ j = 4 by omega) with e | e | e | e | e <;> subst e <;> decide
theorem isW_6 (hy : isW 6 y) : y = 0 ∨ y = 1 ∨ y = 2 ∨ y = 3 ∨ y = 4 ∨ y = 5 ∨ y = 6 := by
  obtain ⟨j, h1, rfl⟩ := nI_of2 (n := 6) (by decide) hy.1 hy.2
  rcases (show j = 0 ∨ j = 1 ∨ j = 2 ∨ j = 3 ∨ j = 4 ∨ j = 5 ∨ j = 6 by omega) with e | e | e | e | e | e | e <;> subst e <;> decide
theorem pb_fx (hV : VR r) (hp : p < rP r) : pb (fxd r p) = r (2 + p) := by
  rcases (hV.2.2.1 p hp).1 with e | e
  · rw [e, pb_f (fun z => by have := z.2; rw [e] at this; exact absurd this (by decide))]
  · rw [e, pb_t ⟨hp, e⟩]
theorem pb_sn (hV : VR r) (hl : l < rL r) : pb (snd r l) = r (58 + l) := by
  rcases (hV.2.2.2 l hl).2.2.2.2.2 with e | e
  · rw [e, pb_f (fun z => by have := z.2; rw [e] at this; exact absurd this (by decide))]
  · rw [e, pb_t ⟨hl, e⟩]
/-! lines at a point -/
theorem c_sla_loop (hV : VR r) (hN : CN h 21 r) (hp : p < rP r) : ∀ (m l : Nat), l + m = rL r → (WP (d + 1) 29 4 [some (.ref 21), some (.int (nI p)), some (.int (nI (cK (sAt r p) l))), some (.int (nI l))] [] h Q ↔ Q (some (some (.int (nI (cK (sAt r p) (rL r)))))) h) := by
  have h11 := hV.2.1
  have h6 := hV.1.2
  intro m
  induction m with
  | zero =>
    intro l hl
    have : l = rL r := by omega
    subst this
    have hcd : nI (rL r) ≤ nI (rL r) := nI_le (Nat.le_refl _) (by omega)
    rw [S29_4]
    simp only [S29_0, S29_1, S29_2, S29_3, S29_5, S29_6, S29_9, S29_12, S29_13, S29_16, S29_17, S29_20, S29_21, S29_24, S29_25, S29_28, S29_29, S29_30, S29_31, S29_34, S29_35, S29_38, S29_39, S29_40, S29_41, S29_44, S29_47, S29_50, S29_53, S29_54, shp_21, RV_21_2, RV_21_5, RV_21_6, RV_21_7, RV_21_8, hN.2.2.1, h11.1, if_pos hcd]
  | succ m ih =>
    intro l hl
    have hlt : l < rL r := by omega
    have hl11 : l < 11 := by omega
    have hVl := hV.2.2.2 l hlt
    have hNl := hN.2.2.2.2.2 l hlt
    have hcd : ¬ nI (rL r) ≤ nI l := nI_ge (by omega) (by omega)
    have ih := ih (l + 1) (by omega)
    rw [S29_4]
    simp only [S29_0, S29_1, S29_2, S29_3, S29_5, S29_6, S29_9, S29_12, S29_13, S29_16, S29_17, S29_20, S29_21, S29_24, S29_25, S29_28, S29_29, S29_30, S29_31, S29_34, S29_35, S29_38, S29_39, S29_40, S29_41, S29_44, S29_47, S29_50, S29_53, S29_54, shp_21, RV_21_2, RV_21_5, RV_21_6, RV_21_7, RV_21_8, hN.2.2.1, h11.1, if_neg hcd, c_bit, hN.2.2.2.1, bitm (show l < 32 by omega), kR_at, ok23 hl11, ok24 hl11, nI_cl (show l < 2147483648 by omega), hNl.1, hNl.2.1, hVl.1.1, hVl.2.1.1, nI_eq (show rA r l < 2 ^ 31 by omega) (show p < 2 ^ 31 by omega), nI_eq (show rB r l < 2 ^ 31 by omega) (show p < 2 ^ 31 by omega), kl_int, kl_ref, nI_add1]
    by_cases hs : snd r l
    · rw [if_pos (pb_1.mpr hs)]
      by_cases ea : rA r l = p
      · rw [cK_succ_y (K := sAt r p) ⟨hs, Or.inl ea⟩] at ih
        rw [if_pos ea]
        exact ih
      · rw [if_neg ea]
        by_cases eb : rB r l = p
        · rw [cK_succ_y (K := sAt r p) ⟨hs, Or.inr eb⟩] at ih
          rw [if_pos eb]
          exact ih
        · rw [cK_succ_n (K := sAt r p) (fun z => by rcases z.2 with q | q; exact ea q; exact eb q)] at ih
          rw [if_neg eb]
          exact ih
    · rw [if_neg (fun z => hs (pb_1.mp z))]
      rw [cK_succ_n (K := sAt r p) (fun z => hs z.1)] at ih
      exact ih
theorem c_soundLinesAt (hV : VR r) (hN : CN h 21 r) (hp : p < rP r) : WP (d + 1) 29 0 [some (.ref 21), some (.int (nI p)), none, none] [] h Q ↔ Q (some (some (.int (nI (cK (sAt r p) (rL r)))))) h := by
  simp only [S29_0, S29_1, S29_2, S29_3, S29_5, S29_6, S29_9, S29_12, S29_13, S29_16, S29_17, S29_20, S29_21, S29_24, S29_25, S29_28, S29_29, S29_30, S29_31, S29_34, S29_35, S29_38, S29_39, S29_40, S29_41, S29_44, S29_47, S29_50, S29_53, S29_54, kl_ref, kl_int, kl_none]
  rw [nI_l0]
  exact c_sla_loop hV hN hp (rL r) 0 (by omega)
theorem m_sla_loop (hr : h.1 95 = r) (hV : VR r) (hp : p < rP r) : ∀ (m l : Nat), l + m = rL r → (WP (d + 1) 196 110 [some (.ref 93), some (.int (nI p)), some (.int y), some (.int (nI (cK (sAt r p) l))), some (.int (nI l))] [] h Q ↔ Q (some (some (.int (nI (cK (sAt r p) (rL r)))))) h) := by
  have h11 := hV.2.1
  have h6 := hV.1.2
  intro m
  induction m with
  | zero =>
    intro l hl
    have : l = rL r := by omega
    subst this
    have hcd : nI (rL r) ≤ nI (rL r) := nI_le (Nat.le_refl _) (by omega)
    rw [S196_110]
    simp only [S196_0, S196_1, S196_2, S196_5, S196_6, S196_7, S196_10, S196_13, S196_14, S196_17, S196_18, S196_19, S196_52, S196_53, S196_56, S196_57, S196_58, S196_59, S196_60, S196_61, S196_62, S196_63, S196_66, S196_69, S196_70, S196_73, S196_75, S196_76, S196_77, S196_78, S196_81, S196_84, S196_85, S196_86, S196_87, S196_90, S196_91, S196_92, S196_93, S196_96, S196_99, S196_100, S196_103, S196_104, S196_105, S196_106, S196_107, S196_108, S196_112, S196_113, S196_116, S196_119, S196_120, S196_122, S196_125, S196_128, S196_129, S196_131, S196_134, S196_135, S196_138, S196_139, S196_141, S196_144, S196_145, S196_148, S196_151, S196_154, S196_157, S196_158, S196_159, S196_160, S196_163, shp_93, RV_93_1, RV_93_13, RV_93_14, RV_93_15, RV_93_16, RV_93_17, RV_93_18, RV_93_19, RV_93_20, RV_93_23, RV_93_24, RV_93_27, RV_93_28, RV_93_29, m_lines, kR_at, hr, h11.1, if_pos hcd]
  | succ m ih =>
    intro l hl
    have hlt : l < rL r := by omega
    have hl11 : l < 11 := by omega
    have hVl := hV.2.2.2 l hlt
    have hcd : ¬ nI (rL r) ≤ nI l := nI_ge (by omega) (by omega)
    have ih := ih (l + 1) (by omega)
    rw [S196_110]
    simp only [S196_0, S196_1, S196_2, S196_5, S196_6, S196_7, S196_10, S196_13, S196_14, S196_17, S196_18, S196_19, S196_52, S196_53, S196_56, S196_57, S196_58, S196_59, S196_60, S196_61, S196_62, S196_63, S196_66, S196_69, S196_70, S196_73, S196_75, S196_76, S196_77, S196_78, S196_81, S196_84, S196_85, S196_86, S196_87, S196_90, S196_91, S196_92, S196_93, S196_96, S196_99, S196_100, S196_103, S196_104, S196_105, S196_106, S196_107, S196_108, S196_112, S196_113, S196_116, S196_119, S196_120, S196_122, S196_125, S196_128, S196_129, S196_131, S196_134, S196_135, S196_138, S196_139, S196_141, S196_144, S196_145, S196_148, S196_151, S196_154, S196_157, S196_158, S196_159, S196_160, S196_163, shp_93, RV_93_1, RV_93_13, RV_93_14, RV_93_15, RV_93_16, RV_93_17, RV_93_18, RV_93_19, RV_93_20, RV_93_23, RV_93_24, RV_93_27, RV_93_28, RV_93_29, m_lines, m_isSoundX hr hV hlt, m_first hl11, m_second hl11, kR_at, hr, h11.1, if_neg hcd, hVl.1.1, hVl.2.1.1, nI_eq (show rA r l < 2 ^ 31 by omega) (show p < 2 ^ 31 by omega), nI_eq (show rB r l < 2 ^ 31 by omega) (show p < 2 ^ 31 by omega), kl_int, kl_ref, nI_add1]
    by_cases hs : snd r l
    · rw [if_neg (fun z => pb_0.mp z hs)]
      by_cases ea : rA r l = p
      · rw [cK_succ_y (K := sAt r p) ⟨hs, Or.inl ea⟩] at ih
        rw [if_pos ea]
        exact ih
      · rw [if_neg ea]
        by_cases eb : rB r l = p
        · rw [cK_succ_y (K := sAt r p) ⟨hs, Or.inr eb⟩] at ih
          rw [if_pos eb]
          exact ih
        · rw [cK_succ_n (K := sAt r p) (fun z => by rcases z.2 with q | q; exact ea q; exact eb q)] at ih
          rw [if_neg eb]
          exact ih
    · rw [if_pos (pb_0.mpr hs)]
      rw [cK_succ_n (K := sAt r p) (fun z => hs z.1)] at ih
      exact ih
/-! point -/
theorem c_point_no (hC : cls r h) (hx : ¬ (isP r x ∧ isW 4 y)) (kk : cPost r h Q none) : WP (d + 6) 58 0 [some (.ref 0), some (.int x), some (.int y)] [] h Q := by
  have k1 := kk h frmF_rf hC
  simp only [S58_0, S58_1, S58_2, S58_5, S58_8, S58_9, S58_12, S58_13, S58_14, S58_17, S58_26, S58_29, S58_30, S58_60, S58_61, S58_64, S58_65, S58_68, S58_71, S58_72, S58_75, S58_76, S58_77, S58_78, S58_81, S58_82, S58_85, S58_88, S58_89, S58_92, S58_95, S58_96, S58_97, S58_100, S58_102, S58_103, S58_104, S58_107, S58_110, S58_111, S58_112, S58_113, S58_114, S58_117, S58_118, S58_121, S58_124, S58_125, S58_128, S58_129, S58_130, S58_131, S58_134, S58_135, S58_138, shp_0, RV_0_0, RV_0_1, RV_0_2, RV_0_3, RV_0_4, RV_0_5, RV_0_9, RV_0_10, c_isPointX hC.1 hC.2.1, kR_at]
  by_cases h1 : isP r x
  · rw [if_neg (fun z => pb_0.mp z h1)]
    by_cases h2 : y < 0
    · rw [if_pos h2]; exact k1
    · rw [if_neg h2, if_neg (fun z => hx ⟨h1, h2, z⟩)]
      exact k1
  · rw [if_pos (pb_0.mpr h1)]
    exact k1
theorem c_point_yes (hC : cls r h) (hp : p < rP r) (hy : isW 4 y) (kk : cPost r h Q (some (some (.int (ptV r p y))))) : WP (d + 6) 58 0 [some (.ref 0), some (.int (nI p)), some (.int y)] [] h Q := by
  have hV := hC.1
  have h6 := hV.1.2
  have h1 : ¬ pb (isP r (nI p)) = 0 := fun z => pb_0.mp z ⟨p, hp, rfl⟩
  simp only [S58_0, S58_1, S58_2, S58_5, S58_8, S58_9, S58_12, S58_13, S58_14, S58_17, S58_26, S58_29, S58_30, S58_60, S58_61, S58_64, S58_65, S58_68, S58_71, S58_72, S58_75, S58_76, S58_77, S58_78, S58_81, S58_82, S58_85, S58_88, S58_89, S58_92, S58_95, S58_96, S58_97, S58_100, S58_102, S58_103, S58_104, S58_107, S58_110, S58_111, S58_112, S58_113, S58_114, S58_117, S58_118, S58_121, S58_124, S58_125, S58_128, S58_129, S58_130, S58_131, S58_134, S58_135, S58_138, shp_0, RV_0_0, RV_0_1, RV_0_2, RV_0_3, RV_0_4, RV_0_5, RV_0_9, RV_0_10, c_isPointX hC.1 hC.2.1, kR_at, if_neg h1, if_neg hy.1, if_pos hy.2]
  simp only [S58_0, S58_1, S58_2, S58_5, S58_8, S58_9, S58_12, S58_13, S58_14, S58_17, S58_25, S58_26, S58_29, S58_30, S58_60, S58_61, S58_64, S58_65, S58_68, S58_71, S58_72, S58_75, S58_76, S58_77, S58_78, S58_81, S58_82, S58_85, S58_88, S58_89, S58_92, S58_95, S58_96, S58_97, S58_100, S58_102, S58_103, S58_104, S58_107, S58_110, S58_111, S58_112, S58_113, S58_114, S58_117, S58_118, S58_121, S58_124, S58_125, S58_128, S58_129, S58_130, S58_131, S58_134, S58_135, S58_138, shp_0, RV_0_0, RV_0_1, RV_0_2, RV_0_3, RV_0_4, RV_0_5, RV_0_9, RV_0_10]
  refine c_settle (d := d) hC (fun h' f s z => ?_)
  have k1 := kk h' f (stl_cls s z)
  unfold ptV at k1
  rw [kV_at, S58_29, S58_30]
  by_cases y0 : y = 0
  · rw [if_pos y0] at k1 ⊢
    simp only [S58_0, S58_1, S58_2, S58_5, S58_8, S58_9, S58_12, S58_13, S58_14, S58_17, S58_25, S58_26, S58_29, S58_30, S58_60, S58_61, S58_64, S58_65, S58_68, S58_71, S58_72, S58_75, S58_76, S58_77, S58_78, S58_81, S58_82, S58_85, S58_88, S58_89, S58_92, S58_95, S58_96, S58_97, S58_100, S58_102, S58_103, S58_104, S58_107, S58_110, S58_111, S58_112, S58_113, S58_114, S58_117, S58_118, S58_121, S58_124, S58_125, S58_128, S58_129, S58_130, S58_131, S58_134, S58_135, S58_138, shp_0, RV_0_0, RV_0_1, RV_0_2, RV_0_3, RV_0_4, RV_0_5, RV_0_9, RV_0_10, shp_8, RV_8_0, RV_8_5, RV_8_6, shp_21, RV_21_2, RV_21_5, RV_21_6, RV_21_7, RV_21_8, c_isFixed21 s.2.1 (show p < 32 by omega), kR_at]
    by_cases c : fxd r p
    · rw [if_neg (fun z => pb_0.mp z c)]
      rw [c.2] at k1
      exact k1
    · rw [if_pos (pb_0.mpr c)]
      rw [← pb_fx hV hp, pb_f c] at k1
      exact k1
  rw [if_neg y0] at k1 ⊢
  by_cases y1 : y = 1
  · rw [if_pos y1] at k1 ⊢
    simp only [S58_0, S58_1, S58_2, S58_5, S58_8, S58_9, S58_12, S58_13, S58_14, S58_17, S58_25, S58_26, S58_29, S58_30, S58_60, S58_61, S58_64, S58_65, S58_68, S58_71, S58_72, S58_75, S58_76, S58_77, S58_78, S58_81, S58_82, S58_85, S58_88, S58_89, S58_92, S58_95, S58_96, S58_97, S58_100, S58_102, S58_103, S58_104, S58_107, S58_110, S58_111, S58_112, S58_113, S58_114, S58_117, S58_118, S58_121, S58_124, S58_125, S58_128, S58_129, S58_130, S58_131, S58_134, S58_135, S58_138, shp_0, RV_0_0, RV_0_1, RV_0_2, RV_0_3, RV_0_4, RV_0_5, RV_0_9, RV_0_10, shp_8, RV_8_0, RV_8_5, RV_8_6, shp_21, RV_21_2, RV_21_5, RV_21_6, RV_21_7, RV_21_8, c_isFixed21 s.2.1 (show p < 32 by omega), kR_at, ok22 (show p < 6 by omega), nI_cl (show p < 2147483648 by omega), s.2.1.2.2.2.2.1 p hp]
    by_cases c : fxd r p
    · rw [if_neg (fun z => pb_0.mp z c)]
      rw [if_pos c.2] at k1
      exact k1
    · rw [if_pos (pb_0.mpr c)]
      rw [if_neg (fun z => c ⟨hp, z⟩)] at k1
      exact k1
  rw [if_neg y1] at k1 ⊢
  by_cases y2 : y = 2
  · rw [if_pos y2] at k1 ⊢
    simp only [S58_0, S58_1, S58_2, S58_5, S58_8, S58_9, S58_12, S58_13, S58_14, S58_17, S58_25, S58_26, S58_29, S58_30, S58_60, S58_61, S58_64, S58_65, S58_68, S58_71, S58_72, S58_75, S58_76, S58_77, S58_78, S58_81, S58_82, S58_85, S58_88, S58_89, S58_92, S58_95, S58_96, S58_97, S58_100, S58_102, S58_103, S58_104, S58_107, S58_110, S58_111, S58_112, S58_113, S58_114, S58_117, S58_118, S58_121, S58_124, S58_125, S58_128, S58_129, S58_130, S58_131, S58_134, S58_135, S58_138, shp_0, RV_0_0, RV_0_1, RV_0_2, RV_0_3, RV_0_4, RV_0_5, RV_0_9, RV_0_10, shp_8, RV_8_0, RV_8_5, RV_8_6, shp_21, RV_21_2, RV_21_5, RV_21_6, RV_21_7, RV_21_8, ok9 (show p < 6 by omega), nI_cl (show p < 2147483648 by omega), s.2.2.1.1.2.1 p (by omega)]
    exact k1
  rw [if_neg y2] at k1 ⊢
  by_cases y3 : y = 3
  · rw [if_pos y3] at k1 ⊢
    simp only [S58_0, S58_1, S58_2, S58_5, S58_8, S58_9, S58_12, S58_13, S58_14, S58_17, S58_25, S58_26, S58_29, S58_30, S58_60, S58_61, S58_64, S58_65, S58_68, S58_71, S58_72, S58_75, S58_76, S58_77, S58_78, S58_81, S58_82, S58_85, S58_88, S58_89, S58_92, S58_95, S58_96, S58_97, S58_100, S58_102, S58_103, S58_104, S58_107, S58_110, S58_111, S58_112, S58_113, S58_114, S58_117, S58_118, S58_121, S58_124, S58_125, S58_128, S58_129, S58_130, S58_131, S58_134, S58_135, S58_138, shp_0, RV_0_0, RV_0_1, RV_0_2, RV_0_3, RV_0_4, RV_0_5, RV_0_9, RV_0_10, shp_8, RV_8_0, RV_8_5, RV_8_6, shp_21, RV_21_2, RV_21_5, RV_21_6, RV_21_7, RV_21_8, c_tisRootA hV s.2.2.1.1 hp, kR_at]
    by_cases c : isRt r p
    · rw [if_neg (fun z => pb_0.mp z c)]
      rw [pb_t c] at k1
      exact k1
    · rw [if_pos (pb_0.mpr c)]
      rw [pb_f c] at k1
      exact k1
  rw [if_neg y3] at k1 ⊢
  simp only [S58_0, S58_1, S58_2, S58_5, S58_8, S58_9, S58_12, S58_13, S58_14, S58_17, S58_25, S58_26, S58_29, S58_30, S58_60, S58_61, S58_64, S58_65, S58_68, S58_71, S58_72, S58_75, S58_76, S58_77, S58_78, S58_81, S58_82, S58_85, S58_88, S58_89, S58_92, S58_95, S58_96, S58_97, S58_100, S58_102, S58_103, S58_104, S58_107, S58_110, S58_111, S58_112, S58_113, S58_114, S58_117, S58_118, S58_121, S58_124, S58_125, S58_128, S58_129, S58_130, S58_131, S58_134, S58_135, S58_138, shp_0, RV_0_0, RV_0_1, RV_0_2, RV_0_3, RV_0_4, RV_0_5, RV_0_9, RV_0_10, shp_8, RV_8_0, RV_8_5, RV_8_6, shp_21, RV_21_2, RV_21_5, RV_21_6, RV_21_7, RV_21_8, c_soundLinesAt hV s.2.1 hp, kR_at]
  exact k1
theorem ref_postI (hr : h.1 95 = r) (kk : mPost r h Q 1 (some (.int 0))) : Q (some (some (.int 0))) (setI (setI h 93 0 0) 93 0 1) := kk _ (frmF_tr M0 M0) (r0 (r0 hr)) t0
theorem m_partR (hr : h.1 95 = r) (hV : VR r) (hp : p < rP r) : WP (d + 3) 140 0 [some (.ref 93), some (.int (nI p)), none, none] [] h Q ↔ Q (some (some (.int (nI (ptOf r p))))) h := by
  subst hr
  exact m_partOf hV hp
theorem m_rootR (hr : h.1 95 = r) (hV : VR r) (hp : p < rP r) : WP (d + 4) 141 0 [some (.ref 93), some (.int (nI p))] [] h Q ↔ Q (some (some (.int (pb (isRt r p))))) h := by
  subst hr
  exact m_isRoot hV hp
theorem m_treeR (hr : h.1 95 = r) (hV : VR r) : WP (d + 4) 142 0 [some (.ref 93), none, none] [] h Q ↔ Q (some (some (.int (maskOf (tre r))))) h := by
  subst hr
  exact m_tree hV
theorem m_soundR (hr : h.1 95 = r) (hV : VR r) : WP (d + 1) 136 0 [some (.ref 93), none, none] [] h Q ↔ Q (some (some (.int (maskOf (snd r))))) h := by
  subst hr
  exact m_sound hV
theorem m_point_no (hr : h.1 95 = r) (hV : VR r) (hx : ¬ (isP r x ∧ isW 4 y)) (kk : mPost r h Q 1 (some (.int 0))) : WP (d + 5) 196 0 [some (.ref 93), some (.int x), some (.int y), none, none] [] h Q := by
  have k1 := ref_postI hr kk
  have n0 : isP r x → ¬ y = 0 := fun a z => hx ⟨a, by subst z; exact ⟨by decide, by decide⟩⟩
  have n1 : isP r x → ¬ y = 1 := fun a z => hx ⟨a, by subst z; exact ⟨by decide, by decide⟩⟩
  have n2 : isP r x → ¬ y = 2 := fun a z => hx ⟨a, by subst z; exact ⟨by decide, by decide⟩⟩
  have n3 : isP r x → ¬ y = 3 := fun a z => hx ⟨a, by subst z; exact ⟨by decide, by decide⟩⟩
  have n4 : isP r x → ¬ y = 4 := fun a z => hx ⟨a, by subst z; exact ⟨by decide, by decide⟩⟩
  rw [S196_0, S196_1, S196_2 shp_93, S196_5, S196_6, S196_7 shp_93, m_isPointX (r0 (x := 0) hr) hV, kR_at, S196_10]
  by_cases h1 : isP r x
  · rw [if_neg (fun z => pb_0.mp z h1), S196_18, S196_19, if_neg (n0 h1), if_neg (n1 h1), if_neg (n2 h1), if_neg (n3 h1), if_neg (n4 h1)]
    simp only [S196_0, S196_1, S196_2, S196_5, S196_6, S196_7, S196_10, S196_13, S196_14, S196_17, S196_18, S196_19, S196_52, S196_53, S196_56, S196_57, S196_58, S196_59, S196_60, S196_61, S196_62, S196_63, S196_66, S196_69, S196_70, S196_73, S196_75, S196_76, S196_77, S196_78, S196_81, S196_84, S196_85, S196_86, S196_87, S196_90, S196_91, S196_92, S196_93, S196_96, S196_99, S196_100, S196_103, S196_104, S196_105, S196_106, S196_107, S196_108, S196_112, S196_113, S196_116, S196_119, S196_120, S196_122, S196_125, S196_128, S196_129, S196_131, S196_134, S196_135, S196_138, S196_139, S196_141, S196_144, S196_145, S196_148, S196_151, S196_154, S196_157, S196_158, S196_159, S196_160, S196_163, shp_93, RV_93_1, RV_93_13, RV_93_14, RV_93_15, RV_93_16, RV_93_17, RV_93_18, RV_93_19, RV_93_20, RV_93_23, RV_93_24, RV_93_27, RV_93_28, RV_93_29, m_refuse, kR_at]
    exact k1
  · rw [if_pos (pb_0.mpr h1)]
    simp only [S196_0, S196_1, S196_2, S196_5, S196_6, S196_7, S196_10, S196_13, S196_14, S196_17, S196_18, S196_19, S196_52, S196_53, S196_56, S196_57, S196_58, S196_59, S196_60, S196_61, S196_62, S196_63, S196_66, S196_69, S196_70, S196_73, S196_75, S196_76, S196_77, S196_78, S196_81, S196_84, S196_85, S196_86, S196_87, S196_90, S196_91, S196_92, S196_93, S196_96, S196_99, S196_100, S196_103, S196_104, S196_105, S196_106, S196_107, S196_108, S196_112, S196_113, S196_116, S196_119, S196_120, S196_122, S196_125, S196_128, S196_129, S196_131, S196_134, S196_135, S196_138, S196_139, S196_141, S196_144, S196_145, S196_148, S196_151, S196_154, S196_157, S196_158, S196_159, S196_160, S196_163, shp_93, RV_93_1, RV_93_13, RV_93_14, RV_93_15, RV_93_16, RV_93_17, RV_93_18, RV_93_19, RV_93_20, RV_93_23, RV_93_24, RV_93_27, RV_93_28, RV_93_29, m_refuse, kR_at]
    exact k1
theorem m_point_yes (hr : h.1 95 = r) (hV : VR r) (hp : p < rP r) (hy : isW 4 y) (kk : mPost r h Q 0 (some (.int (ptV r p y)))) : WP (d + 5) 196 0 [some (.ref 93), some (.int (nI p)), some (.int y), none, none] [] h Q := by
  have h6 := hV.1.2
  have h1 : ¬ pb (isP r (nI p)) = 0 := fun z => pb_0.mp z ⟨p, hp, rfl⟩
  have k1 := kk _ M0 (r0 (x := 0) hr) t0
  unfold ptV at k1
  have hr1 := r0 (h := h) (x := 0) hr
  rw [S196_0, S196_1, S196_2 shp_93, S196_5, S196_6, S196_7 shp_93, m_isPointX hr1 hV, kR_at, S196_10, if_neg h1, S196_18, S196_19]
  by_cases y0 : y = 0
  · rw [if_pos y0] at k1 ⊢
    simp only [S196_0, S196_1, S196_2, S196_5, S196_6, S196_7, S196_10, S196_13, S196_14, S196_17, S196_18, S196_19, S196_52, S196_53, S196_56, S196_57, S196_58, S196_59, S196_60, S196_61, S196_62, S196_63, S196_66, S196_69, S196_70, S196_73, S196_75, S196_76, S196_77, S196_78, S196_81, S196_84, S196_85, S196_86, S196_87, S196_90, S196_91, S196_92, S196_93, S196_96, S196_99, S196_100, S196_103, S196_104, S196_105, S196_106, S196_107, S196_108, S196_112, S196_113, S196_116, S196_119, S196_120, S196_122, S196_125, S196_128, S196_129, S196_131, S196_134, S196_135, S196_138, S196_139, S196_141, S196_144, S196_145, S196_148, S196_151, S196_154, S196_157, S196_158, S196_159, S196_160, S196_163, shp_93, RV_93_1, RV_93_13, RV_93_14, RV_93_15, RV_93_16, RV_93_17, RV_93_18, RV_93_19, RV_93_20, RV_93_23, RV_93_24, RV_93_27, RV_93_28, RV_93_29, la_2, ok95 (show 2 + p < 69 by omega), nI_cl (show 2 + p < 2147483648 by omega), hr1]
    exact k1
  rw [if_neg y0] at k1 ⊢
  by_cases y1 : y = 1
  · rw [if_pos y1] at k1 ⊢
    simp only [S196_0, S196_1, S196_2, S196_5, S196_6, S196_7, S196_10, S196_13, S196_14, S196_17, S196_18, S196_19, S196_52, S196_53, S196_56, S196_57, S196_58, S196_59, S196_60, S196_61, S196_62, S196_63, S196_66, S196_69, S196_70, S196_73, S196_75, S196_76, S196_77, S196_78, S196_81, S196_84, S196_85, S196_86, S196_87, S196_90, S196_91, S196_92, S196_93, S196_96, S196_99, S196_100, S196_103, S196_104, S196_105, S196_106, S196_107, S196_108, S196_112, S196_113, S196_116, S196_119, S196_120, S196_122, S196_125, S196_128, S196_129, S196_131, S196_134, S196_135, S196_138, S196_139, S196_141, S196_144, S196_145, S196_148, S196_151, S196_154, S196_157, S196_158, S196_159, S196_160, S196_163, shp_93, RV_93_1, RV_93_13, RV_93_14, RV_93_15, RV_93_16, RV_93_17, RV_93_18, RV_93_19, RV_93_20, RV_93_23, RV_93_24, RV_93_27, RV_93_28, RV_93_29, m_isFixed (show p < 6 by omega), kR_at, la_8, ok95 (show 8 + p < 69 by omega), nI_cl (show 8 + p < 2147483648 by omega), hr1]
    by_cases c : r (2 + p) = 1
    · rw [if_pos c] at k1
      rw [if_pos c, if_neg (by decide)]
      exact k1
    · rw [if_neg c] at k1
      rw [if_neg c, if_pos rfl]
      exact k1
  rw [if_neg y1] at k1 ⊢
  by_cases y2 : y = 2
  · rw [if_pos y2] at k1 ⊢
    simp only [S196_0, S196_1, S196_2, S196_5, S196_6, S196_7, S196_10, S196_13, S196_14, S196_17, S196_18, S196_19, S196_52, S196_53, S196_56, S196_57, S196_58, S196_59, S196_60, S196_61, S196_62, S196_63, S196_66, S196_69, S196_70, S196_73, S196_75, S196_76, S196_77, S196_78, S196_81, S196_84, S196_85, S196_86, S196_87, S196_90, S196_91, S196_92, S196_93, S196_96, S196_99, S196_100, S196_103, S196_104, S196_105, S196_106, S196_107, S196_108, S196_112, S196_113, S196_116, S196_119, S196_120, S196_122, S196_125, S196_128, S196_129, S196_131, S196_134, S196_135, S196_138, S196_139, S196_141, S196_144, S196_145, S196_148, S196_151, S196_154, S196_157, S196_158, S196_159, S196_160, S196_163, shp_93, RV_93_1, RV_93_13, RV_93_14, RV_93_15, RV_93_16, RV_93_17, RV_93_18, RV_93_19, RV_93_20, RV_93_23, RV_93_24, RV_93_27, RV_93_28, RV_93_29, m_partR hr1 hV hp, kR_at]
    exact k1
  rw [if_neg y2] at k1 ⊢
  by_cases y3 : y = 3
  · rw [if_pos y3] at k1 ⊢
    simp only [S196_0, S196_1, S196_2, S196_5, S196_6, S196_7, S196_10, S196_13, S196_14, S196_17, S196_18, S196_19, S196_52, S196_53, S196_56, S196_57, S196_58, S196_59, S196_60, S196_61, S196_62, S196_63, S196_66, S196_69, S196_70, S196_73, S196_75, S196_76, S196_77, S196_78, S196_81, S196_84, S196_85, S196_86, S196_87, S196_90, S196_91, S196_92, S196_93, S196_96, S196_99, S196_100, S196_103, S196_104, S196_105, S196_106, S196_107, S196_108, S196_112, S196_113, S196_116, S196_119, S196_120, S196_122, S196_125, S196_128, S196_129, S196_131, S196_134, S196_135, S196_138, S196_139, S196_141, S196_144, S196_145, S196_148, S196_151, S196_154, S196_157, S196_158, S196_159, S196_160, S196_163, shp_93, RV_93_1, RV_93_13, RV_93_14, RV_93_15, RV_93_16, RV_93_17, RV_93_18, RV_93_19, RV_93_20, RV_93_23, RV_93_24, RV_93_27, RV_93_28, RV_93_29, m_rootR hr1 hV hp, kR_at]
    by_cases c : isRt r p
    · rw [if_neg (fun z => pb_0.mp z c)]
      rw [pb_t c] at k1
      exact k1
    · rw [if_pos (pb_0.mpr c)]
      rw [pb_f c] at k1
      exact k1
  rw [if_neg y3] at k1 ⊢
  have y4 : y = 4 := by
    rcases isW_4 hy with e | e | e | e | e
    · exact absurd e y0
    · exact absurd e y1
    · exact absurd e y2
    · exact absurd e y3
    · exact e
  rw [if_pos y4]
  simp only [S196_0, S196_1, S196_2, S196_5, S196_6, S196_7, S196_10, S196_13, S196_14, S196_17, S196_18, S196_19, S196_52, S196_53, S196_56, S196_57, S196_58, S196_59, S196_60, S196_61, S196_62, S196_63, S196_66, S196_69, S196_70, S196_73, S196_75, S196_76, S196_77, S196_78, S196_81, S196_84, S196_85, S196_86, S196_87, S196_90, S196_91, S196_92, S196_93, S196_96, S196_99, S196_100, S196_103, S196_104, S196_105, S196_106, S196_107, S196_108, S196_112, S196_113, S196_116, S196_119, S196_120, S196_122, S196_125, S196_128, S196_129, S196_131, S196_134, S196_135, S196_138, S196_139, S196_141, S196_144, S196_145, S196_148, S196_151, S196_154, S196_157, S196_158, S196_159, S196_160, S196_163, kl_int, kl_none]
  rw [nI_l0]
  exact (m_sla_loop (d := d + 4) hr1 hV hp (rL r) 0 (by omega)).mpr k1
/-! line -/
theorem c_line_no (hC : cls r h) (hx : ¬ (isL r x ∧ isW 6 y)) (kk : cPost r h Q none) : WP (d + 6) 59 0 [some (.ref 0), some (.int x), some (.int y)] [] h Q := by
  have k1 := kk h frmF_rf hC
  simp only [S59_0, S59_1, S59_2, S59_5, S59_8, S59_9, S59_12, S59_13, S59_15, S59_18, S59_27, S59_30, S59_31, S59_68, S59_69, S59_72, S59_75, S59_76, S59_77, S59_78, S59_79, S59_82, S59_85, S59_86, S59_87, S59_88, S59_89, S59_92, S59_95, S59_96, S59_97, S59_98, S59_99, S59_102, S59_105, S59_106, S59_107, S59_108, S59_109, S59_112, S59_115, S59_116, S59_119, S59_120, S59_121, S59_124, S59_127, S59_128, S59_131, S59_132, S59_133, S59_136, S59_139, S59_140, S59_143, shp_0, RV_0_0, RV_0_1, RV_0_2, RV_0_3, RV_0_4, RV_0_5, RV_0_9, RV_0_10, c_isLineX hC.1 hC.2.1, kR_at]
  by_cases h1 : isL r x
  · rw [if_neg (fun z => pb_0.mp z h1)]
    by_cases h2 : y < 0
    · rw [if_pos h2]; exact k1
    · rw [if_neg h2, if_neg (fun z => hx ⟨h1, h2, z⟩)]
      exact k1
  · rw [if_pos (pb_0.mpr h1)]
    exact k1
theorem c_line_yes (hC : cls r h) (hl : l < rL r) (hy : isW 6 y) (kk : cPost r h Q (some (some (.int (lnV r l y))))) : WP (d + 6) 59 0 [some (.ref 0), some (.int (nI l)), some (.int y)] [] h Q := by
  have hV := hC.1
  have h11 := hV.2.1.2
  have hl11 : l < 11 := by omega
  have h1 : ¬ pb (isL r (nI l)) = 0 := fun z => pb_0.mp z ⟨l, hl, rfl⟩
  simp only [S59_0, S59_1, S59_2, S59_5, S59_8, S59_9, S59_12, S59_13, S59_15, S59_18, S59_27, S59_30, S59_31, S59_68, S59_69, S59_72, S59_75, S59_76, S59_77, S59_78, S59_79, S59_82, S59_85, S59_86, S59_87, S59_88, S59_89, S59_92, S59_95, S59_96, S59_97, S59_98, S59_99, S59_102, S59_105, S59_106, S59_107, S59_108, S59_109, S59_112, S59_115, S59_116, S59_119, S59_120, S59_121, S59_124, S59_127, S59_128, S59_131, S59_132, S59_133, S59_136, S59_139, S59_140, S59_143, shp_0, RV_0_0, RV_0_1, RV_0_2, RV_0_3, RV_0_4, RV_0_5, RV_0_9, RV_0_10, c_isLineX hC.1 hC.2.1, kR_at, if_neg h1, if_neg hy.1, if_pos hy.2]
  simp only [S59_0, S59_1, S59_2, S59_5, S59_8, S59_9, S59_12, S59_13, S59_15, S59_18, S59_26, S59_27, S59_30, S59_31, S59_68, S59_69, S59_72, S59_75, S59_76, S59_77, S59_78, S59_79, S59_82, S59_85, S59_86, S59_87, S59_88, S59_89, S59_92, S59_95, S59_96, S59_97, S59_98, S59_99, S59_102, S59_105, S59_106, S59_107, S59_108, S59_109, S59_112, S59_115, S59_116, S59_119, S59_120, S59_121, S59_124, S59_127, S59_128, S59_131, S59_132, S59_133, S59_136, S59_139, S59_140, S59_143, shp_0, RV_0_0, RV_0_1, RV_0_2, RV_0_3, RV_0_4, RV_0_5, RV_0_9, RV_0_10]
  refine c_settle (d := d) hC (fun h' f s z => ?_)
  have k1 := kk h' f (stl_cls s z)
  have hNl := s.2.1.2.2.2.2.2 l hl
  have cl := nI_cl (show l < 2147483648 by omega)
  unfold lnV at k1
  rw [kV_at, S59_30, S59_31]
  by_cases y0 : y = 0
  · rw [if_pos y0] at k1 ⊢
    simp only [S59_0, S59_1, S59_2, S59_5, S59_8, S59_9, S59_12, S59_13, S59_15, S59_18, S59_26, S59_27, S59_30, S59_31, S59_68, S59_69, S59_72, S59_75, S59_76, S59_77, S59_78, S59_79, S59_82, S59_85, S59_86, S59_87, S59_88, S59_89, S59_92, S59_95, S59_96, S59_97, S59_98, S59_99, S59_102, S59_105, S59_106, S59_107, S59_108, S59_109, S59_112, S59_115, S59_116, S59_119, S59_120, S59_121, S59_124, S59_127, S59_128, S59_131, S59_132, S59_133, S59_136, S59_139, S59_140, S59_143, shp_0, RV_0_0, RV_0_1, RV_0_2, RV_0_3, RV_0_4, RV_0_5, RV_0_9, RV_0_10, shp_8, RV_8_0, RV_8_5, RV_8_6, shp_21, RV_21_2, RV_21_5, RV_21_6, RV_21_7, RV_21_8, ok23 hl11, cl, hNl.1]
    exact k1
  rw [if_neg y0] at k1 ⊢
  by_cases y1 : y = 1
  · rw [if_pos y1] at k1 ⊢
    simp only [S59_0, S59_1, S59_2, S59_5, S59_8, S59_9, S59_12, S59_13, S59_15, S59_18, S59_26, S59_27, S59_30, S59_31, S59_68, S59_69, S59_72, S59_75, S59_76, S59_77, S59_78, S59_79, S59_82, S59_85, S59_86, S59_87, S59_88, S59_89, S59_92, S59_95, S59_96, S59_97, S59_98, S59_99, S59_102, S59_105, S59_106, S59_107, S59_108, S59_109, S59_112, S59_115, S59_116, S59_119, S59_120, S59_121, S59_124, S59_127, S59_128, S59_131, S59_132, S59_133, S59_136, S59_139, S59_140, S59_143, shp_0, RV_0_0, RV_0_1, RV_0_2, RV_0_3, RV_0_4, RV_0_5, RV_0_9, RV_0_10, shp_8, RV_8_0, RV_8_5, RV_8_6, shp_21, RV_21_2, RV_21_5, RV_21_6, RV_21_7, RV_21_8, ok24 hl11, cl, hNl.2.1]
    exact k1
  rw [if_neg y1] at k1 ⊢
  by_cases y2 : y = 2
  · rw [if_pos y2] at k1 ⊢
    simp only [S59_0, S59_1, S59_2, S59_5, S59_8, S59_9, S59_12, S59_13, S59_15, S59_18, S59_26, S59_27, S59_30, S59_31, S59_68, S59_69, S59_72, S59_75, S59_76, S59_77, S59_78, S59_79, S59_82, S59_85, S59_86, S59_87, S59_88, S59_89, S59_92, S59_95, S59_96, S59_97, S59_98, S59_99, S59_102, S59_105, S59_106, S59_107, S59_108, S59_109, S59_112, S59_115, S59_116, S59_119, S59_120, S59_121, S59_124, S59_127, S59_128, S59_131, S59_132, S59_133, S59_136, S59_139, S59_140, S59_143, shp_0, RV_0_0, RV_0_1, RV_0_2, RV_0_3, RV_0_4, RV_0_5, RV_0_9, RV_0_10, shp_8, RV_8_0, RV_8_5, RV_8_6, shp_21, RV_21_2, RV_21_5, RV_21_6, RV_21_7, RV_21_8, ok25 hl11, cl, hNl.2.2.1]
    exact k1
  rw [if_neg y2] at k1 ⊢
  by_cases y3 : y = 3
  · rw [if_pos y3] at k1 ⊢
    simp only [S59_0, S59_1, S59_2, S59_5, S59_8, S59_9, S59_12, S59_13, S59_15, S59_18, S59_26, S59_27, S59_30, S59_31, S59_68, S59_69, S59_72, S59_75, S59_76, S59_77, S59_78, S59_79, S59_82, S59_85, S59_86, S59_87, S59_88, S59_89, S59_92, S59_95, S59_96, S59_97, S59_98, S59_99, S59_102, S59_105, S59_106, S59_107, S59_108, S59_109, S59_112, S59_115, S59_116, S59_119, S59_120, S59_121, S59_124, S59_127, S59_128, S59_131, S59_132, S59_133, S59_136, S59_139, S59_140, S59_143, shp_0, RV_0_0, RV_0_1, RV_0_2, RV_0_3, RV_0_4, RV_0_5, RV_0_9, RV_0_10, shp_8, RV_8_0, RV_8_5, RV_8_6, shp_21, RV_21_2, RV_21_5, RV_21_6, RV_21_7, RV_21_8, ok26 hl11, cl, hNl.2.2.2]
    exact k1
  rw [if_neg y3] at k1 ⊢
  by_cases y4 : y = 4
  · rw [if_pos y4] at k1 ⊢
    simp only [S59_0, S59_1, S59_2, S59_5, S59_8, S59_9, S59_12, S59_13, S59_15, S59_18, S59_26, S59_27, S59_30, S59_31, S59_68, S59_69, S59_72, S59_75, S59_76, S59_77, S59_78, S59_79, S59_82, S59_85, S59_86, S59_87, S59_88, S59_89, S59_92, S59_95, S59_96, S59_97, S59_98, S59_99, S59_102, S59_105, S59_106, S59_107, S59_108, S59_109, S59_112, S59_115, S59_116, S59_119, S59_120, S59_121, S59_124, S59_127, S59_128, S59_131, S59_132, S59_133, S59_136, S59_139, S59_140, S59_143, shp_0, RV_0_0, RV_0_1, RV_0_2, RV_0_3, RV_0_4, RV_0_5, RV_0_9, RV_0_10, shp_8, RV_8_0, RV_8_5, RV_8_6, shp_21, RV_21_2, RV_21_5, RV_21_6, RV_21_7, RV_21_8, c_bit, s.2.1.2.2.2.1, bitm (show l < 32 by omega), kR_at, pb_sn hV hl]
    exact k1
  rw [if_neg y4] at k1 ⊢
  by_cases y5 : y = 5
  · rw [if_pos y5] at k1 ⊢
    simp only [S59_0, S59_1, S59_2, S59_5, S59_8, S59_9, S59_12, S59_13, S59_15, S59_18, S59_26, S59_27, S59_30, S59_31, S59_68, S59_69, S59_72, S59_75, S59_76, S59_77, S59_78, S59_79, S59_82, S59_85, S59_86, S59_87, S59_88, S59_89, S59_92, S59_95, S59_96, S59_97, S59_98, S59_99, S59_102, S59_105, S59_106, S59_107, S59_108, S59_109, S59_112, S59_115, S59_116, S59_119, S59_120, S59_121, S59_124, S59_127, S59_128, S59_131, S59_132, S59_133, S59_136, S59_139, S59_140, S59_143, shp_0, RV_0_0, RV_0_1, RV_0_2, RV_0_3, RV_0_4, RV_0_5, RV_0_9, RV_0_10, shp_8, RV_8_0, RV_8_5, RV_8_6, shp_21, RV_21_2, RV_21_5, RV_21_6, RV_21_7, RV_21_8, c_bit, s.2.2.1.1.1, bitm (show l < 32 by omega), kR_at]
    exact k1
  rw [if_neg y5] at k1 ⊢
  simp only [S59_0, S59_1, S59_2, S59_5, S59_8, S59_9, S59_12, S59_13, S59_15, S59_18, S59_26, S59_27, S59_30, S59_31, S59_68, S59_69, S59_72, S59_75, S59_76, S59_77, S59_78, S59_79, S59_82, S59_85, S59_86, S59_87, S59_88, S59_89, S59_92, S59_95, S59_96, S59_97, S59_98, S59_99, S59_102, S59_105, S59_106, S59_107, S59_108, S59_109, S59_112, S59_115, S59_116, S59_119, S59_120, S59_121, S59_124, S59_127, S59_128, S59_131, S59_132, S59_133, S59_136, S59_139, S59_140, S59_143, shp_0, RV_0_0, RV_0_1, RV_0_2, RV_0_3, RV_0_4, RV_0_5, RV_0_9, RV_0_10, shp_8, RV_8_0, RV_8_5, RV_8_6, shp_21, RV_21_2, RV_21_5, RV_21_6, RV_21_7, RV_21_8, c_bit, s.2.2.1.2.2.1, bitm (show l < 32 by omega), kR_at]
  exact k1
theorem m_line_no (hr : h.1 95 = r) (hV : VR r) (hx : ¬ (isL r x ∧ isW 6 y)) (kk : mPost r h Q 1 (some (.int 0))) : WP (d + 5) 197 0 [some (.ref 93), some (.int x), some (.int y)] [] h Q := by
  have k1 := ref_postI hr kk
  have n0 : isL r x → ¬ y = 0 := fun a z => hx ⟨a, by subst z; exact ⟨by decide, by decide⟩⟩
  have n1 : isL r x → ¬ y = 1 := fun a z => hx ⟨a, by subst z; exact ⟨by decide, by decide⟩⟩
  have n2 : isL r x → ¬ y = 2 := fun a z => hx ⟨a, by subst z; exact ⟨by decide, by decide⟩⟩
  have n3 : isL r x → ¬ y = 3 := fun a z => hx ⟨a, by subst z; exact ⟨by decide, by decide⟩⟩
  have n4 : isL r x → ¬ y = 4 := fun a z => hx ⟨a, by subst z; exact ⟨by decide, by decide⟩⟩
  have n5 : isL r x → ¬ y = 5 := fun a z => hx ⟨a, by subst z; exact ⟨by decide, by decide⟩⟩
  have n6 : isL r x → ¬ y = 6 := fun a z => hx ⟨a, by subst z; exact ⟨by decide, by decide⟩⟩
  rw [S197_0, S197_1, S197_2 shp_93, S197_5, S197_6, S197_7 shp_93, m_isLineX (r0 (x := 0) hr) hV, kR_at, S197_10]
  by_cases h1 : isL r x
  · rw [if_neg (fun z => pb_0.mp z h1), S197_18, S197_19, if_neg (n0 h1), if_neg (n1 h1), if_neg (n2 h1), if_neg (n3 h1), if_neg (n4 h1), if_neg (n5 h1), if_neg (n6 h1)]
    simp only [S197_0, S197_1, S197_2, S197_5, S197_6, S197_7, S197_10, S197_13, S197_14, S197_17, S197_18, S197_19, S197_60, S197_61, S197_62, S197_65, S197_66, S197_67, S197_68, S197_71, S197_72, S197_73, S197_76, S197_78, S197_79, S197_80, S197_81, S197_82, S197_83, S197_86, S197_88, S197_89, S197_90, S197_91, S197_92, S197_93, S197_96, S197_98, S197_99, S197_100, S197_101, S197_102, S197_103, S197_106, S197_107, S197_110, S197_113, S197_114, S197_117, S197_118, S197_119, S197_120, S197_121, S197_124, S197_127, S197_128, S197_131, S197_132, S197_133, S197_134, S197_137, shp_93, RV_93_1, RV_93_13, RV_93_14, RV_93_15, RV_93_16, RV_93_17, RV_93_18, RV_93_19, RV_93_20, RV_93_23, RV_93_24, RV_93_27, RV_93_28, RV_93_29, m_refuse, kR_at]
    exact k1
  · rw [if_pos (pb_0.mpr h1)]
    simp only [S197_0, S197_1, S197_2, S197_5, S197_6, S197_7, S197_10, S197_13, S197_14, S197_17, S197_18, S197_19, S197_60, S197_61, S197_62, S197_65, S197_66, S197_67, S197_68, S197_71, S197_72, S197_73, S197_76, S197_78, S197_79, S197_80, S197_81, S197_82, S197_83, S197_86, S197_88, S197_89, S197_90, S197_91, S197_92, S197_93, S197_96, S197_98, S197_99, S197_100, S197_101, S197_102, S197_103, S197_106, S197_107, S197_110, S197_113, S197_114, S197_117, S197_118, S197_119, S197_120, S197_121, S197_124, S197_127, S197_128, S197_131, S197_132, S197_133, S197_134, S197_137, shp_93, RV_93_1, RV_93_13, RV_93_14, RV_93_15, RV_93_16, RV_93_17, RV_93_18, RV_93_19, RV_93_20, RV_93_23, RV_93_24, RV_93_27, RV_93_28, RV_93_29, m_refuse, kR_at]
    exact k1
theorem m_line_yes (hr : h.1 95 = r) (hV : VR r) (hl : l < rL r) (hy : isW 6 y) (kk : mPost r h Q 0 (some (.int (lnV r l y)))) : WP (d + 5) 197 0 [some (.ref 93), some (.int (nI l)), some (.int y)] [] h Q := by
  have h11 := hV.2.1.2
  have hl11 : l < 11 := by omega
  have h1 : ¬ pb (isL r (nI l)) = 0 := fun z => pb_0.mp z ⟨l, hl, rfl⟩
  have k1 := kk _ M0 (r0 (x := 0) hr) t0
  unfold lnV at k1
  have hr1 := r0 (h := h) (x := 0) hr
  rw [S197_0, S197_1, S197_2 shp_93, S197_5, S197_6, S197_7 shp_93, m_isLineX hr1 hV, kR_at, S197_10, if_neg h1, S197_18, S197_19]
  by_cases y0 : y = 0
  · rw [if_pos y0] at k1 ⊢
    simp only [S197_0, S197_1, S197_2, S197_5, S197_6, S197_7, S197_10, S197_13, S197_14, S197_17, S197_18, S197_19, S197_60, S197_61, S197_62, S197_65, S197_66, S197_67, S197_68, S197_71, S197_72, S197_73, S197_76, S197_78, S197_79, S197_80, S197_81, S197_82, S197_83, S197_86, S197_88, S197_89, S197_90, S197_91, S197_92, S197_93, S197_96, S197_98, S197_99, S197_100, S197_101, S197_102, S197_103, S197_106, S197_107, S197_110, S197_113, S197_114, S197_117, S197_118, S197_119, S197_120, S197_121, S197_124, S197_127, S197_128, S197_131, S197_132, S197_133, S197_134, S197_137, shp_93, RV_93_1, RV_93_13, RV_93_14, RV_93_15, RV_93_16, RV_93_17, RV_93_18, RV_93_19, RV_93_20, RV_93_23, RV_93_24, RV_93_27, RV_93_28, RV_93_29, m_first hl11, kR_at, hr1]
    exact k1
  rw [if_neg y0] at k1 ⊢
  by_cases y1 : y = 1
  · rw [if_pos y1] at k1 ⊢
    simp only [S197_0, S197_1, S197_2, S197_5, S197_6, S197_7, S197_10, S197_13, S197_14, S197_17, S197_18, S197_19, S197_60, S197_61, S197_62, S197_65, S197_66, S197_67, S197_68, S197_71, S197_72, S197_73, S197_76, S197_78, S197_79, S197_80, S197_81, S197_82, S197_83, S197_86, S197_88, S197_89, S197_90, S197_91, S197_92, S197_93, S197_96, S197_98, S197_99, S197_100, S197_101, S197_102, S197_103, S197_106, S197_107, S197_110, S197_113, S197_114, S197_117, S197_118, S197_119, S197_120, S197_121, S197_124, S197_127, S197_128, S197_131, S197_132, S197_133, S197_134, S197_137, shp_93, RV_93_1, RV_93_13, RV_93_14, RV_93_15, RV_93_16, RV_93_17, RV_93_18, RV_93_19, RV_93_20, RV_93_23, RV_93_24, RV_93_27, RV_93_28, RV_93_29, m_second hl11, kR_at, hr1]
    exact k1
  rw [if_neg y1] at k1 ⊢
  by_cases y2 : y = 2
  · rw [if_pos y2] at k1 ⊢
    simp only [S197_0, S197_1, S197_2, S197_5, S197_6, S197_7, S197_10, S197_13, S197_14, S197_17, S197_18, S197_19, S197_60, S197_61, S197_62, S197_65, S197_66, S197_67, S197_68, S197_71, S197_72, S197_73, S197_76, S197_78, S197_79, S197_80, S197_81, S197_82, S197_83, S197_86, S197_88, S197_89, S197_90, S197_91, S197_92, S197_93, S197_96, S197_98, S197_99, S197_100, S197_101, S197_102, S197_103, S197_106, S197_107, S197_110, S197_113, S197_114, S197_117, S197_118, S197_119, S197_120, S197_121, S197_124, S197_127, S197_128, S197_131, S197_132, S197_133, S197_134, S197_137, shp_93, RV_93_1, RV_93_13, RV_93_14, RV_93_15, RV_93_16, RV_93_17, RV_93_18, RV_93_19, RV_93_20, RV_93_23, RV_93_24, RV_93_27, RV_93_28, RV_93_29, la_36, ok95 (show 36 + l < 69 by omega), nI_cl (show 36 + l < 2147483648 by omega), hr1]
    exact k1
  rw [if_neg y2] at k1 ⊢
  by_cases y3 : y = 3
  · rw [if_pos y3] at k1 ⊢
    simp only [S197_0, S197_1, S197_2, S197_5, S197_6, S197_7, S197_10, S197_13, S197_14, S197_17, S197_18, S197_19, S197_60, S197_61, S197_62, S197_65, S197_66, S197_67, S197_68, S197_71, S197_72, S197_73, S197_76, S197_78, S197_79, S197_80, S197_81, S197_82, S197_83, S197_86, S197_88, S197_89, S197_90, S197_91, S197_92, S197_93, S197_96, S197_98, S197_99, S197_100, S197_101, S197_102, S197_103, S197_106, S197_107, S197_110, S197_113, S197_114, S197_117, S197_118, S197_119, S197_120, S197_121, S197_124, S197_127, S197_128, S197_131, S197_132, S197_133, S197_134, S197_137, shp_93, RV_93_1, RV_93_13, RV_93_14, RV_93_15, RV_93_16, RV_93_17, RV_93_18, RV_93_19, RV_93_20, RV_93_23, RV_93_24, RV_93_27, RV_93_28, RV_93_29, la_47, ok95 (show 47 + l < 69 by omega), nI_cl (show 47 + l < 2147483648 by omega), hr1]
    exact k1
  rw [if_neg y3] at k1 ⊢
  by_cases y4 : y = 4
  · rw [if_pos y4] at k1 ⊢
    simp only [S197_0, S197_1, S197_2, S197_5, S197_6, S197_7, S197_10, S197_13, S197_14, S197_17, S197_18, S197_19, S197_60, S197_61, S197_62, S197_65, S197_66, S197_67, S197_68, S197_71, S197_72, S197_73, S197_76, S197_78, S197_79, S197_80, S197_81, S197_82, S197_83, S197_86, S197_88, S197_89, S197_90, S197_91, S197_92, S197_93, S197_96, S197_98, S197_99, S197_100, S197_101, S197_102, S197_103, S197_106, S197_107, S197_110, S197_113, S197_114, S197_117, S197_118, S197_119, S197_120, S197_121, S197_124, S197_127, S197_128, S197_131, S197_132, S197_133, S197_134, S197_137, shp_93, RV_93_1, RV_93_13, RV_93_14, RV_93_15, RV_93_16, RV_93_17, RV_93_18, RV_93_19, RV_93_20, RV_93_23, RV_93_24, RV_93_27, RV_93_28, RV_93_29, la_58, ok95 (show 58 + l < 69 by omega), nI_cl (show 58 + l < 2147483648 by omega), hr1]
    exact k1
  rw [if_neg y4] at k1 ⊢
  by_cases y5 : y = 5
  · rw [if_pos y5] at k1 ⊢
    simp only [S197_0, S197_1, S197_2, S197_5, S197_6, S197_7, S197_10, S197_13, S197_14, S197_17, S197_18, S197_19, S197_60, S197_61, S197_62, S197_65, S197_66, S197_67, S197_68, S197_71, S197_72, S197_73, S197_76, S197_78, S197_79, S197_80, S197_81, S197_82, S197_83, S197_86, S197_88, S197_89, S197_90, S197_91, S197_92, S197_93, S197_96, S197_98, S197_99, S197_100, S197_101, S197_102, S197_103, S197_106, S197_107, S197_110, S197_113, S197_114, S197_117, S197_118, S197_119, S197_120, S197_121, S197_124, S197_127, S197_128, S197_131, S197_132, S197_133, S197_134, S197_137, shp_93, RV_93_1, RV_93_13, RV_93_14, RV_93_15, RV_93_16, RV_93_17, RV_93_18, RV_93_19, RV_93_20, RV_93_23, RV_93_24, RV_93_27, RV_93_28, RV_93_29, m_treeR hr1 hV, m_has (show l < 32 by omega), kR_at, b2i_mask (show l < 32 by omega)]
    by_cases c : tre r l
    · rw [if_neg (fun z => pb_0.mp z c)]
      rw [pb_t c] at k1
      exact k1
    · rw [if_pos (pb_0.mpr c)]
      rw [pb_f c] at k1
      exact k1
  rw [if_neg y5] at k1 ⊢
  have y6 : y = 6 := by
    rcases isW_6 hy with e | e | e | e | e | e | e
    · exact absurd e y0
    · exact absurd e y1
    · exact absurd e y2
    · exact absurd e y3
    · exact absurd e y4
    · exact absurd e y5
    · exact e
  rw [if_pos y6]
  simp only [S197_0, S197_1, S197_2, S197_5, S197_6, S197_7, S197_10, S197_13, S197_14, S197_17, S197_18, S197_19, S197_60, S197_61, S197_62, S197_65, S197_66, S197_67, S197_68, S197_71, S197_72, S197_73, S197_76, S197_78, S197_79, S197_80, S197_81, S197_82, S197_83, S197_86, S197_88, S197_89, S197_90, S197_91, S197_92, S197_93, S197_96, S197_98, S197_99, S197_100, S197_101, S197_102, S197_103, S197_106, S197_107, S197_110, S197_113, S197_114, S197_117, S197_118, S197_119, S197_120, S197_121, S197_124, S197_127, S197_128, S197_131, S197_132, S197_133, S197_134, S197_137, shp_93, RV_93_1, RV_93_13, RV_93_14, RV_93_15, RV_93_16, RV_93_17, RV_93_18, RV_93_19, RV_93_20, RV_93_23, RV_93_24, RV_93_27, RV_93_28, RV_93_29, m_isBridgeX hr1 hV hl, kR_at]
  by_cases c : brg r l
  · rw [if_neg (fun z => pb_0.mp z c)]
    rw [pb_t c] at k1
    exact k1
  · rw [if_pos (pb_0.mpr c)]
    rw [pb_f c] at k1
    exact k1
end
