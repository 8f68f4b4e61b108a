/-! next, alike on both sides. -/
abbrev NS : Type := Int32 × Int32 × Int
noncomputable def nxS (r : Nat → Int32) (p q : Nat) (s : NS) : NS := @ite _ (Td r (snd r) p q ∧ s.2.2 < dbt r p q) (Classical.propDecidable _) (nI p, nI q, dbt r p q) s
noncomputable def nxQ (r : Nat → Int32) (p : Nat) : Nat → NS → NS
  | 0, s => s
  | n + 1, s => nxS r p (p + 1 + n) (nxQ r p n s)
noncomputable def nxP (r : Nat → Int32) : Nat → NS
  | 0 => (-1, -1, -1)
  | p + 1 => nxQ r p (rP r - (p + 1)) (nxP r p)
def nsel (x : Int32) (s : NS) : Int32 := if x = 0 then s.1 else s.2.1
def nxB (s : NS) : Prop := s.2.2.natAbs ≤ 569908224
section
variable {d : Nat} {h : Hp} {Q : Option (Option Value) → Hp → Prop} {x y z t : Int32} {k l p q : Nat} {r : Nat → Int32} {s : NS}
theorem nxS_y (h1 : Td r (snd r) p q) (h2 : s.2.2 < dbt r p q) : nxS r p q s = (nI p, nI q, dbt r p q) := @if_pos _ (Classical.propDecidable _) ⟨h1, h2⟩ _ _ _
theorem nxS_n (h1 : ¬ (Td r (snd r) p q ∧ s.2.2 < dbt r p q)) : nxS r p q s = s := @if_neg _ (Classical.propDecidable _) h1 _ _ _
theorem nxS_b (hV : VR r) (hs : nxB s) : nxB (nxS r p q s) := by
  by_cases c : Td r (snd r) p q ∧ s.2.2 < dbt r p q
  · rw [nxS_y c.1 c.2]; exact dbt_b hV
  · rw [nxS_n c]; exact hs
theorem nxQ_b (hV : VR r) (hs : nxB s) : ∀ n, nxB (nxQ r p n s)
  | 0 => hs
  | n + 1 => nxS_b hV (nxQ_b hV hs n)
theorem nxP_b (hV : VR r) : ∀ p, nxB (nxP r p)
  | 0 => by show (-1 : Int).natAbs ≤ _; decide
  | p + 1 => nxQ_b hV (nxP_b hV p) _
theorem c_next_q (hS : stl r h) (hp : p < rP r) (hs : nxB s) : ∀ (m n : Nat), p + 1 + n + m = rP r → WP (d + 2) 73 24 [some (.ref 0), some (.int x), some (.int (nsel x (nxQ r p (n + m) s))), some (.long (iL (nxQ r p (n + m) s).2.2)), none, some (.int (nI (p + 1))), some (.int (nI (rP r)))] [] h Q → WP (d + 2) 73 42 [some (.ref 0), some (.int x), some (.int (nsel x (nxQ r p n s))), some (.long (iL (nxQ r p n s).2.2)), none, some (.int (nI p)), some (.int (nI (p + 1 + n)))] [] h Q := by
  have hV := hS.1
  have h6 := hV.1
  intro m
  induction m with
  | zero =>
    intro n hn hk
    have e : p + 1 + n = rP r := by omega
    have hcd : nI (rP r) ≤ nI (p + 1 + n) := nI_le (by omega) (by omega)
    rw [S73_42]
    simp only [S73_0, S73_1, S73_4, S73_5, S73_6, S73_9, S73_10, S73_11, S73_12, S73_15, S73_16, S73_17, S73_20, S73_21, S73_22, S73_26, S73_27, S73_30, S73_33, S73_36, S73_38, S73_39, S73_40, S73_44, S73_45, S73_48, S73_51, S73_54, S73_55, S73_58, S73_61, S73_63, S73_64, S73_65, S73_68, S73_71, S73_73, S73_74, S73_77, S73_78, S73_81, S73_83, S73_85, S73_88, S73_89, S73_90, S73_93, S73_94, S73_97, S73_99, S73_101, S73_104, S73_105, S73_106, S73_109, S73_111, S73_114, S73_116, S73_117, S73_120, S73_123, S73_126, S73_129, S73_130, shp_0, RV_0_0, RV_0_1, RV_0_2, RV_0_3, RV_0_4, RV_0_5, RV_0_9, RV_0_10, shp_21, RV_21_2, RV_21_5, RV_21_6, RV_21_7, RV_21_8, hS.2.1.1, h6.1, if_pos hcd, kl_none, nI_add1]
    rw [e]
    exact hk
  | succ m ih =>
    intro n hn hk
    have hcd : ¬ nI (rP r) ≤ nI (p + 1 + n) := nI_ge (by omega) (by omega)
    have hq : p + 1 + n < rP r := by omega
    have e1 := hS.2.2.1.1.2.1 p (by omega)
    have e2 := hS.2.2.1.1.2.1 (p + 1 + n) (by omega)
    have hpp := (ptOf_ok r p).2.1
    have hqq := (ptOf_ok r (p + 1 + n)).2.1
    have b1 : (nxQ r p n s).2.2.natAbs ≤ 569908224 := nxQ_b hV hs n
    have b2 := dbt_b (p := p) (q := p + 1 + n) hV
    have ih := ih (n + 1) (by omega) (by rw [show n + 1 + m = n + (m + 1) by omega]; exact hk)
    rw [show p + 1 + (n + 1) = p + 1 + n + 1 by omega] at ih
    rw [S73_42]
    simp only [S73_0, S73_1, S73_4, S73_5, S73_6, S73_9, S73_10, S73_11, S73_12, S73_15, S73_16, S73_17, S73_20, S73_21, S73_22, S73_26, S73_27, S73_30, S73_33, S73_36, S73_38, S73_39, S73_40, S73_44, S73_45, S73_48, S73_51, S73_54, S73_55, S73_58, S73_61, S73_63, S73_64, S73_65, S73_68, S73_71, S73_73, S73_74, S73_77, S73_78, S73_81, S73_83, S73_85, S73_88, S73_89, S73_90, S73_93, S73_94, S73_97, S73_99, S73_101, S73_104, S73_105, S73_106, S73_109, S73_111, S73_114, S73_116, S73_117, S73_120, S73_123, S73_126, S73_129, S73_130, shp_0, RV_0_0, RV_0_1, RV_0_2, RV_0_3, RV_0_4, RV_0_5, RV_0_9, RV_0_10, shp_8, RV_8_0, RV_8_5, RV_8_6, shp_12, RV_12_1, RV_12_2, RV_12_3, shp_21, RV_21_2, RV_21_5, RV_21_6, RV_21_7, RV_21_8, hS.2.1.1, h6.1, if_neg hcd, ok9 (show p < 6 by omega), ok9 (show p + 1 + n < 6 by omega), nI_cl (show p < 2147483648 by omega), nI_cl (show p + 1 + n < 2147483648 by omega), e1, e2, nI_eq (show ptOf r p < 2 ^ 31 by omega) (show ptOf r (p + 1 + n) < 2 ^ 31 by omega)]
    by_cases ht : Td r (snd r) p (p + 1 + n)
    · rw [if_pos (ptOf_td.mpr ht)]
      simp only [S73_0, S73_1, S73_4, S73_5, S73_6, S73_9, S73_10, S73_11, S73_12, S73_15, S73_16, S73_17, S73_20, S73_21, S73_22, S73_26, S73_27, S73_30, S73_33, S73_36, S73_38, S73_39, S73_40, S73_44, S73_45, S73_48, S73_51, S73_54, S73_55, S73_58, S73_61, S73_63, S73_64, S73_65, S73_68, S73_71, S73_73, S73_74, S73_77, S73_78, S73_81, S73_83, S73_85, S73_88, S73_89, S73_90, S73_93, S73_94, S73_97, S73_99, S73_101, S73_104, S73_105, S73_106, S73_109, S73_111, S73_114, S73_116, S73_117, S73_120, S73_123, S73_126, S73_129, S73_130, shp_0, RV_0_0, RV_0_1, RV_0_2, RV_0_3, RV_0_4, RV_0_5, RV_0_9, RV_0_10, shp_8, RV_8_0, RV_8_5, RV_8_6, shp_12, RV_12_1, RV_12_2, RV_12_3, shp_21, RV_21_2, RV_21_5, RV_21_6, RV_21_7, RV_21_8, c_doubtAbove hS hp hq, kR_at, lg_cmp_le, iL_le b2 b1 (by decide)]
      by_cases hlt : (nxQ r p n s).2.2 < dbt r p (p + 1 + n)
      · have e : nxQ r p (n + 1) s = (nI p, nI (p + 1 + n), dbt r p (p + 1 + n)) := nxS_y ht hlt
        rw [e] at ih
        rw [if_neg (by omega)]
        simp only [S73_0, S73_1, S73_4, S73_5, S73_6, S73_9, S73_10, S73_11, S73_12, S73_15, S73_16, S73_17, S73_20, S73_21, S73_22, S73_26, S73_27, S73_30, S73_33, S73_36, S73_38, S73_39, S73_40, S73_44, S73_45, S73_48, S73_51, S73_54, S73_55, S73_58, S73_61, S73_63, S73_64, S73_65, S73_68, S73_71, S73_73, S73_74, S73_77, S73_78, S73_81, S73_83, S73_85, S73_88, S73_89, S73_90, S73_93, S73_94, S73_97, S73_99, S73_101, S73_104, S73_105, S73_106, S73_109, S73_111, S73_114, S73_116, S73_117, S73_120, S73_123, S73_126, S73_129, S73_130, shp_0, RV_0_0, RV_0_1, RV_0_2, RV_0_3, RV_0_4, RV_0_5, RV_0_9, RV_0_10, shp_8, RV_8_0, RV_8_5, RV_8_6, shp_12, RV_12_1, RV_12_2, RV_12_3, shp_21, RV_21_2, RV_21_5, RV_21_6, RV_21_7, RV_21_8, c_doubtAbove hS hp hq, kR_at, kl_none, kl_int, kl_long, nI_add1]
        unfold nsel at ih
        by_cases hx : x = 0
        · rw [if_pos hx]
          rw [if_pos hx] at ih
          exact ih
        · rw [if_neg hx]
          rw [if_neg hx] at ih
          exact ih
      · have e : nxQ r p (n + 1) s = nxQ r p n s := nxS_n (fun z => hlt z.2)
        rw [e] at ih
        rw [if_pos (by omega)]
        simp only [S73_0, S73_1, S73_4, S73_5, S73_6, S73_9, S73_10, S73_11, S73_12, S73_15, S73_16, S73_17, S73_20, S73_21, S73_22, S73_26, S73_27, S73_30, S73_33, S73_36, S73_38, S73_39, S73_40, S73_44, S73_45, S73_48, S73_51, S73_54, S73_55, S73_58, S73_61, S73_63, S73_64, S73_65, S73_68, S73_71, S73_73, S73_74, S73_77, S73_78, S73_81, S73_83, S73_85, S73_88, S73_89, S73_90, S73_93, S73_94, S73_97, S73_99, S73_101, S73_104, S73_105, S73_106, S73_109, S73_111, S73_114, S73_116, S73_117, S73_120, S73_123, S73_126, S73_129, S73_130, kl_none, kl_int, nI_add1]
        exact ih
    · rw [if_neg (fun z => ht (ptOf_td.mp z))]
      have e : nxQ r p (n + 1) s = nxQ r p n s := nxS_n (fun z => ht z.1)
      rw [e] at ih
      simp only [S73_0, S73_1, S73_4, S73_5, S73_6, S73_9, S73_10, S73_11, S73_12, S73_15, S73_16, S73_17, S73_20, S73_21, S73_22, S73_26, S73_27, S73_30, S73_33, S73_36, S73_38, S73_39, S73_40, S73_44, S73_45, S73_48, S73_51, S73_54, S73_55, S73_58, S73_61, S73_63, S73_64, S73_65, S73_68, S73_71, S73_73, S73_74, S73_77, S73_78, S73_81, S73_83, S73_85, S73_88, S73_89, S73_90, S73_93, S73_94, S73_97, S73_99, S73_101, S73_104, S73_105, S73_106, S73_109, S73_111, S73_114, S73_116, S73_117, S73_120, S73_123, S73_126, S73_129, S73_130, kl_none, kl_int, nI_add1]
      exact ih
theorem c_next_p (hS : stl r h) : ∀ (m p : Nat) (o6 : Option Value), p + m = rP r → Q (some (some (.int (nsel x (nxP r (rP r)))))) h → WP (d + 2) 73 24 [some (.ref 0), some (.int x), some (.int (nsel x (nxP r p))), some (.long (iL (nxP r p).2.2)), none, some (.int (nI p)), o6] [] h Q := by
  have hV := hS.1
  have h6 := hV.1
  intro m
  induction m with
  | zero =>
    intro p o6 hp kk
    have : p = rP r := by omega
    subst this
    have hcd : nI (rP r) ≤ nI (rP r) := nI_le (Nat.le_refl _) (by omega)
    rw [S73_24]
    simp only [S73_0, S73_1, S73_4, S73_5, S73_6, S73_9, S73_10, S73_11, S73_12, S73_15, S73_16, S73_17, S73_20, S73_21, S73_22, S73_26, S73_27, S73_30, S73_33, S73_36, S73_38, S73_39, S73_40, S73_44, S73_45, S73_48, S73_51, S73_54, S73_55, S73_58, S73_61, S73_63, S73_64, S73_65, S73_68, S73_71, S73_73, S73_74, S73_77, S73_78, S73_81, S73_83, S73_85, S73_88, S73_89, S73_90, S73_93, S73_94, S73_97, S73_99, S73_101, S73_104, S73_105, S73_106, S73_109, S73_111, S73_114, S73_116, S73_117, S73_120, S73_123, S73_126, S73_129, S73_130, shp_0, RV_0_0, RV_0_1, RV_0_2, RV_0_3, RV_0_4, RV_0_5, RV_0_9, RV_0_10, shp_21, RV_21_2, RV_21_5, RV_21_6, RV_21_7, RV_21_8, hS.2.1.1, h6.1, if_pos hcd]
    exact kk
  | succ m ih =>
    intro p o6 hp kk
    have hcd : ¬ nI (rP r) ≤ nI p := nI_ge (by omega) (by omega)
    rw [S73_24]
    simp only [S73_0, S73_1, S73_4, S73_5, S73_6, S73_9, S73_10, S73_11, S73_12, S73_15, S73_16, S73_17, S73_20, S73_21, S73_22, S73_26, S73_27, S73_30, S73_33, S73_36, S73_38, S73_39, S73_40, S73_44, S73_45, S73_48, S73_51, S73_54, S73_55, S73_58, S73_61, S73_63, S73_64, S73_65, S73_68, S73_71, S73_73, S73_74, S73_77, S73_78, S73_81, S73_83, S73_85, S73_88, S73_89, S73_90, S73_93, S73_94, S73_97, S73_99, S73_101, S73_104, S73_105, S73_106, S73_109, S73_111, S73_114, S73_116, S73_117, S73_120, S73_123, S73_126, S73_129, S73_130, shp_0, RV_0_0, RV_0_1, RV_0_2, RV_0_3, RV_0_4, RV_0_5, RV_0_9, RV_0_10, shp_21, RV_21_2, RV_21_5, RV_21_6, RV_21_7, RV_21_8, hS.2.1.1, h6.1, if_neg hcd, nI_add1, kl_int]
    have := c_next_q (d := d) (Q := Q) (x := x) hS (show p < rP r by omega) (nxP_b hV p) (rP r - (p + 1)) 0 (by omega)
    rw [Nat.zero_add] at this
    exact this (ih (p + 1) _ (by omega) kk)
theorem c_next_no (hC : cls r h) (hx : ¬ isH x) (kk : cPost r h Q (some (some (.int (-1))))) : WP (d + 6) 73 0 [some (.ref 0), some (.int x), none, none, none, none, none] [] h Q := by
  have k1 := kk h frmF_rf hC
  have h0 : ¬ x = 0 := fun z => hx (Or.inl z)
  have h1 : ¬ x = 1 := fun z => hx (Or.inr z)
  simp only [S73_0, S73_1, S73_4, S73_5, S73_6, S73_9, S73_10, S73_11, S73_12, S73_15, S73_16, S73_17, S73_20, S73_21, S73_22, S73_26, S73_27, S73_30, S73_33, S73_36, S73_38, S73_39, S73_40, S73_44, S73_45, S73_48, S73_51, S73_54, S73_55, S73_58, S73_61, S73_63, S73_64, S73_65, S73_68, S73_71, S73_73, S73_74, S73_77, S73_78, S73_81, S73_83, S73_85, S73_88, S73_89, S73_90, S73_93, S73_94, S73_97, S73_99, S73_101, S73_104, S73_105, S73_106, S73_109, S73_111, S73_114, S73_116, S73_117, S73_120, S73_123, S73_126, S73_129, S73_130, shp_0, RV_0_0, RV_0_1, RV_0_2, RV_0_3, RV_0_4, RV_0_5, RV_0_9, RV_0_10, if_neg h0, if_neg h1, h0, h1, if_false]
  exact k1
theorem c_next_yes (hC : cls r h) (hx : isH x) (kk : cPost r h Q (some (some (.int (nsel x (nxP r (rP r))))))) : WP (d + 6) 73 0 [some (.ref 0), some (.int x), none, none, none, none, none] [] h Q := by
  have k0 : WP (d + 6) 73 11 [some (.ref 0), some (.int x), none, none, none, none, none] [] h Q := by
    simp only [S73_0, S73_1, S73_4, S73_5, S73_6, S73_9, S73_10, S73_11, S73_12, S73_15, S73_16, S73_17, S73_20, S73_21, S73_22, S73_26, S73_27, S73_30, S73_33, S73_36, S73_38, S73_39, S73_40, S73_44, S73_45, S73_48, S73_51, S73_54, S73_55, S73_58, S73_61, S73_63, S73_64, S73_65, S73_68, S73_71, S73_73, S73_74, S73_77, S73_78, S73_81, S73_83, S73_85, S73_88, S73_89, S73_90, S73_93, S73_94, S73_97, S73_99, S73_101, S73_104, S73_105, S73_106, S73_109, S73_111, S73_114, S73_116, S73_117, S73_120, S73_123, S73_126, S73_129, S73_130, shp_0, RV_0_0, RV_0_1, RV_0_2, RV_0_3, RV_0_4, RV_0_5, RV_0_9, RV_0_10]
    refine c_settle (d := d) hC (fun h' f s z => ?_)
    have k1 := kk h' f (stl_cls s z)
    simp only [kV_at, S73_0, S73_1, S73_4, S73_5, S73_6, S73_9, S73_10, S73_11, S73_12, S73_15, S73_16, S73_17, S73_20, S73_21, S73_22, S73_26, S73_27, S73_30, S73_33, S73_36, S73_38, S73_39, S73_40, S73_44, S73_45, S73_48, S73_51, S73_54, S73_55, S73_58, S73_61, S73_63, S73_64, S73_65, S73_68, S73_71, S73_73, S73_74, S73_77, S73_78, S73_81, S73_83, S73_85, S73_88, S73_89, S73_90, S73_93, S73_94, S73_97, S73_99, S73_101, S73_104, S73_105, S73_106, S73_109, S73_111, S73_114, S73_116, S73_117, S73_120, S73_123, S73_126, S73_129, S73_130, kl_none, kl_int]
    rw [nI_l0]
    have := c_next_p (d := d + 4) (x := x) s (rP r) 0 none (by omega) k1
    have e : nsel x (nxP r 0) = -1 := by unfold nsel; show (if x = 0 then (-1 : Int32) else -1) = -1; split <;> rfl
    rw [e] at this
    exact this
  rcases hx with e | e
  · subst e
    rw [S73_0, S73_1, if_pos rfl]
    exact k0
  · subst e
    rw [S73_0, S73_1, if_neg (by decide), S73_4, S73_5, S73_6, if_pos rfl]
    exact k0
/-! the model's -/
theorem m_next_q (hV : VR r) (hp : p < rP r) (hs : nxB s) : ∀ (m n : Nat) (hc : Hp) (o8 : Option Value), p + 1 + n + m = rP r → mfr h hc → hc.1 95 = r → (∀ (h' : Hp) (o8 : Option Value), mfr h h' → h'.1 95 = r → WP (d + 8) 170 17 [some (.ref 93), some (.int x), some (.int (nxQ r p (n + m) s).1), some (.int (nxQ r p (n + m) s).2.1), some (.long (iL (nxQ r p (n + m) s).2.2)), none, some (.int (nI (p + 1))), some (.int (nI (rP r))), o8, none] [] h' Q) → WP (d + 8) 170 32 [some (.ref 93), some (.int x), some (.int (nxQ r p n s).1), some (.int (nxQ r p n s).2.1), some (.long (iL (nxQ r p n s).2.2)), none, some (.int (nI p)), some (.int (nI (p + 1 + n))), o8, none] [] hc Q := by
  have h6 := hV.1
  intro m
  induction m with
  | zero =>
    intro n hc o8 hn hf hr hk
    have e : p + 1 + n = rP r := by omega
    have hcd : nI (rP r) ≤ nI (p + 1 + n) := nI_le (by omega) (by omega)
    rw [S170_32]
    simp only [S170_0, S170_1, S170_2, S170_5, S170_6, S170_7, S170_8, S170_9, S170_12, S170_14, S170_15, S170_19, S170_20, S170_23, S170_26, S170_28, S170_29, S170_30, S170_34, S170_35, S170_38, S170_41, S170_42, S170_44, S170_46, S170_47, S170_50, S170_53, S170_56, S170_59, S170_60, S170_62, S170_64, S170_67, S170_69, S170_71, S170_73, S170_74, S170_77, S170_80, S170_82, S170_84, S170_86, S170_87, S170_89, S170_90, S170_93, S170_96, S170_99, S170_102, S170_103, S170_106, S170_107, S170_110, S170_111, S170_112, S170_115, S170_116, S170_119, S170_120, shp_93, RV_93_1, RV_93_13, RV_93_14, RV_93_15, RV_93_16, RV_93_17, RV_93_18, RV_93_19, RV_93_20, RV_93_23, RV_93_24, RV_93_27, RV_93_28, RV_93_29, m_points, kR_at, hr, h6.1, if_pos hcd, kl_none, nI_add1]
    rw [e]
    exact hk hc o8 hf hr
  | succ m ih =>
    intro n hc o8 hn hf hr hk
    have hcd : ¬ nI (rP r) ≤ nI (p + 1 + n) := nI_ge (by omega) (by omega)
    have hq : p + 1 + n < rP r := by omega
    have b1 : (nxQ r p n s).2.2.natAbs ≤ 569908224 := nxQ_b hV hs n
    have b2 := dbt_b (p := p) (q := p + 1 + n) hV
    have ih := fun hc o8 hf hr => ih (n + 1) hc o8 (by omega) hf hr (by rw [show n + 1 + m = n + (m + 1) by omega]; exact hk)
    rw [show p + 1 + (n + 1) = p + 1 + n + 1 by omega] at ih
    have hV1 : VR (hc.1 95) := by rw [hr]; exact hV
    rw [S170_32]
    simp only [S170_0, S170_1, S170_2, S170_5, S170_6, S170_7, S170_8, S170_9, S170_12, S170_14, S170_15, S170_19, S170_20, S170_23, S170_26, S170_28, S170_29, S170_30, S170_34, S170_35, S170_38, S170_41, S170_42, S170_44, S170_46, S170_47, S170_50, S170_53, S170_56, S170_59, S170_60, S170_62, S170_64, S170_67, S170_69, S170_71, S170_73, S170_74, S170_77, S170_80, S170_82, S170_84, S170_86, S170_87, S170_89, S170_90, S170_93, S170_96, S170_99, S170_102, S170_103, S170_106, S170_107, S170_110, S170_111, S170_112, S170_115, S170_116, S170_119, S170_120, shp_93, RV_93_1, RV_93_13, RV_93_14, RV_93_15, RV_93_16, RV_93_17, RV_93_18, RV_93_19, RV_93_20, RV_93_23, RV_93_24, RV_93_27, RV_93_28, RV_93_29, m_points, kR_at, hr, h6.1, if_neg hcd, m_sound hV1]
    rw [← hr, m_areTiedX (d := d + 4) hV1 (S := snd (hc.1 95)) (fun i hi => bt_mask (by omega)) (by rw [hr]; exact hp) (by rw [hr]; exact hq), hr]
    simp only [kR_at, S170_0, S170_1, S170_2, S170_5, S170_6, S170_7, S170_8, S170_9, S170_12, S170_14, S170_15, S170_19, S170_20, S170_23, S170_26, S170_28, S170_29, S170_30, S170_34, S170_35, S170_38, S170_41, S170_42, S170_44, S170_46, S170_47, S170_50, S170_53, S170_56, S170_59, S170_60, S170_62, S170_64, S170_67, S170_69, S170_71, S170_73, S170_74, S170_77, S170_80, S170_82, S170_84, S170_86, S170_87, S170_89, S170_90, S170_93, S170_96, S170_99, S170_102, S170_103, S170_106, S170_107, S170_110, S170_111, S170_112, S170_115, S170_116, S170_119, S170_120, shp_93, RV_93_1, RV_93_13, RV_93_14, RV_93_15, RV_93_16, RV_93_17, RV_93_18, RV_93_19, RV_93_20, RV_93_23, RV_93_24, RV_93_27, RV_93_28, RV_93_29]
    by_cases ht : Td r (snd r) p (p + 1 + n)
    · have ne : ¬ pb (Td r (snd r) p (p + 1 + n)) = 0 := fun z => pb_0.mp z ht
      simp only [ne, ne_eq, not_false_eq_true, if_false, if_true, ↓reduceIte, S170_0, S170_1, S170_2, S170_5, S170_6, S170_7, S170_8, S170_9, S170_12, S170_14, S170_15, S170_19, S170_20, S170_23, S170_26, S170_28, S170_29, S170_30, S170_34, S170_35, S170_38, S170_41, S170_42, S170_44, S170_46, S170_47, S170_50, S170_53, S170_56, S170_59, S170_60, S170_62, S170_64, S170_67, S170_69, S170_71, S170_73, S170_74, S170_77, S170_80, S170_82, S170_84, S170_86, S170_87, S170_89, S170_90, S170_93, S170_96, S170_99, S170_102, S170_103, S170_106, S170_107, S170_110, S170_111, S170_112, S170_115, S170_116, S170_119, S170_120, shp_93, RV_93_1, RV_93_13, RV_93_14, RV_93_15, RV_93_16, RV_93_17, RV_93_18, RV_93_19, RV_93_20, RV_93_23, RV_93_24, RV_93_27, RV_93_28, RV_93_29]
      refine m_doubtOf (d := d) hr hV hp hq (db_nz hV) (fun h1 f1 m1 s1 => ?_)
      simp only [kR_at, S170_0, S170_1, S170_2, S170_5, S170_6, S170_7, S170_8, S170_9, S170_12, S170_14, S170_15, S170_19, S170_20, S170_23, S170_26, S170_28, S170_29, S170_30, S170_34, S170_35, S170_38, S170_41, S170_42, S170_44, S170_46, S170_47, S170_50, S170_53, S170_56, S170_59, S170_60, S170_62, S170_64, S170_67, S170_69, S170_71, S170_73, S170_74, S170_77, S170_80, S170_82, S170_84, S170_86, S170_87, S170_89, S170_90, S170_93, S170_96, S170_99, S170_102, S170_103, S170_106, S170_107, S170_110, S170_111, S170_112, S170_115, S170_116, S170_119, S170_120, shp_93, RV_93_1, RV_93_13, RV_93_14, RV_93_15, RV_93_16, RV_93_17, RV_93_18, RV_93_19, RV_93_20, RV_93_23, RV_93_24, RV_93_27, RV_93_28, RV_93_29, kl_none, kl_int, kl_long, eI_of (db_V (p := p) (q := p + 1 + n) hV), lg_cmp_gt, Int64.not_le.symm, iL_le b2 b1 (by decide)]
      by_cases hlt : (nxQ r p n s).2.2 < dbt r p (p + 1 + n)
      · have e : nxQ r p (n + 1) s = (nI p, nI (p + 1 + n), dbt r p (p + 1 + n)) := nxS_y ht hlt
        rw [e] at ih
        rw [if_pos (by omega)]
        simp only [S170_0, S170_1, S170_2, S170_5, S170_6, S170_7, S170_8, S170_9, S170_12, S170_14, S170_15, S170_19, S170_20, S170_23, S170_26, S170_28, S170_29, S170_30, S170_34, S170_35, S170_38, S170_41, S170_42, S170_44, S170_46, S170_47, S170_50, S170_53, S170_56, S170_59, S170_60, S170_62, S170_64, S170_67, S170_69, S170_71, S170_73, S170_74, S170_77, S170_80, S170_82, S170_84, S170_86, S170_87, S170_89, S170_90, S170_93, S170_96, S170_99, S170_102, S170_103, S170_106, S170_107, S170_110, S170_111, S170_112, S170_115, S170_116, S170_119, S170_120, kl_none, kl_int, kl_long, nI_add1]
        exact ih h1 _ (frmF_tr hf f1) m1.1
      · have e : nxQ r p (n + 1) s = nxQ r p n s := nxS_n (fun z => hlt z.2)
        rw [e] at ih
        rw [if_neg (by omega)]
        simp only [S170_0, S170_1, S170_2, S170_5, S170_6, S170_7, S170_8, S170_9, S170_12, S170_14, S170_15, S170_19, S170_20, S170_23, S170_26, S170_28, S170_29, S170_30, S170_34, S170_35, S170_38, S170_41, S170_42, S170_44, S170_46, S170_47, S170_50, S170_53, S170_56, S170_59, S170_60, S170_62, S170_64, S170_67, S170_69, S170_71, S170_73, S170_74, S170_77, S170_80, S170_82, S170_84, S170_86, S170_87, S170_89, S170_90, S170_93, S170_96, S170_99, S170_102, S170_103, S170_106, S170_107, S170_110, S170_111, S170_112, S170_115, S170_116, S170_119, S170_120, kl_none, kl_int, kl_long, nI_add1]
        exact ih h1 _ (frmF_tr hf f1) m1.1
    · have y : pb (Td r (snd r) p (p + 1 + n)) = 0 := pb_0.mpr ht
      have e : nxQ r p (n + 1) s = nxQ r p n s := nxS_n (fun z => ht z.1)
      rw [e] at ih
      simp only [y, ne_eq, not_true_eq_false, if_false, if_true, ↓reduceIte, S170_0, S170_1, S170_2, S170_5, S170_6, S170_7, S170_8, S170_9, S170_12, S170_14, S170_15, S170_19, S170_20, S170_23, S170_26, S170_28, S170_29, S170_30, S170_34, S170_35, S170_38, S170_41, S170_42, S170_44, S170_46, S170_47, S170_50, S170_53, S170_56, S170_59, S170_60, S170_62, S170_64, S170_67, S170_69, S170_71, S170_73, S170_74, S170_77, S170_80, S170_82, S170_84, S170_86, S170_87, S170_89, S170_90, S170_93, S170_96, S170_99, S170_102, S170_103, S170_106, S170_107, S170_110, S170_111, S170_112, S170_115, S170_116, S170_119, S170_120, kl_none, kl_int, kl_long, nI_add1]
      exact ih hc _ hf hr
theorem m_next_p (hV : VR r) : ∀ (m p : Nat) (hc : Hp) (o7 o8 : Option Value), p + m = rP r → mfr h hc → hc.1 95 = r → (∀ h' : Hp, mfr h h' → h'.1 95 = r → Q (some (some (.int (if x = 0 then (nxP r (rP r)).1 else if x = 1 then (nxP r (rP r)).2.1 else -1)))) h') → WP (d + 8) 170 17 [some (.ref 93), some (.int x), some (.int (nxP r p).1), some (.int (nxP r p).2.1), some (.long (iL (nxP r p).2.2)), none, some (.int (nI p)), o7, o8, none] [] hc Q := by
  have h6 := hV.1
  intro m
  induction m with
  | zero =>
    intro p hc o7 o8 hp hf hr kk
    have : p = rP r := by omega
    subst this
    have hcd : nI (rP r) ≤ nI (rP r) := nI_le (Nat.le_refl _) (by omega)
    have k1 := kk hc hf hr
    rw [S170_17]
    simp only [S170_0, S170_1, S170_2, S170_5, S170_6, S170_7, S170_8, S170_9, S170_12, S170_14, S170_15, S170_19, S170_20, S170_23, S170_26, S170_28, S170_29, S170_30, S170_34, S170_35, S170_38, S170_41, S170_42, S170_44, S170_46, S170_47, S170_50, S170_53, S170_56, S170_59, S170_60, S170_62, S170_64, S170_67, S170_69, S170_71, S170_73, S170_74, S170_77, S170_80, S170_82, S170_84, S170_86, S170_87, S170_89, S170_90, S170_93, S170_96, S170_99, S170_102, S170_103, S170_106, S170_107, S170_110, S170_111, S170_112, S170_115, S170_116, S170_119, S170_120, shp_93, RV_93_1, RV_93_13, RV_93_14, RV_93_15, RV_93_16, RV_93_17, RV_93_18, RV_93_19, RV_93_20, RV_93_23, RV_93_24, RV_93_27, RV_93_28, RV_93_29, m_points, kR_at, hr, h6.1, if_pos hcd]
    by_cases h0 : x = 0
    · rw [if_pos h0]
      rw [if_pos h0] at k1
      exact k1
    · rw [if_neg h0]
      rw [if_neg h0] at k1
      by_cases h1 : x = 1
      · rw [if_pos h1]
        rw [if_pos h1] at k1
        exact k1
      · rw [if_neg h1]
        rw [if_neg h1] at k1
        exact k1
  | succ m ih =>
    intro p hc o7 o8 hp hf hr kk
    have hcd : ¬ nI (rP r) ≤ nI p := nI_ge (by omega) (by omega)
    rw [S170_17]
    simp only [S170_0, S170_1, S170_2, S170_5, S170_6, S170_7, S170_8, S170_9, S170_12, S170_14, S170_15, S170_19, S170_20, S170_23, S170_26, S170_28, S170_29, S170_30, S170_34, S170_35, S170_38, S170_41, S170_42, S170_44, S170_46, S170_47, S170_50, S170_53, S170_56, S170_59, S170_60, S170_62, S170_64, S170_67, S170_69, S170_71, S170_73, S170_74, S170_77, S170_80, S170_82, S170_84, S170_86, S170_87, S170_89, S170_90, S170_93, S170_96, S170_99, S170_102, S170_103, S170_106, S170_107, S170_110, S170_111, S170_112, S170_115, S170_116, S170_119, S170_120, shp_93, RV_93_1, RV_93_13, RV_93_14, RV_93_15, RV_93_16, RV_93_17, RV_93_18, RV_93_19, RV_93_20, RV_93_23, RV_93_24, RV_93_27, RV_93_28, RV_93_29, m_points, kR_at, hr, h6.1, if_neg hcd, nI_add1, kl_int]
    have := m_next_q (d := d) (Q := Q) (x := x) (h := h) hV (show p < rP r by omega) (nxP_b hV p) (rP r - (p + 1)) 0 hc o8 (by omega) hf hr
    rw [Nat.zero_add] at this
    exact this (fun h' o8 f' r' => ih (p + 1) h' _ o8 (by omega) f' r' kk)
theorem m_next (hr : h.1 95 = r) (hV : VR r) (kk : mPost r h Q 0 (some (.int (if x = 0 then (nxP r (rP r)).1 else if x = 1 then (nxP r (rP r)).2.1 else -1)))) : WP (d + 8) 170 0 [some (.ref 93), some (.int x), none, none, none, none, none, none, none, none] [] h Q := by
  simp only [S170_0, S170_1, S170_2, S170_5, S170_6, S170_7, S170_8, S170_9, S170_12, S170_14, S170_15, S170_19, S170_20, S170_23, S170_26, S170_28, S170_29, S170_30, S170_34, S170_35, S170_38, S170_41, S170_42, S170_44, S170_46, S170_47, S170_50, S170_53, S170_56, S170_59, S170_60, S170_62, S170_64, S170_67, S170_69, S170_71, S170_73, S170_74, S170_77, S170_80, S170_82, S170_84, S170_86, S170_87, S170_89, S170_90, S170_93, S170_96, S170_99, S170_102, S170_103, S170_106, S170_107, S170_110, S170_111, S170_112, S170_115, S170_116, S170_119, S170_120, shp_93, RV_93_1, RV_93_13, RV_93_14, RV_93_15, RV_93_16, RV_93_17, RV_93_18, RV_93_19, RV_93_20, RV_93_23, RV_93_24, RV_93_27, RV_93_28, RV_93_29, kl_none, kl_int, kl_long]
  rw [nI_l0]
  exact m_next_p (d := d) (h := setI h 93 0 (nI 0)) (x := x) hV (rP r) 0 _ none none (by omega) frmF_rf (r0 hr) (fun h' f' r' => kk h' (frmF_tr M0 (pfr_m f')) r' (by rw [mfr_t f']; exact t0))
end
