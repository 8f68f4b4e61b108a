/-! The class's step. -/
def rdC (b : Nat → Nat) (n : Nat) (h : Hp) : Prop := n ≤ 540 ∧ (∀ j, b j < 256) ∧ tpC n b h
def RCs (a j : Nat) : Prop := a = 3 ∧ 6 ≤ j ∧ j ≤ 9
section
variable {d : Nat} {h h' : Hp} {Q : Option (Option Value) → Hp → Prop} {x y z w v : Int32} {k l p q t n m st : Nat} {b : Nat → Nat} {s : ES}
theorem rdC_fr (hf : frmF RCs h h') (hr : rdC b n h) : rdC b n h' := ⟨hr.1, hr.2.1, by
  refine ⟨?_, fun j hj => ?_⟩
  · rw [(hf.1 1 1 (by unfold RCs; omega)).1]; exact hr.2.2.1
  · rw [(hf.1 2 j (by unfold RCs; omega)).1]; exact hr.2.2.2 j hj⟩
theorem ok2 (hn : n ≤ 540) (hp : p < n) : okB 2 (nI p) := Or.inl (okA_nI shp_2 (by omega) (by decide))
theorem c_skip (hst : st ≤ n) : ∀ (m p : Nat) (hc : Hp), st - p ≤ m → p ≤ n → rdC b n hc → hc.1 3 6 = nI p → frmF RCs h hc → (∀ h' : Hp, frmF RCs h h' → h'.1 3 6 = nI (skq b st p) → WP d 40 69 [some (.ref 3), some (.int (nI st))] [] h' Q) → WP d 40 14 [some (.ref 3), some (.int (nI st))] [] hc Q := by
  intro m
  induction m with
  | zero =>
    intro p hc hm hp hr h6 hf kk
    have k1 := kk hc hf
    rw [skq_n (fun z => by omega)] at k1
    have hn := hr.1
    have hcd : nI st ≤ nI p := nI_le (by omega) (by omega)
    rw [S40_14, S40_15 shp_3, h6, S40_18, S40_19, if_pos hcd]
    exact k1 h6
  | succ m ih =>
    intro p hc hm hp hr h6 hf kk
    have hn := hr.1
    by_cases c : p < st
    · have hcd : ¬ nI st ≤ nI p := nI_ge c (by omega)
      have hb := cb_all (b p) (hr.2.1 p)
      have e2 := hr.2.2.2 p (by omega)
      by_cases cs : isSp (b p)
      · have ih := ih (p + 1) (setI hc 3 6 (nI (p + 1))) (by omega) (by omega) (rdC_fr (frmF_I ⟨rfl, by omega, by omega⟩) hr) (by rw [setI_rd, if_pos ⟨rfl, rfl⟩]) (frmF_tr hf (frmF_I ⟨rfl, by omega, by omega⟩)) (by rw [← skq_y c cs]; exact kk)
        rw [S40_14]
        simp only [S40_0, S40_1, S40_4, S40_7, S40_10, S40_13, S40_15, S40_18, S40_19, S40_22, S40_23, S40_26, S40_29, S40_30, S40_33, S40_34, S40_36, S40_39, S40_40, S40_43, S40_46, S40_47, S40_50, S40_51, S40_53, S40_56, S40_57, S40_58, S40_61, S40_62, S40_63, S40_66, S40_70, S40_73, S40_74, S40_77, S40_78, S40_79, S40_82, S40_83, S40_84, S40_87, S40_88, S40_89, S40_90, S40_93, S40_96, S40_97, S40_100, S40_103, S40_104, S40_107, S40_108, S40_110, S40_113, S40_114, S40_115, S40_118, S40_119, S40_120, S40_123, S40_124, S40_125, S40_128, S40_129, S40_130, S40_133, shp_1, RV_1_0, shp_3, RV_3_0, RV_3_1, h6, if_neg hcd, ok2 hn (show p < n by omega), nI_cl (show p < 2147483648 by omega), e2, hb.1, hb.2.1, nI_add1]
        rcases cs with c1 | c1
        · rw [if_pos c1]; exact ih
        · rw [if_neg (by omega), if_pos c1]; exact ih
      · have k1 := kk hc hf
        rw [skq_n (fun z => cs z.2)] at k1
        rw [S40_14]
        simp only [S40_0, S40_1, S40_4, S40_7, S40_10, S40_13, S40_15, S40_18, S40_19, S40_22, S40_23, S40_26, S40_29, S40_30, S40_33, S40_34, S40_36, S40_39, S40_40, S40_43, S40_46, S40_47, S40_50, S40_51, S40_53, S40_56, S40_57, S40_58, S40_61, S40_62, S40_63, S40_66, S40_70, S40_73, S40_74, S40_77, S40_78, S40_79, S40_82, S40_83, S40_84, S40_87, S40_88, S40_89, S40_90, S40_93, S40_96, S40_97, S40_100, S40_103, S40_104, S40_107, S40_108, S40_110, S40_113, S40_114, S40_115, S40_118, S40_119, S40_120, S40_123, S40_124, S40_125, S40_128, S40_129, S40_130, S40_133, shp_1, RV_1_0, shp_3, RV_3_0, RV_3_1, h6, if_neg hcd, ok2 hn (show p < n by omega), nI_cl (show p < 2147483648 by omega), e2, hb.1, hb.2.1, nI_add1]
        unfold isSp at cs
        rw [if_neg (by omega), if_neg (by omega)]
        exact k1 h6
    · have k1 := kk hc hf
      rw [skq_n (fun z => by omega)] at k1
      have hcd : nI st ≤ nI p := nI_le (by omega) (by omega)
      rw [S40_14, S40_15 shp_3, h6, S40_18, S40_19, if_pos hcd]
      exact k1 h6
theorem iL_b {c : Nat} (hc : c < 128) : (nI c - 97 + 1).toInt64 = iL ((c : Int) - 96) ∧ (nI c - 48).toInt64 = iL ((c : Int) - 48) := by
  constructor
  · rw [iL_32]
    congr 1
    rw [Int32.toInt_add, Int32.toInt_sub, nI_toInt (by omega)]
    have e1 : (97 : Int32).toInt = 97 := by decide
    have e2 : (1 : Int32).toInt = 1 := by decide
    rw [e1, e2, Int.bmod_eq_of_le (n := (c : Int) - 97) (by omega) (by omega), Int.bmod_eq_of_le (by omega) (by omega)]
    omega
  · rw [iL_32]
    congr 1
    rw [Int32.toInt_sub, nI_toInt (by omega)]
    have e1 : (48 : Int32).toInt = 48 := by decide
    rw [e1, Int.bmod_eq_of_le (by omega) (by omega)]
theorem c_withLetter {c : Nat} {v : Int} (hc : c < 128) : WP d 42 0 [some (.long (iL v)), none, some (.int (nI c))] [] h Q ↔ Q (some (some (.long (iL (v * 27 + ((c : Int) - 96)))))) h := by
  have e : (27 : Int64) = iL 27 := by decide
  simp only [S42_0, S42_1, S42_4, S42_5, S42_6, S42_8, S42_9, S42_10, S42_11, S42_12, S42_13, e, (iL_b hc).1, iL_mul, iL_add]
theorem c_take_loop : ∀ (m : Nat) (s : ES) (hc : Hp) (o3 : Option Value), n - s.1 ≤ m → s.1 ≤ n → rdC b n hc → hc.1 3 6 = nI s.1 → hc.2.1 3 9 = iL s.2.2.2 → frmF RCs h hc → hc.1 3 8 = x → (∀ (h' : Hp) (o3 : Option Value), frmF RCs h h' → h'.1 3 8 = x → h'.1 3 6 = nI (exF b n s).1 → h'.2.1 3 9 = iL (exF b n s).2.2.2 → WP (d + 1) 41 112 [some (.ref 3), some (.int (nI (exF b n s).2.1)), some (.int (nI (exF b n s).2.2.1)), o3] [] h' Q) → WP (d + 1) 41 9 [some (.ref 3), some (.int (nI s.2.1)), some (.int (nI s.2.2.1)), o3] [] hc Q := by
  intro m
  induction m with
  | zero =>
    intro s hc o3 hm hp hr h6 h9 hf h8 kk
    have hn := hr.1
    have k1 := kk hc o3 hf h8
    rw [exF_n (fun z => by have := z.1; omega)] at k1
    have hcd : nI n ≤ nI s.1 := nI_le (by omega) (by omega)
    rw [S41_9]
    simp only [S41_0, S41_1, S41_2, S41_3, S41_4, S41_5, S41_6, S41_10, S41_13, S41_14, S41_17, S41_20, S41_23, S41_24, S41_27, S41_30, S41_31, S41_34, S41_35, S41_36, S41_37, S41_39, S41_42, S41_43, S41_45, S41_48, S41_51, S41_52, S41_53, S41_56, S41_57, S41_60, S41_63, S41_66, S41_67, S41_69, S41_72, S41_73, S41_75, S41_78, S41_81, S41_82, S41_83, S41_86, S41_89, S41_90, S41_91, S41_93, S41_94, S41_95, S41_96, S41_99, S41_100, S41_101, S41_104, S41_105, S41_106, S41_109, S41_113, S41_116, S41_117, S41_118, S41_121, S41_122, S41_124, S41_127, S41_128, S41_129, S41_132, S41_135, S41_136, S41_139, S41_140, S41_141, S41_144, S41_145, S41_146, S41_149, S41_150, S41_151, S41_154, S41_157, S41_158, S41_159, S41_162, shp_1, RV_1_0, shp_3, RV_3_0, RV_3_1, h6, hr.2.2.1, if_pos hcd]
    exact k1 h6 h9
  | succ m ih =>
    intro s hc o3 hm hp hr h6 h9 hf h8 kk
    have hn := hr.1
    by_cases c : s.1 < n
    · have hcd : ¬ nI n ≤ nI s.1 := nI_ge c (by omega)
      have hb := cb_all (b s.1) (hr.2.1 s.1)
      have e2 := hr.2.2.2 s.1 c
      rw [S41_9]
      simp only [S41_0, S41_1, S41_2, S41_3, S41_4, S41_5, S41_6, S41_10, S41_13, S41_14, S41_17, S41_20, S41_23, S41_24, S41_27, S41_30, S41_31, S41_34, S41_35, S41_36, S41_37, S41_39, S41_42, S41_43, S41_45, S41_51, S41_52, S41_53, S41_56, S41_57, S41_60, S41_63, S41_66, S41_67, S41_69, S41_72, S41_73, S41_75, S41_81, S41_82, S41_83, S41_86, S41_89, S41_90, S41_91, S41_93, S41_94, S41_95, S41_96, S41_99, S41_100, S41_101, S41_104, S41_105, S41_106, S41_109, S41_113, S41_116, S41_117, S41_118, S41_121, S41_122, S41_124, S41_127, S41_128, S41_129, S41_132, S41_135, S41_136, S41_139, S41_140, S41_141, S41_144, S41_145, S41_146, S41_149, S41_150, S41_151, S41_154, S41_157, S41_158, S41_159, S41_162, shp_1, RV_1_0, shp_3, RV_3_0, RV_3_1, h6, hr.2.2.1, if_neg hcd, ok2 hn c, nI_cl (show s.1 < 2147483648 by omega), e2, kl_int, kl_none]
      by_cases cl : isLt (b s.1)
      · have c128 : b s.1 < 128 := by unfold isLt at cl; omega
        have q := hb.2.2.2.1.mpr cl
        rw [if_neg q.1, if_neg q.2]
        have ec := hb.2.2.2.2.2 c128
        rw [ec]
        have g : ∀ y, (setL hc 3 9 y).1 3 6 = nI s.1 := fun y => h6
        simp only [S41_0, S41_1, S41_2, S41_3, S41_4, S41_5, S41_6, S41_10, S41_13, S41_14, S41_17, S41_20, S41_23, S41_24, S41_27, S41_30, S41_31, S41_34, S41_35, S41_36, S41_37, S41_39, S41_42, S41_43, S41_45, S41_48, S41_51, S41_52, S41_53, S41_56, S41_57, S41_60, S41_63, S41_66, S41_67, S41_69, S41_72, S41_73, S41_75, S41_78, S41_81, S41_82, S41_83, S41_86, S41_89, S41_90, S41_91, S41_93, S41_94, S41_95, S41_96, S41_99, S41_100, S41_101, S41_104, S41_105, S41_106, S41_109, S41_113, S41_116, S41_117, S41_118, S41_121, S41_122, S41_124, S41_127, S41_128, S41_129, S41_132, S41_135, S41_136, S41_139, S41_140, S41_141, S41_144, S41_145, S41_146, S41_149, S41_150, S41_151, S41_154, S41_157, S41_158, S41_159, S41_162, shp_1, RV_1_0, shp_3, RV_3_0, RV_3_1, h9, c_withLetter c128, kR_at, g, nI_add1, kl_int, kl_ref]
        refine ih (s.1 + 1, s.2.1 + 1, s.2.2.1, s.2.2.2 * 27 + ((b s.1 : Int) - 96)) _ _ (by show n - (s.1 + 1) ≤ m; omega) (by show s.1 + 1 ≤ n; omega) (rdC_fr (frmF_tr (frmF_L ⟨rfl, by omega, by omega⟩) (frmF_I ⟨rfl, by omega, by omega⟩)) hr) (by rw [setI_rd, if_pos ⟨rfl, rfl⟩]) (by show (setL hc 3 9 _).2.1 3 9 = _; rw [setL_rd, if_pos ⟨rfl, rfl⟩]) (frmF_tr hf (frmF_tr (frmF_L ⟨rfl, by omega, by omega⟩) (frmF_I ⟨rfl, by omega, by omega⟩))) (by rw [setI_rd, if_neg (by decide)]; exact h8) ?_
        rw [← exF_l c cl]
        exact kk
      · have go66 : WP (d + 1) 41 66 [some (.ref 3), some (.int (nI s.2.1)), some (.int (nI s.2.2.1)), some (.int (cb (b s.1)))] [] hc Q := by
          by_cases cd : isDg (b s.1)
          · have c128 : b s.1 < 128 := by unfold isDg at cd; omega
            have q := hb.2.2.2.2.1.mpr cd
            have ec := hb.2.2.2.2.2 c128
            simp only [S41_0, S41_1, S41_2, S41_3, S41_4, S41_5, S41_6, S41_10, S41_13, S41_14, S41_17, S41_20, S41_23, S41_24, S41_27, S41_30, S41_31, S41_34, S41_35, S41_36, S41_37, S41_39, S41_42, S41_43, S41_45, S41_48, S41_51, S41_52, S41_53, S41_56, S41_57, S41_60, S41_63, S41_66, S41_67, S41_69, S41_72, S41_73, S41_75, S41_81, S41_82, S41_83, S41_86, S41_89, S41_90, S41_91, S41_93, S41_94, S41_95, S41_96, S41_99, S41_100, S41_101, S41_104, S41_105, S41_106, S41_109, S41_113, S41_116, S41_117, S41_118, S41_121, S41_122, S41_124, S41_127, S41_128, S41_129, S41_132, S41_135, S41_136, S41_139, S41_140, S41_141, S41_144, S41_145, S41_146, S41_149, S41_150, S41_151, S41_154, S41_157, S41_158, S41_159, S41_162, if_neg q.1, if_neg q.2]
            rw [ec]
            have g : ∀ y, (setL hc 3 9 y).1 3 6 = nI s.1 := fun y => h6
            have e10 : (10 : Int64) = iL 10 := by decide
            simp only [S41_0, S41_1, S41_2, S41_3, S41_4, S41_5, S41_6, S41_10, S41_13, S41_14, S41_17, S41_20, S41_23, S41_24, S41_27, S41_30, S41_31, S41_34, S41_35, S41_36, S41_37, S41_39, S41_42, S41_43, S41_45, S41_48, S41_51, S41_52, S41_53, S41_56, S41_57, S41_60, S41_63, S41_66, S41_67, S41_69, S41_72, S41_73, S41_75, S41_78, S41_81, S41_82, S41_83, S41_86, S41_89, S41_90, S41_91, S41_93, S41_94, S41_95, S41_96, S41_99, S41_100, S41_101, S41_104, S41_105, S41_106, S41_109, S41_113, S41_116, S41_117, S41_118, S41_121, S41_122, S41_124, S41_127, S41_128, S41_129, S41_132, S41_135, S41_136, S41_139, S41_140, S41_141, S41_144, S41_145, S41_146, S41_149, S41_150, S41_151, S41_154, S41_157, S41_158, S41_159, S41_162, shp_1, RV_1_0, shp_3, RV_3_0, RV_3_1, h9, e10, (iL_b c128).2, iL_mul, iL_add, g, nI_add1, kl_int, kl_ref]
            refine ih (s.1 + 1, s.2.1, s.2.2.1 + 1, s.2.2.2 * 10 + ((b s.1 : Int) - 48)) _ _ (by show n - (s.1 + 1) ≤ m; omega) (by show s.1 + 1 ≤ n; omega) (rdC_fr (frmF_tr (frmF_L ⟨rfl, by omega, by omega⟩) (frmF_I ⟨rfl, by omega, by omega⟩)) hr) (by rw [setI_rd, if_pos ⟨rfl, rfl⟩]) (by show (setL hc 3 9 _).2.1 3 9 = _; rw [setL_rd, if_pos ⟨rfl, rfl⟩]) (frmF_tr hf (frmF_tr (frmF_L ⟨rfl, by omega, by omega⟩) (frmF_I ⟨rfl, by omega, by omega⟩))) (by rw [setI_rd, if_neg (by decide)]; exact h8) ?_
            rw [← exF_d c cd]
            exact kk
          · have k1 := fun o3 => kk hc o3 hf h8
            rw [exF_n (fun z => by rcases z.2 with q | q; exact cl q; exact cd q)] at k1
            have q := mt hb.2.2.2.2.1.mp cd
            simp only [S41_0, S41_1, S41_2, S41_3, S41_4, S41_5, S41_6, S41_10, S41_13, S41_14, S41_17, S41_20, S41_23, S41_24, S41_27, S41_30, S41_31, S41_34, S41_35, S41_36, S41_37, S41_39, S41_42, S41_43, S41_45, S41_48, S41_51, S41_52, S41_53, S41_56, S41_57, S41_60, S41_63, S41_66, S41_67, S41_69, S41_72, S41_73, S41_75, S41_81, S41_82, S41_83, S41_86, S41_89, S41_90, S41_91, S41_93, S41_94, S41_95, S41_96, S41_99, S41_100, S41_101, S41_104, S41_105, S41_106, S41_109, S41_113, S41_116, S41_117, S41_118, S41_121, S41_122, S41_124, S41_127, S41_128, S41_129, S41_132, S41_135, S41_136, S41_139, S41_140, S41_141, S41_144, S41_145, S41_146, S41_149, S41_150, S41_151, S41_154, S41_157, S41_158, S41_159, S41_162]
            by_cases q1 : cb (b s.1) < 48
            · rw [if_pos q1]; exact k1 _ h6 h9
            · rw [if_neg q1, if_pos (Decidable.not_not.mp (fun z => q ⟨q1, z⟩))]
              exact k1 _ h6 h9
        have q := mt hb.2.2.2.1.mp cl
        simp only [S41_0, S41_1, S41_2, S41_3, S41_4, S41_5, S41_6, S41_10, S41_13, S41_14, S41_17, S41_20, S41_23, S41_24, S41_27, S41_30, S41_31, S41_34, S41_35, S41_36, S41_37, S41_39, S41_42, S41_43, S41_45, S41_48, S41_51, S41_52, S41_53, S41_56, S41_57, S41_60, S41_63, S41_66, S41_67, S41_69, S41_72, S41_73, S41_75, S41_81, S41_82, S41_83, S41_86, S41_89, S41_90, S41_91, S41_93, S41_94, S41_95, S41_96, S41_99, S41_100, S41_101, S41_104, S41_105, S41_106, S41_109, S41_113, S41_116, S41_117, S41_118, S41_121, S41_122, S41_124, S41_127, S41_128, S41_129, S41_132, S41_135, S41_136, S41_139, S41_140, S41_141, S41_144, S41_145, S41_146, S41_149, S41_150, S41_151, S41_154, S41_157, S41_158, S41_159, S41_162] at go66
        by_cases q1 : cb (b s.1) < 97
        · rw [if_pos q1]; exact go66
        · rw [if_neg q1, if_pos (Decidable.not_not.mp (fun z => q ⟨q1, z⟩))]
          exact go66
    · have k1 := kk hc o3 hf h8
      rw [exF_n (fun z => by have := z.1; omega)] at k1
      have hcd : nI n ≤ nI s.1 := nI_le (by omega) (by omega)
      rw [S41_9]
      simp only [S41_0, S41_1, S41_2, S41_3, S41_4, S41_5, S41_6, S41_10, S41_13, S41_14, S41_17, S41_20, S41_23, S41_24, S41_27, S41_30, S41_31, S41_34, S41_35, S41_36, S41_37, S41_39, S41_42, S41_43, S41_45, S41_48, S41_51, S41_52, S41_53, S41_56, S41_57, S41_60, S41_63, S41_66, S41_67, S41_69, S41_72, S41_73, S41_75, S41_78, S41_81, S41_82, S41_83, S41_86, S41_89, S41_90, S41_91, S41_93, S41_94, S41_95, S41_96, S41_99, S41_100, S41_101, S41_104, S41_105, S41_106, S41_109, S41_113, S41_116, S41_117, S41_118, S41_121, S41_122, S41_124, S41_127, S41_128, S41_129, S41_132, S41_135, S41_136, S41_139, S41_140, S41_141, S41_144, S41_145, S41_146, S41_149, S41_150, S41_151, S41_154, S41_157, S41_158, S41_159, S41_162, shp_1, RV_1_0, shp_3, RV_3_0, RV_3_1, h6, hr.2.2.1, if_pos hcd]
      exact k1 h6 h9
theorem nlt1 {k : Nat} (hk : k < 2 ^ 31) : (nI k < 1 ↔ ¬ 1 ≤ k) := by
  rw [show (1 : Int32) = nI 1 by decide, nI_ltI hk (by omega)]; omega
theorem n7l {k : Nat} (hk : k < 2 ^ 31) : (7 < nI k ↔ ¬ k ≤ 7) := by
  rw [show (7 : Int32) = nI 7 by decide, nI_ltI (by omega) hk]; omega
theorem n2l {k : Nat} (hk : k < 2 ^ 31) : (2 < nI k ↔ ¬ k ≤ 2) := by
  rw [show (2 : Int32) = nI 2 by decide, nI_ltI (by omega) hk]; omega
theorem n0e {k : Nat} (hk : k < 2 ^ 31) : (nI k = 0 ↔ k = 0) := nI_eq (b := 0) hk (by omega)
theorem c_take (hr : rdC b n h) (hq : q ≤ n) (h6 : h.1 3 6 = nI q) (h8 : h.1 3 8 = nI q) (kk : ∀ h' : Hp, frmF RCs h h' → tkC (tkE q (exE b n q)) h' → Q (some none) h') : WP (d + 1) 41 0 [some (.ref 3), none, none, none] [] h Q := by
  have hn := hr.1
  simp only [S41_0, S41_1, S41_2, S41_3, S41_4, S41_5, S41_6, S41_10, S41_13, S41_14, S41_17, S41_20, S41_23, S41_24, S41_27, S41_30, S41_31, S41_34, S41_35, S41_36, S41_37, S41_39, S41_42, S41_43, S41_45, S41_48, S41_51, S41_52, S41_53, S41_56, S41_57, S41_60, S41_63, S41_66, S41_67, S41_69, S41_72, S41_73, S41_75, S41_78, S41_81, S41_82, S41_83, S41_86, S41_89, S41_90, S41_91, S41_93, S41_94, S41_95, S41_96, S41_99, S41_100, S41_101, S41_104, S41_105, S41_106, S41_109, S41_112, S41_113, S41_116, S41_117, S41_118, S41_121, S41_122, S41_124, S41_127, S41_128, S41_129, S41_132, S41_135, S41_136, S41_139, S41_140, S41_141, S41_144, S41_145, S41_146, S41_149, S41_150, S41_151, S41_154, S41_157, S41_158, S41_159, S41_162, shp_3, RV_3_0, RV_3_1, kl_ref, kl_int, kl_none]
  rw [nI_l0]
  refine c_take_loop (h := h) (d := d) (x := nI q) n (q, 0, 0, 0) _ none (by show n - q ≤ n; omega) hq (rdC_fr (frmF_L ⟨rfl, by omega, by omega⟩) hr) h6 (by rw [setL_rd, if_pos ⟨rfl, rfl⟩]; show (0 : Int64) = iL 0; decide) (frmF_L ⟨rfl, by omega, by omega⟩) h8 (fun h1 o3 f1 e8 e6 e9 => ?_)
  have hI := exE_I (b := b) hq
  unfold exE at hI
  have ee : exE b n q = exF b n (q, 0, 0, 0) := rfl
  rw [ee] at kk
  generalize exF b n (q, 0, 0, 0) = e at *
  have i1 := hI.1
  have i2 := hI.2.1
  have L31 : e.2.1 < 2 ^ 31 := by omega
  have D31 : e.2.2.1 < 2 ^ 31 := by omega
  have FN : ∀ k : Nat, frmF RCs h (setI h1 3 7 (nI k)) := fun k => frmF_tr f1 (frmF_I ⟨rfl, by omega, by omega⟩)
  have g7 : ∀ k : Nat, (setI h1 3 7 (nI k)).1 3 7 = nI k := fun k => by rw [setI_rd, if_pos ⟨rfl, rfl⟩]
  have g8 : ∀ k : Nat, (setI h1 3 7 (nI k)).1 3 8 = nI q := fun k => by rw [setI_rd, if_neg (by decide)]; exact e8
  have g6 : ∀ k : Nat, (setI h1 3 7 (nI k)).1 3 6 = nI e.1 := fun k => by rw [setI_rd, if_neg (by decide)]; exact e6
  have k1 := kk (setI h1 3 7 1) (FN 1)
  have k2 := kk (setI h1 3 7 2) (FN 2)
  have k4 := kk (setI h1 3 7 4) (FN 4)
  simp only [S41_0, S41_1, S41_2, S41_3, S41_4, S41_5, S41_6, S41_10, S41_13, S41_14, S41_17, S41_20, S41_23, S41_24, S41_27, S41_30, S41_31, S41_34, S41_35, S41_36, S41_37, S41_39, S41_42, S41_43, S41_45, S41_48, S41_51, S41_52, S41_53, S41_56, S41_57, S41_60, S41_63, S41_66, S41_67, S41_69, S41_72, S41_73, S41_75, S41_78, S41_81, S41_82, S41_83, S41_86, S41_89, S41_90, S41_91, S41_93, S41_94, S41_95, S41_96, S41_99, S41_100, S41_101, S41_104, S41_105, S41_106, S41_109, S41_112, S41_113, S41_116, S41_117, S41_118, S41_121, S41_122, S41_124, S41_127, S41_128, S41_129, S41_132, S41_135, S41_136, S41_139, S41_140, S41_141, S41_144, S41_145, S41_146, S41_149, S41_150, S41_151, S41_154, S41_157, S41_158, S41_159, S41_162, shp_3, RV_3_0, RV_3_1, n0e D31, n0e L31, nlt1 L31, nlt1 D31, n7l L31, n2l D31]
  have go135 : ¬ (e.2.2.1 = 0 ∧ 1 ≤ e.2.1 ∧ e.2.1 ≤ 7) → (if e.2.1 = 0 then (if ¬ 1 ≤ e.2.2.1 then Q (some none) (setI h1 3 7 4) else if ¬ e.2.2.1 ≤ 2 then Q (some none) (setI h1 3 7 4) else Q (some none) (setI h1 3 7 2)) else Q (some none) (setI h1 3 7 4)) := by
    intro nw
    have k4' : ¬ (e.2.1 = 0 ∧ 1 ≤ e.2.2.1 ∧ e.2.2.1 ≤ 2) → Q (some none) (setI h1 3 7 4) := fun nn => by
      unfold tkE at k4
      rw [if_neg nw, if_neg nn] at k4
      exact k4 ⟨g7 4, g8 4, fun z => absurd z (by simp), fun z => absurd z (by simp)⟩
    by_cases c1 : e.2.1 = 0
    · rw [if_pos c1]
      by_cases c2 : 1 ≤ e.2.2.1
      · rw [if_neg (fun z => z c2)]
        by_cases c3 : e.2.2.1 ≤ 2
        · rw [if_neg (fun z => z c3)]
          unfold tkE at k2
          rw [if_neg nw, if_pos ⟨c1, c2, c3⟩] at k2
          exact k2 ⟨g7 2, g8 2, fun _ => e9, fun _ => g6 2⟩
        · rw [if_pos c3]
          exact k4' (fun z => c3 z.2.2)
      · rw [if_pos c2]
        exact k4' (fun z => c2 z.2.1)
    · rw [if_neg c1]
      exact k4' (fun z => c1 z.1)
  by_cases d1 : e.2.2.1 = 0
  · rw [if_pos d1]
    by_cases d2 : 1 ≤ e.2.1
    · rw [if_neg (fun z => z d2)]
      by_cases d3 : e.2.1 ≤ 7
      · rw [if_neg (fun z => z d3)]
        unfold tkE at k1
        rw [if_pos ⟨d1, d2, d3⟩] at k1
        exact k1 ⟨g7 1, g8 1, fun _ => e9, fun _ => g6 1⟩
      · rw [if_pos d3]
        exact go135 (fun z => d3 z.2.2)
    · rw [if_pos d2]
      exact go135 (fun z => d2 z.2.1)
  · rw [if_neg d1]
    exact go135 (fun z => d1 z.1)
theorem c_step (hr : rdC b n h) (hp : p ≤ n) (h6 : h.1 3 6 = nI p) (kk : ∀ h' : Hp, frmF RCs h h' → tkC (tk b n p) h' → Q (some none) h') : WP (d + 2) 40 0 [some (.ref 3), none] [] h Q := by
  have hn := hr.1
  simp only [S40_0, S40_1, S40_4, S40_7, S40_10, S40_13, S40_15, S40_18, S40_19, S40_22, S40_23, S40_26, S40_29, S40_30, S40_33, S40_34, S40_36, S40_39, S40_40, S40_43, S40_46, S40_47, S40_50, S40_51, S40_53, S40_56, S40_57, S40_58, S40_61, S40_62, S40_63, S40_66, S40_69, S40_70, S40_73, S40_74, S40_77, S40_78, S40_79, S40_82, S40_83, S40_84, S40_87, S40_88, S40_89, S40_90, S40_93, S40_96, S40_97, S40_100, S40_103, S40_104, S40_107, S40_108, S40_110, S40_113, S40_114, S40_115, S40_118, S40_119, S40_120, S40_123, S40_124, S40_125, S40_128, S40_129, S40_130, S40_133, shp_1, RV_1_0, shp_3, RV_3_0, RV_3_1, hr.2.2.1]
  rw [show (500 : Int32) = nI 500 by decide, c_min (d := d + 1) (by omega) (by omega)]
  simp only [kR_at, S40_0, S40_1, S40_4, S40_7, S40_10, S40_13, S40_15, S40_18, S40_19, S40_22, S40_23, S40_26, S40_29, S40_30, S40_33, S40_34, S40_36, S40_39, S40_40, S40_43, S40_46, S40_47, S40_50, S40_51, S40_53, S40_56, S40_57, S40_58, S40_61, S40_62, S40_63, S40_66, S40_69, S40_70, S40_73, S40_74, S40_77, S40_78, S40_79, S40_82, S40_83, S40_84, S40_87, S40_88, S40_89, S40_90, S40_93, S40_96, S40_97, S40_100, S40_103, S40_104, S40_107, S40_108, S40_110, S40_113, S40_114, S40_115, S40_118, S40_119, S40_120, S40_123, S40_124, S40_125, S40_128, S40_129, S40_130, S40_133, kl_ref]
  have hst : min n 500 ≤ n := Nat.min_le_left _ _
  refine c_skip (h := h) (d := d + 2) hst n p h (by omega) hp hr h6 frmF_rf (fun h1 f1 g6 => ?_)
  have hr1 := rdC_fr f1 hr
  have hq : skq b n p ≤ n := skq_le hp
  unfold tk tkQ at kk
  have l1 := skq_lt (b := b) (p := p) hst
  have l2 := skq_ge (b := b) (p := p) hst
  have hqs : skq b (min n 500) p ≤ 540 := by
    rcases Nat.lt_or_ge (skq b (min n 500) p) (min n 500) with z | z
    · omega
    · obtain ⟨a1, a2, a3⟩ := skq_spec (b := b) (n := min n 500) (p := p)
      rcases Nat.lt_or_ge p (skq b (min n 500) p) with y | y
      · have := (a2 (skq b (min n 500) p - 1) (by omega) (by omega)).1
        omega
      · omega
  generalize skq b n p = Q1 at *
  generalize skq b (min n 500) p = Q2 at *
  rw [S40_69, S40_70 shp_3, g6, S40_73, S40_74]
  by_cases c : Q2 < min n 500
  · have e := l1 c
    subst e
    rw [if_pos (nI_lt c (by omega))]
    rw [if_neg (by omega), if_neg (by omega)] at kk
    have hb := cb_all (b Q1) (hr.2.1 Q1)
    have e2 := hr1.2.2.2 Q1 (by omega)
    have g6' : (setI h1 3 8 (nI Q1)).1 3 6 = nI Q1 := by rw [setI_rd, if_neg (by decide)]; exact g6
    have e2' : (setI h1 3 8 (nI Q1)).1 2 Q1 = cb (b Q1) := by rw [setI_1 (by decide)]; exact e2
    simp only [S40_0, S40_1, S40_4, S40_7, S40_10, S40_13, S40_15, S40_18, S40_19, S40_22, S40_23, S40_26, S40_29, S40_30, S40_33, S40_34, S40_36, S40_39, S40_40, S40_43, S40_46, S40_47, S40_50, S40_51, S40_53, S40_56, S40_57, S40_58, S40_61, S40_62, S40_63, S40_66, S40_69, S40_70, S40_73, S40_74, S40_77, S40_78, S40_79, S40_82, S40_83, S40_84, S40_87, S40_88, S40_89, S40_90, S40_93, S40_96, S40_97, S40_100, S40_103, S40_104, S40_107, S40_108, S40_110, S40_114, S40_115, S40_118, S40_119, S40_120, S40_123, S40_124, S40_125, S40_128, S40_130, S40_133, shp_1, RV_1_0, shp_3, RV_3_0, RV_3_1, g6, g6', ok2 hn (show Q1 < n by omega), nI_cl (show Q1 < 2147483648 by omega), e2', hb.2.2.1]
    by_cases c3 : b Q1 = 59
    · rw [if_pos c3]
      rw [if_pos c3] at kk
      have g6'' : (setI (setI h1 3 8 (nI Q1)) 3 7 3).1 3 6 = nI Q1 := by rw [setI_rd, if_neg (by decide)]; exact g6'
      simp only [S40_0, S40_1, S40_4, S40_7, S40_10, S40_13, S40_15, S40_18, S40_19, S40_22, S40_23, S40_26, S40_29, S40_30, S40_33, S40_34, S40_36, S40_39, S40_40, S40_43, S40_46, S40_47, S40_50, S40_51, S40_53, S40_56, S40_57, S40_58, S40_61, S40_62, S40_63, S40_66, S40_69, S40_70, S40_73, S40_74, S40_77, S40_78, S40_79, S40_82, S40_83, S40_84, S40_87, S40_88, S40_89, S40_90, S40_93, S40_96, S40_97, S40_100, S40_103, S40_104, S40_107, S40_108, S40_110, S40_113, S40_114, S40_115, S40_118, S40_119, S40_120, S40_123, S40_124, S40_125, S40_128, S40_129, S40_130, S40_133, shp_1, RV_1_0, shp_3, RV_3_0, RV_3_1, g6'', nI_add1]
      refine kk _ (frmF_tr f1 (frmF_tr (frmF_I ⟨rfl, by omega, by omega⟩) (frmF_tr (frmF_I ⟨rfl, by omega, by omega⟩) (frmF_I ⟨rfl, by omega, by omega⟩)))) ⟨?_, ?_, fun z => absurd z (by simp), fun _ => ?_⟩
      · rw [setI_rd, if_neg (by decide), setI_rd, if_pos ⟨rfl, rfl⟩]; show (3 : Int32) = nI (ckk 3); decide
      · rw [setI_rd, if_neg (by decide), setI_rd, if_neg (by decide), setI_rd, if_pos ⟨rfl, rfl⟩]
      · rw [setI_rd, if_pos ⟨rfl, rfl⟩]
    · rw [if_neg c3]
      rw [if_neg c3] at kk
      simp only [S40_0, S40_1, S40_4, S40_7, S40_10, S40_13, S40_15, S40_18, S40_19, S40_22, S40_23, S40_26, S40_29, S40_30, S40_33, S40_34, S40_36, S40_39, S40_40, S40_43, S40_46, S40_47, S40_50, S40_51, S40_53, S40_56, S40_57, S40_58, S40_61, S40_62, S40_63, S40_66, S40_69, S40_70, S40_73, S40_74, S40_77, S40_78, S40_79, S40_82, S40_83, S40_84, S40_87, S40_88, S40_89, S40_90, S40_93, S40_96, S40_97, S40_100, S40_103, S40_104, S40_107, S40_108, S40_110, S40_113, S40_114, S40_115, S40_118, S40_119, S40_120, S40_123, S40_124, S40_125, S40_128, S40_129, S40_130, S40_133, shp_1, RV_1_0, shp_3, RV_3_0, RV_3_1]
      refine c_take (d := d) (q := Q1) (rdC_fr (frmF_I ⟨rfl, by omega, by omega⟩) hr1) hq g6' (by rw [setI_rd, if_pos ⟨rfl, rfl⟩]) (fun h2 f2 t2 => ?_)
      simp only [kV_at, S40_0, S40_1, S40_4, S40_7, S40_10, S40_13, S40_15, S40_18, S40_19, S40_22, S40_23, S40_26, S40_29, S40_30, S40_33, S40_34, S40_36, S40_39, S40_40, S40_43, S40_46, S40_47, S40_50, S40_51, S40_53, S40_56, S40_57, S40_58, S40_61, S40_62, S40_63, S40_66, S40_69, S40_70, S40_73, S40_74, S40_77, S40_78, S40_79, S40_82, S40_83, S40_84, S40_87, S40_88, S40_89, S40_90, S40_93, S40_96, S40_97, S40_100, S40_103, S40_104, S40_107, S40_108, S40_110, S40_113, S40_114, S40_115, S40_118, S40_119, S40_120, S40_123, S40_124, S40_125, S40_128, S40_129, S40_130, S40_133]
      exact kk h2 (frmF_tr f1 (frmF_tr (frmF_I ⟨rfl, by omega, by omega⟩) f2)) t2
  · have e := l2 (by omega)
    rw [if_neg (nI_nlt (by omega) (by omega))]
    simp only [S40_0, S40_1, S40_4, S40_7, S40_10, S40_13, S40_15, S40_18, S40_19, S40_22, S40_23, S40_26, S40_29, S40_30, S40_33, S40_34, S40_36, S40_39, S40_40, S40_43, S40_46, S40_47, S40_50, S40_51, S40_53, S40_56, S40_57, S40_58, S40_61, S40_62, S40_63, S40_66, S40_69, S40_70, S40_73, S40_74, S40_77, S40_78, S40_79, S40_82, S40_83, S40_84, S40_87, S40_88, S40_89, S40_90, S40_93, S40_96, S40_97, S40_100, S40_103, S40_104, S40_107, S40_108, S40_110, S40_113, S40_114, S40_115, S40_118, S40_119, S40_120, S40_123, S40_124, S40_125, S40_128, S40_129, S40_130, S40_133, shp_1, RV_1_0, shp_3, RV_3_0, RV_3_1]
    have F : frmF RCs h (setI (setI h1 3 7 0) 3 8 (nI (min n 500))) := frmF_tr f1 (frmF_tr (frmF_I ⟨rfl, by omega, by omega⟩) (frmF_I ⟨rfl, by omega, by omega⟩))
    have a7 : (setI (setI h1 3 7 0) 3 8 (nI (min n 500))).1 3 7 = nI 0 := by rw [setI_rd, if_neg (by decide), setI_rd, if_pos ⟨rfl, rfl⟩]; decide
    have a8 : (setI (setI h1 3 7 0) 3 8 (nI (min n 500))).1 3 8 = nI (min n 500) := by rw [setI_rd, if_pos ⟨rfl, rfl⟩]
    by_cases cn : 500 < n
    · rw [if_pos (by omega)] at kk
      rw [show min n 500 = 500 by omega] at a8 F a7 ⊢
      exact kk _ F ⟨a7, a8, fun z => absurd z (by simp), fun z => absurd z (by simp)⟩
    · rw [if_neg (by omega), if_pos (by omega)] at kk
      rw [show min n 500 = n by omega] at a8 F a7 ⊢
      exact kk _ F ⟨a7, a8, fun z => absurd z (by simp), fun z => absurd z (by simp)⟩
end
