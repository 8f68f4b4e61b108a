/-! The class reads a net. -/
def RIs (a j : Nat) : Prop := (a = 3 ∧ 6 ≤ j ∧ j ≤ 13) ∨ a = 4 ∨ (27 ≤ a ∧ a ≤ 32)
section
variable {d : Nat} {h h' : Hp} {Q : Option (Option Value) → Hp → Prop} {x y z w : Int32} {k l p q n m P B f : Nat} {b : Nat → Nat} {t : TK} {nm : NmT} {v : Int} {r : RowT}
theorem ris_c (hf : frmF CNs h h') : frmF RIs h h' := ⟨fun a j hq => hf.1 a j (fun z => hq (by
  rcases z with z | z | z
  · unfold CRs at z; exact Or.inl ⟨z.1, z.2.1, z.2.2.1⟩
  · exact Or.inr (Or.inl z)
  · exact Or.inr (Or.inr z))), hf.2⟩
theorem cns_11 (hf : frmF CNs h h') : h'.1 3 11 = h.1 3 11 := (hf.1 3 11 (by unfold CNs CRs; omega)).1
theorem rdC_ri (hf : frmF RIs h h') (hr : rdC b n h) : rdC b n h' := rdC_fS hf (fun j => ⟨by unfold RIs; omega, by unfold RIs; omega⟩) hr
theorem jR_ri (hf : frmF RIs h h') (hJ : jR h) : jR h' := jR_fr hf (fun j h1 h2 => by unfold RIs; omega) hJ
theorem net_0 (c : (tk b n p).1 = 0) : netR b n (f + 1) p r nm k = Sum.inr (k, r) := by
  show (if (tk b n p).1 = 0 then _ else _) = _
  rw [if_pos c]
theorem net_f (c : ¬ (tk b n p).1 = 0) {F : Fl} (e : rowR b n r nm (tk b n p) = Sum.inl F) : netR b n (f + 1) p r nm k = Sum.inl (F, k) := by
  show (if (tk b n p).1 = 0 then _ else _) = _
  rw [if_neg c, e]
theorem net_y (c : ¬ (tk b n p).1 = 0) {q : Nat × RowT × NmT} (e : rowR b n r nm (tk b n p) = Sum.inr q) : netR b n (f + 1) p r nm k = netR b n f q.1 q.2.1 q.2.2 (k + 1) := by
  show (if (tk b n p).1 = 0 then _ else _) = _
  rw [if_neg c, e]
theorem c_rInto_loop : ∀ (f p k : Nat) (r : RowT) (nm : NmT) (hc : Hp), k + f = 18 → k = rP r + rL r → p ≤ n → VR r → rZ r → rdC b n hc → jR hc → hc.1 3 6 = nI p → hc.1 3 11 = nI k → cRow r nm hc → frmF RIs h hc →
    (∀ F, netR b n f p r nm k = Sum.inl F → ∀ h' : Hp, frmF RIs h h' → flC F.1 h' → h'.1 3 11 = nI F.2 → Q (some (some (.int 0))) h') → (∀ q, netR b n f p r nm k = Sum.inr q → ∀ h' : Hp, frmF RIs h h' → h'.1 3 11 = nI q.1 → CN h' 27 q.2 → VR q.2 → Q (some (some (.int 1))) h') →
    WP (d + 5) 30 16 [some (.ref 3), some (.ref 27), some (.int (nI k))] [] hc Q := by
  intro f
  induction f with
  | zero =>
    intro p k r nm hc hk hkr hp hV
    have := hV.1.2
    have := hV.2.1.2
    omega
  | succ f ih =>
    intro p k r nm hc hk hkr hp hV hz hr hJ h6 h11 hR hf k0 k1
    have hn := hr.1
    have hcd : ¬ (17 : Int32) < nI k := by rw [show (17 : Int32) = nI 17 by decide, nI_ltI (by omega) (by omega)]; omega
    rw [S30_16]
    simp only [S30_0, S30_1, S30_4, S30_5, S30_6, S30_9, S30_10, S30_11, S30_14, S30_15, S30_17, S30_19, S30_22, S30_23, S30_26, S30_27, S30_30, S30_33, S30_34, S30_37, S30_40, S30_43, S30_46, S30_47, S30_48, S30_51, S30_54, S30_55, S30_58, S30_59, S30_60, S30_61, S30_62, S30_65, S30_68, S30_71, S30_72, S30_73, S30_76, S30_79, S30_82, S30_83, S30_84, S30_87, S30_88, S30_89, S30_90, S30_93, S30_96, S30_99, S30_100, S30_101, S30_104, S30_107, S30_110, S30_111, S30_112, S30_115, S30_118, S30_119, S30_120, S30_121, S30_122, S30_125, S30_126, S30_127, S30_130, S30_133, S30_136, S30_137, S30_138, S30_141, shp_3, RV_3_0, RV_3_1, shp_27, RV_27_2, RV_27_5, RV_27_6, RV_27_7, RV_27_8, if_neg hcd]
    refine c_stepT (d := d + 2) hr hJ hp h6 (fun h1 f1 T1 o1 => ?_)
    have hR1 := cRow_cr f1 hR
    have F1 : frmF RIs h h1 := frmF_tr hf (ris_c (frCN f1))
    have g11 : h1.1 3 11 = nI k := by rw [cns_11 (frCN f1)]; exact h11
    have ck := ck_all (tk b n p).1 (by have := o1.2.2.2.2; omega)
    have t05 := tk_05 (b := b) (n := n) (p := p)
    have l5 : nI n ≤ 500 ↔ n ≤ 500 := by rw [show (500 : Int32) = nI 500 by decide, nI_leI (by omega) (by omega)]
    simp only [kV_at, S30_0, S30_1, S30_4, S30_5, S30_6, S30_9, S30_10, S30_11, S30_14, S30_15, S30_17, S30_19, S30_22, S30_23, S30_26, S30_27, S30_30, S30_33, S30_34, S30_37, S30_40, S30_43, S30_46, S30_47, S30_48, S30_51, S30_54, S30_55, S30_58, S30_59, S30_61, S30_62, S30_65, S30_68, S30_71, S30_72, S30_73, S30_76, S30_79, S30_82, S30_83, S30_84, S30_87, S30_88, S30_89, S30_90, S30_93, S30_96, S30_99, S30_100, S30_101, S30_104, S30_107, S30_110, S30_111, S30_112, S30_115, S30_118, S30_119, S30_120, S30_121, S30_122, S30_125, S30_126, S30_127, S30_130, S30_133, S30_136, S30_137, S30_138, S30_141, shp_1, RV_1_0, shp_3, RV_3_0, RV_3_1, shp_27, RV_27_2, RV_27_5, RV_27_6, RV_27_7, RV_27_8, T1.2.2.1, ck.1, T1.1.2.2.1, l5, c_fails T1.2.2, kR_at, isB_0, isB_1, ↓reduceIte]
    by_cases c0 : (tk b n p).1 = 0 ∨ (tk b n p).1 = 5
    · rw [if_pos c0]
      by_cases c5 : n ≤ 500
      · rw [if_pos c5]
        have c00 : (tk b n p).1 = 0 := by rcases c0 with z | z; exact z; have := t05.2 z; omega
        exact k1 _ (net_0 c00) h1 F1 g11 hR1.1 hV
      · rw [if_neg c5]
        have c55 : (tk b n p).1 = 5 := by rcases c0 with z | z; have := t05.1 z; omega; exact z
        refine k0 _ (net_f (by omega) (F := (1, (tk b n p).2.1)) ?_) _ (frmF_tr F1 (frmF_tr (frmF_I (Or.inl ⟨rfl, by omega, by omega⟩)) (frmF_I (Or.inl ⟨rfl, by omega, by omega⟩)))) fl_at (by rw [setI_rd, if_neg (by decide), setI_rd, if_neg (by decide)]; exact g11)
        unfold rowR
        rw [if_neg (by omega), if_neg (by omega)]
    rw [if_neg c0]
    have c00 : ¬ (tk b n p).1 = 0 := fun z => c0 (Or.inl z)
    have go120 : ∀ q, rowR b n r nm (tk b n p) = Sum.inr q → ∀ h2 : Hp, frmF CNs h1 h2 → h2.1 3 6 = nI q.1 → cRow q.2.1 q.2.2 h2 → WP (d + 5) 30 120 [some (.ref 3), some (.ref 27), some (.int (nI k))] [] h2 Q := by
      intro q e h2 f2 e6 hR2
      rw [net_y c00 e] at k0 k1
      obtain ⟨a1, a2, a3, a4⟩ := row_ok hn hV hz o1 e
      have g11' : h2.1 3 11 = nI k := by rw [cns_11 f2]; exact g11
      simp only [S30_0, S30_1, S30_4, S30_5, S30_6, S30_9, S30_10, S30_11, S30_14, S30_15, S30_17, S30_19, S30_22, S30_23, S30_26, S30_27, S30_30, S30_33, S30_34, S30_37, S30_40, S30_43, S30_46, S30_47, S30_48, S30_51, S30_54, S30_55, S30_58, S30_59, S30_60, S30_61, S30_62, S30_65, S30_68, S30_71, S30_72, S30_73, S30_76, S30_79, S30_82, S30_83, S30_84, S30_87, S30_88, S30_89, S30_90, S30_93, S30_96, S30_99, S30_100, S30_101, S30_104, S30_107, S30_110, S30_111, S30_112, S30_115, S30_118, S30_119, S30_120, S30_121, S30_122, S30_125, S30_126, S30_127, S30_130, S30_133, S30_136, S30_137, S30_138, S30_141, shp_3, RV_3_0, RV_3_1, shp_27, RV_27_2, RV_27_5, RV_27_6, RV_27_7, RV_27_8, g11', nI_add1, kl_ref]
      have F2 : frmF RIs h1 (setI h2 3 11 (nI (k + 1))) := frmF_tr (ris_c f2) (frmF_I (Or.inl ⟨rfl, by omega, by omega⟩))
      refine ih q.1 (k + 1) q.2.1 q.2.2 _ (by omega) (by omega) a1 a2 a3 (rdC_ri F2 T1.1) (jR_ri F2 T1.2.1) (by rw [setI_rd, if_neg (by decide)]; exact e6) (by rw [setI_rd, if_pos ⟨rfl, rfl⟩]) ⟨?_, hR2.2⟩ (frmF_tr F1 F2) k0 k1
      exact CN_fF (S := fun a _ => a = 3) (frmF_I rfl) (fun a j z1 z2 z3 => by omega) hR2.1
    simp only [S30_0, S30_1, S30_4, S30_5, S30_6, S30_9, S30_10, S30_11, S30_14, S30_15, S30_17, S30_19, S30_22, S30_23, S30_26, S30_27, S30_30, S30_33, S30_34, S30_37, S30_40, S30_43, S30_46, S30_47, S30_48, S30_51, S30_54, S30_55, S30_58, S30_59, S30_60, S30_61, S30_62, S30_65, S30_68, S30_71, S30_72, S30_73, S30_76, S30_79, S30_83, S30_84, S30_87, S30_89, S30_90, S30_93, S30_96, S30_99, S30_100, S30_101, S30_104, S30_107, S30_110, S30_111, S30_112, S30_115, S30_118, S30_119, S30_120, S30_121, S30_122, S30_125, S30_126, S30_127, S30_130, S30_133, S30_136, S30_137, S30_138, S30_141, shp_1, RV_1_0, shp_3, RV_3_0, RV_3_1, shp_27, RV_27_2, RV_27_5, RV_27_6, RV_27_7, RV_27_8, T1.2.1.1, T1.2.1.2.1, c_isWord T1.2.2 o1 PWb, c_isWord T1.2.2 o1 LWb, kR_at]
    by_cases cp : (tk b n p).1 = 1 ∧ (tk b n p).2.2.2 = PW
    · have er : rowR b n r nm (tk b n p) = pntR b n r nm (tk b n p) := if_pos cp
      rw [if_neg (fun z => pb_0.mp z cp)]
      simp only [S30_0, S30_1, S30_4, S30_5, S30_6, S30_9, S30_10, S30_11, S30_14, S30_15, S30_17, S30_19, S30_22, S30_23, S30_26, S30_27, S30_30, S30_33, S30_34, S30_37, S30_40, S30_43, S30_46, S30_47, S30_48, S30_51, S30_54, S30_55, S30_58, S30_59, S30_60, S30_61, S30_62, S30_65, S30_68, S30_71, S30_72, S30_73, S30_76, S30_79, S30_82, S30_83, S30_84, S30_87, S30_88, S30_89, S30_90, S30_93, S30_96, S30_99, S30_100, S30_101, S30_104, S30_107, S30_110, S30_111, S30_112, S30_115, S30_118, S30_119, S30_121, S30_122, S30_125, S30_126, S30_127, S30_130, S30_133, S30_136, S30_137, S30_138, S30_141, shp_1, RV_1_0, shp_3, RV_3_0, RV_3_1, shp_27, RV_27_2, RV_27_5, RV_27_6, RV_27_7, RV_27_8, T1.2.1.1, c_isWord T1.2.2 o1 PWb, kR_at, if_neg (fun z => pb_0.mp z cp)]
      refine c_readsPoint (d := d) T1 o1 cp.1 hV hz hR1 (fun F e h2 f2 fl2 => ?_) (fun q e h2 f2 e6 hR2 => ?_)
      · simp only [kR_at, S30_0, S30_1, S30_4, S30_5, S30_6, S30_9, S30_10, S30_11, S30_14, S30_15, S30_17, S30_19, S30_22, S30_23, S30_26, S30_27, S30_30, S30_33, S30_34, S30_37, S30_40, S30_43, S30_46, S30_47, S30_48, S30_51, S30_54, S30_55, S30_58, S30_59, S30_60, S30_61, S30_62, S30_65, S30_68, S30_71, S30_72, S30_73, S30_76, S30_79, S30_82, S30_83, S30_84, S30_87, S30_88, S30_89, S30_90, S30_93, S30_96, S30_99, S30_100, S30_101, S30_104, S30_107, S30_110, S30_111, S30_112, S30_115, S30_118, S30_119, S30_121, S30_122, S30_125, S30_126, S30_127, S30_130, S30_133, S30_136, S30_137, S30_138, S30_141, ↓reduceIte, isB_0]
        exact k0 _ (net_f c00 (er.trans e)) h2 (frmF_tr F1 (ris_c f2)) fl2 (by rw [cns_11 f2]; exact g11)
      · simp only [kR_at, S30_0, S30_1, S30_4, S30_5, S30_6, S30_9, S30_10, S30_11, S30_14, S30_15, S30_17, S30_19, S30_22, S30_23, S30_26, S30_27, S30_30, S30_33, S30_34, S30_37, S30_40, S30_43, S30_46, S30_47, S30_48, S30_51, S30_54, S30_55, S30_58, S30_59, S30_60, S30_61, S30_62, S30_65, S30_68, S30_71, S30_72, S30_73, S30_76, S30_79, S30_82, S30_83, S30_84, S30_87, S30_88, S30_89, S30_90, S30_93, S30_96, S30_99, S30_100, S30_101, S30_104, S30_107, S30_110, S30_111, S30_112, S30_115, S30_118, S30_119, S30_121, S30_122, S30_125, S30_126, S30_127, S30_130, S30_133, S30_136, S30_137, S30_138, S30_141, i10, if_false]
        exact go120 q (er.trans e) h2 f2 e6 hR2
    · rw [if_pos (pb_0.mpr cp)]
      by_cases cl : (tk b n p).1 = 1 ∧ (tk b n p).2.2.2 = LW
      · have er : rowR b n r nm (tk b n p) = linR b n r nm (tk b n p) := by unfold rowR; rw [if_neg cp, if_pos cl]
        rw [if_neg (fun z => pb_0.mp z cl)]
        simp only [S30_0, S30_1, S30_4, S30_5, S30_6, S30_9, S30_10, S30_11, S30_14, S30_15, S30_17, S30_19, S30_22, S30_23, S30_26, S30_27, S30_30, S30_33, S30_34, S30_37, S30_40, S30_43, S30_46, S30_47, S30_48, S30_51, S30_54, S30_55, S30_58, S30_59, S30_60, S30_61, S30_62, S30_65, S30_68, S30_71, S30_72, S30_73, S30_76, S30_79, S30_82, S30_83, S30_84, S30_87, S30_88, S30_89, S30_90, S30_93, S30_96, S30_99, S30_100, S30_101, S30_104, S30_107, S30_110, S30_111, S30_112, S30_115, S30_118, S30_119, S30_121, S30_122, S30_125, S30_126, S30_127, S30_130, S30_133, S30_136, S30_137, S30_138, S30_141, shp_1, RV_1_0, shp_3, RV_3_0, RV_3_1, shp_27, RV_27_2, RV_27_5, RV_27_6, RV_27_7, RV_27_8, T1.2.1.1, c_isWord T1.2.2 o1 PWb, kR_at, if_pos (pb_0.mpr cp)]
        refine c_readsLine (d := d) T1 o1 cl.1 hV hz hR1 (fun F e h2 f2 fl2 => ?_) (fun q e h2 f2 e6 hR2 => ?_)
        · simp only [kR_at, S30_0, S30_1, S30_4, S30_5, S30_6, S30_9, S30_10, S30_11, S30_14, S30_15, S30_17, S30_19, S30_22, S30_23, S30_26, S30_27, S30_30, S30_33, S30_34, S30_37, S30_40, S30_43, S30_46, S30_47, S30_48, S30_51, S30_54, S30_55, S30_58, S30_59, S30_60, S30_61, S30_62, S30_65, S30_68, S30_71, S30_72, S30_73, S30_76, S30_79, S30_82, S30_83, S30_84, S30_87, S30_88, S30_89, S30_90, S30_93, S30_96, S30_99, S30_100, S30_101, S30_104, S30_107, S30_110, S30_111, S30_112, S30_115, S30_118, S30_119, S30_121, S30_122, S30_125, S30_126, S30_127, S30_130, S30_133, S30_136, S30_137, S30_138, S30_141, ↓reduceIte, isB_0]
          exact k0 _ (net_f c00 (er.trans e)) h2 (frmF_tr F1 (ris_c f2)) fl2 (by rw [cns_11 f2]; exact g11)
        · simp only [kR_at, S30_0, S30_1, S30_4, S30_5, S30_6, S30_9, S30_10, S30_11, S30_14, S30_15, S30_17, S30_19, S30_22, S30_23, S30_26, S30_27, S30_30, S30_33, S30_34, S30_37, S30_40, S30_43, S30_46, S30_47, S30_48, S30_51, S30_54, S30_55, S30_58, S30_59, S30_60, S30_61, S30_62, S30_65, S30_68, S30_71, S30_72, S30_73, S30_76, S30_79, S30_82, S30_83, S30_84, S30_87, S30_88, S30_89, S30_90, S30_93, S30_96, S30_99, S30_100, S30_101, S30_104, S30_107, S30_110, S30_111, S30_112, S30_115, S30_118, S30_119, S30_121, S30_122, S30_125, S30_126, S30_127, S30_130, S30_133, S30_136, S30_137, S30_138, S30_141, i10, if_false]
          exact go120 q (er.trans e) h2 f2 e6 hR2
      · have er : rowR b n r nm (tk b n p) = Sum.inl (1, (tk b n p).2.1) := by unfold rowR; rw [if_neg cp, if_neg cl]
        rw [if_pos (pb_0.mpr cl)]
        simp only [S30_0, S30_1, S30_4, S30_5, S30_6, S30_9, S30_10, S30_11, S30_14, S30_15, S30_17, S30_19, S30_22, S30_23, S30_26, S30_27, S30_30, S30_33, S30_34, S30_37, S30_40, S30_43, S30_46, S30_47, S30_48, S30_51, S30_54, S30_55, S30_58, S30_59, S30_60, S30_61, S30_62, S30_65, S30_68, S30_71, S30_72, S30_73, S30_76, S30_79, S30_82, S30_83, S30_84, S30_87, S30_88, S30_89, S30_90, S30_93, S30_96, S30_99, S30_100, S30_101, S30_104, S30_107, S30_110, S30_111, S30_112, S30_115, S30_118, S30_119, S30_120, S30_121, S30_122, S30_125, S30_126, S30_127, S30_130, S30_133, S30_136, S30_137, S30_138, S30_141, shp_3, RV_3_0, RV_3_1, shp_27, RV_27_2, RV_27_5, RV_27_6, RV_27_7, RV_27_8, c_fails T1.2.2, kR_at, isB_0]
        exact k0 _ (net_f c00 er) _ (frmF_tr F1 (ris_c (frCN (fl_set frmF_rf)))) fl_at (by rw [setI_rd, if_neg (by decide), setI_rd, if_neg (by decide)]; exact g11)
def zr : RowT := fun _ => 0
theorem zr_P : rP zr = 0 := by decide
theorem zr_L : rL zr = 0 := by decide
theorem zr_V : VR zr := ⟨⟨by rw [zr_P]; decide, by rw [zr_P]; decide⟩, ⟨by rw [zr_L]; decide, by rw [zr_L]; decide⟩, fun p hp => by rw [zr_P] at hp; omega, fun l hl => by rw [zr_L] at hl; omega⟩
theorem zr_Z : rZ zr := fun _ _ _ => ⟨rfl, rfl⟩
theorem mask_0 {S : Nat → Prop} (hS : ∀ i, ¬ S i) : maskOf S = 0 := (eq_mask (S := S) (x := 0) (fun i hi => by rw [b_0]; exact ⟨fun z => absurd z (by decide), fun z => absurd z (hS i)⟩)).symm
theorem zr_CN (q0 : h.1 B 0 = 0) (q1 : h.1 B 1 = 0) (q3 : h.1 B 3 = 0) (q4 : h.1 B 4 = 0) : CN h B zr := ⟨q0, by rw [q1, mask_0 (fun i z => by have := z.1; rw [zr_P] at this; omega)], q3, by rw [q4, mask_0 (fun i z => by have := z.1; rw [zr_L] at this; omega)], fun p hp => by rw [zr_P] at hp; omega, fun l hl => by rw [zr_L] at hl; omega⟩
noncomputable def netS (b : Nat → Nat) (n : Nat) : Sum (Fl × Nat) (Nat × RowT) := netR b n 18 0 zr (fun _ => 0) 0
theorem c_readsInto (hr : rdC b n h) (hJ : jR h) (k0 : ∀ F, netS b n = Sum.inl F → ∀ h' : Hp, frmF RIs h h' → flC F.1 h' → h'.1 3 11 = nI F.2 → Q (some (some (.int 0))) h') (k1 : ∀ q, netS b n = Sum.inr q → ∀ h' : Hp, frmF RIs h h' → h'.1 3 11 = nI q.1 → CN h' 27 q.2 → VR q.2 → Q (some (some (.int 1))) h') : WP (d + 5) 30 0 [some (.ref 3), some (.ref 27), none] [] h Q := by
  simp only [S30_0, S30_1, S30_4, S30_5, S30_6, S30_9, S30_10, S30_11, S30_14, S30_15, S30_17, S30_19, S30_22, S30_23, S30_26, S30_27, S30_30, S30_33, S30_34, S30_37, S30_40, S30_43, S30_46, S30_47, S30_48, S30_51, S30_54, S30_55, S30_58, S30_59, S30_60, S30_61, S30_62, S30_65, S30_68, S30_71, S30_72, S30_73, S30_76, S30_79, S30_82, S30_83, S30_84, S30_87, S30_88, S30_89, S30_90, S30_93, S30_96, S30_99, S30_100, S30_101, S30_104, S30_107, S30_110, S30_111, S30_112, S30_115, S30_118, S30_119, S30_120, S30_121, S30_122, S30_125, S30_126, S30_127, S30_130, S30_133, S30_136, S30_137, S30_138, S30_141, shp_3, RV_3_0, RV_3_1, shp_27, RV_27_2, RV_27_5, RV_27_6, RV_27_7, RV_27_8, c_clear shp_27, kV_at, kl_ref]
  rw [nI_l0]
  have f27 : ∀ {g : Hp} {j : Nat} {u : Int32}, frmF RIs g (setI g 27 j u) := fun {g j u} => frmF_I (Or.inr (Or.inr ⟨by omega, by omega⟩))
  have F : frmF RIs h (setI (setI (setI (setI (setI (setI h 27 0 (nI 0)) 27 1 (nI 0)) 27 3 (nI 0)) 27 4 (nI 0)) 3 6 (nI 0)) 3 11 (nI 0)) := frmF_tr f27 (frmF_tr f27 (frmF_tr f27 (frmF_tr f27 (frmF_tr (frmF_I (Or.inl ⟨rfl, by omega, by omega⟩)) (frmF_I (Or.inl ⟨rfl, by omega, by omega⟩))))))
  refine c_rInto_loop (h := h) (d := d) 18 0 0 zr (fun _ => 0) _ (by omega) (by rw [zr_P, zr_L]) (by omega) zr_V zr_Z (rdC_ri F hr) (jR_ri F hJ) ?_ ?_ ⟨zr_CN ?_ ?_ ?_ ?_, fun j hj => by rw [zr_P] at hj; omega⟩ F k0 k1
  · simp [setI_rd]
  · simp [setI_rd]
  · simp [setI_rd]; decide
  · simp [setI_rd]; decide
  · simp [setI_rd]; decide
  · simp [setI_rd]; decide
/-- what net does to the class -/
def NTs (a j : Nat) : Prop := RIs a j ∨ (21 ≤ a ∧ a ≤ 26) ∨ (a = 5 ∧ j = 2) ∨ (a = 0 ∧ (j = 7 ∨ j = 8 ∨ j = 11)) ∨ (a = 1 ∧ j = 1)
theorem c_net (hr : rdC b n h) (hJ : jR h) (k0 : ∀ F, netS b n = Sum.inl F → ∀ h' : Hp, frmF (fun a j => RIs a j ∨ (a = 0 ∧ (j = 7 ∨ j = 8)) ∨ (a = 1 ∧ j = 1)) h h' → h'.1 1 1 = nI 0 → h'.1 0 7 = nI F.1.1 → h'.1 0 8 = nI F.2 → Q (some (some (.int (-1 - nI F.1.2)))) h') (k1 : ∀ q, netS b n = Sum.inr q → VR q.2 → ∀ h' : Hp, frmF NTs h h' → h'.1 1 1 = nI 0 → h'.1 0 7 = 0 → h'.1 0 8 = -1 → CN h' 21 q.2 → h'.1 5 2 = nI 0 → h'.1 0 11 = 1 → Q (some (some (.int (nI q.1)))) h') : WP (d + 6) 56 0 [some (.ref 0), none] [] h Q := by
  simp only [S56_0, S56_1, S56_4, S56_5, S56_8, S56_11, S56_12, S56_13, S56_16, S56_17, S56_20, S56_21, S56_24, S56_25, S56_26, S56_29, S56_32, S56_35, S56_36, S56_37, S56_40, S56_43, S56_46, S56_47, S56_48, S56_51, S56_54, S56_55, S56_56, S56_57, S56_58, S56_61, S56_62, S56_63, S56_66, S56_67, S56_70, S56_71, S56_74, S56_77, S56_78, S56_81, S56_84, S56_85, S56_86, S56_89, S56_90, S56_93, S56_96, shp_0, RV_0_0, RV_0_1, RV_0_2, RV_0_3, RV_0_4, RV_0_5, RV_0_9, RV_0_10, shp_3, RV_3_0, RV_3_1]
  refine c_readsInto (d := d) hr hJ (fun F e h1 f1 fl1 r1 => ?_) (fun q e h1 f1 r1 n1 V1 => ?_)
  · have g12 : (setI h1 1 1 0).1 3 12 = nI F.1.1 := by rw [setI_1 (by decide)]; exact fl1.1
    have g11 : ∀ u, (setI (setI h1 1 1 0) 0 7 u).1 3 11 = nI F.2 := fun u => by rw [setI_1 (by decide), setI_1 (by decide)]; exact r1
    have g13 : ∀ u v, (setI (setI (setI h1 1 1 0) 0 7 u) 0 8 v).1 3 13 = nI F.1.2 := fun u v => by rw [setI_1 (by decide), setI_1 (by decide), setI_1 (by decide)]; exact fl1.2
    simp only [kR_at, S56_0, S56_1, S56_4, S56_5, S56_8, S56_11, S56_12, S56_13, S56_16, S56_17, S56_20, S56_21, S56_24, S56_25, S56_26, S56_29, S56_32, S56_35, S56_36, S56_37, S56_40, S56_43, S56_46, S56_47, S56_48, S56_51, S56_54, S56_55, S56_56, S56_57, S56_58, S56_61, S56_62, S56_63, S56_66, S56_67, S56_70, S56_71, S56_74, S56_77, S56_78, S56_81, S56_84, S56_85, S56_86, S56_89, S56_90, S56_93, S56_96, shp_0, RV_0_0, RV_0_1, RV_0_2, RV_0_3, RV_0_4, RV_0_5, RV_0_9, RV_0_10, shp_1, RV_1_0, shp_3, RV_3_0, RV_3_1, ↓reduceIte, g12, g11, g13, kl_ref]
    refine k0 F e _ (frmF_tr ⟨fun a j hq => f1.1 a j (fun z => hq (Or.inl z)), f1.2⟩ (frmF_tr (frmF_I (Or.inr (Or.inr ⟨rfl, rfl⟩))) (frmF_tr (frmF_I (Or.inr (Or.inl ⟨rfl, Or.inl rfl⟩))) (frmF_I (Or.inr (Or.inl ⟨rfl, Or.inr rfl⟩)))))) ?_ ?_ ?_
    · simp [setI_rd]; decide
    · simp [setI_rd]
    · simp [setI_rd]
  · have V1' := V1
    simp only [kR_at, S56_0, S56_1, S56_4, S56_5, S56_8, S56_11, S56_12, S56_13, S56_16, S56_17, S56_20, S56_21, S56_24, S56_25, S56_26, S56_29, S56_32, S56_35, S56_36, S56_37, S56_40, S56_43, S56_46, S56_47, S56_48, S56_51, S56_54, S56_55, S56_56, S56_57, S56_58, S56_61, S56_62, S56_63, S56_66, S56_67, S56_70, S56_71, S56_74, S56_77, S56_78, S56_81, S56_84, S56_85, S56_86, S56_89, S56_90, S56_93, S56_96, shp_0, RV_0_0, RV_0_1, RV_0_2, RV_0_3, RV_0_4, RV_0_5, RV_0_9, RV_0_10, shp_1, RV_1_0, shp_3, RV_3_0, RV_3_1, shp_21, RV_21_2, RV_21_5, RV_21_6, RV_21_7, RV_21_8, i10, if_false, kl_ref]
    have n2 : CN (setI (setI (setI h1 1 1 0) 0 7 0) 0 8 (-1)) 27 q.2 := CN_frm (S := fun a => a = 0 ∨ a = 1) (frm_tr (frm_I (Or.inr rfl)) (frm_tr (frm_I (Or.inl rfl)) (frm_I (Or.inl rfl)))) (fun a z1 z2 z3 => by omega) n1
    refine c_copyFrom (a := 21) (b := 27) (NO_nid (k := 0) (by omega)) (NO_nid (k := 1) (by omega)) (by omega) V1 n2 (fun h2 f2 n3 => ?_)
    have g11 : (setI (setI h2 5 2 0) 0 11 1).1 3 11 = nI q.1 := by
      rw [setI_1 (by decide), setI_1 (by decide), (f2.1 3 (by omega)).1, setI_1 (by decide), setI_1 (by decide), setI_1 (by decide)]
      exact r1
    simp only [kV_at, S56_0, S56_1, S56_4, S56_5, S56_8, S56_11, S56_12, S56_13, S56_16, S56_17, S56_20, S56_21, S56_24, S56_25, S56_26, S56_29, S56_32, S56_35, S56_36, S56_37, S56_40, S56_43, S56_46, S56_47, S56_48, S56_51, S56_54, S56_55, S56_56, S56_57, S56_58, S56_61, S56_62, S56_63, S56_66, S56_67, S56_70, S56_71, S56_74, S56_77, S56_78, S56_81, S56_84, S56_85, S56_86, S56_89, S56_90, S56_93, S56_96, S2_0, S2_1, S2_2, S2_5, shp_0, RV_0_0, RV_0_1, RV_0_2, RV_0_3, RV_0_4, RV_0_5, RV_0_9, RV_0_10, shp_3, RV_3_0, RV_3_1, shp_5, RV_5_0, isB_1, g11]
    have o0 : h2.1 0 = (setI (setI (setI h1 1 1 0) 0 7 0) 0 8 (-1)).1 0 := (f2.1 0 (by omega)).1
    have o1 : h2.1 1 = (setI (setI (setI h1 1 1 0) 0 7 0) 0 8 (-1)).1 1 := (f2.1 1 (by omega)).1
    refine k1 q e V1 _ ?_ ?_ ?_ ?_ ?_ ?_ ?_
    · refine frmF_tr ⟨fun a j hq => f1.1 a j (fun z => hq (Or.inl z)), f1.2⟩ (frmF_tr (frmF_tr (frmF_I (by unfold NTs; omega)) (frmF_tr (frmF_I (by unfold NTs; omega)) (frmF_I (by unfold NTs; omega)))) (frmF_tr (frmF_frm (fun a j z => by unfold NTs; omega) f2) (frmF_tr (frmF_I (by unfold NTs; omega)) (frmF_I (by unfold NTs; omega)))))
    · rw [setI_1 (by decide), setI_1 (by decide), o1]; simp [setI_rd]; decide
    · rw [setI_rd, if_neg (by decide), setI_1 (by decide), o0]; simp [setI_rd]
    · rw [setI_rd, if_neg (by decide), setI_1 (by decide), o0]; simp [setI_rd]
    · exact CN_frm (S := fun a => a = 0 ∨ a = 5) (frm_tr (frm_I (Or.inr rfl)) (frm_I (Or.inl rfl))) (fun a z1 z2 z3 => by omega) n3
    · rw [setI_1 (by decide), setI_rd, if_pos ⟨rfl, rfl⟩]; decide
    · rw [setI_rd, if_pos ⟨rfl, rfl⟩]
end
