/-! The model reads rows, and a net. -/
def MRs (a j : Nat) : Prop := (a = 93 ∧ ((4 ≤ j ∧ j ≤ 10) ∨ j = 12 ∨ j = 22)) ∨ a = 96 ∨ a = 101
def MSs (a j : Nat) : Prop := (a = 93 ∧ ((4 ≤ j ∧ j ≤ 7) ∨ j = 12 ∨ j = 22)) ∨ a = 96 ∨ a = 101
def flR (F : Fl) (k : Nat) (h : Hp) : Prop := h.1 93 8 = nI F.1 ∧ h.1 93 10 = nI F.2 ∧ h.1 93 9 = nI k
def mT (b : Nat → Nat) (n : Nat) (t : TK) (h : Hp) : Prop := rdM b n h ∧ tkM t h
def mRow (r : RowT) (nm : NmT) (h : Hp) : Prop := eq69 (h.1 96) r ∧ ∀ j, j < rP r → h.2.1 101 j = nm j
section
variable {d : Nat} {h h' : Hp} {Q : Option (Option Value) → Hp → Prop} {x y z w : Int32} {k l p q n m P B f : Nat} {b : Nat → Nat} {t : TK} {nm : NmT} {v : Int} {r r2 : RowT}
theorem eq69_upd (e : eq69 r r2) : eq69 (upd r k x) (upd r2 k x) := fun j hj => by
  unfold upd
  by_cases c : j = k
  · rw [if_pos c, if_pos c]
  · rw [if_neg c, if_neg c]; exact e j hj
theorem mrs_r (hf : frmF RMs h h') : frmF MRs h h' := ⟨fun a j hq => hf.1 a j (fun z => hq (by unfold RMs at z; unfold MRs; omega)), hf.2⟩
theorem mss_r (hf : frmF RMs h h') : frmF MSs h h' := ⟨fun a j hq => hf.1 a j (fun z => hq (by unfold RMs at z; unfold MSs; omega)), hf.2⟩
theorem mrs_s (hf : frmF MSs h h') : frmF MRs h h' := ⟨fun a j hq => hf.1 a j (fun z => hq (by unfold MSs at z; unfold MRs; omega)), hf.2⟩
theorem mrs_b (hf : frmF BDs h h') : frmF MRs h h' := ⟨fun a j hq => hf.1 a j (fun z => hq (by unfold BDs at z; unfold MRs; omega)), hf.2⟩
theorem mrs_11 (hf : frmF MRs h h') : h'.1 93 11 = h.1 93 11 := (hf.1 93 11 (by unfold MRs; omega)).1
theorem rdM_mr (hf : frmF MRs h h') (hr : rdM b n h) : rdM b n h' := ⟨hr.1, hr.2.1, by rw [(hf.1 93 3 (by unfold MRs; omega)).1]; exact hr.2.2.1, fun j hj => by rw [(hf.1 94 j (by unfold MRs; omega)).1]; exact hr.2.2.2 j hj⟩
theorem mRow_r (hf : frmF RMs h h') (hR : mRow r nm h) : mRow r nm h' := ⟨fun j hj => by rw [(hf.1 96 j (by unfold RMs; omega)).1]; exact hR.1 j hj, fun j hj => by rw [(hf.1 101 j (by unfold RMs; omega)).2]; exact hR.2 j hj⟩
theorem m_goT (hr : rdM b n h) (hp : p ≤ n) (h4 : h.1 93 4 = nI p) (kk : ∀ h' : Hp, frmF RMs h h' → mT b n (tk b n p) h' → tkOK n (tk b n p) → Q (some none) h') : WP (d + 1) 110 0 [some (.ref 93), none, none, none, none] [] h Q := m_go hr hp h4 (fun h1 f1 t1 => kk h1 f1 ⟨rdM_fr f1 hr, t1⟩ (tk_ok hp hr.1))
theorem m_badT (hT : tkM t h) (hO : tkOK n t) (h11 : h.1 93 11 = nI l) (hk : k = 1 ∨ ¬ (t.1 = 4 ∨ t.1 = 5)) (kk : ∀ h' : Hp, frmF MRs h h' → flR (k, t.2.1) l h' → Q (some (some (.int 0))) h') : WP d 118 0 [some (.ref 93), some (.int (nI k))] [] h Q := m_bad hT hO hk (fun h1 f1 e1 => kk h1 (mrs_b f1) ⟨e1.1, e1.2.1, e1.2.2.trans h11⟩)
theorem m_readHeight (hc : mT b n t h) (hO : tkOK n t) (h11 : h.1 93 11 = nI l) (k0 : ∀ F, hgtS b n t = Sum.inl F → ∀ h' : Hp, frmF MRs h h' → flR F l h' → Q (some (some (.int 0))) h') (k1 : ∀ q, hgtS b n t = Sum.inr q → ∀ h' : Hp, frmF (fun a j => RMs a j ∨ (a = 93 ∧ j = 22)) h h' → mT b n (tk b n q.1) h' → tkOK n (tk b n q.1) → h'.1 93 22 = Int32.ofInt q.2 → Q (some (some (.int 1))) h') : WP (d + 2) 121 0 [some (.ref 93), none] [] h Q := by
  obtain ⟨hr, hT⟩ := hc
  have hn := hr.1
  have go22 : t.1 = 1 → (t.2.2.2 = UW ∨ t.2.2.2 = DW) → WP (d + 2) 121 22 [some (.ref 93), some (.int (pb (t.1 = 1 ∧ t.2.2.2 = DW)))] [] h Q := by
    intro c1 c2
    simp only [S121_0, S121_1, S121_4, S121_5, S121_6, S121_9, S121_10, S121_13, S121_16, S121_17, S121_18, S121_21, S121_22, S121_23, S121_26, S121_27, S121_30, S121_31, S121_34, S121_35, S121_36, S121_39, S121_40, S121_41, S121_42, S121_45, S121_46, S121_49, S121_50, S121_53, S121_54, S121_57, S121_60, S121_61, S121_64, S121_65, shp_93, RV_93_1, RV_93_13, RV_93_14, RV_93_15, RV_93_16, RV_93_17, RV_93_18, RV_93_19, RV_93_20, RV_93_23, RV_93_24, RV_93_27, RV_93_28, RV_93_29]
    refine m_goT (d := d) hr (hO.2.2.1 (Or.inl c1)) (hT.2.2.2.2 (Or.inl c1)) (fun h1 f1 t1 o1 => ?_)
    have mk := mk_all (tk b n t.2.2.1).1 (by have := o1.2.2.2.2; omega)
    simp only [kV_at, S121_0, S121_1, S121_4, S121_5, S121_6, S121_9, S121_10, S121_13, S121_16, S121_17, S121_18, S121_21, S121_22, S121_23, S121_26, S121_27, S121_30, S121_31, S121_35, S121_36, S121_39, S121_41, S121_42, S121_45, S121_46, S121_49, S121_50, S121_53, S121_54, S121_57, S121_60, S121_61, S121_64, S121_65, shp_93, RV_93_1, RV_93_13, RV_93_14, RV_93_15, RV_93_16, RV_93_17, RV_93_18, RV_93_19, RV_93_20, RV_93_23, RV_93_24, RV_93_27, RV_93_28, RV_93_29, t1.2.1, mk.2.2.2.1]
    by_cases c3 : (tk b n t.2.2.1).1 = 2
    · rw [if_pos c3]
      have hy := hgt_y (b := b) (n := n) (t := t) ⟨c1, c2⟩ c3
      have hb := hgt_b hO hn hy
      have k2 := k1 _ hy
      have ev := t1.2.2.2.2.1 c3
      have e4 := t1.2.2.2.2.2 (Or.inr (Or.inl c3))
      have en : -(Int32.ofInt (tk b n t.2.2.1).2.2.2) = Int32.ofInt (-(tk b n t.2.2.1).2.2.2) := (Int32.ofInt_neg _).symm
      have go57 : ∀ u : Int, u = (if t.2.2.2 = UW then (tk b n t.2.2.1).2.2.2 else -(tk b n t.2.2.1).2.2.2) → WP (d + 2) 121 57 [some (.ref 93), some (.int (pb (t.1 = 1 ∧ t.2.2.2 = DW)))] [.int (Int32.ofInt u), .ref 93] h1 Q := by
        intro u eu
        simp only [S121_0, S121_1, S121_4, S121_5, S121_6, S121_9, S121_10, S121_13, S121_16, S121_17, S121_18, S121_21, S121_22, S121_23, S121_26, S121_27, S121_30, S121_31, S121_34, S121_35, S121_36, S121_39, S121_40, S121_41, S121_42, S121_45, S121_46, S121_49, S121_50, S121_53, S121_54, S121_57, S121_60, S121_61, S121_64, S121_65, shp_93, RV_93_1, RV_93_13, RV_93_14, RV_93_15, RV_93_16, RV_93_17, RV_93_18, RV_93_19, RV_93_20, RV_93_23, RV_93_24, RV_93_27, RV_93_28, RV_93_29]
        have F2 : frmF (fun a j => RMs a j ∨ (a = 93 ∧ j = 22)) h (setI h1 93 22 (Int32.ofInt u)) := frmF_tr ⟨fun a j hq => f1.1 a j (fun z => hq (Or.inl z)), f1.2⟩ (frmF_I (Or.inr ⟨rfl, rfl⟩))
        refine m_goT (d := d) (p := (tk b n t.2.2.1).2.2.1) (rdM_mr (frmF_I (Or.inl ⟨rfl, by omega⟩)) t1.1) hb.1 (by rw [setI_rd, if_neg (by decide)]; exact e4) (fun h3 f3 t3 o3 => ?_)
        simp only [kV_at, S121_0, S121_1, S121_4, S121_5, S121_6, S121_9, S121_10, S121_13, S121_16, S121_17, S121_18, S121_21, S121_22, S121_23, S121_26, S121_27, S121_30, S121_31, S121_34, S121_35, S121_36, S121_39, S121_40, S121_41, S121_42, S121_45, S121_46, S121_49, S121_50, S121_53, S121_54, S121_57, S121_60, S121_61, S121_64, S121_65, isB_1]
        refine k2 h3 (frmF_tr F2 ⟨fun a j hq => f3.1 a j (fun z => hq (Or.inl z)), f3.2⟩) t3 o3 ?_
        rw [(f3.1 93 22 (by unfold RMs; omega)).1, setI_rd, if_pos ⟨rfl, rfl⟩, eu]
      simp only [S121_0, S121_1, S121_4, S121_5, S121_6, S121_9, S121_10, S121_13, S121_16, S121_17, S121_18, S121_21, S121_22, S121_23, S121_26, S121_27, S121_30, S121_31, S121_34, S121_35, S121_36, S121_39, S121_40, S121_41, S121_42, S121_45, S121_46, S121_49, S121_50, S121_53, S121_54, S121_60, S121_61, S121_64, S121_65, shp_93, RV_93_1, RV_93_13, RV_93_14, RV_93_15, RV_93_16, RV_93_17, RV_93_18, RV_93_19, RV_93_20, RV_93_23, RV_93_24, RV_93_27, RV_93_28, RV_93_29, ev, en]
      by_cases c4 : t.2.2.2 = DW
      · rw [if_neg (fun z => pb_0.mp z ⟨c1, c4⟩)]
        exact go57 _ (by rw [if_neg (fun z => UW_DW (z.symm.trans c4))])
      · rw [if_pos (pb_0.mpr (fun z => c4 z.2))]
        exact go57 _ (by rw [if_pos (by rcases c2 with y | y; exact y; exact absurd y c4)])
    · rw [if_neg c3]
      simp only [S121_0, S121_1, S121_4, S121_5, S121_6, S121_9, S121_10, S121_13, S121_16, S121_17, S121_18, S121_21, S121_22, S121_23, S121_26, S121_27, S121_30, S121_31, S121_34, S121_35, S121_36, S121_39, S121_40, S121_41, S121_42, S121_45, S121_46, S121_49, S121_50, S121_53, S121_54, S121_57, S121_60, S121_61, S121_64, S121_65, shp_93, RV_93_1, RV_93_13, RV_93_14, RV_93_15, RV_93_16, RV_93_17, RV_93_18, RV_93_19, RV_93_20, RV_93_23, RV_93_24, RV_93_27, RV_93_28, RV_93_29]
      refine m_badT (k := 1) t1.2 o1 (by rw [mrs_11 (mrs_r f1)]; exact h11) (Or.inl rfl) (fun h2 f2 fl2 => ?_)
      simp only [kR_at, S121_0, S121_1, S121_4, S121_5, S121_6, S121_9, S121_10, S121_13, S121_16, S121_17, S121_18, S121_21, S121_22, S121_23, S121_26, S121_27, S121_30, S121_31, S121_34, S121_35, S121_36, S121_39, S121_40, S121_41, S121_42, S121_45, S121_46, S121_49, S121_50, S121_53, S121_54, S121_57, S121_60, S121_61, S121_64, S121_65, isB_0]
      exact k0 _ (hgt_n2 ⟨c1, c2⟩ c3) h2 (frmF_tr (mrs_r f1) f2) fl2
  simp only [S121_0, S121_1, S121_4, S121_5, S121_6, S121_9, S121_10, S121_13, S121_17, S121_18, S121_21, S121_23, S121_26, S121_27, S121_30, S121_31, S121_34, S121_35, S121_36, S121_39, S121_40, S121_41, S121_42, S121_45, S121_46, S121_49, S121_50, S121_53, S121_54, S121_57, S121_60, S121_61, S121_64, S121_65, shp_93, RV_93_1, RV_93_13, RV_93_14, RV_93_15, RV_93_16, RV_93_17, RV_93_18, RV_93_19, RV_93_20, RV_93_23, RV_93_24, RV_93_27, RV_93_28, RV_93_29, m_isDW hT hO, m_isUW hT hO, kR_at, kl_ref]
  by_cases c1 : t.1 = 1 ∧ t.2.2.2 = DW
  · rw [if_neg (fun z => pb_0.mp z c1)]
    exact go22 c1.1 (Or.inr c1.2)
  · rw [if_pos (pb_0.mpr c1)]
    by_cases c2 : t.1 = 1 ∧ t.2.2.2 = UW
    · rw [if_neg (fun z => pb_0.mp z c2)]
      exact go22 c2.1 (Or.inl c2.2)
    · rw [if_pos (pb_0.mpr c2)]
      simp only [S121_0, S121_1, S121_4, S121_5, S121_6, S121_9, S121_10, S121_13, S121_16, S121_17, S121_18, S121_21, S121_22, S121_23, S121_26, S121_27, S121_30, S121_31, S121_34, S121_35, S121_36, S121_39, S121_40, S121_41, S121_42, S121_45, S121_46, S121_49, S121_50, S121_53, S121_54, S121_57, S121_60, S121_61, S121_64, S121_65, shp_93, RV_93_1, RV_93_13, RV_93_14, RV_93_15, RV_93_16, RV_93_17, RV_93_18, RV_93_19, RV_93_20, RV_93_23, RV_93_24, RV_93_27, RV_93_28, RV_93_29]
      refine m_badT (k := 1) hT hO h11 (Or.inl rfl) (fun h2 f2 fl2 => ?_)
      simp only [kR_at, S121_0, S121_1, S121_4, S121_5, S121_6, S121_9, S121_10, S121_13, S121_16, S121_17, S121_18, S121_21, S121_22, S121_23, S121_26, S121_27, S121_30, S121_31, S121_34, S121_35, S121_36, S121_39, S121_40, S121_41, S121_42, S121_45, S121_46, S121_49, S121_50, S121_53, S121_54, S121_57, S121_60, S121_61, S121_64, S121_65, isB_0]
      refine k0 _ (hgt_n (fun z => ?_)) h2 f2 fl2
      rcases z.2 with y | y
      · exact c2 ⟨z.1, y⟩
      · exact c1 ⟨z.1, y⟩
theorem mRow_h (hf : frmF (fun a j => RMs a j ∨ (a = 93 ∧ j = 22)) h h') (hR : mRow r nm h) : mRow r nm h' := ⟨fun j hj => by rw [(hf.1 96 j (by unfold RMs; omega)).1]; exact hR.1 j hj, fun j hj => by rw [(hf.1 101 j (by unfold RMs; omega)).2]; exact hR.2 j hj⟩
theorem mrs_h (hf : frmF (fun a j => RMs a j ∨ (a = 93 ∧ j = 22)) h h') : frmF MRs h h' := ⟨fun a j hq => hf.1 a j (fun z => hq (by unfold RMs at z; unfold MRs; omega)), hf.2⟩
theorem mss_h (hf : frmF (fun a j => RMs a j ∨ (a = 93 ∧ j = 22)) h h') : frmF MSs h h' := ⟨fun a j hq => hf.1 a j (fun z => hq (by unfold RMs at z; unfold MSs; omega)), hf.2⟩
theorem ok96 (hj : m < 69) : okA 1 96 (nI m) := okA_nI shp_96 hj (by decide)
theorem ok96_0 : okA 1 96 0 := ok96 (m := 0) (by decide)
theorem ok96_1 : okA 1 96 1 := ok96 (m := 1) (by decide)
theorem m_readPoint (hc : mT b n t h) (hO : tkOK n t) (ht : t.1 = 1) (hV : VR r) (hz : rZ r) (hR : mRow r nm h) (h11 : h.1 93 11 = nI l) (k0 : ∀ F, pntR b n r nm t = Sum.inl F → ∀ h' : Hp, frmF MRs h h' → flR F l h' → Q (some (some (.int 0))) h') (k1 : ∀ t' r' nm', pntR b n r nm t = endS t' r' nm' → tkOK n t' → ∀ h' : Hp, frmF MSs h h' → mT b n t' h' → mRow r' nm' h' → Q (some (some (.int 1))) h') : WP (d + 3) 122 0 [some (.ref 93), none] [] h Q := by
  have hr := hc.1
  have hn := hr.1
  have h6 := hV.1.2
  have e0 : h.1 96 0 = nI (rP r) := by rw [hR.1 0 (by decide)]; exact hV.1.1
  have q6 : nI (rP r) = 6 ↔ 6 ≤ rP r := by rw [show (6 : Int32) = nI 6 by decide, nI_eq (by omega) (by omega)]; omega
  simp only [S122_0, S122_1, S122_4, S122_5, S122_6, S122_7, S122_8, S122_10, S122_14, S122_15, S122_18, S122_20, S122_23, S122_24, S122_27, S122_30, S122_31, S122_32, S122_35, S122_36, S122_37, S122_40, S122_41, S122_44, S122_45, S122_46, S122_49, S122_50, S122_51, S122_54, S122_55, S122_56, S122_59, S122_60, S122_61, S122_64, S122_65, S122_68, S122_69, S122_72, S122_73, S122_76, S122_79, S122_80, S122_81, S122_82, S122_85, S122_86, S122_87, S122_88, S122_89, S122_90, S122_91, S122_94, S122_96, S122_97, S122_98, S122_99, S122_102, S122_103, S122_104, S122_107, S122_108, S122_109, S122_110, S122_111, S122_112, S122_113, S122_114, shp_93, RV_93_1, RV_93_13, RV_93_14, RV_93_15, RV_93_16, RV_93_17, RV_93_18, RV_93_19, RV_93_20, RV_93_23, RV_93_24, RV_93_27, RV_93_28, RV_93_29, ok96_0, cl_0, e0, q6, kl_ref]
  by_cases c : 6 ≤ rP r
  · rw [if_pos c]
    simp only [S122_0, S122_1, S122_4, S122_5, S122_6, S122_7, S122_8, S122_10, S122_13, S122_14, S122_15, S122_18, S122_19, S122_20, S122_23, S122_24, S122_27, S122_30, S122_31, S122_32, S122_35, S122_36, S122_37, S122_40, S122_41, S122_44, S122_45, S122_46, S122_49, S122_50, S122_51, S122_54, S122_55, S122_56, S122_59, S122_60, S122_61, S122_64, S122_65, S122_68, S122_69, S122_72, S122_73, S122_76, S122_79, S122_80, S122_81, S122_82, S122_85, S122_86, S122_87, S122_88, S122_89, S122_90, S122_91, S122_94, S122_96, S122_97, S122_98, S122_99, S122_102, S122_103, S122_104, S122_107, S122_108, S122_109, S122_110, S122_111, S122_112, S122_113, S122_114, shp_93, RV_93_1, RV_93_13, RV_93_14, RV_93_15, RV_93_16, RV_93_17, RV_93_18, RV_93_19, RV_93_20, RV_93_23, RV_93_24, RV_93_27, RV_93_28, RV_93_29]
    refine m_badT (k := 4) hc.2 hO h11 (Or.inr (by omega)) (fun h2 f2 fl2 => ?_)
    simp only [kR_at, S122_0, S122_1, S122_4, S122_5, S122_6, S122_7, S122_8, S122_10, S122_13, S122_14, S122_15, S122_18, S122_19, S122_20, S122_23, S122_24, S122_27, S122_30, S122_31, S122_32, S122_35, S122_36, S122_37, S122_40, S122_41, S122_44, S122_45, S122_46, S122_49, S122_50, S122_51, S122_54, S122_55, S122_56, S122_59, S122_60, S122_61, S122_64, S122_65, S122_68, S122_69, S122_72, S122_73, S122_76, S122_79, S122_80, S122_81, S122_82, S122_85, S122_86, S122_87, S122_88, S122_89, S122_90, S122_91, S122_94, S122_96, S122_97, S122_98, S122_99, S122_102, S122_103, S122_104, S122_107, S122_108, S122_109, S122_110, S122_111, S122_112, S122_113, S122_114, isB_0]
    exact k0 _ (pnt_4 c) h2 f2 fl2
  rw [if_neg c]
  simp only [S122_0, S122_1, S122_4, S122_5, S122_6, S122_7, S122_8, S122_10, S122_13, S122_14, S122_15, S122_18, S122_19, S122_20, S122_23, S122_24, S122_27, S122_30, S122_31, S122_32, S122_35, S122_36, S122_37, S122_40, S122_41, S122_44, S122_45, S122_46, S122_49, S122_50, S122_51, S122_54, S122_55, S122_56, S122_59, S122_60, S122_61, S122_64, S122_65, S122_68, S122_69, S122_72, S122_73, S122_76, S122_79, S122_80, S122_81, S122_82, S122_85, S122_86, S122_87, S122_88, S122_89, S122_90, S122_91, S122_94, S122_96, S122_97, S122_98, S122_99, S122_102, S122_103, S122_104, S122_107, S122_108, S122_109, S122_110, S122_111, S122_112, S122_113, S122_114, shp_93, RV_93_1, RV_93_13, RV_93_14, RV_93_15, RV_93_16, RV_93_17, RV_93_18, RV_93_19, RV_93_20, RV_93_23, RV_93_24, RV_93_27, RV_93_28, RV_93_29]
  refine m_goT (d := d + 1) hr (hO.2.2.1 (Or.inl ht)) (hc.2.2.2.2.2 (Or.inl ht)) (fun h1 f1 T1 o1 => ?_)
  have hR1 := mRow_r f1 hR
  have g1 : h1.1 93 11 = nI l := by rw [mrs_11 (mrs_r f1)]; exact h11
  have e1 : h1.1 96 0 = nI (rP r) := by rw [hR1.1 0 (by decide)]; exact hV.1.1
  simp only [kV_at, S122_0, S122_1, S122_4, S122_5, S122_6, S122_7, S122_8, S122_10, S122_13, S122_14, S122_15, S122_18, S122_19, S122_20, S122_23, S122_24, S122_27, S122_31, S122_32, S122_35, S122_37, S122_40, S122_41, S122_44, S122_45, S122_46, S122_49, S122_50, S122_51, S122_54, S122_55, S122_56, S122_59, S122_60, S122_61, S122_64, S122_65, S122_68, S122_69, S122_72, S122_73, S122_76, S122_79, S122_80, S122_81, S122_82, S122_85, S122_86, S122_87, S122_88, S122_89, S122_90, S122_91, S122_94, S122_96, S122_97, S122_98, S122_99, S122_102, S122_103, S122_104, S122_107, S122_108, S122_109, S122_110, S122_111, S122_112, S122_113, S122_114, shp_93, RV_93_1, RV_93_13, RV_93_14, RV_93_15, RV_93_16, RV_93_17, RV_93_18, RV_93_19, RV_93_20, RV_93_23, RV_93_24, RV_93_27, RV_93_28, RV_93_29, m_isName T1.2 o1, kR_at]
  by_cases c1 : ¬ nmS (tk b n t.2.2.1)
  · rw [if_pos (pb_0.mpr c1)]
    simp only [S122_0, S122_1, S122_4, S122_5, S122_6, S122_7, S122_8, S122_10, S122_13, S122_14, S122_15, S122_18, S122_19, S122_20, S122_23, S122_24, S122_27, S122_30, S122_31, S122_32, S122_35, S122_36, S122_37, S122_40, S122_41, S122_44, S122_45, S122_46, S122_49, S122_50, S122_51, S122_54, S122_55, S122_56, S122_59, S122_60, S122_61, S122_64, S122_65, S122_68, S122_69, S122_72, S122_73, S122_76, S122_79, S122_80, S122_81, S122_82, S122_85, S122_86, S122_87, S122_88, S122_89, S122_90, S122_91, S122_94, S122_96, S122_97, S122_98, S122_99, S122_102, S122_103, S122_104, S122_107, S122_108, S122_109, S122_110, S122_111, S122_112, S122_113, S122_114, shp_93, RV_93_1, RV_93_13, RV_93_14, RV_93_15, RV_93_16, RV_93_17, RV_93_18, RV_93_19, RV_93_20, RV_93_23, RV_93_24, RV_93_27, RV_93_28, RV_93_29]
    refine m_badT (k := 1) T1.2 o1 g1 (Or.inl rfl) (fun h2 f2 fl2 => ?_)
    simp only [kR_at, S122_0, S122_1, S122_4, S122_5, S122_6, S122_7, S122_8, S122_10, S122_13, S122_14, S122_15, S122_18, S122_19, S122_20, S122_23, S122_24, S122_27, S122_30, S122_31, S122_32, S122_35, S122_36, S122_37, S122_40, S122_41, S122_44, S122_45, S122_46, S122_49, S122_50, S122_51, S122_54, S122_55, S122_56, S122_59, S122_60, S122_61, S122_64, S122_65, S122_68, S122_69, S122_72, S122_73, S122_76, S122_79, S122_80, S122_81, S122_82, S122_85, S122_86, S122_87, S122_88, S122_89, S122_90, S122_91, S122_94, S122_96, S122_97, S122_98, S122_99, S122_102, S122_103, S122_104, S122_107, S122_108, S122_109, S122_110, S122_111, S122_112, S122_113, S122_114, isB_0]
    exact k0 _ (pnt_1 c c1) h2 (frmF_tr (mrs_r f1) f2) fl2
  have c1 := Classical.not_not.mp c1
  rw [if_neg (fun z => pb_0.mp z c1)]
  simp only [S122_0, S122_1, S122_4, S122_5, S122_6, S122_7, S122_8, S122_10, S122_13, S122_14, S122_15, S122_18, S122_19, S122_20, S122_23, S122_24, S122_27, S122_30, S122_31, S122_32, S122_35, S122_36, S122_37, S122_40, S122_41, S122_45, S122_46, S122_49, S122_51, S122_54, S122_55, S122_56, S122_59, S122_60, S122_61, S122_64, S122_65, S122_68, S122_69, S122_72, S122_73, S122_76, S122_79, S122_80, S122_81, S122_82, S122_85, S122_86, S122_87, S122_88, S122_89, S122_90, S122_91, S122_94, S122_96, S122_97, S122_98, S122_99, S122_102, S122_103, S122_104, S122_107, S122_108, S122_109, S122_110, S122_111, S122_112, S122_113, S122_114, shp_93, RV_93_1, RV_93_13, RV_93_14, RV_93_15, RV_93_16, RV_93_17, RV_93_18, RV_93_19, RV_93_20, RV_93_23, RV_93_24, RV_93_27, RV_93_28, RV_93_29, m_named h6 hR1.2 (T1.2.2.2.1 c1.1) e1, kR_at]
  by_cases c2 : ¬ nmF nm (iL (tk b n t.2.2.1).2.2.2) (rP r) = -1
  · rw [if_neg c2]
    simp only [S122_0, S122_1, S122_4, S122_5, S122_6, S122_7, S122_8, S122_10, S122_13, S122_14, S122_15, S122_18, S122_19, S122_20, S122_23, S122_24, S122_27, S122_30, S122_31, S122_32, S122_35, S122_36, S122_37, S122_40, S122_41, S122_44, S122_45, S122_46, S122_49, S122_50, S122_51, S122_54, S122_55, S122_56, S122_59, S122_60, S122_61, S122_64, S122_65, S122_68, S122_69, S122_72, S122_73, S122_76, S122_79, S122_80, S122_81, S122_82, S122_85, S122_86, S122_87, S122_88, S122_89, S122_90, S122_91, S122_94, S122_96, S122_97, S122_98, S122_99, S122_102, S122_103, S122_104, S122_107, S122_108, S122_109, S122_110, S122_111, S122_112, S122_113, S122_114, shp_93, RV_93_1, RV_93_13, RV_93_14, RV_93_15, RV_93_16, RV_93_17, RV_93_18, RV_93_19, RV_93_20, RV_93_23, RV_93_24, RV_93_27, RV_93_28, RV_93_29]
    refine m_badT (k := 3) T1.2 o1 g1 (Or.inr (by have := c1.1; omega)) (fun h2 f2 fl2 => ?_)
    simp only [kR_at, S122_0, S122_1, S122_4, S122_5, S122_6, S122_7, S122_8, S122_10, S122_13, S122_14, S122_15, S122_18, S122_19, S122_20, S122_23, S122_24, S122_27, S122_30, S122_31, S122_32, S122_35, S122_36, S122_37, S122_40, S122_41, S122_44, S122_45, S122_46, S122_49, S122_50, S122_51, S122_54, S122_55, S122_56, S122_59, S122_60, S122_61, S122_64, S122_65, S122_68, S122_69, S122_72, S122_73, S122_76, S122_79, S122_80, S122_81, S122_82, S122_85, S122_86, S122_87, S122_88, S122_89, S122_90, S122_91, S122_94, S122_96, S122_97, S122_98, S122_99, S122_102, S122_103, S122_104, S122_107, S122_108, S122_109, S122_110, S122_111, S122_112, S122_113, S122_114, isB_0]
    exact k0 _ (pnt_3 c c1 c2) h2 (frmF_tr (mrs_r f1) f2) fl2
  have c2 := Classical.not_not.mp c2
  rw [if_pos c2]
  simp only [S122_0, S122_1, S122_4, S122_5, S122_6, S122_7, S122_8, S122_10, S122_13, S122_14, S122_15, S122_18, S122_19, S122_20, S122_23, S122_24, S122_27, S122_30, S122_31, S122_32, S122_35, S122_36, S122_37, S122_40, S122_41, S122_44, S122_45, S122_46, S122_49, S122_50, S122_51, S122_54, S122_55, S122_56, S122_59, S122_60, S122_61, S122_64, S122_65, S122_68, S122_69, S122_72, S122_73, S122_76, S122_79, S122_80, S122_81, S122_82, S122_85, S122_86, S122_87, S122_88, S122_89, S122_90, S122_91, S122_94, S122_96, S122_97, S122_98, S122_99, S122_102, S122_103, S122_104, S122_107, S122_108, S122_109, S122_110, S122_111, S122_112, S122_113, S122_114, shp_93, RV_93_1, RV_93_13, RV_93_14, RV_93_15, RV_93_16, RV_93_17, RV_93_18, RV_93_19, RV_93_20, RV_93_23, RV_93_24, RV_93_27, RV_93_28, RV_93_29, ok101 (show rP r < 6 by omega), nI_cl (show rP r < 2147483648 by omega), T1.2.2.2.1 c1.1]
  have F2 : frmF MSs h (setL h1 101 (rP r) (iL (tk b n t.2.2.1).2.2.2)) := frmF_tr (mss_r f1) (frmF_L (Or.inr (Or.inr rfl)))
  have m2 : ∀ j, j < rP r + 1 → (setL h1 101 (rP r) (iL (tk b n t.2.2.1).2.2.2)).2.1 101 j = updN nm (rP r) (iL (tk b n t.2.2.1).2.2.2) j := fun j hj => by
    rw [setL_rd]
    unfold updN
    by_cases e : j = rP r
    · rw [if_pos ⟨rfl, e⟩, if_pos e]
    · rw [if_neg (fun z => e z.2), if_neg e]; exact hR1.2 j (by omega)
  refine m_goT (d := d + 1) (rdM_mr (mrs_s F2) hr) (o1.2.2.1 (Or.inl c1.1)) (T1.2.2.2.2.2 (Or.inl c1.1)) (fun h3 f3 T3 o3 => ?_)
  have F3 : frmF MSs h h3 := frmF_tr F2 (mss_r f3)
  have q3 : eq69 (h3.1 96) r := fun j hj => by rw [(f3.1 96 j (by unfold RMs; omega)).1]; exact hR1.1 j hj
  have m3 : ∀ j, j < rP r + 1 → h3.2.1 101 j = updN nm (rP r) (iL (tk b n t.2.2.1).2.2.2) j := fun j hj => by rw [(f3.1 101 j (by unfold RMs; omega)).2]; exact m2 j hj
  have mk := mk_all (tk b n (tk b n t.2.2.1).2.2.1).1 (by have := o3.2.2.2.2; omega)
  simp only [kV_at, S122_0, S122_1, S122_4, S122_5, S122_6, S122_7, S122_8, S122_10, S122_13, S122_14, S122_15, S122_18, S122_19, S122_20, S122_23, S122_24, S122_27, S122_30, S122_31, S122_32, S122_35, S122_36, S122_37, S122_40, S122_41, S122_44, S122_45, S122_46, S122_49, S122_50, S122_51, S122_54, S122_55, S122_56, S122_59, S122_60, S122_61, S122_64, S122_65, S122_68, S122_69, S122_73, S122_76, S122_79, S122_80, S122_81, S122_82, S122_85, S122_86, S122_87, S122_88, S122_89, S122_90, S122_91, S122_94, S122_96, S122_97, S122_98, S122_99, S122_102, S122_104, S122_107, S122_108, S122_109, S122_110, S122_111, S122_112, S122_113, S122_114, shp_93, RV_93_1, RV_93_13, RV_93_14, RV_93_15, RV_93_16, RV_93_17, RV_93_18, RV_93_19, RV_93_20, RV_93_23, RV_93_24, RV_93_27, RV_93_28, RV_93_29, T3.2.1, mk.2.2.2.2]
  by_cases c3 : (tk b n (tk b n t.2.2.1).2.2.1).1 = 3
  · rw [if_pos c3]
    have e3 : h3.1 96 0 = nI (rP r) := by rw [q3 0 (by decide)]; exact hV.1.1
    simp only [S122_0, S122_1, S122_4, S122_5, S122_6, S122_7, S122_8, S122_10, S122_13, S122_14, S122_15, S122_18, S122_19, S122_20, S122_23, S122_24, S122_27, S122_30, S122_31, S122_32, S122_35, S122_36, S122_37, S122_40, S122_41, S122_44, S122_45, S122_46, S122_49, S122_50, S122_51, S122_54, S122_55, S122_56, S122_59, S122_60, S122_61, S122_64, S122_65, S122_68, S122_69, S122_72, S122_73, S122_76, S122_79, S122_80, S122_81, S122_82, S122_85, S122_86, S122_87, S122_88, S122_89, S122_90, S122_91, S122_94, S122_96, S122_97, S122_98, S122_99, S122_102, S122_103, S122_104, S122_107, S122_108, S122_109, S122_110, S122_111, S122_112, S122_113, S122_114, shp_93, RV_93_1, RV_93_13, RV_93_14, RV_93_15, RV_93_16, RV_93_17, RV_93_18, RV_93_19, RV_93_20, RV_93_23, RV_93_24, RV_93_27, RV_93_28, RV_93_29, ok96_0, cl_0, e3, nI_add1, isB_1]
    refine k1 (tk b n (tk b n t.2.2.1).2.2.1) (ptR r none) (updN nm (rP r) (iL (tk b n t.2.2.1).2.2.2)) ((pnt_s c c1 c2 c3).trans (endS_y c3).symm) o3 _ (frmF_tr F3 (frmF_I (Or.inr (Or.inl rfl)))) ⟨rdM_mr (frmF_I (Or.inr (Or.inl rfl))) T3.1, ?_⟩ ⟨?_, fun j hj => ?_⟩
    · have T := T3.2
      exact ⟨by rw [setI_1 (by decide)]; exact T.1, by rw [setI_1 (by decide)]; exact T.2.1, T.2.2.1, fun z => by rw [setI_1 (by decide)]; exact T.2.2.2.1 z, fun z => by rw [setI_1 (by decide)]; exact T.2.2.2.2 z⟩
    · rw [setI_s]; exact eq69_upd q3
    · rw [(pt_all hV hz (by omega) (o := none) (fun u z => by cases z)).2.1] at hj
      exact m3 j hj
  rw [if_neg c3]
  simp only [S122_0, S122_1, S122_4, S122_5, S122_6, S122_7, S122_8, S122_10, S122_13, S122_14, S122_15, S122_18, S122_19, S122_20, S122_23, S122_24, S122_27, S122_30, S122_31, S122_32, S122_35, S122_36, S122_37, S122_40, S122_41, S122_44, S122_45, S122_46, S122_49, S122_50, S122_51, S122_54, S122_55, S122_56, S122_59, S122_60, S122_61, S122_64, S122_65, S122_68, S122_69, S122_72, S122_73, S122_76, S122_79, S122_80, S122_82, S122_85, S122_86, S122_87, S122_88, S122_89, S122_90, S122_91, S122_94, S122_96, S122_97, S122_98, S122_99, S122_102, S122_103, S122_104, S122_107, S122_108, S122_109, S122_110, S122_111, S122_112, S122_113, S122_114, shp_93, RV_93_1, RV_93_13, RV_93_14, RV_93_15, RV_93_16, RV_93_17, RV_93_18, RV_93_19, RV_93_20, RV_93_23, RV_93_24, RV_93_27, RV_93_28, RV_93_29]
  refine m_readHeight (d := d) T3 o3 (by rw [mrs_11 (mrs_s F3)]; exact h11) (fun F e h4 f4 fl4 => ?_) (fun q e h4 f4 T4 o4 g22 => ?_)
  · simp only [kR_at, S122_0, S122_1, S122_4, S122_5, S122_6, S122_7, S122_8, S122_10, S122_13, S122_14, S122_15, S122_18, S122_19, S122_20, S122_23, S122_24, S122_27, S122_30, S122_31, S122_32, S122_35, S122_36, S122_37, S122_40, S122_41, S122_44, S122_45, S122_46, S122_49, S122_50, S122_51, S122_54, S122_55, S122_56, S122_59, S122_60, S122_61, S122_64, S122_65, S122_68, S122_69, S122_72, S122_73, S122_76, S122_79, S122_80, S122_82, S122_85, S122_86, S122_87, S122_88, S122_89, S122_90, S122_91, S122_94, S122_96, S122_97, S122_98, S122_99, S122_102, S122_103, S122_104, S122_107, S122_108, S122_109, S122_110, S122_111, S122_112, S122_113, S122_114, isB_0, ↓reduceIte]
    exact k0 _ (pnt_h c c1 c2 c3 e) h4 (frmF_tr (mrs_s F3) f4) fl4
  · have hb := hgt_b o3 hn e
    have q4 : eq69 (h4.1 96) r := fun j hj => by rw [(f4.1 96 j (by unfold RMs; omega)).1]; exact q3 j hj
    have m4 : ∀ j, j < rP r + 1 → h4.2.1 101 j = updN nm (rP r) (iL (tk b n t.2.2.1).2.2.2) j := fun j hj => by rw [(f4.1 101 j (by unfold RMs; omega)).2]; exact m3 j hj
    have g22' : ∀ u, (setI h4 96 (2 + rP r) u).1 93 22 = Int32.ofInt q.2 := fun u => by rw [setI_1 (by decide)]; exact g22
    have e4 : ∀ u v, (setI (setI h4 96 (2 + rP r) u) 96 (8 + rP r) v).1 96 0 = nI (rP r) := fun u v => by
      rw [setI_rd, if_neg (by omega), setI_rd, if_neg (by omega), q4 0 (by decide)]; exact hV.1.1
    simp only [kR_at, S122_0, S122_1, S122_4, S122_5, S122_6, S122_7, S122_8, S122_10, S122_13, S122_14, S122_15, S122_18, S122_19, S122_20, S122_23, S122_24, S122_27, S122_30, S122_31, S122_32, S122_35, S122_36, S122_37, S122_40, S122_41, S122_44, S122_45, S122_46, S122_49, S122_50, S122_51, S122_54, S122_55, S122_56, S122_59, S122_60, S122_61, S122_64, S122_65, S122_68, S122_69, S122_72, S122_73, S122_76, S122_79, S122_80, S122_81, S122_82, S122_85, S122_86, S122_87, S122_88, S122_89, S122_90, S122_91, S122_94, S122_96, S122_97, S122_98, S122_99, S122_102, S122_103, S122_104, S122_107, S122_108, S122_109, S122_110, S122_111, S122_112, S122_113, S122_114, shp_93, RV_93_1, RV_93_13, RV_93_14, RV_93_15, RV_93_16, RV_93_17, RV_93_18, RV_93_19, RV_93_20, RV_93_23, RV_93_24, RV_93_27, RV_93_28, RV_93_29, i10, if_false, la_2, la_8, ok96 (show 2 + rP r < 69 by omega), ok96 (show 8 + rP r < 69 by omega), nI_cl (show 2 + rP r < 2147483648 by omega), nI_cl (show 8 + rP r < 2147483648 by omega), g22', ok96_0, cl_0, e4, nI_add1, isB_1]
    have F5 : frmF MSs h4 (setI (setI (setI h4 96 (2 + rP r) 1) 96 (8 + rP r) (Int32.ofInt q.2)) 96 0 (nI (rP r + 1))) := frmF_tr (frmF_I (Or.inr (Or.inl rfl))) (frmF_tr (frmF_I (Or.inr (Or.inl rfl))) (frmF_I (Or.inr (Or.inl rfl))))
    refine k1 (tk b n q.1) (ptR r (some q.2)) (updN nm (rP r) (iL (tk b n t.2.2.1).2.2.2)) (pnt_y c c1 c2 c3 e) o4 _ (frmF_tr F3 (frmF_tr (mss_h f4) F5)) ⟨rdM_mr (mrs_s F5) T4.1, ?_⟩ ⟨?_, fun j hj => ?_⟩
    · have T := T4.2
      have l : ∀ (g : Hp) (k : Nat) (x : Int32), (setI g 96 k x).1 93 = g.1 93 := fun g k x => setI_1 (by decide)
      refine ⟨?_, ?_, T.2.2.1, fun z => ?_, fun z => ?_⟩
      · rw [l, l, l]; exact T.1
      · rw [l, l, l]; exact T.2.1
      · rw [l, l, l]; exact T.2.2.2.1 z
      · rw [l, l, l]; exact T.2.2.2.2 z
    · rw [setI_s, setI_s, setI_s]; exact eq69_upd (eq69_upd (eq69_upd q4))
    · rw [(pt_all hV hz (by omega) (o := some q.2) (fun u z => by cases z; exact hb.2)).2.1] at hj
      exact m4 j hj
end
