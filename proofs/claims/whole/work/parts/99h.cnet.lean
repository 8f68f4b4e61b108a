/-! The class reads rows, and a net. -/
noncomputable def rowR (b : Nat → Nat) (n : Nat) (r : RowT) (nm : NmT) (t : TK) : Sum Fl (Nat × RowT × NmT) := if t.1 = 1 ∧ t.2.2.2 = PW then pntR b n r nm t else if t.1 = 1 ∧ t.2.2.2 = LW then linR b n r nm t else Sum.inl (1, t.2.1)
noncomputable def netR (b : Nat → Nat) (n : Nat) : Nat → Nat → RowT → NmT → Nat → Sum (Fl × Nat) (Nat × RowT)
  | 0, _, r, _, k => Sum.inr (k, r)
  | f + 1, p, r, nm, k => if (tk b n p).1 = 0 then Sum.inr (k, r) else match rowR b n r nm (tk b n p) with
    | Sum.inl F => Sum.inl (F, k)
    | Sum.inr q => netR b n f q.1 q.2.1 q.2.2 (k + 1)
def CNs (a j : Nat) : Prop := CRs a j ∨ a = 4 ∨ (27 ≤ a ∧ a ≤ 32)
def cRow (r : RowT) (nm : NmT) (h : Hp) : Prop := CN h 27 r ∧ ∀ j, j < rP r → h.2.1 4 j = nm j
section
variable {d : Nat} {h h' : Hp} {Q : Option (Option Value) → Hp → Prop} {x y z w : Int32} {k l p q n m P B f : Nat} {b : Nat → Nat} {t : TK} {nm : NmT} {v : Int} {r : RowT}
theorem pnt_4 (c : 6 ≤ rP r) : pntR b n r nm t = Sum.inl (4, t.2.1) := if_pos c
theorem pnt_1 (c : ¬ 6 ≤ rP r) (c1 : ¬ nmS (tk b n t.2.2.1)) : pntR b n r nm t = Sum.inl (1, (tk b n t.2.2.1).2.1) := by
  unfold pntR; rw [if_neg c, @if_neg _ (Classical.propDecidable _) c1]
theorem pnt_3 (c : ¬ 6 ≤ rP r) (c1 : nmS (tk b n t.2.2.1)) (c2 : ¬ nmF nm (iL (tk b n t.2.2.1).2.2.2) (rP r) = -1) : pntR b n r nm t = Sum.inl (3, (tk b n t.2.2.1).2.1) := by
  unfold pntR; rw [if_neg c, @if_pos _ (Classical.propDecidable _) c1, if_neg c2]
theorem pnt_s (c : ¬ 6 ≤ rP r) (c1 : nmS (tk b n t.2.2.1)) (c2 : nmF nm (iL (tk b n t.2.2.1).2.2.2) (rP r) = -1) (c3 : (tk b n (tk b n t.2.2.1).2.2.1).1 = 3) : pntR b n r nm t = Sum.inr ((tk b n (tk b n t.2.2.1).2.2.1).2.2.1, ptR r none, updN nm (rP r) (iL (tk b n t.2.2.1).2.2.2)) := by
  unfold pntR; rw [if_neg c, @if_pos _ (Classical.propDecidable _) c1, if_pos c2, if_pos c3]
  unfold endS; rw [if_pos c3]
theorem pnt_h (c : ¬ 6 ≤ rP r) (c1 : nmS (tk b n t.2.2.1)) (c2 : nmF nm (iL (tk b n t.2.2.1).2.2.2) (rP r) = -1) (c3 : ¬ (tk b n (tk b n t.2.2.1).2.2.1).1 = 3) {F : Fl} (e : hgtS b n (tk b n (tk b n t.2.2.1).2.2.1) = Sum.inl F) : pntR b n r nm t = Sum.inl F := by
  unfold pntR; rw [if_neg c, @if_pos _ (Classical.propDecidable _) c1, if_pos c2, if_neg c3, e]
theorem pnt_y (c : ¬ 6 ≤ rP r) (c1 : nmS (tk b n t.2.2.1)) (c2 : nmF nm (iL (tk b n t.2.2.1).2.2.2) (rP r) = -1) (c3 : ¬ (tk b n (tk b n t.2.2.1).2.2.1).1 = 3) {q : Nat × Int} (e : hgtS b n (tk b n (tk b n t.2.2.1).2.2.1) = Sum.inr q) : pntR b n r nm t = endS (tk b n q.1) (ptR r (some q.2)) (updN nm (rP r) (iL (tk b n t.2.2.1).2.2.2)) := by
  unfold pntR; rw [if_neg c, @if_pos _ (Classical.propDecidable _) c1, if_pos c2, if_neg c3, e]
theorem lin_4 (c : 11 ≤ rL r) : linR b n r nm t = Sum.inl (4, t.2.1) := if_pos c
theorem lin_1 (c : ¬ 11 ≤ rL r) (c1 : ¬ nmS (tk b n t.2.2.1)) : linR b n r nm t = Sum.inl (1, (tk b n t.2.2.1).2.1) := by
  unfold linR; rw [if_neg c, @if_neg _ (Classical.propDecidable _) c1]
theorem lin_3 (c : ¬ 11 ≤ rL r) (c1 : nmS (tk b n t.2.2.1)) (c2 : nmF nm (iL (tk b n t.2.2.1).2.2.2) (rP r) = -1) : linR b n r nm t = Sum.inl (3, (tk b n t.2.2.1).2.1) := by
  unfold linR; rw [if_neg c, @if_pos _ (Classical.propDecidable _) c1, if_pos c2]
theorem lin_2 (c : ¬ 11 ≤ rL r) (c1 : nmS (tk b n t.2.2.1)) (c2 : ¬ nmF nm (iL (tk b n t.2.2.1).2.2.2) (rP r) = -1) : linR b n r nm t = linS2 b n r nm (nmF nm (iL (tk b n t.2.2.1).2.2.2) (rP r)) (tk b n (tk b n t.2.2.1).2.2.1) := by
  unfold linR; rw [if_neg c, @if_pos _ (Classical.propDecidable _) c1, if_neg c2]
theorem l2_1 (c1 : ¬ nmS t) : linS2 b n r nm x t = Sum.inl (1, t.2.1) := by
  unfold linS2; rw [@if_neg _ (Classical.propDecidable _) c1]
theorem l2_3 (c1 : nmS t) (c2 : nmF nm (iL t.2.2.2) (rP r) = -1 ∨ nmF nm (iL t.2.2.2) (rP r) = x) : linS2 b n r nm x t = Sum.inl (3, t.2.1) := by
  unfold linS2; rw [@if_pos _ (Classical.propDecidable _) c1, if_pos c2]
theorem l2_h (c1 : nmS t) (c2 : ¬ (nmF nm (iL t.2.2.2) (rP r) = -1 ∨ nmF nm (iL t.2.2.2) (rP r) = x)) {F : Fl} (e : hgtS b n (tk b n t.2.2.1) = Sum.inl F) : linS2 b n r nm x t = Sum.inl F := by
  unfold linS2; rw [@if_pos _ (Classical.propDecidable _) c1, if_neg c2, e]
theorem l2_y (c1 : nmS t) (c2 : ¬ (nmF nm (iL t.2.2.2) (rP r) = -1 ∨ nmF nm (iL t.2.2.2) (rP r) = x)) {q : Nat × Int} (e : hgtS b n (tk b n t.2.2.1) = Sum.inr q) : linS2 b n r nm x t = linE b n r nm x (nmF nm (iL t.2.2.2) (rP r)) q.2 (tk b n q.1) := by
  unfold linS2; rw [@if_pos _ (Classical.propDecidable _) c1, if_neg c2, e]
theorem le_1 (c : ¬ t.1 = 2) : linE b n r nm x y v t = Sum.inl (1, t.2.1) := if_neg c
theorem le_2 (c : t.1 = 2) (c2 : ¬ (1 ≤ t.2.2.2 ∧ t.2.2.2 ≤ 4)) : linE b n r nm x y v t = Sum.inl (2, t.2.1) := by
  unfold linE; rw [if_pos c, if_neg c2]
theorem le_y (c : t.1 = 2) (c2 : 1 ≤ t.2.2.2 ∧ t.2.2.2 ≤ 4) : linE b n r nm x y v t = endS (tk b n t.2.2.1) (layR (rL r) r x y (Int32.ofInt v) (Int32.ofInt t.2.2.2)) nm := by
  unfold linE; rw [if_pos c, if_pos c2]
theorem endS_y {r2 : RowT} (c : t.1 = 3) : endS t r2 nm = Sum.inr (t.2.2.1, r2, nm) := if_pos c
theorem endS_n {r2 : RowT} (c : ¬ t.1 = 3) : endS t r2 nm = Sum.inl (1, t.2.1) := if_neg c
/-! what a row read holds -/
def rowOK (n : Nat) (r : RowT) (q : Nat × RowT × NmT) : Prop := q.1 ≤ n ∧ VR q.2.1 ∧ rZ q.2.1 ∧ rP q.2.1 + rL q.2.1 = rP r + rL r + 1
theorem endS_ok {r2 : RowT} {q : Nat × RowT × NmT} (hO : tkOK n t) (hV : VR r2) (hz : rZ r2) (hc : rP r2 + rL r2 = rP r + rL r + 1) (e : endS t r2 nm = Sum.inr q) : rowOK n r q := by
  by_cases c : t.1 = 3
  · rw [endS_y c] at e; cases e
    exact ⟨hO.2.2.1 (Or.inr (Or.inr c)), hV, hz, hc⟩
  · rw [endS_n c] at e; cases e
theorem pnt_ok (hn : n ≤ 540) (hV : VR r) (hz : rZ r) (hO : tkOK n t) (ht : t.1 = 1) {q : Nat × RowT × NmT} (e : pntR b n r nm t = Sum.inr q) : rowOK n r q := by
  by_cases c : 6 ≤ rP r
  · rw [pnt_4 c] at e; cases e
  have o1 := tk_ok (b := b) (hO.2.2.1 (Or.inl ht)) hn
  by_cases c1 : nmS (tk b n t.2.2.1)
  · by_cases c2 : nmF nm (iL (tk b n t.2.2.1).2.2.2) (rP r) = -1
    · have o2 := tk_ok (b := b) (o1.2.2.1 (Or.inl c1.1)) hn
      by_cases c3 : (tk b n (tk b n t.2.2.1).2.2.1).1 = 3
      · rw [pnt_s c c1 c2 c3] at e; cases e
        obtain ⟨a1, a2, a3, a4⟩ := pt_all hV hz (by omega) (o := none) (fun u z => by cases z)
        exact ⟨o2.2.2.1 (Or.inr (Or.inr c3)), a1, a4, by show rP (ptR r none) + rL (ptR r none) = _; omega⟩
      · cases hh : hgtS b n (tk b n (tk b n t.2.2.1).2.2.1) with
        | inl F => rw [pnt_h c c1 c2 c3 hh] at e; cases e
        | inr q2 =>
          rw [pnt_y c c1 c2 c3 hh] at e
          have hb := hgt_b o2 hn hh
          obtain ⟨a1, a2, a3, a4⟩ := pt_all hV hz (by omega) (o := some q2.2) (fun u z => by cases z; exact hb.2)
          exact endS_ok (tk_ok hb.1 hn) a1 a4 (by omega) e
    · rw [pnt_3 c c1 c2] at e; cases e
  · rw [pnt_1 c c1] at e; cases e
theorem layOK (hV : VR r) (hz : rZ r) (hl : rL r < 11) (hx : x = nI p) (hp : p < rP r) (hy : y = nI q) (hq : q < rP r) (hpq : p ≠ q) (hh : inH z) (hw : inW w) : VR (layR (rL r) r x y z w) ∧ rZ (layR (rL r) r x y z w) ∧ rP (layR (rL r) r x y z w) = rP r ∧ rL (layR (rL r) r x y z w) = rL r + 1 := by
  refine ⟨VR_lay hV rfl hl hx hp hy hq hpq hh hw, fun i h1 h2 => ?_, lay_P, lay_L hl⟩
  rw [lay_P] at h1
  rw [lay_o (by omega) (by omega) (by omega) (by omega) (by omega) (by omega), lay_o (by omega) (by omega) (by omega) (by omega) (by omega) (by omega)]
  exact hz i h1 h2
theorem nm_ne (hP : rP r ≤ 6) {u1 u2 : Int64} (c : ¬ nmF nm u1 (rP r) = -1) (c2 : ¬ (nmF nm u2 (rP r) = -1 ∨ nmF nm u2 (rP r) = nmF nm u1 (rP r))) : ∃ p q, p < rP r ∧ q < rP r ∧ p ≠ q ∧ nmF nm u1 (rP r) = nI p ∧ nmF nm u2 (rP r) = nI q := by
  rcases nmF_or (nm := nm) (v := u1) (P := rP r) with e | ⟨p, h1, h2⟩
  · exact absurd e c
  · rcases nmF_or (nm := nm) (v := u2) (P := rP r) with e | ⟨q, h3, h4⟩
    · exact absurd (Or.inl e) c2
    · refine ⟨p, q, h1, h3, fun z => c2 (Or.inr ?_), h2, h4⟩
      rw [h2, h4, z]
theorem lin_ok (hn : n ≤ 540) (hV : VR r) (hz : rZ r) (hO : tkOK n t) (ht : t.1 = 1) {q : Nat × RowT × NmT} (e : linR b n r nm t = Sum.inr q) : rowOK n r q := by
  by_cases c : 11 ≤ rL r
  · rw [lin_4 c] at e; cases e
  have o1 := tk_ok (b := b) (hO.2.2.1 (Or.inl ht)) hn
  by_cases c1 : nmS (tk b n t.2.2.1)
  · by_cases c2 : nmF nm (iL (tk b n t.2.2.1).2.2.2) (rP r) = -1
    · rw [lin_3 c c1 c2] at e; cases e
    · have o2 := tk_ok (b := b) (o1.2.2.1 (Or.inl c1.1)) hn
      rw [lin_2 c c1 c2] at e
      generalize hf1 : nmF nm (iL (tk b n t.2.2.1).2.2.2) (rP r) = f1 at *
      by_cases c3 : nmS (tk b n (tk b n t.2.2.1).2.2.1)
      · by_cases c4 : nmF nm (iL (tk b n (tk b n t.2.2.1).2.2.1).2.2.2) (rP r) = -1 ∨ nmF nm (iL (tk b n (tk b n t.2.2.1).2.2.1).2.2.2) (rP r) = f1
        · rw [l2_3 c3 c4] at e; cases e
        · have o3 := tk_ok (b := b) (o2.2.2.1 (Or.inl c3.1)) hn
          cases hh : hgtS b n (tk b n (tk b n (tk b n t.2.2.1).2.2.1).2.2.1) with
          | inl F => rw [l2_h c3 c4 hh] at e; cases e
          | inr q2 =>
            rw [l2_y c3 c4 hh] at e
            have hb := hgt_b o3 hn hh
            have o5 := tk_ok (b := b) hb.1 hn
            by_cases c5 : (tk b n q2.1).1 = 2
            · by_cases c6 : 1 ≤ (tk b n q2.1).2.2.2 ∧ (tk b n q2.1).2.2.2 ≤ 4
              · rw [le_y c5 c6] at e
                rw [← hf1] at c2 c4
                obtain ⟨p1, p2, a1, a2, a3, a4, a5⟩ := nm_ne hV.1.2 c2 c4
                rw [hf1] at a4
                have w5 := o5.2.1 c5
                obtain ⟨b1, b2, b3, b4⟩ := layOK hV hz (by omega) a4 a1 a5 a2 a3 (inH_of hb.2.1 hb.2.2) ((inW_of w5.1 w5.2).mpr c6)
                exact endS_ok (tk_ok (o5.2.2.1 (Or.inr (Or.inl c5))) hn) b1 b2 (by omega) e
              · rw [le_2 c5 c6] at e; cases e
            · rw [le_1 c5] at e; cases e
      · rw [l2_1 c3] at e; cases e
  · rw [lin_1 c c1] at e; cases e
theorem row_ok (hn : n ≤ 540) (hV : VR r) (hz : rZ r) (hO : tkOK n t) {q : Nat × RowT × NmT} (e : rowR b n r nm t = Sum.inr q) : rowOK n r q := by
  unfold rowR at e
  by_cases c1 : t.1 = 1 ∧ t.2.2.2 = PW
  · rw [if_pos c1] at e; exact pnt_ok hn hV hz hO c1.1 e
  · rw [if_neg c1] at e
    by_cases c2 : t.1 = 1 ∧ t.2.2.2 = LW
    · rw [if_pos c2] at e; exact lin_ok hn hV hz hO c2.1 e
    · rw [if_neg c2] at e; cases e
theorem tk_05 : ((tk b n p).1 = 0 → n ≤ 500) ∧ ((tk b n p).1 = 5 → 500 < n) := by
  unfold tk tkQ
  generalize skq b n p = q
  by_cases c1 : 500 < n ∧ 500 ≤ q
  · rw [if_pos c1]; exact ⟨fun z => absurd z (by decide), fun _ => c1.1⟩
  rw [if_neg c1]
  by_cases c2 : n ≤ q
  · rw [if_pos c2]; exact ⟨fun _ => by omega, fun z => absurd z (by simp)⟩
  rw [if_neg c2]
  by_cases c3 : b q = 59
  · rw [if_pos c3]; exact ⟨fun z => absurd z (by simp), fun z => absurd z (by simp)⟩
  rw [if_neg c3]
  unfold tkE
  generalize exE b n q = e
  by_cases c4 : e.2.2.1 = 0 ∧ 1 ≤ e.2.1 ∧ e.2.1 ≤ 7
  · rw [if_pos c4]; exact ⟨fun z => absurd z (by simp), fun z => absurd z (by simp)⟩
  rw [if_neg c4]
  by_cases c5 : e.2.1 = 0 ∧ 1 ≤ e.2.2.1 ∧ e.2.2.1 ≤ 2
  · rw [if_pos c5]; exact ⟨fun z => absurd z (by simp), fun z => absurd z (by simp)⟩
  rw [if_neg c5]
  exact ⟨fun z => absurd z (by simp), fun z => absurd z (by simp)⟩
/-! readsPoint, readsLine -/
theorem frCN (hf : frmF CRs h h') : frmF CNs h h' := ⟨fun a j hq => hf.1 a j (fun z => hq (Or.inl z)), hf.2⟩
theorem cRow_cr (hf : frmF CRs h h') (hR : cRow r nm h) : cRow r nm h' := ⟨CN_fF hf (fun a j z1 z2 z3 => by unfold CRs at z3; omega) hR.1, fun j hj => by rw [(hf.1 4 j (by unfold CRs; omega)).2]; exact hR.2 j hj⟩
theorem c_readsPoint (hc : cT b n t h) (hO : tkOK n t) (ht : t.1 = 1) (hV : VR r) (hz : rZ r) (hR : cRow r nm h) (k0 : ∀ F, pntR b n r nm t = Sum.inl F → ∀ h' : Hp, frmF CNs h h' → flC F h' → Q (some (some (.int 0))) h') (k1 : ∀ q, pntR b n r nm t = Sum.inr q → ∀ h' : Hp, frmF CNs h h' → h'.1 3 6 = nI q.1 → cRow q.2.1 q.2.2 h' → Q (some (some (.int 1))) h') : WP (d + 4) 31 0 [some (.ref 3), some (.ref 27), none] [] h Q := by
  have hr := hc.1
  have hn := hr.1
  have hN := hR.1
  have h0 : h.1 27 0 = nI (rP r) := by rw [hN.1]; exact hV.1.1
  have lt6' : nI (rP r) < 6 ↔ ¬ 6 ≤ rP r := by rw [show (6 : Int32) = nI 6 by decide, nI_ltI (by have := hV.1.2; omega) (by omega)]; omega
  have h6 := hV.1.2
  simp only [S31_0, S31_1, S31_4, S31_5, S31_6, S31_8, S31_12, S31_13, S31_16, S31_18, S31_21, S31_22, S31_25, S31_28, S31_29, S31_30, S31_33, S31_34, S31_35, S31_36, S31_39, S31_40, S31_43, S31_44, S31_45, S31_48, S31_49, S31_50, S31_53, S31_54, S31_55, S31_58, S31_59, S31_60, S31_63, S31_64, S31_67, S31_68, S31_71, S31_72, S31_73, S31_74, S31_77, S31_78, S31_79, S31_80, S31_83, S31_86, S31_87, S31_90, S31_93, S31_94, S31_95, S31_96, S31_97, S31_98, S31_101, S31_104, S31_105, shp_3, RV_3_0, RV_3_1, shp_27, RV_27_2, RV_27_5, RV_27_6, RV_27_7, RV_27_8, h0, lt6', kl_ref]
  by_cases c : 6 ≤ rP r
  · rw [if_neg (fun z => z c)]
    simp only [S31_0, S31_1, S31_4, S31_5, S31_6, S31_8, S31_11, S31_12, S31_13, S31_16, S31_17, S31_18, S31_21, S31_22, S31_25, S31_28, S31_29, S31_30, S31_33, S31_34, S31_35, S31_36, S31_39, S31_40, S31_43, S31_44, S31_45, S31_48, S31_49, S31_50, S31_53, S31_54, S31_55, S31_58, S31_59, S31_60, S31_63, S31_64, S31_67, S31_68, S31_71, S31_72, S31_73, S31_74, S31_77, S31_78, S31_79, S31_80, S31_83, S31_86, S31_87, S31_90, S31_93, S31_94, S31_95, S31_96, S31_97, S31_98, S31_101, S31_104, S31_105, shp_3, RV_3_0, RV_3_1, shp_27, RV_27_2, RV_27_5, RV_27_6, RV_27_7, RV_27_8, c_fails hc.2.2, kR_at, isB_0]
    exact k0 _ (pnt_4 c) _ (frCN (fl_set frmF_rf)) fl_at
  rw [if_pos c]
  simp only [S31_0, S31_1, S31_4, S31_5, S31_6, S31_8, S31_11, S31_12, S31_13, S31_16, S31_17, S31_18, S31_21, S31_22, S31_25, S31_28, S31_29, S31_30, S31_33, S31_34, S31_35, S31_36, S31_39, S31_40, S31_43, S31_44, S31_45, S31_48, S31_49, S31_50, S31_53, S31_54, S31_55, S31_58, S31_59, S31_60, S31_63, S31_64, S31_67, S31_68, S31_71, S31_72, S31_73, S31_74, S31_77, S31_78, S31_79, S31_80, S31_83, S31_86, S31_87, S31_90, S31_93, S31_94, S31_95, S31_96, S31_97, S31_98, S31_101, S31_104, S31_105, shp_3, RV_3_0, RV_3_1, shp_27, RV_27_2, RV_27_5, RV_27_6, RV_27_7, RV_27_8]
  refine c_stepT (d := d + 1) hr hc.2.1 (hO.2.2.1 (Or.inl ht)) (hc.2.2.2.2.2 (Or.inl ht)) (fun h1 f1 T1 o1 => ?_)
  have hR1 := cRow_cr f1 hR
  simp only [kV_at, S31_0, S31_1, S31_4, S31_5, S31_6, S31_8, S31_11, S31_12, S31_13, S31_16, S31_17, S31_18, S31_21, S31_22, S31_25, S31_29, S31_30, S31_33, S31_35, S31_36, S31_39, S31_40, S31_43, S31_44, S31_45, S31_48, S31_49, S31_50, S31_53, S31_54, S31_55, S31_58, S31_59, S31_60, S31_63, S31_64, S31_67, S31_68, S31_71, S31_72, S31_73, S31_74, S31_77, S31_78, S31_79, S31_80, S31_83, S31_86, S31_87, S31_90, S31_93, S31_94, S31_95, S31_96, S31_97, S31_98, S31_101, S31_104, S31_105, shp_3, RV_3_0, RV_3_1, shp_27, RV_27_2, RV_27_5, RV_27_6, RV_27_7, RV_27_8, c_isName T1.2.2 o1 T1.2.1, kR_at]
  by_cases c1 : ¬ nmS (tk b n t.2.2.1)
  · rw [if_pos (pb_0.mpr c1)]
    simp only [S31_0, S31_1, S31_4, S31_5, S31_6, S31_8, S31_11, S31_12, S31_13, S31_16, S31_17, S31_18, S31_21, S31_22, S31_25, S31_28, S31_29, S31_30, S31_33, S31_34, S31_35, S31_36, S31_39, S31_40, S31_43, S31_44, S31_45, S31_48, S31_49, S31_50, S31_53, S31_54, S31_55, S31_58, S31_59, S31_60, S31_63, S31_64, S31_67, S31_68, S31_71, S31_72, S31_73, S31_74, S31_77, S31_78, S31_79, S31_80, S31_83, S31_86, S31_87, S31_90, S31_93, S31_94, S31_95, S31_96, S31_97, S31_98, S31_101, S31_104, S31_105, shp_3, RV_3_0, RV_3_1, shp_27, RV_27_2, RV_27_5, RV_27_6, RV_27_7, RV_27_8, c_fails T1.2.2, kR_at, isB_0]
    exact k0 _ (pnt_1 c c1) _ (frCN (fl_set f1)) fl_at
  have c1 := Classical.not_not.mp c1
  rw [if_neg (fun z => pb_0.mp z c1)]
  simp only [S31_0, S31_1, S31_4, S31_5, S31_6, S31_8, S31_11, S31_12, S31_13, S31_16, S31_17, S31_18, S31_21, S31_22, S31_25, S31_28, S31_29, S31_30, S31_33, S31_34, S31_35, S31_36, S31_39, S31_40, S31_44, S31_45, S31_48, S31_50, S31_53, S31_54, S31_55, S31_58, S31_59, S31_60, S31_63, S31_64, S31_67, S31_68, S31_71, S31_72, S31_73, S31_74, S31_77, S31_78, S31_79, S31_80, S31_83, S31_86, S31_87, S31_90, S31_93, S31_94, S31_95, S31_96, S31_97, S31_98, S31_101, S31_104, S31_105, shp_3, RV_3_0, RV_3_1, shp_27, RV_27_2, RV_27_5, RV_27_6, RV_27_7, RV_27_8, c_named h6 hR1.2 (T1.2.2.2.2.1 (Or.inl c1.1)), kR_at]
  by_cases c2 : ¬ nmF nm (iL (tk b n t.2.2.1).2.2.2) (rP r) = -1
  · rw [if_neg c2]
    simp only [S31_0, S31_1, S31_4, S31_5, S31_6, S31_8, S31_11, S31_12, S31_13, S31_16, S31_17, S31_18, S31_21, S31_22, S31_25, S31_28, S31_29, S31_30, S31_33, S31_34, S31_35, S31_36, S31_39, S31_40, S31_43, S31_44, S31_45, S31_48, S31_49, S31_50, S31_53, S31_54, S31_55, S31_58, S31_59, S31_60, S31_63, S31_64, S31_67, S31_68, S31_71, S31_72, S31_73, S31_74, S31_77, S31_78, S31_79, S31_80, S31_83, S31_86, S31_87, S31_90, S31_93, S31_94, S31_95, S31_96, S31_97, S31_98, S31_101, S31_104, S31_105, shp_3, RV_3_0, RV_3_1, shp_27, RV_27_2, RV_27_5, RV_27_6, RV_27_7, RV_27_8, c_fails T1.2.2, kR_at, isB_0]
    exact k0 _ (pnt_3 c c1 c2) _ (frCN (fl_set f1)) fl_at
  have c2 := Classical.not_not.mp c2
  rw [if_pos c2]
  simp only [S31_0, S31_1, S31_4, S31_5, S31_6, S31_8, S31_11, S31_12, S31_13, S31_16, S31_17, S31_18, S31_21, S31_22, S31_25, S31_28, S31_29, S31_30, S31_33, S31_34, S31_35, S31_36, S31_39, S31_40, S31_43, S31_44, S31_45, S31_48, S31_49, S31_50, S31_53, S31_54, S31_55, S31_58, S31_59, S31_60, S31_63, S31_64, S31_67, S31_68, S31_71, S31_72, S31_73, S31_74, S31_77, S31_78, S31_79, S31_80, S31_83, S31_86, S31_87, S31_90, S31_93, S31_94, S31_95, S31_96, S31_97, S31_98, S31_101, S31_104, S31_105, shp_3, RV_3_0, RV_3_1, shp_27, RV_27_2, RV_27_5, RV_27_6, RV_27_7, RV_27_8, ok4 (show rP r < 6 by omega), nI_cl (show rP r < 2147483648 by omega), T1.2.2.2.2.1 (Or.inl c1.1)]
  have F2 : frmF CNs h (setL h1 4 (rP r) (iL (tk b n t.2.2.1).2.2.2)) := frmF_tr (frCN f1) (frmF_L (Or.inr (Or.inl rfl)))
  have r2 : rdC b n (setL h1 4 (rP r) (iL (tk b n t.2.2.1).2.2.2)) := rdC_fS (S := fun a _ => a = 4) (frmF_L rfl) (fun j => ⟨by decide, by decide⟩) T1.1
  have j2 : jR (setL h1 4 (rP r) (iL (tk b n t.2.2.1).2.2.2)) := jR_fr (S := fun a _ => a = 4) (frmF_L rfl) (fun j _ _ => by decide) T1.2.1
  have n2 : CN (setL h1 4 (rP r) (iL (tk b n t.2.2.1).2.2.2)) 27 r := CN_fF (S := fun a _ => a = 4) (frmF_L rfl) (fun a j z1 z2 z3 => by omega) hR1.1
  have m2 : ∀ j, j < rP r + 1 → (setL h1 4 (rP r) (iL (tk b n t.2.2.1).2.2.2)).2.1 4 j = updN nm (rP r) (iL (tk b n t.2.2.1).2.2.2) j := fun j hj => by
    rw [setL_rd]
    unfold updN
    by_cases e : j = rP r
    · rw [if_pos ⟨rfl, e⟩, if_pos e]
    · rw [if_neg (fun z => e z.2), if_neg e]; exact hR1.2 j (by omega)
  refine c_stepT (d := d + 1) r2 j2 (o1.2.2.1 (Or.inl c1.1)) (T1.2.2.2.2.2 (Or.inl c1.1)) (fun h3 f3 T3 o3 => ?_)
  have n3 : CN h3 27 r := CN_fF f3 (fun a j z1 z2 z3 => by unfold CRs at z3; omega) n2
  have m3 : ∀ j, j < rP r + 1 → h3.2.1 4 j = updN nm (rP r) (iL (tk b n t.2.2.1).2.2.2) j := fun j hj => by rw [(f3.1 4 j (by unfold CRs; omega)).2]; exact m2 j hj
  have F3 : frmF CNs h h3 := frmF_tr F2 (frCN f3)
  have ck := ck_all (tk b n (tk b n t.2.2.1).2.2.1).1 (by have := o3.2.2.2.2; omega)
  simp only [kV_at, S31_0, S31_1, S31_4, S31_5, S31_6, S31_8, S31_11, S31_12, S31_13, S31_16, S31_17, S31_18, S31_21, S31_22, S31_25, S31_28, S31_29, S31_30, S31_33, S31_34, S31_35, S31_36, S31_39, S31_40, S31_43, S31_44, S31_45, S31_48, S31_49, S31_50, S31_53, S31_54, S31_55, S31_58, S31_59, S31_60, S31_63, S31_64, S31_67, S31_68, S31_72, S31_73, S31_74, S31_77, S31_78, S31_80, S31_83, S31_86, S31_87, S31_90, S31_93, S31_94, S31_95, S31_96, S31_97, S31_98, S31_101, S31_104, S31_105, shp_3, RV_3_0, RV_3_1, shp_27, RV_27_2, RV_27_5, RV_27_6, RV_27_7, RV_27_8, T3.2.2.1, ck.2.2.2]
  by_cases c3 : (tk b n (tk b n t.2.2.1).2.2.1).1 = 3
  · rw [if_pos c3]
    simp only [S31_0, S31_1, S31_4, S31_5, S31_6, S31_8, S31_11, S31_12, S31_13, S31_16, S31_17, S31_18, S31_21, S31_22, S31_25, S31_28, S31_29, S31_30, S31_33, S31_34, S31_35, S31_36, S31_39, S31_40, S31_43, S31_44, S31_45, S31_48, S31_49, S31_50, S31_53, S31_54, S31_55, S31_58, S31_59, S31_60, S31_63, S31_64, S31_67, S31_68, S31_71, S31_72, S31_73, S31_74, S31_77, S31_78, S31_79, S31_80, S31_83, S31_86, S31_87, S31_90, S31_93, S31_94, S31_95, S31_96, S31_97, S31_98, S31_101, S31_104, S31_105, shp_3, RV_3_0, RV_3_1, shp_27, RV_27_2, RV_27_5, RV_27_6, RV_27_7, RV_27_8]
    refine c_putPoint (B := 27) (o := none) (NO_nid (k := 1) (by omega)) hV hz (by omega) (fun u z => by cases z) n3 rfl rfl (fun h4 f4 n4 => ?_)
    simp only [kV_at, S31_0, S31_1, S31_4, S31_5, S31_6, S31_8, S31_11, S31_12, S31_13, S31_16, S31_17, S31_18, S31_21, S31_22, S31_25, S31_28, S31_29, S31_30, S31_33, S31_34, S31_35, S31_36, S31_39, S31_40, S31_43, S31_44, S31_45, S31_48, S31_49, S31_50, S31_53, S31_54, S31_55, S31_58, S31_59, S31_60, S31_63, S31_64, S31_67, S31_68, S31_71, S31_72, S31_73, S31_74, S31_77, S31_78, S31_79, S31_80, S31_83, S31_86, S31_87, S31_90, S31_93, S31_94, S31_95, S31_96, S31_97, S31_98, S31_101, S31_104, S31_105, isB_1]
    refine k1 _ (pnt_s c c1 c2 c3) h4 (frmF_tr F3 (frmF_frm (fun a j z => Or.inr (Or.inr (by omega))) f4)) ?_ ⟨n4, fun j hj => ?_⟩
    · rw [(f4.1 3 (by omega)).1]; exact T3.2.2.2.2.2 (Or.inr (Or.inr c3))
    · rw [(pt_all hV hz (by omega) (o := none) (fun u z => by cases z)).2.1] at hj
      rw [(f4.1 4 (by omega)).2]; exact m3 j hj
  rw [if_neg c3]
  simp only [S31_0, S31_1, S31_4, S31_5, S31_6, S31_8, S31_11, S31_12, S31_13, S31_16, S31_17, S31_18, S31_21, S31_22, S31_25, S31_28, S31_29, S31_30, S31_33, S31_34, S31_35, S31_36, S31_39, S31_40, S31_43, S31_44, S31_45, S31_48, S31_49, S31_50, S31_53, S31_54, S31_55, S31_58, S31_59, S31_60, S31_63, S31_64, S31_67, S31_68, S31_71, S31_72, S31_73, S31_74, S31_77, S31_78, S31_79, S31_80, S31_83, S31_86, S31_87, S31_90, S31_93, S31_94, S31_95, S31_96, S31_97, S31_98, S31_101, S31_104, S31_105, shp_3, RV_3_0, RV_3_1, shp_27, RV_27_2, RV_27_5, RV_27_6, RV_27_7, RV_27_8]
  refine c_readsHeight (d := d) T3 o3 (fun F e h4 f4 fl4 => ?_) (fun q e h4 f4 g6 g10 => ?_)
  · simp only [kR_at, S31_0, S31_1, S31_4, S31_5, S31_6, S31_8, S31_11, S31_12, S31_13, S31_16, S31_17, S31_18, S31_21, S31_22, S31_25, S31_28, S31_29, S31_30, S31_33, S31_34, S31_35, S31_36, S31_39, S31_40, S31_43, S31_44, S31_45, S31_48, S31_49, S31_50, S31_53, S31_54, S31_55, S31_58, S31_59, S31_60, S31_63, S31_64, S31_67, S31_68, S31_71, S31_72, S31_73, S31_74, S31_77, S31_78, S31_79, S31_80, S31_83, S31_86, S31_87, S31_90, S31_93, S31_94, S31_95, S31_96, S31_97, S31_98, S31_101, S31_104, S31_105, isB_0, ↓reduceIte]
    exact k0 _ (pnt_h c c1 c2 c3 e) h4 (frmF_tr F3 (frCN f4)) fl4
  · have hb := hgt_b o3 hn e
    simp only [kR_at, S31_0, S31_1, S31_4, S31_5, S31_6, S31_8, S31_11, S31_12, S31_13, S31_16, S31_17, S31_18, S31_21, S31_22, S31_25, S31_28, S31_29, S31_30, S31_33, S31_34, S31_35, S31_36, S31_39, S31_40, S31_43, S31_44, S31_45, S31_48, S31_49, S31_50, S31_53, S31_54, S31_55, S31_58, S31_59, S31_60, S31_63, S31_64, S31_67, S31_68, S31_71, S31_72, S31_73, S31_74, S31_77, S31_78, S31_79, S31_80, S31_83, S31_86, S31_87, S31_90, S31_93, S31_94, S31_95, S31_96, S31_97, S31_98, S31_101, S31_104, S31_105, shp_3, RV_3_0, RV_3_1, shp_27, RV_27_2, RV_27_5, RV_27_6, RV_27_7, RV_27_8, i10, if_false]
    refine c_readsSemicolon (d := d) (rdC_cr f4 T3.1) (jR_cr f4 T3.2.1) hb.1 g6 (fun c4 h5 f5 fl5 => ?_) (fun c4 h5 f5 w6 w10 => ?_)
    · simp only [kR_at, S31_0, S31_1, S31_4, S31_5, S31_6, S31_8, S31_11, S31_12, S31_13, S31_16, S31_17, S31_18, S31_21, S31_22, S31_25, S31_28, S31_29, S31_30, S31_33, S31_34, S31_35, S31_36, S31_39, S31_40, S31_43, S31_44, S31_45, S31_48, S31_49, S31_50, S31_53, S31_54, S31_55, S31_58, S31_59, S31_60, S31_63, S31_64, S31_67, S31_68, S31_71, S31_72, S31_73, S31_74, S31_77, S31_78, S31_79, S31_80, S31_83, S31_86, S31_87, S31_90, S31_93, S31_94, S31_95, S31_96, S31_97, S31_98, S31_101, S31_104, S31_105, isB_0, ↓reduceIte]
      refine k0 _ ?_ h5 (frmF_tr F3 (frmF_tr (frCN f4) (frCN f5))) fl5
      rw [pnt_y c c1 c2 c3 e, endS_n c4]
    · have n5 : CN h5 27 r := CN_fF f5 (fun a j z1 z2 z3 => by unfold CRs at z3; omega) (CN_fF f4 (fun a j z1 z2 z3 => by unfold CRs at z3; omega) n3)
      have m5 : ∀ j, j < rP r + 1 → h5.2.1 4 j = updN nm (rP r) (iL (tk b n t.2.2.1).2.2.2) j := fun j hj => by rw [(f5.1 4 j (by unfold CRs; omega)).2, (f4.1 4 j (by unfold CRs; omega)).2]; exact m3 j hj
      rw [g10] at w10
      simp only [kR_at, S31_0, S31_1, S31_4, S31_5, S31_6, S31_8, S31_11, S31_12, S31_13, S31_16, S31_17, S31_18, S31_21, S31_22, S31_25, S31_28, S31_29, S31_30, S31_33, S31_34, S31_35, S31_36, S31_39, S31_40, S31_43, S31_44, S31_45, S31_48, S31_49, S31_50, S31_53, S31_54, S31_55, S31_58, S31_59, S31_60, S31_63, S31_64, S31_67, S31_68, S31_71, S31_72, S31_73, S31_74, S31_77, S31_78, S31_79, S31_80, S31_83, S31_86, S31_87, S31_90, S31_93, S31_94, S31_95, S31_96, S31_97, S31_98, S31_101, S31_104, S31_105, shp_3, RV_3_0, RV_3_1, shp_27, RV_27_2, RV_27_5, RV_27_6, RV_27_7, RV_27_8, i10, if_false, w10]
      refine c_putPoint (B := 27) (o := some q.2) (NO_nid (k := 1) (by omega)) hV hz (by omega) (fun u z => by cases z; exact hb.2) n5 rfl rfl (fun h6 f6 n6 => ?_)
      simp only [kV_at, S31_0, S31_1, S31_4, S31_5, S31_6, S31_8, S31_11, S31_12, S31_13, S31_16, S31_17, S31_18, S31_21, S31_22, S31_25, S31_28, S31_29, S31_30, S31_33, S31_34, S31_35, S31_36, S31_39, S31_40, S31_43, S31_44, S31_45, S31_48, S31_49, S31_50, S31_53, S31_54, S31_55, S31_58, S31_59, S31_60, S31_63, S31_64, S31_67, S31_68, S31_71, S31_72, S31_73, S31_74, S31_77, S31_78, S31_79, S31_80, S31_83, S31_86, S31_87, S31_90, S31_93, S31_94, S31_95, S31_96, S31_97, S31_98, S31_101, S31_104, S31_105, isB_1]
      refine k1 _ (by rw [pnt_y c c1 c2 c3 e, endS_y c4]) h6 (frmF_tr F3 (frmF_tr (frCN f4) (frmF_tr (frCN f5) (frmF_frm (fun a j z => Or.inr (Or.inr (by omega))) f6)))) ?_ ⟨n6, fun j hj => ?_⟩
      · rw [(f6.1 3 (by omega)).1]; exact w6
      · have hj : j < rP (ptR r (some q.2)) := hj
        rw [(pt_all hV hz (by omega) (o := some q.2) (fun u z => by cases z; exact hb.2)).2.1] at hj
        rw [(f6.1 4 (by omega)).2]; exact m5 j hj
theorem c_readsLine (hc : cT b n t h) (hO : tkOK n t) (ht : t.1 = 1) (hV : VR r) (hz : rZ r) (hR : cRow r nm h) (k0 : ∀ F, linR b n r nm t = Sum.inl F → ∀ h' : Hp, frmF CNs h h' → flC F h' → Q (some (some (.int 0))) h') (k1 : ∀ q, linR b n r nm t = Sum.inr q → ∀ h' : Hp, frmF CNs h h' → h'.1 3 6 = nI q.1 → cRow q.2.1 q.2.2 h' → Q (some (some (.int 1))) h') : WP (d + 4) 32 0 [some (.ref 3), some (.ref 27), none, none, none] [] h Q := by
  have hr := hc.1
  have hn := hr.1
  have hN := hR.1
  have h3 : h.1 27 3 = nI (rL r) := by rw [hN.2.2.1]; exact hV.2.1.1
  have h11 := hV.2.1.2
  have h6 := hV.1.2
  have lt11' : nI (rL r) < 11 ↔ ¬ 11 ≤ rL r := by rw [show (11 : Int32) = nI 11 by decide, nI_ltI (by omega) (by omega)]; omega
  simp only [S32_0, S32_1, S32_4, S32_6, S32_10, S32_11, S32_14, S32_16, S32_19, S32_20, S32_21, S32_24, S32_27, S32_28, S32_29, S32_30, S32_33, S32_34, S32_35, S32_36, S32_39, S32_40, S32_41, S32_44, S32_47, S32_48, S32_49, S32_50, S32_53, S32_54, S32_55, S32_56, S32_57, S32_60, S32_61, S32_62, S32_65, S32_66, S32_67, S32_70, S32_71, S32_74, S32_77, S32_78, S32_79, S32_80, S32_83, S32_84, S32_87, S32_88, S32_91, S32_92, S32_93, S32_96, S32_97, S32_98, S32_101, S32_102, S32_104, S32_106, S32_109, S32_112, S32_113, S32_114, S32_117, S32_118, S32_119, S32_122, S32_125, S32_126, S32_127, S32_128, S32_129, S32_130, S32_131, S32_134, S32_136, S32_139, S32_140, S32_141, shp_3, RV_3_0, RV_3_1, shp_27, RV_27_2, RV_27_5, RV_27_6, RV_27_7, RV_27_8, h3, lt11']
  by_cases c : 11 ≤ rL r
  · rw [if_neg (fun z => z c)]
    simp only [S32_0, S32_1, S32_4, S32_6, S32_9, S32_10, S32_11, S32_14, S32_15, S32_16, S32_19, S32_20, S32_21, S32_24, S32_27, S32_28, S32_29, S32_30, S32_33, S32_34, S32_35, S32_36, S32_39, S32_40, S32_41, S32_44, S32_47, S32_48, S32_49, S32_50, S32_53, S32_54, S32_55, S32_56, S32_57, S32_60, S32_61, S32_62, S32_65, S32_66, S32_67, S32_70, S32_71, S32_74, S32_77, S32_78, S32_79, S32_80, S32_83, S32_84, S32_87, S32_88, S32_91, S32_92, S32_93, S32_96, S32_97, S32_98, S32_101, S32_102, S32_104, S32_106, S32_109, S32_112, S32_113, S32_114, S32_117, S32_118, S32_119, S32_122, S32_125, S32_126, S32_127, S32_128, S32_129, S32_130, S32_131, S32_134, S32_136, S32_139, S32_140, S32_141, shp_3, RV_3_0, RV_3_1, shp_27, RV_27_2, RV_27_5, RV_27_6, RV_27_7, RV_27_8, c_fails hc.2.2, kR_at, isB_0]
    exact k0 _ (lin_4 c) _ (frCN (fl_set frmF_rf)) fl_at
  rw [if_pos c]
  simp only [S32_0, S32_1, S32_4, S32_6, S32_9, S32_10, S32_11, S32_14, S32_15, S32_16, S32_19, S32_20, S32_21, S32_24, S32_27, S32_28, S32_29, S32_30, S32_33, S32_34, S32_35, S32_36, S32_39, S32_40, S32_41, S32_44, S32_47, S32_48, S32_49, S32_50, S32_53, S32_54, S32_55, S32_56, S32_57, S32_60, S32_61, S32_62, S32_65, S32_66, S32_67, S32_70, S32_71, S32_74, S32_77, S32_78, S32_79, S32_80, S32_83, S32_84, S32_87, S32_88, S32_91, S32_92, S32_93, S32_96, S32_97, S32_98, S32_101, S32_102, S32_104, S32_106, S32_109, S32_112, S32_113, S32_114, S32_117, S32_118, S32_119, S32_122, S32_125, S32_126, S32_127, S32_128, S32_129, S32_130, S32_131, S32_134, S32_136, S32_139, S32_140, S32_141, shp_3, RV_3_0, RV_3_1, shp_27, RV_27_2, RV_27_5, RV_27_6, RV_27_7, RV_27_8]
  refine c_stepT (d := d + 1) hr hc.2.1 (hO.2.2.1 (Or.inl ht)) (hc.2.2.2.2.2 (Or.inl ht)) (fun h1 f1 T1 o1 => ?_)
  have hR1 := cRow_cr f1 hR
  have p1 : h1.1 27 0 = nI (rP r) := by rw [hR1.1.1]; exact hV.1.1
  simp only [kV_at, S32_0, S32_1, S32_4, S32_6, S32_9, S32_10, S32_11, S32_14, S32_15, S32_16, S32_19, S32_20, S32_21, S32_24, S32_27, S32_28, S32_29, S32_30, S32_33, S32_34, S32_35, S32_36, S32_39, S32_40, S32_41, S32_44, S32_47, S32_48, S32_49, S32_50, S32_53, S32_54, S32_55, S32_56, S32_57, S32_60, S32_61, S32_62, S32_65, S32_66, S32_67, S32_70, S32_71, S32_74, S32_77, S32_78, S32_79, S32_80, S32_83, S32_84, S32_87, S32_88, S32_91, S32_92, S32_93, S32_96, S32_97, S32_98, S32_101, S32_102, S32_104, S32_106, S32_109, S32_112, S32_113, S32_114, S32_117, S32_118, S32_119, S32_122, S32_125, S32_126, S32_127, S32_128, S32_129, S32_130, S32_131, S32_134, S32_136, S32_139, S32_140, S32_141, shp_3, RV_3_0, RV_3_1, shp_27, RV_27_2, RV_27_5, RV_27_6, RV_27_7, RV_27_8, p1]
  refine c_readsTold (d := d + 2) T1 o1 h6 hR1.2 (fun c1 h2 f2 fl2 => ?_) (fun c1 c2 h2 f2 fl2 => ?_) (fun c1 c2 => ?_)
  · simp only [kR_at, S32_0, S32_1, S32_4, S32_6, S32_9, S32_10, S32_11, S32_14, S32_15, S32_16, S32_19, S32_20, S32_21, S32_24, S32_27, S32_28, S32_29, S32_30, S32_33, S32_34, S32_35, S32_36, S32_39, S32_40, S32_41, S32_44, S32_47, S32_48, S32_49, S32_50, S32_53, S32_54, S32_55, S32_56, S32_57, S32_60, S32_61, S32_62, S32_65, S32_66, S32_67, S32_70, S32_71, S32_74, S32_77, S32_78, S32_79, S32_80, S32_83, S32_84, S32_87, S32_88, S32_91, S32_92, S32_93, S32_96, S32_97, S32_98, S32_101, S32_102, S32_104, S32_106, S32_109, S32_112, S32_113, S32_114, S32_117, S32_118, S32_119, S32_122, S32_125, S32_126, S32_127, S32_128, S32_129, S32_130, S32_131, S32_134, S32_136, S32_139, S32_140, S32_141, ↓reduceIte, isB_0]
    exact k0 _ (lin_1 c c1) h2 (frCN (frmF_tr f1 f2)) fl2
  · simp only [kR_at, S32_0, S32_1, S32_4, S32_6, S32_9, S32_10, S32_11, S32_14, S32_15, S32_16, S32_19, S32_20, S32_21, S32_24, S32_27, S32_28, S32_29, S32_30, S32_33, S32_34, S32_35, S32_36, S32_39, S32_40, S32_41, S32_44, S32_47, S32_48, S32_49, S32_50, S32_53, S32_54, S32_55, S32_56, S32_57, S32_60, S32_61, S32_62, S32_65, S32_66, S32_67, S32_70, S32_71, S32_74, S32_77, S32_78, S32_79, S32_80, S32_83, S32_84, S32_87, S32_88, S32_91, S32_92, S32_93, S32_96, S32_97, S32_98, S32_101, S32_102, S32_104, S32_106, S32_109, S32_112, S32_113, S32_114, S32_117, S32_118, S32_119, S32_122, S32_125, S32_126, S32_127, S32_128, S32_129, S32_130, S32_131, S32_134, S32_136, S32_139, S32_140, S32_141, ↓reduceIte, isB_0]
    exact k0 _ (lin_3 c c1 c2) h2 (frCN (frmF_tr f1 f2)) fl2
  have L2 := lin_2 (t := t) c c1 c2
  rw [L2] at k0 k1
  simp only [kR_at, S32_0, S32_1, S32_4, S32_6, S32_9, S32_10, S32_11, S32_14, S32_15, S32_16, S32_19, S32_20, S32_21, S32_24, S32_27, S32_28, S32_29, S32_30, S32_33, S32_34, S32_36, S32_39, S32_40, S32_41, S32_44, S32_47, S32_48, S32_49, S32_50, S32_53, S32_54, S32_55, S32_56, S32_57, S32_60, S32_61, S32_62, S32_65, S32_66, S32_67, S32_70, S32_71, S32_74, S32_77, S32_78, S32_79, S32_80, S32_83, S32_84, S32_87, S32_88, S32_91, S32_92, S32_93, S32_96, S32_97, S32_98, S32_101, S32_102, S32_104, S32_106, S32_109, S32_112, S32_113, S32_114, S32_117, S32_118, S32_119, S32_122, S32_125, S32_126, S32_127, S32_128, S32_129, S32_130, S32_131, S32_134, S32_136, S32_139, S32_140, S32_141, shp_3, RV_3_0, RV_3_1, shp_27, RV_27_2, RV_27_5, RV_27_6, RV_27_7, RV_27_8, if_neg c2, kl_ref]
  have c2' := c2
  generalize hf1 : nmF nm (iL (tk b n t.2.2.1).2.2.2) (rP r) = v1 at k0 k1 c2' ⊢
  simp only [S32_0, S32_1, S32_4, S32_6, S32_9, S32_10, S32_11, S32_14, S32_15, S32_16, S32_19, S32_20, S32_21, S32_24, S32_27, S32_28, S32_29, S32_30, S32_33, S32_34, S32_35, S32_36, S32_39, S32_40, S32_41, S32_44, S32_47, S32_48, S32_49, S32_50, S32_53, S32_54, S32_55, S32_56, S32_57, S32_60, S32_61, S32_62, S32_65, S32_66, S32_67, S32_70, S32_71, S32_74, S32_77, S32_78, S32_79, S32_80, S32_83, S32_84, S32_87, S32_88, S32_91, S32_92, S32_93, S32_96, S32_97, S32_98, S32_101, S32_102, S32_104, S32_106, S32_109, S32_112, S32_113, S32_114, S32_117, S32_118, S32_119, S32_122, S32_125, S32_126, S32_127, S32_128, S32_129, S32_130, S32_131, S32_134, S32_136, S32_139, S32_140, S32_141, shp_3, RV_3_0, RV_3_1, shp_27, RV_27_2, RV_27_5, RV_27_6, RV_27_7, RV_27_8]
  refine c_stepT (d := d + 1) T1.1 T1.2.1 (o1.2.2.1 (Or.inl c1.1)) (T1.2.2.2.2.2 (Or.inl c1.1)) (fun h2 f2 T2 o2 => ?_)
  have hR2 := cRow_cr f2 hR1
  have F2 := frmF_tr f1 f2
  have p2 : h2.1 27 0 = nI (rP r) := by rw [hR2.1.1]; exact hV.1.1
  generalize tk b n (tk b n t.2.2.1).2.2.1 = t2 at *
  simp only [kV_at, S32_0, S32_1, S32_4, S32_6, S32_9, S32_10, S32_11, S32_14, S32_15, S32_16, S32_19, S32_20, S32_21, S32_24, S32_27, S32_28, S32_29, S32_30, S32_33, S32_34, S32_35, S32_36, S32_39, S32_40, S32_41, S32_44, S32_47, S32_48, S32_49, S32_50, S32_53, S32_54, S32_55, S32_56, S32_57, S32_60, S32_61, S32_62, S32_65, S32_66, S32_67, S32_70, S32_71, S32_74, S32_77, S32_78, S32_79, S32_80, S32_83, S32_84, S32_87, S32_88, S32_91, S32_92, S32_93, S32_96, S32_97, S32_98, S32_101, S32_102, S32_104, S32_106, S32_109, S32_112, S32_113, S32_114, S32_117, S32_118, S32_119, S32_122, S32_125, S32_126, S32_127, S32_128, S32_129, S32_130, S32_131, S32_134, S32_136, S32_139, S32_140, S32_141, shp_3, RV_3_0, RV_3_1, shp_27, RV_27_2, RV_27_5, RV_27_6, RV_27_7, RV_27_8, p2]
  refine c_readsTold (d := d + 2) T2 o2 h6 hR2.2 (fun c3 h3 f3 fl3 => ?_) (fun c3 c4 h3 f3 fl3 => ?_) (fun c3 c4 => ?_)
  · simp only [kR_at, S32_0, S32_1, S32_4, S32_6, S32_9, S32_10, S32_11, S32_14, S32_15, S32_16, S32_19, S32_20, S32_21, S32_24, S32_27, S32_28, S32_29, S32_30, S32_33, S32_34, S32_35, S32_36, S32_39, S32_40, S32_41, S32_44, S32_47, S32_48, S32_49, S32_50, S32_53, S32_54, S32_55, S32_56, S32_57, S32_60, S32_61, S32_62, S32_65, S32_66, S32_67, S32_70, S32_71, S32_74, S32_77, S32_78, S32_79, S32_80, S32_83, S32_84, S32_87, S32_88, S32_91, S32_92, S32_93, S32_96, S32_97, S32_98, S32_101, S32_102, S32_104, S32_106, S32_109, S32_112, S32_113, S32_114, S32_117, S32_118, S32_119, S32_122, S32_125, S32_126, S32_127, S32_128, S32_129, S32_130, S32_131, S32_134, S32_136, S32_139, S32_140, S32_141, ↓reduceIte, isB_0]
    exact k0 _ (l2_1 c3) h3 (frCN (frmF_tr F2 f3)) fl3
  · simp only [kR_at, S32_0, S32_1, S32_4, S32_6, S32_9, S32_10, S32_11, S32_14, S32_15, S32_16, S32_19, S32_20, S32_21, S32_24, S32_27, S32_28, S32_29, S32_30, S32_33, S32_34, S32_35, S32_36, S32_39, S32_40, S32_41, S32_44, S32_47, S32_48, S32_49, S32_50, S32_53, S32_54, S32_55, S32_56, S32_57, S32_60, S32_61, S32_62, S32_65, S32_66, S32_67, S32_70, S32_71, S32_74, S32_77, S32_78, S32_79, S32_80, S32_83, S32_84, S32_87, S32_88, S32_91, S32_92, S32_93, S32_96, S32_97, S32_98, S32_101, S32_102, S32_104, S32_106, S32_109, S32_112, S32_113, S32_114, S32_117, S32_118, S32_119, S32_122, S32_125, S32_126, S32_127, S32_128, S32_129, S32_130, S32_131, S32_134, S32_136, S32_139, S32_140, S32_141, ↓reduceIte, isB_0]
    exact k0 _ (l2_3 c3 (Or.inl c4)) h3 (frCN (frmF_tr F2 f3)) fl3
  simp only [kR_at, S32_0, S32_1, S32_4, S32_6, S32_9, S32_10, S32_11, S32_14, S32_15, S32_16, S32_19, S32_20, S32_21, S32_24, S32_27, S32_28, S32_29, S32_30, S32_33, S32_34, S32_35, S32_36, S32_39, S32_40, S32_41, S32_44, S32_47, S32_48, S32_49, S32_50, S32_53, S32_54, S32_55, S32_56, S32_57, S32_61, S32_62, S32_65, S32_67, S32_70, S32_71, S32_74, S32_77, S32_78, S32_79, S32_80, S32_83, S32_84, S32_87, S32_88, S32_91, S32_92, S32_93, S32_96, S32_97, S32_98, S32_101, S32_102, S32_104, S32_106, S32_109, S32_112, S32_113, S32_114, S32_117, S32_118, S32_119, S32_122, S32_125, S32_126, S32_127, S32_128, S32_129, S32_130, S32_131, S32_134, S32_136, S32_139, S32_140, S32_141, shp_3, RV_3_0, RV_3_1, shp_27, RV_27_2, RV_27_5, RV_27_6, RV_27_7, RV_27_8, if_neg c4, kl_int]
  by_cases c5 : nmF nm (iL t2.2.2.2) (rP r) = v1
  · rw [if_pos c5]
    simp only [S32_0, S32_1, S32_4, S32_6, S32_9, S32_10, S32_11, S32_14, S32_15, S32_16, S32_19, S32_20, S32_21, S32_24, S32_27, S32_28, S32_29, S32_30, S32_33, S32_34, S32_35, S32_36, S32_39, S32_40, S32_41, S32_44, S32_47, S32_48, S32_49, S32_50, S32_53, S32_54, S32_55, S32_56, S32_57, S32_60, S32_61, S32_62, S32_65, S32_66, S32_67, S32_70, S32_71, S32_74, S32_77, S32_78, S32_79, S32_80, S32_83, S32_84, S32_87, S32_88, S32_91, S32_92, S32_93, S32_96, S32_97, S32_98, S32_101, S32_102, S32_104, S32_106, S32_109, S32_112, S32_113, S32_114, S32_117, S32_118, S32_119, S32_122, S32_125, S32_126, S32_127, S32_128, S32_129, S32_130, S32_131, S32_134, S32_136, S32_139, S32_140, S32_141, shp_3, RV_3_0, RV_3_1, shp_27, RV_27_2, RV_27_5, RV_27_6, RV_27_7, RV_27_8, c_fails T2.2.2, kR_at, isB_0]
    exact k0 _ (l2_3 c3 (Or.inr c5)) _ (frCN (fl_set F2)) fl_at
  rw [if_neg c5]
  have nc : ¬ (nmF nm (iL t2.2.2.2) (rP r) = -1 ∨ nmF nm (iL t2.2.2.2) (rP r) = v1) := fun z => by rcases z with z | z; exact c4 z; exact c5 z
  simp only [S32_0, S32_1, S32_4, S32_6, S32_9, S32_10, S32_11, S32_14, S32_15, S32_16, S32_19, S32_20, S32_21, S32_24, S32_27, S32_28, S32_29, S32_30, S32_33, S32_34, S32_35, S32_36, S32_39, S32_40, S32_41, S32_44, S32_47, S32_48, S32_49, S32_50, S32_53, S32_54, S32_55, S32_56, S32_57, S32_60, S32_61, S32_62, S32_65, S32_66, S32_67, S32_70, S32_71, S32_74, S32_77, S32_78, S32_79, S32_80, S32_83, S32_84, S32_87, S32_88, S32_91, S32_92, S32_93, S32_96, S32_97, S32_98, S32_101, S32_102, S32_104, S32_106, S32_109, S32_112, S32_113, S32_114, S32_117, S32_118, S32_119, S32_122, S32_125, S32_126, S32_127, S32_128, S32_129, S32_130, S32_131, S32_134, S32_136, S32_139, S32_140, S32_141, shp_3, RV_3_0, RV_3_1, shp_27, RV_27_2, RV_27_5, RV_27_6, RV_27_7, RV_27_8]
  refine c_stepT (d := d + 1) T2.1 T2.2.1 (o2.2.2.1 (Or.inl c3.1)) (T2.2.2.2.2.2 (Or.inl c3.1)) (fun h3 f3 T3 o3 => ?_)
  have hR3 := cRow_cr f3 hR2
  have F3 := frmF_tr F2 f3
  simp only [kV_at, S32_0, S32_1, S32_4, S32_6, S32_9, S32_10, S32_11, S32_14, S32_15, S32_16, S32_19, S32_20, S32_21, S32_24, S32_27, S32_28, S32_29, S32_30, S32_33, S32_34, S32_35, S32_36, S32_39, S32_40, S32_41, S32_44, S32_47, S32_48, S32_49, S32_50, S32_53, S32_54, S32_55, S32_56, S32_57, S32_60, S32_61, S32_62, S32_65, S32_66, S32_67, S32_70, S32_71, S32_74, S32_77, S32_78, S32_79, S32_80, S32_83, S32_84, S32_87, S32_88, S32_91, S32_92, S32_93, S32_96, S32_97, S32_98, S32_101, S32_102, S32_104, S32_106, S32_109, S32_112, S32_113, S32_114, S32_117, S32_118, S32_119, S32_122, S32_125, S32_126, S32_127, S32_128, S32_129, S32_130, S32_131, S32_134, S32_136, S32_139, S32_140, S32_141, shp_3, RV_3_0, RV_3_1, shp_27, RV_27_2, RV_27_5, RV_27_6, RV_27_7, RV_27_8]
  refine c_readsHeight (d := d) T3 o3 (fun F e h4 f4 fl4 => ?_) (fun q e h4 f4 g6 g10 => ?_)
  · simp only [kR_at, S32_0, S32_1, S32_4, S32_6, S32_9, S32_10, S32_11, S32_14, S32_15, S32_16, S32_19, S32_20, S32_21, S32_24, S32_27, S32_28, S32_29, S32_30, S32_33, S32_34, S32_35, S32_36, S32_39, S32_40, S32_41, S32_44, S32_47, S32_48, S32_49, S32_50, S32_53, S32_54, S32_55, S32_56, S32_57, S32_60, S32_61, S32_62, S32_65, S32_66, S32_67, S32_70, S32_71, S32_74, S32_77, S32_78, S32_79, S32_80, S32_83, S32_84, S32_87, S32_88, S32_91, S32_92, S32_93, S32_96, S32_97, S32_98, S32_101, S32_102, S32_104, S32_106, S32_109, S32_112, S32_113, S32_114, S32_117, S32_118, S32_119, S32_122, S32_125, S32_126, S32_127, S32_128, S32_129, S32_130, S32_131, S32_134, S32_136, S32_139, S32_140, S32_141, isB_0, ↓reduceIte]
    exact k0 _ (l2_h c3 nc e) h4 (frCN (frmF_tr F3 f4)) fl4
  have hb := hgt_b o3 hn e
  have hR4 := cRow_cr f4 hR3
  have F4 := frmF_tr F3 f4
  have E2 := l2_y (r := r) (nm := nm) c3 nc e
  rw [E2] at k0 k1
  simp only [kR_at, S32_0, S32_1, S32_4, S32_6, S32_9, S32_10, S32_11, S32_14, S32_15, S32_16, S32_19, S32_20, S32_21, S32_24, S32_27, S32_28, S32_29, S32_30, S32_33, S32_34, S32_35, S32_36, S32_39, S32_40, S32_41, S32_44, S32_47, S32_48, S32_49, S32_50, S32_53, S32_54, S32_55, S32_56, S32_57, S32_60, S32_61, S32_62, S32_65, S32_66, S32_67, S32_70, S32_71, S32_74, S32_77, S32_78, S32_79, S32_80, S32_83, S32_84, S32_87, S32_88, S32_91, S32_92, S32_93, S32_96, S32_97, S32_98, S32_101, S32_102, S32_104, S32_106, S32_109, S32_112, S32_113, S32_114, S32_117, S32_118, S32_119, S32_122, S32_125, S32_126, S32_127, S32_128, S32_129, S32_130, S32_131, S32_134, S32_136, S32_139, S32_140, S32_141, shp_3, RV_3_0, RV_3_1, shp_27, RV_27_2, RV_27_5, RV_27_6, RV_27_7, RV_27_8, i10, if_false]
  refine c_step (d := d + 1) (rdC_cr f4 T3.1) hb.1 g6 (fun h5 f5 t5 => ?_)
  have o5 := tk_ok (b := b) hb.1 hn
  have g10' : h5.1 3 10 = Int32.ofInt q.2 := by rw [(f5.1 3 10 (by unfold RCs; omega)).1]; exact g10
  have hR5 := cRow_cr (frCR f5) hR4
  have F5 := frmF_tr F4 (frCR f5)
  have R5 := rdC_fr f5 (rdC_cr f4 T3.1)
  have J5 := jR_cr (frCR f5) (jR_cr f4 T3.2.1)
  generalize tk b n q.1 = t5' at *
  have ck := ck_all t5'.1 (by have := o5.2.2.2.2; omega)
  simp only [kV_at, S32_0, S32_1, S32_4, S32_6, S32_9, S32_10, S32_11, S32_14, S32_15, S32_16, S32_19, S32_20, S32_21, S32_24, S32_27, S32_28, S32_29, S32_30, S32_33, S32_34, S32_35, S32_36, S32_39, S32_40, S32_41, S32_44, S32_47, S32_48, S32_49, S32_50, S32_53, S32_54, S32_55, S32_56, S32_57, S32_60, S32_61, S32_62, S32_65, S32_66, S32_67, S32_70, S32_71, S32_74, S32_77, S32_78, S32_79, S32_80, S32_83, S32_84, S32_87, S32_88, S32_92, S32_93, S32_96, S32_98, S32_101, S32_102, S32_104, S32_106, S32_109, S32_112, S32_113, S32_114, S32_117, S32_118, S32_119, S32_122, S32_125, S32_126, S32_127, S32_128, S32_129, S32_130, S32_131, S32_134, S32_136, S32_139, S32_140, S32_141, shp_3, RV_3_0, RV_3_1, shp_27, RV_27_2, RV_27_5, RV_27_6, RV_27_7, RV_27_8, t5.1, ck.2.2.1]
  by_cases c6 : ¬ t5'.1 = 2
  · rw [if_neg c6]
    simp only [S32_0, S32_1, S32_4, S32_6, S32_9, S32_10, S32_11, S32_14, S32_15, S32_16, S32_19, S32_20, S32_21, S32_24, S32_27, S32_28, S32_29, S32_30, S32_33, S32_34, S32_35, S32_36, S32_39, S32_40, S32_41, S32_44, S32_47, S32_48, S32_49, S32_50, S32_53, S32_54, S32_55, S32_56, S32_57, S32_60, S32_61, S32_62, S32_65, S32_66, S32_67, S32_70, S32_71, S32_74, S32_77, S32_78, S32_79, S32_80, S32_83, S32_84, S32_87, S32_88, S32_91, S32_92, S32_93, S32_96, S32_97, S32_98, S32_101, S32_102, S32_104, S32_106, S32_109, S32_112, S32_113, S32_114, S32_117, S32_118, S32_119, S32_122, S32_125, S32_126, S32_127, S32_128, S32_129, S32_130, S32_131, S32_134, S32_136, S32_139, S32_140, S32_141, shp_3, RV_3_0, RV_3_1, shp_27, RV_27_2, RV_27_5, RV_27_6, RV_27_7, RV_27_8, c_fails t5, kR_at, isB_0]
    exact k0 _ (le_1 c6) _ (frCN (fl_set F5)) fl_at
  have c6 := Classical.not_not.mp c6
  have w5 := o5.2.1 c6
  have e32 : ∀ u : Int, (iL u).toInt32 = Int32.ofInt u := fun u => Int64.toInt32_ofInt
  rw [if_pos c6]
  simp only [S32_0, S32_1, S32_4, S32_6, S32_9, S32_10, S32_11, S32_14, S32_15, S32_16, S32_19, S32_20, S32_21, S32_24, S32_27, S32_28, S32_29, S32_30, S32_33, S32_34, S32_35, S32_36, S32_39, S32_40, S32_41, S32_44, S32_47, S32_48, S32_49, S32_50, S32_53, S32_54, S32_55, S32_56, S32_57, S32_60, S32_61, S32_62, S32_65, S32_66, S32_67, S32_70, S32_71, S32_74, S32_77, S32_78, S32_79, S32_80, S32_83, S32_84, S32_87, S32_88, S32_91, S32_92, S32_93, S32_96, S32_97, S32_98, S32_101, S32_102, S32_104, S32_106, S32_109, S32_113, S32_114, S32_117, S32_119, S32_122, S32_125, S32_126, S32_127, S32_128, S32_129, S32_130, S32_131, S32_134, S32_136, S32_139, S32_140, S32_141, shp_3, RV_3_0, RV_3_1, shp_27, RV_27_2, RV_27_5, RV_27_6, RV_27_7, RV_27_8, t5.2.2.1 (Or.inr c6), e32, c_isWeightX, kR_at, pb_congr (inW_of w5.1 w5.2), kl_int]
  by_cases c7 : ¬ (1 ≤ t5'.2.2.2 ∧ t5'.2.2.2 ≤ 4)
  · rw [if_pos (pb_0.mpr c7)]
    simp only [S32_0, S32_1, S32_4, S32_6, S32_9, S32_10, S32_11, S32_14, S32_15, S32_16, S32_19, S32_20, S32_21, S32_24, S32_27, S32_28, S32_29, S32_30, S32_33, S32_34, S32_35, S32_36, S32_39, S32_40, S32_41, S32_44, S32_47, S32_48, S32_49, S32_50, S32_53, S32_54, S32_55, S32_56, S32_57, S32_60, S32_61, S32_62, S32_65, S32_66, S32_67, S32_70, S32_71, S32_74, S32_77, S32_78, S32_79, S32_80, S32_83, S32_84, S32_87, S32_88, S32_91, S32_92, S32_93, S32_96, S32_97, S32_98, S32_101, S32_102, S32_104, S32_106, S32_109, S32_112, S32_113, S32_114, S32_117, S32_118, S32_119, S32_122, S32_125, S32_126, S32_127, S32_128, S32_129, S32_130, S32_131, S32_134, S32_136, S32_139, S32_140, S32_141, shp_3, RV_3_0, RV_3_1, shp_27, RV_27_2, RV_27_5, RV_27_6, RV_27_7, RV_27_8, c_fails t5, kR_at, isB_0]
    exact k0 _ (le_2 c6 c7) _ (frCN (fl_set F5)) fl_at
  have c7 := Classical.not_not.mp c7
  rw [if_neg (fun z => pb_0.mp z c7)]
  rw [le_y c6 c7] at k0 k1
  simp only [S32_0, S32_1, S32_4, S32_6, S32_9, S32_10, S32_11, S32_14, S32_15, S32_16, S32_19, S32_20, S32_21, S32_24, S32_27, S32_28, S32_29, S32_30, S32_33, S32_34, S32_35, S32_36, S32_39, S32_40, S32_41, S32_44, S32_47, S32_48, S32_49, S32_50, S32_53, S32_54, S32_55, S32_56, S32_57, S32_60, S32_61, S32_62, S32_65, S32_66, S32_67, S32_70, S32_71, S32_74, S32_77, S32_78, S32_79, S32_80, S32_83, S32_84, S32_87, S32_88, S32_91, S32_92, S32_93, S32_96, S32_97, S32_98, S32_101, S32_102, S32_104, S32_106, S32_109, S32_112, S32_113, S32_114, S32_117, S32_118, S32_119, S32_122, S32_125, S32_126, S32_127, S32_128, S32_129, S32_130, S32_131, S32_134, S32_136, S32_139, S32_140, S32_141, shp_3, RV_3_0, RV_3_1, shp_27, RV_27_2, RV_27_5, RV_27_6, RV_27_7, RV_27_8]
  refine c_readsSemicolon (d := d) R5 J5 (o5.2.2.1 (Or.inr (Or.inl c6))) (t5.2.2.2 (Or.inr (Or.inl c6))) (fun c8 h6 f6 fl6 => ?_) (fun c8 h6 f6 w6 w10 => ?_)
  · simp only [kR_at, S32_0, S32_1, S32_4, S32_6, S32_9, S32_10, S32_11, S32_14, S32_15, S32_16, S32_19, S32_20, S32_21, S32_24, S32_27, S32_28, S32_29, S32_30, S32_33, S32_34, S32_35, S32_36, S32_39, S32_40, S32_41, S32_44, S32_47, S32_48, S32_49, S32_50, S32_53, S32_54, S32_55, S32_56, S32_57, S32_60, S32_61, S32_62, S32_65, S32_66, S32_67, S32_70, S32_71, S32_74, S32_77, S32_78, S32_79, S32_80, S32_83, S32_84, S32_87, S32_88, S32_91, S32_92, S32_93, S32_96, S32_97, S32_98, S32_101, S32_102, S32_104, S32_106, S32_109, S32_112, S32_113, S32_114, S32_117, S32_118, S32_119, S32_122, S32_125, S32_126, S32_127, S32_128, S32_129, S32_130, S32_131, S32_134, S32_136, S32_139, S32_140, S32_141, isB_0, ↓reduceIte]
    exact k0 _ (endS_n c8) h6 (frCN (frmF_tr F5 f6)) fl6
  rw [g10'] at w10
  have hR6 := cRow_cr f6 hR5
  simp only [kR_at, S32_0, S32_1, S32_4, S32_6, S32_9, S32_10, S32_11, S32_14, S32_15, S32_16, S32_19, S32_20, S32_21, S32_24, S32_27, S32_28, S32_29, S32_30, S32_33, S32_34, S32_35, S32_36, S32_39, S32_40, S32_41, S32_44, S32_47, S32_48, S32_49, S32_50, S32_53, S32_54, S32_55, S32_56, S32_57, S32_60, S32_61, S32_62, S32_65, S32_66, S32_67, S32_70, S32_71, S32_74, S32_77, S32_78, S32_79, S32_80, S32_83, S32_84, S32_87, S32_88, S32_91, S32_92, S32_93, S32_96, S32_97, S32_98, S32_101, S32_102, S32_104, S32_106, S32_109, S32_112, S32_113, S32_114, S32_117, S32_118, S32_119, S32_122, S32_125, S32_126, S32_127, S32_128, S32_129, S32_130, S32_131, S32_134, S32_136, S32_139, S32_140, S32_141, shp_3, RV_3_0, RV_3_1, shp_27, RV_27_2, RV_27_5, RV_27_6, RV_27_7, RV_27_8, i10, if_false, w10]
  refine c_putLine (b := 27) (NO_nid (k := 1) (by omega)) (by rw [hR6.1.2.2.1]; exact hV.2.1.1) (by omega) (fun h7 f7 e7 => ?_)
  simp only [kR_at, S32_0, S32_1, S32_4, S32_6, S32_9, S32_10, S32_11, S32_14, S32_15, S32_16, S32_19, S32_20, S32_21, S32_24, S32_27, S32_28, S32_29, S32_30, S32_33, S32_34, S32_35, S32_36, S32_39, S32_40, S32_41, S32_44, S32_47, S32_48, S32_49, S32_50, S32_53, S32_54, S32_55, S32_56, S32_57, S32_60, S32_61, S32_62, S32_65, S32_66, S32_67, S32_70, S32_71, S32_74, S32_77, S32_78, S32_79, S32_80, S32_83, S32_84, S32_87, S32_88, S32_91, S32_92, S32_93, S32_96, S32_97, S32_98, S32_101, S32_102, S32_104, S32_106, S32_109, S32_112, S32_113, S32_114, S32_117, S32_118, S32_119, S32_122, S32_125, S32_126, S32_127, S32_128, S32_129, S32_130, S32_131, S32_134, S32_136, S32_139, S32_140, S32_141, isB_1]
  refine k1 _ (endS_y c8) h7 (frmF_tr (frCN (frmF_tr F5 f6)) (frmF_frm (fun a j z => Or.inr (Or.inr (by omega))) f7)) ?_ ⟨e7 r hV hR6.1 rfl, fun j hj => ?_⟩
  · rw [(f7.1 3 (by omega)).1]; exact w6
  · rw [(f7.1 4 (by omega)).2]
    exact hR6.2 j (by rw [← lay_P (l := rL r) (r := r)]; exact hj)
end
