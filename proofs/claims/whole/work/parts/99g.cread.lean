/-! What a row of the text says; the class's readers of its pieces. -/
abbrev Fl : Type := Nat × Nat
abbrev NmT : Type := Nat → Int64
def updN (nm : NmT) (P : Nat) (v : Int64) : NmT := fun j => if j = P then v else nm j
noncomputable def hgtS (b : Nat → Nat) (n : Nat) (t : TK) : Sum Fl (Nat × Int) := if t.1 = 1 ∧ (t.2.2.2 = UW ∨ t.2.2.2 = DW) then (if (tk b n t.2.2.1).1 = 2 then Sum.inr ((tk b n t.2.2.1).2.2.1, if t.2.2.2 = UW then (tk b n t.2.2.1).2.2.2 else -(tk b n t.2.2.1).2.2.2) else Sum.inl (1, (tk b n t.2.2.1).2.1)) else Sum.inl (1, t.2.1)
def ptR (r : Nat → Int32) (o : Option Int) : Nat → Int32 := match o with
  | none => upd r 0 (nI (rP r + 1))
  | some v => upd (upd (upd r (2 + rP r) 1) (8 + rP r) (Int32.ofInt v)) 0 (nI (rP r + 1))
abbrev RowT : Type := Nat → Int32
/-- behind a row's text: a semicolon -/
noncomputable def endS (t : TK) (r : RowT) (nm : NmT) : Sum Fl (Nat × RowT × NmT) := if t.1 = 3 then Sum.inr (t.2.2.1, r, nm) else Sum.inl (1, t.2.1)
noncomputable def pntR (b : Nat → Nat) (n : Nat) (r : RowT) (nm : NmT) (t : TK) : Sum Fl (Nat × RowT × NmT) := 
  if 6 ≤ rP r then Sum.inl (4, t.2.1) else @ite _ (nmS (tk b n t.2.2.1)) (Classical.propDecidable _) 
    (if nmF nm (iL (tk b n t.2.2.1).2.2.2) (rP r) = -1 then 
      (if (tk b n (tk b n t.2.2.1).2.2.1).1 = 3 then endS (tk b n (tk b n t.2.2.1).2.2.1) (ptR r none) (updN nm (rP r) (iL (tk b n t.2.2.1).2.2.2)) else
        match hgtS b n (tk b n (tk b n t.2.2.1).2.2.1) with
        | Sum.inl f => Sum.inl f
        | Sum.inr q => endS (tk b n q.1) (ptR r (some q.2)) (updN nm (rP r) (iL (tk b n t.2.2.1).2.2.2)))
      else Sum.inl (3, (tk b n t.2.2.1).2.1)) 
    (Sum.inl (1, (tk b n t.2.2.1).2.1))
noncomputable def linE (b : Nat → Nat) (n : Nat) (r : RowT) (nm : NmT) (f1 f2 : Int32) (v : Int) (t5 : TK) : Sum Fl (Nat × RowT × NmT) := if t5.1 = 2 then (if 1 ≤ t5.2.2.2 ∧ t5.2.2.2 ≤ 4 then endS (tk b n t5.2.2.1) (layR (rL r) r f1 f2 (Int32.ofInt v) (Int32.ofInt t5.2.2.2)) nm else Sum.inl (2, t5.2.1)) else Sum.inl (1, t5.2.1)
noncomputable def linS2 (b : Nat → Nat) (n : Nat) (r : RowT) (nm : NmT) (f1 : Int32) (t2 : TK) : Sum Fl (Nat × RowT × NmT) := @ite _ (nmS t2) (Classical.propDecidable _) (if nmF nm (iL t2.2.2.2) (rP r) = -1 ∨ nmF nm (iL t2.2.2.2) (rP r) = f1 then Sum.inl (3, t2.2.1) else match hgtS b n (tk b n t2.2.2.1) with
    | Sum.inl f => Sum.inl f
    | Sum.inr q => linE b n r nm f1 (nmF nm (iL t2.2.2.2) (rP r)) q.2 (tk b n q.1)) (Sum.inl (1, t2.2.1))
noncomputable def linR (b : Nat → Nat) (n : Nat) (r : RowT) (nm : NmT) (t : TK) : Sum Fl (Nat × RowT × NmT) := if 11 ≤ rL r then Sum.inl (4, t.2.1) else @ite _ (nmS (tk b n t.2.2.1)) (Classical.propDecidable _) (if nmF nm (iL (tk b n t.2.2.1).2.2.2) (rP r) = -1 then Sum.inl (3, (tk b n t.2.2.1).2.1) else linS2 b n r nm (nmF nm (iL (tk b n t.2.2.1).2.2.2) (rP r)) (tk b n (tk b n t.2.2.1).2.2.1)) (Sum.inl (1, (tk b n t.2.2.1).2.1))
def rZ (r : RowT) : Prop := ∀ i, rP r ≤ i → i < 6 → r (2 + i) = 0 ∧ r (8 + i) = 0
def CRs (a j : Nat) : Prop := a = 3 ∧ 6 ≤ j ∧ j ≤ 13 ∧ j ≠ 11
def cT (b : Nat → Nat) (n : Nat) (t : TK) (h : Hp) : Prop := rdC b n h ∧ jR h ∧ tkC t h
section
variable {d : Nat} {h h' : Hp} {Q : Option (Option Value) → Hp → Prop} {x y z w : Int32} {k l p q n m P B : Nat} {b : Nat → Nat} {t : TK} {nm : NmT} {v : Int} {r : RowT}
theorem jR_fr {S : Nat → Nat → Prop} (hf : frmF S h h') (hS : ∀ j, 2 ≤ j → j ≤ 5 → ¬ S 3 j) (hJ : jR h) : jR h' := by
  refine ⟨?_, ?_, ?_, ?_⟩
  · rw [(hf.1 3 2 (hS 2 (by omega) (by omega))).2]; exact hJ.1
  · rw [(hf.1 3 3 (hS 3 (by omega) (by omega))).2]; exact hJ.2.1
  · rw [(hf.1 3 4 (hS 4 (by omega) (by omega))).2]; exact hJ.2.2.1
  · rw [(hf.1 3 5 (hS 5 (by omega) (by omega))).2]; exact hJ.2.2.2
theorem rdC_fS {S : Nat → Nat → Prop} (hf : frmF S h h') (hS : ∀ j, ¬ S 1 j ∧ ¬ S 2 j) (hr : rdC b n h) : rdC b n h' := ⟨hr.1, hr.2.1, by rw [(hf.1 1 1 (hS 1).1).1]; exact hr.2.2.1, fun j hj => by rw [(hf.1 2 j (hS j).2).1]; exact hr.2.2.2 j hj⟩
theorem crs_r {a j : Nat} (hs : RCs a j) : CRs a j := ⟨hs.1, hs.2.1, by have := hs.2.2; omega, by have := hs.2.2; omega⟩
theorem frCR (hf : frmF RCs h h') : frmF CRs h h' := ⟨fun a j hq => hf.1 a j (fun z => hq (crs_r z)), hf.2⟩
theorem rdC_cr (hf : frmF CRs h h') (hr : rdC b n h) : rdC b n h' := rdC_fS hf (fun j => ⟨by unfold CRs; omega, by unfold CRs; omega⟩) hr
theorem jR_cr (hf : frmF CRs h h') (hJ : jR h) : jR h' := jR_fr hf (fun j h1 h2 => by unfold CRs; omega) hJ
theorem c_stepT (hr : rdC b n h) (hJ : jR h) (hp : p ≤ n) (h6 : h.1 3 6 = nI p) (kk : ∀ h' : Hp, frmF CRs h h' → cT b n (tk b n p) h' → tkOK n (tk b n p) → Q (some none) h') : WP (d + 2) 40 0 [some (.ref 3), none] [] h Q := by
  refine c_step hr hp h6 (fun h1 f1 t1 => ?_)
  exact kk h1 (frCR f1) ⟨rdC_fr f1 hr, jR_cr (frCR f1) hJ, t1⟩ (tk_ok hp hr.1)
theorem fl_set (hf : frmF CRs h h') : frmF CRs h (setI (setI h' 3 12 x) 3 13 y) := frmF_tr hf (frmF_tr (frmF_I ⟨rfl, by omega, by omega, by omega⟩) (frmF_I ⟨rfl, by omega, by omega, by omega⟩))
theorem fl_at {x y : Nat} : flC (x, y) (setI (setI h 3 12 (nI x)) 3 13 (nI y)) := ⟨by rw [setI_rd, if_neg (by decide), setI_rd, if_pos ⟨rfl, rfl⟩], by rw [setI_rd, if_pos ⟨rfl, rfl⟩]⟩
theorem hgt_n (c : ¬ (t.1 = 1 ∧ (t.2.2.2 = UW ∨ t.2.2.2 = DW))) : hgtS b n t = Sum.inl (1, t.2.1) := if_neg c
theorem hgt_n2 (c : t.1 = 1 ∧ (t.2.2.2 = UW ∨ t.2.2.2 = DW)) (c2 : ¬ (tk b n t.2.2.1).1 = 2) : hgtS b n t = Sum.inl (1, (tk b n t.2.2.1).2.1) := by
  unfold hgtS; rw [if_pos c, if_neg c2]
theorem hgt_y (c : t.1 = 1 ∧ (t.2.2.2 = UW ∨ t.2.2.2 = DW)) (c2 : (tk b n t.2.2.1).1 = 2) : hgtS b n t = Sum.inr ((tk b n t.2.2.1).2.2.1, if t.2.2.2 = UW then (tk b n t.2.2.1).2.2.2 else -(tk b n t.2.2.1).2.2.2) := by
  unfold hgtS; rw [if_pos c, if_pos c2]
theorem hgt_b (hO : tkOK n t) (hn : n ≤ 540) {q : Nat × Int} (e : hgtS b n t = Sum.inr q) : q.1 ≤ n ∧ -99 ≤ q.2 ∧ q.2 ≤ 99 := by
  by_cases c : t.1 = 1 ∧ (t.2.2.2 = UW ∨ t.2.2.2 = DW)
  · have h2 := tk_ok (b := b) (hO.2.2.1 (Or.inl c.1)) hn
    by_cases c2 : (tk b n t.2.2.1).1 = 2
    · rw [hgt_y c c2] at e
      cases e
      have := h2.2.1 c2
      refine ⟨h2.2.2.1 (Or.inr (Or.inl c2)), ?_⟩
      show -99 ≤ (if t.2.2.2 = UW then (tk b n t.2.2.1).2.2.2 else -(tk b n t.2.2.1).2.2.2) ∧ (if t.2.2.2 = UW then (tk b n t.2.2.1).2.2.2 else -(tk b n t.2.2.1).2.2.2) ≤ 99
      split <;> omega
    · rw [hgt_n2 c c2] at e; cases e
  · rw [hgt_n c] at e; cases e
theorem UW_DW : ¬ UW = DW := by decide
theorem c_readsHeight (hc : cT b n t h) (hO : tkOK n t) (k0 : ∀ f, hgtS b n t = Sum.inl f → ∀ h' : Hp, frmF CRs h h' → flC f h' → Q (some (some (.int 0))) h') (k1 : ∀ q, hgtS b n t = Sum.inr q → ∀ h' : Hp, frmF CRs h h' → h'.1 3 6 = nI q.1 → h'.1 3 10 = Int32.ofInt q.2 → Q (some (some (.int 1))) h') : WP (d + 3) 34 0 [some (.ref 3), none] [] h Q := by
  obtain ⟨hr, hJ, hT⟩ := hc
  have hn := hr.1
  have go30 : t.1 = 1 → (t.2.2.2 = UW ∨ t.2.2.2 = DW) → WP (d + 3) 34 30 [some (.ref 3), some (.int (pb (t.1 = 1 ∧ t.2.2.2 = UW)))] [] h Q := by
    intro c1 c2
    simp only [S34_0, S34_1, S34_2, S34_5, S34_8, S34_9, S34_10, S34_13, S34_14, S34_15, S34_18, S34_21, S34_24, S34_25, S34_26, S34_29, S34_30, S34_31, S34_34, S34_35, S34_38, S34_39, S34_42, S34_43, S34_44, S34_47, S34_48, S34_49, S34_50, S34_53, S34_54, S34_57, S34_58, S34_61, S34_62, S34_65, S34_66, S34_67, S34_70, S34_71, shp_3, RV_3_0, RV_3_1]
    refine c_stepT (d := d) hr hJ (hO.2.2.1 (Or.inl c1)) (hT.2.2.2 (Or.inl c1)) (fun h1 f1 t1 o1 => ?_)
    have ck := ck_all (tk b n t.2.2.1).1 (by have := o1.2.2.2.2; omega)
    simp only [kV_at, S34_0, S34_1, S34_2, S34_5, S34_8, S34_9, S34_10, S34_13, S34_14, S34_15, S34_18, S34_21, S34_24, S34_25, S34_26, S34_29, S34_30, S34_31, S34_34, S34_35, S34_38, S34_39, S34_42, S34_43, S34_44, S34_47, S34_49, S34_50, S34_53, S34_54, S34_57, S34_58, S34_61, S34_62, S34_65, S34_66, S34_67, S34_70, S34_71, shp_3, RV_3_0, RV_3_1, t1.2.2.1, ck.2.2.1]
    by_cases c3 : (tk b n t.2.2.1).1 = 2
    · rw [if_pos c3]
      have k2 := k1 _ (hgt_y ⟨c1, c2⟩ c3)
      have ev := t1.2.2.2.2.1 (Or.inr c3)
      have e6 := t1.2.2.2.2.2 (Or.inr (Or.inl c3))
      have en : -(iL (tk b n t.2.2.1).2.2.2) = iL (-(tk b n t.2.2.1).2.2.2) := (Int64.ofInt_neg _).symm
      have e32 : ∀ u : Int, (iL u).toInt32 = Int32.ofInt u := fun u => Int64.toInt32_ofInt
      simp only [S34_0, S34_1, S34_2, S34_5, S34_8, S34_9, S34_10, S34_13, S34_14, S34_15, S34_18, S34_21, S34_24, S34_25, S34_26, S34_29, S34_30, S34_31, S34_34, S34_35, S34_38, S34_39, S34_42, S34_43, S34_44, S34_47, S34_48, S34_49, S34_50, S34_53, S34_54, S34_57, S34_58, S34_61, S34_62, S34_65, S34_66, S34_67, S34_70, S34_71, shp_3, RV_3_0, RV_3_1, ev, en, e32, isB_1]
      by_cases c4 : t.2.2.2 = UW
      · rw [if_neg (fun z => pb_0.mp z ⟨c1, c4⟩)]
        rw [if_pos c4] at k2
        exact k2 _ (frmF_tr f1 (frmF_I ⟨rfl, by omega, by omega, by omega⟩)) (by rw [setI_rd, if_neg (by decide)]; exact e6) (by rw [setI_rd, if_pos ⟨rfl, rfl⟩])
      · rw [if_pos (pb_0.mpr (fun z => c4 z.2))]
        rw [if_neg c4] at k2
        exact k2 _ (frmF_tr f1 (frmF_I ⟨rfl, by omega, by omega, by omega⟩)) (by rw [setI_rd, if_neg (by decide)]; exact e6) (by rw [setI_rd, if_pos ⟨rfl, rfl⟩])
    · rw [if_neg c3]
      simp only [S34_0, S34_1, S34_2, S34_5, S34_8, S34_9, S34_10, S34_13, S34_14, S34_15, S34_18, S34_21, S34_24, S34_25, S34_26, S34_29, S34_30, S34_31, S34_34, S34_35, S34_38, S34_39, S34_42, S34_43, S34_44, S34_47, S34_48, S34_49, S34_50, S34_53, S34_54, S34_57, S34_58, S34_61, S34_62, S34_65, S34_66, S34_67, S34_70, S34_71, shp_3, RV_3_0, RV_3_1, c_fails t1.2.2, kR_at, isB_0]
      exact k0 _ (hgt_n2 ⟨c1, c2⟩ c3) _ (fl_set f1) fl_at
  simp only [S34_0, S34_1, S34_2, S34_5, S34_8, S34_9, S34_10, S34_13, S34_14, S34_15, S34_18, S34_21, S34_24, S34_25, S34_26, S34_29, S34_31, S34_34, S34_35, S34_38, S34_39, S34_42, S34_43, S34_44, S34_47, S34_48, S34_49, S34_50, S34_53, S34_54, S34_57, S34_58, S34_61, S34_62, S34_65, S34_66, S34_67, S34_70, S34_71, shp_3, RV_3_0, RV_3_1, hJ.2.2.1, hJ.2.2.2, c_isWord hT hO UWb, c_isWord hT hO DWb, kR_at, kl_ref]
  by_cases c1 : t.1 = 1 ∧ t.2.2.2 = UW
  · rw [if_neg (fun z => pb_0.mp z c1)]
    exact go30 c1.1 (Or.inl c1.2)
  · rw [if_pos (pb_0.mpr c1)]
    by_cases c2 : t.1 = 1 ∧ t.2.2.2 = DW
    · rw [if_neg (fun z => pb_0.mp z c2)]
      exact go30 c2.1 (Or.inr c2.2)
    · rw [if_pos (pb_0.mpr c2)]
      simp only [S34_0, S34_1, S34_2, S34_5, S34_8, S34_9, S34_10, S34_13, S34_14, S34_15, S34_18, S34_21, S34_24, S34_25, S34_26, S34_29, S34_30, S34_31, S34_34, S34_35, S34_38, S34_39, S34_42, S34_43, S34_44, S34_47, S34_48, S34_49, S34_50, S34_53, S34_54, S34_57, S34_58, S34_61, S34_62, S34_65, S34_66, S34_67, S34_70, S34_71, shp_3, RV_3_0, RV_3_1, c_fails hT, kR_at, isB_0]
      refine k0 _ (hgt_n (fun z => ?_)) _ (fl_set frmF_rf) fl_at
      rcases z.2 with y | y
      · exact c1 ⟨z.1, y⟩
      · exact c2 ⟨z.1, y⟩
theorem c_readsTold (hc : cT b n t h) (hO : tkOK n t) (hP : P ≤ 6) (hm : ∀ j, j < P → h.2.1 4 j = nm j) (k0 : ¬ nmS t → ∀ h' : Hp, frmF CRs h h' → flC (1, t.2.1) h' → Q (some (some (.int (-1)))) h') (k1 : nmS t → nmF nm (iL t.2.2.2) P = -1 → ∀ h' : Hp, frmF CRs h h' → flC (3, t.2.1) h' → Q (some (some (.int (-1)))) h') (k2 : nmS t → ¬ nmF nm (iL t.2.2.2) P = -1 → Q (some (some (.int (nmF nm (iL t.2.2.2) P)))) h) : WP (d + 1) 33 0 [some (.ref 3), some (.int (nI P)), none] [] h Q := by
  obtain ⟨hr, hJ, hT⟩ := hc
  simp only [S33_0, S33_1, S33_4, S33_7, S33_8, S33_9, S33_12, S33_13, S33_14, S33_16, S33_17, S33_20, S33_21, S33_22, S33_23, S33_26, S33_27, S33_28, S33_31, S33_32, S33_33, shp_3, RV_3_0, RV_3_1, c_isName hT hO hJ, kR_at]
  by_cases c1 : nmS t
  · rw [if_neg (fun z => pb_0.mp z c1)]
    simp only [S33_0, S33_1, S33_4, S33_7, S33_8, S33_9, S33_12, S33_13, S33_14, S33_15, S33_16, S33_17, S33_20, S33_21, S33_22, S33_23, S33_27, S33_28, S33_31, S33_32, S33_33, shp_3, RV_3_0, RV_3_1, c_named hP hm (hT.2.2.1 (Or.inl c1.1)), kR_at, kl_int]
    by_cases c2 : nmF nm (iL t.2.2.2) P = -1
    · have k := k1 c1 c2
      rw [if_pos c2]
      simp only [S33_0, S33_1, S33_4, S33_7, S33_8, S33_9, S33_12, S33_13, S33_14, S33_15, S33_16, S33_17, S33_20, S33_21, S33_22, S33_23, S33_26, S33_27, S33_28, S33_31, S33_32, S33_33, shp_3, RV_3_0, RV_3_1, c_fails hT, kR_at, c2]
      exact k _ (fl_set frmF_rf) fl_at
    · rw [if_neg c2]
      exact k2 c1 c2
  · rw [if_pos (pb_0.mpr c1)]
    simp only [S33_0, S33_1, S33_4, S33_7, S33_8, S33_9, S33_12, S33_13, S33_14, S33_15, S33_16, S33_17, S33_20, S33_21, S33_22, S33_23, S33_26, S33_27, S33_28, S33_31, S33_32, S33_33, shp_3, RV_3_0, RV_3_1, c_fails hT, kR_at]
    exact k0 c1 _ (fl_set frmF_rf) fl_at
theorem c_readsSemicolon (hr : rdC b n h) (hJ : jR h) (hp : p ≤ n) (h6 : h.1 3 6 = nI p) (k0 : ¬ (tk b n p).1 = 3 → ∀ h' : Hp, frmF CRs h h' → flC (1, (tk b n p).2.1) h' → Q (some (some (.int 0))) h') (k1 : (tk b n p).1 = 3 → ∀ h' : Hp, frmF CRs h h' → h'.1 3 6 = nI (tk b n p).2.2.1 → h'.1 3 10 = h.1 3 10 → Q (some (some (.int 1))) h') : WP (d + 3) 35 0 [some (.ref 3)] [] h Q := by
  simp only [S35_0, S35_1, S35_4, S35_5, S35_8, S35_9, S35_12, S35_13, S35_14, S35_17, S35_20, S35_21, S35_24, S35_25, shp_3, RV_3_0, RV_3_1]
  refine c_step (d := d) hr hp h6 (fun h1 f1 t1 => ?_)
  have o1 := tk_ok (b := b) hp hr.1
  have ck := ck_all (tk b n p).1 (by have := o1.2.2.2.2; omega)
  simp only [kV_at, S35_0, S35_1, S35_4, S35_5, S35_8, S35_9, S35_13, S35_14, S35_17, S35_20, S35_21, S35_24, S35_25, shp_3, RV_3_0, RV_3_1, t1.1, ck.2.2.2, isB_1]
  by_cases c : (tk b n p).1 = 3
  · rw [if_pos c]
    exact k1 c h1 (frCR f1) (t1.2.2.2 (Or.inr (Or.inr c))) (f1.1 3 10 (by unfold RCs; omega)).1
  · rw [if_neg c]
    simp only [S35_0, S35_1, S35_4, S35_5, S35_8, S35_9, S35_12, S35_13, S35_14, S35_17, S35_20, S35_21, S35_24, S35_25, shp_3, RV_3_0, RV_3_1, c_fails t1, kR_at, isB_0, ↓reduceIte]
    exact k0 c _ (fl_set (frCR f1)) fl_at
/-! points told -/
theorem inH_of {u : Int} (h1 : -99 ≤ u) (h2 : u ≤ 99) : inH (Int32.ofInt u) := by
  have : (Int32.ofInt u).toInt = u := by
    rw [Int32.toInt_ofInt, show Int32.size = 4294967296 from rfl]
    exact Int.bmod_eq_of_le (by omega) (by omega)
  unfold inH
  omega
theorem inW_of {u : Int} (h1 : 0 ≤ u) (h2 : u ≤ 99) : inW (Int32.ofInt u) ↔ 1 ≤ u ∧ u ≤ 4 := by
  have : (Int32.ofInt u).toInt = u := by
    rw [Int32.toInt_ofInt, show Int32.size = 4294967296 from rfl]
    exact Int.bmod_eq_of_le (by omega) (by omega)
  unfold inW
  omega
/-- the row with one point more -/
theorem pt_all (hV : VR r) (hz : rZ r) (h6 : rP r < 6) {o : Option Int} (ho : ∀ u, o = some u → -99 ≤ u ∧ u ≤ 99) : VR (ptR r o) ∧ rP (ptR r o) = rP r + 1 ∧ rL (ptR r o) = rL r ∧ rZ (ptR r o) := by
  have h0 : ptR r o 0 = nI (rP r + 1) := by cases o <;> exact upd_eq
  have eo : ∀ j, j ≠ 0 → j ≠ 2 + rP r → j ≠ 8 + rP r → ptR r o j = r j := fun j a1 a2 a3 => by
    cases o with
    | none => exact upd_ne a1
    | some u => exact (upd_ne a1).trans ((upd_ne a3).trans (upd_ne a2))
  have e2 : isB (ptR r o (2 + rP r)) ∧ inH (ptR r o (8 + rP r)) := by
    cases o with
    | none =>
      have q := hz (rP r) (Nat.le_refl _) h6
      constructor
      · show isB (upd r 0 _ _); rw [upd_ne (by omega), q.1]; exact isB_0
      · show inH (upd r 0 _ _); rw [upd_ne (by omega), q.2]; exact inH_of (u := 0) (by decide) (by decide)
    | some u =>
      have q := ho u rfl
      constructor
      · show isB (upd (upd (upd r _ _) _ _) 0 _ _); rw [upd_ne (by omega), upd_ne (by omega), upd_eq]; exact isB_1
      · show inH (upd (upd (upd r _ _) _ _) 0 _ _); rw [upd_ne (by omega), upd_eq]; exact inH_of q.1 q.2
  have eP : rP (ptR r o) = rP r + 1 := by unfold rP; rw [h0]; exact nI_cl (show rP r + 1 < 2147483648 by omega)
  have eL : rL (ptR r o) = rL r := by unfold rL; rw [eo 1 (by omega) (by omega) (by omega)]
  refine ⟨⟨⟨by rw [h0, eP], by omega⟩, by rw [eL, eo 1 (by omega) (by omega) (by omega)]; exact hV.2.1, fun i hi => ?_, fun l hl => ?_⟩, eP, eL, fun i h1 h2 => ?_⟩
  · rw [eP] at hi
    by_cases e : i = rP r
    · subst e; exact e2
    · rw [eo (2 + i) (by omega) (by omega) (by omega), eo (8 + i) (by omega) (by omega) (by omega)]
      exact hV.2.2.1 i (by omega)
  · rw [eL] at hl
    have q := hV.2.2.2 l hl
    have eA : rA (ptR r o) l = rA r l := by unfold rA; rw [eo (14 + l) (by omega) (by omega) (by omega)]
    have eB : rB (ptR r o) l = rB r l := by unfold rB; rw [eo (25 + l) (by omega) (by omega) (by omega)]
    rw [eA, eB, eP, eo (14 + l) (by omega) (by omega) (by omega), eo (25 + l) (by omega) (by omega) (by omega), eo (36 + l) (by omega) (by omega) (by omega), eo (47 + l) (by omega) (by omega) (by omega), eo (58 + l) (by omega) (by omega) (by omega)]
    exact ⟨⟨q.1.1, by have := q.1.2; omega⟩, ⟨q.2.1.1, by have := q.2.1.2; omega⟩, q.2.2⟩
  · rw [eP] at h1
    rw [eo (2 + i) (by omega) (by omega) (by omega), eo (8 + i) (by omega) (by omega) (by omega)]
    exact hz i (by omega) h2
theorem CN_pt (hV : VR r) (hz : rZ r) (h6 : rP r < 6) {o : Option Int} (ho : ∀ u, o = some u → -99 ≤ u ∧ u ≤ 99) (hN : CN h B r) (q0 : h'.1 B 0 = nI (rP r + 1)) (q1 : h'.1 B 1 = if o = none then h.1 B 1 else h.1 B 1 ||| ((1 : Int32) <<< (nI (rP r) &&& 31))) (q3 : h'.1 B 3 = h.1 B 3) (q4 : h'.1 B 4 = h.1 B 4) (q5 : h'.1 (B + 1) = upd (h.1 (B + 1)) (rP r) (match o with | none => 0 | some u => Int32.ofInt u)) (q6 : ∀ i, 2 ≤ i → i ≤ 5 → h'.1 (B + i) = h.1 (B + i)) : CN h' B (ptR r o) := by
  obtain ⟨V', eP, eL, Z'⟩ := pt_all hV hz h6 ho
  have h0 : ptR r o 0 = nI (rP r + 1) := by cases o <;> exact upd_eq
  have eo : ∀ j, j ≠ 0 → j ≠ 2 + rP r → j ≠ 8 + rP r → ptR r o j = r j := fun j a1 a2 a3 => by
    cases o with
    | none => exact upd_ne a1
    | some u => exact (upd_ne a1).trans ((upd_ne a3).trans (upd_ne a2))
  have qz := hz (rP r) (Nat.le_refl _) h6
  refine ⟨by rw [q0, h0], ?_, by rw [q3, eo 1 (by omega) (by omega) (by omega)]; exact hN.2.2.1, ?_, fun p hp => ?_, fun l hl => ?_⟩
  · rw [q1, hN.2.1]
    cases o with
    | none =>
      rw [if_pos rfl]
      refine mask_congr (fun i _ => ?_)
      unfold fxd
      rw [eP]
      constructor
      · rintro ⟨s1, s2⟩; exact ⟨by omega, by rw [eo (2 + i) (by omega) (by omega) (by omega)]; exact s2⟩
      · rintro ⟨s1, s2⟩
        by_cases e : i = rP r
        · subst e
          have : ptR r none (2 + rP r) = r (2 + rP r) := upd_ne (by omega)
          rw [this, qz.1] at s2
          exact absurd s2 (by decide)
        · rw [eo (2 + i) (by omega) (by omega) (by omega)] at s2; exact ⟨by omega, s2⟩
    | some u =>
      rw [if_neg (by simp)]
      refine eq_mask (fun i hi => ?_)
      rw [bt_on (by omega) hi, Bool.or_eq_true, bt_mask hi, decide_eq_true_eq]
      unfold fxd
      rw [eP]
      constructor
      · rintro (⟨s1, s2⟩ | e)
        · exact ⟨by omega, by rw [eo (2 + i) (by omega) (by omega) (by omega)]; exact s2⟩
        · subst e
          exact ⟨by omega, by show upd (upd (upd r _ _) _ _) 0 _ _ = 1; rw [upd_ne (by omega), upd_ne (by omega), upd_eq]⟩
      · rintro ⟨s1, s2⟩
        by_cases e : i = rP r
        · exact Or.inr e
        · rw [eo (2 + i) (by omega) (by omega) (by omega)] at s2; exact Or.inl ⟨by omega, s2⟩
  · rw [q4, hN.2.2.2.1]
    refine mask_congr (fun i _ => ?_)
    unfold snd
    rw [eL, eo (58 + i) (by omega) (by omega) (by omega)]
  · rw [eP] at hp
    rw [q5]
    by_cases e : p = rP r
    · subst e
      rw [upd_eq]
      cases o with
      | none =>
        have : ptR r none (8 + rP r) = r (8 + rP r) := upd_ne (by omega)
        rw [this, qz.2]
      | some u =>
        show Int32.ofInt u = upd (upd (upd r _ _) _ _) 0 _ _
        rw [upd_ne (by omega), upd_eq]
    · rw [upd_ne e, eo (8 + p) (by omega) (by omega) (by omega)]
      exact hN.2.2.2.2.1 p (by omega)
  · rw [eL] at hl
    rw [q6 2 (by omega) (by omega), q6 3 (by omega) (by omega), q6 4 (by omega) (by omega), q6 5 (by omega) (by omega), eo (14 + l) (by omega) (by omega) (by omega), eo (25 + l) (by omega) (by omega) (by omega), eo (36 + l) (by omega) (by omega) (by omega), eo (47 + l) (by omega) (by omega) (by omega)]
    exact hN.2.2.2.2.2 l hl
theorem c_putPoint (hB : NO B) (hV : VR r) (hz : rZ r) (h6 : rP r < 6) {o : Option Int} (ho : ∀ u, o = some u → -99 ≤ u ∧ u ≤ 99) (hN : CN h B r) (hx : x = if o = none then 0 else 1) (hy : y = match o with | none => 0 | some u => Int32.ofInt u) (kk : ∀ h' : Hp, frm (fun a => B ≤ a ∧ a ≤ B + 5) h h' → CN h' B (ptR r o) → Q (some none) h') : WP d 26 0 [some (.ref B), some (.int x), some (.int y)] [] h Q := by
  obtain ⟨s0, s1, s2, s3, s4, s5, v1, v2, v3, v4, v5⟩ := hB
  have h0 : h.1 B 0 = nI (rP r) := by rw [hN.1]; exact hV.1.1
  have hcd : nI (rP r) < 6 := nI_lt (b := 6) h6 (by omega)
  have m1 : B ≠ B + 1 := by omega
  have fm : ∀ {g : Hp} {j : Nat} {u : Int32}, frm (fun a => B ≤ a ∧ a ≤ B + 5) g (setI g B j u) := fun {g j u} => frm_I ⟨Nat.le_refl _, by omega⟩
  have fm1 : ∀ {g : Hp} {j : Nat} {u : Int32}, frm (fun a => B ≤ a ∧ a ≤ B + 5) g (setI g (B + 1) j u) := fun {g j u} => frm_I ⟨by omega, by omega⟩
  cases o with
  | none =>
    have ex : x = 0 := by rw [hx, if_pos rfl]
    subst ex
    subst hy
    simp only [S26_0, S26_1, S26_4, S26_6, S26_9, S26_10, S26_11, S26_14, S26_15, S26_16, S26_19, S26_20, S26_21, S26_24, S26_25, S26_26, S26_29, S26_30, S26_33, S26_34, S26_37, S26_38, S26_39, S26_40, S26_41, S26_44, S26_45, S26_46, S26_49, s0, s1, v1, h0, if_pos hcd, if_true, okA_nI s1 (show rP r < 6 by omega) (by decide), nI_cl (show rP r < 2147483648 by omega), setI_1 m1, nI_add1]
    refine kk _ (frm_tr fm1 fm) (CN_pt hV hz h6 ho hN ?_ ?_ ?_ ?_ ?_ ?_)
    · rw [setI_rd, if_pos ⟨rfl, rfl⟩]
    · rw [if_pos rfl, setI_rd, if_neg (by omega), setI_1 m1]
    · rw [setI_rd, if_neg (by omega), setI_1 m1]
    · rw [setI_rd, if_neg (by omega), setI_1 m1]
    · rw [setI_1 (by omega), setI_s]
    · intro i h1 h2; rw [setI_1 (by omega), setI_1 (by omega)]
  | some u =>
    have ex : x = 1 := by rw [hx, if_neg (by simp)]
    subst ex
    subst hy
    have g0 : ∀ u, (setI h B 1 u).1 B 0 = nI (rP r) := fun u => by rw [setI_rd, if_neg (by omega)]; exact h0
    simp only [S26_0, S26_1, S26_4, S26_6, S26_9, S26_10, S26_11, S26_14, S26_15, S26_16, S26_19, S26_20, S26_21, S26_24, S26_25, S26_26, S26_29, S26_30, S26_33, S26_34, S26_37, S26_38, S26_39, S26_40, S26_41, S26_44, S26_45, S26_46, S26_49, s0, s1, v1, h0, if_pos hcd, i10, if_false, okA_nI s1 (show rP r < 6 by omega) (by decide), nI_cl (show rP r < 2147483648 by omega), g0, setI_1 m1, nI_add1]
    refine kk _ (frm_tr fm (frm_tr fm1 fm)) (CN_pt hV hz h6 ho hN ?_ ?_ ?_ ?_ ?_ ?_)
    · rw [setI_rd, if_pos ⟨rfl, rfl⟩]
    · rw [if_neg (by simp), setI_rd, if_neg (by omega), setI_1 m1, setI_rd, if_pos ⟨rfl, rfl⟩]
    · rw [setI_rd, if_neg (by omega), setI_1 m1, setI_rd, if_neg (by omega)]
    · rw [setI_rd, if_neg (by omega), setI_1 m1, setI_rd, if_neg (by omega)]
    · rw [setI_1 (by omega), setI_s, setI_1 (by omega)]
    · intro i h1 h2; rw [setI_1 (by omega), setI_1 (by omega), setI_1 (by omega)]
end
