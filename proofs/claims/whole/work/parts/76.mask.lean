/-! What the model answers of one row. -/
/-- what a call of the model may change -/
def WFs (a j : Nat) : Prop := MS a j ∨ (a = 93 ∧ (j = 30 ∨ j = 31))
theorem wfs_m {h h' : Hp} (hf : mfr h h') : frmF WFs h h' := ⟨fun a j hn => hf.1 a j (fun z => hn (Or.inl z)), hf.2⟩
theorem wfs_f {h h' : Hp} {j : Nat} (hf : frmF WFs h h') (hj : 31 < j) : h'.2.1 93 j = h.2.1 93 j := (hf.1 93 j (by unfold WFs MS; omega)).2
theorem wfs_t {h h' : Hp} (hf : frmF WFs h h') : h'.1 93 0 = h.1 93 0 := (hf.1 93 0 (by unfold WFs MS; omega)).1
def PS (a j : Nat) : Prop := MS a j ∨ (a = 93 ∧ (j = 0 ∨ (30 ≤ j ∧ j ≤ 34)))
abbrev pfr (h h' : Hp) : Prop := frmF PS h h'
theorem pfr_m {h h' : Hp} (hf : mfr h h') : pfr h h' := ⟨fun a j hn => hf.1 a j (fun z => hn (Or.inl z)), hf.2⟩
theorem pfr_w {h h' : Hp} (hf : frmF WFs h h') : pfr h h' := ⟨fun a j hn => hf.1 a j (fun z => hn (by rcases z with z | z; exact Or.inl z; exact Or.inr ⟨z.1, Or.inr (by omega)⟩)), hf.2⟩
abbrev mPost (r : Nat → Int32) (h : Hp) (Q : Option (Option Value) → Hp → Prop) (th : Int32) (res : Option Value) : Prop := ∀ h' : Hp, pfr h h' → h'.1 95 = r → h'.1 93 0 = th → Q (some res) h'
section
variable {d : Nat} {h : Hp} {Q : Option (Option Value) → Hp → Prop} {x y z t : Int32} {u w v rs : Int64} {k l p q : Nat} {r : Nat → Int32}
theorem pt_if (hV : VR r) : (if x < 0 then (0 : Int32) else if r 0 - 1 < x then 0 else 1) = pb (isP r x) := by
  have hP := hV.1
  rw [← isP_if hV rfl]
  by_cases h0 : x < 0
  · rw [if_pos h0, if_pos h0]
  · rw [if_neg h0, if_neg h0]
    obtain ⟨j, hj, rfl⟩ := nI_of h0
    have e : (r 0 - 1 < nI j) ↔ r 0 ≤ nI j := by
      rw [hP.1]
      have h6 := hP.2
      generalize rP r = n at *
      rw [nI_leI (by omega) hj]
      cases n with
      | zero => 
        have : (nI 0 : Int32) - 1 = -1 := by decide
        rw [this, Int32.lt_iff_toInt_lt, nI_toInt hj]
        have : (-1 : Int32).toInt = -1 := by decide
        omega
      | succ n => rw [nI_pred, nI_ltI (by omega) hj]; omega
    by_cases c : r 0 ≤ nI j
    · rw [if_pos (e.mpr c), if_pos c]
    · rw [if_neg (fun z => c (e.mp z)), if_neg c]
theorem ln_if (hV : VR r) : (if x < 0 then (0 : Int32) else if r 1 - 1 < x then 0 else 1) = pb (isL r x) := by
  have hP := hV.2.1
  rw [← isL_if hV rfl]
  by_cases h0 : x < 0
  · rw [if_pos h0, if_pos h0]
  · rw [if_neg h0, if_neg h0]
    obtain ⟨j, hj, rfl⟩ := nI_of h0
    have e : (r 1 - 1 < nI j) ↔ r 1 ≤ nI j := by
      rw [hP.1]
      have h6 := hP.2
      generalize rL r = n at *
      rw [nI_leI (by omega) hj]
      cases n with
      | zero => 
        have : (nI 0 : Int32) - 1 = -1 := by decide
        rw [this, Int32.lt_iff_toInt_lt, nI_toInt hj]
        have : (-1 : Int32).toInt = -1 := by decide
        omega
      | succ n => rw [nI_pred, nI_ltI (by omega) hj]; omega
    by_cases c : r 1 ≤ nI j
    · rw [if_pos (e.mpr c), if_pos c]
    · rw [if_neg (fun z => c (e.mp z)), if_neg c]
theorem m_isPointX (hr : h.1 95 = r) (hV : VR r) : WP (d + 1) 130 0 [some (.ref 93), some (.int x)] [] h Q ↔ Q (some (some (.int (pb (isP r x))))) h := by
  rw [m_isPoint, hr, pt_if hV]
theorem m_isLineX (hr : h.1 95 = r) (hV : VR r) : WP (d + 1) 131 0 [some (.ref 93), some (.int x)] [] h Q ↔ Q (some (some (.int (pb (isL r x))))) h := by
  rw [m_isLine, hr, ln_if hV]
theorem m_isPartX : WP (d + 1) 153 0 [some (.int x)] [] h Q ↔ Q (some (some (.int (pb (isH x))))) h := by
  rw [m_isPart]
  have e : (if x < 0 then (0 : Int32) else if 1 < x then 0 else 1) = pb (isH x) := by
    unfold isH
    by_cases h0 : x < 0
    · rw [if_pos h0, pb_f (fun z => by rcases z with z | z <;> (rw [z] at h0; exact absurd h0 (by decide)))]
    · obtain ⟨j, hj, rfl⟩ := nI_of h0
      rw [if_neg h0]
      have e1 : ((1 : Int32) < nI j) ↔ 1 < j := nI_ltI (a := 1) (by omega) hj
      have e2 : (nI j = 0) ↔ j = 0 := nI_eq (b := 0) hj (by omega)
      have e3 : (nI j = 1) ↔ j = 1 := nI_eq (b := 1) hj (by omega)
      by_cases c : 1 < j
      · rw [if_pos (e1.mpr c), pb_f (fun z => by rw [e2, e3] at z; omega)]
      · rw [if_neg (fun z => c (e1.mp z)), pb_t (by rw [e2, e3]; omega)]
  rw [e]
theorem m_isSoundX (hr : h.1 95 = r) (hV : VR r) (hl : l < rL r) : WP d 133 0 [some (.ref 93), some (.int (nI l))] [] h Q ↔ Q (some (some (.int (pb (snd r l))))) h := by
  rw [m_isSound (by have := hV.2.1.2; omega), hr]
  by_cases c : r (58 + l) = 1
  · rw [if_pos c, pb_t ⟨hl, c⟩]
  · rw [if_neg c, pb_f (fun z => c z.2)]
theorem m_tellsI {v : Int} {B : Nat} (hv : v.natAbs < 2 ^ 63) (hB : 0 < B) (hB2 : B < 2 ^ 63)
    (kk : ∀ h' : Hp, mfr h h' → h'.1 = h.1 → h'.2.1 93 = h.2.1 93 → h'.2.1 105 = h.2.1 105 → h'.2.1 106 0 = iL (rN v B) → h'.2.1 106 1 = lN (rD v B) → Q (some none) h') :
    WP d 151 0 [some (.ref 93), some (.long (iL v)), none, some (.long (lN B)), none, none, none, none, none, none, none] [] h Q := by
  refine m_tells (A := v.natAbs) (by rw [iL_T (B := v.natAbs) (Nat.le_refl _) hv]) hv hB hB2 (fun h' a b c e f g => kk h' a b c e ?_ ?_)
  · rw [f, gcd_iL hv hB hB2]
  · rw [g, gcd_lN hB hB2]
theorem m_saidX {v : Int} {B : Nat} (hy : isH y) (h0 : h.2.1 106 0 = iL (rN v B)) (h1 : h.2.1 106 1 = lN (rD v B)) : WP d 152 0 [some (.ref 93), some (.int y)] [] h Q ↔ Q (some (some (.long (hlf v B y)))) h := by
  unfold hlf
  rcases hy with e | e
  · subst e
    rw [if_pos rfl, ← h0]
    exact m_said (k := 0) (by omega)
  · subst e
    rw [if_neg (by decide), ← h1]
    exact m_said (k := 1) (by omega)
theorem gjN_d (hV : VR r) : (gjN r).2 = lN (dN r) := by unfold gjN; rw [LS_d hV, d_lN hV]
theorem gjN_h (hV : VR r) : hgV r True (gjN r) p = iL (hI r p) := by unfold gjN; rw [hg_ab hV, eI_of (ab_eI hV)]
theorem M0 : pfr h (setI h 93 0 x) := frmF_I (Or.inr ⟨rfl, Or.inl rfl⟩)
theorem r0 (hr : h.1 95 = r) : (setI h 93 0 x).1 95 = r := by rw [setI_1 (by decide)]; exact hr
theorem t0 : (setI h 93 0 x).1 93 0 = x := by rw [setI_rd, if_pos ⟨rfl, rfl⟩]
theorem ref_post (hr : h.1 95 = r) (kk : mPost r h Q 1 (some (.long 0))) : Q (some (some (.long 0))) (setI (setI h 93 0 0) 93 0 1) := kk _ (frmF_tr M0 M0) (r0 (r0 hr)) t0
theorem i2l0 : (0 : Int32).toInt64 = 0 := by decide
theorem m_height_no (hr : h.1 95 = r) (hV : VR r) (hx : ¬ (isP r x ∧ isH y)) (kk : mPost r h Q 1 (some (.long 0))) : WP (d + 9) 154 0 [some (.ref 93), some (.int x), some (.int y)] [] h Q := by
  have k1 := ref_post hr kk
  simp only [S154_0, S154_1, S154_2, S154_5, S154_6, S154_7, S154_10, S154_13, S154_14, S154_17, S154_20, S154_21, S154_24, S154_25, S154_26, S154_27, S154_30, S154_31, S154_32, S154_35, S154_36, S154_37, S154_38, S154_41, S154_44, S154_45, S154_46, S154_49, shp_93, RV_93_1, RV_93_13, RV_93_14, RV_93_15, RV_93_16, RV_93_17, RV_93_18, RV_93_19, RV_93_20, RV_93_23, RV_93_24, RV_93_27, RV_93_28, RV_93_29, m_isPointX (r0 (x := 0) hr) hV, m_isPartX, m_refuse, kR_at, i2l0]
  by_cases h1 : isP r x
  · rw [if_neg (fun z => pb_0.mp z h1)]
    have h2 : pb (isH y) = 0 := pb_0.mpr (fun z => hx ⟨h1, z⟩)
    simp only [h2, ne_eq, not_true_eq_false, if_false, if_true, ↓reduceIte]
    exact k1
  · rw [if_pos (pb_0.mpr h1)]
    exact k1
theorem m_height_yes (hr : h.1 95 = r) (hV : VR r) (hp : p < rP r) (hy : isH y) (kk : mPost r h Q 0 (some (.long (hlf (hI r p) (dN r) y)))) : WP (d + 9) 154 0 [some (.ref 93), some (.int (nI p)), some (.int y)] [] h Q := by
  have h6 := hV.1.2
  have h1 : ¬ pb (isP r (nI p)) = 0 := fun z => pb_0.mp z ⟨p, hp, rfl⟩
  have h2 : ¬ pb (isH y) = 0 := fun z => pb_0.mp z hy
  have hd := dN_b hV
  have ha := (ab_eI (p := p) hV).2
  simp only [S154_0, S154_1, S154_2, S154_5, S154_6, S154_7, S154_10, S154_13, S154_14, S154_17, S154_20, S154_21, S154_24, S154_25, S154_26, S154_27, S154_30, S154_31, S154_32, S154_35, S154_36, S154_37, S154_38, S154_41, S154_44, S154_45, S154_46, S154_49, shp_93, RV_93_1, RV_93_13, RV_93_14, RV_93_15, RV_93_16, RV_93_17, RV_93_18, RV_93_19, RV_93_20, RV_93_23, RV_93_24, RV_93_27, RV_93_28, RV_93_29, m_isPointX (r0 (x := 0) hr) hV, m_isPartX, m_refuse, kR_at, if_neg h1, h2, ne_eq, not_false_eq_true, if_false, if_true, ↓reduceIte]
  refine m_solveNow (d := d + 1) (r0 hr) hV (LS_nz hV) (fun h1 f1 m1 s1 => ?_)
  simp only [kV_at, S154_0, S154_1, S154_2, S154_5, S154_6, S154_7, S154_10, S154_13, S154_14, S154_17, S154_20, S154_21, S154_24, S154_25, S154_26, S154_27, S154_30, S154_31, S154_32, S154_35, S154_36, S154_37, S154_38, S154_41, S154_44, S154_45, S154_46, S154_49, shp_93, RV_93_1, RV_93_13, RV_93_14, RV_93_15, RV_93_16, RV_93_17, RV_93_18, RV_93_19, RV_93_20, RV_93_23, RV_93_24, RV_93_27, RV_93_28, RV_93_29, ok105 (show p < 6 by omega), nI_cl (show p < 2147483648 by omega), s1.2 p hp, s1.1, gjN_d hV, gjN_h hV]
  refine m_tellsI (by omega) hd.1 (by omega) (fun h2 f2 e1 e2 e3 e4 e5 => ?_)
  simp only [kV_at, S154_0, S154_1, S154_2, S154_5, S154_6, S154_7, S154_10, S154_13, S154_14, S154_17, S154_20, S154_21, S154_24, S154_25, S154_26, S154_27, S154_30, S154_31, S154_32, S154_35, S154_36, S154_37, S154_38, S154_41, S154_44, S154_45, S154_46, S154_49, shp_93, RV_93_1, RV_93_13, RV_93_14, RV_93_15, RV_93_16, RV_93_17, RV_93_18, RV_93_19, RV_93_20, RV_93_23, RV_93_24, RV_93_27, RV_93_28, RV_93_29, m_saidX hy e4 e5, kR_at]
  exact kk h2 (frmF_tr M0 (frmF_tr (pfr_m f1) (pfr_m f2))) (by rw [e1]; exact m1.1) (by rw [e1, mfr_t f1]; exact t0)
theorem m_off_no (hr : h.1 95 = r) (hV : VR r) (hx : ¬ (isS r x ∧ isH y)) (kk : mPost r h Q 1 (some (.long 0))) : WP (d + 9) 157 0 [some (.ref 93), some (.int x), some (.int y)] [] h Q := by
  have k1 := ref_post hr kk
  simp only [S157_0, S157_1, S157_2, S157_5, S157_6, S157_7, S157_10, S157_13, S157_14, S157_15, S157_18, S157_21, S157_22, S157_25, S157_28, S157_29, S157_32, S157_33, S157_34, S157_35, S157_38, S157_39, S157_40, S157_41, S157_44, S157_45, S157_48, S157_51, S157_52, S157_53, S157_56, shp_93, RV_93_1, RV_93_13, RV_93_14, RV_93_15, RV_93_16, RV_93_17, RV_93_18, RV_93_19, RV_93_20, RV_93_23, RV_93_24, RV_93_27, RV_93_28, RV_93_29, m_isLineX (r0 (x := 0) hr) hV, m_isPartX, m_refuse, kR_at, i2l0]
  by_cases h1 : isL r x
  · obtain ⟨l, hl, rfl⟩ := h1
    rw [if_neg (fun z => pb_0.mp z ⟨l, hl, rfl⟩), m_isSoundX (r0 (x := 0) hr) hV hl]
    simp only [kR_at, S157_0, S157_1, S157_2, S157_5, S157_6, S157_7, S157_10, S157_13, S157_14, S157_15, S157_18, S157_21, S157_22, S157_25, S157_28, S157_29, S157_32, S157_33, S157_34, S157_35, S157_38, S157_39, S157_40, S157_41, S157_44, S157_45, S157_48, S157_51, S157_52, S157_53, S157_56, m_isPartX, m_refuse, shp_93, RV_93_1, RV_93_13, RV_93_14, RV_93_15, RV_93_16, RV_93_17, RV_93_18, RV_93_19, RV_93_20, RV_93_23, RV_93_24, RV_93_27, RV_93_28, RV_93_29, i2l0]
    by_cases hs : snd r l
    · rw [if_neg (fun z => pb_0.mp z hs)]
      have h2 : pb (isH y) = 0 := pb_0.mpr (fun z => hx ⟨⟨l, hs, rfl⟩, z⟩)
      simp only [h2, ne_eq, not_true_eq_false, if_false, if_true, ↓reduceIte]
      exact k1
    · rw [if_pos (pb_0.mpr hs)]
      exact k1
  · rw [if_pos (pb_0.mpr h1)]
    exact k1
theorem m_off_yes (hr : h.1 95 = r) (hV : VR r) (hl : snd r l) (hy : isH y) (kk : mPost r h Q 0 (some (.long (hlf (offI r l) (dN r) y)))) : WP (d + 9) 157 0 [some (.ref 93), some (.int (nI l)), some (.int y)] [] h Q := by
  have h1 : ¬ pb (isL r (nI l)) = 0 := fun z => pb_0.mp z ⟨l, hl.1, rfl⟩
  have h2 : ¬ pb (isH y) = 0 := fun z => pb_0.mp z hy
  have h3 : ¬ pb (snd r l) = 0 := fun z => pb_0.mp z hl
  have hd := dN_b hV
  have ho := off_eI hV hl.1
  have hob := ho.2
  have eo : hgV r True (gjN r) (rB r l) - hgV r True (gjN r) (rA r l) - (r (36 + l)).toInt64 * lN (dN r) = iL (offI r l) := by
    rw [← eI_of ho, ← d_lN hV, gjN_h hV, gjN_h hV, eI_of (ab_eI (p := rB r l) hV), eI_of (ab_eI (p := rA r l) hV)]
  simp only [S157_0, S157_1, S157_2, S157_5, S157_6, S157_7, S157_10, S157_13, S157_14, S157_15, S157_18, S157_21, S157_22, S157_25, S157_28, S157_29, S157_32, S157_33, S157_34, S157_35, S157_38, S157_39, S157_40, S157_41, S157_44, S157_45, S157_48, S157_51, S157_52, S157_53, S157_56, shp_93, RV_93_1, RV_93_13, RV_93_14, RV_93_15, RV_93_16, RV_93_17, RV_93_18, RV_93_19, RV_93_20, RV_93_23, RV_93_24, RV_93_27, RV_93_28, RV_93_29, m_isLineX (r0 (x := 0) hr) hV, m_isSoundX (r0 (x := 0) hr) hV hl.1, m_isPartX, m_refuse, kR_at, if_neg h1, if_neg h3, h2, ne_eq, not_false_eq_true, if_false, if_true, ↓reduceIte]
  refine m_solveNow (d := d + 1) (r0 hr) hV (LS_nz hV) (fun h1 f1 m1 s1 => ?_)
  simp only [kV_at, S157_0, S157_1, S157_2, S157_5, S157_6, S157_7, S157_10, S157_13, S157_14, S157_15, S157_18, S157_21, S157_22, S157_25, S157_28, S157_29, S157_32, S157_33, S157_34, S157_35, S157_38, S157_39, S157_40, S157_41, S157_44, S157_45, S157_48, S157_51, S157_52, S157_53, S157_56, shp_93, RV_93_1, RV_93_13, RV_93_14, RV_93_15, RV_93_16, RV_93_17, RV_93_18, RV_93_19, RV_93_20, RV_93_23, RV_93_24, RV_93_27, RV_93_28, RV_93_29, m_offOf hV m1.1 s1 hl.1, kR_at, s1.1, gjN_d hV, eo]
  refine m_tellsI (by omega) hd.1 (by omega) (fun h2 f2 e1 e2 e3 e4 e5 => ?_)
  simp only [kV_at, S157_0, S157_1, S157_2, S157_5, S157_6, S157_7, S157_10, S157_13, S157_14, S157_15, S157_18, S157_21, S157_22, S157_25, S157_28, S157_29, S157_32, S157_33, S157_34, S157_35, S157_38, S157_39, S157_40, S157_41, S157_44, S157_45, S157_48, S157_51, S157_52, S157_53, S157_56, shp_93, RV_93_1, RV_93_13, RV_93_14, RV_93_15, RV_93_16, RV_93_17, RV_93_18, RV_93_19, RV_93_20, RV_93_23, RV_93_24, RV_93_27, RV_93_28, RV_93_29, m_saidX hy e4 e5, kR_at]
  exact kk h2 (frmF_tr M0 (frmF_tr (pfr_m f1) (pfr_m f2))) (by rw [e1]; exact m1.1) (by rw [e1, mfr_t f1]; exact t0)
end
