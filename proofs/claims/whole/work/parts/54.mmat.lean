/-! The model's rows: laid, freed, solved. -/
def frmF (S : Nat → Nat → Prop) (h h' : Hp) : Prop := (∀ a j, ¬ S a j → h'.1 a j = h.1 a j ∧ h'.2.1 a j = h.2.1 a j) ∧ h'.2.2 = h.2.2
theorem frmF_rf {S : Nat → Nat → Prop} {h : Hp} : frmF S h h := ⟨fun _ _ _ => ⟨rfl, rfl⟩, rfl⟩
theorem frmF_tr {S : Nat → Nat → Prop} {h h1 h2 : Hp} (a : frmF S h h1) (b : frmF S h1 h2) : frmF S h h2 := ⟨fun q j hq => ⟨(b.1 q j hq).1.trans (a.1 q j hq).1, (b.1 q j hq).2.trans (a.1 q j hq).2⟩, b.2.trans a.2⟩
theorem frmF_I {S : Nat → Nat → Prop} {h : Hp} {a j : Nat} {x : Int32} (ha : S a j) : frmF S h (setI h a j x) := ⟨fun q k hq => ⟨by rw [setI_rd, if_neg (fun z => hq (by rw [z.1, z.2]; exact ha))], rfl⟩, rfl⟩
theorem frmF_L {S : Nat → Nat → Prop} {h : Hp} {a j : Nat} {x : Int64} (ha : S a j) : frmF S h (setL h a j x) := ⟨fun q k hq => ⟨rfl, by rw [setL_rd, if_neg (fun z => hq (by rw [z.1, z.2]; exact ha))]⟩, rfl⟩
theorem frmF_frm {S : Nat → Prop} {S' : Nat → Nat → Prop} {h h' : Hp} (hS : ∀ a j, S a → S' a j) (hf : frm S h h') : frmF S' h h' := ⟨fun a j hn => by have := hf.1 a (fun z => hn (hS a j z)); exact ⟨congrFun this.1 j, congrFun this.2 j⟩, hf.2⟩
/-- what the model may scribble on -/
def MS (a j : Nat) : Prop := (103 ≤ a ∧ a ≤ 107) ∨ (a = 93 ∧ 25 ≤ j ∧ j ≤ 26)
abbrev mfr (h h' : Hp) : Prop := frmF MS h h'
theorem mfr_t {h h' : Hp} (hf : mfr h h') : h'.1 93 0 = h.1 93 0 := (hf.1 93 0 (by unfold MS; omega)).1
theorem mfr_f {h h' : Hp} {j : Nat} (hf : mfr h h') (hj : 26 < j) : h'.2.1 93 j = h.2.1 93 j := (hf.1 93 j (by unfold MS; omega)).2
theorem mfr_95 {h h' : Hp} (hf : mfr h h') : h'.1 95 = h.1 95 := funext (fun j => (hf.1 95 j (by unfold MS; omega)).1)
/-- a point whose height is sought -/
def soug (r : Nat → Int32) (p : Nat) : Prop := p < rP r ∧ ¬ fxd r p ∧ ¬ isRt r p
noncomputable def wd (r : Nat → Int32) : Nat := cK (soug r) (rP r)
noncomputable def rowN (r : Nat → Int32) (p : Nat) : Nat := cK (soug r) p
noncomputable def rowV (r : Nat → Int32) (p : Nat) : Int32 := @ite _ (soug r p) (Classical.propDecidable _) (nI (rowN r p)) (-1)
theorem rowV_y {r : Nat → Int32} {p : Nat} (h : soug r p) : rowV r p = nI (rowN r p) := @if_pos _ (Classical.propDecidable _) h _ _ _
theorem rowV_n {r : Nat → Int32} {p : Nat} (h : ¬ soug r p) : rowV r p = -1 := @if_neg _ (Classical.propDecidable _) h _ _ _
theorem cK_succ_y {K : Nat → Prop} {n : Nat} (h : K n) : cK K (n + 1) = cK K n + 1 := by
  show cK K n + @ite _ (K n) (Classical.propDecidable _) 1 0 = _
  rw [@if_pos _ (Classical.propDecidable _) h]
theorem cK_succ_n {K : Nat → Prop} {n : Nat} (h : ¬ K n) : cK K (n + 1) = cK K n := by
  show cK K n + @ite _ (K n) (Classical.propDecidable _) 1 0 = _
  rw [@if_neg _ (Classical.propDecidable _) h]
  rfl
theorem cK_n {K : Nat → Prop} {n m : Nat} (h : n ≤ m) : cK K n ≤ cK K m := by
  induction m with
  | zero =>
    have : n = 0 := by omega
    subst this
    exact Nat.le_refl _
  | succ m ih =>
    rcases Nat.lt_or_ge n (m + 1) with q | q
    · have := ih (by omega)
      by_cases hk : K m
      · rw [cK_succ_y hk]; omega
      · rw [cK_succ_n hk]; exact this
    · have : n = m + 1 := by omega
      subst this
      exact Nat.le_refl _
theorem rowN_lt {r : Nat → Int32} {p : Nat} (h : soug r p) : rowN r p < wd r := by
  have h1 := cK_n (K := soug r) (show p + 1 ≤ rP r from h.1)
  rw [cK_succ_y h] at h1
  unfold rowN wd
  omega
theorem rowN_inj {r : Nat → Int32} {p q : Nat} (hp : soug r p) (hq : soug r q) (h : rowN r p = rowN r q) : p = q := by
  unfold rowN at h
  rcases Nat.lt_trichotomy p q with z | z | z
  · have h1 := cK_n (K := soug r) (show p + 1 ≤ q from z)
    rw [cK_succ_y hp] at h1
    omega
  · exact z
  · have h1 := cK_n (K := soug r) (show q + 1 ≤ p from z)
    rw [cK_succ_y hq] at h1
    omega
theorem cK_hole {K : Nat → Prop} {j : Nat} (hj : ¬ K j) : ∀ n, j < n → cK K n < n
  | 0, h => by omega
  | n + 1, h => by
    have := cK_le (K := K) n
    by_cases e : j = n
    · subst e; rw [cK_succ_n hj]; omega
    · have := cK_hole hj n (by omega)
      by_cases hk : K n
      · rw [cK_succ_y hk]; omega
      · rw [cK_succ_n hk]; omega
theorem wd_5 {r : Nat → Int32} (hV : VR r) : wd r ≤ 5 := by
  have hP := hV.1
  rcases Nat.eq_zero_or_pos (rP r) with z | z
  · unfold wd; rw [z]; exact Nat.zero_le _
  · obtain ⟨b, b1, -⟩ := bas_ex hV z
    have hb : b < rP r := b1.elim (fun w => w.1) (fun w => w.1)
    have := cK_hole (K := soug r) (j := b) (fun w => b1.elim w.2.1 (fun q => w.2.2 q.2)) (rP r) hb
    unfold wd
    omega
theorem rowV_ne {r : Nat → Int32} (hV : VR r) {p : Nat} : rowV r p = -1 ↔ ¬ soug r p := by
  by_cases h : soug r p
  · rw [rowV_y h]
    have h1 := rowN_lt h
    have h2 := wd_5 hV
    refine ⟨fun z => ?_, fun z => absurd h z⟩
    have h0 := congrArg Int32.toInt z
    rw [nI_int (by omega)] at h0
    have : (-1 : Int32).toInt = -1 := by decide
    omega
  · rw [rowV_n h]; simp [h]
theorem m6 (i : Nat) : (6 : Int32) * nI i = nI (6 * i) := pk_mul 6 i
theorem m7 (i : Nat) : (7 : Int32) * nI i = nI (7 * i) := pk_mul 7 i
theorem a5 (n : Nat) : nI n + 5 = nI (n + 5) := nI_add n 5
theorem n5 : (5 : Int32) = nI 5 := by decide
theorem ok103 {n : Nat} (h : n < 36) : okA 4 103 (nI n) := okA_nI shp_103 h (by decide)
theorem ok104 {n : Nat} (h : n < 6) : okA 1 104 (nI n) := okA_nI shp_104 h (by decide)
theorem ok105 {n : Nat} (h : n < 6) : okA 4 105 (nI n) := okA_nI shp_105 h (by decide)
theorem lt36 {n : Nat} (h : n < 36) : ¬ (36 : Int32) ≤ nI n := by
  have : ∀ n, n < 36 → ¬ (36 : Int32) ≤ nI n := by decide
  exact this n h
/-- v where P holds, else nothing -/
noncomputable def dv (P : Prop) (v : Int64) : Int64 := @ite _ P (Classical.propDecidable P) v 0
theorem dv_t {P : Prop} {v : Int64} (h : P) : dv P v = v := @if_pos _ (Classical.propDecidable P) h _ _ _
theorem dv_f {P : Prop} {v : Int64} (h : ¬ P) : dv P v = 0 := @if_neg _ (Classical.propDecidable P) h _ _ _
/-- the model's rows as a table -/
def MV (h : Hp) (i j : Nat) : Int64 := h.2.1 103 (6 * i + j)
def rowsM (r : Nat → Int32) (h : Hp) : Prop := h.1 95 = r ∧ h.1 93 25 = nI (wd r) ∧ ∀ p, p < rP r → h.1 104 p = rowV r p
section
variable {d : Nat} {h : Hp} {Q : Option (Option Value) → Hp → Prop} {x y z : Int32} {u w v : Int64} {k l p q : Nat} {r : Nat → Int32}
theorem s95_104 {j : Nat} : (setI h 104 j x).1 95 = h.1 95 := setI_1 (by decide)
theorem m_laysRows1 (hV : VR r) : ∀ (n p : Nat) (hc : Hp), p + n = rP r → hc.1 95 = r → mfr h hc → hc.1 93 25 = nI (rowN r p) → (∀ j, j < p → hc.1 104 j = rowV r j) →
    (∀ hc' : Hp, mfr h hc' → rowsM r hc' → WP (d + 5) 144 67 [some (.ref 93), some (.int (nI (rP r)))] [] hc' Q) →
    WP (d + 5) 144 7 [some (.ref 93), some (.int (nI p))] [] hc Q := by
  have hP := hV.1
  intro n
  induction n with
  | zero =>
    intro p hc hp hr hf hw hj kk
    have hcd : nI (rP r) ≤ nI p := nI_le (by omega) (by omega)
    have : p = rP r := by omega
    subst this
    rw [S144_7]
    have k1 := kk hc hf ⟨hr, hw, hj⟩
    simp only [S144_0, S144_1, S144_2, S144_5, S144_6, S144_8, S144_9, S144_12, S144_15, S144_16, S144_19, S144_20, S144_21, S144_22, S144_23, S144_24, S144_27, S144_30, S144_31, S144_32, S144_35, S144_38, S144_41, S144_42, S144_45, S144_46, S144_47, S144_50, S144_51, S144_52, S144_53, S144_56, S144_57, S144_58, S144_61, S144_64, S144_67, S144_68, S144_70, S144_72, S144_75, S144_76, S144_79, S144_80, S144_81, S144_82, S144_85, S144_88, shp_93, RV_93_1, RV_93_13, RV_93_14, RV_93_15, RV_93_16, RV_93_17, RV_93_18, RV_93_19, RV_93_20, RV_93_23, RV_93_24, RV_93_27, RV_93_28, RV_93_29, m_points, kR_at, hr, hP.1, if_pos hcd, kl_ref] at k1 ⊢
    exact k1
  | succ n ih =>
    intro p hc hp hr hf hw hj kk
    have hcd : ¬ nI (rP r) ≤ nI p := nI_ge (by omega) (by omega)
    have hpl : p < rP r := by omega
    have hp6 : p < 6 := by omega
    have c1 := nI_cl (n := p) (by omega)
    have hr1 : (setI hc 104 p (-1)).1 95 = r := by rw [s95_104, hr]
    have f1 : mfr hc (setI hc 104 p (-1)) := frmF_I (Or.inl ⟨by decide, by decide⟩)
    rw [S144_7]
    simp only [S144_0, S144_1, S144_2, S144_5, S144_6, S144_8, S144_9, S144_12, S144_15, S144_16, S144_19, S144_20, S144_21, S144_22, S144_23, S144_24, S144_27, S144_30, S144_31, S144_32, S144_35, S144_38, S144_41, S144_42, S144_45, S144_46, S144_47, S144_50, S144_51, S144_52, S144_53, S144_56, S144_57, S144_58, S144_61, S144_64, S144_67, S144_68, S144_70, S144_72, S144_75, S144_76, S144_79, S144_80, S144_81, S144_82, S144_85, S144_88, shp_93, RV_93_1, RV_93_13, RV_93_14, RV_93_15, RV_93_16, RV_93_17, RV_93_18, RV_93_19, RV_93_20, RV_93_23, RV_93_24, RV_93_27, RV_93_28, RV_93_29, m_points, kR_at, hr, hP.1, if_neg hcd, ok104 hp6, c1, m_isFixed hp6, s95_104, ite1, kl_int, kl_ref, nI_add1, m_isRoot (h := setI hc 104 p (-1)) (d := d) (p := p) (by rw [hr1]; exact hV) (by rw [hr1]; exact hpl)]
    have hno : ¬ soug r p → WP (d + 5) 144 7 [some (.ref 93), some (.int (nI (p + 1)))] [] (setI hc 104 p (-1)) Q := by
      intro hs
      refine ih (p + 1) _ (by omega) hr1 (frmF_tr hf f1) ?_ (fun j hjp => ?_) kk
      · rw [setI_1 (by decide), hw]
        unfold rowN
        rw [cK_succ_n hs]
      · rw [setI_rd]
        by_cases e : j = p
        · subst e; rw [if_pos ⟨rfl, rfl⟩, rowV_n hs]
        · rw [if_neg (fun z => e z.2)]; exact hj j (by omega)
    by_cases hx : r (2 + p) = 1
    · rw [if_neg (fun z => z hx)]
      exact hno (fun z => z.2.1 ⟨hpl, hx⟩)
    · rw [if_pos hx]
      by_cases hrt : isRt r p
      · rw [if_neg (fun z => pb_0.mp z hrt)]
        exact hno (fun z => z.2.2 hrt)
      · rw [if_pos (pb_0.mpr hrt)]
        have hs : soug r p := ⟨hpl, fun z => hx z.2, hrt⟩
        have e25 : (setI hc 104 p (-1)).1 93 25 = nI (rowN r p) := by rw [setI_1 (by decide), hw]
        have e25' : (setI (setI hc 104 p (-1)) 104 p (nI (rowN r p))).1 93 25 = nI (rowN r p) := by rw [setI_1 (by decide), e25]
        simp only [e25, e25', nI_add1]
        refine ih (p + 1) _ (by omega) (by rw [setI_1 (by decide), s95_104, hr1]) (frmF_tr hf (frmF_tr f1 (frmF_tr (frmF_I (Or.inl ⟨by decide, by decide⟩)) (frmF_I (Or.inr ⟨rfl, by decide⟩))))) ?_ (fun j hjp => ?_) kk
        · rw [setI_rd, if_pos ⟨rfl, rfl⟩]
          unfold rowN
          rw [cK_succ_y hs]
        · rw [setI_1 (by decide), setI_rd]
          by_cases e : j = p
          · subst e; rw [if_pos ⟨rfl, rfl⟩, rowV_y hs]
          · rw [if_neg (fun z => e z.2), setI_rd, if_neg (fun z => e z.2)]; exact hj j (by omega)
theorem m_laysRows2 : ∀ (n p : Nat) (hc : Hp), p + n = 36 → mfr h hc → rowsM r hc → (∀ j, j < p → hc.2.1 103 j = 0) →
    (∀ hc' : Hp, mfr h hc' → rowsM r hc' → (∀ j, j < 36 → hc'.2.1 103 j = 0) → Q (some none) hc') →
    WP d 144 69 [some (.ref 93), some (.int (nI p))] [] hc Q := by
  intro n
  induction n with
  | zero =>
    intro p hc hp hf hr hj kk
    have : p = 36 := by omega
    subst this
    rw [S144_69]
    simp only [S144_0, S144_1, S144_2, S144_5, S144_6, S144_8, S144_9, S144_12, S144_15, S144_16, S144_19, S144_20, S144_21, S144_22, S144_23, S144_24, S144_27, S144_30, S144_31, S144_32, S144_35, S144_38, S144_41, S144_42, S144_45, S144_46, S144_47, S144_50, S144_51, S144_52, S144_53, S144_56, S144_57, S144_58, S144_61, S144_64, S144_67, S144_68, S144_70, S144_72, S144_75, S144_76, S144_79, S144_80, S144_81, S144_82, S144_85, S144_88, shp_93, RV_93_1, RV_93_13, RV_93_14, RV_93_15, RV_93_16, RV_93_17, RV_93_18, RV_93_19, RV_93_20, RV_93_23, RV_93_24, RV_93_27, RV_93_28, RV_93_29]
    rw [if_pos (by decide)]
    exact kk hc hf hr hj
  | succ n ih =>
    intro p hc hp hf hr hj kk
    have hp6 : p < 36 := by omega
    have c1 := nI_cl (n := p) (by omega)
    rw [S144_69]
    simp only [S144_0, S144_1, S144_2, S144_5, S144_6, S144_8, S144_9, S144_12, S144_15, S144_16, S144_19, S144_20, S144_21, S144_22, S144_23, S144_24, S144_27, S144_30, S144_31, S144_32, S144_35, S144_38, S144_41, S144_42, S144_45, S144_46, S144_47, S144_50, S144_51, S144_52, S144_53, S144_56, S144_57, S144_58, S144_61, S144_64, S144_67, S144_68, S144_70, S144_72, S144_75, S144_76, S144_79, S144_80, S144_81, S144_82, S144_85, S144_88, shp_93, RV_93_1, RV_93_13, RV_93_14, RV_93_15, RV_93_16, RV_93_17, RV_93_18, RV_93_19, RV_93_20, RV_93_23, RV_93_24, RV_93_27, RV_93_28, RV_93_29, if_neg (lt36 hp6), ok103 hp6, c1, kl_int, kl_ref, nI_add1]
    refine ih (p + 1) _ (by omega) (frmF_tr hf (frmF_L (Or.inl ⟨by decide, by decide⟩))) hr (fun j hjp => ?_) kk
    rw [setL_rd]
    by_cases e : j = p
    · subst e; rw [if_pos ⟨rfl, rfl⟩]
    · rw [if_neg (fun z => e z.2)]; exact hj j (by omega)
theorem m_laysRows (hr : h.1 95 = r) (hV : VR r) (kk : ∀ hc' : Hp, mfr h hc' → rowsM r hc' → (∀ j, j < 36 → hc'.2.1 103 j = 0) → Q (some none) hc') : WP (d + 5) 144 0 [some (.ref 93), none] [] h Q := by
  simp only [S144_0, S144_1, S144_2, S144_5, S144_6, S144_8, S144_9, S144_12, S144_15, S144_16, S144_19, S144_20, S144_21, S144_22, S144_23, S144_24, S144_27, S144_30, S144_31, S144_32, S144_35, S144_38, S144_41, S144_42, S144_45, S144_46, S144_47, S144_50, S144_51, S144_52, S144_53, S144_56, S144_57, S144_58, S144_61, S144_64, S144_67, S144_68, S144_70, S144_72, S144_75, S144_76, S144_79, S144_80, S144_81, S144_82, S144_85, S144_88, shp_93, RV_93_1, RV_93_13, RV_93_14, RV_93_15, RV_93_16, RV_93_17, RV_93_18, RV_93_19, RV_93_20, RV_93_23, RV_93_24, RV_93_27, RV_93_28, RV_93_29, kl_ref]
  rw [nI_l0]
  refine m_laysRows1 (h := h) hV (rP r) 0 _ (by omega) (by rw [setI_1 (by decide), hr]) (frmF_I (Or.inr ⟨rfl, by decide⟩)) ?_ (fun j hj => by omega) (fun hc' q1 q2 => ?_)
  · rw [setI_rd, if_pos ⟨rfl, rfl⟩]; rfl
  · simp only [S144_0, S144_1, S144_2, S144_5, S144_6, S144_8, S144_9, S144_12, S144_15, S144_16, S144_19, S144_20, S144_21, S144_22, S144_23, S144_24, S144_27, S144_30, S144_31, S144_32, S144_35, S144_38, S144_41, S144_42, S144_45, S144_46, S144_47, S144_50, S144_51, S144_52, S144_53, S144_56, S144_57, S144_58, S144_61, S144_64, S144_67, S144_68, S144_70, S144_72, S144_75, S144_76, S144_79, S144_80, S144_81, S144_82, S144_85, S144_88, kl_ref]
    rw [nI_l0]
    exact m_laysRows2 36 0 hc' (by omega) q1 q2 (fun j hj => by omega) kk
/-- one number to one place of a point's row -/
theorem m_adds (hV : VR r) (hm : rowsM r h) (hp : p < rP r) {c : Nat} (hc : c < 6)
    (kk : ∀ h' : Hp, mfr h h' → rowsM r h' → (∀ i j, i < 6 → j < 6 → MV h' i j = MV h i j + dv (soug r p ∧ i = rowN r p ∧ j = c) v) → Q (some none) h') :
    WP d 145 0 [some (.ref 93), some (.int (nI p)), some (.int (nI c)), some (.long v), none] [] h Q := by
  have hP := hV.1
  have hw := wd_5 hV
  have hp6 : p < 6 := by omega
  have c1 := nI_cl (n := p) (by omega)
  by_cases hs : soug r p
  · have hlt := rowN_lt hs
    have hne : ¬ nI (rowN r p) = -1 := fun z => (rowV_ne hV).mp (by rw [rowV_y hs]; exact z) hs
    have c2 := nI_cl (n := 6 * rowN r p + c) (by omega)
    simp only [S145_0, S145_1, S145_4, S145_5, S145_6, S145_7, S145_10, S145_11, S145_14, S145_16, S145_17, S145_20, S145_21, S145_22, S145_23, S145_24, S145_25, S145_26, S145_27, S145_28, S145_29, S145_30, shp_93, RV_93_1, RV_93_13, RV_93_14, RV_93_15, RV_93_16, RV_93_17, RV_93_18, RV_93_19, RV_93_20, RV_93_23, RV_93_24, RV_93_27, RV_93_28, RV_93_29, ok104 hp6, c1, hm.2.2 p hp, rowV_y hs, if_neg hne, m6, nI_add, ok103 (show 6 * rowN r p + c < 36 by omega), c2]
    refine kk _ (frmF_L (Or.inl ⟨by decide, by decide⟩)) hm (fun i j hi hj => ?_)
    unfold MV
    rw [setL_rd]
    by_cases e : i = rowN r p ∧ j = c
    · rw [if_pos ⟨rfl, by rw [e.1, e.2]⟩, dv_t ⟨hs, e⟩, e.1, e.2]
    · rw [if_neg (fun z => e (by omega)), dv_f (fun z => e z.2), Int64.add_zero]
  · simp only [S145_0, S145_1, S145_4, S145_5, S145_6, S145_7, S145_10, S145_11, S145_14, S145_16, S145_17, S145_20, S145_21, S145_22, S145_23, S145_24, S145_25, S145_26, S145_27, S145_28, S145_29, S145_30, shp_93, RV_93_1, RV_93_13, RV_93_14, RV_93_15, RV_93_16, RV_93_17, RV_93_18, RV_93_19, RV_93_20, RV_93_23, RV_93_24, RV_93_27, RV_93_28, RV_93_29, ok104 hp6, c1, hm.2.2 p hp, rowV_n hs, if_true]
    exact kk h frmF_rf hm (fun i j hi hj => by rw [dv_f (fun z => hs z.1), Int64.add_zero])
end
