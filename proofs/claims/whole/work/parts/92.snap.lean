/-! Acts kept and taken back, on both sides. -/
def pushed (t n : Nat) (h h' : Hp) (r : Nat → Int32) : Prop := h'.1 5 1 = nI ((t + 1) % 8) ∧ h'.1 5 2 = nI (min (n + 1) 8) ∧ CN h' (nid (2 + t)) r ∧ ∀ a, (33 ≤ a ∧ a ≤ 80) → ¬ (nid (2 + t) ≤ a ∧ a ≤ nid (2 + t) + 5) → h'.1 a = h.1 a
def snapped (n : Nat) (h h' : Hp) (r : Nat → Int32) : Prop := h'.1 93 21 = nI (min (n + 1) 8) ∧ eq69 (sub h' 98 (min (n + 1) 8 - 1)) r ∧ ∀ i, i < min (n + 1) 8 - 1 → eq69 (sub h' 98 i) (sub h 98 (if n = 8 then i + 1 else i))
def PSs (a j : Nat) : Prop := (33 ≤ a ∧ a ≤ 80) ∨ (a = 5 ∧ (j = 1 ∨ j = 2))
def SNs (a j : Nat) : Prop := a = 98 ∨ (a = 93 ∧ j = 21)
theorem n8 : (8 : Int32) = nI 8 := by decide
theorem la_69m (n : Nat) : (69 : Int32) * nI n = nI (69 * n) := (Int32.ofNat_mul 69 n).symm
theorem lt69 {n : Nat} (h : n < 69) : ¬ (69 : Int32) ≤ nI n := by
  rw [show (69 : Int32) = nI 69 by decide]
  exact nI_ge h (by decide)
theorem irem8 {n : Nat} (h : n < 2 ^ 30) : nI n - nI n / 8 * 8 = nI (n % 8) := by
  rw [n8]
  apply Int32.toInt_inj.mp
  have e1 : (nI n / nI 8).toInt = ((n / 8 : Nat) : Int) := by
    rw [Int32.toInt_div_of_ne_right _ _ (by decide), nI_toInt (by omega), nI_toInt (by omega)]
    rfl
  rw [Int32.toInt_sub, Int32.toInt_mul, e1, nI_toInt (by omega), nI_toInt (by omega), nI_toInt (by omega)]
  rw [Int.bmod_eq_of_le (n := ((n / 8 : Nat) : Int) * ((8 : Nat) : Int)) (by omega) (by omega), Int.bmod_eq_of_le (by omega) (by omega)]
  omega
section
variable {d : Nat} {h : Hp} {Q : Option (Option Value) → Hp → Prop} {x y z : Int32} {k l p q t n : Nat} {r : Nat → Int32}
theorem RV6 : ∀ i, i < 8 → RV 6 i = nid (2 + i) := by decide
theorem RT6 : ∀ i, i < 8 → (RT 6 i).isSome = true := by decide
theorem ok6 {i : Nat} (h : i < 8) : okR 6 (nI i) := ⟨Or.inl (okA_nI shp_6 h (by decide)), by rw [nI_cl (by omega)]; exact RT6 i h⟩
theorem shp_nid {k : Nat} (hk : k < 12) : shp (nid k) = some (0, 3) := (nid_ok k hk).1
theorem c_push (hk : k < 2) (hV : VR r) (hN : CN h (nid k) r) (ht : t < 8) (hn : n ≤ 8) (e1 : h.1 5 1 = nI t) (e2 : h.1 5 2 = nI n) (kk : ∀ h' : Hp, frmF PSs h h' → pushed t n h h' r → Q (some none) h') : WP (d + 2) 0 0 [some (.ref 5), some (.ref (nid k))] [] h Q := by
  simp only [S0_0, S0_1, S0_4, S0_5, S0_8, S0_9, S0_10, S0_13, S0_14, S0_15, S0_18, S0_19, S0_20, S0_22, S0_23, S0_26, S0_27, S0_28, S0_31, S0_32, S0_33, S0_35, S0_38, S0_41, shp_5, RV_5_0, e1, ok6 ht, nI_cl (show t < 2147483648 by omega), RV6 t ht, shp_nid (show 2 + t < 12 by omega)]
  refine c_copyFrom (NO_nid (show 2 + t < 12 by omega)) (NO_nid (show k < 12 by omega)) (by unfold nid; omega) hV hN (fun h1 f1 n1 => ?_)
  have g : h1.1 5 = h.1 5 := (f1.1 5 (by unfold nid; omega)).1
  have g1 : h1.1 5 1 = nI t := by rw [g]; exact e1
  have g2 : h1.1 5 2 = nI n := by rw [g]; exact e2
  have e8 : (8 : Int32) ≠ 0 := by decide
  have g3 : ∀ x, (setI h1 5 1 x).1 5 2 = nI n := fun x => by rw [setI_rd, if_neg (by decide)]; exact g2
  simp only [kV_at, S0_0, S0_1, S0_4, S0_5, S0_8, S0_9, S0_10, S0_13, S0_14, S0_15, S0_18, S0_19, S0_20, S0_22, S0_23, S0_26, S0_27, S0_28, S0_31, S0_32, S0_33, S0_35, S0_38, S0_41, shp_5, RV_5_0, g1, nI_add1, e8, ne_eq, not_false_eq_true, irem8 (show t + 1 < 2 ^ 30 by omega), g3]
  rw [n8, c_min (d := d + 1) (by omega) (by omega)]
  simp only [kR_at, S0_0, S0_1, S0_4, S0_5, S0_8, S0_9, S0_10, S0_13, S0_14, S0_15, S0_18, S0_19, S0_20, S0_22, S0_23, S0_26, S0_27, S0_28, S0_31, S0_32, S0_33, S0_35, S0_38, S0_41, shp_5, RV_5_0]
  have F : frmF PSs h h1 := ⟨fun a j hn => by
    have := f1.1 a (fun z => hn (Or.inl (by unfold nid at z; omega)))
    exact ⟨congrFun this.1 j, congrFun this.2 j⟩, f1.2⟩
  refine kk _ (frmF_tr F (frmF_tr (frmF_I (Or.inr ⟨rfl, Or.inl rfl⟩)) (frmF_I (Or.inr ⟨rfl, Or.inr rfl⟩)))) ⟨?_, ?_, ?_, ?_⟩
  · rw [setI_rd, if_neg (by decide), setI_rd, if_pos ⟨rfl, rfl⟩]
  · rw [setI_rd, if_pos ⟨rfl, rfl⟩]
  · refine CN_frm (S := fun a => a = 5) (frm_tr (frm_I rfl) (frm_I rfl)) (fun a z1 z2 z3 => by unfold nid at z1; omega) n1
  · intro a ha hna
    rw [setI_1 (by omega), setI_1 (by omega)]
    exact (f1.1 a hna).1
theorem c_pop (hV : VR r) (ht : t < 8) (hn : n < 8) (e1 : h.1 5 1 = nI t) (e2 : h.1 5 2 = nI (n + 1)) (hN : CN h (nid (2 + (t + 7) % 8)) r) (kk : ∀ h' : Hp, frmF (fun a j => (21 ≤ a ∧ a ≤ 26) ∨ (a = 5 ∧ (j = 1 ∨ j = 2))) h h' → h'.1 5 1 = nI ((t + 7) % 8) → h'.1 5 2 = nI n → CN h' 21 r → Q (some none) h') : WP (d + 1) 1 0 [some (.ref 5), some (.ref 21)] [] h Q := by
  have c0 : (0 : Int32) < nI (n + 1) := nI_lt (a := 0) (by omega) (by omega)
  have e8 : (8 : Int32) ≠ 0 := by decide
  have ea : nI t + 8 - 1 = nI (t + 7) := by rw [n8, nI_add, show t + 8 = t + 7 + 1 by omega, nI_pred]
  have ht7 : (t + 7) % 8 < 8 := by omega
  have g3 : ∀ x, (setI h 5 1 x).1 5 2 = nI (n + 1) := fun x => by rw [setI_rd, if_neg (by decide)]; exact e2
  have g4 : ∀ x y, (setI (setI h 5 1 x) 5 2 y).1 5 1 = x := fun x y => by rw [setI_rd, if_neg (by decide), setI_rd, if_pos ⟨rfl, rfl⟩]
  simp only [S1_0, S1_1, S1_4, S1_7, S1_8, S1_9, S1_10, S1_13, S1_15, S1_16, S1_17, S1_18, S1_20, S1_21, S1_24, S1_25, S1_26, S1_29, S1_30, S1_31, S1_34, S1_35, S1_36, S1_39, S1_40, S1_43, S1_44, S1_47, shp_5, RV_5_0, shp_21, RV_21_2, RV_21_5, RV_21_6, RV_21_7, RV_21_8, e1, e2, if_pos c0, ea, e8, ne_eq, not_false_eq_true, irem8 (show t + 7 < 2 ^ 30 by omega), g3, nI_pred, g4, ok6 ht7, nI_cl (show (t + 7) % 8 < 2147483648 by omega), RV6 _ ht7]
  have hN1 : CN (setI (setI h 5 1 (nI ((t + 7) % 8))) 5 2 (nI n)) (nid (2 + (t + 7) % 8)) r := CN_frm (S := fun a => a = 5) (frm_tr (frm_I rfl) (frm_I rfl)) (fun a z1 z2 z3 => by unfold nid at z1; omega) hN
  have g5 : (setI (setI h 5 1 (nI ((t + 7) % 8))) 5 2 (nI n)).1 5 1 = nI ((t + 7) % 8) := g4 _ _
  have g6 : (setI (setI h 5 1 (nI ((t + 7) % 8))) 5 2 (nI n)).1 5 2 = nI n := by rw [setI_rd, if_pos ⟨rfl, rfl⟩]
  have F0 : frmF (fun a j => (21 ≤ a ∧ a ≤ 26) ∨ (a = 5 ∧ (j = 1 ∨ j = 2))) h (setI (setI h 5 1 (nI ((t + 7) % 8))) 5 2 (nI n)) := frmF_tr (frmF_I (Or.inr ⟨rfl, Or.inl rfl⟩)) (frmF_I (Or.inr ⟨rfl, Or.inr rfl⟩))
  refine c_copyFrom (a := 21) (NO_nid (k := 0) (by omega)) (NO_nid (show 2 + (t + 7) % 8 < 12 by omega)) (by unfold nid; omega) hV hN1 (fun h1 f1 n1 => ?_)
  simp only [kV_at, S1_0, S1_1, S1_4, S1_7, S1_8, S1_9, S1_10, S1_13, S1_15, S1_16, S1_17, S1_18, S1_20, S1_21, S1_24, S1_25, S1_26, S1_29, S1_30, S1_31, S1_34, S1_35, S1_36, S1_39, S1_40, S1_43, S1_44, S1_47]
  have g : h1.1 5 = (setI (setI h 5 1 (nI ((t + 7) % 8))) 5 2 (nI n)).1 5 := (f1.1 5 (by omega)).1
  refine kk h1 (frmF_tr F0 (frmF_frm (fun a j z => Or.inl z) f1)) (by rw [g]; exact g5) (by rw [g]; exact g6) n1
/-! the model's -/
theorem m_copy_loop {a b s u na nb : Nat} (ha : shp a = some (1, na)) (hb : shp b = some (1, nb)) (hab : a ≠ b) (hs : s + 69 ≤ na) (hu : u + 69 ≤ nb) (hna : na < 1000) (hnb : nb < 1000) : ∀ (m k : Nat) (hc : Hp), k + m = 69 → frmF (fun x j => x = b ∧ u ≤ j ∧ j < u + 69) h hc → (∀ j, j < k → hc.1 b (u + j) = h.1 a (s + j)) → (∀ h' : Hp, frmF (fun x j => x = b ∧ u ≤ j ∧ j < u + 69) h h' → (∀ k, k < 69 → h'.1 b (u + k) = h.1 a (s + k)) → Q (some none) h') → WP d 119 3 [some (.ref a), some (.int (nI s)), some (.ref b), some (.int (nI u)), some (.int (nI k))] [] hc Q := by
  intro m
  induction m with
  | zero =>
    intro k hc hk hf he kk
    have : k = 69 := by omega
    subst this
    have hcd : (69 : Int32) ≤ nI 69 := by decide
    rw [S119_3]
    simp only [S119_0, S119_1, S119_5, S119_7, S119_10, S119_11, S119_12, S119_14, S119_15, S119_16, S119_17, S119_19, S119_20, S119_21, S119_22, S119_25, S119_28, if_pos hcd]
    exact kk hc hf he
  | succ m ih =>
    intro k hc hk hf he kk
    have e : hc.1 a (s + k) = h.1 a (s + k) := (hf.1 a (s + k) (fun z => hab z.1)).1
    rw [S119_3]
    simp only [S119_0, S119_1, S119_5, S119_7, S119_10, S119_11, S119_12, S119_14, S119_15, S119_16, S119_17, S119_19, S119_20, S119_21, S119_22, S119_25, S119_28, if_neg (lt69 (show k < 69 by omega)), nI_add, okA_nI ha (show s + k < na by omega) (by omega), okA_nI hb (show u + k < nb by omega) (by omega), nI_cl (show s + k < 2147483648 by omega), nI_cl (show u + k < 2147483648 by omega), nI_add1, kl_int, kl_ref, e]
    refine ih (k + 1) _ (by omega) (frmF_tr hf (frmF_I ⟨rfl, by omega, by omega⟩)) (fun j hj => ?_) kk
    rw [setI_rd]
    by_cases q : j = k
    · subst q
      rw [if_pos ⟨rfl, rfl⟩]
    · rw [if_neg (fun z => q (by omega))]
      exact he j (by omega)
theorem m_copy {a b s u na nb : Nat} (ha : shp a = some (1, na)) (hb : shp b = some (1, nb)) (hab : a ≠ b) (hs : s + 69 ≤ na) (hu : u + 69 ≤ nb) (hna : na < 1000) (hnb : nb < 1000) (kk : ∀ h' : Hp, frmF (fun x j => x = b ∧ u ≤ j ∧ j < u + 69) h h' → (∀ k, k < 69 → h'.1 b (u + k) = h.1 a (s + k)) → Q (some none) h') : WP d 119 0 [some (.ref a), some (.int (nI s)), some (.ref b), some (.int (nI u)), none] [] h Q := by
  simp only [S119_0, S119_1, S119_5, S119_7, S119_10, S119_11, S119_12, S119_14, S119_15, S119_16, S119_17, S119_19, S119_20, S119_21, S119_22, S119_25, S119_28, kl_int]
  rw [nI_l0]
  exact m_copy_loop ha hb hab hs hu hna hnb 69 0 h (by omega) frmF_rf (fun j hj => by omega) kk
theorem n483 : (483 : Int32) = nI 483 := by decide
theorem n69 : (69 : Int32) = nI 69 := by decide
theorem m_snap_loop : ∀ (m k : Nat) (hc : Hp), k + m = 483 → frmF SNs h hc → hc.1 93 21 = h.1 93 21 → (∀ j, hc.1 98 j = if j < k then h.1 98 (j + 69) else h.1 98 j) → (∀ h' : Hp, frmF SNs h h' → h'.1 93 21 = h.1 93 21 → (∀ j, h'.1 98 j = if j < 483 then h.1 98 (j + 69) else h.1 98 j) → WP d 179 39 [some (.ref 93), some (.int (nI 483))] [] h' Q) → WP d 179 11 [some (.ref 93), some (.int (nI k))] [] hc Q := by
  intro m
  induction m with
  | zero =>
    intro k hc hk hf h21 he kk
    have : k = 483 := by omega
    subst this
    have hcd : (483 : Int32) ≤ nI 483 := by decide
    have k1 := kk hc hf h21 he
    rw [S179_11, S179_12, S179_15, if_pos hcd]
    exact k1
  | succ m ih =>
    intro k hc hk hf h21 he kk
    have hcd : ¬ (483 : Int32) ≤ nI k := by rw [n483]; exact nI_ge (by omega) (by omega)
    rw [S179_11]
    simp only [S179_0, S179_1, S179_4, S179_6, S179_9, S179_10, S179_12, S179_15, S179_18, S179_19, S179_22, S179_23, S179_24, S179_27, S179_28, S179_30, S179_31, S179_32, S179_33, S179_36, S179_39, S179_40, S179_41, S179_44, S179_45, S179_46, S179_49, S179_50, S179_53, S179_54, S179_55, S179_58, S179_60, S179_61, S179_64, S179_65, S179_68, S179_69, S179_70, S179_73, S179_74, S179_75, S179_78, shp_93, RV_93_1, RV_93_13, RV_93_14, RV_93_15, RV_93_16, RV_93_17, RV_93_18, RV_93_19, RV_93_20, RV_93_23, RV_93_24, RV_93_27, RV_93_28, RV_93_29, if_neg hcd, n69, nI_add, okA_nI shp_98 (show k < 552 by omega) (by omega), okA_nI shp_98 (show k + 69 < 552 by omega) (by omega), nI_cl (show k < 2147483648 by omega), nI_cl (show k + 69 < 2147483648 by omega), nI_add1, kl_int, kl_ref]
    refine ih (k + 1) _ (by omega) (frmF_tr hf (frmF_I (Or.inl rfl))) (by rw [setI_1 (by decide)]; exact h21) (fun j => ?_) kk
    rw [setI_rd]
    by_cases q : j = k
    · subst q
      rw [if_pos ⟨rfl, rfl⟩, if_pos (by omega), he, if_neg (by omega)]
    · rw [if_neg (fun z => q z.2), he]
      by_cases c : j < k
      · rw [if_pos c, if_pos (by omega)]
      · rw [if_neg c, if_neg (by omega)]
theorem m_snap_end (hn : n < 8) {hc : Hp} {o1 : Option Value} (h21 : hc.1 93 21 = nI n) (kk : ∀ h' : Hp, frmF SNs hc h' → h'.1 93 21 = nI (n + 1) → (∀ j, j < 69 → h'.1 98 (69 * n + j) = hc.1 95 j) → (∀ j, j < 69 * n → h'.1 98 j = hc.1 98 j) → Q (some none) h') : WP (d + 1) 179 49 [some (.ref 93), o1] [] hc Q := by
  simp only [S179_0, S179_1, S179_4, S179_6, S179_9, S179_10, S179_12, S179_15, S179_18, S179_19, S179_22, S179_23, S179_24, S179_27, S179_28, S179_30, S179_31, S179_32, S179_33, S179_36, S179_39, S179_40, S179_41, S179_44, S179_45, S179_46, S179_49, S179_50, S179_53, S179_54, S179_55, S179_58, S179_60, S179_61, S179_64, S179_65, S179_68, S179_69, S179_70, S179_73, S179_74, S179_75, S179_78, shp_93, RV_93_1, RV_93_13, RV_93_14, RV_93_15, RV_93_16, RV_93_17, RV_93_18, RV_93_19, RV_93_20, RV_93_23, RV_93_24, RV_93_27, RV_93_28, RV_93_29, h21, la_69m]
  refine m_copy (s := 0) (u := 69 * n) shp_95 shp_98 (by decide) (by omega) (by omega) (by omega) (by omega) (fun h1 f1 e1 => ?_)
  have g : h1.1 93 21 = nI n := by rw [(f1.1 93 21 (fun z => absurd z.1 (by decide))).1]; exact h21
  simp only [kV_at, S179_0, S179_1, S179_4, S179_6, S179_9, S179_10, S179_12, S179_15, S179_18, S179_19, S179_22, S179_23, S179_24, S179_27, S179_28, S179_30, S179_31, S179_32, S179_33, S179_36, S179_39, S179_40, S179_41, S179_44, S179_45, S179_46, S179_49, S179_50, S179_53, S179_54, S179_55, S179_58, S179_60, S179_61, S179_64, S179_65, S179_68, S179_69, S179_70, S179_73, S179_74, S179_75, S179_78, shp_93, RV_93_1, RV_93_13, RV_93_14, RV_93_15, RV_93_16, RV_93_17, RV_93_18, RV_93_19, RV_93_20, RV_93_23, RV_93_24, RV_93_27, RV_93_28, RV_93_29, g, nI_add1]
  refine kk _ (frmF_tr ⟨fun a j hq => f1.1 a j (fun z => hq (Or.inl z.1)), f1.2⟩ (frmF_I (Or.inr ⟨rfl, rfl⟩))) (by rw [setI_rd, if_pos ⟨rfl, rfl⟩]) (fun j hj => ?_) (fun j hj => ?_)
  · rw [setI_1 (by decide), e1 j hj, Nat.zero_add]
  · rw [setI_1 (by decide)]
    exact (f1.1 98 j (fun z => by omega)).1
theorem m_snap (hn : n ≤ 8) (h21 : h.1 93 21 = nI n) (kk : ∀ h' : Hp, frmF SNs h h' → snapped n h h' (h.1 95) → Q (some none) h') : WP (d + 1) 179 0 [some (.ref 93), none] [] h Q := by
  rw [S179_0, S179_1 shp_93, h21, S179_4, S179_6]
  by_cases c : n = 8
  · subst c
    rw [if_pos (by decide)]
    simp only [S179_0, S179_1, S179_4, S179_6, S179_9, S179_10, S179_12, S179_15, S179_18, S179_19, S179_22, S179_23, S179_24, S179_27, S179_28, S179_30, S179_31, S179_32, S179_33, S179_36, S179_40, S179_41, S179_44, S179_45, S179_46, S179_49, S179_50, S179_53, S179_54, S179_55, S179_58, S179_60, S179_61, S179_64, S179_65, S179_68, S179_69, S179_70, S179_73, S179_74, S179_75, S179_78, kl_ref]
    rw [nI_l0]
    refine m_snap_loop (h := h) 483 0 h (by omega) frmF_rf rfl (fun j => by rw [if_neg (by omega)]) (fun h1 f1 e1 e2 => ?_)
    rw [h21] at e1
    have e3 : nI 8 - 1 = nI 7 := nI_pred 7
    rw [S179_39, S179_40, S179_41 shp_93, e1, S179_44, S179_45, e3, S179_46 shp_93]
    refine m_snap_end (n := 7) (by omega) (by rw [setI_rd, if_pos ⟨rfl, rfl⟩]) (fun h2 f2 e4 e5 e6 => ?_)
    have r95 : (setI h1 93 21 (nI 7)).1 95 = h.1 95 := by
      rw [setI_1 (by decide)]
      exact funext (fun j => (f1.1 95 j (by unfold SNs; omega)).1)
    rw [r95] at e5
    have r98 : (setI h1 93 21 (nI 7)).1 98 = h1.1 98 := setI_1 (by decide)
    rw [r98] at e6
    refine kk h2 (frmF_tr f1 (frmF_tr (frmF_I (Or.inr ⟨rfl, rfl⟩)) f2)) ⟨e4, fun j hj => e5 j hj, fun i hi j hj => ?_⟩
    have hi7 : i < 7 := hi
    show h2.1 98 (69 * i + j) = h.1 98 (69 * (if 8 = 8 then i + 1 else i) + j)
    rw [e6 _ (by omega), e2, if_pos (by omega), if_pos rfl, show 69 * i + j + 69 = 69 * (i + 1) + j by omega]
  · have hne : ¬ nI n = 8 := fun z => c ((nI_eq (b := 8) (by omega) (by omega)).mp z)
    rw [if_neg hne]
    refine m_snap_end (n := n) (by omega) h21 (fun h2 f2 e4 e5 e6 => ?_)
    have em : min (n + 1) 8 = n + 1 := by omega
    refine kk h2 f2 ?_
    unfold snapped
    rw [em, Nat.add_sub_cancel]
    refine ⟨e4, fun j hj => e5 j hj, fun i hi j hj => ?_⟩
    show h2.1 98 (69 * i + j) = h.1 98 (69 * (if n = 8 then i + 1 else i) + j)
    rw [if_neg c]
    exact e6 _ (by omega)
end
