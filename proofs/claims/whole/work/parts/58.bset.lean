/-! The class's elimination, and what it settles of the balance. -/
section
variable {d : Nat} {h : Hp} {Q : Option (Option Value) → Hp → Prop} {x y z t : Int32} {u w v rs : Int64} {k l p q : Nat} {r : Nat → Int32}
theorem s12 {a j : Nat} (ha : a ≠ 12) : (setL h a j v).2.1 12 = h.2.1 12 := setL_1 (Ne.symm ha)
theorem c_clear_loop {T : Nat → Nat → Int64} {i k : Nat} {pv piv : Int64} (hi : i < 5) (hk : k < 5) (hik : i ≠ k) (hpv : pv ≠ 0) : ∀ (m j : Nat) (hc : Hp), j + m = 11 → cfr h hc → rowsC r hc → hc.2.1 12 4 = pv → (∀ a b, a < 5 → b < 11 → BV hc a b = if a = i ∧ b < j then (piv * T i b - T i k * T k b) / pv else T a b) →
    (∀ hc' : Hp, cfr h hc' → rowsC r hc' → hc'.2.1 12 4 = pv → (∀ a b, a < 5 → b < 11 → BV hc' a b = if a = i then (piv * T i b - T i k * T k b) / pv else T a b) → Q (some none) hc') →
    WP (d + 1) 18 13 [some (.ref 12), some (.int (nI i)), some (.int (nI k)), some (.long piv), none, some (.long (T i k)), none, some (.int (nI j))] [] hc Q := by
  intro m
  induction m with
  | zero =>
    intro j hc hj hf hr hh he kk
    have : j = 11 := by omega
    subst this
    rw [S18_13]
    simp only [S18_0, S18_1, S18_4, S18_5, S18_6, S18_7, S18_8, S18_10, S18_11, S18_15, S18_17, S18_20, S18_21, S18_24, S18_25, S18_26, S18_28, S18_29, S18_30, S18_33, S18_34, S18_35, S18_37, S18_38, S18_39, S18_41, S18_42, S18_45, S18_46, S18_47, S18_49, S18_50, S18_51, S18_52, S18_53, S18_56, S18_59, S18_60, S18_63, S18_66, shp_12, RV_12_1, RV_12_2, RV_12_3]
    rw [if_pos (by decide)]
    refine kk hc hf hr hh (fun a b ha hb => ?_)
    rw [he a b ha hb]
    by_cases z : a = i
    · rw [if_pos ⟨z, hb⟩, if_pos z]
    · rw [if_neg (fun y => z y.1), if_neg z]
  | succ m ih =>
    intro j hc hj hf hr hh he kk
    have hj11 : j < 11 := by omega
    have q1 := he i j hi hj11
    rw [if_neg (fun z => absurd z.2 (by omega))] at q1
    have q2 := he k j hk hj11
    rw [if_neg (fun z => hik z.1.symm)] at q2
    unfold BV at q1 q2
    rw [S18_13]
    simp only [S18_0, S18_1, S18_4, S18_5, S18_6, S18_7, S18_8, S18_10, S18_11, S18_15, S18_17, S18_20, S18_21, S18_24, S18_25, S18_26, S18_28, S18_29, S18_30, S18_33, S18_34, S18_35, S18_37, S18_38, S18_39, S18_41, S18_42, S18_45, S18_46, S18_47, S18_49, S18_50, S18_51, S18_52, S18_53, S18_56, S18_59, S18_60, S18_63, S18_66, shp_12, RV_12_1, RV_12_2, RV_12_3, if_neg (lt11 hj11), ok14 hi, ok14 hk, nI_cl (show i < 2147483648 by omega), nI_cl (show k < 2147483648 by omega), nI_cl (show j < 2147483648 by omega), RV14 _ hi, RV14 _ hk, ok15 hi hj11, ok15 hk hj11, q1, q2, hh, c_quotient, if_neg hpv, kR_at, kl_none, kl_int, nI_add1]
    refine ih (j + 1) _ (by omega) (frmF_tr hf (frmF_L ⟨by omega, by omega⟩)) (rowsC_L ⟨by omega, by omega⟩ hr) (by rw [s12 (by omega)]; exact hh) (fun a b ha hb => ?_) kk
    rw [BV_set]
    by_cases z : a = i ∧ b = j
    · rw [if_pos z, if_pos ⟨z.1, by omega⟩, z.2]
    · rw [if_neg z, he a b ha hb]
      by_cases y : a = i ∧ b < j
      · rw [if_pos y, if_pos ⟨y.1, by omega⟩]
      · rw [if_neg y, if_neg (fun w => y ⟨w.1, by have := w.2; by_cases e : b = j; exact absurd ⟨w.1, e⟩ z; omega⟩)]
theorem c_clearColumn {T : Nat → Nat → Int64} {i k : Nat} {pv piv : Int64} (hi : i < 5) (hk : k < 5) (hik : i ≠ k) (hpv : pv ≠ 0) (hr : rowsC r h) (hh : h.2.1 12 4 = pv) (he : ∀ a b, a < 5 → b < 11 → BV h a b = T a b)
    (kk : ∀ hc' : Hp, cfr h hc' → rowsC r hc' → hc'.2.1 12 4 = pv → (∀ a b, a < 5 → b < 11 → BV hc' a b = if a = i then (piv * T i b - T i k * T k b) / pv else T a b) → Q (some none) hc') :
    WP (d + 1) 18 0 [some (.ref 12), some (.int (nI i)), some (.int (nI k)), some (.long piv), none, none, none, none] [] h Q := by
  have q1 := he i k hi (by omega)
  unfold BV at q1
  simp only [S18_0, S18_1, S18_4, S18_5, S18_6, S18_7, S18_8, S18_10, S18_11, S18_15, S18_17, S18_20, S18_21, S18_24, S18_25, S18_26, S18_28, S18_29, S18_30, S18_33, S18_34, S18_35, S18_37, S18_38, S18_39, S18_41, S18_42, S18_45, S18_46, S18_47, S18_49, S18_50, S18_51, S18_52, S18_53, S18_56, S18_59, S18_60, S18_63, S18_66, shp_12, RV_12_1, RV_12_2, RV_12_3, ok14 hi, nI_cl (show i < 2147483648 by omega), nI_cl (show k < 2147483648 by omega), RV14 _ hi, ok15 hi (show k < 11 by omega), q1, kl_none]
  rw [nI_l0]
  exact c_clear_loop (h := h) hi hk hik hpv 11 0 h (by omega) frmF_rf hr hh (fun a b ha hb => by rw [if_neg (fun z => by omega)]; exact he a b ha hb) kk
theorem c_elim_i {T : Nat → Nat → Int64} {n k : Nat} {pv : Int64} (hn : n ≤ 5) (hnw : n = wd r) (hk : k < n) (hpv : pv ≠ 0) : ∀ (m i : Nat) (hc : Hp), i + m = n → cfr h hc → rowsC r hc → hc.2.1 12 4 = pv → (∀ a b, a < 5 → b < 11 → BV hc a b = if a < i ∧ a < n ∧ a ≠ k then (T k k * T a b - T a k * T k b) / pv else T a b) →
    (∀ (hc' : Hp) (o4 : Option Value), cfr h hc' → rowsC r hc' → hc'.2.1 12 4 = pv → (∀ a b, a < 5 → b < 11 → BV hc' a b = gjS n k pv T a b) → WP (d + 2) 17 56 [some (.ref 12), some (.int (nI k)), some (.long (T k k)), none, o4] [] hc' Q) →
    WP (d + 2) 17 27 [some (.ref 12), some (.int (nI k)), some (.long (T k k)), none, some (.int (nI i))] [] hc Q := by
  intro m
  induction m with
  | zero =>
    intro i hc hi hf hr hh he kk
    have : i = n := by omega
    subst this
    have hcd : nI (wd r) ≤ nI i := nI_le (by omega) (by omega)
    have k1 := kk hc (some (.int (nI i))) hf hr hh (fun a b ha hb => by
      rw [he a b ha hb]
      unfold gjS
      by_cases z : a < i ∧ a ≠ k
      · rw [if_pos z, if_pos ⟨z.1, z.1, z.2⟩]
      · rw [if_neg z, if_neg (fun y => z y.2)])
    rw [S17_27]
    simp only [S17_0, S17_1, S17_2, S17_5, S17_6, S17_8, S17_9, S17_12, S17_15, S17_16, S17_19, S17_20, S17_21, S17_22, S17_23, S17_24, S17_25, S17_29, S17_30, S17_33, S17_36, S17_38, S17_39, S17_42, S17_43, S17_45, S17_46, S17_47, S17_50, S17_53, S17_56, S17_57, S17_58, S17_61, S17_64, S17_67, shp_12, RV_12_1, RV_12_2, RV_12_3, hr.2.2.1, if_pos hcd] at k1 ⊢
    exact k1
  | succ m ih =>
    intro i hc hi hf hr hh he kk
    have hcd : ¬ nI (wd r) ≤ nI i := nI_ge (by omega) (by omega)
    rw [S17_27]
    simp only [S17_0, S17_1, S17_2, S17_5, S17_6, S17_8, S17_9, S17_12, S17_15, S17_16, S17_19, S17_20, S17_21, S17_22, S17_23, S17_24, S17_25, S17_29, S17_30, S17_33, S17_36, S17_38, S17_39, S17_42, S17_43, S17_45, S17_46, S17_47, S17_50, S17_53, S17_56, S17_57, S17_58, S17_61, S17_64, S17_67, shp_12, RV_12_1, RV_12_2, RV_12_3, hr.2.2.1, if_neg hcd, nI_eq (show i < 2 ^ 31 by omega) (show k < 2 ^ 31 by omega), kl_none, nI_add1]
    by_cases hik : i = k
    · rw [if_pos hik]
      refine ih (i + 1) hc (by omega) hf hr hh (fun a b ha hb => ?_) kk
      rw [he a b ha hb]
      by_cases z : a < i ∧ a < n ∧ a ≠ k
      · rw [if_pos z, if_pos ⟨by omega, z.2⟩]
      · rw [if_neg z, if_neg (fun y => z ⟨by omega, y.2⟩)]
    · rw [if_neg hik]
      refine c_clearColumn (d := d) (T := BV hc) (show i < 5 by omega) (show k < 5 by omega) hik hpv hr hh (fun a b _ _ => rfl) (fun hc' f2 r2 h2 e2 => ?_)
      simp only [kV_at, S17_0, S17_1, S17_2, S17_5, S17_6, S17_8, S17_9, S17_12, S17_15, S17_16, S17_19, S17_20, S17_21, S17_22, S17_23, S17_24, S17_25, S17_29, S17_30, S17_33, S17_36, S17_38, S17_39, S17_42, S17_43, S17_45, S17_46, S17_47, S17_50, S17_53, S17_56, S17_57, S17_58, S17_61, S17_64, S17_67, kl_none, nI_add1]
      refine ih (i + 1) hc' (by omega) (frmF_tr hf f2) r2 h2 (fun a b ha hb => ?_) kk
      rw [e2 a b ha hb]
      have e1 := he i b (by omega) hb
      rw [if_neg (fun z => absurd z.1 (by omega))] at e1
      have e3 := he i k (by omega) (by omega)
      rw [if_neg (fun z => absurd z.1 (by omega))] at e3
      have e4 := he k b (by omega) hb
      rw [if_neg (fun z => z.2.2 rfl)] at e4
      by_cases z : a = i
      · subst z
        rw [if_pos rfl, if_pos ⟨by omega, by omega, hik⟩, e1, e3, e4]
      · rw [if_neg z, he a b ha hb]
        by_cases y : a < i ∧ a < n ∧ a ≠ k
        · rw [if_pos y, if_pos ⟨by omega, y.2⟩]
        · rw [if_neg y, if_neg (fun w => y ⟨by omega, w.2⟩)]
theorem c_elim_k (hV : VR r) {T0 : Nat → Nat → Int64} (hnz : ∀ k, k < wd r → (gjT (wd r) T0 k).2 ≠ 0) : ∀ (m k : Nat) (hc : Hp) (o2 o4 : Option Value), k + m = wd r → cfr h hc → rowsC r hc → hc.2.1 12 4 = (gjT (wd r) T0 k).2 → (∀ a b, a < 5 → b < 11 → BV hc a b = (gjT (wd r) T0 k).1 a b) →
    (∀ hc' : Hp, cfr h hc' → rowsC r hc' → hc'.2.1 12 4 = (gjT (wd r) T0 (wd r)).2 → (∀ a b, a < 5 → b < 11 → BV hc' a b = (gjT (wd r) T0 (wd r)).1 a b) → Q (some none) hc') →
    WP (d + 2) 17 7 [some (.ref 12), some (.int (nI k)), o2, none, o4] [] hc Q := by
  have hw := wd_5 hV
  intro m
  induction m with
  | zero =>
    intro k hc o2 o4 hk hf hr hh he kk
    have hcd : nI (wd r) ≤ nI k := nI_le (by omega) (by omega)
    have : k = wd r := by omega
    subst this
    rw [S17_7]
    simp only [S17_0, S17_1, S17_2, S17_5, S17_6, S17_8, S17_9, S17_12, S17_15, S17_16, S17_19, S17_20, S17_21, S17_22, S17_23, S17_24, S17_25, S17_29, S17_30, S17_33, S17_36, S17_38, S17_39, S17_42, S17_43, S17_45, S17_46, S17_47, S17_50, S17_53, S17_56, S17_57, S17_58, S17_61, S17_64, S17_67, shp_12, RV_12_1, RV_12_2, RV_12_3, hr.2.2.1, if_pos hcd]
    exact kk hc hf hr hh he
  | succ m ih =>
    intro k hc o2 o4 hk hf hr hh he kk
    have hcd : ¬ nI (wd r) ≤ nI k := nI_ge (by omega) (by omega)
    have hk5 : k < 5 := by omega
    have q1 := he k k hk5 (by omega)
    unfold BV at q1
    rw [S17_7]
    simp only [S17_0, S17_1, S17_2, S17_5, S17_6, S17_8, S17_9, S17_12, S17_15, S17_16, S17_19, S17_20, S17_21, S17_22, S17_23, S17_24, S17_25, S17_29, S17_30, S17_33, S17_36, S17_38, S17_39, S17_42, S17_43, S17_45, S17_46, S17_47, S17_50, S17_53, S17_56, S17_57, S17_58, S17_61, S17_64, S17_67, shp_12, RV_12_1, RV_12_2, RV_12_3, hr.2.2.1, if_neg hcd, ok14 hk5, nI_cl (show k < 2147483648 by omega), RV14 _ hk5, ok15 hk5 (show k < 11 by omega), q1, kl_int, kl_none, kl_long]
    rw [nI_l0]
    refine c_elim_i (h := h) (T := (gjT (wd r) T0 k).1) hw rfl (by omega) (hnz k (by omega)) (wd r) 0 hc (by omega) hf hr hh (fun a b ha hb => by rw [if_neg (fun z => by omega)]; exact he a b ha hb) (fun hc' p4 f2 r2 h2 e2 => ?_)
    simp only [S17_0, S17_1, S17_2, S17_5, S17_6, S17_8, S17_9, S17_12, S17_15, S17_16, S17_19, S17_20, S17_21, S17_22, S17_23, S17_24, S17_25, S17_29, S17_30, S17_33, S17_36, S17_38, S17_39, S17_42, S17_43, S17_45, S17_46, S17_47, S17_50, S17_53, S17_56, S17_57, S17_58, S17_61, S17_64, S17_67, shp_12, RV_12_1, RV_12_2, RV_12_3, kl_ref, nI_add1]
    refine ih (k + 1) _ _ _ (by omega) (frmF_tr f2 (frmF_L ⟨by decide, by decide⟩)) (rowsC_L ⟨by decide, by decide⟩ r2) (by rw [setL_rd, if_pos ⟨rfl, rfl⟩]; rfl) (fun a b ha hb => ?_) kk
    unfold BV
    rw [setL_1 (by omega)]
    exact e2 a b ha hb
theorem c_eliminate (hV : VR r) {T0 : Nat → Nat → Int64} (hnz : ∀ k, k < wd r → (gjT (wd r) T0 k).2 ≠ 0) (hr : rowsC r h) (he : ∀ a b, a < 5 → b < 11 → BV h a b = T0 a b)
    (kk : ∀ hc' : Hp, cfr h hc' → rowsC r hc' → hc'.2.1 12 4 = (gjT (wd r) T0 (wd r)).2 → (∀ a b, a < 5 → b < 11 → BV hc' a b = (gjT (wd r) T0 (wd r)).1 a b) → Q (some none) hc') :
    WP (d + 2) 17 0 [some (.ref 12), none, none, none, none] [] h Q := by
  simp only [S17_0, S17_1, S17_2, S17_5, S17_6, S17_8, S17_9, S17_12, S17_15, S17_16, S17_19, S17_20, S17_21, S17_22, S17_23, S17_24, S17_25, S17_29, S17_30, S17_33, S17_36, S17_38, S17_39, S17_42, S17_43, S17_45, S17_46, S17_47, S17_50, S17_53, S17_56, S17_57, S17_58, S17_61, S17_64, S17_67, shp_12, RV_12_1, RV_12_2, RV_12_3, kl_ref]
  rw [nI_l0]
  refine c_elim_k (h := h) hV hnz (wd r) 0 _ _ _ (by omega) (frmF_L ⟨by decide, by decide⟩) (rowsC_L ⟨by decide, by decide⟩ hr) (by rw [setL_rd, if_pos ⟨rfl, rfl⟩]; rfl) (fun a b ha hb => ?_) kk
  unfold BV
  rw [setL_1 (by omega)]
  exact he a b ha hb
/-! settle -/
noncomputable def TCf (r : Nat → Int32) : (Nat → Nat → Int64) × Int64 := gjT (wd r) (TCn r (rL r)) (wd r)
noncomputable def abV (r : Nat → Int32) (T : (Nat → Nat → Int64) × Int64) (p : Nat) : Int64 := dv (soug r p) (T.1 (rowN r p) 10) + dv (¬ soug r p) (knV r p * T.2)
def balOK (r : Nat → Int32) (h : Hp) : Prop := h.1 12 0 = nI (wd r) ∧ (∀ p, p < 6 → h.1 13 p = rowV r p) ∧ h.2.1 12 4 = (TCf r).2 ∧ (∀ a b, a < 5 → b < 11 → BV h a b = (TCf r).1 a b) ∧ ∀ p, p < rP r → h.2.1 20 p = abV r (TCf r) p
theorem c_bset_j {i : Nat} (hi : i < 5) {o5 : Option Value} : ∀ (m j : Nat) (hc : Hp), j + m = 11 → cfr h hc → rowsC r hc → (∀ a b, a < 5 → b < 11 → (a < i → BV hc a b = if b = 5 + a then 1 else 0) ∧ (a = i → b < j → BV hc a b = 0)) →
    (∀ hc' : Hp, cfr h hc' → rowsC r hc' → (∀ a b, a < 5 → b < 11 → a < i + 1 → BV hc' a b = if b = 5 + a then 1 else 0) → WP d 3 50 [some (.ref 12), some (.ref 21), some (.ref 8), some (.int (nI i)), some (.int 11), o5] [] hc' Q) →
    WP d 3 16 [some (.ref 12), some (.ref 21), some (.ref 8), some (.int (nI i)), some (.int (nI j)), o5] [] hc Q := by
  intro m
  induction m with
  | zero =>
    intro j hc hj hf hr he kk
    have : j = 11 := by omega
    subst this
    have k1 := kk (setL hc (15 + i) (5 + i) 1) (frmF_tr hf (frmF_L ⟨by omega, by omega⟩)) (rowsC_L ⟨by omega, by omega⟩ hr) (fun a b ha hb hai => by
      rw [BV_set]
      by_cases z : a = i ∧ b = 5 + i
      · rw [if_pos z, if_pos (by omega)]
      · rw [if_neg z]
        by_cases y : a = i
        · rw [(he a b ha hb).2 y hb, if_neg (fun w => z ⟨y, by omega⟩)]
        · exact (he a b ha hb).1 (by omega))
    rw [S3_16]
    simp only [S3_0, S3_1, S3_2, S3_3, S3_6, S3_7, S3_9, S3_10, S3_13, S3_14, S3_18, S3_20, S3_23, S3_24, S3_27, S3_28, S3_29, S3_31, S3_32, S3_33, S3_36, S3_39, S3_40, S3_43, S3_44, S3_45, S3_46, S3_47, S3_48, S3_49, S3_50, S3_53, S3_56, S3_57, S3_59, S3_60, S3_63, S3_66, S3_67, S3_70, S3_71, S3_74, S3_75, S3_78, S3_79, S3_82, S3_83, S3_84, S3_85, S3_86, S3_89, S3_90, S3_91, S3_92, S3_93, S3_95, S3_96, S3_97, S3_98, S3_101, S3_102, S3_103, S3_104, S3_107, S3_108, S3_109, S3_110, S3_113, S3_114, S3_115, S3_116, S3_118, S3_119, S3_122, S3_123, S3_124, S3_125, S3_128, S3_129, S3_130, S3_131, S3_134, S3_135, S3_136, S3_137, S3_140, S3_141, S3_142, S3_143, S3_145, S3_148, S3_151, S3_154, S3_155, S3_158, S3_159, S3_161, S3_162, S3_165, S3_168, S3_169, S3_172, S3_173, S3_174, S3_177, S3_178, S3_179, S3_180, S3_183, S3_184, S3_185, S3_188, S3_189, S3_192, S3_193, S3_196, S3_197, S3_200, S3_201, S3_204, S3_205, S3_206, S3_207, S3_209, S3_210, S3_211, S3_214, S3_217, shp_12, RV_12_1, RV_12_2, RV_12_3, ok14 hi, nI_cl (show i < 2147483648 by omega), RV14 _ hi, la_5, ok15 hi (show 5 + i < 11 by omega), nI_cl (show 5 + i < 2147483648 by omega), kl_ref] at k1 ⊢
    rw [if_pos (by decide)]
    exact k1
  | succ m ih =>
    intro j hc hj hf hr he kk
    have hj11 : j < 11 := by omega
    rw [S3_16]
    simp only [S3_0, S3_1, S3_2, S3_3, S3_6, S3_7, S3_9, S3_10, S3_13, S3_14, S3_18, S3_20, S3_23, S3_24, S3_27, S3_28, S3_29, S3_31, S3_32, S3_33, S3_36, S3_39, S3_40, S3_43, S3_44, S3_45, S3_46, S3_47, S3_48, S3_49, S3_50, S3_53, S3_56, S3_57, S3_59, S3_60, S3_63, S3_66, S3_67, S3_70, S3_71, S3_74, S3_75, S3_78, S3_79, S3_82, S3_83, S3_84, S3_85, S3_86, S3_89, S3_90, S3_91, S3_92, S3_93, S3_95, S3_96, S3_97, S3_98, S3_101, S3_102, S3_103, S3_104, S3_107, S3_108, S3_109, S3_110, S3_113, S3_114, S3_115, S3_116, S3_118, S3_119, S3_122, S3_123, S3_124, S3_125, S3_128, S3_129, S3_130, S3_131, S3_134, S3_135, S3_136, S3_137, S3_140, S3_141, S3_142, S3_143, S3_145, S3_148, S3_151, S3_154, S3_155, S3_158, S3_159, S3_161, S3_162, S3_165, S3_168, S3_169, S3_172, S3_173, S3_174, S3_177, S3_178, S3_179, S3_180, S3_183, S3_184, S3_185, S3_188, S3_189, S3_192, S3_193, S3_196, S3_197, S3_200, S3_201, S3_204, S3_205, S3_206, S3_207, S3_209, S3_210, S3_211, S3_214, S3_217, shp_12, RV_12_1, RV_12_2, RV_12_3, if_neg (lt11 hj11), ok14 hi, nI_cl (show i < 2147483648 by omega), nI_cl (show j < 2147483648 by omega), RV14 _ hi, ok15 hi hj11, kl_int, nI_add1]
    refine ih (j + 1) _ (by omega) (frmF_tr hf (frmF_L ⟨by omega, by omega⟩)) (rowsC_L ⟨by omega, by omega⟩ hr) (fun a b ha hb => ⟨fun z => ?_, fun z z2 => ?_⟩) kk
    · rw [BV_set, if_neg (fun w => by omega)]
      exact (he a b ha hb).1 z
    · rw [BV_set]
      by_cases y : b = j
      · rw [if_pos ⟨z, y⟩]
      · rw [if_neg (fun w => y w.2)]
        exact (he a b ha hb).2 z (by omega)
theorem c_bset_i {o5 : Option Value} : ∀ (m i : Nat) (hc : Hp) (o4 : Option Value), i + m = 5 → cfr h hc → rowsC r hc → (∀ a b, a < 5 → b < 11 → a < i → BV hc a b = if b = 5 + a then 1 else 0) →
    (∀ (hc' : Hp) (o4 : Option Value), cfr h hc' → rowsC r hc' → (∀ a b, a < 5 → b < 11 → BV hc' a b = TCn r 0 a b) → WP d 3 56 [some (.ref 12), some (.ref 21), some (.ref 8), some (.int 5), o4, o5] [] hc' Q) →
    WP d 3 8 [some (.ref 12), some (.ref 21), some (.ref 8), some (.int (nI i)), o4, o5] [] hc Q := by
  intro m
  induction m with
  | zero =>
    intro i hc o4 hi hf hr he kk
    have : i = 5 := by omega
    subst this
    have k1 := kk hc o4 hf hr (fun a b ha hb => he a b ha hb ha)
    rw [S3_8]
    simp only [S3_0, S3_1, S3_2, S3_3, S3_6, S3_7, S3_9, S3_10, S3_13, S3_14, S3_18, S3_20, S3_23, S3_24, S3_27, S3_28, S3_29, S3_31, S3_32, S3_33, S3_36, S3_39, S3_40, S3_43, S3_44, S3_45, S3_46, S3_47, S3_48, S3_49, S3_50, S3_53, S3_56, S3_57, S3_59, S3_60, S3_63, S3_66, S3_67, S3_70, S3_71, S3_74, S3_75, S3_78, S3_79, S3_82, S3_83, S3_84, S3_85, S3_86, S3_89, S3_90, S3_91, S3_92, S3_93, S3_95, S3_96, S3_97, S3_98, S3_101, S3_102, S3_103, S3_104, S3_107, S3_108, S3_109, S3_110, S3_113, S3_114, S3_115, S3_116, S3_118, S3_119, S3_122, S3_123, S3_124, S3_125, S3_128, S3_129, S3_130, S3_131, S3_134, S3_135, S3_136, S3_137, S3_140, S3_141, S3_142, S3_143, S3_145, S3_148, S3_151, S3_154, S3_155, S3_158, S3_159, S3_161, S3_162, S3_165, S3_168, S3_169, S3_172, S3_173, S3_174, S3_177, S3_178, S3_179, S3_180, S3_183, S3_184, S3_185, S3_188, S3_189, S3_192, S3_193, S3_196, S3_197, S3_200, S3_201, S3_204, S3_205, S3_206, S3_207, S3_209, S3_210, S3_211, S3_214, S3_217, shp_12, RV_12_1, RV_12_2, RV_12_3, kl_ref] at k1 ⊢
    rw [if_pos (by decide)]
    exact k1
  | succ m ih =>
    intro i hc o4 hi hf hr he kk
    have hi5 : i < 5 := by omega
    rw [S3_8]
    simp only [S3_0, S3_1, S3_2, S3_3, S3_6, S3_7, S3_9, S3_10, S3_13, S3_14, S3_18, S3_20, S3_23, S3_24, S3_27, S3_28, S3_29, S3_31, S3_32, S3_33, S3_36, S3_39, S3_40, S3_43, S3_44, S3_45, S3_46, S3_47, S3_48, S3_49, S3_50, S3_53, S3_56, S3_57, S3_59, S3_60, S3_63, S3_66, S3_67, S3_70, S3_71, S3_74, S3_75, S3_78, S3_79, S3_82, S3_83, S3_84, S3_85, S3_86, S3_89, S3_90, S3_91, S3_92, S3_93, S3_95, S3_96, S3_97, S3_98, S3_101, S3_102, S3_103, S3_104, S3_107, S3_108, S3_109, S3_110, S3_113, S3_114, S3_115, S3_116, S3_118, S3_119, S3_122, S3_123, S3_124, S3_125, S3_128, S3_129, S3_130, S3_131, S3_134, S3_135, S3_136, S3_137, S3_140, S3_141, S3_142, S3_143, S3_145, S3_148, S3_151, S3_154, S3_155, S3_158, S3_159, S3_161, S3_162, S3_165, S3_168, S3_169, S3_172, S3_173, S3_174, S3_177, S3_178, S3_179, S3_180, S3_183, S3_184, S3_185, S3_188, S3_189, S3_192, S3_193, S3_196, S3_197, S3_200, S3_201, S3_204, S3_205, S3_206, S3_207, S3_209, S3_210, S3_211, S3_214, S3_217, shp_12, RV_12_1, RV_12_2, RV_12_3, if_neg (lt5 hi5), kl_int]
    rw [nI_l0]
    refine c_bset_j (h := h) hi5 11 0 hc (by omega) hf hr (fun a b ha hb => ⟨fun z => he a b ha hb z, fun _ z => by omega⟩) (fun hc' f2 r2 e2 => ?_)
    simp only [S3_0, S3_1, S3_2, S3_3, S3_6, S3_7, S3_9, S3_10, S3_13, S3_14, S3_18, S3_20, S3_23, S3_24, S3_27, S3_28, S3_29, S3_31, S3_32, S3_33, S3_36, S3_39, S3_40, S3_43, S3_44, S3_45, S3_46, S3_47, S3_48, S3_49, S3_50, S3_53, S3_56, S3_57, S3_59, S3_60, S3_63, S3_66, S3_67, S3_70, S3_71, S3_74, S3_75, S3_78, S3_79, S3_82, S3_83, S3_84, S3_85, S3_86, S3_89, S3_90, S3_91, S3_92, S3_93, S3_95, S3_96, S3_97, S3_98, S3_101, S3_102, S3_103, S3_104, S3_107, S3_108, S3_109, S3_110, S3_113, S3_114, S3_115, S3_116, S3_118, S3_119, S3_122, S3_123, S3_124, S3_125, S3_128, S3_129, S3_130, S3_131, S3_134, S3_135, S3_136, S3_137, S3_140, S3_141, S3_142, S3_143, S3_145, S3_148, S3_151, S3_154, S3_155, S3_158, S3_159, S3_161, S3_162, S3_165, S3_168, S3_169, S3_172, S3_173, S3_174, S3_177, S3_178, S3_179, S3_180, S3_183, S3_184, S3_185, S3_188, S3_189, S3_192, S3_193, S3_196, S3_197, S3_200, S3_201, S3_204, S3_205, S3_206, S3_207, S3_209, S3_210, S3_211, S3_214, S3_217, kl_ref, nI_add1]
    exact ih (i + 1) hc' _ (by omega) f2 r2 e2 kk
theorem c_bset_l (hV : VR r) : ∀ (m l : Nat) (hc : Hp) (o4 : Option Value), l + m = rL r → cfr h hc → rowsC r hc → (∀ a b, a < 5 → b < 11 → BV hc a b = TCn r l a b) →
    (∀ (hc' : Hp) (o4 : Option Value), cfr h hc' → rowsC r hc' → (∀ a b, a < 5 → b < 11 → BV hc' a b = TCn r (rL r) a b) → WP (d + 4) 3 154 [some (.ref 12), some (.ref 21), some (.ref 8), some (.int (nI (rL r))), o4, none] [] hc' Q) →
    WP (d + 4) 3 58 [some (.ref 12), some (.ref 21), some (.ref 8), some (.int (nI l)), o4, none] [] hc Q := by
  have hP := hV.1
  have hL := hV.2.1
  intro m
  induction m with
  | zero =>
    intro l hc o4 hl hf hr he kk
    have : l = rL r := by omega
    subst this
    have hcd : nI (rL r) ≤ nI (rL r) := nI_le (Nat.le_refl _) (by omega)
    have k1 := kk hc o4 hf hr he
    rw [S3_58]
    simp only [S3_0, S3_1, S3_2, S3_3, S3_6, S3_7, S3_9, S3_10, S3_13, S3_14, S3_18, S3_20, S3_23, S3_24, S3_27, S3_28, S3_29, S3_31, S3_32, S3_33, S3_36, S3_39, S3_40, S3_43, S3_44, S3_45, S3_46, S3_47, S3_48, S3_49, S3_50, S3_53, S3_56, S3_57, S3_59, S3_60, S3_63, S3_66, S3_67, S3_70, S3_71, S3_74, S3_75, S3_78, S3_79, S3_82, S3_83, S3_84, S3_85, S3_86, S3_89, S3_90, S3_91, S3_92, S3_93, S3_95, S3_96, S3_97, S3_98, S3_101, S3_102, S3_103, S3_104, S3_107, S3_108, S3_109, S3_110, S3_113, S3_114, S3_115, S3_116, S3_118, S3_119, S3_122, S3_123, S3_124, S3_125, S3_128, S3_129, S3_130, S3_131, S3_134, S3_135, S3_136, S3_137, S3_140, S3_141, S3_142, S3_143, S3_145, S3_148, S3_151, S3_154, S3_155, S3_158, S3_159, S3_161, S3_162, S3_165, S3_168, S3_169, S3_172, S3_173, S3_174, S3_177, S3_178, S3_179, S3_180, S3_183, S3_184, S3_185, S3_188, S3_189, S3_192, S3_193, S3_196, S3_197, S3_200, S3_201, S3_204, S3_205, S3_206, S3_207, S3_209, S3_210, S3_211, S3_214, S3_217, shp_12, RV_12_1, RV_12_2, RV_12_3, shp_21, RV_21_2, RV_21_5, RV_21_6, RV_21_7, RV_21_8, hr.1.2.2.1, hL.1, if_pos hcd] at k1 ⊢
    exact k1
  | succ m ih =>
    intro l hc o4 hl hf hr he kk
    have hcd : ¬ nI (rL r) ≤ nI l := nI_ge (by omega) (by omega)
    have hlt : l < rL r := by omega
    have hl11 : l < 11 := by omega
    have hVl := hV.2.2.2 l hlt
    have hNl := hr.1.2.2.2.2.2 l hlt
    have c0 := nI_cl (n := l) (by omega)
    rw [S3_58]
    simp only [S3_0, S3_1, S3_2, S3_3, S3_6, S3_7, S3_9, S3_10, S3_13, S3_14, S3_18, S3_20, S3_23, S3_24, S3_27, S3_28, S3_29, S3_31, S3_32, S3_33, S3_36, S3_39, S3_40, S3_43, S3_44, S3_45, S3_46, S3_47, S3_48, S3_49, S3_50, S3_53, S3_56, S3_57, S3_59, S3_60, S3_63, S3_66, S3_67, S3_70, S3_71, S3_74, S3_75, S3_78, S3_79, S3_82, S3_83, S3_84, S3_85, S3_86, S3_89, S3_90, S3_91, S3_92, S3_93, S3_95, S3_96, S3_97, S3_98, S3_101, S3_102, S3_103, S3_104, S3_107, S3_108, S3_109, S3_110, S3_113, S3_114, S3_115, S3_116, S3_118, S3_119, S3_122, S3_123, S3_124, S3_125, S3_128, S3_129, S3_130, S3_131, S3_134, S3_135, S3_136, S3_137, S3_140, S3_141, S3_142, S3_143, S3_145, S3_148, S3_151, S3_154, S3_155, S3_158, S3_159, S3_161, S3_162, S3_165, S3_168, S3_169, S3_172, S3_173, S3_174, S3_177, S3_178, S3_179, S3_180, S3_183, S3_184, S3_185, S3_188, S3_189, S3_192, S3_193, S3_196, S3_197, S3_200, S3_201, S3_204, S3_205, S3_206, S3_207, S3_209, S3_210, S3_211, S3_214, S3_217, shp_12, RV_12_1, RV_12_2, RV_12_3, shp_21, RV_21_2, RV_21_5, RV_21_6, RV_21_7, RV_21_8, hr.1.2.2.1, hL.1, if_neg hcd, hr.1.2.2.2.1, c_bit, bitm (show l < 32 by omega), kR_at, ok23 hl11, ok24 hl11, ok25 hl11, ok26 hl11, c0, hNl.1, hNl.2.1, hNl.2.2.1, hNl.2.2.2, hVl.1.1, hVl.2.1.1, kl_int, kl_ref, nI_add1]
    by_cases hs : snd r l
    · rw [if_pos (pb_1.mpr hs)]
      refine c_pull (d := d) hV hr hVl.1.2 hVl.2.1.2 (fun h1 f1 r1 e1 => ?_)
      have hNl1 := r1.1.2.2.2.2.2 l hlt
      simp only [kV_at, S3_0, S3_1, S3_2, S3_3, S3_6, S3_7, S3_9, S3_10, S3_13, S3_14, S3_18, S3_20, S3_23, S3_24, S3_27, S3_28, S3_29, S3_31, S3_32, S3_33, S3_36, S3_39, S3_40, S3_43, S3_44, S3_45, S3_46, S3_47, S3_48, S3_49, S3_50, S3_53, S3_56, S3_57, S3_59, S3_60, S3_63, S3_66, S3_67, S3_70, S3_71, S3_74, S3_75, S3_78, S3_79, S3_82, S3_83, S3_84, S3_85, S3_86, S3_89, S3_90, S3_91, S3_92, S3_93, S3_95, S3_96, S3_97, S3_98, S3_101, S3_102, S3_103, S3_104, S3_107, S3_108, S3_109, S3_110, S3_113, S3_114, S3_115, S3_116, S3_118, S3_119, S3_122, S3_123, S3_124, S3_125, S3_128, S3_129, S3_130, S3_131, S3_134, S3_135, S3_136, S3_137, S3_140, S3_141, S3_142, S3_143, S3_145, S3_148, S3_151, S3_154, S3_155, S3_158, S3_159, S3_161, S3_162, S3_165, S3_168, S3_169, S3_172, S3_173, S3_174, S3_177, S3_178, S3_179, S3_180, S3_183, S3_184, S3_185, S3_188, S3_189, S3_192, S3_193, S3_196, S3_197, S3_200, S3_201, S3_204, S3_205, S3_206, S3_207, S3_209, S3_210, S3_211, S3_214, S3_217, shp_12, RV_12_1, RV_12_2, RV_12_3, shp_21, RV_21_2, RV_21_5, RV_21_6, RV_21_7, RV_21_8, ok23 hl11, ok24 hl11, ok26 hl11, c0, hNl1.1, hNl1.2.1, hNl1.2.2.2, hVl.1.1, hVl.2.1.1]
      refine c_pull (d := d) hV r1 hVl.2.1.2 hVl.1.2 (fun h2 f2 r2 e2 => ?_)
      simp only [kV_at, S3_0, S3_1, S3_2, S3_3, S3_6, S3_7, S3_9, S3_10, S3_13, S3_14, S3_18, S3_20, S3_23, S3_24, S3_27, S3_28, S3_29, S3_31, S3_32, S3_33, S3_36, S3_39, S3_40, S3_43, S3_44, S3_45, S3_46, S3_47, S3_48, S3_49, S3_50, S3_53, S3_56, S3_57, S3_59, S3_60, S3_63, S3_66, S3_67, S3_70, S3_71, S3_74, S3_75, S3_78, S3_79, S3_82, S3_83, S3_84, S3_85, S3_86, S3_89, S3_90, S3_91, S3_92, S3_93, S3_95, S3_96, S3_97, S3_98, S3_101, S3_102, S3_103, S3_104, S3_107, S3_108, S3_109, S3_110, S3_113, S3_114, S3_115, S3_116, S3_118, S3_119, S3_122, S3_123, S3_124, S3_125, S3_128, S3_129, S3_130, S3_131, S3_134, S3_135, S3_136, S3_137, S3_140, S3_141, S3_142, S3_143, S3_145, S3_148, S3_151, S3_154, S3_155, S3_158, S3_159, S3_161, S3_162, S3_165, S3_168, S3_169, S3_172, S3_173, S3_174, S3_177, S3_178, S3_179, S3_180, S3_183, S3_184, S3_185, S3_188, S3_189, S3_192, S3_193, S3_196, S3_197, S3_200, S3_201, S3_204, S3_205, S3_206, S3_207, S3_209, S3_210, S3_211, S3_214, S3_217, kl_ref, nI_add1]
      refine ih (l + 1) h2 _ (by omega) (frmF_tr hf (frmF_tr f1 f2)) r2 (fun a b ha hb => ?_) kk
      rw [e2 a b ha hb, e1 a b ha hb, he a b ha hb]
      show _ = TCn r l a b + dv (snd r l) (pLC r l a b)
      rw [dv_t hs]
      unfold pLC
      simp only [a64]
    · rw [if_neg (fun z => hs (pb_1.mp z))]
      refine ih (l + 1) hc _ (by omega) hf hr (fun a b ha hb => ?_) kk
      show _ = TCn r l a b + dv (snd r l) (pLC r l a b)
      rw [dv_f hs, Int64.add_zero]
      exact he a b ha hb
theorem c_bset_p (hV : VR r) {o4 o5 : Option Value} : ∀ (m p : Nat) (hc : Hp), p + m = rP r → cfr h hc → rowsC r hc → hc.2.1 12 4 = (TCf r).2 → (∀ a b, a < 5 → b < 11 → BV hc a b = (TCf r).1 a b) → (∀ j, j < p → hc.2.1 20 j = abV r (TCf r) j) →
    (∀ hc' : Hp, cfr h hc' → CN hc' 21 r → tiOK r hc' → balOK r hc' → Q (some none) hc') →
    WP (d + 3) 3 160 [some (.ref 12), some (.ref 21), some (.ref 8), some (.int (nI p)), o4, o5] [] hc Q := by
  have hP := hV.1
  have hw := wd_5 hV
  intro m
  induction m with
  | zero =>
    intro p hc hp hf hr hh he hj kk
    have : p = rP r := by omega
    subst this
    have hcd : nI (rP r) ≤ nI (rP r) := nI_le (Nat.le_refl _) (by omega)
    rw [S3_160]
    simp only [S3_0, S3_1, S3_2, S3_3, S3_6, S3_7, S3_9, S3_10, S3_13, S3_14, S3_18, S3_20, S3_23, S3_24, S3_27, S3_28, S3_29, S3_31, S3_32, S3_33, S3_36, S3_39, S3_40, S3_43, S3_44, S3_45, S3_46, S3_47, S3_48, S3_49, S3_50, S3_53, S3_56, S3_57, S3_59, S3_60, S3_63, S3_66, S3_67, S3_70, S3_71, S3_74, S3_75, S3_78, S3_79, S3_82, S3_83, S3_84, S3_85, S3_86, S3_89, S3_90, S3_91, S3_92, S3_93, S3_95, S3_96, S3_97, S3_98, S3_101, S3_102, S3_103, S3_104, S3_107, S3_108, S3_109, S3_110, S3_113, S3_114, S3_115, S3_116, S3_118, S3_119, S3_122, S3_123, S3_124, S3_125, S3_128, S3_129, S3_130, S3_131, S3_134, S3_135, S3_136, S3_137, S3_140, S3_141, S3_142, S3_143, S3_145, S3_148, S3_151, S3_154, S3_155, S3_158, S3_159, S3_161, S3_162, S3_165, S3_168, S3_169, S3_172, S3_173, S3_174, S3_177, S3_178, S3_179, S3_180, S3_183, S3_184, S3_185, S3_188, S3_189, S3_192, S3_193, S3_196, S3_197, S3_200, S3_201, S3_204, S3_205, S3_206, S3_207, S3_209, S3_210, S3_211, S3_214, S3_217, shp_12, RV_12_1, RV_12_2, RV_12_3, shp_21, RV_21_2, RV_21_5, RV_21_6, RV_21_7, RV_21_8, hr.1.1, hP.1, if_pos hcd]
    exact kk hc hf hr.1 hr.2.1 ⟨hr.2.2.1, hr.2.2.2, hh, he, hj⟩
  | succ m ih =>
    intro p hc hp hf hr hh he hj kk
    have hcd : ¬ nI (rP r) ≤ nI p := nI_ge (by omega) (by omega)
    have hpl : p < rP r := by omega
    have hp6 : p < 6 := by omega
    have c1 := nI_cl (n := p) (by omega)
    have c10 : (10 : Int32).toNatClampNeg = 10 := by decide
    have step : ∀ v, v = abV r (TCf r) p → WP (d + 3) 3 160 [some (.ref 12), some (.ref 21), some (.ref 8), some (.int (nI (p + 1))), o4, o5] [] (setL hc 20 p v) Q := by
      intro v hv
      refine ih (p + 1) _ (by omega) (frmF_tr hf (frmF_L ⟨by decide, by decide⟩)) (rowsC_L ⟨by decide, by decide⟩ hr) (by rw [s12 (by decide)]; exact hh) (fun a b ha hb => ?_) (fun j hjp => ?_) kk
      · unfold BV
        rw [setL_1 (by omega)]
        exact he a b ha hb
      · rw [setL_rd]
        by_cases e : j = p
        · subst e; rw [if_pos ⟨rfl, rfl⟩]; exact hv
        · rw [if_neg (fun z => e z.2)]; exact hj j (by omega)
    rw [S3_160]
    simp only [S3_0, S3_1, S3_2, S3_3, S3_6, S3_7, S3_9, S3_10, S3_13, S3_14, S3_18, S3_20, S3_23, S3_24, S3_27, S3_28, S3_29, S3_31, S3_32, S3_33, S3_36, S3_39, S3_40, S3_43, S3_44, S3_45, S3_46, S3_47, S3_48, S3_49, S3_50, S3_53, S3_56, S3_57, S3_59, S3_60, S3_63, S3_66, S3_67, S3_70, S3_71, S3_74, S3_75, S3_78, S3_79, S3_82, S3_83, S3_84, S3_85, S3_86, S3_89, S3_90, S3_91, S3_92, S3_93, S3_95, S3_96, S3_97, S3_98, S3_101, S3_102, S3_103, S3_104, S3_107, S3_108, S3_109, S3_110, S3_113, S3_114, S3_115, S3_116, S3_118, S3_119, S3_122, S3_123, S3_124, S3_125, S3_128, S3_129, S3_130, S3_131, S3_134, S3_135, S3_136, S3_137, S3_140, S3_141, S3_142, S3_143, S3_145, S3_148, S3_151, S3_154, S3_155, S3_158, S3_159, S3_161, S3_162, S3_165, S3_168, S3_169, S3_172, S3_173, S3_174, S3_177, S3_178, S3_179, S3_180, S3_183, S3_184, S3_185, S3_188, S3_189, S3_192, S3_193, S3_196, S3_197, S3_200, S3_201, S3_204, S3_205, S3_206, S3_207, S3_209, S3_210, S3_211, S3_214, S3_217, shp_12, RV_12_1, RV_12_2, RV_12_3, shp_21, RV_21_2, RV_21_5, RV_21_6, RV_21_7, RV_21_8, hr.1.1, hP.1, if_neg hcd, ok13 hp6, c1, hr.2.2.2 p hp6]
    by_cases hs : soug r p
    · have hlt := rowN_lt hs
      have h5 : rowN r p < 5 := by omega
      have hne : ¬ nI (rowN r p) = -1 := fun z => (rowV_ne hV).mp (by rw [rowV_y hs]; exact z) hs
      have o10 : okA 4 (15 + rowN r p) 10 := ok15 h5 (j := 10) (by omega)
      have e5 := he (rowN r p) 10 h5 (by omega)
      unfold BV at e5
      simp only [rowV_y hs, if_neg hne, ok14 h5, nI_cl (show rowN r p < 2147483648 by omega), RV14 _ h5, o10, c10, e5, ok20 hp6, c1, S3_0, S3_1, S3_2, S3_3, S3_6, S3_7, S3_9, S3_10, S3_13, S3_14, S3_18, S3_20, S3_23, S3_24, S3_27, S3_28, S3_29, S3_31, S3_32, S3_33, S3_36, S3_39, S3_40, S3_43, S3_44, S3_45, S3_46, S3_47, S3_48, S3_49, S3_50, S3_53, S3_56, S3_57, S3_59, S3_60, S3_63, S3_66, S3_67, S3_70, S3_71, S3_74, S3_75, S3_78, S3_79, S3_82, S3_83, S3_84, S3_85, S3_86, S3_89, S3_90, S3_91, S3_92, S3_93, S3_95, S3_96, S3_97, S3_98, S3_101, S3_102, S3_103, S3_104, S3_107, S3_108, S3_109, S3_110, S3_113, S3_114, S3_115, S3_116, S3_118, S3_119, S3_122, S3_123, S3_124, S3_125, S3_128, S3_129, S3_130, S3_131, S3_134, S3_135, S3_136, S3_137, S3_140, S3_141, S3_142, S3_143, S3_145, S3_148, S3_151, S3_154, S3_155, S3_158, S3_159, S3_161, S3_162, S3_165, S3_168, S3_169, S3_172, S3_173, S3_174, S3_177, S3_178, S3_179, S3_180, S3_183, S3_184, S3_185, S3_188, S3_189, S3_192, S3_193, S3_196, S3_197, S3_200, S3_201, S3_204, S3_205, S3_206, S3_207, S3_209, S3_210, S3_211, S3_214, S3_217, shp_12, RV_12_1, RV_12_2, RV_12_3, shp_21, RV_21_2, RV_21_5, RV_21_6, RV_21_7, RV_21_8, kl_ref, nI_add1]
      exact step _ (by unfold abV; rw [dv_t hs, dv_f (fun z => z hs), Int64.add_zero])
    · simp only [rowV_n hs, if_true, c_knownHeight (d := d) hr.1 hpl hV, kR_at, hh, ok20 hp6, c1, S3_0, S3_1, S3_2, S3_3, S3_6, S3_7, S3_9, S3_10, S3_13, S3_14, S3_18, S3_20, S3_23, S3_24, S3_27, S3_28, S3_29, S3_31, S3_32, S3_33, S3_36, S3_39, S3_40, S3_43, S3_44, S3_45, S3_46, S3_47, S3_48, S3_49, S3_50, S3_53, S3_56, S3_57, S3_59, S3_60, S3_63, S3_66, S3_67, S3_70, S3_71, S3_74, S3_75, S3_78, S3_79, S3_82, S3_83, S3_84, S3_85, S3_86, S3_89, S3_90, S3_91, S3_92, S3_93, S3_95, S3_96, S3_97, S3_98, S3_101, S3_102, S3_103, S3_104, S3_107, S3_108, S3_109, S3_110, S3_113, S3_114, S3_115, S3_116, S3_118, S3_119, S3_122, S3_123, S3_124, S3_125, S3_128, S3_129, S3_130, S3_131, S3_134, S3_135, S3_136, S3_137, S3_140, S3_141, S3_142, S3_143, S3_145, S3_148, S3_151, S3_154, S3_155, S3_158, S3_159, S3_161, S3_162, S3_165, S3_168, S3_169, S3_172, S3_173, S3_174, S3_177, S3_178, S3_179, S3_180, S3_183, S3_184, S3_185, S3_188, S3_189, S3_192, S3_193, S3_196, S3_197, S3_200, S3_201, S3_204, S3_205, S3_206, S3_207, S3_209, S3_210, S3_211, S3_214, S3_217, shp_12, RV_12_1, RV_12_2, RV_12_3, shp_21, RV_21_2, RV_21_5, RV_21_6, RV_21_7, RV_21_8, kl_ref, nI_add1]
      exact step _ (by unfold abV; rw [dv_f hs, dv_t hs, Int64.zero_add])
theorem c_bsettle (hV : VR r) (hN : CN h 21 r) (hT : tiOK r h) (hnz : ∀ k, k < wd r → (gjT (wd r) (TCn r (rL r)) k).2 ≠ 0)
    (kk : ∀ hc' : Hp, cfr h hc' → CN hc' 21 r → tiOK r hc' → balOK r hc' → Q (some none) hc') :
    WP (d + 4) 3 0 [some (.ref 12), some (.ref 21), some (.ref 8), none, none, none] [] h Q := by
  simp only [S3_0, S3_1, S3_2, S3_3, S3_6, S3_7, S3_9, S3_10, S3_13, S3_14, S3_18, S3_20, S3_23, S3_24, S3_27, S3_28, S3_29, S3_31, S3_32, S3_33, S3_36, S3_39, S3_40, S3_43, S3_44, S3_45, S3_46, S3_47, S3_48, S3_49, S3_50, S3_53, S3_56, S3_57, S3_59, S3_60, S3_63, S3_66, S3_67, S3_70, S3_71, S3_74, S3_75, S3_78, S3_79, S3_82, S3_83, S3_84, S3_85, S3_86, S3_89, S3_90, S3_91, S3_92, S3_93, S3_95, S3_96, S3_97, S3_98, S3_101, S3_102, S3_103, S3_104, S3_107, S3_108, S3_109, S3_110, S3_113, S3_114, S3_115, S3_116, S3_118, S3_119, S3_122, S3_123, S3_124, S3_125, S3_128, S3_129, S3_130, S3_131, S3_134, S3_135, S3_136, S3_137, S3_140, S3_141, S3_142, S3_143, S3_145, S3_148, S3_151, S3_154, S3_155, S3_158, S3_159, S3_161, S3_162, S3_165, S3_168, S3_169, S3_172, S3_173, S3_174, S3_177, S3_178, S3_179, S3_180, S3_183, S3_184, S3_185, S3_188, S3_189, S3_192, S3_193, S3_196, S3_197, S3_200, S3_201, S3_204, S3_205, S3_206, S3_207, S3_209, S3_210, S3_211, S3_214, S3_217, shp_12, RV_12_1, RV_12_2, RV_12_3]
  refine c_choose (d := d + 1) hV hN hT (fun h1 f1 r1 => ?_)
  simp only [kV_at, S3_0, S3_1, S3_2, S3_3, S3_6, S3_7, S3_9, S3_10, S3_13, S3_14, S3_18, S3_20, S3_23, S3_24, S3_27, S3_28, S3_29, S3_31, S3_32, S3_33, S3_36, S3_39, S3_40, S3_43, S3_44, S3_45, S3_46, S3_47, S3_48, S3_49, S3_50, S3_53, S3_56, S3_57, S3_59, S3_60, S3_63, S3_66, S3_67, S3_70, S3_71, S3_74, S3_75, S3_78, S3_79, S3_82, S3_83, S3_84, S3_85, S3_86, S3_89, S3_90, S3_91, S3_92, S3_93, S3_95, S3_96, S3_97, S3_98, S3_101, S3_102, S3_103, S3_104, S3_107, S3_108, S3_109, S3_110, S3_113, S3_114, S3_115, S3_116, S3_118, S3_119, S3_122, S3_123, S3_124, S3_125, S3_128, S3_129, S3_130, S3_131, S3_134, S3_135, S3_136, S3_137, S3_140, S3_141, S3_142, S3_143, S3_145, S3_148, S3_151, S3_154, S3_155, S3_158, S3_159, S3_161, S3_162, S3_165, S3_168, S3_169, S3_172, S3_173, S3_174, S3_177, S3_178, S3_179, S3_180, S3_183, S3_184, S3_185, S3_188, S3_189, S3_192, S3_193, S3_196, S3_197, S3_200, S3_201, S3_204, S3_205, S3_206, S3_207, S3_209, S3_210, S3_211, S3_214, S3_217, kl_ref]
  rw [nI_l0]
  refine c_bset_i (h := h) 5 0 h1 _ (by omega) f1 r1 (fun a b _ _ z => by omega) (fun h2 o4 f2 r2 e2 => ?_)
  simp only [S3_0, S3_1, S3_2, S3_3, S3_6, S3_7, S3_9, S3_10, S3_13, S3_14, S3_18, S3_20, S3_23, S3_24, S3_27, S3_28, S3_29, S3_31, S3_32, S3_33, S3_36, S3_39, S3_40, S3_43, S3_44, S3_45, S3_46, S3_47, S3_48, S3_49, S3_50, S3_53, S3_56, S3_57, S3_59, S3_60, S3_63, S3_66, S3_67, S3_70, S3_71, S3_74, S3_75, S3_78, S3_79, S3_82, S3_83, S3_84, S3_85, S3_86, S3_89, S3_90, S3_91, S3_92, S3_93, S3_95, S3_96, S3_97, S3_98, S3_101, S3_102, S3_103, S3_104, S3_107, S3_108, S3_109, S3_110, S3_113, S3_114, S3_115, S3_116, S3_118, S3_119, S3_122, S3_123, S3_124, S3_125, S3_128, S3_129, S3_130, S3_131, S3_134, S3_135, S3_136, S3_137, S3_140, S3_141, S3_142, S3_143, S3_145, S3_148, S3_151, S3_154, S3_155, S3_158, S3_159, S3_161, S3_162, S3_165, S3_168, S3_169, S3_172, S3_173, S3_174, S3_177, S3_178, S3_179, S3_180, S3_183, S3_184, S3_185, S3_188, S3_189, S3_192, S3_193, S3_196, S3_197, S3_200, S3_201, S3_204, S3_205, S3_206, S3_207, S3_209, S3_210, S3_211, S3_214, S3_217, kl_ref]
  rw [nI_l0]
  refine c_bset_l (h := h) hV (rL r) 0 h2 _ (by omega) f2 r2 e2 (fun h3 o4 f3 r3 e3 => ?_)
  simp only [S3_0, S3_1, S3_2, S3_3, S3_6, S3_7, S3_9, S3_10, S3_13, S3_14, S3_18, S3_20, S3_23, S3_24, S3_27, S3_28, S3_29, S3_31, S3_32, S3_33, S3_36, S3_39, S3_40, S3_43, S3_44, S3_45, S3_46, S3_47, S3_48, S3_49, S3_50, S3_53, S3_56, S3_57, S3_59, S3_60, S3_63, S3_66, S3_67, S3_70, S3_71, S3_74, S3_75, S3_78, S3_79, S3_82, S3_83, S3_84, S3_85, S3_86, S3_89, S3_90, S3_91, S3_92, S3_93, S3_95, S3_96, S3_97, S3_98, S3_101, S3_102, S3_103, S3_104, S3_107, S3_108, S3_109, S3_110, S3_113, S3_114, S3_115, S3_116, S3_118, S3_119, S3_122, S3_123, S3_124, S3_125, S3_128, S3_129, S3_130, S3_131, S3_134, S3_135, S3_136, S3_137, S3_140, S3_141, S3_142, S3_143, S3_145, S3_148, S3_151, S3_154, S3_155, S3_158, S3_159, S3_161, S3_162, S3_165, S3_168, S3_169, S3_172, S3_173, S3_174, S3_177, S3_178, S3_179, S3_180, S3_183, S3_184, S3_185, S3_188, S3_189, S3_192, S3_193, S3_196, S3_197, S3_200, S3_201, S3_204, S3_205, S3_206, S3_207, S3_209, S3_210, S3_211, S3_214, S3_217, shp_12, RV_12_1, RV_12_2, RV_12_3]
  refine c_eliminate (d := d + 1) hV hnz r3 e3 (fun h4 f4 r4 h4' e4 => ?_)
  simp only [kV_at, S3_0, S3_1, S3_2, S3_3, S3_6, S3_7, S3_9, S3_10, S3_13, S3_14, S3_18, S3_20, S3_23, S3_24, S3_27, S3_28, S3_29, S3_31, S3_32, S3_33, S3_36, S3_39, S3_40, S3_43, S3_44, S3_45, S3_46, S3_47, S3_48, S3_49, S3_50, S3_53, S3_56, S3_57, S3_59, S3_60, S3_63, S3_66, S3_67, S3_70, S3_71, S3_74, S3_75, S3_78, S3_79, S3_82, S3_83, S3_84, S3_85, S3_86, S3_89, S3_90, S3_91, S3_92, S3_93, S3_95, S3_96, S3_97, S3_98, S3_101, S3_102, S3_103, S3_104, S3_107, S3_108, S3_109, S3_110, S3_113, S3_114, S3_115, S3_116, S3_118, S3_119, S3_122, S3_123, S3_124, S3_125, S3_128, S3_129, S3_130, S3_131, S3_134, S3_135, S3_136, S3_137, S3_140, S3_141, S3_142, S3_143, S3_145, S3_148, S3_151, S3_154, S3_155, S3_158, S3_159, S3_161, S3_162, S3_165, S3_168, S3_169, S3_172, S3_173, S3_174, S3_177, S3_178, S3_179, S3_180, S3_183, S3_184, S3_185, S3_188, S3_189, S3_192, S3_193, S3_196, S3_197, S3_200, S3_201, S3_204, S3_205, S3_206, S3_207, S3_209, S3_210, S3_211, S3_214, S3_217, kl_ref]
  rw [nI_l0]
  exact c_bset_p (h := h) (d := d + 1) hV (rP r) 0 h4 (by omega) (frmF_tr f3 f4) r4 h4' e4 (fun j hj => by omega) kk
end
