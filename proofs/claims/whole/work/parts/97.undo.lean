/-! undo, image, restore of both sides. -/
section
variable {d : Nat} {h h' : Hp} {Q : Option (Option Value) → Hp → Prop} {x y z w v : Int32} {k l p q t n a b : Nat} {r : Nat → Int32}
theorem c_undo_no (h2 : h.1 5 2 = nI 0) (kk : Q (some (some (.int (-1)))) h) : WP (d + 3) 83 0 [some (.ref 0)] [] h Q := by
  have c : ¬ (0 : Int32) < nI 0 := by decide
  simp only [S83_0, S83_1, S83_4, S83_7, S83_10, S83_11, S83_12, S83_13, S83_16, S83_17, S83_20, S83_23, S83_24, S83_25, S83_28, S83_29, S83_32, S83_35, shp_0, RV_0_0, RV_0_1, RV_0_2, RV_0_3, RV_0_4, RV_0_5, RV_0_9, RV_0_10, shp_5, RV_5_0, h2, if_neg c]
  exact kk
theorem c_undo_do (hV : VR r) (hA : actA t (n + 1) h) (hN : CN h (nid (2 + (t + 7) % 8)) r) (kk : ∀ h' : Hp, frmF (fun a j => (21 ≤ a ∧ a ≤ 26) ∨ (a = 5 ∧ (j = 1 ∨ j = 2)) ∨ (a = 0 ∧ j = 11)) h h' → h'.1 5 1 = nI ((t + 7) % 8) → h'.1 5 2 = nI n → CN h' 21 r → h'.1 0 11 = 1 → Q (some (some (.int (nI n)))) h') : WP (d + 3) 83 0 [some (.ref 0)] [] h Q := by
  obtain ⟨ht, hn, e1, e2⟩ := hA
  have c : (0 : Int32) < nI (n + 1) := nI_lt (a := 0) (by omega) (by omega)
  simp only [S83_0, S83_1, S83_4, S83_7, S83_10, S83_11, S83_12, S83_13, S83_16, S83_17, S83_20, S83_23, S83_24, S83_25, S83_28, S83_29, S83_32, S83_35, shp_0, RV_0_0, RV_0_1, RV_0_2, RV_0_3, RV_0_4, RV_0_5, RV_0_9, RV_0_10, shp_5, RV_5_0, e2, if_pos c]
  refine c_pop (d := d + 1) hV ht (by omega) e1 e2 hN (fun h1 f1 g1 g2 n1 => ?_)
  have g3 : (setI h1 0 11 1).1 5 2 = nI n := by rw [setI_1 (by decide)]; exact g2
  simp only [kV_at, S83_0, S83_1, S83_4, S83_7, S83_10, S83_11, S83_12, S83_13, S83_16, S83_17, S83_20, S83_23, S83_24, S83_25, S83_28, S83_29, S83_32, S83_35, shp_0, RV_0_0, RV_0_1, RV_0_2, RV_0_3, RV_0_4, RV_0_5, RV_0_9, RV_0_10, shp_5, RV_5_0, isB_1, g3]
  refine kk _ (frmF_tr ⟨fun a j hq => f1.1 a j (fun z => hq (by rcases z with z | z; exact Or.inl z; exact Or.inr (Or.inl z))), f1.2⟩ (frmF_I (Or.inr (Or.inr ⟨rfl, rfl⟩)))) (by rw [setI_1 (by decide)]; exact g1) g3 ?_ (by rw [setI_rd, if_pos ⟨rfl, rfl⟩])
  exact CN_frm (S := fun a => a = 0) (frm_I rfl) (fun a z1 z2 z3 => by omega) n1
theorem m_undo_no (hr : h.1 95 = r) (h2 : h.1 93 21 = nI 0) (kk : mPost r h Q 0 (some (.int (-1)))) : WP (d + 3) 193 0 [some (.ref 93)] [] h Q := by
  have k1 := kk _ M0 (r0 (x := 0) hr) t0
  have g : (setI h 93 0 0).1 93 21 = nI 0 := by rw [setI_rd, if_neg (by decide)]; exact h2
  have c : nI 0 = 0 := by decide
  simp only [S193_0, S193_1, S193_2, S193_5, S193_6, S193_9, S193_12, S193_13, S193_14, S193_15, S193_16, S193_19, S193_20, S193_21, S193_24, S193_25, S193_28, S193_30, S193_31, S193_34, S193_35, S193_36, S193_39, S193_40, S193_43, S193_44, S193_47, shp_93, RV_93_1, RV_93_13, RV_93_14, RV_93_15, RV_93_16, RV_93_17, RV_93_18, RV_93_19, RV_93_20, RV_93_23, RV_93_24, RV_93_27, RV_93_28, RV_93_29, g, c, ↓reduceIte]
  exact k1
theorem m_undo_do (hn : n < 8) (h2 : h.1 93 21 = nI (n + 1)) (kk : ∀ h' : Hp, frmF (fun a j => a = 95 ∨ (a = 93 ∧ (j = 0 ∨ j = 21))) h h' → h'.1 93 21 = nI n → eq69 (h'.1 95) (sub h 98 n) → Q (some (some (.int (nI n)))) h') : WP (d + 3) 193 0 [some (.ref 93)] [] h Q := by
  have g : (setI h 93 0 0).1 93 21 = nI (n + 1) := by rw [setI_rd, if_neg (by decide)]; exact h2
  have c : ¬ nI (n + 1) = 0 := nI_ne0 (by omega) (by omega)
  have g1 : (setI (setI h 93 0 0) 93 21 (nI n)).1 93 21 = nI n := by rw [setI_rd, if_pos ⟨rfl, rfl⟩]
  simp only [S193_0, S193_1, S193_2, S193_5, S193_6, S193_9, S193_12, S193_13, S193_14, S193_15, S193_16, S193_19, S193_20, S193_21, S193_24, S193_25, S193_28, S193_30, S193_31, S193_34, S193_35, S193_36, S193_39, S193_40, S193_43, S193_44, S193_47, shp_93, RV_93_1, RV_93_13, RV_93_14, RV_93_15, RV_93_16, RV_93_17, RV_93_18, RV_93_19, RV_93_20, RV_93_23, RV_93_24, RV_93_27, RV_93_28, RV_93_29, g, if_neg c, nI_pred, g1, la_69m]
  refine m_copy (s := 69 * n) (u := 0) shp_98 shp_95 (by decide) (by omega) (by omega) (by omega) (by omega) (fun h1 f1 e1 => ?_)
  have g2 : h1.1 93 21 = nI n := by rw [(f1.1 93 21 (fun z => absurd z.1 (by decide))).1]; exact g1
  simp only [kV_at, S193_0, S193_1, S193_2, S193_5, S193_6, S193_9, S193_12, S193_13, S193_14, S193_15, S193_16, S193_19, S193_20, S193_21, S193_24, S193_25, S193_28, S193_30, S193_31, S193_34, S193_35, S193_36, S193_39, S193_40, S193_43, S193_44, S193_47, shp_93, RV_93_1, RV_93_13, RV_93_14, RV_93_15, RV_93_16, RV_93_17, RV_93_18, RV_93_19, RV_93_20, RV_93_23, RV_93_24, RV_93_27, RV_93_28, RV_93_29, g2]
  refine kk h1 (frmF_tr (frmF_tr (frmF_I (Or.inr ⟨rfl, Or.inl rfl⟩)) (frmF_I (Or.inr ⟨rfl, Or.inr rfl⟩))) ⟨fun a j hq => f1.1 a j (fun z => hq (Or.inl z.1)), f1.2⟩) g2 (fun j hj => ?_)
  have := e1 j hj
  rw [Nat.zero_add] at this
  rw [this, setI_1 (by decide), setI_1 (by decide)]
  rfl
/-! images -/
theorem img_if : (if x < 0 then (0 : Int32) else if 2 ≤ x then 0 else 1) = pb (isH x) := by
  unfold isH
  by_cases h0 : x < 0
  · rw [if_pos h0, pb_f (fun z => by rcases z with z | z <;> (rw [z] at h0; exact absurd h0 (by decide)))]
  · obtain ⟨j, hj, rfl⟩ := nI_of h0
    rw [if_neg h0]
    have e1 : ((2 : Int32) ≤ nI j) ↔ 2 ≤ j := nI_leI (a := 2) (by omega) hj
    have e2 : (nI j = 0) ↔ j = 0 := nI_eq (b := 0) hj (by omega)
    have e3 : (nI j = 1) ↔ j = 1 := nI_eq (b := 1) hj (by omega)
    by_cases c : 2 ≤ j
    · rw [if_pos (e1.mpr c), pb_f (fun z => by rw [e2, e3] at z; omega)]
    · rw [if_neg (fun z => c (e1.mp z)), pb_t (by rw [e2, e3]; omega)]
theorem c_isImageX : WP d 96 0 [some (.int x)] [] h Q ↔ Q (some (some (.int (pb (isH x))))) h := by rw [c_isImage, img_if]
theorem m_isInP : WP d 101 0 [some (.int x), some (.int 0), some (.int 1)] [] h Q ↔ Q (some (some (.int (pb (isH x))))) h := by
  have := m_isPartX (d := d) (h := h) (Q := Q) (x := x)
  rw [m_isPart] at this
  rw [m_isIn]
  exact this
theorem isH_nI (hx : isH x) : ∃ k, k < 2 ∧ x = nI k := by
  rcases hx with e | e
  · exact ⟨0, by omega, e⟩
  · exact ⟨1, by omega, e⟩
theorem nI_isH (hk : k < 2) : isH (nI k) := by
  rcases (show k = 0 ∨ k = 1 by omega) with e | e <;> subst e
  · exact Or.inl (by decide)
  · exact Or.inr (by decide)
theorem RV7 : ∀ i, i < 2 → RV 7 i = nid (10 + i) := by decide
theorem RT7 : ∀ i, i < 2 → (RT 7 i).isSome = true := by decide
theorem ok7 {i : Nat} (h : i < 2) : okR 7 (nI i) := ⟨Or.inl (okA_nI shp_7 h (by decide)), by rw [nI_cl (by omega)]; exact RT7 i h⟩
theorem c_image_no (hx : ¬ isH x) (kk : Q (some (some (.int 0))) h) : WP (d + 2) 84 0 [some (.ref 0), some (.int x)] [] h Q := by
  simp only [S84_0, S84_1, S84_4, S84_7, S84_8, S84_10, S84_13, S84_14, S84_15, S84_16, S84_19, S84_22, S84_23, S84_24, S84_27, S84_28, S84_29, S84_30, S84_31, S84_34, S84_35, shp_0, RV_0_0, RV_0_1, RV_0_2, RV_0_3, RV_0_4, RV_0_5, RV_0_9, RV_0_10, c_isImageX, kR_at, if_pos (pb_0.mpr hx), isB_0]
  exact kk
theorem c_image_do (hC : cls r h) (hk : k < 2) (kk : ∀ h' : Hp, frmF (fun a j => (81 ≤ a ∧ a ≤ 92) ∨ (a = 0 ∧ j = 6)) h h' → (∀ a, 81 ≤ a → a ≤ 92 → ¬ (nid (10 + k) ≤ a ∧ a ≤ nid (10 + k) + 5) → h'.1 a = h.1 a) → CN h' (nid (10 + k)) r → h'.1 0 6 = h.1 0 6 ||| ((1 : Int32) <<< (nI k &&& 31)) → Q (some (some (.int 1))) h') : WP (d + 2) 84 0 [some (.ref 0), some (.int (nI k))] [] h Q := by
  have hV := hC.1
  have c : ¬ pb (isH (nI k)) = 0 := fun z => pb_0.mp z (nI_isH hk)
  simp only [S84_0, S84_1, S84_4, S84_7, S84_8, S84_9, S84_10, S84_13, S84_14, S84_15, S84_16, S84_19, S84_22, S84_23, S84_24, S84_27, S84_28, S84_29, S84_30, S84_31, S84_34, S84_35, shp_0, RV_0_0, RV_0_1, RV_0_2, RV_0_3, RV_0_4, RV_0_5, RV_0_9, RV_0_10, c_isImageX, kR_at, if_neg c, ok7 hk, nI_cl (show k < 2147483648 by omega), RV7 k hk, shp_nid (show 10 + k < 12 by omega)]
  refine c_copyFrom (b := 21) (NO_nid (show 10 + k < 12 by omega)) (NO_nid (k := 0) (by omega)) (by unfold nid; omega) hV hC.2.1 (fun h1 f1 n1 => ?_)
  have g : h1.1 0 = h.1 0 := (f1.1 0 (by unfold nid; omega)).1
  simp only [kV_at, S84_0, S84_1, S84_4, S84_7, S84_8, S84_9, S84_10, S84_13, S84_14, S84_15, S84_16, S84_19, S84_22, S84_23, S84_24, S84_27, S84_28, S84_29, S84_30, S84_31, S84_34, S84_35, shp_0, RV_0_0, RV_0_1, RV_0_2, RV_0_3, RV_0_4, RV_0_5, RV_0_9, RV_0_10, g, isB_1]
  refine kk _ (frmF_tr (frmF_frm (fun a j z => Or.inl (by unfold nid at z; omega)) f1) (frmF_I (Or.inr ⟨rfl, rfl⟩))) (fun a h1 h2 h3 => by rw [setI_1 (by omega)]; exact (f1.1 a h3).1) ?_ (by rw [setI_rd, if_pos ⟨rfl, rfl⟩])
  exact CN_frm (S := fun a => a = 0) (frm_I rfl) (fun a z1 z2 z3 => by unfold nid at z1; omega) n1
theorem m_image_no (hr : h.1 95 = r) (hx : ¬ isH x) (kk : mPost r h Q 0 (some (.int 0))) : WP (d + 2) 194 0 [some (.ref 93), some (.int x)] [] h Q := by
  have k1 := kk _ M0 (r0 (x := 0) hr) t0
  simp only [S194_0, S194_1, S194_2, S194_5, S194_6, S194_7, S194_8, S194_11, S194_14, S194_15, S194_17, S194_20, S194_21, S194_22, S194_25, S194_27, S194_28, S194_29, S194_32, S194_33, S194_36, S194_37, S194_38, S194_39, S194_40, shp_93, RV_93_1, RV_93_13, RV_93_14, RV_93_15, RV_93_16, RV_93_17, RV_93_18, RV_93_19, RV_93_20, RV_93_23, RV_93_24, RV_93_27, RV_93_28, RV_93_29, m_isInP, kR_at, if_pos (pb_0.mpr hx), isB_0]
  exact k1
theorem nar1 : vp_nar .boolean 1 = 1 := by decide
theorem m_image_do (hr : h.1 95 = r) (hk : k < 2) (kk : ∀ h' : Hp, frmF (fun a j => a = 97 ∨ a = 102 ∨ (a = 93 ∧ j = 0)) h h' → eq69 (sub h' 97 k) r → (∀ i, i < 2 → i ≠ k → eq69 (sub h' 97 i) (sub h 97 i)) → h'.1 102 = upd (h.1 102) k 1 → Q (some (some (.int 1))) h') : WP (d + 2) 194 0 [some (.ref 93), some (.int (nI k))] [] h Q := by
  have c : ¬ pb (isH (nI k)) = 0 := fun z => pb_0.mp z (nI_isH hk)
  simp only [S194_0, S194_1, S194_2, S194_5, S194_6, S194_7, S194_8, S194_11, S194_14, S194_15, S194_16, S194_17, S194_20, S194_21, S194_22, S194_25, S194_27, S194_28, S194_29, S194_32, S194_33, S194_36, S194_37, S194_38, S194_39, S194_40, shp_93, RV_93_1, RV_93_13, RV_93_14, RV_93_15, RV_93_16, RV_93_17, RV_93_18, RV_93_19, RV_93_20, RV_93_23, RV_93_24, RV_93_27, RV_93_28, RV_93_29, m_isInP, kR_at, if_neg c, la_69m]
  refine m_copy (s := 0) (u := 69 * k) shp_95 shp_97 (by decide) (by omega) (by omega) (by omega) (by omega) (fun h1 f1 e1 => ?_)
  have o102 : okA 3 102 (nI k) := okA_nI shp_102 hk (by decide)
  have g : h1.1 102 = h.1 102 := funext (fun j => ((f1.1 102 j (fun z => absurd z.1 (by decide))).1).trans (by rw [setI_1 (by decide)]))
  simp only [kV_at, S194_0, S194_1, S194_2, S194_5, S194_6, S194_7, S194_8, S194_11, S194_14, S194_15, S194_16, S194_17, S194_20, S194_21, S194_22, S194_25, S194_27, S194_28, S194_29, S194_32, S194_33, S194_36, S194_37, S194_38, S194_39, S194_40, shp_93, RV_93_1, RV_93_13, RV_93_14, RV_93_15, RV_93_16, RV_93_17, RV_93_18, RV_93_19, RV_93_20, RV_93_23, RV_93_24, RV_93_27, RV_93_28, RV_93_29, o102, nI_cl (show k < 2147483648 by omega), nar1, isB_1]
  refine kk _ (frmF_tr (frmF_tr (frmF_I (Or.inr (Or.inr ⟨rfl, rfl⟩))) ⟨fun a j hq => f1.1 a j (fun z => hq (Or.inl z.1)), f1.2⟩) (frmF_I (Or.inr (Or.inl rfl)))) (fun j hj => ?_) (fun i hi hik j hj => ?_) ?_
  · show (setI h1 102 k 1).1 97 (69 * k + j) = r j
    rw [setI_1 (by decide), e1 j hj, Nat.zero_add, r0 hr]
  · show (setI h1 102 k 1).1 97 (69 * i + j) = h.1 97 (69 * i + j)
    rw [setI_1 (by decide), (f1.1 97 _ (fun z => by omega)).1, setI_1 (by decide)]
  · rw [setI_s, g]
theorem c_restore_no (hx : ¬ (∃ k, k < 2 ∧ x = nI k ∧ bt (h.1 0 6) k = true)) (kk : Q (some (some (.int 0))) h) : WP (d + 2) 85 0 [some (.ref 0), some (.int x)] [] h Q := by
  simp only [S85_0, S85_1, S85_4, S85_7, S85_8, S85_11, S85_12, S85_15, S85_18, S85_19, S85_21, S85_24, S85_25, S85_28, S85_29, S85_30, S85_33, S85_34, S85_37, S85_40, S85_41, S85_42, S85_45, S85_46, shp_0, RV_0_0, RV_0_1, RV_0_2, RV_0_3, RV_0_4, RV_0_5, RV_0_9, RV_0_10, c_isImageX, c_bit, kR_at, isB_0]
  by_cases c : isH x
  · obtain ⟨k, hk, rfl⟩ := isH_nI c
    rw [if_neg (fun z => pb_0.mp z c), bitv_bt (show k < 32 by omega), if_pos (b2i_0.mpr (Bool.eq_false_iff.mpr (fun z => hx ⟨k, hk, rfl, z⟩)))]
    exact kk
  · rw [if_pos (pb_0.mpr c)]
    exact kk
theorem c_restore_do (hV : VR r) (hk : k < 2) (hb : bt (h.1 0 6) k = true) (hN : CN h (nid (10 + k)) r) (kk : ∀ h' : Hp, frmF (fun a j => (21 ≤ a ∧ a ≤ 26) ∨ (a = 5 ∧ j = 2) ∨ (a = 0 ∧ j = 11)) h h' → h'.1 5 2 = nI 0 → CN h' 21 r → h'.1 0 11 = 1 → Q (some (some (.int 1))) h') : WP (d + 2) 85 0 [some (.ref 0), some (.int (nI k))] [] h Q := by
  have c : ¬ pb (isH (nI k)) = 0 := fun z => pb_0.mp z (nI_isH hk)
  have c2 : ¬ b2i (bt (h.1 0 6) k) = 0 := fun z => by rw [b2i_0, hb] at z; exact absurd z (by decide)
  simp only [S85_0, S85_1, S85_4, S85_7, S85_8, S85_11, S85_12, S85_15, S85_18, S85_19, S85_20, S85_21, S85_24, S85_25, S85_28, S85_29, S85_30, S85_33, S85_34, S85_37, S85_40, S85_41, S85_42, S85_45, S85_46, shp_0, RV_0_0, RV_0_1, RV_0_2, RV_0_3, RV_0_4, RV_0_5, RV_0_9, RV_0_10, shp_21, RV_21_2, RV_21_5, RV_21_6, RV_21_7, RV_21_8, c_isImageX, c_bit, kR_at, if_neg c, bitv_bt (show k < 32 by omega), if_neg c2, ok7 hk, nI_cl (show k < 2147483648 by omega), RV7 k hk]
  refine c_copyFrom (a := 21) (NO_nid (k := 0) (by omega)) (NO_nid (show 10 + k < 12 by omega)) (by unfold nid; omega) hV hN (fun h1 f1 n1 => ?_)
  simp only [kV_at, S85_0, S85_1, S85_4, S85_7, S85_8, S85_11, S85_12, S85_15, S85_18, S85_19, S85_20, S85_21, S85_24, S85_25, S85_28, S85_29, S85_30, S85_33, S85_34, S85_37, S85_40, S85_41, S85_42, S85_45, S85_46, S2_0, S2_1, S2_2, S2_5, shp_0, RV_0_0, RV_0_1, RV_0_2, RV_0_3, RV_0_4, RV_0_5, RV_0_9, RV_0_10, shp_5, RV_5_0, isB_1]
  refine kk _ (frmF_tr (frmF_frm (fun a j z => Or.inl z) f1) (frmF_tr (frmF_I (Or.inr (Or.inl ⟨rfl, rfl⟩))) (frmF_I (Or.inr (Or.inr ⟨rfl, rfl⟩))))) ?_ ?_ (by rw [setI_rd, if_pos ⟨rfl, rfl⟩])
  · rw [setI_1 (by decide), setI_rd, if_pos ⟨rfl, rfl⟩]; decide
  · exact CN_frm (S := fun a => a = 0 ∨ a = 5) (frm_tr (frm_I (Or.inr rfl)) (frm_I (Or.inl rfl))) (fun a z1 z2 z3 => by omega) n1
theorem m_restore_no (hr : h.1 95 = r) (hx : ¬ (∃ k, k < 2 ∧ x = nI k ∧ h.1 102 k ≠ 0)) (kk : mPost r h Q 0 (some (.int 0))) : WP (d + 2) 195 0 [some (.ref 93), some (.int x)] [] h Q := by
  have k1 := kk _ M0 (r0 (x := 0) hr) t0
  by_cases c : isH x
  · obtain ⟨k, hk, rfl⟩ := isH_nI c
    have o102 : okB 102 (nI k) := Or.inr (okA_nI shp_102 hk (by decide))
    have e : (setI h 93 0 0).1 102 k = 0 := by
      rw [setI_1 (by decide)]
      exact Decidable.not_not.mp (fun z => hx ⟨k, hk, rfl, z⟩)
    simp only [S195_0, S195_1, S195_2, S195_5, S195_6, S195_7, S195_8, S195_11, S195_14, S195_15, S195_18, S195_19, S195_20, S195_23, S195_24, S195_26, S195_29, S195_31, S195_32, S195_33, S195_34, S195_37, S195_38, S195_41, S195_42, S195_43, S195_46, S195_47, shp_93, RV_93_1, RV_93_13, RV_93_14, RV_93_15, RV_93_16, RV_93_17, RV_93_18, RV_93_19, RV_93_20, RV_93_23, RV_93_24, RV_93_27, RV_93_28, RV_93_29, m_isInP, kR_at, isB_0, if_neg (fun z => pb_0.mp z c), o102, nI_cl (show k < 2147483648 by omega), e, ↓reduceIte]
    exact k1
  · simp only [S195_0, S195_1, S195_2, S195_5, S195_6, S195_7, S195_8, S195_11, S195_15, S195_18, S195_19, S195_20, S195_23, S195_24, S195_26, S195_29, S195_31, S195_32, S195_33, S195_34, S195_37, S195_38, S195_41, S195_42, S195_43, S195_46, S195_47, shp_93, RV_93_1, RV_93_13, RV_93_14, RV_93_15, RV_93_16, RV_93_17, RV_93_18, RV_93_19, RV_93_20, RV_93_23, RV_93_24, RV_93_27, RV_93_28, RV_93_29, m_isInP, kR_at, isB_0, if_pos (pb_0.mpr c)]
    exact k1
theorem m_restore_do (hk : k < 2) (hb : h.1 102 k ≠ 0) (kk : ∀ h' : Hp, frmF (fun a j => a = 95 ∨ (a = 93 ∧ (j = 0 ∨ j = 21))) h h' → h'.1 93 21 = nI 0 → eq69 (h'.1 95) (sub h 97 k) → Q (some (some (.int 1))) h') : WP (d + 2) 195 0 [some (.ref 93), some (.int (nI k))] [] h Q := by
  have c : ¬ pb (isH (nI k)) = 0 := fun z => pb_0.mp z (nI_isH hk)
  have o102 : okB 102 (nI k) := Or.inr (okA_nI shp_102 hk (by decide))
  have e : ¬ (setI h 93 0 0).1 102 k = 0 := by rw [setI_1 (by decide)]; exact hb
  simp only [S195_0, S195_1, S195_2, S195_5, S195_6, S195_7, S195_8, S195_11, S195_14, S195_15, S195_18, S195_19, S195_20, S195_23, S195_24, S195_25, S195_26, S195_29, S195_31, S195_32, S195_33, S195_34, S195_37, S195_38, S195_41, S195_42, S195_43, S195_46, S195_47, shp_93, RV_93_1, RV_93_13, RV_93_14, RV_93_15, RV_93_16, RV_93_17, RV_93_18, RV_93_19, RV_93_20, RV_93_23, RV_93_24, RV_93_27, RV_93_28, RV_93_29, m_isInP, kR_at, if_neg c, o102, nI_cl (show k < 2147483648 by omega), if_neg e, la_69m]
  refine m_copy (s := 69 * k) (u := 0) shp_97 shp_95 (by decide) (by omega) (by omega) (by omega) (by omega) (fun h1 f1 e1 => ?_)
  simp only [kV_at, S195_0, S195_1, S195_2, S195_5, S195_6, S195_7, S195_8, S195_11, S195_14, S195_15, S195_18, S195_19, S195_20, S195_23, S195_24, S195_25, S195_26, S195_29, S195_31, S195_32, S195_33, S195_34, S195_37, S195_38, S195_41, S195_42, S195_43, S195_46, S195_47, shp_93, RV_93_1, RV_93_13, RV_93_14, RV_93_15, RV_93_16, RV_93_17, RV_93_18, RV_93_19, RV_93_20, RV_93_23, RV_93_24, RV_93_27, RV_93_28, RV_93_29, isB_1]
  refine kk _ (frmF_tr (frmF_tr (frmF_I (Or.inr ⟨rfl, Or.inl rfl⟩)) ⟨fun a j hq => f1.1 a j (fun z => hq (Or.inl z.1)), f1.2⟩) (frmF_I (Or.inr ⟨rfl, Or.inr rfl⟩))) (by rw [setI_rd, if_pos ⟨rfl, rfl⟩]; decide) (fun j hj => ?_)
  have := e1 j hj
  rw [Nat.zero_add] at this
  rw [setI_1 (by decide), this, setI_1 (by decide)]
  rfl
end
