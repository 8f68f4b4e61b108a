/-! feed, end, fault, alike on both sides. -/
def cb (b : Nat) : Int32 := (nI b).toInt8.toInt32
def by4 (w : Int32) (i : Nat) : Nat := (usr w (nI (24 - 8 * i)) &&& 255).toBitVec.toNat
theorem and255 (v : Int32) : v &&& 255 = nI (v &&& 255).toBitVec.toNat := by
  apply Int32.toBitVec_inj.mp
  show (v &&& 255).toBitVec = BitVec.ofNat 32 (v &&& 255).toBitVec.toNat
  exact (BitVec.ofNat_toNat ..).symm ▸ by simp
theorem and255_lt (v : Int32) : (v &&& 255).toBitVec.toNat < 256 := by
  rw [Int32.toBitVec_and, BitVec.toNat_and]
  have := Nat.and_le_right (n := v.toBitVec.toNat) (m := (255 : Int32).toBitVec.toNat)
  have e : (255 : Int32).toBitVec.toNat = 255 := by decide
  omega
theorem nar255 (v : Int32) : (v &&& 255).toInt8 = v.toInt8 := by
  apply Int8.toBitVec_inj.mp
  show (v &&& 255).toBitVec.signExtend 8 = v.toBitVec.signExtend 8
  refine BitVec.eq_of_getLsbD_eq (fun i hi => ?_)
  rw [BitVec.getLsbD_signExtend, BitVec.getLsbD_signExtend, if_pos (by omega), if_pos (by omega)]
  have := b_and v 255 i
  unfold bt at this
  rw [this]
  have h2 := b_255 i
  unfold bt at h2
  rw [h2, decide_eq_true hi, Bool.and_true]
theorem by4_lt (w : Int32) (i : Nat) : by4 w i < 256 := and255_lt _
def ap (b : Nat → Nat) (n : Nat) (w : Int32) : Nat → Nat := fun j => if j < n then b j else by4 w (j - n)
def tpC (n : Nat) (b : Nat → Nat) (h : Hp) : Prop := h.1 1 1 = nI n ∧ ∀ j, j < n → h.1 2 j = cb (b j)
def tpM (n : Nat) (b : Nat → Nat) (h : Hp) : Prop := h.1 93 2 = nI n ∧ ∀ j, j < n → h.1 94 j = nI (b j)
def TCs (a j : Nat) : Prop := a = 2 ∨ (a = 1 ∧ j = 1)
def TMs (a j : Nat) : Prop := a = 94 ∨ (a = 93 ∧ j = 2)
section
variable {d : Nat} {h h' : Hp} {Q : Option (Option Value) → Hp → Prop} {x y z w v s w1 w2 w3 w4 w5 : Int32} {k l p q t n m : Nat} {r : Nat → Int32} {b : Nat → Nat}
theorem ap_lt (hb : ∀ j, b j < 256) : ∀ j, ap b n w j < 256 := fun j => by
  unfold ap
  split
  · exact hb j
  · exact by4_lt _ _
theorem c_tp1 (hn : n < 540) (h1 : h.1 1 1 = nI n) (hs : k < 2 ^ 31) : WP d 43 3 [some (.ref 1), some (.int w), some (.int (nI k))] [] h Q ↔ WP d 43 3 [some (.ref 1), some (.int w), some (.int (nI k + (-8)))] [] (setI (setI h 2 n (usr w (nI k)).toInt8.toInt32) 1 1 (nI (n + 1))) Q := by
  have c1 : ¬ nI k < 0 := nI_pos hs
  have c2 : ¬ (540 : Int32) ≤ nI n := by rw [show (540 : Int32) = nI 540 by decide]; exact nI_ge hn (by omega)
  have o2 : okA 2 2 (nI n) := okA_nI shp_2 hn (by decide)
  have eu : (w.toUInt32 >>> ((nI k).toUInt32 &&& Int32.toUInt32 31)).toInt32 = usr w (nI k) := rfl
  have g : ∀ x, (setI h 2 n x).1 1 1 = nI n := fun x => by rw [setI_1 (by decide)]; exact h1
  rw [S43_3]
  simp only [S43_0, S43_2, S43_4, S43_7, S43_8, S43_11, S43_14, S43_17, S43_18, S43_21, S43_22, S43_25, S43_26, S43_27, S43_28, S43_29, S43_30, S43_31, S43_32, S43_35, S43_36, S43_37, S43_40, S43_43, S43_46, shp_1, RV_1_0, if_neg c1, h1, if_neg c2, o2, nI_cl (show n < 2147483648 by omega), eu, pk_vb, g, nI_add1, kl_int]
theorem c_tpush (hn : n + 4 ≤ 540) (hT : tpC n b h) (kk : ∀ h' : Hp, frmF TCs h h' → tpC (n + 4) (ap b n w) h' → Q (some none) h') : WP d 43 0 [some (.ref 1), some (.int w), none] [] h Q := by
  have e1 : ∀ (g : Hp) (x : Int32) (m : Nat), (setI (setI g 2 n x) 1 1 (nI m)).1 1 1 = nI m := fun g x m => by rw [setI_rd, if_pos ⟨rfl, rfl⟩]
  have e2 : ∀ (g : Hp) (x : Int32) (k m : Nat), (setI (setI g 2 k x) 1 1 (nI m)).1 1 1 = nI m := fun g x k m => by rw [setI_rd, if_pos ⟨rfl, rfl⟩]
  have s1 : nI 24 + (-8) = nI 16 := by decide
  have s2 : nI 16 + (-8) = nI 8 := by decide
  have s3 : nI 8 + (-8) = nI 0 := by decide
  simp only [S43_0, S43_2, S43_4, S43_7, S43_8, S43_11, S43_14, S43_17, S43_18, S43_21, S43_22, S43_25, S43_26, S43_27, S43_28, S43_29, S43_30, S43_31, S43_32, S43_35, S43_36, S43_37, S43_40, S43_43, S43_46, kl_int]
  rw [show (24 : Int32) = nI 24 by decide, c_tp1 (n := n) (by omega) hT.1 (by decide), s1, c_tp1 (n := n + 1) (by omega) (e2 _ _ _ _) (by decide), s2, c_tp1 (n := n + 1 + 1) (by omega) (e2 _ _ _ _) (by decide), s3, c_tp1 (n := n + 1 + 1 + 1) (by omega) (e2 _ _ _ _) (by decide), S43_3, S43_4, if_pos (by decide), S43_46]
  refine kk _ ?_ ⟨e2 _ _ _ _, ?_⟩
  · exact frmF_tr (frmF_I (Or.inl rfl)) (frmF_tr (frmF_I (Or.inr ⟨rfl, rfl⟩)) (frmF_tr (frmF_I (Or.inl rfl)) (frmF_tr (frmF_I (Or.inr ⟨rfl, rfl⟩)) (frmF_tr (frmF_I (Or.inl rfl)) (frmF_tr (frmF_I (Or.inr ⟨rfl, rfl⟩)) (frmF_tr (frmF_I (Or.inl rfl)) (frmF_I (Or.inr ⟨rfl, rfl⟩))))))))
  · intro j hj
    have cv : ∀ i, (usr w (nI (24 - 8 * i))).toInt8.toInt32 = cb (by4 w i) := fun i => by
      unfold cb by4
      rw [← and255, nar255]
    have c0 := cv 0
    have c1 := cv 1
    have c2 := cv 2
    have c3 := cv 3
    have l : ∀ (g : Hp) (x : Int32), (setI g 1 1 x).1 2 = g.1 2 := fun g x => setI_1 (by decide)
    rw [l, setI_rd, l, setI_rd, l, setI_rd, l, setI_rd]
    unfold ap
    rcases (show j = n + 1 + 1 + 1 ∨ j = n + 1 + 1 ∨ j = n + 1 ∨ j = n ∨ j < n by omega) with e | e | e | e | e
    · subst e
      rw [if_pos ⟨rfl, rfl⟩, if_neg (by omega), show n + 1 + 1 + 1 - n = 3 by omega]
      exact c3
    · subst e
      rw [if_neg (by omega), if_pos ⟨rfl, rfl⟩, if_neg (by omega), show n + 1 + 1 - n = 2 by omega]
      exact c2
    · subst e
      rw [if_neg (by omega), if_neg (by omega), if_pos ⟨rfl, rfl⟩, if_neg (by omega), show n + 1 - n = 1 by omega]
      exact c1
    · subst e
      rw [if_neg (by omega), if_neg (by omega), if_neg (by omega), if_pos ⟨rfl, rfl⟩, if_neg (by omega), Nat.sub_self]
      exact c0
    · rw [if_neg (by omega), if_neg (by omega), if_neg (by omega), if_neg (by omega), if_pos e]
      exact hT.2 j e
theorem m_tp1 (hn : n < 540) (h1 : h.1 93 2 = nI n) (hs : k < 2 ^ 31) : WP d 104 3 [some (.ref 93), some (.int w), some (.int (nI k))] [] h Q ↔ WP d 104 3 [some (.ref 93), some (.int w), some (.int (nI k + (-8)))] [] (setI (setI h 94 n (usr w (nI k) &&& 255)) 93 2 (nI (n + 1))) Q := by
  have c1 : ¬ nI k < 0 := nI_pos hs
  have o2 : okA 1 94 (nI n) := okA_nI shp_94 hn (by decide)
  have eu : (w.toUInt32 >>> ((nI k).toUInt32 &&& Int32.toUInt32 31)).toInt32 = usr w (nI k) := rfl
  have g : ∀ x, (setI h 94 n x).1 93 2 = nI n := fun x => by rw [setI_1 (by decide)]; exact h1
  rw [S104_3]
  simp only [S104_0, S104_2, S104_4, S104_7, S104_8, S104_11, S104_12, S104_15, S104_16, S104_17, S104_18, S104_21, S104_22, S104_23, S104_24, S104_25, S104_28, S104_29, S104_30, S104_33, S104_36, S104_39, shp_93, RV_93_1, RV_93_13, RV_93_14, RV_93_15, RV_93_16, RV_93_17, RV_93_18, RV_93_19, RV_93_20, RV_93_23, RV_93_24, RV_93_27, RV_93_28, RV_93_29, if_neg c1, h1, o2, nI_cl (show n < 2147483648 by omega), eu, g, nI_add1, kl_int]
theorem m_come (hn : n + 4 ≤ 540) (hT : tpM n b h) (kk : ∀ h' : Hp, frmF TMs h h' → tpM (n + 4) (ap b n w) h' → Q (some none) h') : WP d 104 0 [some (.ref 93), some (.int w), none] [] h Q := by
  have e2 : ∀ (g : Hp) (x : Int32) (k m : Nat), (setI (setI g 94 k x) 93 2 (nI m)).1 93 2 = nI m := fun g x k m => by rw [setI_rd, if_pos ⟨rfl, rfl⟩]
  have s1 : nI 24 + (-8) = nI 16 := by decide
  have s2 : nI 16 + (-8) = nI 8 := by decide
  have s3 : nI 8 + (-8) = nI 0 := by decide
  simp only [S104_0, S104_2, S104_4, S104_7, S104_8, S104_11, S104_12, S104_15, S104_16, S104_17, S104_18, S104_21, S104_22, S104_23, S104_24, S104_25, S104_28, S104_29, S104_30, S104_33, S104_36, S104_39, kl_int]
  rw [show (24 : Int32) = nI 24 by decide, m_tp1 (n := n) (by omega) hT.1 (by decide), s1, m_tp1 (n := n + 1) (by omega) (e2 _ _ _ _) (by decide), s2, m_tp1 (n := n + 1 + 1) (by omega) (e2 _ _ _ _) (by decide), s3, m_tp1 (n := n + 1 + 1 + 1) (by omega) (e2 _ _ _ _) (by decide), S104_3, S104_4, if_pos (by decide), S104_39]
  refine kk _ ?_ ⟨e2 _ _ _ _, ?_⟩
  · exact frmF_tr (frmF_I (Or.inl rfl)) (frmF_tr (frmF_I (Or.inr ⟨rfl, rfl⟩)) (frmF_tr (frmF_I (Or.inl rfl)) (frmF_tr (frmF_I (Or.inr ⟨rfl, rfl⟩)) (frmF_tr (frmF_I (Or.inl rfl)) (frmF_tr (frmF_I (Or.inr ⟨rfl, rfl⟩)) (frmF_tr (frmF_I (Or.inl rfl)) (frmF_I (Or.inr ⟨rfl, rfl⟩))))))))
  · intro j hj
    have cv : ∀ i, usr w (nI (24 - 8 * i)) &&& 255 = nI (by4 w i) := fun i => and255 _
    have c0 := cv 0
    have c1 := cv 1
    have c2 := cv 2
    have c3 := cv 3
    have l : ∀ (g : Hp) (x : Int32), (setI g 93 2 x).1 94 = g.1 94 := fun g x => setI_1 (by decide)
    rw [l, setI_rd, l, setI_rd, l, setI_rd, l, setI_rd]
    unfold ap
    rcases (show j = n + 1 + 1 + 1 ∨ j = n + 1 + 1 ∨ j = n + 1 ∨ j = n ∨ j < n by omega) with e | e | e | e | e
    · subst e
      rw [if_pos ⟨rfl, rfl⟩, if_neg (by omega), show n + 1 + 1 + 1 - n = 3 by omega]
      exact c3
    · subst e
      rw [if_neg (by omega), if_pos ⟨rfl, rfl⟩, if_neg (by omega), show n + 1 + 1 - n = 2 by omega]
      exact c2
    · subst e
      rw [if_neg (by omega), if_neg (by omega), if_pos ⟨rfl, rfl⟩, if_neg (by omega), show n + 1 - n = 1 by omega]
      exact c1
    · subst e
      rw [if_neg (by omega), if_neg (by omega), if_neg (by omega), if_pos ⟨rfl, rfl⟩, if_neg (by omega), Nat.sub_self]
      exact c0
    · rw [if_neg (by omega), if_neg (by omega), if_neg (by omega), if_neg (by omega), if_pos e]
      exact hT.2 j e
def ap5 (b : Nat → Nat) (n : Nat) (w1 w2 w3 w4 w5 : Int32) : Nat → Nat := ap (ap (ap (ap (ap b n w1) (n + 4) w2) (n + 8) w3) (n + 12) w4) (n + 16) w5
theorem fd_if (hn : n ≤ 540) : (nI n + 20 ≤ 540) ↔ n + 20 ≤ 540 := by
  rw [show nI n + 20 = nI (n + 20) from nI_add n 20, show (540 : Int32) = nI 540 by decide]
  exact nI_leI (by omega) (by omega)
theorem c_feed_no (hT : tpC n b h) (hn : n ≤ 540) (hx : ¬ n + 20 ≤ 540) (kk : Q (some (some (.int (-1)))) h) : WP (d + 1) 54 0 [some (.ref 0), some (.int w1), some (.int w2), some (.int w3), some (.int w4), some (.int w5)] [] h Q := by
  simp only [S54_0, S54_1, S54_4, S54_7, S54_9, S54_10, S54_13, S54_16, S54_17, S54_19, S54_22, S54_23, S54_26, S54_27, S54_30, S54_31, S54_34, S54_35, S54_38, S54_39, S54_42, S54_43, S54_46, S54_48, S54_51, S54_52, S54_55, S54_57, S54_60, S54_61, S54_64, S54_67, shp_0, RV_0_0, RV_0_1, RV_0_2, RV_0_3, RV_0_4, RV_0_5, RV_0_9, RV_0_10, shp_1, RV_1_0, hT.1, if_neg (mt (fd_if hn).mp hx)]
  exact kk
theorem c_feed (hT : tpC n b h) (hx : n + 20 ≤ 540) (kk : ∀ h' : Hp, frmF TCs h h' → tpC (n + 20) (ap5 b n w1 w2 w3 w4 w5) h' → Q (some (some (.int (nI (n + 20))))) h') : WP (d + 1) 54 0 [some (.ref 0), some (.int w1), some (.int w2), some (.int w3), some (.int w4), some (.int w5)] [] h Q := by
  simp only [S54_0, S54_1, S54_4, S54_7, S54_9, S54_10, S54_13, S54_16, S54_17, S54_18, S54_19, S54_22, S54_23, S54_26, S54_27, S54_30, S54_31, S54_34, S54_35, S54_38, S54_39, S54_42, S54_43, S54_46, S54_48, S54_51, S54_52, S54_55, S54_57, S54_60, S54_61, S54_64, S54_67, shp_0, RV_0_0, RV_0_1, RV_0_2, RV_0_3, RV_0_4, RV_0_5, RV_0_9, RV_0_10, shp_1, RV_1_0, hT.1, if_pos ((fd_if (show n ≤ 540 by omega)).mpr hx)]
  refine c_tpush (n := n) (by omega) hT (fun h1 f1 t1 => ?_)
  simp only [kV_at, S54_0, S54_1, S54_4, S54_7, S54_9, S54_10, S54_13, S54_16, S54_17, S54_18, S54_19, S54_22, S54_23, S54_26, S54_27, S54_30, S54_31, S54_34, S54_35, S54_38, S54_39, S54_42, S54_43, S54_46, S54_48, S54_51, S54_52, S54_55, S54_57, S54_60, S54_61, S54_64, S54_67, shp_0, RV_0_0, RV_0_1, RV_0_2, RV_0_3, RV_0_4, RV_0_5, RV_0_9, RV_0_10, shp_1, RV_1_0]
  refine c_tpush (n := n + 4) (by omega) t1 (fun h2 f2 t2 => ?_)
  simp only [kV_at, S54_0, S54_1, S54_4, S54_7, S54_9, S54_10, S54_13, S54_16, S54_17, S54_18, S54_19, S54_22, S54_23, S54_26, S54_27, S54_30, S54_31, S54_34, S54_35, S54_38, S54_39, S54_42, S54_43, S54_46, S54_48, S54_51, S54_52, S54_55, S54_57, S54_60, S54_61, S54_64, S54_67, shp_0, RV_0_0, RV_0_1, RV_0_2, RV_0_3, RV_0_4, RV_0_5, RV_0_9, RV_0_10, shp_1, RV_1_0]
  refine c_tpush (n := n + 8) (by omega) t2 (fun h3 f3 t3 => ?_)
  simp only [kV_at, S54_0, S54_1, S54_4, S54_7, S54_9, S54_10, S54_13, S54_16, S54_17, S54_18, S54_19, S54_22, S54_23, S54_26, S54_27, S54_30, S54_31, S54_34, S54_35, S54_38, S54_39, S54_42, S54_43, S54_46, S54_48, S54_51, S54_52, S54_55, S54_57, S54_60, S54_61, S54_64, S54_67, shp_0, RV_0_0, RV_0_1, RV_0_2, RV_0_3, RV_0_4, RV_0_5, RV_0_9, RV_0_10, shp_1, RV_1_0]
  refine c_tpush (n := n + 12) (by omega) t3 (fun h4 f4 t4 => ?_)
  simp only [kV_at, S54_0, S54_1, S54_4, S54_7, S54_9, S54_10, S54_13, S54_16, S54_17, S54_18, S54_19, S54_22, S54_23, S54_26, S54_27, S54_30, S54_31, S54_34, S54_35, S54_38, S54_39, S54_42, S54_43, S54_46, S54_48, S54_51, S54_52, S54_55, S54_57, S54_60, S54_61, S54_64, S54_67, shp_0, RV_0_0, RV_0_1, RV_0_2, RV_0_3, RV_0_4, RV_0_5, RV_0_9, RV_0_10, shp_1, RV_1_0]
  refine c_tpush (n := n + 16) (by omega) t4 (fun h5 f5 t5 => ?_)
  simp only [kV_at, S54_0, S54_1, S54_4, S54_7, S54_9, S54_10, S54_13, S54_16, S54_17, S54_18, S54_19, S54_22, S54_23, S54_26, S54_27, S54_30, S54_31, S54_34, S54_35, S54_38, S54_39, S54_42, S54_43, S54_46, S54_48, S54_51, S54_52, S54_55, S54_57, S54_60, S54_61, S54_64, S54_67, shp_0, RV_0_0, RV_0_1, RV_0_2, RV_0_3, RV_0_4, RV_0_5, RV_0_9, RV_0_10, shp_1, RV_1_0, t5.1]
  exact kk h5 (frmF_tr f1 (frmF_tr f2 (frmF_tr f3 (frmF_tr f4 f5)))) t5
theorem m_feed_no (hr : h.1 95 = r) (hT : tpM n b h) (hn : n ≤ 540) (hx : ¬ n + 20 ≤ 540) (kk : mPost r h Q 0 (some (.int (-1)))) : WP (d + 1) 105 0 [some (.ref 93), some (.int w1), some (.int w2), some (.int w3), some (.int w4), some (.int w5)] [] h Q := by
  have k1 := kk _ M0 (r0 (x := 0) hr) t0
  have g : (setI h 93 0 0).1 93 2 = nI n := by rw [setI_rd, if_neg (by decide)]; exact hT.1
  simp only [S105_0, S105_1, S105_2, S105_5, S105_6, S105_9, S105_11, S105_12, S105_15, S105_18, S105_19, S105_21, S105_22, S105_25, S105_26, S105_27, S105_30, S105_31, S105_32, S105_35, S105_36, S105_38, S105_41, S105_42, S105_44, S105_47, S105_48, S105_51, shp_93, RV_93_1, RV_93_13, RV_93_14, RV_93_15, RV_93_16, RV_93_17, RV_93_18, RV_93_19, RV_93_20, RV_93_23, RV_93_24, RV_93_27, RV_93_28, RV_93_29, g, if_neg (mt (fd_if hn).mp hx)]
  exact k1
theorem m_feed (hT : tpM n b h) (hx : n + 20 ≤ 540) (kk : ∀ h' : Hp, frmF (fun a j => TMs a j ∨ (a = 93 ∧ j = 0)) h h' → tpM (n + 20) (ap5 b n w1 w2 w3 w4 w5) h' → Q (some (some (.int (nI (n + 20))))) h') : WP (d + 1) 105 0 [some (.ref 93), some (.int w1), some (.int w2), some (.int w3), some (.int w4), some (.int w5)] [] h Q := by
  have g : (setI h 93 0 0).1 93 2 = nI n := by rw [setI_rd, if_neg (by decide)]; exact hT.1
  have hT0 : tpM n b (setI h 93 0 0) := ⟨g, fun j hj => by rw [setI_1 (by decide)]; exact hT.2 j hj⟩
  have wk : ∀ {h h' : Hp}, frmF TMs h h' → frmF (fun a j => TMs a j ∨ (a = 93 ∧ j = 0)) h h' := fun f => ⟨fun a j hq => f.1 a j (fun z => hq (Or.inl z)), f.2⟩
  simp only [S105_0, S105_1, S105_2, S105_5, S105_6, S105_9, S105_11, S105_12, S105_15, S105_18, S105_19, S105_20, S105_21, S105_22, S105_25, S105_26, S105_27, S105_30, S105_31, S105_32, S105_35, S105_36, S105_38, S105_41, S105_42, S105_44, S105_47, S105_48, S105_51, shp_93, RV_93_1, RV_93_13, RV_93_14, RV_93_15, RV_93_16, RV_93_17, RV_93_18, RV_93_19, RV_93_20, RV_93_23, RV_93_24, RV_93_27, RV_93_28, RV_93_29, g, if_pos ((fd_if (show n ≤ 540 by omega)).mpr hx)]
  refine m_come (n := n) (by omega) hT0 (fun h1 f1 t1 => ?_)
  simp only [kV_at, S105_0, S105_1, S105_2, S105_5, S105_6, S105_9, S105_11, S105_12, S105_15, S105_18, S105_19, S105_20, S105_21, S105_22, S105_25, S105_26, S105_27, S105_30, S105_31, S105_32, S105_35, S105_36, S105_38, S105_41, S105_42, S105_44, S105_47, S105_48, S105_51, shp_93, RV_93_1, RV_93_13, RV_93_14, RV_93_15, RV_93_16, RV_93_17, RV_93_18, RV_93_19, RV_93_20, RV_93_23, RV_93_24, RV_93_27, RV_93_28, RV_93_29]
  refine m_come (n := n + 4) (by omega) t1 (fun h2 f2 t2 => ?_)
  simp only [kV_at, S105_0, S105_1, S105_2, S105_5, S105_6, S105_9, S105_11, S105_12, S105_15, S105_18, S105_19, S105_20, S105_21, S105_22, S105_25, S105_26, S105_27, S105_30, S105_31, S105_32, S105_35, S105_36, S105_38, S105_41, S105_42, S105_44, S105_47, S105_48, S105_51, shp_93, RV_93_1, RV_93_13, RV_93_14, RV_93_15, RV_93_16, RV_93_17, RV_93_18, RV_93_19, RV_93_20, RV_93_23, RV_93_24, RV_93_27, RV_93_28, RV_93_29]
  refine m_come (n := n + 8) (by omega) t2 (fun h3 f3 t3 => ?_)
  simp only [kV_at, S105_0, S105_1, S105_2, S105_5, S105_6, S105_9, S105_11, S105_12, S105_15, S105_18, S105_19, S105_20, S105_21, S105_22, S105_25, S105_26, S105_27, S105_30, S105_31, S105_32, S105_35, S105_36, S105_38, S105_41, S105_42, S105_44, S105_47, S105_48, S105_51, shp_93, RV_93_1, RV_93_13, RV_93_14, RV_93_15, RV_93_16, RV_93_17, RV_93_18, RV_93_19, RV_93_20, RV_93_23, RV_93_24, RV_93_27, RV_93_28, RV_93_29]
  refine m_come (n := n + 12) (by omega) t3 (fun h4 f4 t4 => ?_)
  simp only [kV_at, S105_0, S105_1, S105_2, S105_5, S105_6, S105_9, S105_11, S105_12, S105_15, S105_18, S105_19, S105_20, S105_21, S105_22, S105_25, S105_26, S105_27, S105_30, S105_31, S105_32, S105_35, S105_36, S105_38, S105_41, S105_42, S105_44, S105_47, S105_48, S105_51, shp_93, RV_93_1, RV_93_13, RV_93_14, RV_93_15, RV_93_16, RV_93_17, RV_93_18, RV_93_19, RV_93_20, RV_93_23, RV_93_24, RV_93_27, RV_93_28, RV_93_29]
  refine m_come (n := n + 16) (by omega) t4 (fun h5 f5 t5 => ?_)
  simp only [kV_at, S105_0, S105_1, S105_2, S105_5, S105_6, S105_9, S105_11, S105_12, S105_15, S105_18, S105_19, S105_20, S105_21, S105_22, S105_25, S105_26, S105_27, S105_30, S105_31, S105_32, S105_35, S105_36, S105_38, S105_41, S105_42, S105_44, S105_47, S105_48, S105_51, shp_93, RV_93_1, RV_93_13, RV_93_14, RV_93_15, RV_93_16, RV_93_17, RV_93_18, RV_93_19, RV_93_20, RV_93_23, RV_93_24, RV_93_27, RV_93_28, RV_93_29, t5.1]
  exact kk h5 (frmF_tr (frmF_I (Or.inr ⟨rfl, rfl⟩)) (frmF_tr (wk f1) (frmF_tr (wk f2) (frmF_tr (wk f3) (frmF_tr (wk f4) (wk f5)))))) t5
/-! end, fault -/
theorem c_end_no (hT : tpC n b h) (hx : ¬ (¬ x < 0 ∧ x ≤ nI n)) (kk : Q (some (some (.int 0))) h) : WP d 55 0 [some (.ref 0), some (.int x)] [] h Q := by
  simp only [S55_0, S55_1, S55_4, S55_5, S55_6, S55_9, S55_12, S55_15, S55_16, S55_17, S55_18, S55_21, S55_22, S55_25, S55_26, shp_0, RV_0_0, RV_0_1, RV_0_2, RV_0_3, RV_0_4, RV_0_5, RV_0_9, RV_0_10, shp_1, RV_1_0, hT.1, isB_0, isB_1]
  by_cases c : x < 0
  · rw [if_pos c]; exact kk
  · rw [if_neg c, if_neg (fun z => hx ⟨c, z⟩)]; exact kk
theorem c_end (hT : tpC n b h) (hm : m ≤ n) (hn : n ≤ 540) (kk : ∀ h' : Hp, frmF TCs h h' → tpC m b h' → Q (some (some (.int 1))) h') : WP d 55 0 [some (.ref 0), some (.int (nI m))] [] h Q := by
  have c1 : ¬ nI m < 0 := nI_pos (by omega)
  have c2 : nI m ≤ nI n := nI_le hm (by omega)
  simp only [S55_0, S55_1, S55_4, S55_5, S55_6, S55_9, S55_12, S55_15, S55_16, S55_17, S55_18, S55_21, S55_22, S55_25, S55_26, shp_0, RV_0_0, RV_0_1, RV_0_2, RV_0_3, RV_0_4, RV_0_5, RV_0_9, RV_0_10, shp_1, RV_1_0, hT.1, isB_0, isB_1, if_neg c1, if_pos c2]
  exact kk _ (frmF_I (Or.inr ⟨rfl, rfl⟩)) ⟨by rw [setI_rd, if_pos ⟨rfl, rfl⟩], fun j hj => by rw [setI_1 (by decide)]; exact hT.2 j (by omega)⟩
theorem m_end_no (hr : h.1 95 = r) (hT : tpM n b h) (hx : ¬ (¬ x < 0 ∧ x ≤ nI n)) (kk : mPost r h Q 0 (some (.int 0))) : WP d 106 0 [some (.ref 93), some (.int x)] [] h Q := by
  have k1 := kk _ M0 (r0 (x := 0) hr) t0
  have g : (setI h 93 0 0).1 93 2 = nI n := by rw [setI_rd, if_neg (by decide)]; exact hT.1
  simp only [S106_0, S106_1, S106_2, S106_5, S106_6, S106_9, S106_10, S106_11, S106_14, S106_17, S106_18, S106_19, S106_20, S106_21, S106_24, S106_25, shp_93, RV_93_1, RV_93_13, RV_93_14, RV_93_15, RV_93_16, RV_93_17, RV_93_18, RV_93_19, RV_93_20, RV_93_23, RV_93_24, RV_93_27, RV_93_28, RV_93_29, g, isB_0, isB_1]
  by_cases c : x < 0
  · rw [if_pos c]; exact k1
  · rw [if_neg c, if_neg (fun z => hx ⟨c, z⟩)]; exact k1
theorem m_end (hT : tpM n b h) (hm : m ≤ n) (hn : n ≤ 540) (kk : ∀ h' : Hp, frmF (fun a j => TMs a j ∨ (a = 93 ∧ j = 0)) h h' → tpM m b h' → Q (some (some (.int 1))) h') : WP d 106 0 [some (.ref 93), some (.int (nI m))] [] h Q := by
  have g : (setI h 93 0 0).1 93 2 = nI n := by rw [setI_rd, if_neg (by decide)]; exact hT.1
  have c1 : ¬ nI m < 0 := nI_pos (by omega)
  have c2 : nI m ≤ nI n := nI_le hm (by omega)
  simp only [S106_0, S106_1, S106_2, S106_5, S106_6, S106_9, S106_10, S106_11, S106_14, S106_17, S106_18, S106_19, S106_20, S106_21, S106_24, S106_25, shp_93, RV_93_1, RV_93_13, RV_93_14, RV_93_15, RV_93_16, RV_93_17, RV_93_18, RV_93_19, RV_93_20, RV_93_23, RV_93_24, RV_93_27, RV_93_28, RV_93_29, g, isB_0, isB_1, if_neg c1, if_pos c2]
  exact kk _ (frmF_tr (frmF_I (Or.inr ⟨rfl, rfl⟩)) (frmF_I (Or.inl (Or.inr ⟨rfl, rfl⟩)))) ⟨by rw [setI_rd, if_pos ⟨rfl, rfl⟩], fun j hj => by rw [setI_1 (by decide), setI_1 (by decide)]; exact hT.2 j (by omega)⟩
def fltV (x k w : Int32) : Int32 := if x = 0 then k else if x = 1 then w else -1
theorem c_fault (kk : Q (some (some (.int (fltV x (h.1 0 7) (h.1 0 8))))) h) : WP d 57 0 [some (.ref 0), some (.int x)] [] h Q := by
  unfold fltV at kk
  rw [S57_0, S57_1]
  by_cases c0 : x = 0
  · rw [if_pos c0] at kk ⊢
    simp only [S57_0, S57_1, S57_28, S57_29, S57_32, S57_33, S57_34, S57_37, S57_38, S57_39, shp_0, RV_0_0, RV_0_1, RV_0_2, RV_0_3, RV_0_4, RV_0_5, RV_0_9, RV_0_10]
    exact kk
  rw [if_neg c0] at kk ⊢
  by_cases c1 : x = 1
  · rw [if_pos c1] at kk ⊢
    simp only [S57_0, S57_1, S57_28, S57_29, S57_32, S57_33, S57_34, S57_37, S57_38, S57_39, shp_0, RV_0_0, RV_0_1, RV_0_2, RV_0_3, RV_0_4, RV_0_5, RV_0_9, RV_0_10]
    exact kk
  rw [if_neg c1] at kk ⊢
  simp only [S57_0, S57_1, S57_28, S57_29, S57_32, S57_33, S57_34, S57_37, S57_38, S57_39]
  exact kk
theorem m_fault (hr : h.1 95 = r) (kk : mPost r h Q 0 (some (.int (fltV x (h.1 93 8) (h.1 93 9))))) : WP d 127 0 [some (.ref 93), some (.int x)] [] h Q := by
  have k1 := kk _ M0 (r0 (x := 0) hr) t0
  have g8 : (setI h 93 0 0).1 93 8 = h.1 93 8 := by rw [setI_rd, if_neg (by decide)]
  have g9 : (setI h 93 0 0).1 93 9 = h.1 93 9 := by rw [setI_rd, if_neg (by decide)]
  unfold fltV at k1
  simp only [S127_0, S127_1, S127_2, S127_5, S127_6, S127_9, S127_10, S127_13, S127_16, S127_17, S127_18, S127_21, S127_22, S127_25, S127_28, S127_29, shp_93, RV_93_1, RV_93_13, RV_93_14, RV_93_15, RV_93_16, RV_93_17, RV_93_18, RV_93_19, RV_93_20, RV_93_23, RV_93_24, RV_93_27, RV_93_28, RV_93_29, g8, g9]
  by_cases c0 : x = 0
  · rw [if_pos c0] at k1 ⊢
    exact k1
  rw [if_neg c0] at k1 ⊢
  by_cases c1 : x = 1
  · rw [if_pos c1] at k1 ⊢
    exact k1
  rw [if_neg c1] at k1 ⊢
  exact k1
end
