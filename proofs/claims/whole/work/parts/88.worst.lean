/-! rounded and worst, alike on both sides. -/
theorem xor_sg {u w : Int64} (hw : 0 ≤ w) : 0 ≤ u ^^^ w ↔ 0 ≤ u := by
  have f : ∀ x : Int64, 0 ≤ x ↔ x.toBitVec.msb = false := fun x => by
    rw [Int64.le_iff_toInt_le, BitVec.msb_eq_toInt, decide_eq_false_iff_not]
    show (0 : Int) ≤ x.toBitVec.toInt ↔ _
    omega
  rw [f, f, Int64.toBitVec_xor, BitVec.msb_xor, (f w).mp hw, Bool.xor_false]
theorem flr {u w : Int64} (hw : 0 < w.toInt) : (if 0 ≤ u ^^^ w then u / w else if u / w * w = u then u / w else u / w - 1) = if u / w * w ≤ u then u / w else u / w - 1 := by
  have hw0 : (0 : Int64) ≤ w := by rw [Int64.le_iff_toInt_le]; show (0 : Int) ≤ _; omega
  have u1 := Int64.toInt_lt u
  have u2 := Int64.le_toInt u
  have t1 := Int.natAbs_tdiv_le_natAbs u.toInt w.toInt
  have t2 := Int.tdiv_mul_add_tmod u.toInt w.toInt
  have q1 : (u / w).toInt = u.toInt.tdiv w.toInt := by
    exact Int64.toInt_div_of_ne_right _ _ (fun z => by
      rw [z] at hw
      exact absurd hw (by decide))
  have t3 : 0 ≤ u.toInt → 0 ≤ u.toInt.tmod w.toInt := Int.tmod_nonneg _
  have t4 : u.toInt < 0 → u.toInt.tmod w.toInt ≤ 0 := fun z => by
    have := Int.tmod_nonneg (a := -u.toInt) w.toInt (by omega)
    rw [Int.neg_tmod] at this
    omega
  have t5 : 0 ≤ u.toInt → 0 ≤ u.toInt.tdiv w.toInt * w.toInt := fun z => Int.mul_nonneg (Int.tdiv_nonneg z (by omega)) (by omega)
  have t6 : u.toInt < 0 → u.toInt.tdiv w.toInt * w.toInt ≤ 0 := fun z => by
    have := Int.mul_nonneg (Int.tdiv_nonneg (a := -u.toInt) (b := w.toInt) (by omega) (by omega)) (show 0 ≤ w.toInt by omega)
    rw [Int.neg_tdiv, Int.neg_mul] at this
    omega
  have q2 : (u / w * w).toInt = u.toInt.tdiv w.toInt * w.toInt := by
    rw [Int64.toInt_mul, q1]
    rcases Int.lt_or_le u.toInt 0 with z | z
    · have := t4 z
      have := t6 z
      exact Int.bmod_eq_of_le (by omega) (by omega)
    · have := t3 z
      have := t5 z
      exact Int.bmod_eq_of_le (by omega) (by omega)
  have c1 : u / w * w ≤ u ↔ u.toInt.tdiv w.toInt * w.toInt ≤ u.toInt := by rw [Int64.le_iff_toInt_le, q2]
  have c2 : u / w * w = u ↔ u.toInt.tdiv w.toInt * w.toInt = u.toInt := by rw [← Int64.toInt_inj, q2]
  by_cases z : 0 ≤ u
  · have z' : 0 ≤ u.toInt := by rw [Int64.le_iff_toInt_le] at z; exact z
    have := t3 z'
    rw [if_pos ((xor_sg hw0).mpr z), if_pos (c1.mpr (by omega))]
  · have z' : u.toInt < 0 := by
      rw [Int64.le_iff_toInt_le] at z
      have : ¬ (0 : Int) ≤ u.toInt := z
      omega
    have := t4 z'
    rw [if_neg (fun q => z ((xor_sg hw0).mp q))]
    by_cases e : u / w * w = u
    · rw [if_pos e, if_pos (c1.mpr (by have := c2.mp e; omega))]
    · rw [if_neg e, if_neg (fun q => e (c2.mpr (by have := c1.mp q; omega)))]
def amt (x : Int32) : Int32 := if 0 ≤ x then x else -x
noncomputable def wst (r : Nat → Int32) : Nat → Int32 × Int32
  | 0 => (-1, -1)
  | l + 1 => @ite _ (rngL r l ∧ (wst r l).2 < amt (clsV r l)) (Classical.propDecidable _) (nI l, amt (clsV r l)) (wst r l)
def bB (r : Nat → Int32) (s : AS) (B : Nat) : Prop := ∀ i, i < rP r → (s.2 i).toInt.natAbs ≤ B
noncomputable def rndV (r : Nat → Int32) (p : Nat) : Int32 := (if (iL (2 * hI r p + dd r) / iL (2 * dd r)) * iL (2 * dd r) ≤ iL (2 * hI r p + dd r) then iL (2 * hI r p + dd r) / iL (2 * dd r) else iL (2 * hI r p + dd r) / iL (2 * dd r) - 1).toInt32
section
variable {d : Nat} {h : Hp} {Q : Option (Option Value) → Hp → Prop} {x y z t : Int32} {k l p q : Nat} {r : Nat → Int32} {s : AS} {B : Nat}
theorem c_rounded_no (hC : cls r h) (hx : ¬ isP r x) (kk : cPost r h Q (some (some (.int (-1000000))))) : WP (d + 6) 61 0 [some (.ref 0), some (.int x)] [] h Q := by
  have k1 := kk h frmF_rf hC
  simp only [S61_0, S61_1, S61_2, S61_5, S61_8, S61_10, S61_11, S61_12, S61_15, S61_18, S61_19, S61_22, S61_25, S61_26, S61_27, S61_28, S61_29, S61_32, S61_35, S61_36, S61_39, S61_40, S61_43, S61_46, S61_47, S61_50, S61_51, shp_0, RV_0_0, RV_0_1, RV_0_2, RV_0_3, RV_0_4, RV_0_5, RV_0_9, RV_0_10, c_isPointX hC.1 hC.2.1, kR_at, if_pos (pb_0.mpr hx)]
  exact k1
theorem l2_iL : (2 : Int64) = iL 2 := by decide
theorem dd_iL (hV : VR r) : (TCf r).2 = iL (dd r) := eI_of (d_eI hV)
theorem c_rounded_yes (hC : cls r h) (hp : p < rP r) (kk : cPost r h Q (some (some (.int (rndV r p))))) : WP (d + 6) 61 0 [some (.ref 0), some (.int (nI p))] [] h Q := by
  have hV := hC.1
  have h6 := hV.1.2
  have h1 : ¬ pb (isP r (nI p)) = 0 := fun z => pb_0.mp z ⟨p, hp, rfl⟩
  have hd := dd_U hV
  have w1 : (iL (2 * dd r)).toInt = 2 * dd r := iL_T (B := 4452408) (by omega) (by decide)
  have w0 : iL (2 * dd r) ≠ 0 := fun z => by
    have : (iL (2 * dd r)).toInt = 0 := by rw [z]; rfl
    omega
  simp only [S61_0, S61_1, S61_2, S61_5, S61_8, S61_10, S61_11, S61_12, S61_15, S61_18, S61_19, S61_22, S61_25, S61_26, S61_27, S61_28, S61_29, S61_32, S61_35, S61_36, S61_39, S61_40, S61_43, S61_46, S61_47, S61_50, S61_51, shp_0, RV_0_0, RV_0_1, RV_0_2, RV_0_3, RV_0_4, RV_0_5, RV_0_9, RV_0_10, shp_12, RV_12_1, RV_12_2, RV_12_3, c_isPointX hC.1 hC.2.1, kR_at, if_neg h1]
  refine c_settle (d := d) hC (fun h' f s z => ?_)
  have k1 := kk h' f (stl_cls s z)
  unfold rndV at k1
  rw [← flr (by omega)] at k1
  simp only [kV_at, S61_0, S61_1, S61_2, S61_5, S61_8, S61_10, S61_11, S61_12, S61_15, S61_18, S61_19, S61_22, S61_25, S61_26, S61_27, S61_28, S61_29, S61_32, S61_35, S61_36, S61_39, S61_40, S61_43, S61_46, S61_47, S61_50, S61_51, shp_0, RV_0_0, RV_0_1, RV_0_2, RV_0_3, RV_0_4, RV_0_5, RV_0_9, RV_0_10, shp_12, RV_12_1, RV_12_2, RV_12_3, ok20 (show p < 6 by omega), nI_cl (show p < 2147483648 by omega), s.2.2.2.2.2.2.2 p hp, s.2.2.2.2.2.1, dd_iL hV, eI_of (ab_eI (p := p) hV), l2_iL, iL_mul, iL_add, c_floor w0, kR_at]
  exact k1
theorem m_rounded_no (hr : h.1 95 = r) (hV : VR r) (hx : ¬ isP r x) (kk : mPost r h Q 0 (some (.int (-1000000)))) : WP (d + 9) 155 0 [some (.ref 93), some (.int x), none, none, none, none, none, none] [] h Q := by
  have k1 := kk _ M0 (r0 (x := 0) hr) t0
  simp only [S155_0, S155_1, S155_2, S155_5, S155_6, S155_7, S155_10, S155_13, S155_16, S155_17, S155_18, S155_21, S155_24, S155_25, S155_28, S155_29, S155_30, S155_31, S155_32, S155_35, S155_36, S155_37, S155_40, S155_41, S155_44, S155_45, S155_47, S155_48, S155_50, S155_51, S155_53, S155_55, S155_57, S155_58, S155_59, S155_60, S155_63, S155_65, S155_66, S155_67, S155_70, S155_72, S155_73, shp_93, RV_93_1, RV_93_13, RV_93_14, RV_93_15, RV_93_16, RV_93_17, RV_93_18, RV_93_19, RV_93_20, RV_93_23, RV_93_24, RV_93_27, RV_93_28, RV_93_29, m_isPointX (r0 (x := 0) hr) hV, kR_at, if_pos (pb_0.mpr hx)]
  exact k1
theorem m_rounded_yes (hr : h.1 95 = r) (hV : VR r) (hp : p < rP r) (kk : mPost r h Q 0 (some (.int (rndV r p)))) : WP (d + 9) 155 0 [some (.ref 93), some (.int (nI p)), none, none, none, none, none, none] [] h Q := by
  have h6 := hV.1.2
  have h1 : ¬ pb (isP r (nI p)) = 0 := fun z => pb_0.mp z ⟨p, hp, rfl⟩
  have hd := dd_U hV
  have w1 : (iL (2 * dd r)).toInt = 2 * dd r := iL_T (B := 4452408) (by omega) (by decide)
  have w0 : iL (2 * dd r) ≠ 0 := fun z => by
    have : (iL (2 * dd r)).toInt = 0 := by rw [z]; rfl
    omega
  have gd : (gjN r).2 = iL (dd r) := by rw [gjN_d hV, ← iL_N, dN_i hV]
  simp only [S155_0, S155_1, S155_2, S155_5, S155_6, S155_7, S155_10, S155_13, S155_16, S155_17, S155_18, S155_21, S155_24, S155_25, S155_28, S155_29, S155_30, S155_31, S155_32, S155_35, S155_36, S155_37, S155_40, S155_41, S155_44, S155_45, S155_47, S155_48, S155_50, S155_51, S155_53, S155_55, S155_57, S155_58, S155_59, S155_60, S155_63, S155_65, S155_66, S155_67, S155_70, S155_72, S155_73, shp_93, RV_93_1, RV_93_13, RV_93_14, RV_93_15, RV_93_16, RV_93_17, RV_93_18, RV_93_19, RV_93_20, RV_93_23, RV_93_24, RV_93_27, RV_93_28, RV_93_29, m_isPointX (r0 (x := 0) hr) hV, kR_at, if_neg h1]
  refine m_solveNow (d := d + 1) (r0 hr) hV (LS_nz hV) (fun h1 f1 m1 s1 => ?_)
  have k1 := kk h1 (frmF_tr M0 (pfr_m f1)) m1.1 (by rw [mfr_t f1]; exact t0)
  unfold rndV at k1
  simp only [kV_at, S155_0, S155_1, S155_2, S155_5, S155_6, S155_7, S155_10, S155_13, S155_16, S155_17, S155_18, S155_21, S155_24, S155_25, S155_28, S155_29, S155_30, S155_31, S155_32, S155_35, S155_36, S155_37, S155_40, S155_41, S155_44, S155_45, S155_47, S155_48, S155_50, S155_51, S155_53, S155_55, S155_57, S155_58, S155_59, S155_60, S155_63, S155_65, S155_66, S155_67, S155_70, S155_72, S155_73, shp_93, RV_93_1, RV_93_13, RV_93_14, RV_93_15, RV_93_16, RV_93_17, RV_93_18, RV_93_19, RV_93_20, RV_93_23, RV_93_24, RV_93_27, RV_93_28, RV_93_29, ok105 (show p < 6 by omega), nI_cl (show p < 2147483648 by omega), s1.2 p hp, s1.1, gd, gjN_h hV, l2_iL, iL_mul, iL_add, kl_none, kl_int, kl_long, w0, ne_eq, not_false_eq_true, lg_cmp_le]
  by_cases c : iL (2 * hI r p + dd r) / iL (2 * dd r) * iL (2 * dd r) ≤ iL (2 * hI r p + dd r)
  · rw [if_pos c]
    rw [if_pos c] at k1
    exact k1
  · rw [if_neg c]
    rw [if_neg c] at k1
    exact k1
/-! worst -/
theorem add_bd {a b : Int32} (ha : a.toInt.natAbs ≤ B) (hb : b.toInt.natAbs ≤ 99) (hB : B < 1000000) : (a + b).toInt.natAbs ≤ B + 99 ∧ (a - b).toInt.natAbs ≤ B + 99 := by
  constructor
  · rw [Int32.toInt_add, Int.bmod_eq_of_le (by omega) (by omega)]
    omega
  · rw [Int32.toInt_sub, Int.bmod_eq_of_le (by omega) (by omega)]
    omega
theorem alS_bd (hV : VR r) (hl : l < rL r) (hB : B < 1000000) (hs : bB r s B) : bB r (alS r l s) (B + 99) := by
  have hVl := hV.2.2.2 l hl
  have hh := hVl.2.2.2.1
  have hr : (r (36 + l)).toInt.natAbs ≤ 99 := by unfold inH at hh; omega
  by_cases c : tre r l ∧ ¬ (s.1 (rA r l) ↔ s.1 (rB r l))
  · by_cases ca : s.1 (rA r l)
    · have cb : ¬ s.1 (rB r l) := fun z => c.2 ⟨fun _ => z, fun _ => ca⟩
      rw [alS_a c.1 ca cb]
      intro i hi
      show (upd s.2 (rB r l) (s.2 (rA r l) + r (36 + l)) i).toInt.natAbs ≤ B + 99
      unfold upd
      split
      · exact (add_bd (hs _ hVl.1.2) hr hB).1
      · have := hs i hi; omega
    · have cb : s.1 (rB r l) := by
        by_cases z : s.1 (rB r l)
        · exact z
        · exact absurd ⟨fun q => absurd q ca, fun q => absurd q z⟩ c.2
      rw [alS_b c.1 ca cb]
      intro i hi
      show (upd s.2 (rA r l) (s.2 (rB r l) - r (36 + l)) i).toInt.natAbs ≤ B + 99
      unfold upd
      split
      · exact (add_bd (hs _ hVl.2.1.2) hr hB).2
      · have := hs i hi; omega
  · rw [alS_no c]
    intro i hi
    have := hs i hi
    omega
theorem alLn_bd (hV : VR r) (hB : B < 100000) (hs : bB r s B) : ∀ n, n ≤ rL r → bB r (alLn r n s) (B + 99 * n)
  | 0, _ => hs
  | n + 1, hn => by
    have h11 := hV.2.1.2
    have := alS_bd (l := n) hV (by omega) (by omega) (alLn_bd hV hB hs n (by omega))
    exact this
theorem alRd_bd (hV : VR r) : ∀ n, n ≤ 6 → bB r (alRd r n (al0 r)) (99 + 1089 * n)
  | 0, _ => fun i hi => by
    show ((al0 r).2 i).toInt.natAbs ≤ 99
    have := (hV.2.2.1 i hi).2
    unfold inH at this
    show (if r (2 + i) = 1 then r (8 + i) else 0).toInt.natAbs ≤ 99
    split
    · omega
    · decide
  | n + 1, hn => by
    have h11 := hV.2.1.2
    have := alLn_bd hV (by omega) (alRd_bd hV n (by omega)) (rL r) (Nat.le_refl _)
    intro i hi
    have := this i hi
    show ((alLn r (rL r) (alRd r n (al0 r))).2 i).toInt.natAbs ≤ _
    omega
theorem clsV_bd (hV : VR r) (hl : l < rL r) : (clsV r l).toInt.natAbs ≤ 20000 := by
  have hVl := hV.2.2.2 l hl
  have hh := hVl.2.2.2.1
  have a1 := alRd_bd hV (rP r) hV.1.2 (rA r l) hVl.1.2
  have a2 := alRd_bd hV (rP r) hV.1.2 (rB r l) hVl.2.1.2
  have h6 := hV.1.2
  unfold inH at hh
  unfold clsV alF
  generalize (alRd r (rP r) (al0 r)).2 (rA r l) = a at *
  generalize (alRd r (rP r) (al0 r)).2 (rB r l) = b at *
  generalize r (36 + l) = c at *
  rw [Int32.toInt_sub, Int32.toInt_sub, Int.bmod_eq_of_le (n := b.toInt - a.toInt) (by omega) (by omega), Int.bmod_eq_of_le (by omega) (by omega)]
  omega
theorem amt_nn (hx : x.toInt.natAbs ≤ 20000) : (-1 : Int32) < amt x ∧ amt x ≠ -1 := by
  have e1 : (-1 : Int32).toInt = -1 := by decide
  have : 0 ≤ (amt x).toInt := by
    unfold amt
    by_cases c : 0 ≤ x
    · rw [if_pos c]
      rw [Int32.le_iff_toInt_le] at c
      exact c
    · rw [if_neg c, Int32.toInt_neg, Int.bmod_eq_of_le (by omega) (by omega)]
      rw [Int32.le_iff_toInt_le] at c
      have : ¬ (0 : Int) ≤ x.toInt := c
      omega
  refine ⟨by rw [Int32.lt_iff_toInt_lt]; omega, fun z => ?_⟩
  rw [z] at this
  omega
theorem wst_y (h1 : rngL r l) (h2 : (wst r l).2 < amt (clsV r l)) : wst r (l + 1) = (nI l, amt (clsV r l)) := @if_pos _ (Classical.propDecidable _) ⟨h1, h2⟩ _ _ _
theorem wst_n (h1 : ¬ (rngL r l ∧ (wst r l).2 < amt (clsV r l))) : wst r (l + 1) = wst r l := @if_neg _ (Classical.propDecidable _) h1 _ _ _
theorem wst_or : ∀ m, wst r m = (-1, -1) ∨ ∃ k, k < m ∧ rngL r k ∧ wst r m = (nI k, amt (clsV r k))
  | 0 => Or.inl rfl
  | m + 1 => by
    by_cases c : rngL r m ∧ (wst r m).2 < amt (clsV r m)
    · exact Or.inr ⟨m, Nat.lt_succ_self _, c.1, wst_y c.1 c.2⟩
    · rw [wst_n c]
      rcases wst_or m with e | ⟨k, h1, h2, h3⟩
      · exact Or.inl e
      · exact Or.inr ⟨k, by omega, h2, h3⟩
theorem c_worst_loop (s : stl r h) : ∀ (m l : Nat) (o4 : Option Value), l + m = rL r → (WP (d + 7) 67 10 [some (.ref 0), some (.int (wst r l).1), some (.int (wst r l).2), some (.int (nI l)), o4] [] h Q ↔ Q (some (some (.int (wst r (rL r)).1))) h) := by
  have hV := s.1
  have h11 := hV.2.1
  intro m
  induction m with
  | zero =>
    intro l o4 hl
    have : l = rL r := by omega
    subst this
    have hcd : nI (rL r) ≤ nI (rL r) := nI_le (Nat.le_refl _) (by omega)
    rw [S67_10]
    simp only [S67_0, S67_1, S67_4, S67_5, S67_6, S67_7, S67_8, S67_9, S67_11, S67_12, S67_15, S67_18, S67_21, S67_22, S67_23, S67_26, S67_29, S67_32, S67_33, S67_36, S67_37, S67_40, S67_41, S67_44, S67_47, S67_49, S67_51, S67_52, S67_55, S67_56, S67_57, S67_59, S67_60, S67_63, S67_66, S67_67, shp_0, RV_0_0, RV_0_1, RV_0_2, RV_0_3, RV_0_4, RV_0_5, RV_0_9, RV_0_10, shp_21, RV_21_2, RV_21_5, RV_21_6, RV_21_7, RV_21_8, s.2.1.2.2.1, h11.1, if_pos hcd]
  | succ m ih =>
    intro l o4 hl
    have hlt : l < rL r := by omega
    have hVl := hV.2.2.2 l hlt
    have hcd : ¬ nI (rL r) ≤ nI l := nI_ge (by omega) (by omega)
    have ih := fun o4 => ih (l + 1) o4 (by omega)
    rw [S67_10]
    simp only [S67_0, S67_1, S67_4, S67_5, S67_6, S67_7, S67_8, S67_9, S67_11, S67_12, S67_15, S67_18, S67_21, S67_22, S67_23, S67_26, S67_29, S67_32, S67_33, S67_36, S67_37, S67_40, S67_41, S67_44, S67_47, S67_49, S67_51, S67_52, S67_55, S67_56, S67_57, S67_59, S67_60, S67_63, S67_66, S67_67, shp_0, RV_0_0, RV_0_1, RV_0_2, RV_0_3, RV_0_4, RV_0_5, RV_0_9, RV_0_10, shp_21, RV_21_2, RV_21_5, RV_21_6, RV_21_7, RV_21_8, s.2.1.2.2.1, h11.1, if_neg hcd, c_hasRing s, kR_at]
    by_cases hr : rngL r l
    · have ne : ¬ pb (clsd r (nI l)) = 0 := fun z => pb_0.mp z ((clsd_nI hV hlt).mpr hr)
      have e1 := (s.2.2.1.2.2.2 _ hVl.1.2).1
      have e2 := (s.2.2.1.2.2.2 _ hVl.2.1.2).1
      have ec : r (36 + l) - ((alF r).2 (rB r l) - (alF r).2 (rA r l)) = clsV r l := rfl
      have ea : ∀ x : Int32, (if 0 ≤ x then x else -x) = amt x := fun _ => rfl
      simp only [ne, if_false, ↓reduceIte, S67_0, S67_1, S67_4, S67_5, S67_6, S67_7, S67_8, S67_9, S67_11, S67_12, S67_15, S67_18, S67_21, S67_22, S67_23, S67_26, S67_29, S67_32, S67_33, S67_36, S67_37, S67_40, S67_41, S67_44, S67_47, S67_49, S67_51, S67_52, S67_55, S67_56, S67_57, S67_59, S67_60, S67_63, S67_66, S67_67, shp_0, RV_0_0, RV_0_1, RV_0_2, RV_0_3, RV_0_4, RV_0_5, RV_0_9, RV_0_10, shp_8, RV_8_0, RV_8_5, RV_8_6, shp_21, RV_21_2, RV_21_5, RV_21_6, RV_21_7, RV_21_8, c_closingOf hV s.2.1 hlt, kR_at, c_absI, e1, e2, ec, ea, kl_int, kl_none]
      by_cases c : (wst r l).2 < amt (clsV r l)
      · have c' : ¬ amt (clsV r l) ≤ (wst r l).2 := Int32.not_le.mpr c
        rw [wst_y hr c] at ih
        rw [if_neg c']
        simp only [S67_0, S67_1, S67_4, S67_5, S67_6, S67_7, S67_8, S67_9, S67_11, S67_12, S67_15, S67_18, S67_21, S67_22, S67_23, S67_26, S67_29, S67_32, S67_33, S67_36, S67_37, S67_40, S67_41, S67_44, S67_47, S67_49, S67_51, S67_52, S67_55, S67_56, S67_57, S67_59, S67_60, S67_63, S67_66, S67_67, kl_int, kl_ref, nI_add1]
        exact ih _
      · have c' : amt (clsV r l) ≤ (wst r l).2 := Int32.not_lt.mp c
        rw [wst_n (fun z => c z.2)] at ih
        rw [if_pos c']
        simp only [S67_0, S67_1, S67_4, S67_5, S67_6, S67_7, S67_8, S67_9, S67_11, S67_12, S67_15, S67_18, S67_21, S67_22, S67_23, S67_26, S67_29, S67_32, S67_33, S67_36, S67_37, S67_40, S67_41, S67_44, S67_47, S67_49, S67_51, S67_52, S67_55, S67_56, S67_57, S67_59, S67_60, S67_63, S67_66, S67_67, kl_int, kl_ref, nI_add1]
        exact ih _
    · have y : pb (clsd r (nI l)) = 0 := pb_0.mpr (fun z => hr ((clsd_nI hV hlt).mp z))
      rw [wst_n (fun z => hr z.1)] at ih
      simp only [y, if_true, ↓reduceIte, S67_0, S67_1, S67_4, S67_5, S67_6, S67_7, S67_8, S67_9, S67_11, S67_12, S67_15, S67_18, S67_21, S67_22, S67_23, S67_26, S67_29, S67_32, S67_33, S67_36, S67_37, S67_40, S67_41, S67_44, S67_47, S67_49, S67_51, S67_52, S67_55, S67_56, S67_57, S67_59, S67_60, S67_63, S67_66, S67_67, kl_int, kl_ref, nI_add1]
      exact ih _
theorem c_worst (hC : cls r h) (kk : cPost r h Q (some (some (.int (wst r (rL r)).1)))) : WP (d + 7) 67 0 [some (.ref 0), none, none, none, none] [] h Q := by
  simp only [S67_0, S67_1, S67_4, S67_5, S67_6, S67_7, S67_8, S67_9, S67_11, S67_12, S67_15, S67_18, S67_21, S67_22, S67_23, S67_26, S67_29, S67_32, S67_33, S67_36, S67_37, S67_40, S67_41, S67_44, S67_47, S67_49, S67_51, S67_52, S67_55, S67_56, S67_57, S67_59, S67_60, S67_63, S67_66, S67_67, shp_0, RV_0_0, RV_0_1, RV_0_2, RV_0_3, RV_0_4, RV_0_5, RV_0_9, RV_0_10, kl_none, kl_int, kl_ref]
  refine c_settle (d := d + 1) hC (fun h' f s z => ?_)
  simp only [kV_at, S67_0, S67_1, S67_4, S67_5, S67_6, S67_7, S67_8, S67_9, S67_11, S67_12, S67_15, S67_18, S67_21, S67_22, S67_23, S67_26, S67_29, S67_32, S67_33, S67_36, S67_37, S67_40, S67_41, S67_44, S67_47, S67_49, S67_51, S67_52, S67_55, S67_56, S67_57, S67_59, S67_60, S67_63, S67_66, S67_67, kl_none, kl_int, kl_ref]
  rw [nI_l0]
  exact (c_worst_loop (d := d) s (rL r) 0 none (by omega)).mpr (kk h' f (stl_cls s z))
theorem m_worst_loop (hr : h.1 95 = r) (hV : VR r) (ha : ∀ j, j < rP r → h.1 107 j = (alF r).2 j) : ∀ (m l : Nat), l + m = rL r → (WP (d + 6) 167 13 [some (.ref 93), some (.int (wst r l).1), some (.int (nI l))] [] h Q ↔ Q (some (some (.int (wst r (rL r)).1))) h) := by
  have h11 := hV.2.1
  intro m
  induction m with
  | zero =>
    intro l hl
    have : l = rL r := by omega
    subst this
    have hcd : nI (rL r) ≤ nI (rL r) := nI_le (Nat.le_refl _) (by omega)
    rw [S167_13]
    simp only [S167_0, S167_1, S167_2, S167_5, S167_6, S167_9, S167_10, S167_11, S167_12, S167_14, S167_15, S167_18, S167_21, S167_22, S167_23, S167_26, S167_29, S167_30, S167_31, S167_34, S167_35, S167_36, S167_39, S167_42, S167_43, S167_44, S167_47, S167_50, S167_53, S167_54, S167_55, S167_58, S167_61, S167_62, shp_93, RV_93_1, RV_93_13, RV_93_14, RV_93_15, RV_93_16, RV_93_17, RV_93_18, RV_93_19, RV_93_20, RV_93_23, RV_93_24, RV_93_27, RV_93_28, RV_93_29, m_lines, kR_at, hr, h11.1, if_pos hcd]
  | succ m ih =>
    intro l hl
    have hlt : l < rL r := by omega
    have hcd : ¬ nI (rL r) ≤ nI l := nI_ge (by omega) (by omega)
    have ih := ih (l + 1) (by omega)
    have ea : ∀ x : Int32, (if 0 ≤ x then x else -x) = amt x := fun _ => rfl
    have hcl : ∀ l, l < rL r → r (36 + l) - h.1 107 (rB r l) + h.1 107 (rA r l) = clsV r l := fun l hl => by
      have hVl := hV.2.2.2 l hl
      rw [ha _ hVl.1.2, ha _ hVl.2.1.2, clsV_eq]
    have hnn := amt_nn (clsV_bd hV hlt)
    rw [S167_13]
    simp only [S167_0, S167_1, S167_2, S167_5, S167_6, S167_9, S167_10, S167_11, S167_12, S167_14, S167_15, S167_18, S167_21, S167_22, S167_23, S167_26, S167_29, S167_30, S167_31, S167_34, S167_35, S167_36, S167_39, S167_42, S167_43, S167_44, S167_47, S167_50, S167_53, S167_54, S167_55, S167_58, S167_61, S167_62, shp_93, RV_93_1, RV_93_13, RV_93_14, RV_93_15, RV_93_16, RV_93_17, RV_93_18, RV_93_19, RV_93_20, RV_93_23, RV_93_24, RV_93_27, RV_93_28, RV_93_29, m_lines, m_isClosedX hr hV, kR_at, hr, h11.1, if_neg hcd]
    by_cases hg : rngL r l
    · have ne : ¬ pb (clsd r (nI l)) = 0 := fun z => pb_0.mp z ((clsd_nI hV hlt).mpr hg)
      rw [if_neg ne]
      rcases wst_or (r := r) l with e | ⟨k, h1, h2, h3⟩
      · have e1 : (wst r l).1 = -1 := by rw [e]
        have e2 : (wst r l).2 < amt (clsV r l) := by rw [e]; exact hnn.1
        rw [wst_y hg e2] at ih
        rw [e1, if_pos rfl]
        simp only [S167_0, S167_1, S167_2, S167_5, S167_6, S167_9, S167_10, S167_11, S167_12, S167_14, S167_15, S167_18, S167_21, S167_22, S167_23, S167_26, S167_29, S167_30, S167_31, S167_34, S167_35, S167_36, S167_39, S167_42, S167_43, S167_44, S167_47, S167_50, S167_53, S167_54, S167_55, S167_58, S167_61, S167_62, kl_int, kl_ref, nI_add1]
        exact ih
      · have hk : k < rL r := by omega
        have e1 : (wst r l).1 = nI k := by rw [h3]
        have e1' : ¬ nI k = -1 := fun z => by
          have : (nI k).toInt = -1 := by rw [z]; decide
          rw [nI_toInt (by omega)] at this
          omega
        have e2 : (wst r l).2 = amt (clsV r k) := by rw [h3]
        rw [e1, if_neg e1']
        simp only [S167_0, S167_1, S167_2, S167_5, S167_6, S167_9, S167_10, S167_11, S167_12, S167_14, S167_15, S167_18, S167_21, S167_22, S167_23, S167_26, S167_29, S167_30, S167_31, S167_34, S167_35, S167_36, S167_39, S167_42, S167_43, S167_44, S167_47, S167_50, S167_53, S167_54, S167_55, S167_58, S167_61, S167_62, shp_93, RV_93_1, RV_93_13, RV_93_14, RV_93_15, RV_93_16, RV_93_17, RV_93_18, RV_93_19, RV_93_20, RV_93_23, RV_93_24, RV_93_27, RV_93_28, RV_93_29, m_closing (d := d + 4) hr hV hlt, m_closing (d := d + 4) hr hV hk, m_amount, kR_at, hcl l hlt, hcl k hk, ea]
        by_cases c : amt (clsV r k) < amt (clsV r l)
        · have c' : ¬ amt (clsV r l) ≤ amt (clsV r k) := Int32.not_le.mpr c
          rw [wst_y hg (by rw [e2]; exact c)] at ih
          rw [if_neg c']
          simp only [S167_0, S167_1, S167_2, S167_5, S167_6, S167_9, S167_10, S167_11, S167_12, S167_14, S167_15, S167_18, S167_21, S167_22, S167_23, S167_26, S167_29, S167_30, S167_31, S167_34, S167_35, S167_36, S167_39, S167_42, S167_43, S167_44, S167_47, S167_50, S167_53, S167_54, S167_55, S167_58, S167_61, S167_62, kl_int, kl_ref, nI_add1]
          exact ih
        · have c' : amt (clsV r l) ≤ amt (clsV r k) := Int32.not_lt.mp c
          rw [wst_n (fun z => c (by have := z.2; rw [e2] at this; exact this)), e1] at ih
          rw [if_pos c']
          simp only [S167_0, S167_1, S167_2, S167_5, S167_6, S167_9, S167_10, S167_11, S167_12, S167_14, S167_15, S167_18, S167_21, S167_22, S167_23, S167_26, S167_29, S167_30, S167_31, S167_34, S167_35, S167_36, S167_39, S167_42, S167_43, S167_44, S167_47, S167_50, S167_53, S167_54, S167_55, S167_58, S167_61, S167_62, kl_int, kl_ref, nI_add1]
          exact ih
    · have y : pb (clsd r (nI l)) = 0 := pb_0.mpr (fun z => hg ((clsd_nI hV hlt).mp z))
      rw [wst_n (fun z => hg z.1)] at ih
      rw [if_pos y]
      simp only [S167_0, S167_1, S167_2, S167_5, S167_6, S167_9, S167_10, S167_11, S167_12, S167_14, S167_15, S167_18, S167_21, S167_22, S167_23, S167_26, S167_29, S167_30, S167_31, S167_34, S167_35, S167_36, S167_39, S167_42, S167_43, S167_44, S167_47, S167_50, S167_53, S167_54, S167_55, S167_58, S167_61, S167_62, kl_int, kl_ref, nI_add1]
      exact ih
theorem m_worst (hr : h.1 95 = r) (hV : VR r) (kk : mPost r h Q 0 (some (.int (wst r (rL r)).1))) : WP (d + 6) 167 0 [some (.ref 93), none, none] [] h Q := by
  simp only [S167_0, S167_1, S167_2, S167_5, S167_6, S167_9, S167_10, S167_11, S167_12, S167_14, S167_15, S167_18, S167_21, S167_22, S167_23, S167_26, S167_29, S167_30, S167_31, S167_34, S167_35, S167_36, S167_39, S167_42, S167_43, S167_44, S167_47, S167_50, S167_53, S167_54, S167_55, S167_58, S167_61, S167_62, shp_93, RV_93_1, RV_93_13, RV_93_14, RV_93_15, RV_93_16, RV_93_17, RV_93_18, RV_93_19, RV_93_20, RV_93_23, RV_93_24, RV_93_27, RV_93_28, RV_93_29]
  refine m_laysAlong (d := d) (r0 hr) hV (fun h1 e1 f1 => ?_)
  have r1 : h1.1 95 = r := by rw [(f1.1 95 (by decide)).1]; exact r0 hr
  simp only [kV_at, S167_0, S167_1, S167_2, S167_5, S167_6, S167_9, S167_10, S167_11, S167_12, S167_14, S167_15, S167_18, S167_21, S167_22, S167_23, S167_26, S167_29, S167_30, S167_31, S167_34, S167_35, S167_36, S167_39, S167_42, S167_43, S167_44, S167_47, S167_50, S167_53, S167_54, S167_55, S167_58, S167_61, S167_62, kl_none, kl_int, kl_ref]
  rw [nI_l0]
  refine (m_worst_loop (d := d) r1 hV e1 (rL r) 0 (by omega)).mpr ?_
  refine kk h1 (frmF_tr M0 (frmF_frm (fun a j z => Or.inl (Or.inl (by have : a = 107 := z; omega))) f1)) r1 ?_
  rw [(f1.1 93 (by decide)).1]
  exact t0
end
