/-! The class's balance. -/
def BV (h : Hp) (i j : Nat) : Int64 := h.2.1 (15 + i) j
theorem RV14 : ∀ i, i < 5 → RV 14 i = 15 + i := by decide
theorem RT14 : ∀ i, i < 5 → (RT 14 i).isSome = true := by decide
theorem ok14 {i : Nat} (h : i < 5) : okR 14 (nI i) := ⟨Or.inr (okA_nI shp_14 h (by decide)), by rw [nI_cl (by omega)]; exact RT14 i h⟩
theorem shp15 : ∀ i, i < 5 → shp (15 + i) = some (4, 11) := by decide
theorem ok15 {i j : Nat} (hi : i < 5) (hj : j < 11) : okA 4 (15 + i) (nI j) := okA_nI (shp15 i hi) hj (by decide)
theorem ok13 {n : Nat} (h : n < 6) : okA 1 13 (nI n) := okA_nI shp_13 h (by decide)
theorem ok20 {n : Nat} (h : n < 6) : okA 4 20 (nI n) := okA_nI shp_20 h (by decide)
theorem n10 : (10 : Int32) = nI 10 := by decide
theorem la_5 (n : Nat) : (5 : Int32) + nI n = nI (5 + n) := lit_add 5 n
theorem lt11 {n : Nat} (h : n < 11) : ¬ (11 : Int32) ≤ nI n := by
  have : ∀ n, n < 11 → ¬ (11 : Int32) ≤ nI n := by decide
  exact this n h
theorem lt5 {n : Nat} (h : n < 5) : ¬ (5 : Int32) ≤ nI n := by
  have : ∀ n, n < 5 → ¬ (5 : Int32) ≤ nI n := by decide
  exact this n h
/-- what the class may scribble on while it settles -/
def CS (a _j : Nat) : Prop := 12 ≤ a ∧ a ≤ 20
abbrev cfr (h h' : Hp) : Prop := frmF CS h h'
theorem cfr_o {h h' : Hp} {a : Nat} (hf : cfr h h') (ha : ¬ (12 ≤ a ∧ a ≤ 20)) : h'.1 a = h.1 a ∧ h'.2.1 a = h.2.1 a := ⟨funext (fun j => (hf.1 a j ha).1), funext (fun j => (hf.1 a j ha).2)⟩
theorem CN_cfr {h h' : Hp} {r : Nat → Int32} (hf : cfr h h') (hc : CN h 21 r) : CN h' 21 r := by
  have e : ∀ k, k ≤ 5 → h'.1 (21 + k) = h.1 (21 + k) := fun k hk => (cfr_o hf (by omega)).1
  unfold CN
  rw [e 1 (by omega), e 2 (by omega), e 3 (by omega), e 4 (by omega), e 5 (by omega), show h'.1 21 = h.1 21 from e 0 (by omega)]
  exact hc
theorem tiOK_cfr {h h' : Hp} {r : Nat → Int32} (hf : cfr h h') (ht : tiOK r h) : tiOK r h' := by
  unfold tiOK tiA
  rw [(cfr_o hf (a := 8) (by omega)).1, (cfr_o hf (a := 9) (by omega)).1, (cfr_o hf (a := 10) (by omega)).1, (cfr_o hf (a := 11) (by omega)).1]
  exact ht
def rowsC (r : Nat → Int32) (h : Hp) : Prop := CN h 21 r ∧ tiOK r h ∧ h.1 12 0 = nI (wd r) ∧ ∀ p, p < 6 → h.1 13 p = rowV r p
theorem rowsC_L {r : Nat → Int32} {h : Hp} {a j : Nat} {x : Int64} (ha : 12 ≤ a ∧ a ≤ 20) (hc : rowsC r h) : rowsC r (setL h a j x) := ⟨CN_cfr (frmF_L ha) hc.1, tiOK_cfr (frmF_L ha) hc.2.1, hc.2.2⟩
noncomputable def knV (r : Nat → Int32) (p : Nat) : Int64 := dv (fxd r p) (r (8 + p)).toInt64
noncomputable def pC (r : Nat → Int32) (p q : Nat) (w rs : Int64) (i j : Nat) : Int64 := dv (soug r p ∧ i = rowN r p ∧ j = rowN r p) w + dv (soug r p ∧ i = rowN r p ∧ j = 10) rs + (dv (soug r p ∧ i = rowN r p ∧ soug r q ∧ j = rowN r q) (-w) + dv (soug r p ∧ i = rowN r p ∧ ¬ soug r q ∧ j = 10) (w * knV r q))
noncomputable def pLC (r : Nat → Int32) (l i j : Nat) : Int64 := pC r (rA r l) (rB r l) (r (47 + l)).toInt64 (-((r (47 + l)).toInt64 * (r (36 + l)).toInt64)) i j + pC r (rB r l) (rA r l) (r (47 + l)).toInt64 ((r (47 + l)).toInt64 * (r (36 + l)).toInt64) i j
noncomputable def TCn (r : Nat → Int32) : Nat → Nat → Nat → Int64
  | 0, i, j => if j = 5 + i then 1 else 0
  | n + 1, i, j => TCn r n i j + dv (snd r n) (pLC r n i j)
section
variable {d : Nat} {h : Hp} {Q : Option (Option Value) → Hp → Prop} {x y z t : Int32} {u w v rs : Int64} {k l p q : Nat} {r : Nat → Int32}
theorem c_quotient : WP d 20 0 [some (.long u), none, some (.long w), none] [] h Q ↔ Q (some (some (.long (if w = 0 then 0 else u / w)))) h := by
  by_cases hw : w = 0
  · simp only [S20_0, S20_1, S20_2, S20_3, S20_6, S20_7, S20_10, S20_11, S20_12, S20_13, lg_cmp_eq, hw, if_true]
  · simp only [S20_0, S20_1, S20_2, S20_3, S20_6, S20_7, S20_10, S20_11, S20_12, S20_13, lg_cmp_eq, hw, if_false, ne_eq, not_false_eq_true]
theorem c_knownHeight (hN : CN h 21 r) (hp : p < rP r) (hV : VR r) : WP (d + 2) 15 0 [some (.ref 21), some (.int (nI p))] [] h Q ↔ Q (some (some (.long (knV r p)))) h := by
  have hP := hV.1
  simp only [S15_0, S15_1, S15_2, S15_5, S15_8, S15_9, S15_12, S15_13, S15_14, S15_15, S15_18, S15_19, shp_21, RV_21_2, RV_21_5, RV_21_6, RV_21_7, RV_21_8, c_isFixed21 hN (show p < 32 by omega), kR_at, ok22 (show p < 6 by omega), nI_cl (show p < 2147483648 by omega), hN.2.2.2.2.1 p hp]
  by_cases hx : fxd r p
  · rw [if_neg (fun z => pb_0.mp z hx)]
    unfold knV
    rw [dv_t hx]
  · rw [if_pos (pb_0.mpr hx)]
    unfold knV
    rw [dv_f hx]
theorem c_choose_loop (hV : VR r) : ∀ (n p : Nat) (hc : Hp) (o4 : Option Value), p + n = 6 → cfr h hc → CN hc 21 r → tiOK r hc → hc.1 12 0 = nI (rowN r p) → (∀ j, j < p → hc.1 13 j = rowV r j) →
    (∀ hc' : Hp, cfr h hc' → rowsC r hc' → Q (some none) hc') →
    WP (d + 2) 14 7 [some (.ref 12), some (.ref 21), some (.ref 8), some (.int (nI p)), o4] [] hc Q := by
  have hP := hV.1
  have hw := wd_5 hV
  have hbig : ∀ p, rP r ≤ p → rowN r p = wd r := by
    intro p hp
    induction p with
    | zero => unfold rowN wd; rw [show rP r = 0 by omega]
    | succ p ih =>
      rcases Nat.lt_or_ge p (rP r) with z | z
      · have : rP r = p + 1 := by omega
        unfold rowN wd
        rw [this]
      · rw [← ih z]
        unfold rowN
        rw [cK_succ_n (fun y => by have := y.1; omega)]
  intro n
  induction n with
  | zero =>
    intro p hc o4 hp hf hN hT hs hj kk
    have : p = 6 := by omega
    subst this
    rw [S14_7]
    simp only [S14_0, S14_1, S14_2, S14_5, S14_6, S14_8, S14_10, S14_13, S14_14, S14_17, S14_18, S14_19, S14_20, S14_21, S14_22, S14_25, S14_28, S14_29, S14_30, S14_33, S14_36, S14_37, S14_38, S14_41, S14_44, S14_45, S14_48, S14_49, S14_51, S14_53, S14_56, S14_57, S14_60, S14_61, S14_64, S14_65, S14_68, S14_69, S14_70, S14_73, S14_74, S14_75, S14_76, S14_79, S14_80, S14_81, S14_84, S14_87, S14_90, shp_12, RV_12_1, RV_12_2, RV_12_3]
    rw [if_pos (by decide)]
    exact kk hc hf ⟨hN, hT, by rw [hs, hbig 6 (by omega)], hj⟩
  | succ n ih =>
    intro p hc o4 hp hf hN hT hs hj kk
    have hp6 : p < 6 := by omega
    have c1 := nI_cl (n := p) (by omega)
    have f1 : cfr hc (setI hc 13 p (-1)) := frmF_I ⟨by decide, by decide⟩
    have hN1 := CN_cfr f1 hN
    have hT1 := tiOK_cfr f1 hT
    have hno : ¬ soug r p → ∀ o : Option Value, WP (d + 2) 14 7 [some (.ref 12), some (.ref 21), some (.ref 8), some (.int (nI (p + 1))), o] [] (setI hc 13 p (-1)) Q := by
      intro hsn o
      refine ih (p + 1) _ o (by omega) (frmF_tr hf f1) hN1 hT1 ?_ (fun j hjp => ?_) kk
      · rw [setI_1 (by decide), hs]
        unfold rowN
        rw [cK_succ_n hsn]
      · rw [setI_rd]
        by_cases e : j = p
        · subst e; rw [if_pos ⟨rfl, rfl⟩, rowV_n hsn]
        · rw [if_neg (fun z => e z.2)]; exact hj j (by omega)
    rw [S14_7]
    simp only [S14_0, S14_1, S14_2, S14_5, S14_6, S14_8, S14_10, S14_13, S14_14, S14_17, S14_18, S14_19, S14_20, S14_21, S14_22, S14_25, S14_28, S14_29, S14_30, S14_33, S14_36, S14_37, S14_38, S14_41, S14_44, S14_45, S14_48, S14_49, S14_51, S14_53, S14_56, S14_57, S14_60, S14_61, S14_64, S14_65, S14_68, S14_69, S14_70, S14_73, S14_74, S14_75, S14_76, S14_79, S14_80, S14_81, S14_84, S14_87, S14_90, shp_12, RV_12_1, RV_12_2, RV_12_3, shp_21, RV_21_2, RV_21_5, RV_21_6, RV_21_7, RV_21_8, shp_8, RV_8_0, RV_8_5, RV_8_6, if_neg (lt6 hp6), ok13 hp6, c1, hN1.1, hP.1, c_isFixed21 hN1 (show p < 32 by omega), kR_at, kl_int, kl_ref, nI_add1]
    by_cases hpl : p < rP r
    · have hcd : ¬ nI (rP r) ≤ nI p := nI_ge hpl (by omega)
      rw [if_neg hcd]
      by_cases hx : fxd r p
      · rw [if_neg (fun z => pb_0.mp z hx)]
        have k1 := hno (fun z => z.2.1 hx)
        simp only [if_true]
        exact k1 _
      · rw [if_pos (pb_0.mpr hx)]
        simp only [S14_0, S14_1, S14_2, S14_5, S14_6, S14_8, S14_10, S14_13, S14_14, S14_17, S14_18, S14_19, S14_20, S14_21, S14_22, S14_25, S14_28, S14_29, S14_30, S14_33, S14_36, S14_37, S14_38, S14_41, S14_44, S14_45, S14_48, S14_49, S14_51, S14_53, S14_56, S14_57, S14_60, S14_61, S14_64, S14_65, S14_68, S14_69, S14_70, S14_73, S14_74, S14_75, S14_76, S14_79, S14_80, S14_81, S14_84, S14_87, S14_90, shp_12, RV_12_1, RV_12_2, RV_12_3, shp_21, RV_21_2, RV_21_5, RV_21_6, RV_21_7, RV_21_8, shp_8, RV_8_0, RV_8_5, RV_8_6, c_tisRootA hV hT1.1 hpl, kR_at, kl_int, nI_add1]
        by_cases hrt : isRt r p
        · rw [if_neg (fun z => pb_0.mp z hrt)]
          have k1 := hno (fun z => z.2.2 hrt)
          simp only [if_true]
          exact k1 _
        · rw [if_pos (pb_0.mpr hrt)]
          have hsg : soug r p := ⟨hpl, hx, hrt⟩
          have hlt := rowN_lt hsg
          have e0 : (setI hc 13 p (-1)).1 12 0 = nI (rowN r p) := by rw [setI_1 (by decide), hs]
          have e1 : (setI (setI hc 13 p (-1)) 13 p (nI (rowN r p))).1 12 0 = nI (rowN r p) := by rw [setI_1 (by decide), e0]
          simp only [i10, if_false, e0, e1, if_neg (lt5 (show rowN r p < 5 by omega)), ok13 hp6, c1, S14_0, S14_1, S14_2, S14_5, S14_6, S14_8, S14_10, S14_13, S14_14, S14_17, S14_18, S14_19, S14_20, S14_21, S14_22, S14_25, S14_28, S14_29, S14_30, S14_33, S14_36, S14_37, S14_38, S14_41, S14_44, S14_45, S14_48, S14_49, S14_51, S14_53, S14_56, S14_57, S14_60, S14_61, S14_64, S14_65, S14_68, S14_69, S14_70, S14_73, S14_74, S14_75, S14_76, S14_79, S14_80, S14_81, S14_84, S14_87, S14_90, shp_12, RV_12_1, RV_12_2, RV_12_3, shp_21, RV_21_2, RV_21_5, RV_21_6, RV_21_7, RV_21_8, shp_8, RV_8_0, RV_8_5, RV_8_6, kl_int, kl_ref, nI_add1]
          have f2 : cfr (setI hc 13 p (-1)) (setI (setI (setI hc 13 p (-1)) 13 p (nI (rowN r p))) 12 0 (nI (rowN r p + 1))) := frmF_tr (frmF_I ⟨by decide, by decide⟩) (frmF_I ⟨by decide, by decide⟩)
          refine ih (p + 1) _ _ (by omega) (frmF_tr hf (frmF_tr f1 f2)) (CN_cfr f2 hN1) (tiOK_cfr f2 hT1) ?_ (fun j hjp => ?_) kk
          · rw [setI_rd, if_pos ⟨rfl, rfl⟩]
            unfold rowN
            rw [cK_succ_y hsg]
          · rw [setI_1 (by decide), setI_rd]
            by_cases e : j = p
            · subst e; rw [if_pos ⟨rfl, rfl⟩, rowV_y hsg]
            · rw [if_neg (fun z => e z.2), setI_rd, if_neg (fun z => e z.2)]; exact hj j (by omega)
    · have hcd : nI (rP r) ≤ nI p := nI_le (by omega) (by omega)
      rw [if_pos hcd]
      have k1 := hno (fun z => hpl z.1)
      simp only [if_true]
      exact k1 _
theorem c_choose (hV : VR r) (hN : CN h 21 r) (hT : tiOK r h) (kk : ∀ hc' : Hp, cfr h hc' → rowsC r hc' → Q (some none) hc') : WP (d + 2) 14 0 [some (.ref 12), some (.ref 21), some (.ref 8), none, none] [] h Q := by
  simp only [S14_0, S14_1, S14_2, S14_5, S14_6, S14_8, S14_10, S14_13, S14_14, S14_17, S14_18, S14_19, S14_20, S14_21, S14_22, S14_25, S14_28, S14_29, S14_30, S14_33, S14_36, S14_37, S14_38, S14_41, S14_44, S14_45, S14_48, S14_49, S14_51, S14_53, S14_56, S14_57, S14_60, S14_61, S14_64, S14_65, S14_68, S14_69, S14_70, S14_73, S14_74, S14_75, S14_76, S14_79, S14_80, S14_81, S14_84, S14_87, S14_90, shp_12, RV_12_1, RV_12_2, RV_12_3, kl_ref]
  rw [nI_l0]
  have f1 : cfr h (setI h 12 0 (nI 0)) := frmF_I ⟨by decide, by decide⟩
  exact c_choose_loop (h := h) hV 6 0 _ _ (by omega) f1 (CN_cfr f1 hN) (tiOK_cfr f1 hT) (by rw [setI_rd, if_pos ⟨rfl, rfl⟩]; rfl) (fun j hj => by omega) kk
theorem BV_set {i j a b : Nat} {v : Int64} : BV (setL h (15 + i) j v) a b = if a = i ∧ b = j then v else BV h a b := by
  unfold BV
  rw [setL_rd]
  by_cases e : a = i ∧ b = j
  · rw [if_pos ⟨by omega, e.2⟩, if_pos e]
  · rw [if_neg (fun z => e ⟨by omega, z.2⟩), if_neg e]
theorem s64 (a b : Int64) : a - b = a + -b := Int64.sub_eq_add_neg a b
theorem dv_and {A P : Prop} (hA : A) : dv (A ∧ P) v = dv P v := by
  by_cases h : P
  · rw [dv_t h, dv_t ⟨hA, h⟩]
  · rw [dv_f h, dv_f (fun z => h z.2)]
theorem dv_iff {A B : Prop} (hAB : A ↔ B) : dv A v = dv B v := by rw [propext hAB]
theorem BV_add {i0 j0 i j : Nat} : BV (setL h (15 + i0) j0 (h.2.1 (15 + i0) j0 + v)) i j = BV h i j + dv (i = i0 ∧ j = j0) v := by
  rw [BV_set]
  by_cases e : i = i0 ∧ j = j0
  · rw [if_pos e, dv_t e, e.1, e.2]; rfl
  · rw [if_neg e, dv_f e, Int64.add_zero]
theorem c_pull (hV : VR r) (hc : rowsC r h) (hp : p < rP r) (hq : q < rP r)
    (kk : ∀ h' : Hp, cfr h h' → rowsC r h' → (∀ i j, i < 5 → j < 11 → BV h' i j = BV h i j + pC r p q w rs i j) → Q (some none) h') :
    WP (d + 3) 16 0 [some (.ref 12), some (.ref 21), some (.int (nI p)), some (.int (nI q)), some (.long w), none, some (.long rs), none, none] [] h Q := by
  have hP := hV.1
  have hw := wd_5 hV
  have hp6 : p < 6 := by omega
  have hq6 : q < 6 := by omega
  have c1 := nI_cl (n := p) (by omega)
  have c2 := nI_cl (n := q) (by omega)
  by_cases hs : soug r p
  · have hlt := rowN_lt hs
    have h5 : rowN r p < 5 := by omega
    have hne : ¬ nI (rowN r p) = -1 := fun z => (rowV_ne hV).mp (by rw [rowV_y hs]; exact z) hs
    have c3 := nI_cl (n := rowN r p) (by omega)
    have c10 : (10 : Int32).toNatClampNeg = 10 := by decide
    have o10 : okA 4 (15 + rowN r p) 10 := ok15 h5 (j := 10) (by omega)
    have e13 : ∀ (g : Hp) (a j : Nat) (v : Int64), (setL g a j v).1 = g.1 := fun _ _ _ _ => rfl
    simp only [S16_0, S16_1, S16_4, S16_5, S16_6, S16_8, S16_10, S16_11, S16_14, S16_15, S16_16, S16_19, S16_21, S16_22, S16_24, S16_25, S16_26, S16_28, S16_29, S16_30, S16_31, S16_34, S16_36, S16_37, S16_39, S16_40, S16_41, S16_43, S16_44, S16_45, S16_46, S16_49, S16_50, S16_51, S16_52, S16_55, S16_56, S16_59, S16_61, S16_62, S16_64, S16_65, S16_66, S16_68, S16_69, S16_70, S16_73, S16_74, S16_75, S16_76, S16_79, S16_80, S16_83, S16_85, S16_86, S16_87, S16_90, S16_91, S16_92, S16_93, S16_94, S16_96, S16_97, S16_98, shp_12, RV_12_1, RV_12_2, RV_12_3, shp_21, RV_21_2, RV_21_5, RV_21_6, RV_21_7, RV_21_8, ok13 hp6, ok13 hq6, c1, c2, hc.2.2.2 p hp6, hc.2.2.2 q hq6, rowV_y hs, if_neg hne, ok14 h5, c3, RV14 _ h5, ok15 h5 (show rowN r p < 11 by omega), o10, c10, e13, kl_none, kl_long, kl_int]
    by_cases hsq : soug r q
    · have hltq := rowN_lt hsq
      have hneq : ¬ nI (rowN r q) = -1 := fun z => (rowV_ne hV).mp (by rw [rowV_y hsq]; exact z) hsq
      simp only [rowV_y hsq, if_neg hneq, ok15 h5 (show rowN r q < 11 by omega), nI_cl (show rowN r q < 2147483648 by omega), S16_0, S16_1, S16_4, S16_5, S16_6, S16_8, S16_10, S16_11, S16_14, S16_15, S16_16, S16_19, S16_21, S16_22, S16_24, S16_25, S16_26, S16_28, S16_29, S16_30, S16_31, S16_34, S16_36, S16_37, S16_39, S16_40, S16_41, S16_43, S16_44, S16_45, S16_46, S16_49, S16_50, S16_51, S16_52, S16_55, S16_56, S16_59, S16_61, S16_62, S16_64, S16_65, S16_66, S16_68, S16_69, S16_70, S16_73, S16_74, S16_75, S16_76, S16_79, S16_80, S16_83, S16_85, S16_86, S16_87, S16_90, S16_91, S16_92, S16_93, S16_94, S16_96, S16_97, S16_98, shp_12, RV_12_1, RV_12_2, RV_12_3, shp_21, RV_21_2, RV_21_5, RV_21_6, RV_21_7, RV_21_8]
      refine kk _ (frmF_tr (frmF_L ⟨by omega, by omega⟩) (frmF_tr (frmF_L ⟨by omega, by omega⟩) (frmF_L ⟨by omega, by omega⟩))) (rowsC_L ⟨by omega, by omega⟩ (rowsC_L ⟨by omega, by omega⟩ (rowsC_L ⟨by omega, by omega⟩ hc))) (fun i j hi hj => ?_)
      rw [s64, BV_add, BV_add, BV_add]
      unfold pC
      rw [dv_f (show ¬ (soug r p ∧ i = rowN r p ∧ ¬ soug r q ∧ j = 10) from fun z => z.2.2.1 hsq), Int64.add_zero, dv_and hs, dv_and hs, dv_and hs, dv_iff (show (i = rowN r p ∧ soug r q ∧ j = rowN r q) ↔ (i = rowN r p ∧ j = rowN r q) from ⟨fun z => ⟨z.1, z.2.2⟩, fun z => ⟨z.1, hsq, z.2⟩⟩)]
      simp only [a64]
    · have hN2 : ∀ (g : Hp) (a j : Nat) (v : Int64), 12 ≤ a ∧ a ≤ 20 → CN g 21 r → CN (setL g a j v) 21 r := fun g a j v ha hg => CN_cfr (frmF_L ha) hg
      simp only [rowV_n hsq, if_true, S16_0, S16_1, S16_4, S16_5, S16_6, S16_8, S16_10, S16_11, S16_14, S16_15, S16_16, S16_19, S16_21, S16_22, S16_24, S16_25, S16_26, S16_28, S16_29, S16_30, S16_31, S16_34, S16_36, S16_37, S16_39, S16_40, S16_41, S16_43, S16_44, S16_45, S16_46, S16_49, S16_50, S16_51, S16_52, S16_55, S16_56, S16_59, S16_61, S16_62, S16_64, S16_65, S16_66, S16_68, S16_69, S16_70, S16_73, S16_74, S16_75, S16_76, S16_79, S16_80, S16_83, S16_85, S16_86, S16_87, S16_90, S16_91, S16_92, S16_93, S16_94, S16_96, S16_97, S16_98, shp_12, RV_12_1, RV_12_2, RV_12_3, shp_21, RV_21_2, RV_21_5, RV_21_6, RV_21_7, RV_21_8, ok14 h5, c3, RV14 _ h5, o10, c10, c_knownHeight (d := d) (h := setL (setL h (15 + rowN r p) (rowN r p) (h.2.1 (15 + rowN r p) (rowN r p) + w)) (15 + rowN r p) 10 ((setL h (15 + rowN r p) (rowN r p) (h.2.1 (15 + rowN r p) (rowN r p) + w)).2.1 (15 + rowN r p) 10 + rs)) (hN2 _ _ _ _ ⟨by omega, by omega⟩ (hN2 _ _ _ _ ⟨by omega, by omega⟩ hc.1)) hq hV, kR_at]
      refine kk _ (frmF_tr (frmF_L ⟨by omega, by omega⟩) (frmF_tr (frmF_L ⟨by omega, by omega⟩) (frmF_L ⟨by omega, by omega⟩))) (rowsC_L ⟨by omega, by omega⟩ (rowsC_L ⟨by omega, by omega⟩ (rowsC_L ⟨by omega, by omega⟩ hc))) (fun i j hi hj => ?_)
      rw [BV_add, BV_add, BV_add]
      unfold pC
      rw [dv_f (show ¬ (soug r p ∧ i = rowN r p ∧ soug r q ∧ j = rowN r q) from fun z => hsq z.2.2.1), Int64.zero_add, dv_and hs, dv_and hs, dv_and hs, dv_iff (show (i = rowN r p ∧ ¬ soug r q ∧ j = 10) ↔ (i = rowN r p ∧ j = 10) from ⟨fun z => ⟨z.1, z.2.2⟩, fun z => ⟨z.1, hsq, z.2⟩⟩)]
      simp only [a64]
  · simp only [S16_0, S16_1, S16_4, S16_5, S16_6, S16_8, S16_10, S16_11, S16_14, S16_15, S16_16, S16_19, S16_21, S16_22, S16_24, S16_25, S16_26, S16_28, S16_29, S16_30, S16_31, S16_34, S16_36, S16_37, S16_39, S16_40, S16_41, S16_43, S16_44, S16_45, S16_46, S16_49, S16_50, S16_51, S16_52, S16_55, S16_56, S16_59, S16_61, S16_62, S16_64, S16_65, S16_66, S16_68, S16_69, S16_70, S16_73, S16_74, S16_75, S16_76, S16_79, S16_80, S16_83, S16_85, S16_86, S16_87, S16_90, S16_91, S16_92, S16_93, S16_94, S16_96, S16_97, S16_98, shp_12, RV_12_1, RV_12_2, RV_12_3, ok13 hp6, c1, hc.2.2.2 p hp6, rowV_n hs, if_true, kl_none, kl_long]
    refine kk h frmF_rf hc (fun i j hi hj => ?_)
    unfold pC
    rw [dv_f (fun z => hs z.1), dv_f (fun z => hs z.1), dv_f (fun z => hs z.1), dv_f (fun z => hs z.1)]
    simp
end
