/-! The model's blunder. -/
theorem r_cmp {a c : Nat} {b e : Nat} (hb : 0 < b) (he : 0 < e) : ((rN (c : Int) e).toNat * rD (a : Int) b < (rN (a : Int) b).toNat * rD (c : Int) e ↔ c * b < a * e) := by
  have ga : 0 < Nat.gcd a b := Nat.gcd_pos_of_pos_right _ hb
  have gc : 0 < Nat.gcd c e := Nat.gcd_pos_of_pos_right _ he
  have f : ∀ a b : Nat, (rN (a : Int) b).toNat = a / Nat.gcd a b ∧ rD (a : Int) b = b / Nat.gcd a b := fun a b => by
    unfold rN rD
    rw [Int.natAbs_natCast]
    exact ⟨by rw [← Int.natCast_ediv, Int.toNat_natCast], rfl⟩
  rw [(f a b).1, (f a b).2, (f c e).1, (f c e).2]
  obtain ⟨x, hx⟩ := Nat.gcd_dvd_left a b
  obtain ⟨y, hy⟩ := Nat.gcd_dvd_right a b
  obtain ⟨z, hz⟩ := Nat.gcd_dvd_left c e
  obtain ⟨w, hw⟩ := Nat.gcd_dvd_right c e
  generalize Nat.gcd a b = G at *
  generalize Nat.gcd c e = H at *
  subst hx
  subst hy
  subst hz
  subst hw
  rw [Nat.mul_div_cancel_left _ ga, Nat.mul_div_cancel_left _ ga, Nat.mul_div_cancel_left _ gc, Nat.mul_div_cancel_left _ gc]
  have e1 : H * z * (G * y) = (G * H) * (z * y) := by grind
  have e2 : G * x * (H * w) = (G * H) * (x * w) := by grind
  rw [e1, e2]
  exact (Nat.mul_lt_mul_left (Nat.mul_pos ga gc)).symm
def BFs (a j : Nat) : Prop := WFs a j ∨ (a = 93 ∧ (j = 32 ∨ j = 33))
section
variable {d : Nat} {h : Hp} {Q : Option (Option Value) → Hp → Prop} {x y z t : Int32} {u w v rs : Int64} {k l p q : Nat} {r : Nat → Int32}
theorem rN_l {a b : Nat} : iL (rN (a : Int) b) = lN (rN (a : Int) b).toNat := by
  rw [← iL_N, Int.toNat_of_nonneg ((r_back (a := (a : Int)) (b := b)).2.2 (by omega))]
theorem m_blun_loop (hV : VR r) : ∀ (m l : Nat) (hc : Hp), l + m = rL r → frmF BFs h hc → hc.1 95 = r → hc.2.1 93 32 = lN (rN ((gf r l).2.1 : Int) (gf r l).2.2).toNat → hc.2.1 93 33 = lN (rD ((gf r l).2.1 : Int) (gf r l).2.2) →
    (∀ h' : Hp, frmF BFs h h' → h'.1 95 = r → h'.2.1 93 32 = lN (rN ((gf r (rL r)).2.1 : Int) (gf r (rL r)).2.2).toNat → h'.2.1 93 33 = lN (rD ((gf r (rL r)).2.1 : Int) (gf r (rL r)).2.2) → Q (some (some (.int (gf r (rL r)).1))) h') →
    WP (d + 90) 177 14 [some (.ref 93), some (.int (gf r l).1), some (.int (nI l))] [] hc Q := by
  have h11 := hV.2.1
  intro m
  induction m with
  | zero =>
    intro l hc hl hf hr a1 a2 kk
    have : l = rL r := by omega
    subst this
    have hcd : nI (rL r) ≤ nI (rL r) := nI_le (Nat.le_refl _) (by omega)
    rw [S177_14]
    simp only [S177_0, S177_1, S177_2, S177_3, S177_4, S177_7, S177_8, S177_9, S177_12, S177_13, S177_15, S177_16, S177_19, S177_22, S177_23, S177_24, S177_27, S177_30, S177_33, S177_34, S177_35, S177_38, S177_39, S177_40, S177_43, S177_44, S177_45, S177_48, S177_49, S177_52, S177_53, S177_56, S177_59, S177_62, S177_65, S177_66, S177_67, S177_68, S177_69, S177_70, S177_73, S177_76, S177_77, S177_78, S177_79, S177_82, S177_85, S177_88, S177_91, S177_92, shp_93, RV_93_1, RV_93_13, RV_93_14, RV_93_15, RV_93_16, RV_93_17, RV_93_18, RV_93_19, RV_93_20, RV_93_23, RV_93_24, RV_93_27, RV_93_28, RV_93_29, m_lines, kR_at, hr, h11.1, if_pos hcd]
    exact kk hc hf hr a1 a2
  | succ m ih =>
    intro l hc hl hf hr a1 a2 kk
    have hcd : ¬ nI (rL r) ≤ nI l := nI_ge (by omega) (by omega)
    have hlt : l < rL r := by omega
    have gb := gf_b hV l (by omega)
    rw [S177_14]
    simp only [S177_0, S177_1, S177_2, S177_3, S177_4, S177_7, S177_8, S177_9, S177_12, S177_13, S177_15, S177_16, S177_19, S177_22, S177_23, S177_24, S177_27, S177_30, S177_33, S177_34, S177_35, S177_38, S177_39, S177_40, S177_43, S177_44, S177_45, S177_48, S177_49, S177_52, S177_53, S177_56, S177_59, S177_62, S177_65, S177_66, S177_67, S177_68, S177_69, S177_70, S177_73, S177_76, S177_77, S177_78, S177_79, S177_82, S177_85, S177_88, S177_91, S177_92, shp_93, RV_93_1, RV_93_13, RV_93_14, RV_93_15, RV_93_16, RV_93_17, RV_93_18, RV_93_19, RV_93_20, RV_93_23, RV_93_24, RV_93_27, RV_93_28, RV_93_29, m_lines, m_isSoundX hr hV hlt, kR_at, hr, h11.1, if_neg hcd]
    by_cases hs : snd r l
    · have ne : ¬ pb (snd r l) = 0 := fun z => pb_0.mp z hs
      have fa := fA_b hV hs
      have fb := fB_b hV hs
      have b1 := (r_back (a := (fA r l : Int)) (b := fB r l)).2.1
      have b2 : rD (fA r l : Int) (fB r l) ≤ fB r l := rD_le
      have b3 : 0 < rD (fA r l : Int) (fB r l) := rD_pos fb.1
      have c1 := (r_back (a := ((gf r l).2.1 : Int)) (b := (gf r l).2.2)).2.1
      have c2 : rD ((gf r l).2.1 : Int) (gf r l).2.2 ≤ (gf r l).2.2 := rD_le
      have c3 : 0 < rD ((gf r l).2.1 : Int) (gf r l).2.2 := rD_pos gb.2.1
      simp only [ne, ne_eq, not_false_eq_true, if_false, if_true, ↓reduceIte]
      refine m_laysFall (d := d + 80) hr hV hs (fun h1 f1 r1 e4 e5 => ?_)
      rw [rN_l] at e4
      have g1 : h1.2.1 93 32 = _ := (wfs_f f1 (by omega)).trans a1
      have g2 : h1.2.1 93 33 = _ := (wfs_f f1 (by omega)).trans a2
      have F1 : frmF BFs h h1 := frmF_tr hf ⟨fun a j hn => f1.1 a j (fun z => hn (Or.inl z)), f1.2⟩
      have mm := m_isMore (h := h1) 43 (rN (fA r l : Int) (fB r l)).toNat (rD (fA r l : Int) (fB r l)) (rN ((gf r l).2.1 : Int) (gf r l).2.2).toNat (rD ((gf r l).2.1 : Int) (gf r l).2.2) (d + 89) (by omega) b3 (by omega) (by omega) c3 (by omega) (by omega) (by omega)
      simp only [kV_at, S177_0, S177_1, S177_2, S177_3, S177_4, S177_7, S177_8, S177_9, S177_12, S177_13, S177_15, S177_16, S177_19, S177_22, S177_23, S177_24, S177_27, S177_30, S177_33, S177_34, S177_35, S177_38, S177_39, S177_40, S177_43, S177_44, S177_45, S177_48, S177_49, S177_52, S177_53, S177_56, S177_59, S177_62, S177_65, S177_66, S177_67, S177_68, S177_69, S177_70, S177_73, S177_76, S177_77, S177_78, S177_79, S177_82, S177_85, S177_88, S177_91, S177_92, shp_93, RV_93_1, RV_93_13, RV_93_14, RV_93_15, RV_93_16, RV_93_17, RV_93_18, RV_93_19, RV_93_20, RV_93_23, RV_93_24, RV_93_27, RV_93_28, RV_93_29, m_said0, m_said1, kR_at, e4, e5, g1, g2, mm, pb_congr (r_cmp (a := fA r l) (b := fB r l) (c := (gf r l).2.1) (e := (gf r l).2.2) fb.1 gb.2.1)]
      by_cases hc2 : (gf r l).2.1 * fB r l < fA r l * (gf r l).2.2
      · have e : gf r (l + 1) = (nI l, fA r l, fB r l) := @if_pos _ (Classical.propDecidable _) ⟨hs, hc2⟩ _ _ _
        have n2 : ¬ pb ((gf r l).2.1 * fB r l < fA r l * (gf r l).2.2) = 0 := fun z => pb_0.mp z hc2
        have ih := ih (l + 1)
        rw [e] at ih
        have g5 : (setL h1 93 32 (lN (rN (fA r l : Int) (fB r l)).toNat)).2.1 106 1 = lN (rD (fA r l : Int) (fB r l)) := by rw [setL_1 (by decide)]; exact e5
        simp only [n2, ne_eq, not_false_eq_true, if_false, if_true, ↓reduceIte, S177_0, S177_1, S177_2, S177_3, S177_4, S177_7, S177_8, S177_9, S177_12, S177_13, S177_15, S177_16, S177_19, S177_22, S177_23, S177_24, S177_27, S177_30, S177_33, S177_34, S177_35, S177_38, S177_39, S177_40, S177_43, S177_44, S177_45, S177_48, S177_49, S177_52, S177_53, S177_56, S177_59, S177_62, S177_65, S177_66, S177_67, S177_68, S177_69, S177_70, S177_73, S177_76, S177_77, S177_78, S177_79, S177_82, S177_85, S177_88, S177_91, S177_92, shp_93, RV_93_1, RV_93_13, RV_93_14, RV_93_15, RV_93_16, RV_93_17, RV_93_18, RV_93_19, RV_93_20, RV_93_23, RV_93_24, RV_93_27, RV_93_28, RV_93_29, m_said0, m_said1, kR_at, e4, g5, kl_int, kl_ref, nI_add1]
        refine ih _ (by omega) (frmF_tr F1 (frmF_tr (frmF_L (Or.inr ⟨rfl, Or.inl rfl⟩)) (frmF_L (Or.inr ⟨rfl, Or.inr rfl⟩)))) r1 ?_ ?_ kk
        · rw [setL_rd, if_neg (by decide), setL_rd, if_pos ⟨rfl, rfl⟩]
        · rw [setL_rd, if_pos ⟨rfl, rfl⟩]
      · have e : gf r (l + 1) = gf r l := @if_neg _ (Classical.propDecidable _) (fun z => hc2 z.2) _ _ _
        have n2 : pb ((gf r l).2.1 * fB r l < fA r l * (gf r l).2.2) = 0 := pb_0.mpr hc2
        have ih := ih (l + 1)
        rw [e] at ih
        simp only [n2, ne_eq, not_true_eq_false, if_false, if_true, ↓reduceIte, S177_0, S177_1, S177_2, S177_3, S177_4, S177_7, S177_8, S177_9, S177_12, S177_13, S177_15, S177_16, S177_19, S177_22, S177_23, S177_24, S177_27, S177_30, S177_33, S177_34, S177_35, S177_38, S177_39, S177_40, S177_43, S177_44, S177_45, S177_48, S177_49, S177_52, S177_53, S177_56, S177_59, S177_62, S177_65, S177_66, S177_67, S177_68, S177_69, S177_70, S177_73, S177_76, S177_77, S177_78, S177_79, S177_82, S177_85, S177_88, S177_91, S177_92, kl_int, kl_ref, nI_add1]
        exact ih h1 (by omega) F1 r1 g1 g2 kk
    · have e : gf r (l + 1) = gf r l := @if_neg _ (Classical.propDecidable _) (fun z => hs z.1) _ _ _
      have y : pb (snd r l) = 0 := pb_0.mpr hs
      have ih := ih (l + 1) hc (by omega) hf hr (by rw [e]; exact a1) (by rw [e]; exact a2) kk
      rw [e] at ih
      simp only [y, ne_eq, not_true_eq_false, if_false, if_true, ↓reduceIte, S177_0, S177_1, S177_2, S177_3, S177_4, S177_7, S177_8, S177_9, S177_12, S177_13, S177_15, S177_16, S177_19, S177_22, S177_23, S177_24, S177_27, S177_30, S177_33, S177_34, S177_35, S177_38, S177_39, S177_40, S177_43, S177_44, S177_45, S177_48, S177_49, S177_52, S177_53, S177_56, S177_59, S177_62, S177_65, S177_66, S177_67, S177_68, S177_69, S177_70, S177_73, S177_76, S177_77, S177_78, S177_79, S177_82, S177_85, S177_88, S177_91, S177_92, kl_int, kl_ref, nI_add1]
      exact ih
end
