/-! The model strikes a line, looks, and mends it. -/
section
variable {d : Nat} {h : Hp} {Q : Option (Option Value) → Hp → Prop} {x y z t : Int32} {u w v rs : Int64} {k l p q : Nat} {r : Nat → Int32}
theorem set_strk (hr : h.1 95 = r) : (setI h 95 (58 + l) 0).1 95 = strk r l := by
  funext j
  rw [setI_rd]
  unfold strk
  by_cases e : j = 58 + l
  · rw [if_pos ⟨rfl, e⟩, if_pos e]
  · rw [if_neg (fun z => e z.2), if_neg e, hr]
theorem mend_r (hr : h.1 95 = strk r l) (hs : snd r l) : (setI h 95 (58 + l) 1).1 95 = r := by
  funext j
  rw [setI_rd]
  by_cases e : j = 58 + l
  · rw [if_pos ⟨rfl, e⟩, e, hs.2]
  · rw [if_neg (fun z => e z.2), hr]
    unfold strk
    rw [if_neg e]
theorem wan_b (hV : VR r) : (wanI r l).natAbs ≤ 3724363601064 := by
  have h1 := (ab_eI (p := rA r l) (strk_V (k := l) hV)).2
  have h2 := (ab_eI (p := rB r l) (strk_V (k := l) hV)).2
  unfold wanI
  omega
theorem m_laysWanted (hr : h.1 95 = r) (hV : VR r) (hl : snd r l)
    (kk : ∀ h' : Hp, frmF WFs h h' → h'.1 95 = r → h'.2.1 93 30 = iL (rN (wanI r l) (dN (strk r l))) → h'.2.1 93 31 = lN (rD (wanI r l) (dN (strk r l))) → Q (some none) h') :
    WP (d + 8) 172 0 [some (.ref 93), some (.int (nI l))] [] h Q := by
  have h6 := hV.1.2
  have h11 := hV.2.1.2
  have hll := hl.1
  have hl11 : l < 11 := by omega
  have hVl := hV.2.2.2 l hl.1
  have hV' := strk_V (k := l) hV
  have hd := dN_b hV'
  have hw := wan_b (l := l) hV
  have ok := ok95 (show 58 + l < 69 by omega)
  have cl := nI_cl (show 58 + l < 2147483648 by omega)
  have fA' : strk r l (14 + l) = nI (rA r l) := by rw [strk_lo (by omega)]; exact hVl.1.1
  have fB' : strk r l (25 + l) = nI (rB r l) := by rw [strk_lo (by omega)]; exact hVl.2.1.1
  have ev : iL (hI (strk r l) (rB r l)) - iL (hI (strk r l) (rA r l)) = iL (wanI r l) := by rw [iL_sub]; rfl
  simp only [S172_0, S172_1, S172_4, S172_6, S172_7, S172_8, S172_9, S172_10, S172_11, S172_14, S172_15, S172_16, S172_19, S172_20, S172_21, S172_24, S172_25, S172_26, S172_29, S172_30, S172_31, S172_34, S172_35, S172_36, S172_37, S172_40, S172_43, S172_44, S172_45, S172_46, S172_49, S172_52, S172_53, S172_54, S172_55, S172_58, S172_61, S172_62, S172_65, S172_67, S172_68, S172_69, S172_70, S172_71, shp_93, RV_93_1, RV_93_13, RV_93_14, RV_93_15, RV_93_16, RV_93_17, RV_93_18, RV_93_19, RV_93_20, RV_93_23, RV_93_24, RV_93_27, RV_93_28, RV_93_29, la_58, ok, cl]
  refine m_solveNow (d := d) (set_strk hr) hV' (LS_nz hV') (fun h1 f1 m1 s1 => ?_)
  simp only [kV_at, S172_0, S172_1, S172_4, S172_6, S172_7, S172_8, S172_9, S172_10, S172_11, S172_14, S172_15, S172_16, S172_19, S172_20, S172_21, S172_24, S172_25, S172_26, S172_29, S172_30, S172_31, S172_34, S172_35, S172_36, S172_37, S172_40, S172_43, S172_44, S172_45, S172_46, S172_49, S172_52, S172_53, S172_54, S172_55, S172_58, S172_61, S172_62, S172_65, S172_67, S172_68, S172_69, S172_70, S172_71, shp_93, RV_93_1, RV_93_13, RV_93_14, RV_93_15, RV_93_16, RV_93_17, RV_93_18, RV_93_19, RV_93_20, RV_93_23, RV_93_24, RV_93_27, RV_93_28, RV_93_29, m_first hl11, m_second hl11, m1.1, fA', fB', kR_at, ok105 (show rA r l < 6 by omega), ok105 (show rB r l < 6 by omega), nI_cl (show rA r l < 2147483648 by omega), nI_cl (show rB r l < 2147483648 by omega), s1.2 (rA r l) (by rw [strk_P]; exact hVl.1.2), s1.2 (rB r l) (by rw [strk_P]; exact hVl.2.1.2), s1.1, gjN_d hV', gjN_h hV', ev]
  refine m_tellsI (by omega) hd.1 (by omega) (fun h2 f2 e1 e2 e3 e4 e5 => ?_)
  have s0 := fun (h : Hp) (Q : Option (Option Value) → Hp → Prop) => m_said (d := d + 7) (h := h) (Q := Q) (k := 0) (by omega)
  have s1' := fun (h : Hp) (Q : Option (Option Value) → Hp → Prop) => m_said (d := d + 7) (h := h) (Q := Q) (k := 1) (by omega)
  rw [show nI 0 = (0 : Int32) from rfl] at s0
  rw [show nI 1 = (1 : Int32) from rfl] at s1'
  have g5 : (setL h2 93 30 (iL (rN (wanI r l) (dN (strk r l))))).2.1 106 1 = lN (rD (wanI r l) (dN (strk r l))) := by rw [setL_1 (by decide)]; exact e5
  simp only [kV_at, S172_0, S172_1, S172_4, S172_6, S172_7, S172_8, S172_9, S172_10, S172_11, S172_14, S172_15, S172_16, S172_19, S172_20, S172_21, S172_24, S172_25, S172_26, S172_29, S172_30, S172_31, S172_34, S172_35, S172_36, S172_37, S172_40, S172_43, S172_44, S172_45, S172_46, S172_49, S172_52, S172_53, S172_54, S172_55, S172_58, S172_61, S172_62, S172_65, S172_67, S172_68, S172_69, S172_70, S172_71, shp_93, RV_93_1, RV_93_13, RV_93_14, RV_93_15, RV_93_16, RV_93_17, RV_93_18, RV_93_19, RV_93_20, RV_93_23, RV_93_24, RV_93_27, RV_93_28, RV_93_29, s0, s1', kR_at, e4, g5, la_58, ok, cl]
  refine kk _ ?_ (mend_r (by show h2.1 95 = _; rw [e1]; exact m1.1) hl) ?_ ?_
  · refine ⟨fun a j hn => ⟨?_, ?_⟩, ?_⟩
    · rw [setI_rd]
      show (if a = 95 ∧ j = 58 + l then 1 else h2.1 a j) = h.1 a j
      by_cases c : a = 95 ∧ j = 58 + l
      · rw [if_pos c, c.1, c.2, hr, hl.2]
      · rw [if_neg c, e1, (f1.1 a j (fun z => hn (Or.inl z))).1, setI_rd, if_neg c]
    · show (setL (setL h2 93 30 _) 93 31 _).2.1 a j = h.2.1 a j
      have na : ¬ (a = 93 ∧ j = 31) := fun z => hn (Or.inr ⟨z.1, Or.inr z.2⟩)
      have nb : ¬ (a = 93 ∧ j = 30) := fun z => hn (Or.inr ⟨z.1, Or.inl z.2⟩)
      rw [setL_rd, if_neg na, setL_rd, if_neg nb, (f2.1 a j (fun z => hn (Or.inl z))).2, (f1.1 a j (fun z => hn (Or.inl z))).2]
      rfl
    · show h2.2.2 = h.2.2
      rw [f2.2, f1.2]
      rfl
  · show (setL (setL h2 93 30 _) 93 31 _).2.1 93 30 = _
    rw [setL_rd, if_neg (by decide), setL_rd, if_pos ⟨rfl, rfl⟩]
  · show (setL (setL h2 93 30 _) 93 31 _).2.1 93 31 = _
    rw [setL_rd, if_pos ⟨rfl, rfl⟩]
theorem wan_hlf (hV : VR r) (hl : snd r l) (hb : ¬ brg r l) : rN (wanI r l) (dN (strk r l)) = rN ((r (36 + l)).toInt * chkI r l + offI r l) (chkI r l).toNat ∧ rD (wanI r l) (dN (strk r l)) = rD ((r (36 + l)).toInt * chkI r l + offI r l) (chkI r l).toNat := by
  have hV' := strk_V (k := l) hV
  have hd := dN_b hV'
  have hc := chk_nb hV hl hb
  refine r_eq hd.1 (by omega) ?_
  have h1 := out_off hV hl hb
  rw [Int.toNat_of_nonneg (by omega), dN_i hV']
  unfold outI at h1
  grind
end
