/-! The model's acts; lines added. -/
def layR (l : Nat) (r : Nat → Int32) (x y z w : Int32) : Nat → Int32 := upd (upd (upd (upd (upd (upd r (14 + l) x) (25 + l) y) (36 + l) z) (47 + l) w) (58 + l) 1) 1 (nI (l + 1))
def isAdd (r : Nat → Int32) (x y z w : Int32) : Prop := rL r < 11 ∧ (isP r x ∧ isP r y ∧ ¬ x = y) ∧ inH z ∧ inW w
section
variable {d : Nat} {h h' : Hp} {Q : Option (Option Value) → Hp → Prop} {x y z w v : Int32} {k l p q t n a b : Nat} {r : Nat → Int32}
theorem lay_at {j : Nat} : layR l r x y z w j = if j = 1 then nI (l + 1) else if j = 58 + l then 1 else if j = 47 + l then w else if j = 36 + l then z else if j = 25 + l then y else if j = 14 + l then x else r j := rfl
theorem lay_o {j : Nat} (h1 : j ≠ 1) (h2 : j ≠ 58 + l) (h3 : j ≠ 47 + l) (h4 : j ≠ 36 + l) (h5 : j ≠ 25 + l) (h6 : j ≠ 14 + l) : layR l r x y z w j = r j := by
  rw [lay_at, if_neg h1, if_neg h2, if_neg h3, if_neg h4, if_neg h5, if_neg h6]
theorem lay_s : layR l r x y z w (58 + l) = 1 := by rw [lay_at, if_neg (by omega), if_pos rfl]
theorem lay_w : layR l r x y z w (47 + l) = w := by rw [lay_at, if_neg (by omega), if_neg (by omega), if_pos rfl]
theorem lay_z : layR l r x y z w (36 + l) = z := by rw [lay_at, if_neg (by omega), if_neg (by omega), if_neg (by omega), if_pos rfl]
theorem lay_y : layR l r x y z w (25 + l) = y := by rw [lay_at, if_neg (by omega), if_neg (by omega), if_neg (by omega), if_neg (by omega), if_pos rfl]
theorem lay_x : layR l r x y z w (14 + l) = x := by rw [lay_at, if_neg (by omega), if_neg (by omega), if_neg (by omega), if_neg (by omega), if_neg (by omega), if_pos rfl]
theorem lay_1 : layR l r x y z w 1 = nI (l + 1) := by rw [lay_at, if_pos rfl]
theorem lay_P : rP (layR l r x y z w) = rP r := by unfold rP; rw [lay_o (by omega) (by omega) (by omega) (by omega) (by omega) (by omega)]
theorem lay_L (hl : l < 11) : rL (layR l r x y z w) = l + 1 := by unfold rL; rw [lay_1, nI_cl (by omega)]
theorem VR_lay (hV : VR r) (hl : rL r = l) (hl2 : l < 11) (hx : x = nI p) (hp : p < rP r) (hy : y = nI q) (hq : q < rP r) (hpq : p ≠ q) (hz : inH z) (hw : inW w) : VR (layR l r x y z w) := by
  have h6 := hV.1.2
  refine ⟨?_, ?_, ?_, ?_⟩
  · rw [lay_P, lay_o (by omega) (by omega) (by omega) (by omega) (by omega) (by omega)]; exact hV.1
  · rw [lay_L hl2, lay_1]; exact ⟨rfl, by omega⟩
  · intro i hi
    rw [lay_P] at hi
    rw [lay_o (by omega) (by omega) (by omega) (by omega) (by omega) (by omega), lay_o (by omega) (by omega) (by omega) (by omega) (by omega) (by omega)]
    exact hV.2.2.1 i hi
  · intro i hi
    rw [lay_L hl2] at hi
    rw [lay_P]
    by_cases e : i = l
    · subst e
      have eA : rA (layR i r x y z w) i = p := by unfold rA; rw [lay_x, hx, nI_cl (by omega)]
      have eB : rB (layR i r x y z w) i = q := by unfold rB; rw [lay_y, hy, nI_cl (by omega)]
      rw [eA, eB, lay_x, lay_y, lay_z, lay_w, lay_s]
      exact ⟨⟨hx, hp⟩, ⟨hy, hq⟩, hpq, hz, hw, isB_1⟩
    · have o1 : layR l r x y z w (14 + i) = r (14 + i) := lay_o (by omega) (by omega) (by omega) (by omega) (by omega) (by omega)
      have o2 : layR l r x y z w (25 + i) = r (25 + i) := lay_o (by omega) (by omega) (by omega) (by omega) (by omega) (by omega)
      have o3 : layR l r x y z w (36 + i) = r (36 + i) := lay_o (by omega) (by omega) (by omega) (by omega) (by omega) (by omega)
      have o4 : layR l r x y z w (47 + i) = r (47 + i) := lay_o (by omega) (by omega) (by omega) (by omega) (by omega) (by omega)
      have o5 : layR l r x y z w (58 + i) = r (58 + i) := lay_o (by omega) (by omega) (by omega) (by omega) (by omega) (by omega)
      have eA : rA (layR l r x y z w) i = rA r i := by unfold rA; rw [o1]
      have eB : rB (layR l r x y z w) i = rB r i := by unfold rB; rw [o2]
      rw [eA, eB, o1, o2, o3, o4, o5]
      exact hV.2.2.2 i (by omega)
theorem CN_lay (hV : VR r) (hN : CN h b r) (hl : rL r = l) (hl2 : l < 11) (q0 : h'.1 b 0 = h.1 b 0) (q1 : h'.1 b 1 = h.1 b 1) (q3 : h'.1 b 3 = nI (l + 1)) (q4 : h'.1 b 4 = h.1 b 4 ||| ((1 : Int32) <<< (nI l &&& 31))) (q5 : h'.1 (b + 1) = h.1 (b + 1)) (e2 : h'.1 (b + 2) = upd (h.1 (b + 2)) l x) (e3 : h'.1 (b + 3) = upd (h.1 (b + 3)) l y) (e4 : h'.1 (b + 4) = upd (h.1 (b + 4)) l z) (e5 : h'.1 (b + 5) = upd (h.1 (b + 5)) l w) : CN h' b (layR l r x y z w) := by
  have h6 := hV.1.2
  refine ⟨?_, ?_, ?_, ?_, fun p hp => ?_, fun i hi => ?_⟩
  · rw [q0, lay_o (by omega) (by omega) (by omega) (by omega) (by omega) (by omega)]; exact hN.1
  · rw [q1, hN.2.1]
    refine mask_congr (fun i _ => ?_)
    unfold fxd
    rw [lay_P]
    constructor
    · rintro ⟨s1, s2⟩; exact ⟨s1, by rw [lay_o (by omega) (by omega) (by omega) (by omega) (by omega) (by omega)]; exact s2⟩
    · rintro ⟨s1, s2⟩; rw [lay_o (by omega) (by omega) (by omega) (by omega) (by omega) (by omega)] at s2; exact ⟨s1, s2⟩
  · rw [q3, lay_1]
  · rw [q4, hN.2.2.2.1]
    refine eq_mask (fun i hi => ?_)
    rw [bt_on (by omega) hi, Bool.or_eq_true, bt_mask hi, decide_eq_true_eq]
    unfold snd
    rw [lay_L hl2, hl]
    constructor
    · rintro (⟨s1, s2⟩ | e)
      · exact ⟨by omega, by rw [lay_o (by omega) (by omega) (by omega) (by omega) (by omega) (by omega)]; exact s2⟩
      · subst e; exact ⟨by omega, lay_s⟩
    · rintro ⟨s1, s2⟩
      by_cases e : i = l
      · exact Or.inr e
      · rw [lay_o (by omega) (by omega) (by omega) (by omega) (by omega) (by omega)] at s2
        exact Or.inl ⟨by omega, s2⟩
  · rw [lay_P] at hp
    rw [q5, lay_o (by omega) (by omega) (by omega) (by omega) (by omega) (by omega)]
    exact hN.2.2.2.2.1 p hp
  · rw [lay_L hl2] at hi
    rw [e2, e3, e4, e5]
    by_cases e : i = l
    · subst e
      rw [upd_eq, upd_eq, upd_eq, upd_eq, lay_x, lay_y, lay_z, lay_w]
      exact ⟨rfl, rfl, rfl, rfl⟩
    · rw [upd_ne e, upd_ne e, upd_ne e, upd_ne e, lay_o (by omega) (by omega) (by omega) (by omega) (by omega) (by omega), lay_o (by omega) (by omega) (by omega) (by omega) (by omega) (by omega), lay_o (by omega) (by omega) (by omega) (by omega) (by omega) (by omega), lay_o (by omega) (by omega) (by omega) (by omega) (by omega) (by omega)]
      exact hN.2.2.2.2.2 i (by omega)
theorem c_putLine (hb : NO b) (h3 : h.1 b 3 = nI l) (hl2 : l < 11) (kk : ∀ h' : Hp, frm (fun x => b ≤ x ∧ x ≤ b + 5) h h' → (∀ r, VR r → CN h b r → rL r = l → CN h' b (layR l r x y z w)) → Q (some (some (.int (nI l)))) h') : WP d 27 0 [some (.ref b), some (.int x), some (.int y), some (.int z), some (.int w), none] [] h Q := by
  obtain ⟨s0, s1, s2, s3, s4, s5, v1, v2, v3, v4, v5⟩ := hb
  have hcd : nI l < 11 := nI_lt (b := 11) hl2 (by omega)
  have m2 : b ≠ b + 2 := by omega
  have m3 : b ≠ b + 3 := by omega
  have m4 : b ≠ b + 4 := by omega
  have m5 : b ≠ b + 5 := by omega
  have n4 : ∀ (g : Hp) (x : Int32), (setI g b 4 x).1 b 3 = g.1 b 3 := fun g x => by rw [setI_rd, if_neg (by omega)]
  simp only [S27_0, S27_1, S27_4, S27_6, S27_9, S27_10, S27_11, S27_12, S27_15, S27_17, S27_18, S27_21, S27_23, S27_24, S27_25, S27_26, S27_29, S27_31, S27_32, S27_33, S27_34, S27_37, S27_39, S27_40, S27_41, S27_42, S27_45, S27_47, S27_49, S27_50, S27_51, S27_52, S27_55, S27_56, S27_58, S27_59, S27_60, S27_63, S27_64, S27_65, S27_68, S27_69, S27_70, S27_73, S27_75, s0, s2, s3, s4, s5, v2, v3, v4, v5, h3, if_pos hcd, okA_nI s2 hl2 (by decide), okA_nI s3 hl2 (by decide), okA_nI s4 hl2 (by decide), okA_nI s5 hl2 (by decide), nI_cl (show l < 2147483648 by omega), kl_int, setI_1 m2, setI_1 m3, setI_1 m4, setI_1 m5, n4, nI_add1]
  refine kk _ (frm_tr (frm_I ⟨by omega, by omega⟩) (frm_tr (frm_I ⟨by omega, by omega⟩) (frm_tr (frm_I ⟨by omega, by omega⟩) (frm_tr (frm_I ⟨by omega, by omega⟩) (frm_tr (frm_I ⟨by omega, by omega⟩) (frm_I ⟨by omega, by omega⟩)))))) (fun r hV hN hl => ?_)
  refine CN_lay hV hN hl hl2 ?_ ?_ ?_ ?_ ?_ ?_ ?_ ?_ ?_
  · rw [setI_rd, if_neg (by omega), setI_rd, if_neg (by omega), setI_1 m5, setI_1 m4, setI_1 m3, setI_1 m2]
  · rw [setI_rd, if_neg (by omega), setI_rd, if_neg (by omega), setI_1 m5, setI_1 m4, setI_1 m3, setI_1 m2]
  · rw [setI_rd, if_pos ⟨rfl, rfl⟩]
  · rw [setI_rd, if_neg (by omega), setI_rd, if_pos ⟨rfl, rfl⟩]
  · rw [setI_1 (by omega), setI_1 (by omega), setI_1 (by omega), setI_1 (by omega), setI_1 (by omega), setI_1 (by omega)]
  · rw [setI_1 (by omega), setI_1 (by omega), setI_1 (by omega), setI_1 (by omega), setI_1 (by omega), setI_s]
  · rw [setI_1 (by omega), setI_1 (by omega), setI_1 (by omega), setI_1 (by omega), setI_s, setI_1 (by omega)]
  · rw [setI_1 (by omega), setI_1 (by omega), setI_1 (by omega), setI_s, setI_1 (by omega), setI_1 (by omega)]
  · rw [setI_1 (by omega), setI_1 (by omega), setI_s, setI_1 (by omega), setI_1 (by omega), setI_1 (by omega)]
theorem m_lays (hs : shp a = some (1, 69)) (h1 : h.1 a 1 = nI l) (hl : l < 11) (kk : ∀ h' : Hp, frm (fun x => x = a) h h' → h'.1 a = layR l (h.1 a) x y z w → Q (some none) h') : WP d 124 0 [some (.ref a), some (.int x), some (.int y), some (.int z), some (.int w), none] [] h Q := by
  have i1 : okA 1 a 1 := okA_nI (n := 1) hs (by decide) (by decide)
  have n1 : ¬ 1 = 14 + l := by omega
  have n2 : ¬ 1 = 25 + l := by omega
  have n3 : ¬ 1 = 36 + l := by omega
  have n4 : ¬ 1 = 47 + l := by omega
  have n5 : ¬ 1 = 58 + l := by omega
  simp only [S124_0, S124_1, S124_2, S124_3, S124_5, S124_6, S124_8, S124_10, S124_11, S124_12, S124_13, S124_14, S124_16, S124_18, S124_19, S124_20, S124_21, S124_22, S124_24, S124_26, S124_27, S124_28, S124_29, S124_30, S124_32, S124_34, S124_35, S124_37, S124_38, S124_39, S124_41, S124_43, S124_44, S124_45, S124_46, S124_47, S124_48, S124_49, S124_50, S124_51, S124_52, S124_53, i1, cl_1, h1, la_14, la_25, la_36, la_47, la_58, okA_nI hs (show 14 + l < 69 by omega) (by decide), okA_nI hs (show 25 + l < 69 by omega) (by decide), okA_nI hs (show 36 + l < 69 by omega) (by decide), okA_nI hs (show 47 + l < 69 by omega) (by decide), okA_nI hs (show 58 + l < 69 by omega) (by decide), nI_cl (show 14 + l < 2147483648 by omega), nI_cl (show 25 + l < 2147483648 by omega), nI_cl (show 36 + l < 2147483648 by omega), nI_cl (show 47 + l < 2147483648 by omega), nI_cl (show 58 + l < 2147483648 by omega), kl_int, setI_rd, n1, n2, n3, n4, n5, and_false, if_false, nI_add1]
  refine kk _ (frm_tr (frm_I rfl) (frm_tr (frm_I rfl) (frm_tr (frm_I rfl) (frm_tr (frm_I rfl) (frm_tr (frm_I rfl) (frm_I rfl)))))) ?_
  simp only [setI_s]
  rfl
/-! stay, becomes -/
def STs (a j : Nat) : Prop := a = 98 ∨ a = 95 ∨ a = 100 ∨ (a = 93 ∧ j = 21)
theorem m_stay (hn : n ≤ 8) (h21 : h.1 93 21 = nI n) (kk : ∀ h' : Hp, frmF STs h h' → snapped n h h' (h.1 99) → h'.1 95 = h.1 95 → Q (some none) h') : WP (d + 2) 180 0 [some (.ref 93)] [] h Q := by
  simp only [S180_0, S180_1, S180_4, S180_5, S180_6, S180_9, S180_10, S180_13, S180_14, S180_17, S180_18, S180_19, S180_22, S180_23, S180_26, S180_27, S180_30, S180_31, S180_34, S180_35, S180_36, S180_39, S180_40, S180_43, shp_93, RV_93_1, RV_93_13, RV_93_14, RV_93_15, RV_93_16, RV_93_17, RV_93_18, RV_93_19, RV_93_20, RV_93_23, RV_93_24, RV_93_27, RV_93_28, RV_93_29]
  refine m_copy (s := 0) (u := 0) shp_95 shp_100 (by decide) (by omega) (by omega) (by omega) (by omega) (fun h1 f1 e1 => ?_)
  simp only [kV_at, S180_0, S180_1, S180_4, S180_5, S180_6, S180_9, S180_10, S180_13, S180_14, S180_17, S180_18, S180_19, S180_22, S180_23, S180_26, S180_27, S180_30, S180_31, S180_34, S180_35, S180_36, S180_39, S180_40, S180_43, shp_93, RV_93_1, RV_93_13, RV_93_14, RV_93_15, RV_93_16, RV_93_17, RV_93_18, RV_93_19, RV_93_20, RV_93_23, RV_93_24, RV_93_27, RV_93_28, RV_93_29]
  refine m_copy (s := 0) (u := 0) shp_99 shp_95 (by decide) (by omega) (by omega) (by omega) (by omega) (fun h2 f2 e2 => ?_)
  simp only [kV_at, S180_0, S180_1, S180_4, S180_5, S180_6, S180_9, S180_10, S180_13, S180_14, S180_17, S180_18, S180_19, S180_22, S180_23, S180_26, S180_27, S180_30, S180_31, S180_34, S180_35, S180_36, S180_39, S180_40, S180_43, shp_93, RV_93_1, RV_93_13, RV_93_14, RV_93_15, RV_93_16, RV_93_17, RV_93_18, RV_93_19, RV_93_20, RV_93_23, RV_93_24, RV_93_27, RV_93_28, RV_93_29]
  have o1 : ∀ a j, a ≠ 100 → h1.1 a j = h.1 a j := fun a j ha => (f1.1 a j (fun z => ha z.1)).1
  have o2 : ∀ a j, a ≠ 95 → h2.1 a j = h1.1 a j := fun a j ha => (f2.1 a j (fun z => ha z.1)).1
  refine m_snap (d := d) hn (by rw [o2 _ _ (by decide), o1 _ _ (by decide)]; exact h21) (fun h3 f3 s3 => ?_)
  simp only [kV_at, S180_0, S180_1, S180_4, S180_5, S180_6, S180_9, S180_10, S180_13, S180_14, S180_17, S180_18, S180_19, S180_22, S180_23, S180_26, S180_27, S180_30, S180_31, S180_34, S180_35, S180_36, S180_39, S180_40, S180_43, shp_93, RV_93_1, RV_93_13, RV_93_14, RV_93_15, RV_93_16, RV_93_17, RV_93_18, RV_93_19, RV_93_20, RV_93_23, RV_93_24, RV_93_27, RV_93_28, RV_93_29]
  refine m_copy (s := 0) (u := 0) shp_100 shp_95 (by decide) (by omega) (by omega) (by omega) (by omega) (fun h4 f4 e4 => ?_)
  simp only [kV_at, S180_0, S180_1, S180_4, S180_5, S180_6, S180_9, S180_10, S180_13, S180_14, S180_17, S180_18, S180_19, S180_22, S180_23, S180_26, S180_27, S180_30, S180_31, S180_34, S180_35, S180_36, S180_39, S180_40, S180_43, shp_93, RV_93_1, RV_93_13, RV_93_14, RV_93_15, RV_93_16, RV_93_17, RV_93_18, RV_93_19, RV_93_20, RV_93_23, RV_93_24, RV_93_27, RV_93_28, RV_93_29]
  have o4 : ∀ a j, a ≠ 95 → h4.1 a j = h3.1 a j := fun a j ha => (f4.1 a j (fun z => ha z.1)).1
  have o3 : ∀ a j, ¬ SNs a j → h3.1 a j = h2.1 a j := fun a j ha => (f3.1 a j ha).1
  refine kk h4 ?_ ⟨?_, ?_, ?_⟩ ?_
  · refine frmF_tr ⟨fun a j hq => f1.1 a j (fun z => hq (Or.inr (Or.inr (Or.inl z.1)))), f1.2⟩ (frmF_tr ⟨fun a j hq => f2.1 a j (fun z => hq (Or.inr (Or.inl z.1))), f2.2⟩ (frmF_tr ⟨fun a j hq => f3.1 a j (fun z => hq (by rcases z with z | z; exact Or.inl z; exact Or.inr (Or.inr (Or.inr z)))), f3.2⟩ ⟨fun a j hq => f4.1 a j (fun z => hq (Or.inr (Or.inl z.1))), f4.2⟩))
  · rw [o4 _ _ (by decide)]; exact s3.1
  · intro j hj
    have := s3.2.1 j hj
    show h4.1 98 _ = _
    rw [o4 _ _ (by decide)]
    refine this.trans ?_
    have := e2 j hj
    rw [Nat.zero_add] at this
    rw [this, o1 _ _ (by decide)]
  · intro i hi j hj
    have := s3.2.2 i hi j hj
    show h4.1 98 _ = h.1 98 _
    rw [o4 _ _ (by decide)]
    refine this.trans ?_
    show h2.1 98 _ = _
    rw [o2 _ _ (by decide), o1 _ _ (by decide)]
  · funext j
    by_cases hj : j < 69
    · have a4 := e4 j hj
      have a1 := e1 j hj
      rw [Nat.zero_add] at a4 a1
      rw [a4, o3 _ _ (by unfold SNs; omega), o2 _ _ (by decide), a1]
    · rw [(f4.1 95 j (fun z => by omega)).1, o3 _ _ (by unfold SNs; omega), (f2.1 95 j (fun z => by omega)).1, o1 _ _ (by decide)]
theorem m_becomes_no (hr : h.1 95 = r) (kk : mPost r h Q 0 (some (.int (-1)))) : WP (d + 2) 181 0 [some (.ref 93), some (.int x), some (.int y), some (.int 0)] [] h Q := by
  have k1 := kk _ M0 (r0 (x := 0) hr) t0
  simp only [S181_0, S181_1, S181_2, S181_5, S181_6, S181_9, S181_10, S181_11, S181_12, S181_15, S181_16, S181_17, S181_18, S181_21, S181_22, S181_23, S181_24, S181_27, S181_28, S181_31, S181_32, S181_33, S181_34, S181_35, shp_93, RV_93_1, RV_93_13, RV_93_14, RV_93_15, RV_93_16, RV_93_17, RV_93_18, RV_93_19, RV_93_20, RV_93_23, RV_93_24, RV_93_27, RV_93_28, RV_93_29, ↓reduceIte]
  exact k1
theorem m_becomes_1 (hr : h.1 95 = r) (hk : k < 69) (he : r k = y) (kk : mPost r h Q 0 (some (.int 1))) : WP (d + 2) 181 0 [some (.ref 93), some (.int (nI k)), some (.int y), some (.int 1)] [] h Q := by
  have k1 := kk _ M0 (r0 (x := 0) hr) t0
  simp only [S181_0, S181_1, S181_2, S181_5, S181_6, S181_9, S181_10, S181_11, S181_12, S181_15, S181_16, S181_17, S181_18, S181_21, S181_22, S181_23, S181_24, S181_27, S181_28, S181_31, S181_32, S181_33, S181_34, S181_35, shp_93, RV_93_1, RV_93_13, RV_93_14, RV_93_15, RV_93_16, RV_93_17, RV_93_18, RV_93_19, RV_93_20, RV_93_23, RV_93_24, RV_93_27, RV_93_28, RV_93_29, i10, if_false, ok95 hk, nI_cl (show k < 2147483648 by omega), r0 (x := 0) hr, he, if_true]
  exact k1
theorem mas_s {a j : Nat} (hs : SNs a j) : MAs a j := by unfold SNs at hs; unfold MAs; omega
theorem m_becomes_do (hr : h.1 95 = r) (hn : n ≤ 8) (h21 : h.1 93 21 = nI n) (hk : k < 69) (he : ¬ r k = y) (kk : mAct n r (upd r k y) h Q (some (.int 0))) : WP (d + 2) 181 0 [some (.ref 93), some (.int (nI k)), some (.int y), some (.int 1)] [] h Q := by
  simp only [S181_0, S181_1, S181_2, S181_5, S181_6, S181_9, S181_10, S181_11, S181_12, S181_15, S181_16, S181_17, S181_18, S181_21, S181_22, S181_23, S181_24, S181_27, S181_28, S181_31, S181_32, S181_33, S181_34, S181_35, shp_93, RV_93_1, RV_93_13, RV_93_14, RV_93_15, RV_93_16, RV_93_17, RV_93_18, RV_93_19, RV_93_20, RV_93_23, RV_93_24, RV_93_27, RV_93_28, RV_93_29, i10, if_false, ok95 hk, nI_cl (show k < 2147483648 by omega), r0 (x := 0) hr, he]
  refine m_snap (d := d) hn (by rw [setI_rd, if_neg (by decide)]; exact h21) (fun h1 f1 s1 => ?_)
  rw [r0 hr] at s1
  simp only [kV_at, S181_0, S181_1, S181_2, S181_5, S181_6, S181_9, S181_10, S181_11, S181_12, S181_15, S181_16, S181_17, S181_18, S181_21, S181_22, S181_23, S181_24, S181_27, S181_28, S181_31, S181_32, S181_33, S181_34, S181_35, shp_93, RV_93_1, RV_93_13, RV_93_14, RV_93_15, RV_93_16, RV_93_17, RV_93_18, RV_93_19, RV_93_20, RV_93_23, RV_93_24, RV_93_27, RV_93_28, RV_93_29, ok95 hk, nI_cl (show k < 2147483648 by omega)]
  have e95 : h1.1 95 = r := by
    rw [← r0 (h := h) (x := 0) hr]
    exact funext (fun j => (f1.1 95 j (by unfold SNs; omega)).1)
  refine kk _ (frmF_tr (frmF_I (Or.inr (Or.inr (Or.inr ⟨rfl, Or.inl rfl⟩)))) (frmF_tr ⟨fun a j hq => f1.1 a j (fun z => hq (mas_s z)), f1.2⟩ (frmF_I (Or.inr (Or.inl rfl))))) ⟨?_, ?_, ?_⟩ ?_
  · rw [setI_1 (by decide)]; exact s1.1
  · intro j hj; show (setI h1 95 k y).1 98 _ = _; rw [setI_1 (by decide)]; exact s1.2.1 j hj
  · intro i hi j hj; show (setI h1 95 k y).1 98 _ = _; rw [setI_1 (by decide)]
    refine (s1.2.2 i hi j hj).trans ?_
    show (setI h 93 0 0).1 98 _ = _
    rw [setI_1 (by decide)]; rfl
  · rw [setI_s, e95]
end
