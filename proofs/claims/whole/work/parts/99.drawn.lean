/-! drawn, alike on both sides. -/
def sd (s : Int32) : Int32 := s * 1103515245 + 12345
def mm (s : Int32) : Nat := (s.toUInt32 >>> ((8 : Int32).toUInt32 &&& Int32.toUInt32 31)).toNat
theorem us_nI (s : Int32) : (s.toUInt32 >>> ((8 : Int32).toUInt32 &&& Int32.toUInt32 31)).toInt32 = nI (mm s) := by
  apply Int32.toBitVec_inj.mp
  show (s.toUInt32 >>> ((8 : Int32).toUInt32 &&& Int32.toUInt32 31)).toBitVec = BitVec.ofNat 32 (s.toUInt32 >>> ((8 : Int32).toUInt32 &&& Int32.toUInt32 31)).toNat
  exact (BitVec.ofNat_toNat ..).symm ▸ by simp
theorem mm_lt (s : Int32) : mm s < 2 ^ 24 := by
  unfold mm
  rw [UInt32.toNat_shiftRight, show ((8 : Int32).toUInt32 &&& Int32.toUInt32 31).toNat % 32 = 8 by decide, Nat.shiftRight_eq_div_pow]
  have := s.toUInt32.toNat_lt
  omega
theorem irem_n {m L : Nat} (hm : m < 2 ^ 30) (hL : 0 < L) (hL2 : L < 2 ^ 30) : nI m - nI m / nI L * nI L = nI (m % L) := by
  apply Int32.toInt_inj.mp
  have hne : nI L ≠ -1 := fun z => by
    have : (nI L).toInt = -1 := by rw [z]; decide
    rw [nI_toInt (by omega)] at this
    omega
  have e1 : (nI m / nI L).toInt = ((m / L : Nat) : Int) := by
    rw [Int32.toInt_div_of_ne_right _ _ hne, nI_toInt (by omega), nI_toInt (by omega)]
    rfl
  have e2 := Nat.div_add_mod m L
  have e3 : L * (m / L) ≤ m := by omega
  have e4 : m % L < L := Nat.mod_lt _ hL
  rw [Int32.toInt_sub, Int32.toInt_mul, e1, nI_toInt (by omega), nI_toInt (by omega), nI_toInt (by omega)]
  have e5 : ((m / L : Nat) : Int) * (L : Int) = ((L * (m / L) : Nat) : Int) := by rw [Int.natCast_mul, Int.mul_comm]
  rw [e5, Int.bmod_eq_of_le (n := ((L * (m / L) : Nat) : Int)) (by omega) (by omega), Int.bmod_eq_of_le (by omega) (by omega)]
  omega
def drl (L : Nat) (s : Int32) : Nat := mm (sd s) % L
def drs (s : Int32) : Int32 := nI (mm (sd (sd s)) % 9) - 4
def drGo (r : Nat → Int32) (s : Int32) : Prop := ¬ drs s = 0 ∧ inH (r (36 + drl (rL r) s) + drs s)
def drU (r : Nat → Int32) (s : Int32) : Nat → Int32 := upd r (36 + drl (rL r) s) (r (36 + drl (rL r) s) + drs s)
noncomputable def dR : Nat → Int32 → (Nat → Int32) → (Nat → Int32)
  | 0, _, r => r
  | m + 1, s, r => dR m (sd (sd s)) (@ite _ (drGo r s) (Classical.propDecidable _) (drU r s) r)
noncomputable def dC : Nat → Int32 → (Nat → Int32) → Nat
  | 0, _, _ => 0
  | m + 1, s, r => @ite _ (drGo r s) (Classical.propDecidable _) 1 0 + dC m (sd (sd s)) (@ite _ (drGo r s) (Classical.propDecidable _) (drU r s) r)
section
variable {d : Nat} {h h' : Hp} {Q : Option (Option Value) → Hp → Prop} {x y z w v s : Int32} {k l p q t n a b N m : Nat} {r : Nat → Int32}
theorem dR_y (c : drGo r s) : dR (m + 1) s r = dR m (sd (sd s)) (drU r s) := by
  show dR m (sd (sd s)) (@ite _ (drGo r s) (Classical.propDecidable _) (drU r s) r) = _
  rw [@if_pos _ (Classical.propDecidable _) c]
theorem dR_n (c : ¬ drGo r s) : dR (m + 1) s r = dR m (sd (sd s)) r := by
  show dR m (sd (sd s)) (@ite _ (drGo r s) (Classical.propDecidable _) (drU r s) r) = _
  rw [@if_neg _ (Classical.propDecidable _) c]
theorem dC_y (c : drGo r s) : dC (m + 1) s r = 1 + dC m (sd (sd s)) (drU r s) := by
  show @ite _ (drGo r s) (Classical.propDecidable _) 1 0 + dC m (sd (sd s)) (@ite _ (drGo r s) (Classical.propDecidable _) (drU r s) r) = _
  rw [@if_pos _ (Classical.propDecidable _) c, @if_pos _ (Classical.propDecidable _) c]
theorem dC_n (c : ¬ drGo r s) : dC (m + 1) s r = dC m (sd (sd s)) r := by
  show @ite _ (drGo r s) (Classical.propDecidable _) 1 0 + dC m (sd (sd s)) (@ite _ (drGo r s) (Classical.propDecidable _) (drU r s) r) = _
  rw [@if_neg _ (Classical.propDecidable _) c, @if_neg _ (Classical.propDecidable _) c, Nat.zero_add]
theorem drl_lt (hL : 0 < rL r) : drl (rL r) s < rL r := Nat.mod_lt _ hL
theorem drU_L (hV : VR r) (hL : 0 < rL r) : rL (drU r s) = rL r := by unfold drU; exact upd_L (by omega)
theorem drU_V (hV : VR r) (hL : 0 < rL r) (c : drGo r s) : VR (drU r s) := VR_r hV (drl_lt hL) c.2
theorem dC_le : ∀ (m : Nat) (s : Int32) (r : Nat → Int32), dC m s r ≤ m
  | 0, _, _ => Nat.le_refl _
  | m + 1, s, r => by
    by_cases c : drGo r s
    · rw [dC_y c]; have := dC_le m (sd (sd s)) (drU r s); omega
    · rw [dC_n c]; have := dC_le m (sd (sd s)) r; omega
theorem dR_V (hV : VR r) (hL : 0 < rL r) : VR (dR m s r) := by
  induction m generalizing s r with
  | zero => exact hV
  | succ m ih =>
    by_cases c : drGo r s
    · rw [dR_y c]; exact ih (drU_V hV hL c) (by rw [drU_L hV hL]; exact hL)
    · rw [dR_n c]; exact ih hV hL
theorem dR_0 (c : dC m s r = 0) : dR m s r = r := by
  induction m generalizing s with
  | zero => rfl
  | succ m ih =>
    by_cases e : drGo r s
    · rw [dC_y e] at c; omega
    · rw [dC_n e] at c; rw [dR_n e]; exact ih c
theorem n9 : (9 : Int32) = nI 9 := by decide
/-! the class's -/
theorem c_drawn_loop (hN : N ≤ 60) : ∀ (m i c : Nat) (s : Int32) (r : Nat → Int32) (hc : Hp) (o6 o7 : Option Value), i + m = N → VR r → 0 < rL r → CN hc 21 r → frmF (fun a _ => a = 25) h hc → (c = 0 → hc = h) → (∀ (h' : Hp) (s5 : Int32) (o5 o6 o7 : Option Value), frmF (fun a _ => a = 25) h h' → CN h' 21 (dR m s r) → (c + dC m s r = 0 → h' = h) → WP (d + 1) 82 139 [some (.ref 0), some (.int (nI N)), some (.int x), some (.int (nI (c + dC m s r))), some (.int s5), o5, o6, o7] [] h' Q) → WP (d + 1) 82 44 [some (.ref 0), some (.int (nI N)), some (.int x), some (.int (nI c)), some (.int s), some (.int (nI i)), o6, o7] [] hc Q := by
  intro m
  induction m with
  | zero =>
    intro i c s r hc o6 o7 hi hV hL hn hf h0 kk
    have : i = N := by omega
    subst this
    have hcd : nI i ≤ nI i := nI_le (Nat.le_refl _) (by omega)
    have k1 := kk hc s (some (.int (nI i))) o6 o7 hf hn h0
    rw [S82_44, S82_46, S82_47, if_pos hcd]
    exact k1
  | succ m ih =>
    intro i c s r hc o6 o7 hi hV hL hn hf h0 kk
    have h11 := hV.2.1.2
    have hcd : ¬ nI N ≤ nI i := nI_ge (by omega) (by omega)
    have m1 := mm_lt (sd s)
    have m2 := mm_lt (sd (sd s))
    have hL0 : nI (rL r) ≠ 0 := nI_ne0 hL (by omega)
    have h90 : (9 : Int32) ≠ 0 := by decide
    have dl := drl_lt (s := s) hL
    have dl11 : drl (rL r) s < 11 := by omega
    have er : nI (mm (sd s)) - nI (mm (sd s)) / nI (rL r) * nI (rL r) = nI (drl (rL r) s) := irem_n (by omega) hL (by omega)
    have e9 : nI (mm (sd (sd s))) - nI (mm (sd (sd s))) / 9 * 9 - 4 = drs s := by
      unfold drs
      rw [n9, irem_n (by omega) (by omega) (by omega)]
    have es : ∀ s : Int32, s * 1103515245 + 12345 = sd s := fun _ => rfl
    have hnl := hn.2.2.2.2.2 _ dl
    rw [S82_44]
    simp only [S82_0, S82_1, S82_2, S82_5, S82_6, S82_8, S82_11, S82_12, S82_13, S82_14, S82_17, S82_20, S82_23, S82_24, S82_25, S82_26, S82_29, S82_30, S82_33, S82_36, S82_37, S82_38, S82_39, S82_41, S82_42, S82_46, S82_47, S82_50, S82_52, S82_55, S82_57, S82_59, S82_61, S82_62, S82_63, S82_66, S82_69, S82_70, S82_72, S82_74, S82_77, S82_79, S82_81, S82_83, S82_84, S82_86, S82_87, S82_88, S82_89, S82_91, S82_93, S82_96, S82_97, S82_100, S82_103, S82_105, S82_106, S82_108, S82_109, S82_112, S82_115, S82_116, S82_119, S82_122, S82_124, S82_125, S82_126, S82_128, S82_129, S82_130, S82_133, S82_136, S82_139, S82_140, S82_143, S82_144, S82_147, S82_148, S82_151, S82_154, S82_155, S82_156, S82_159, S82_160, shp_0, RV_0_0, RV_0_1, RV_0_2, RV_0_3, RV_0_4, RV_0_5, RV_0_9, RV_0_10, shp_21, RV_21_2, RV_21_5, RV_21_6, RV_21_7, RV_21_8, if_neg hcd, c_seedBehind, kR_at, es, us_nI, hn.2.2.1, hV.2.1.1, hL0, h90, ne_eq, not_false_eq_true, er, e9, kl_int, kl_none, ok25 dl11, nI_cl (show drl (rL r) s < 2147483648 by omega), hnl.2.2.1, c_isHeightX]
    by_cases c1 : drs s = 0
    · have ng : ¬ drGo r s := fun z => z.1 c1
      rw [dR_n ng, dC_n ng] at kk
      rw [if_pos c1]
      simp only [S82_0, S82_1, S82_2, S82_5, S82_6, S82_8, S82_11, S82_12, S82_13, S82_14, S82_17, S82_20, S82_23, S82_24, S82_25, S82_26, S82_29, S82_30, S82_33, S82_36, S82_37, S82_38, S82_39, S82_41, S82_42, S82_46, S82_47, S82_50, S82_52, S82_55, S82_57, S82_59, S82_61, S82_62, S82_63, S82_66, S82_69, S82_70, S82_72, S82_74, S82_77, S82_79, S82_81, S82_83, S82_84, S82_86, S82_87, S82_88, S82_89, S82_91, S82_93, S82_96, S82_97, S82_100, S82_103, S82_105, S82_106, S82_108, S82_109, S82_112, S82_115, S82_116, S82_119, S82_122, S82_124, S82_125, S82_126, S82_128, S82_129, S82_130, S82_133, S82_136, S82_139, S82_140, S82_143, S82_144, S82_147, S82_148, S82_151, S82_154, S82_155, S82_156, S82_159, S82_160, kl_int, nI_add1]
      exact ih (i + 1) c (sd (sd s)) r hc _ _ (by omega) hV hL hn hf h0 kk
    · rw [if_neg c1]
      by_cases c2 : inH (r (36 + drl (rL r) s) + drs s)
      · have go : drGo r s := ⟨c1, c2⟩
        rw [dR_y go, dC_y go] at kk
        rw [show c + (1 + dC m (sd (sd s)) (drU r s)) = c + 1 + dC m (sd (sd s)) (drU r s) by omega] at kk
        rw [if_neg (fun z => pb_0.mp z c2)]
        simp only [S82_0, S82_1, S82_2, S82_5, S82_6, S82_8, S82_11, S82_12, S82_13, S82_14, S82_17, S82_20, S82_23, S82_24, S82_25, S82_26, S82_29, S82_30, S82_33, S82_36, S82_37, S82_38, S82_39, S82_41, S82_42, S82_46, S82_47, S82_50, S82_52, S82_55, S82_57, S82_59, S82_61, S82_62, S82_63, S82_66, S82_69, S82_70, S82_72, S82_74, S82_77, S82_79, S82_81, S82_83, S82_84, S82_86, S82_87, S82_88, S82_89, S82_91, S82_93, S82_96, S82_97, S82_100, S82_103, S82_105, S82_106, S82_108, S82_109, S82_112, S82_115, S82_116, S82_119, S82_122, S82_124, S82_125, S82_126, S82_128, S82_129, S82_130, S82_133, S82_136, S82_139, S82_140, S82_143, S82_144, S82_147, S82_148, S82_151, S82_154, S82_155, S82_156, S82_159, S82_160, shp_0, RV_0_0, RV_0_1, RV_0_2, RV_0_3, RV_0_4, RV_0_5, RV_0_9, RV_0_10, shp_21, RV_21_2, RV_21_5, RV_21_6, RV_21_7, RV_21_8, ok25 dl11, nI_cl (show drl (rL r) s < 2147483648 by omega), hnl.2.2.1, kl_int, kl_ref, nI_add1]
        exact ih (i + 1) (c + 1) (sd (sd s)) (drU r s) _ _ _ (by omega) (drU_V hV hL go) (by rw [drU_L hV hL]; exact hL) (CN_r hV hn dl) (frmF_tr hf (frmF_I rfl)) (fun z => by omega) kk
      · have ng : ¬ drGo r s := fun z => c2 z.2
        rw [dR_n ng, dC_n ng] at kk
        rw [if_pos (pb_0.mpr c2)]
        simp only [S82_0, S82_1, S82_2, S82_5, S82_6, S82_8, S82_11, S82_12, S82_13, S82_14, S82_17, S82_20, S82_23, S82_24, S82_25, S82_26, S82_29, S82_30, S82_33, S82_36, S82_37, S82_38, S82_39, S82_41, S82_42, S82_46, S82_47, S82_50, S82_52, S82_55, S82_57, S82_59, S82_61, S82_62, S82_63, S82_66, S82_69, S82_70, S82_72, S82_74, S82_77, S82_79, S82_81, S82_83, S82_84, S82_86, S82_87, S82_88, S82_89, S82_91, S82_93, S82_96, S82_97, S82_100, S82_103, S82_105, S82_106, S82_108, S82_109, S82_112, S82_115, S82_116, S82_119, S82_122, S82_124, S82_125, S82_126, S82_128, S82_129, S82_130, S82_133, S82_136, S82_139, S82_140, S82_143, S82_144, S82_147, S82_148, S82_151, S82_154, S82_155, S82_156, S82_159, S82_160, kl_int, nI_add1]
        exact ih (i + 1) c (sd (sd s)) r hc _ _ (by omega) hV hL hn hf h0 kk
def isN (x : Int32) : Prop := ¬ x < 1 ∧ x ≤ 60
theorem isN_nI (hx : isN x) : ∃ N, 1 ≤ N ∧ N ≤ 60 ∧ x = nI N := by
  have h0 : ¬ x < 0 := fun z => hx.1 (by rw [Int32.lt_iff_toInt_lt] at z ⊢; have : (0 : Int32).toInt = 0 := by decide
                                         have : (1 : Int32).toInt = 1 := by decide
                                         omega)
  obtain ⟨j, h1, rfl⟩ := nI_of2 (n := 60) (by decide) h0 hx.2
  refine ⟨j, ?_, h1, rfl⟩
  rcases Nat.eq_zero_or_pos j with e | e
  · subst e; exact absurd (by decide) hx.1
  · exact e
theorem nI_isN (h1 : 1 ≤ N) (h2 : N ≤ 60) : isN (nI N) := ⟨nI_nlt (b := 1) h1 (by omega), nI_le (b := 60) h2 (by omega)⟩
theorem c_drawn_no (hx : ¬ isN x) (kk : Q (some (some (.int (-1)))) h) : WP (d + 3) 82 0 [some (.ref 0), some (.int x), some (.int y), none, none, none, none, none] [] h Q := by
  simp only [S82_0, S82_1, S82_2, S82_5, S82_6, S82_8, S82_11, S82_12, S82_14, S82_17, S82_20, S82_23, S82_24, S82_25, S82_26, S82_29, S82_30, S82_33, S82_36, S82_37, S82_38, S82_39, S82_41, S82_42, S82_46, S82_47, S82_50, S82_52, S82_55, S82_57, S82_59, S82_61, S82_62, S82_63, S82_66, S82_69, S82_70, S82_72, S82_74, S82_77, S82_79, S82_81, S82_83, S82_84, S82_86, S82_87, S82_88, S82_89, S82_91, S82_93, S82_96, S82_97, S82_100, S82_103, S82_105, S82_106, S82_108, S82_109, S82_112, S82_115, S82_116, S82_119, S82_122, S82_124, S82_125, S82_126, S82_128, S82_129, S82_130, S82_133, S82_136, S82_139, S82_140, S82_143, S82_144, S82_147, S82_148, S82_151, S82_154, S82_155, S82_156, S82_159, S82_160]
  by_cases c : x < 1
  · rw [if_pos c]; exact kk
  · rw [if_neg c, if_neg (fun z => hx ⟨c, z⟩)]; exact kk
theorem c_drawn_e (hC : cls r h) (hx : isN x) (hL : rL r = 0) (kk : Q (some (some (.int 0))) h) : WP (d + 3) 82 0 [some (.ref 0), some (.int x), some (.int y), none, none, none, none, none] [] h Q := by
  have c : ¬ (0 : Int32) < nI (rL r) := by rw [hL]; decide
  simp only [S82_0, S82_1, S82_2, S82_5, S82_6, S82_8, S82_11, S82_12, S82_13, S82_14, S82_17, S82_20, S82_23, S82_24, S82_26, S82_29, S82_30, S82_33, S82_36, S82_37, S82_38, S82_39, S82_41, S82_42, S82_46, S82_47, S82_50, S82_52, S82_55, S82_57, S82_59, S82_61, S82_62, S82_63, S82_66, S82_69, S82_70, S82_72, S82_74, S82_77, S82_79, S82_81, S82_83, S82_84, S82_86, S82_87, S82_88, S82_89, S82_91, S82_93, S82_96, S82_97, S82_100, S82_103, S82_105, S82_106, S82_108, S82_109, S82_112, S82_115, S82_116, S82_119, S82_122, S82_124, S82_125, S82_126, S82_128, S82_129, S82_130, S82_133, S82_136, S82_139, S82_140, S82_143, S82_144, S82_147, S82_148, S82_151, S82_154, S82_155, S82_156, S82_159, S82_160, shp_0, RV_0_0, RV_0_1, RV_0_2, RV_0_3, RV_0_4, RV_0_5, RV_0_9, RV_0_10, shp_21, RV_21_2, RV_21_5, RV_21_6, RV_21_7, RV_21_8, if_neg hx.1, if_pos hx.2, hC.2.1.2.2.1, hC.1.2.1.1, if_neg c]
  exact kk
theorem cls_frm {S : Nat → Prop} (f1 : frm S h h') (hS : ∀ a, S a → a ≠ 0 ∧ (26 < a ∨ a < 8)) (hC : cls r h) : cls r h' := by
  have n0 : ¬ S 0 := fun z => (hS 0 z).1 rfl
  have nn : ∀ a, 8 ≤ a → a ≤ 26 → ¬ S a := fun a h1 h2 z => by have := (hS a z).2; omega
  refine ⟨hC.1, CN_frm f1 (fun a z1 z2 z3 => nn a (by omega) (by omega) z3) hC.2.1, by rw [(f1.1 0 n0).1]; exact hC.2.2.1, fun z => ?_⟩
  rw [(f1.1 0 n0).1] at z
  obtain ⟨b1, b2⟩ := hC.2.2.2 z
  refine ⟨tiOK_frm f1 (fun a z1 z2 z3 => nn a (by omega) (by omega) z3) b1, ?_⟩
  obtain ⟨q1, q2, q3, q4, q5⟩ := b2
  refine ⟨by rw [(f1.1 12 (nn 12 (by omega) (by omega))).1]; exact q1, fun p hp => by rw [(f1.1 13 (nn 13 (by omega) (by omega))).1]; exact q2 p hp, by rw [(f1.1 12 (nn 12 (by omega) (by omega))).2]; exact q3, fun a b ha hb => ?_, fun p hp => by rw [(f1.1 20 (nn 20 (by omega) (by omega))).2]; exact q5 p hp⟩
  show h'.2.1 (15 + a) b = _
  rw [(f1.1 (15 + a) (nn _ (by omega) (by omega))).2]
  exact q4 a b ha hb
theorem c_drawn (hC : cls r h) (hA : actA t n h) (hN1 : 1 ≤ N) (hN : N ≤ 60) (hL : 0 < rL r) (k0 : dC N x r = 0 → ∀ h' : Hp, frmF (fun a j => (27 ≤ a ∧ a ≤ 32) ∨ SCs a j) h h' → cls r h' → Q (some (some (.int (nI 0)))) h') (kk : 0 < dC N x r → cAct t n r (dR N x r) h Q (some (.int (nI (dC N x r))))) : WP (d + 3) 82 0 [some (.ref 0), some (.int (nI N)), some (.int x), none, none, none, none, none] [] h Q := by
  have hV := hC.1
  have h11 := hV.2.1.2
  have hx := nI_isN hN1 hN
  have c : (0 : Int32) < nI (rL r) := nI_lt (a := 0) hL (by omega)
  simp only [S82_0, S82_1, S82_2, S82_5, S82_6, S82_8, S82_11, S82_12, S82_13, S82_14, S82_17, S82_20, S82_23, S82_24, S82_25, S82_26, S82_29, S82_30, S82_33, S82_36, S82_37, S82_38, S82_39, S82_41, S82_42, S82_46, S82_47, S82_50, S82_52, S82_55, S82_57, S82_59, S82_61, S82_62, S82_63, S82_66, S82_69, S82_70, S82_72, S82_74, S82_77, S82_79, S82_81, S82_83, S82_84, S82_86, S82_87, S82_88, S82_89, S82_91, S82_93, S82_96, S82_97, S82_100, S82_103, S82_105, S82_106, S82_108, S82_109, S82_112, S82_115, S82_116, S82_119, S82_122, S82_124, S82_125, S82_126, S82_128, S82_129, S82_130, S82_133, S82_136, S82_139, S82_140, S82_143, S82_144, S82_147, S82_148, S82_151, S82_154, S82_155, S82_156, S82_159, S82_160, shp_0, RV_0_0, RV_0_1, RV_0_2, RV_0_3, RV_0_4, RV_0_5, RV_0_9, RV_0_10, shp_21, RV_21_2, RV_21_5, RV_21_6, RV_21_7, RV_21_8, shp_27, RV_27_2, RV_27_5, RV_27_6, RV_27_7, RV_27_8, if_neg hx.1, if_pos hx.2, hC.2.1.2.2.1, hC.1.2.1.1, if_pos c]
  refine c_copyFrom (a := 27) (b := 21) (NO_nid (k := 1) (by omega)) (NO_nid (k := 0) (by omega)) (by omega) hV hC.2.1 (fun h1 f1 n1 => ?_)
  have C1 : cls r h1 := cls_frm f1 (fun a z => by omega) hC
  have F1 : frmF (fun a j => (27 ≤ a ∧ a ≤ 32) ∨ SCs a j) h h1 := frmF_frm (fun a j z => Or.inl (by omega)) f1
  simp only [kV_at, S82_0, S82_1, S82_2, S82_5, S82_6, S82_8, S82_11, S82_12, S82_13, S82_14, S82_17, S82_20, S82_23, S82_24, S82_25, S82_26, S82_29, S82_30, S82_33, S82_36, S82_37, S82_38, S82_39, S82_41, S82_42, S82_46, S82_47, S82_50, S82_52, S82_55, S82_57, S82_59, S82_61, S82_62, S82_63, S82_66, S82_69, S82_70, S82_72, S82_74, S82_77, S82_79, S82_81, S82_83, S82_84, S82_86, S82_87, S82_88, S82_89, S82_91, S82_93, S82_96, S82_97, S82_100, S82_103, S82_105, S82_106, S82_108, S82_109, S82_112, S82_115, S82_116, S82_119, S82_122, S82_124, S82_125, S82_126, S82_128, S82_129, S82_130, S82_133, S82_136, S82_140, S82_143, S82_144, S82_147, S82_148, S82_151, S82_154, S82_155, S82_156, S82_159, S82_160, kl_int, kl_none]
  rw [nI_l0]
  refine c_drawn_loop (h := h1) (d := d + 2) hN N 0 0 x r h1 none none (by omega) hV hL C1.2.1 frmF_rf (fun _ => rfl) (fun h2 s5 o5 o6 o7 f2 n2 z2 => ?_)
  rw [Nat.zero_add] at z2 ⊢
  have F2 : frmF (fun a j => (27 ≤ a ∧ a ≤ 32) ∨ SCs a j) h h2 := frmF_tr F1 ⟨fun a j hq => f2.1 a j (fun z => hq (Or.inr (Or.inl (by omega)))), f2.2⟩
  have hb := dC_le N x r
  rw [S82_139, S82_140]
  by_cases c0 : dC N x r = 0
  · have := z2 c0
    subst this
    have k1 := k0 c0 h2 F2 C1
    rw [c0, if_pos (by decide)]
    simp only [S82_0, S82_1, S82_2, S82_5, S82_6, S82_8, S82_11, S82_12, S82_13, S82_14, S82_17, S82_20, S82_23, S82_24, S82_25, S82_26, S82_29, S82_30, S82_33, S82_36, S82_37, S82_38, S82_39, S82_41, S82_42, S82_46, S82_47, S82_50, S82_52, S82_55, S82_57, S82_59, S82_61, S82_62, S82_63, S82_66, S82_69, S82_70, S82_72, S82_74, S82_77, S82_79, S82_81, S82_83, S82_84, S82_86, S82_87, S82_88, S82_89, S82_91, S82_93, S82_96, S82_97, S82_100, S82_103, S82_105, S82_106, S82_108, S82_109, S82_112, S82_115, S82_116, S82_119, S82_122, S82_124, S82_125, S82_126, S82_128, S82_129, S82_130, S82_133, S82_136, S82_139, S82_140, S82_143, S82_144, S82_147, S82_148, S82_151, S82_154, S82_155, S82_156, S82_159, S82_160]
    exact k1
  · have c3 : ¬ nI (dC N x r) ≤ 0 := nI_nle (by omega) (by omega)
    rw [if_neg c3]
    have e5 : h2.1 5 1 = nI t ∧ h2.1 5 2 = nI n := by
      have g : ∀ j, h2.1 5 j = h.1 5 j := fun j => (F2.1 5 j (by unfold SCs stS; omega)).1
      rw [g, g]
      exact ⟨hA.2.2.1, hA.2.2.2⟩
    have n3 : CN h2 27 r := CN_fF f2 (fun a j z1 z2 z3 => by omega) n1
    simp only [S82_0, S82_1, S82_2, S82_5, S82_6, S82_8, S82_11, S82_12, S82_13, S82_14, S82_17, S82_20, S82_23, S82_24, S82_25, S82_26, S82_29, S82_30, S82_33, S82_36, S82_37, S82_38, S82_39, S82_41, S82_42, S82_46, S82_47, S82_50, S82_52, S82_55, S82_57, S82_59, S82_61, S82_62, S82_63, S82_66, S82_69, S82_70, S82_72, S82_74, S82_77, S82_79, S82_81, S82_83, S82_84, S82_86, S82_87, S82_88, S82_89, S82_91, S82_93, S82_96, S82_97, S82_100, S82_103, S82_105, S82_106, S82_108, S82_109, S82_112, S82_115, S82_116, S82_119, S82_122, S82_124, S82_125, S82_126, S82_128, S82_129, S82_130, S82_133, S82_136, S82_139, S82_140, S82_143, S82_144, S82_147, S82_148, S82_151, S82_154, S82_155, S82_156, S82_159, S82_160, shp_0, RV_0_0, RV_0_1, RV_0_2, RV_0_3, RV_0_4, RV_0_5, RV_0_9, RV_0_10, shp_5, RV_5_0, shp_27, RV_27_2, RV_27_5, RV_27_6, RV_27_7, RV_27_8]
    refine c_push (k := 1) (d := d) (by omega) hV n3 hA.1 hA.2.1 e5.1 e5.2 (fun h3 f3 p3 => ?_)
    simp only [kV_at, S82_0, S82_1, S82_2, S82_5, S82_6, S82_8, S82_11, S82_12, S82_13, S82_14, S82_17, S82_20, S82_23, S82_24, S82_25, S82_26, S82_29, S82_30, S82_33, S82_36, S82_37, S82_38, S82_39, S82_41, S82_42, S82_46, S82_47, S82_50, S82_52, S82_55, S82_57, S82_59, S82_61, S82_62, S82_63, S82_66, S82_69, S82_70, S82_72, S82_74, S82_77, S82_79, S82_81, S82_83, S82_84, S82_86, S82_87, S82_88, S82_89, S82_91, S82_93, S82_96, S82_97, S82_100, S82_103, S82_105, S82_106, S82_108, S82_109, S82_112, S82_115, S82_116, S82_119, S82_122, S82_124, S82_125, S82_126, S82_128, S82_129, S82_130, S82_133, S82_136, S82_139, S82_140, S82_143, S82_144, S82_147, S82_148, S82_151, S82_154, S82_155, S82_156, S82_159, S82_160, shp_0, RV_0_0, RV_0_1, RV_0_2, RV_0_3, RV_0_4, RV_0_5, RV_0_9, RV_0_10, isB_1]
    refine kk (by omega) _ ?_ ?_ ?_ (by rw [setI_rd, if_pos ⟨rfl, rfl⟩])
    · refine frmF_tr (frmF_tr ⟨fun a j hq => F2.1 a j (fun z => hq (by
        rcases z with z | z | z
        · exact Or.inl (by omega)
        · exact Or.inl (by omega)
        · exact Or.inr (Or.inr z))), F2.2⟩ ⟨fun a j hq => f3.1 a j (fun z => hq (by
        rcases z with z | z
        · exact Or.inl (by omega)
        · exact Or.inr (Or.inl z))), f3.2⟩) (frmF_I (Or.inr (Or.inr (Or.inr ⟨rfl, rfl⟩))))
    · refine pushed_I ⟨p3.1, p3.2.1, p3.2.2.1, fun a ha hn => ?_⟩ hA.1 (by omega)
      rw [p3.2.2.2 a ha hn]
      exact funext (fun j => (F2.1 a j (by unfold SCs stS; omega)).1)
    · have n4 : CN h3 21 (dR N x r) := CN_fF f3 (fun a j z1 z2 z3 => by unfold PSs at z3; omega) n2
      exact CN_frm (S := fun a => a = 0) (frm_I rfl) (fun a z1 z2 z3 => by omega) n4
/-! the model's -/
theorem m_draw {L : Nat} (hL : 0 < L) (hL2 : L < 2 ^ 30) (hs : h.1 93 34 = s) : WP d 190 0 [some (.ref 93), some (.int (nI L))] [] h Q ↔ Q (some (some (.int (nI (mm (sd s) % L))))) (setI h 93 34 (sd s)) := by
  have m1 := mm_lt (sd s)
  have hL0 : nI L ≠ 0 := nI_ne0 hL (by omega)
  have es : s * 1103515245 + 12345 = sd s := rfl
  have g : (setI h 93 34 (sd s)).1 93 34 = sd s := by rw [setI_rd, if_pos ⟨rfl, rfl⟩]
  simp only [S190_0, S190_1, S190_2, S190_5, S190_8, S190_9, S190_12, S190_13, S190_16, S190_17, S190_20, S190_22, S190_23, S190_24, S190_25, shp_93, RV_93_1, RV_93_13, RV_93_14, RV_93_15, RV_93_16, RV_93_17, RV_93_18, RV_93_19, RV_93_20, RV_93_23, RV_93_24, RV_93_27, RV_93_28, RV_93_29, hs, es, g, us_nI, hL0, ne_eq, not_false_eq_true, irem_n (show mm (sd s) < 2 ^ 30 by omega) hL hL2]
theorem m_slips_y (hr : h.1 95 = r) (hV : VR r) (hL : 0 < rL r) (hs : h.1 93 34 = s) (c : drGo r s) (kk : ∀ h' : Hp, frmF (fun a j => a = 95 ∨ (a = 93 ∧ j = 34)) h h' → h'.1 95 = drU r s → h'.1 93 34 = sd (sd s) → Q (some (some (.int 1))) h') : WP (d + 1) 191 0 [some (.ref 93), none, none, none] [] h Q := by
  have h11 := hV.2.1.2
  have dl := drl_lt (s := s) hL
  have e1 : nI (mm (sd s) % rL r) = nI (drl (rL r) s) := rfl
  have e2 : nI (mm (sd (sd s)) % 9) - 4 = drs s := rfl
  have g : (setI h 93 34 (sd s)).1 93 34 = sd s := by rw [setI_rd, if_pos ⟨rfl, rfl⟩]
  have r2 : (setI (setI h 93 34 (sd s)) 93 34 (sd (sd s))).1 95 = r := by rw [setI_1 (by decide), setI_1 (by decide)]; exact hr
  have dr9 : ∀ Q, WP d 190 0 [some (.ref 93), some (.int 9)] [] (setI h 93 34 (sd s)) Q ↔ Q (some (some (.int (nI (mm (sd (sd s)) % 9))))) (setI (setI h 93 34 (sd s)) 93 34 (sd (sd s))) := fun Q => m_draw (L := 9) (by omega) (by omega) g
  simp only [S191_0, S191_1, S191_2, S191_5, S191_8, S191_9, S191_10, S191_12, S191_15, S191_16, S191_17, S191_18, S191_19, S191_22, S191_24, S191_25, S191_26, S191_27, S191_28, S191_29, S191_30, S191_31, S191_34, S191_35, S191_37, S191_39, S191_42, S191_45, S191_46, S191_47, S191_48, S191_51, S191_53, S191_54, S191_55, S191_56, S191_57, S191_58, shp_93, RV_93_1, RV_93_13, RV_93_14, RV_93_15, RV_93_16, RV_93_17, RV_93_18, RV_93_19, RV_93_20, RV_93_23, RV_93_24, RV_93_27, RV_93_28, RV_93_29, m_lines, hr, hV.2.1.1, m_draw hL (show rL r < 2 ^ 30 by omega) hs, dr9, kR_at, e1, e2, kl_int, kl_none, kl_ref, la_36, ok95 (show 36 + drl (rL r) s < 69 by omega), nI_cl (show 36 + drl (rL r) s < 2147483648 by omega), r2, if_neg c.1, m_isInH, if_neg (fun z => pb_0.mp z c.2), isB_1]
  refine kk _ (frmF_tr (frmF_tr (frmF_I (Or.inr ⟨rfl, rfl⟩)) (frmF_I (Or.inr ⟨rfl, rfl⟩))) (frmF_I (Or.inl rfl))) ?_ ?_
  · rw [setI_s, r2]; rfl
  · rw [setI_1 (by decide), setI_rd, if_pos ⟨rfl, rfl⟩]
theorem m_slips_n (hr : h.1 95 = r) (hV : VR r) (hL : 0 < rL r) (hs : h.1 93 34 = s) (c : ¬ drGo r s) (kk : ∀ h' : Hp, frmF (fun a j => a = 95 ∨ (a = 93 ∧ j = 34)) h h' → h'.1 95 = r → h'.1 93 34 = sd (sd s) → Q (some (some (.int 0))) h') : WP (d + 1) 191 0 [some (.ref 93), none, none, none] [] h Q := by
  have h11 := hV.2.1.2
  have dl := drl_lt (s := s) hL
  have e1 : nI (mm (sd s) % rL r) = nI (drl (rL r) s) := rfl
  have e2 : nI (mm (sd (sd s)) % 9) - 4 = drs s := rfl
  have g : (setI h 93 34 (sd s)).1 93 34 = sd s := by rw [setI_rd, if_pos ⟨rfl, rfl⟩]
  have r2 : (setI (setI h 93 34 (sd s)) 93 34 (sd (sd s))).1 95 = r := by rw [setI_1 (by decide), setI_1 (by decide)]; exact hr
  have dr9 : ∀ Q, WP d 190 0 [some (.ref 93), some (.int 9)] [] (setI h 93 34 (sd s)) Q ↔ Q (some (some (.int (nI (mm (sd (sd s)) % 9))))) (setI (setI h 93 34 (sd s)) 93 34 (sd (sd s))) := fun Q => m_draw (L := 9) (by omega) (by omega) g
  have k1 := kk _ (frmF_tr (frmF_I (Or.inr ⟨rfl, rfl⟩)) (frmF_I (Or.inr ⟨rfl, rfl⟩))) r2 (by rw [setI_rd, if_pos ⟨rfl, rfl⟩])
  simp only [S191_0, S191_1, S191_2, S191_5, S191_8, S191_9, S191_10, S191_12, S191_15, S191_16, S191_17, S191_18, S191_19, S191_22, S191_24, S191_25, S191_26, S191_27, S191_28, S191_29, S191_30, S191_31, S191_34, S191_35, S191_37, S191_39, S191_42, S191_45, S191_46, S191_48, S191_51, S191_53, S191_54, S191_55, S191_56, S191_57, S191_58, shp_93, RV_93_1, RV_93_13, RV_93_14, RV_93_15, RV_93_16, RV_93_17, RV_93_18, RV_93_19, RV_93_20, RV_93_23, RV_93_24, RV_93_27, RV_93_28, RV_93_29, m_lines, hr, hV.2.1.1, m_draw hL (show rL r < 2 ^ 30 by omega) hs, dr9, kR_at, e1, e2, kl_int, kl_none, kl_ref, la_36, ok95 (show 36 + drl (rL r) s < 69 by omega), nI_cl (show 36 + drl (rL r) s < 2147483648 by omega), r2, m_isInH, isB_0]
  by_cases c1 : drs s = 0
  · rw [if_pos c1]; exact k1
  · rw [if_neg c1, if_pos (pb_0.mpr (fun z => c ⟨c1, z⟩))]
    exact k1
theorem m_drawn_loop (hN : N ≤ 60) : ∀ (m i c : Nat) (s : Int32) (r : Nat → Int32) (hc : Hp), i + m = N → VR r → 0 < rL r → hc.1 95 = r → hc.1 93 34 = s → frmF (fun a j => a = 95 ∨ (a = 93 ∧ j = 34)) h hc → (∀ (h' : Hp) (o4 : Option Value), frmF (fun a j => a = 95 ∨ (a = 93 ∧ j = 34)) h h' → h'.1 95 = dR m s r → WP (d + 2) 192 69 [some (.ref 93), some (.int (nI N)), some (.int x), some (.int (nI (c + dC m s r))), o4] [] h' Q) → WP (d + 2) 192 40 [some (.ref 93), some (.int (nI N)), some (.int x), some (.int (nI c)), some (.int (nI i))] [] hc Q := by
  intro m
  induction m with
  | zero =>
    intro i c s r hc hi hV hL hr hs hf kk
    have : i = N := by omega
    subst this
    have hcd : nI i ≤ nI i := nI_le (Nat.le_refl _) (by omega)
    have k1 := kk hc (some (.int (nI i))) hf hr
    rw [S192_40, S192_42, S192_43, if_pos hcd]
    exact k1
  | succ m ih =>
    intro i c s r hc hi hV hL hr hs hf kk
    have h11 := hV.2.1.2
    have hcd : ¬ nI N ≤ nI i := nI_ge (by omega) (by omega)
    have hcl : ¬ nI (rL r) ≤ 0 := nI_nle hL (by omega)
    rw [S192_40]
    simp only [S192_0, S192_1, S192_2, S192_5, S192_6, S192_7, S192_9, S192_12, S192_15, S192_16, S192_17, S192_18, S192_21, S192_22, S192_23, S192_26, S192_27, S192_30, S192_31, S192_32, S192_35, S192_36, S192_37, S192_38, S192_42, S192_43, S192_46, S192_47, S192_50, S192_53, S192_54, S192_57, S192_60, S192_63, S192_66, S192_70, S192_73, S192_74, S192_77, S192_78, shp_93, RV_93_1, RV_93_13, RV_93_14, RV_93_15, RV_93_16, RV_93_17, RV_93_18, RV_93_19, RV_93_20, RV_93_23, RV_93_24, RV_93_27, RV_93_28, RV_93_29, if_neg hcd, m_lines, hr, hV.2.1.1, kR_at, if_neg hcl]
    by_cases go : drGo r s
    · rw [dR_y go, dC_y go] at kk
      rw [show c + (1 + dC m (sd (sd s)) (drU r s)) = c + 1 + dC m (sd (sd s)) (drU r s) by omega] at kk
      refine m_slips_y (d := d) hr hV hL hs go (fun h1 f1 r1 s1 => ?_)
      simp only [kR_at, S192_0, S192_1, S192_2, S192_5, S192_6, S192_7, S192_9, S192_12, S192_15, S192_16, S192_17, S192_18, S192_21, S192_22, S192_23, S192_26, S192_27, S192_30, S192_31, S192_32, S192_35, S192_36, S192_37, S192_38, S192_42, S192_43, S192_46, S192_47, S192_50, S192_53, S192_54, S192_57, S192_60, S192_63, S192_66, S192_70, S192_73, S192_74, S192_77, S192_78, i10, if_false, kl_int, kl_ref, nI_add1]
      exact ih (i + 1) (c + 1) (sd (sd s)) (drU r s) h1 (by omega) (drU_V hV hL go) (by rw [drU_L hV hL]; exact hL) r1 s1 (frmF_tr hf f1) kk
    · rw [dR_n go, dC_n go] at kk
      refine m_slips_n (d := d) hr hV hL hs go (fun h1 f1 r1 s1 => ?_)
      simp only [kR_at, S192_0, S192_1, S192_2, S192_5, S192_6, S192_7, S192_9, S192_12, S192_15, S192_16, S192_17, S192_18, S192_21, S192_22, S192_23, S192_26, S192_27, S192_30, S192_31, S192_32, S192_35, S192_36, S192_37, S192_38, S192_42, S192_43, S192_46, S192_47, S192_50, S192_53, S192_54, S192_57, S192_60, S192_63, S192_66, S192_70, S192_73, S192_74, S192_77, S192_78, ↓reduceIte, kl_int, kl_ref, nI_add1]
      exact ih (i + 1) c (sd (sd s)) r h1 (by omega) hV hL r1 s1 (frmF_tr hf f1) kk
theorem isN_if : (if x < 1 then (0 : Int32) else if 60 < x then 0 else 1) = pb (isN x) := by
  unfold isN
  by_cases c : x < 1
  · rw [if_pos c, pb_f (fun z => z.1 c)]
  · rw [if_neg c]
    by_cases c2 : 60 < x
    · rw [if_pos c2, pb_f (fun z => (Int32.not_le.mpr c2) z.2)]
    · rw [if_neg c2, pb_t ⟨c, Int32.not_lt.mp c2⟩]
theorem m_drawn_no (hr : h.1 95 = r) (hx : ¬ isN x) (kk : mPost r h Q 0 (some (.int (-1)))) : WP (d + 4) 192 0 [some (.ref 93), some (.int x), some (.int y), none, none] [] h Q := by
  have k1 := kk _ M0 (r0 (x := 0) hr) t0
  simp only [S192_0, S192_1, S192_2, S192_5, S192_6, S192_7, S192_9, S192_12, S192_15, S192_16, S192_18, S192_21, S192_22, S192_23, S192_26, S192_27, S192_30, S192_31, S192_32, S192_35, S192_36, S192_37, S192_38, S192_42, S192_43, S192_46, S192_47, S192_50, S192_53, S192_54, S192_57, S192_60, S192_63, S192_66, S192_69, S192_70, S192_73, S192_74, S192_77, S192_78, shp_93, RV_93_1, RV_93_13, RV_93_14, RV_93_15, RV_93_16, RV_93_17, RV_93_18, RV_93_19, RV_93_20, RV_93_23, RV_93_24, RV_93_27, RV_93_28, RV_93_29, m_isIn, isN_if, kR_at, if_pos (pb_0.mpr hx)]
  exact k1
theorem m_drawn (hr : h.1 95 = r) (hV : VR r) (hn : n ≤ 8) (h21 : h.1 93 21 = nI n) (hN1 : 1 ≤ N) (hN : N ≤ 60) (k0 : (rL r = 0 ∨ dC N x r = 0) → ∀ h' : Hp, frmF (fun a j => PS a j ∨ a = 99 ∨ a = 95) h h' → h'.1 95 = r → Q (some (some (.int (nI 0)))) h') (kk : 0 < rL r → 0 < dC N x r → mAct n r (dR N x r) h Q (some (.int (nI (dC N x r))))) : WP (d + 4) 192 0 [some (.ref 93), some (.int (nI N)), some (.int x), none, none] [] h Q := by
  have hr1 := r0 (h := h) (x := 0) hr
  have h11 := hV.2.1.2
  have c : ¬ pb (isN (nI N)) = 0 := fun z => pb_0.mp z (nI_isN hN1 hN)
  simp only [S192_0, S192_1, S192_2, S192_5, S192_6, S192_7, S192_9, S192_12, S192_15, S192_16, S192_17, S192_18, S192_21, S192_22, S192_23, S192_26, S192_27, S192_30, S192_31, S192_32, S192_35, S192_36, S192_37, S192_38, S192_42, S192_43, S192_46, S192_47, S192_50, S192_53, S192_54, S192_57, S192_60, S192_63, S192_66, S192_69, S192_70, S192_73, S192_74, S192_77, S192_78, shp_93, RV_93_1, RV_93_13, RV_93_14, RV_93_15, RV_93_16, RV_93_17, RV_93_18, RV_93_19, RV_93_20, RV_93_23, RV_93_24, RV_93_27, RV_93_28, RV_93_29, m_isIn, isN_if, kR_at, if_neg c]
  refine m_copy (s := 0) (u := 0) shp_95 shp_99 (by decide) (by omega) (by omega) (by omega) (by omega) (fun h1 f1 e1 => ?_)
  have e99 : eq69 (h1.1 99) r := fun j hj => by
    have := e1 j hj
    rw [Nat.zero_add] at this
    rw [this, hr1]
  have r1 : h1.1 95 = r := by
    rw [← hr1]
    exact funext (fun j => (f1.1 95 j (fun z => absurd z.1 (by decide))).1)
  have g21 : h1.1 93 21 = nI n := by
    rw [(f1.1 93 21 (fun z => absurd z.1 (by decide))).1, setI_rd, if_neg (by decide)]
    exact h21
  have F1 : frmF (fun a j => PS a j ∨ a = 99 ∨ a = 95) h (setI h1 93 34 x) := frmF_tr (frmF_tr (frmF_I (Or.inl (Or.inr ⟨rfl, Or.inl rfl⟩))) ⟨fun a j hq => f1.1 a j (fun z => hq (Or.inr (Or.inl z.1))), f1.2⟩) (frmF_I (Or.inl (Or.inr ⟨rfl, Or.inr (by omega)⟩)))
  have r2 : (setI h1 93 34 x).1 95 = r := by rw [setI_1 (by decide)]; exact r1
  simp only [kV_at, S192_0, S192_1, S192_2, S192_5, S192_6, S192_7, S192_9, S192_12, S192_15, S192_16, S192_17, S192_18, S192_21, S192_22, S192_23, S192_26, S192_27, S192_30, S192_31, S192_32, S192_35, S192_36, S192_37, S192_38, S192_42, S192_43, S192_46, S192_47, S192_50, S192_53, S192_54, S192_57, S192_60, S192_63, S192_66, S192_70, S192_73, S192_74, S192_77, S192_78, shp_93, RV_93_1, RV_93_13, RV_93_14, RV_93_15, RV_93_16, RV_93_17, RV_93_18, RV_93_19, RV_93_20, RV_93_23, RV_93_24, RV_93_27, RV_93_28, RV_93_29, kl_int, kl_none]
  rcases Nat.eq_zero_or_pos (rL r) with hL | hL
  · have k1 := k0 (Or.inl hL) _ F1 r2
    have hcd : ¬ nI N ≤ 0 := nI_nle (by omega) (by omega)
    have hcl : nI (rL r) ≤ 0 := by rw [hL]; decide
    rw [S192_40]
    simp only [S192_0, S192_1, S192_2, S192_5, S192_6, S192_7, S192_9, S192_12, S192_15, S192_16, S192_17, S192_18, S192_21, S192_22, S192_23, S192_26, S192_27, S192_30, S192_31, S192_32, S192_35, S192_36, S192_37, S192_38, S192_42, S192_43, S192_46, S192_47, S192_50, S192_53, S192_54, S192_57, S192_60, S192_63, S192_66, S192_69, S192_70, S192_73, S192_74, S192_77, S192_78, shp_93, RV_93_1, RV_93_13, RV_93_14, RV_93_15, RV_93_16, RV_93_17, RV_93_18, RV_93_19, RV_93_20, RV_93_23, RV_93_24, RV_93_27, RV_93_28, RV_93_29, if_neg hcd, m_lines, r2, hV.2.1.1, kR_at, if_pos hcl]
    rw [if_pos (by decide)]
    exact k1
  · rw [nI_l0]
    refine m_drawn_loop (h := setI h1 93 34 x) (d := d + 2) hN N 0 0 x r _ (by omega) hV hL r2 (by rw [setI_rd, if_pos ⟨rfl, rfl⟩]) frmF_rf (fun h3 o4 f3 r3 => ?_)
    rw [Nat.zero_add]
    have hb := dC_le N x r
    have bf : ∀ a j, (a = 95 ∨ (a = 93 ∧ j = 34)) → PS a j ∨ a = 99 ∨ a = 95 := fun a j z => by unfold PS; omega
    rw [S192_69, S192_70]
    by_cases c0 : dC N x r = 0
    · rw [dR_0 c0] at r3
      have k1 := k0 (Or.inr c0) h3 (frmF_tr F1 ⟨fun a j hq => f3.1 a j (fun z => hq (bf a j z)), f3.2⟩) r3
      rw [c0, if_pos (by decide)]
      simp only [S192_0, S192_1, S192_2, S192_5, S192_6, S192_7, S192_9, S192_12, S192_15, S192_16, S192_17, S192_18, S192_21, S192_22, S192_23, S192_26, S192_27, S192_30, S192_31, S192_32, S192_35, S192_36, S192_37, S192_38, S192_42, S192_43, S192_46, S192_47, S192_50, S192_53, S192_54, S192_57, S192_60, S192_63, S192_66, S192_69, S192_70, S192_73, S192_74, S192_77, S192_78]
      exact k1
    · have c3 : ¬ nI (dC N x r) ≤ 0 := nI_nle (by omega) (by omega)
      rw [if_neg c3]
      have o3 : ∀ a j, ¬ (a = 95 ∨ (a = 93 ∧ j = 34)) → h3.1 a j = (setI h1 93 34 x).1 a j := fun a j hq => (f3.1 a j hq).1
      have g3 : h3.1 93 21 = nI n := by rw [o3 _ _ (by omega), setI_rd, if_neg (by decide)]; exact g21
      have e3 : h3.1 99 = h1.1 99 := funext (fun j => by rw [o3 _ _ (by omega), setI_1 (by decide)])
      simp only [S192_0, S192_1, S192_2, S192_5, S192_6, S192_7, S192_9, S192_12, S192_15, S192_16, S192_17, S192_18, S192_21, S192_22, S192_23, S192_26, S192_27, S192_30, S192_31, S192_32, S192_35, S192_36, S192_37, S192_38, S192_42, S192_43, S192_46, S192_47, S192_50, S192_53, S192_54, S192_57, S192_60, S192_63, S192_66, S192_69, S192_70, S192_73, S192_74, S192_77, S192_78, shp_93, RV_93_1, RV_93_13, RV_93_14, RV_93_15, RV_93_16, RV_93_17, RV_93_18, RV_93_19, RV_93_20, RV_93_23, RV_93_24, RV_93_27, RV_93_28, RV_93_29]
      refine m_stay (d := d + 1) hn g3 (fun h4 f4 s4 q4 => ?_)
      simp only [kV_at, S192_0, S192_1, S192_2, S192_5, S192_6, S192_7, S192_9, S192_12, S192_15, S192_16, S192_17, S192_18, S192_21, S192_22, S192_23, S192_26, S192_27, S192_30, S192_31, S192_32, S192_35, S192_36, S192_37, S192_38, S192_42, S192_43, S192_46, S192_47, S192_50, S192_53, S192_54, S192_57, S192_60, S192_63, S192_66, S192_69, S192_70, S192_73, S192_74, S192_77, S192_78]
      have MA : ∀ a j, (PS a j ∨ a = 99 ∨ a = 95) → MAs a j := fun a j z => by
        rcases z with z | z
        · unfold PS at z; unfold MAs
          rcases z with z | z
          · exact Or.inl z
          · exact Or.inr (Or.inr (Or.inr ⟨z.1, by omega⟩))
        · unfold MAs; omega
      refine kk hL (by omega) h4 ?_ ⟨s4.1, ?_, ?_⟩ ?_
      · exact frmF_tr ⟨fun a j hq => F1.1 a j (fun z => hq (MA a j z)), F1.2⟩ (frmF_tr ⟨fun a j hq => f3.1 a j (fun z => hq (MA a j (bf a j z))), f3.2⟩ ⟨fun a j hq => f4.1 a j (fun z => hq (by unfold STs at z; unfold MAs; omega)), f4.2⟩)
      · refine eq69_tr s4.2.1 ?_
        rw [e3]
        exact e99
      · intro i hi j hj
        refine (s4.2.2 i hi j hj).trans ?_
        show h3.1 98 _ = h.1 98 _
        rw [o3 _ _ (by omega)]
        exact (F1.1 98 _ (by unfold PS MS; omega)).1
      · rw [r3] at q4
        exact q4
end
