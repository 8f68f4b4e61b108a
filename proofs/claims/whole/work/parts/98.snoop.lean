/-! snoop, alike on both sides. -/
def sgo (N : Nat) (r : Nat → Int32) : Prop := (gf r (rL r)).1 ≠ -1 ∧ N * (gf r (rL r)).2.2 < (gf r (rL r)).2.1
noncomputable def gl (r : Nat → Int32) : Nat := ((gf r (rL r)).1).toNatClampNeg
noncomputable def snR (N : Nat) : Nat → (Nat → Int32) → (Nat → Int32)
  | 0, r => r
  | f + 1, r => @ite _ (sgo N r) (Classical.propDecidable _) (snR N f (upd r (58 + gl r) 0)) r
noncomputable def snC (N : Nat) : Nat → (Nat → Int32) → Nat
  | 0, _ => 0
  | f + 1, r => @ite _ (sgo N r) (Classical.propDecidable _) (snC N f (upd r (58 + gl r) 0) + 1) 0
def SCs (a j : Nat) : Prop := (21 ≤ a ∧ a ≤ 26) ∨ stS a j
def SMs (a j : Nat) : Prop := BFs a j ∨ a = 95
section
variable {d : Nat} {h h' : Hp} {Q : Option (Option Value) → Hp → Prop} {x y z w v : Int32} {k l p q t n a b N f : Nat} {r : Nat → Int32}
theorem snR_y (c : sgo N r) : snR N (f + 1) r = snR N f (upd r (58 + gl r) 0) := @if_pos _ (Classical.propDecidable _) c _ _ _
theorem snR_n (c : ¬ sgo N r) : snR N (f + 1) r = r := @if_neg _ (Classical.propDecidable _) c _ _ _
theorem snC_y (c : sgo N r) : snC N (f + 1) r = snC N f (upd r (58 + gl r) 0) + 1 := @if_pos _ (Classical.propDecidable _) c _ _ _
theorem snC_n (c : ¬ sgo N r) : snC N (f + 1) r = 0 := @if_neg _ (Classical.propDecidable _) c _ _ _
theorem snC_0 (c : snC N f r = 0) : snR N f r = r := by
  cases f with
  | zero => rfl
  | succ f =>
    by_cases e : sgo N r
    · rw [snC_y e] at c; omega
    · exact snR_n e
theorem snC_le : ∀ (f : Nat) (r : Nat → Int32), snC N f r ≤ f
  | 0, _ => Nat.le_refl _
  | f + 1, r => by
    by_cases e : sgo N r
    · rw [snC_y e]; have := snC_le f (upd r (58 + gl r) 0); omega
    · rw [snC_n e]; omega
theorem gf_or : ∀ m, gf r m = (-1, 0, 1) ∨ ∃ l, l < m ∧ snd r l ∧ gf r m = (nI l, fA r l, fB r l)
  | 0 => Or.inl rfl
  | m + 1 => by
    by_cases c : snd r m ∧ (gf r m).2.1 * fB r m < fA r m * (gf r m).2.2
    · exact Or.inr ⟨m, Nat.lt_succ_self _, c.1, @if_pos _ (Classical.propDecidable _) c _ _ _⟩
    · have e : gf r (m + 1) = gf r m := @if_neg _ (Classical.propDecidable _) c _ _ _
      rw [e]
      rcases gf_or m with q | ⟨l, h1, h2, h3⟩
      · exact Or.inl q
      · exact Or.inr ⟨l, by omega, h2, h3⟩
theorem nI_m1 (hl : l < 2 ^ 31) : ¬ nI l = -1 := fun z => by
  have : (nI l).toInt = -1 := by rw [z]; decide
  rw [nI_toInt hl] at this
  omega
theorem gl_of {A B : Nat} (hl : l < 2 ^ 31) (e : gf r (rL r) = (nI l, A, B)) : gl r = l := by unfold gl; rw [e]; exact nI_cl hl
theorem sgo_no (e : gf r (rL r) = (-1, 0, 1)) : ¬ sgo N r := fun z => z.1 (by rw [e])
theorem sgo_l (hl : l < 2 ^ 31) (e : gf r (rL r) = (nI l, fA r l, fB r l)) : sgo N r ↔ N * fB r l < fA r l := by
  unfold sgo
  rw [e]
  exact ⟨fun z => z.2, fun z => ⟨nI_m1 hl, z⟩⟩
theorem snR_V (hV : VR r) : VR (snR N f r) := by
  induction f generalizing r with
  | zero => exact hV
  | succ f ih =>
    by_cases c : sgo N r
    · rw [snR_y c]
      have h11 := hV.2.1.2
      rcases gf_or (r := r) (rL r) with e | ⟨l, h1, h2, h3⟩
      · exact absurd c (sgo_no e)
      · rw [gl_of (by omega) h3]
        exact ih (VR_s hV h1 isB_0)
    · rw [snR_n c]; exact hV
/-! the class's -/
theorem cls_st (hV : VR r) (hN : CN h 21 r) (h1 : h.1 0 11 = 1) : cls r h := ⟨hV, hN, by rw [h1]; exact isB_1, fun z => by rw [h1] at z; exact absurd z (by decide)⟩
theorem c_snoop_loop (hN9 : N ≤ 9999) : ∀ (f i s : Nat) (r : Nat → Int32) (hc : Hp) (o4 : Option Value), i + f = 11 → cls r hc → frmF SCs h hc → (∀ (h' : Hp) (o3 o4 : Option Value), frmF SCs h h' → cls (snR N f r) h' → WP (d + 6) 76 109 [some (.ref 0), some (.int (nI N)), some (.int (nI (s + snC N f r))), o3, o4] [] h' Q) → WP (d + 6) 76 28 [some (.ref 0), some (.int (nI N)), some (.int (nI s)), some (.int (nI i)), o4] [] hc Q := by
  intro f
  induction f with
  | zero =>
    intro i s r hc o4 hi hC hf kk
    have : i = 11 := by omega
    subst this
    have hcd : (11 : Int32) ≤ nI 11 := by decide
    have k1 := kk hc (some (.int (nI 11))) o4 hf hC
    rw [S76_28, S76_29, S76_31, if_pos hcd]
    exact k1
  | succ f ih =>
    intro i s r hc o4 hi hC hf kk
    have hV := hC.1
    have h11 := hV.2.1.2
    rw [S76_28]
    simp only [S76_0, S76_1, S76_4, S76_5, S76_8, S76_11, S76_12, S76_13, S76_14, S76_17, S76_18, S76_21, S76_24, S76_25, S76_26, S76_27, S76_29, S76_31, S76_34, S76_35, S76_38, S76_39, S76_42, S76_43, S76_46, S76_49, S76_51, S76_53, S76_54, S76_57, S76_58, S76_61, S76_62, S76_65, S76_67, S76_68, S76_71, S76_74, S76_77, S76_78, S76_81, S76_82, S76_85, S76_86, S76_88, S76_89, S76_90, S76_91, S76_92, S76_95, S76_96, S76_97, S76_100, S76_103, S76_106, S76_110, S76_113, S76_114, S76_117, S76_118, S76_121, S76_124, S76_125, shp_0, RV_0_0, RV_0_1, RV_0_2, RV_0_3, RV_0_4, RV_0_5, RV_0_9, RV_0_10, if_neg (lt11 (show i < 11 by omega))]
    refine c_settle (d := d) hC (fun h1 f1 s1 z1 => ?_)
    have F1 : frmF SCs h h1 := frmF_tr hf ⟨fun a j hq => f1.1 a j (fun z => hq (Or.inr z)), f1.2⟩
    simp only [kV_at, S76_0, S76_1, S76_4, S76_5, S76_8, S76_11, S76_12, S76_13, S76_14, S76_17, S76_18, S76_21, S76_24, S76_25, S76_26, S76_27, S76_29, S76_31, S76_34, S76_35, S76_38, S76_39, S76_42, S76_43, S76_46, S76_49, S76_51, S76_53, S76_54, S76_57, S76_58, S76_61, S76_62, S76_65, S76_67, S76_68, S76_71, S76_74, S76_77, S76_78, S76_81, S76_82, S76_85, S76_86, S76_88, S76_89, S76_90, S76_91, S76_92, S76_95, S76_96, S76_97, S76_100, S76_103, S76_106, S76_110, S76_113, S76_114, S76_117, S76_118, S76_121, S76_124, S76_125, shp_0, RV_0_0, RV_0_1, RV_0_2, RV_0_3, RV_0_4, RV_0_5, RV_0_9, RV_0_10, shp_12, RV_12_1, RV_12_2, RV_12_3, c_greatestFall (d := d + 1) s1, kR_at, kl_int, kl_none]
    rcases gf_or (r := r) (rL r) with e | ⟨l, q1, q2, q3⟩
    · have k1 := fun o3 o4 => kk h1 o3 o4 F1
      rw [snR_n (sgo_no e), snC_n (sgo_no e)] at k1
      rw [e]
      simp only [↓reduceIte]
      exact k1 _ _ (stl_cls s1 z1)
    · have hl31 : l < 2 ^ 31 := by omega
      rw [q3]
      rw [if_neg (nI_m1 hl31)]
      simp only [S76_0, S76_1, S76_4, S76_5, S76_8, S76_11, S76_12, S76_13, S76_14, S76_17, S76_18, S76_21, S76_24, S76_25, S76_26, S76_27, S76_29, S76_31, S76_34, S76_35, S76_38, S76_39, S76_42, S76_43, S76_46, S76_49, S76_51, S76_53, S76_54, S76_57, S76_58, S76_61, S76_62, S76_65, S76_67, S76_68, S76_71, S76_74, S76_77, S76_78, S76_81, S76_82, S76_85, S76_86, S76_88, S76_89, S76_90, S76_91, S76_92, S76_95, S76_96, S76_97, S76_100, S76_103, S76_106, S76_110, S76_113, S76_114, S76_117, S76_118, S76_121, S76_124, S76_125, shp_0, RV_0_0, RV_0_1, RV_0_2, RV_0_3, RV_0_4, RV_0_5, RV_0_9, RV_0_10, shp_12, RV_12_1, RV_12_2, RV_12_3, shp_21, RV_21_2, RV_21_5, RV_21_6, RV_21_7, RV_21_8, c_fallsAbove (d := d + 1) s1 q2 hN9, kR_at]
      by_cases c : N * fB r l < fA r l
      · have sg := (sgo_l (N := N) hl31 q3).mpr c
        have ih := ih (i + 1) (s + 1) (upd r (58 + l) 0)
        rw [snR_y sg, snC_y sg, gl_of hl31 q3] at kk
        rw [show s + (snC N f (upd r (58 + l) 0) + 1) = s + 1 + snC N f (upd r (58 + l) 0) by omega] at kk
        rw [if_neg (fun z => pb_0.mp z c)]
        simp only [S76_0, S76_1, S76_4, S76_5, S76_8, S76_11, S76_12, S76_13, S76_14, S76_17, S76_18, S76_21, S76_24, S76_25, S76_26, S76_27, S76_29, S76_31, S76_34, S76_35, S76_38, S76_39, S76_42, S76_43, S76_46, S76_49, S76_51, S76_53, S76_54, S76_57, S76_58, S76_61, S76_62, S76_65, S76_67, S76_68, S76_71, S76_74, S76_77, S76_78, S76_81, S76_82, S76_85, S76_86, S76_88, S76_89, S76_90, S76_91, S76_92, S76_95, S76_96, S76_97, S76_100, S76_103, S76_106, S76_110, S76_113, S76_114, S76_117, S76_118, S76_121, S76_124, S76_125, shp_0, RV_0_0, RV_0_1, RV_0_2, RV_0_3, RV_0_4, RV_0_5, RV_0_9, RV_0_10, shp_12, RV_12_1, RV_12_2, RV_12_3, shp_21, RV_21_2, RV_21_5, RV_21_6, RV_21_7, RV_21_8, isB_1, kl_int, kl_ref, nI_add1]
        refine ih _ _ (by omega) ?_ (frmF_tr F1 (frmF_tr (frmF_I (Or.inl (by omega))) (frmF_I (Or.inr (Or.inr ⟨rfl, rfl⟩))))) kk
        refine cls_st (VR_s hV q1 isB_0) ?_ (by rw [setI_rd, if_pos ⟨rfl, rfl⟩])
        exact CN_frm (S := fun a => a = 0) (frm_I rfl) (fun a z1 z2 z3 => by omega) (CN_s0 hV s1.2.1 q1)
      · have sg : ¬ sgo N r := fun z => c ((sgo_l (N := N) hl31 q3).mp z)
        have k1 := fun o3 o4 => kk h1 o3 o4 F1
        rw [snR_n sg, snC_n sg] at k1
        rw [if_pos (pb_0.mpr c)]
        exact k1 _ _ (stl_cls s1 z1)
theorem c_snoop_no (hx : ¬ isW 9999 x) (kk : Q (some (some (.int (-1)))) h) : WP (d + 6) 76 0 [some (.ref 0), some (.int x), none, none, none] [] h Q := by
  simp only [S76_0, S76_1, S76_4, S76_5, S76_8, S76_11, S76_12, S76_14, S76_17, S76_18, S76_21, S76_24, S76_25, S76_26, S76_27, S76_29, S76_31, S76_34, S76_35, S76_38, S76_39, S76_42, S76_43, S76_46, S76_49, S76_51, S76_53, S76_54, S76_57, S76_58, S76_61, S76_62, S76_65, S76_67, S76_68, S76_71, S76_74, S76_77, S76_78, S76_81, S76_82, S76_85, S76_86, S76_88, S76_89, S76_90, S76_91, S76_92, S76_95, S76_96, S76_97, S76_100, S76_103, S76_106, S76_109, S76_110, S76_113, S76_114, S76_117, S76_118, S76_121, S76_124, S76_125]
  by_cases c : x < 0
  · rw [if_pos c]; exact kk
  · rw [if_neg c, if_neg (fun z => hx ⟨c, z⟩)]; exact kk
theorem c_snoop (hC : cls r h) (hA : actA t n h) (hN9 : N ≤ 9999) (k0 : snC N 11 r = 0 → ∀ h' : Hp, frmF (fun a j => (27 ≤ a ∧ a ≤ 32) ∨ SCs a j) h h' → cls r h' → Q (some (some (.int (nI 0)))) h') (kk : 0 < snC N 11 r → ∀ h' : Hp, frmF CAs h h' → pushed t n h h' r → cls (snR N 11 r) h' → Q (some (some (.int (nI (snC N 11 r))))) h') : WP (d + 6) 76 0 [some (.ref 0), some (.int (nI N)), none, none, none] [] h Q := by
  have hV := hC.1
  have c1 : ¬ nI N < 0 := nI_pos (by omega)
  have c2 : nI N ≤ 9999 := nI_le (b := 9999) hN9 (by omega)
  simp only [S76_0, S76_1, S76_4, S76_5, S76_8, S76_11, S76_12, S76_13, S76_14, S76_17, S76_18, S76_21, S76_24, S76_25, S76_26, S76_27, S76_29, S76_31, S76_34, S76_35, S76_38, S76_39, S76_42, S76_43, S76_46, S76_49, S76_51, S76_53, S76_54, S76_57, S76_58, S76_61, S76_62, S76_65, S76_67, S76_68, S76_71, S76_74, S76_77, S76_78, S76_81, S76_82, S76_85, S76_86, S76_88, S76_89, S76_90, S76_91, S76_92, S76_95, S76_96, S76_97, S76_100, S76_103, S76_106, S76_109, S76_110, S76_113, S76_114, S76_117, S76_118, S76_121, S76_124, S76_125, shp_0, RV_0_0, RV_0_1, RV_0_2, RV_0_3, RV_0_4, RV_0_5, RV_0_9, RV_0_10, shp_27, RV_27_2, RV_27_5, RV_27_6, RV_27_7, RV_27_8, if_neg c1, if_pos c2]
  refine c_copyFrom (a := 27) (b := 21) (NO_nid (k := 1) (by omega)) (NO_nid (k := 0) (by omega)) (by omega) hV hC.2.1 (fun h1 f1 n1 => ?_)
  have C1 : cls r h1 := by
    refine ⟨hV, CN_frm f1 (fun a z1 z2 z3 => by omega) hC.2.1, by rw [(f1.1 0 (by omega)).1]; exact hC.2.2.1, fun z => ?_⟩
    rw [(f1.1 0 (by omega)).1] at z
    obtain ⟨b1, b2⟩ := hC.2.2.2 z
    refine ⟨tiOK_frm f1 (fun a z1 z2 z3 => by omega) b1, ?_⟩
    obtain ⟨q1, q2, q3, q4, q5⟩ := b2
    refine ⟨by rw [(f1.1 12 (by omega)).1]; exact q1, fun p hp => by rw [(f1.1 13 (by omega)).1]; exact q2 p hp, by rw [(f1.1 12 (by omega)).2]; exact q3, fun a b ha hb => ?_, fun p hp => by rw [(f1.1 20 (by omega)).2]; exact q5 p hp⟩
    show h1.2.1 (15 + a) b = _
    rw [(f1.1 (15 + a) (by omega)).2]
    exact q4 a b ha hb
  have F1 : frmF (fun a j => (27 ≤ a ∧ a ≤ 32) ∨ SCs a j) h h1 := frmF_frm (fun a j z => Or.inl (by omega)) f1
  simp only [kV_at, S76_0, S76_1, S76_4, S76_5, S76_8, S76_11, S76_12, S76_13, S76_14, S76_17, S76_18, S76_21, S76_24, S76_25, S76_26, S76_27, S76_29, S76_31, S76_34, S76_35, S76_38, S76_39, S76_42, S76_43, S76_46, S76_49, S76_51, S76_53, S76_54, S76_57, S76_58, S76_61, S76_62, S76_65, S76_67, S76_68, S76_71, S76_74, S76_77, S76_78, S76_81, S76_82, S76_85, S76_86, S76_88, S76_89, S76_90, S76_91, S76_92, S76_95, S76_96, S76_97, S76_100, S76_103, S76_106, S76_110, S76_113, S76_114, S76_117, S76_118, S76_121, S76_124, S76_125, kl_int, kl_none]
  rw [nI_l0]
  refine c_snoop_loop (h := h1) (d := d) hN9 11 0 0 r h1 none (by omega) C1 frmF_rf (fun h2 o3 o4 f2 C2 => ?_)
  rw [Nat.zero_add]
  have F2 : frmF (fun a j => (27 ≤ a ∧ a ≤ 32) ∨ SCs a j) h h2 := frmF_tr F1 ⟨fun a j hq => f2.1 a j (fun z => hq (Or.inr z)), f2.2⟩
  have hb := snC_le (N := N) 11 r
  rw [S76_109, S76_110]
  by_cases c : snC N 11 r = 0
  · rw [snC_0 c] at C2
    have k1 := k0 c h2 F2 C2
    rw [c, if_pos (by decide)]
    simp only [S76_0, S76_1, S76_4, S76_5, S76_8, S76_11, S76_12, S76_13, S76_14, S76_17, S76_18, S76_21, S76_24, S76_25, S76_26, S76_27, S76_29, S76_31, S76_34, S76_35, S76_38, S76_39, S76_42, S76_43, S76_46, S76_49, S76_51, S76_53, S76_54, S76_57, S76_58, S76_61, S76_62, S76_65, S76_67, S76_68, S76_71, S76_74, S76_77, S76_78, S76_81, S76_82, S76_85, S76_86, S76_88, S76_89, S76_90, S76_91, S76_92, S76_95, S76_96, S76_97, S76_100, S76_103, S76_106, S76_109, S76_110, S76_113, S76_114, S76_117, S76_118, S76_121, S76_124, S76_125]
    exact k1
  · have c3 : ¬ nI (snC N 11 r) ≤ 0 := nI_nle (by omega) (by omega)
    rw [if_neg c3]
    have e5 : h2.1 5 1 = nI t ∧ h2.1 5 2 = nI n := by
      have g : ∀ j, h2.1 5 j = h.1 5 j := fun j => (F2.1 5 j (by unfold SCs stS; omega)).1
      rw [g, g]
      exact ⟨hA.2.2.1, hA.2.2.2⟩
    have n2 : CN h2 27 r := CN_fF f2 (fun a j z1 z2 z3 => by unfold SCs stS at z3; omega) n1
    simp only [S76_0, S76_1, S76_4, S76_5, S76_8, S76_11, S76_12, S76_13, S76_14, S76_17, S76_18, S76_21, S76_24, S76_25, S76_26, S76_27, S76_29, S76_31, S76_34, S76_35, S76_38, S76_39, S76_42, S76_43, S76_46, S76_49, S76_51, S76_53, S76_54, S76_57, S76_58, S76_61, S76_62, S76_65, S76_67, S76_68, S76_71, S76_74, S76_77, S76_78, S76_81, S76_82, S76_85, S76_86, S76_88, S76_89, S76_90, S76_91, S76_92, S76_95, S76_96, S76_97, S76_100, S76_103, S76_106, S76_109, S76_110, S76_113, S76_114, S76_117, S76_118, S76_121, S76_124, S76_125, shp_0, RV_0_0, RV_0_1, RV_0_2, RV_0_3, RV_0_4, RV_0_5, RV_0_9, RV_0_10, shp_5, RV_5_0, shp_27, RV_27_2, RV_27_5, RV_27_6, RV_27_7, RV_27_8]
    refine c_push (k := 1) (d := d + 3) (by omega) hV n2 hA.1 hA.2.1 e5.1 e5.2 (fun h3 f3 p3 => ?_)
    simp only [kV_at, S76_0, S76_1, S76_4, S76_5, S76_8, S76_11, S76_12, S76_13, S76_14, S76_17, S76_18, S76_21, S76_24, S76_25, S76_26, S76_27, S76_29, S76_31, S76_34, S76_35, S76_38, S76_39, S76_42, S76_43, S76_46, S76_49, S76_51, S76_53, S76_54, S76_57, S76_58, S76_61, S76_62, S76_65, S76_67, S76_68, S76_71, S76_74, S76_77, S76_78, S76_81, S76_82, S76_85, S76_86, S76_88, S76_89, S76_90, S76_91, S76_92, S76_95, S76_96, S76_97, S76_100, S76_103, S76_106, S76_109, S76_110, S76_113, S76_114, S76_117, S76_118, S76_121, S76_124, S76_125]
    refine kk (by omega) h3 ?_ ?_ ?_
    · refine frmF_tr ⟨fun a j hq => F2.1 a j (fun z => hq (by
        rcases z with z | z | z
        · exact Or.inl (by omega)
        · exact Or.inl (by omega)
        · exact Or.inr (Or.inr z))), F2.2⟩ ⟨fun a j hq => f3.1 a j (fun z => hq (by
        rcases z with z | z
        · exact Or.inl (by omega)
        · exact Or.inr (Or.inl z))), f3.2⟩
    · refine ⟨p3.1, p3.2.1, p3.2.2.1, fun a ha hn => ?_⟩
      rw [p3.2.2.2 a ha hn]
      exact funext (fun j => (F2.1 a j (by unfold SCs stS; omega)).1)
    · have g : ∀ a j, ¬ PSs a j → h3.1 a j = h2.1 a j ∧ h3.2.1 a j = h2.2.1 a j := f3.1
      refine ⟨C2.1, CN_fF f3 (fun a j z1 z2 z3 => by unfold PSs at z3; omega) C2.2.1, by rw [(g 0 11 (by unfold PSs; omega)).1]; exact C2.2.2.1, fun z => ?_⟩
      rw [(g 0 11 (by unfold PSs; omega)).1] at z
      obtain ⟨b1, b2⟩ := C2.2.2.2 z
      have f3' : frm (fun a => a = 5 ∨ (33 ≤ a ∧ a ≤ 80)) h2 h3 := ⟨fun a ha => ⟨funext (fun j => (g a j (by unfold PSs; omega)).1), funext (fun j => (g a j (by unfold PSs; omega)).2)⟩, f3.2⟩
      refine ⟨tiOK_frm f3' (fun a z1 z2 z3 => by omega) b1, ?_⟩
      obtain ⟨q1, q2, q3, q4, q5⟩ := b2
      refine ⟨by rw [(f3'.1 12 (by omega)).1]; exact q1, fun p hp => by rw [(f3'.1 13 (by omega)).1]; exact q2 p hp, by rw [(f3'.1 12 (by omega)).2]; exact q3, fun a b ha hb => ?_, fun p hp => by rw [(f3'.1 20 (by omega)).2]; exact q5 p hp⟩
      show h3.2.1 (15 + a) b = _
      rw [(f3'.1 (15 + a) (by omega)).2]
      exact q4 a b ha hb
/-! the model's -/
theorem rN_1 : rN (N : Int) 1 = N := by
  unfold rN
  rw [Nat.gcd_one_right]
  exact Int.ediv_one _
theorem rD_1 : rD (N : Int) 1 = 1 := by
  unfold rD
  rw [Nat.gcd_one_right]
theorem m_snoop_loop (hN9 : N ≤ 9999) : ∀ (f s : Nat) (r : Nat → Int32) (hc : Hp), cK (snd r) 11 ≤ f → VR r → hc.1 95 = r → hc.2.1 93 32 = lN (rN ((gf r (rL r)).2.1 : Int) (gf r (rL r)).2.2).toNat → hc.2.1 93 33 = lN (rD ((gf r (rL r)).2.1 : Int) (gf r (rL r)).2.2) → frmF SMs h hc → (∀ (h' : Hp) (o3 : Option Value), frmF SMs h h' → h'.1 95 = snR N f r → WP (d + 91) 189 81 [some (.ref 93), some (.int (nI N)), some (.int (nI (s + snC N f r))), o3] [] h' Q) → WP (d + 91) 189 38 [some (.ref 93), some (.int (nI N)), some (.int (nI s)), some (.int (gf r (rL r)).1)] [] hc Q := by
  intro f
  induction f with
  | zero =>
    intro s r hc hcK hV hr a1 a2 hf kk
    have h11 := hV.2.1.2
    rcases gf_or (r := r) (rL r) with e | ⟨l, q1, q2, q3⟩
    · have k1 := kk hc (some (.int (-1))) hf hr
      rw [e, S189_38, S189_39, S189_40, if_pos rfl]
      exact k1
    · have := cK_lt (K := fun _ => False) (K' := snd r) (fun _ z => absurd z (fun q => q)) q2 (fun q => q) 11 (by omega)
      omega
  | succ f ih =>
    intro s r hc hcK hV hr a1 a2 hf kk
    have h11 := hV.2.1.2
    rcases gf_or (r := r) (rL r) with e | ⟨l, q1, q2, q3⟩
    · have k1 := fun o3 => kk hc o3 hf
      rw [snR_n (sgo_no e), snC_n (sgo_no e)] at k1
      rw [e, S189_38, S189_39, S189_40, if_pos rfl]
      exact k1 _ hr
    · have hl31 : l < 2 ^ 31 := by omega
      have fa := fA_b hV q2
      have fb := fB_b hV q2
      rw [q3] at a1 a2
      have b1 := (r_back (a := (fA r l : Int)) (b := fB r l)).2.1
      have b2 : rD (fA r l : Int) (fB r l) ≤ fB r l := rD_le
      have b3 : 0 < rD (fA r l : Int) (fB r l) := rD_pos fb.1
      have mm := m_isMore (h := hc) 43 (rN (fA r l : Int) (fB r l)).toNat (rD (fA r l : Int) (fB r l)) N 1 (d + 90) (by omega) b3 (by omega) (by omega) (by omega) (by omega) (by omega) (by omega)
      have cmp := r_cmp (a := fA r l) (b := fB r l) (c := N) (e := 1) fb.1 (by omega)
      rw [rN_1, rD_1, Int.toNat_natCast, Nat.mul_one, Nat.mul_one] at cmp
      have l1 : (1 : Int64) = lN 1 := by decide
      rw [q3, S189_38, S189_39, S189_40, if_neg (nI_m1 hl31)]
      simp only [S189_0, S189_1, S189_2, S189_5, S189_6, S189_7, S189_10, S189_13, S189_16, S189_17, S189_18, S189_19, S189_22, S189_23, S189_24, S189_27, S189_28, S189_31, S189_32, S189_33, S189_34, S189_37, S189_39, S189_40, S189_43, S189_44, S189_47, S189_48, S189_51, S189_52, S189_53, S189_54, S189_57, S189_61, S189_64, S189_66, S189_67, S189_68, S189_69, S189_70, S189_73, S189_74, S189_77, S189_78, S189_82, S189_85, S189_86, S189_89, S189_90, shp_93, RV_93_1, RV_93_13, RV_93_14, RV_93_15, RV_93_16, RV_93_17, RV_93_18, RV_93_19, RV_93_20, RV_93_23, RV_93_24, RV_93_27, RV_93_28, RV_93_29, a1, a2, nI_l (show N < 2 ^ 31 by omega), l1, mm, kR_at, Nat.mul_one, pb_congr cmp]
      by_cases c : N * fB r l < fA r l
      · have sg := (sgo_l (N := N) hl31 q3).mpr c
        rw [snR_y sg, snC_y sg, gl_of hl31 q3] at kk
        rw [show s + (snC N f (upd r (58 + l) 0) + 1) = s + 1 + snC N f (upd r (58 + l) 0) by omega] at kk
        rw [if_neg (fun z => pb_0.mp z c)]
        simp only [S189_0, S189_1, S189_2, S189_5, S189_6, S189_7, S189_10, S189_13, S189_16, S189_17, S189_18, S189_19, S189_22, S189_23, S189_24, S189_27, S189_28, S189_31, S189_32, S189_33, S189_34, S189_37, S189_39, S189_40, S189_43, S189_44, S189_47, S189_48, S189_51, S189_52, S189_53, S189_54, S189_57, S189_60, S189_61, S189_64, S189_66, S189_67, S189_68, S189_69, S189_70, S189_73, S189_74, S189_77, S189_78, S189_82, S189_85, S189_86, S189_89, S189_90, shp_93, RV_93_1, RV_93_13, RV_93_14, RV_93_15, RV_93_16, RV_93_17, RV_93_18, RV_93_19, RV_93_20, RV_93_23, RV_93_24, RV_93_27, RV_93_28, RV_93_29, la_58, ok95 (show 58 + l < 69 by omega), nI_cl (show 58 + l < 2147483648 by omega), kl_int, kl_ref, nI_add1]
        have V1 := VR_s (v := 0) hV q1 isB_0
        refine m_laysBlunder (d := d) (r := upd r (58 + l) 0) (by rw [setI_s, hr]) V1 (fun h1 f1 r1 g1 g2 => ?_)
        simp only [kR_at, S189_0, S189_1, S189_2, S189_5, S189_6, S189_7, S189_10, S189_13, S189_16, S189_17, S189_18, S189_19, S189_22, S189_23, S189_24, S189_27, S189_28, S189_31, S189_32, S189_33, S189_34, S189_37, S189_39, S189_40, S189_43, S189_44, S189_47, S189_48, S189_51, S189_52, S189_53, S189_54, S189_57, S189_60, S189_61, S189_64, S189_66, S189_67, S189_68, S189_69, S189_70, S189_73, S189_74, S189_77, S189_78, S189_82, S189_85, S189_86, S189_89, S189_90, kl_int]
        refine ih (s + 1) (upd r (58 + l) 0) h1 ?_ V1 r1 g1 g2 (frmF_tr hf (frmF_tr (frmF_I (Or.inr rfl)) ⟨fun a j hq => f1.1 a j (fun z => hq (Or.inl z)), f1.2⟩)) kk
        have e : ∀ i, snd (upd r (58 + l) 0) i → snd r i ∧ i ≠ l := fun i z => by
          obtain ⟨z1, z2⟩ := z
          rw [upd_L (by omega)] at z1
          by_cases e : i = l
          · subst e; rw [upd_eq] at z2; exact absurd z2 (by decide)
          · rw [upd_ne (by omega)] at z2; exact ⟨⟨z1, z2⟩, e⟩
        have := cK_lt (K := snd (upd r (58 + l) 0)) (K' := snd r) (fun i z => (e i z).1) q2 (fun z => (e l z).2 rfl) 11 (by omega)
        omega
      · have sg : ¬ sgo N r := fun z => c ((sgo_l (N := N) hl31 q3).mp z)
        have k1 := fun o3 => kk hc o3 hf
        rw [snR_n sg, snC_n sg] at k1
        rw [if_pos (pb_0.mpr c)]
        exact k1 _ hr
theorem isW_if {m : Int32} : (if x < 0 then (0 : Int32) else if m < x then 0 else 1) = pb (isW m x) := by
  unfold isW
  by_cases c : x < 0
  · rw [if_pos c, pb_f (fun z => z.1 c)]
  · rw [if_neg c]
    by_cases c2 : m < x
    · rw [if_pos c2, pb_f (fun z => (Int32.not_le.mpr c2) z.2)]
    · rw [if_neg c2, pb_t ⟨c, Int32.not_lt.mp c2⟩]
theorem m_snoop_no (hr : h.1 95 = r) (hx : ¬ isW 9999 x) (kk : mPost r h Q 0 (some (.int (-1)))) : WP (d + 91) 189 0 [some (.ref 93), some (.int x), none, none] [] h Q := by
  have k1 := kk _ M0 (r0 (x := 0) hr) t0
  simp only [S189_0, S189_1, S189_2, S189_5, S189_6, S189_7, S189_10, S189_13, S189_16, S189_17, S189_19, S189_22, S189_23, S189_24, S189_27, S189_28, S189_31, S189_32, S189_33, S189_34, S189_37, S189_39, S189_40, S189_43, S189_44, S189_47, S189_48, S189_51, S189_52, S189_53, S189_54, S189_57, S189_60, S189_61, S189_64, S189_66, S189_67, S189_68, S189_69, S189_70, S189_73, S189_74, S189_77, S189_78, S189_81, S189_82, S189_85, S189_86, S189_89, S189_90, shp_93, RV_93_1, RV_93_13, RV_93_14, RV_93_15, RV_93_16, RV_93_17, RV_93_18, RV_93_19, RV_93_20, RV_93_23, RV_93_24, RV_93_27, RV_93_28, RV_93_29, m_isIn, isW_if, kR_at, if_pos (pb_0.mpr hx)]
  exact k1
theorem isW_nI (hN9 : N ≤ 9999) : isW 9999 (nI N) := ⟨nI_pos (by omega), nI_le (b := 9999) hN9 (by omega)⟩
theorem m_snoop (hr : h.1 95 = r) (hV : VR r) (hn : n ≤ 8) (h21 : h.1 93 21 = nI n) (hN9 : N ≤ 9999) (k0 : snC N 11 r = 0 → ∀ h' : Hp, frmF (fun a j => PS a j ∨ a = 99 ∨ a = 95) h h' → h'.1 95 = r → Q (some (some (.int (nI 0)))) h') (kk : 0 < snC N 11 r → mAct n r (snR N 11 r) h Q (some (.int (nI (snC N 11 r))))) : WP (d + 91) 189 0 [some (.ref 93), some (.int (nI N)), none, none] [] h Q := by
  have hr1 := r0 (h := h) (x := 0) hr
  have c : ¬ pb (isW 9999 (nI N)) = 0 := fun z => pb_0.mp z (isW_nI hN9)
  simp only [S189_0, S189_1, S189_2, S189_5, S189_6, S189_7, S189_10, S189_13, S189_16, S189_17, S189_18, S189_19, S189_22, S189_23, S189_24, S189_27, S189_28, S189_31, S189_32, S189_33, S189_34, S189_37, S189_39, S189_40, S189_43, S189_44, S189_47, S189_48, S189_51, S189_52, S189_53, S189_54, S189_57, S189_60, S189_61, S189_64, S189_66, S189_67, S189_68, S189_69, S189_70, S189_73, S189_74, S189_77, S189_78, S189_81, S189_82, S189_85, S189_86, S189_89, S189_90, shp_93, RV_93_1, RV_93_13, RV_93_14, RV_93_15, RV_93_16, RV_93_17, RV_93_18, RV_93_19, RV_93_20, RV_93_23, RV_93_24, RV_93_27, RV_93_28, RV_93_29, m_isIn, isW_if, kR_at, if_neg c]
  refine m_copy (s := 0) (u := 0) shp_95 shp_99 (by decide) (by omega) (by omega) (by omega) (by omega) (fun h1 f1 e1 => ?_)
  have e99 : eq69 (h1.1 99) r := fun j hj => by
    have := e1 j hj
    rw [Nat.zero_add] at this
    rw [this, hr1]
  have r1 : h1.1 95 = r := by
    rw [← hr1]
    exact funext (fun j => (f1.1 95 j (fun z => absurd z.1 (by decide))).1)
  have g21 : h1.1 93 21 = nI n := by
    rw [(f1.1 93 21 (fun z => absurd z.1 (by decide))).1, setI_rd, if_neg (by decide)]
    exact h21
  have F1 : frmF (fun a j => PS a j ∨ a = 99 ∨ a = 95) h h1 := frmF_tr (frmF_I (Or.inl (Or.inr ⟨rfl, Or.inl rfl⟩))) ⟨fun a j hq => f1.1 a j (fun z => hq (Or.inr (Or.inl z.1))), f1.2⟩
  simp only [kV_at, S189_0, S189_1, S189_2, S189_5, S189_6, S189_7, S189_10, S189_13, S189_16, S189_17, S189_18, S189_19, S189_22, S189_23, S189_24, S189_27, S189_28, S189_31, S189_32, S189_33, S189_34, S189_37, S189_39, S189_40, S189_43, S189_44, S189_47, S189_48, S189_51, S189_52, S189_53, S189_54, S189_57, S189_60, S189_61, S189_64, S189_66, S189_67, S189_68, S189_69, S189_70, S189_73, S189_74, S189_77, S189_78, S189_81, S189_82, S189_85, S189_86, S189_89, S189_90, shp_93, RV_93_1, RV_93_13, RV_93_14, RV_93_15, RV_93_16, RV_93_17, RV_93_18, RV_93_19, RV_93_20, RV_93_23, RV_93_24, RV_93_27, RV_93_28, RV_93_29, kl_int, kl_none]
  refine m_laysBlunder (d := d) r1 hV (fun h2 f2 r2 g1 g2 => ?_)
  simp only [kR_at, S189_0, S189_1, S189_2, S189_5, S189_6, S189_7, S189_10, S189_13, S189_16, S189_17, S189_18, S189_19, S189_22, S189_23, S189_24, S189_27, S189_28, S189_31, S189_32, S189_33, S189_34, S189_37, S189_39, S189_40, S189_43, S189_44, S189_47, S189_48, S189_51, S189_52, S189_53, S189_54, S189_57, S189_60, S189_61, S189_64, S189_66, S189_67, S189_68, S189_69, S189_70, S189_73, S189_74, S189_77, S189_78, S189_82, S189_85, S189_86, S189_89, S189_90, kl_int]
  rw [nI_l0]
  refine m_snoop_loop (h := h1) (d := d) hN9 11 0 r h2 (cK_le 11) hV r2 g1 g2 ⟨fun a j hq => f2.1 a j (fun z => hq (Or.inl z)), f2.2⟩ (fun h3 o3 f3 r3 => ?_)
  rw [Nat.zero_add]
  have hb := snC_le (N := N) 11 r
  have bf : ∀ a j, SMs a j → PS a j ∨ a = 95 := fun a j z => by
    rcases z with z | z
    · unfold BFs WFs at z
      unfold PS
      rcases z with (z | z) | z
      · exact Or.inl (Or.inl z)
      · exact Or.inl (Or.inr ⟨z.1, by omega⟩)
      · exact Or.inl (Or.inr ⟨z.1, by omega⟩)
    · exact Or.inr z
  rw [S189_81, S189_82]
  by_cases c0 : snC N 11 r = 0
  · rw [snC_0 c0] at r3
    have k1 := k0 c0 h3 (frmF_tr F1 ⟨fun a j hq => f3.1 a j (fun z => hq (by
      rcases bf a j z with q | q
      · exact Or.inl q
      · exact Or.inr (Or.inr q))), f3.2⟩) r3
    rw [c0, if_pos (by decide)]
    simp only [S189_0, S189_1, S189_2, S189_5, S189_6, S189_7, S189_10, S189_13, S189_16, S189_17, S189_18, S189_19, S189_22, S189_23, S189_24, S189_27, S189_28, S189_31, S189_32, S189_33, S189_34, S189_37, S189_39, S189_40, S189_43, S189_44, S189_47, S189_48, S189_51, S189_52, S189_53, S189_54, S189_57, S189_60, S189_61, S189_64, S189_66, S189_67, S189_68, S189_69, S189_70, S189_73, S189_74, S189_77, S189_78, S189_81, S189_82, S189_85, S189_86, S189_89, S189_90]
    exact k1
  · have c3 : ¬ nI (snC N 11 r) ≤ 0 := nI_nle (by omega) (by omega)
    rw [if_neg c3]
    have o3 : ∀ a j, ¬ SMs a j → h3.1 a j = h1.1 a j := fun a j hq => (f3.1 a j hq).1
    have g3 : h3.1 93 21 = nI n := by rw [o3 _ _ (by unfold SMs BFs WFs MS; omega)]; exact g21
    have e3 : h3.1 99 = h1.1 99 := funext (fun j => o3 _ _ (by unfold SMs BFs WFs MS; omega))
    simp only [S189_0, S189_1, S189_2, S189_5, S189_6, S189_7, S189_10, S189_13, S189_16, S189_17, S189_18, S189_19, S189_22, S189_23, S189_24, S189_27, S189_28, S189_31, S189_32, S189_33, S189_34, S189_37, S189_39, S189_40, S189_43, S189_44, S189_47, S189_48, S189_51, S189_52, S189_53, S189_54, S189_57, S189_60, S189_61, S189_64, S189_66, S189_67, S189_68, S189_69, S189_70, S189_73, S189_74, S189_77, S189_78, S189_81, S189_82, S189_85, S189_86, S189_89, S189_90, shp_93, RV_93_1, RV_93_13, RV_93_14, RV_93_15, RV_93_16, RV_93_17, RV_93_18, RV_93_19, RV_93_20, RV_93_23, RV_93_24, RV_93_27, RV_93_28, RV_93_29]
    refine m_stay (d := d + 88) hn g3 (fun h4 f4 s4 q4 => ?_)
    simp only [kV_at, S189_0, S189_1, S189_2, S189_5, S189_6, S189_7, S189_10, S189_13, S189_16, S189_17, S189_18, S189_19, S189_22, S189_23, S189_24, S189_27, S189_28, S189_31, S189_32, S189_33, S189_34, S189_37, S189_39, S189_40, S189_43, S189_44, S189_47, S189_48, S189_51, S189_52, S189_53, S189_54, S189_57, S189_60, S189_61, S189_64, S189_66, S189_67, S189_68, S189_69, S189_70, S189_73, S189_74, S189_77, S189_78, S189_81, S189_82, S189_85, S189_86, S189_89, S189_90]
    refine kk (by omega) h4 ?_ ⟨s4.1, ?_, ?_⟩ ?_
    · refine frmF_tr ⟨fun a j hq => F1.1 a j (fun z => hq (by
        rcases z with z | z
        · unfold PS at z; unfold MAs
          rcases z with z | z
          · exact Or.inl z
          · exact Or.inr (Or.inr (Or.inr ⟨z.1, by omega⟩))
        · unfold MAs; omega)), F1.2⟩ (frmF_tr ⟨fun a j hq => f3.1 a j (fun z => hq (by
        rcases bf a j z with z | z
        · unfold PS at z; unfold MAs
          rcases z with z | z
          · exact Or.inl z
          · exact Or.inr (Or.inr (Or.inr ⟨z.1, by omega⟩))
        · unfold MAs; exact Or.inr (Or.inl z))), f3.2⟩ ⟨fun a j hq => f4.1 a j (fun z => hq (by unfold STs at z; unfold MAs; omega)), f4.2⟩)
    · refine eq69_tr s4.2.1 ?_
      rw [e3]
      exact e99
    · intro i hi j hj
      refine (s4.2.2 i hi j hj).trans ?_
      show h3.1 98 _ = h.1 98 _
      rw [o3 _ _ (by unfold SMs BFs WFs MS; omega)]
      exact (F1.1 98 _ (by unfold PS MS; omega)).1
    · rw [r3] at q4
      exact q4
end
