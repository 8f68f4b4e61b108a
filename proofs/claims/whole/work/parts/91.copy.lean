/-! Nets copied, kept, taken back. -/
def sub (h : Hp) (a i : Nat) : Nat → Int32 := fun j => h.1 a (69 * i + j)
def eq69 (r r' : Nat → Int32) : Prop := ∀ j, j < 69 → r j = r' j
theorem eq69_sy {r r' : Nat → Int32} (e : eq69 r r') : eq69 r' r := fun j hj => (e j hj).symm
theorem eq69_tr {r r' r2 : Nat → Int32} (e : eq69 r r') (e' : eq69 r' r2) : eq69 r r2 := fun j hj => (e j hj).trans (e' j hj)
theorem VR_eq {r r' : Nat → Int32} (e : eq69 r r') (hV : VR r) : VR r' ∧ rP r' = rP r ∧ rL r' = rL r := by
  have eP : rP r' = rP r := by unfold rP; rw [e 0 (by omega)]
  have eL : rL r' = rL r := by unfold rL; rw [e 1 (by omega)]
  refine ⟨⟨?_, ?_, ?_, ?_⟩, eP, eL⟩
  · rw [eP, ← e 0 (by omega)]; exact hV.1
  · rw [eL, ← e 1 (by omega)]; exact hV.2.1
  · intro p hp
    rw [eP] at hp
    have h6 := hV.1.2
    rw [← e (2 + p) (by omega), ← e (8 + p) (by omega)]
    exact hV.2.2.1 p hp
  · intro l hl
    rw [eL] at hl
    have h11 := hV.2.1.2
    have eA : rA r' l = rA r l := by unfold rA; rw [e (14 + l) (by omega)]
    have eB : rB r' l = rB r l := by unfold rB; rw [e (25 + l) (by omega)]
    rw [eA, eB, eP, ← e (14 + l) (by omega), ← e (25 + l) (by omega), ← e (36 + l) (by omega), ← e (47 + l) (by omega), ← e (58 + l) (by omega)]
    exact hV.2.2.2 l hl
theorem CN_eq {h : Hp} {b : Nat} {r r' : Nat → Int32} (e : eq69 r r') (hV : VR r) (hc : CN h b r) : CN h b r' := by
  obtain ⟨-, eP, eL⟩ := VR_eq e hV
  have h6 := hV.1.2
  have h11 := hV.2.1.2
  refine ⟨?_, ?_, ?_, ?_, ?_, ?_⟩
  · rw [← e 0 (by omega)]; exact hc.1
  · rw [hc.2.1]
    refine mask_congr (fun i _ => ?_)
    unfold fxd
    rw [eP]
    constructor
    · rintro ⟨a, q⟩; exact ⟨a, by rw [← e (2 + i) (by omega)]; exact q⟩
    · rintro ⟨a, q⟩; exact ⟨a, by rw [e (2 + i) (by omega)]; exact q⟩
  · rw [← e 1 (by omega)]; exact hc.2.2.1
  · rw [hc.2.2.2.1]
    refine mask_congr (fun i _ => ?_)
    unfold snd
    rw [eL]
    constructor
    · rintro ⟨a, q⟩; exact ⟨a, by rw [← e (58 + i) (by omega)]; exact q⟩
    · rintro ⟨a, q⟩; exact ⟨a, by rw [e (58 + i) (by omega)]; exact q⟩
  · intro p hp
    rw [eP] at hp
    rw [← e (8 + p) (by omega)]
    exact hc.2.2.2.2.1 p hp
  · intro l hl
    rw [eL] at hl
    rw [← e (14 + l) (by omega), ← e (25 + l) (by omega), ← e (36 + l) (by omega), ← e (47 + l) (by omega)]
    exact hc.2.2.2.2.2 l hl
theorem CN_fF {S : Nat → Nat → Prop} {h h' : Hp} {b : Nat} {r : Nat → Int32} (hf : frmF S h h') (hS : ∀ a j, b ≤ a → a ≤ b + 5 → ¬ S a j) (hc : CN h b r) : CN h' b r := by
  have f : ∀ a j, b ≤ a → a ≤ b + 5 → h'.1 a j = h.1 a j := fun a j h1 h2 => (hf.1 a j (hS a j h1 h2)).1
  refine ⟨?_, ?_, ?_, ?_, ?_, ?_⟩
  · rw [f _ _ (by omega) (by omega)]; exact hc.1
  · rw [f _ _ (by omega) (by omega)]; exact hc.2.1
  · rw [f _ _ (by omega) (by omega)]; exact hc.2.2.1
  · rw [f _ _ (by omega) (by omega)]; exact hc.2.2.2.1
  · intro p hp
    rw [f _ _ (by omega) (by omega)]; exact hc.2.2.2.2.1 p hp
  · intro l hl
    rw [f _ _ (by omega) (by omega), f _ _ (by omega) (by omega), f _ _ (by omega) (by omega), f _ _ (by omega) (by omega)]
    exact hc.2.2.2.2.2 l hl
def NO (a : Nat) : Prop := shp a = some (0, 3) ∧ shp (a + 1) = some (1, 6) ∧ shp (a + 2) = some (1, 11) ∧ shp (a + 3) = some (1, 11) ∧ shp (a + 4) = some (1, 11) ∧ shp (a + 5) = some (1, 11) ∧ RV a 2 = a + 1 ∧ RV a 5 = a + 2 ∧ RV a 6 = a + 3 ∧ RV a 7 = a + 4 ∧ RV a 8 = a + 5
theorem NO_nid {k : Nat} (hk : k < 12) : NO (nid k) := nid_ok k hk
section
variable {d : Nat} {h : Hp} {Q : Option (Option Value) → Hp → Prop} {x y z t : Int32} {k l p q a b : Nat} {r : Nat → Int32}
theorem c_cp_p (ha : NO a) (hb : NO b) (hab : a + 5 < b ∨ b + 5 < a) {f : Nat → Int32} {P : Nat} (hP : P ≤ 6) (hf0 : f 0 = nI P) : ∀ (m p : Nat) (hc : Hp), p + m = P → frm (fun x => a ≤ x ∧ x ≤ a + 5) h hc → hc.1 a = f → (∀ j, j < p → hc.1 (a + 1) j = h.1 (b + 1) j) →
    (∀ h' : Hp, frm (fun x => a ≤ x ∧ x ≤ a + 5) h h' → h'.1 a = f → (∀ j, j < P → h'.1 (a + 1) j = h.1 (b + 1) j) → WP d 25 62 [some (.ref a), some (.ref b), some (.int 0)] [] h' Q) →
    WP d 25 34 [some (.ref a), some (.ref b), some (.int (nI p))] [] hc Q := by
  obtain ⟨s0, s1, s2, s3, s4, s5, v1, v2, v3, v4, v5⟩ := ha
  obtain ⟨t0, t1, t2, t3, t4, t5, w1, w2, w3, w4, w5⟩ := hb
  intro m
  induction m with
  | zero =>
    intro p hc hp hf ea ej kk
    have : p = P := by omega
    subst this
    have hcd : nI p ≤ nI p := nI_le (Nat.le_refl _) (by omega)
    rw [S25_34]
    simp only [S25_0, S25_1, S25_2, S25_5, S25_8, S25_9, S25_10, S25_13, S25_16, S25_17, S25_18, S25_21, S25_24, S25_25, S25_26, S25_29, S25_32, S25_33, S25_35, S25_36, S25_39, S25_42, S25_43, S25_46, S25_47, S25_48, S25_51, S25_52, S25_53, S25_54, S25_57, S25_60, S25_61, S25_63, S25_64, S25_67, S25_70, S25_71, S25_74, S25_75, S25_76, S25_79, S25_80, S25_81, S25_82, S25_83, S25_86, S25_87, S25_88, S25_91, S25_92, S25_93, S25_94, S25_95, S25_98, S25_99, S25_100, S25_103, S25_104, S25_105, S25_106, S25_107, S25_110, S25_111, S25_112, S25_115, S25_116, S25_117, S25_118, S25_121, S25_124, s0, ea, hf0, if_pos hcd, kl_ref]
    exact kk hc hf ea ej
  | succ m ih =>
    intro p hc hp hf ea ej kk
    have hcd : ¬ nI P ≤ nI p := nI_ge (by omega) (by omega)
    rw [S25_34]
    simp only [S25_0, S25_1, S25_2, S25_5, S25_8, S25_9, S25_10, S25_13, S25_16, S25_17, S25_18, S25_21, S25_24, S25_25, S25_26, S25_29, S25_32, S25_33, S25_35, S25_36, S25_39, S25_42, S25_43, S25_46, S25_47, S25_48, S25_51, S25_52, S25_53, S25_54, S25_57, S25_60, S25_61, S25_63, S25_64, S25_67, S25_70, S25_71, S25_74, S25_75, S25_76, S25_79, S25_80, S25_81, S25_82, S25_83, S25_86, S25_87, S25_88, S25_91, S25_92, S25_93, S25_94, S25_95, S25_98, S25_99, S25_100, S25_103, S25_104, S25_105, S25_106, S25_107, S25_110, S25_111, S25_112, S25_115, S25_116, S25_117, S25_118, S25_121, S25_124, s0, s1, t0, t1, v1, w1, ea, hf0, if_neg hcd, okA_nI s1 (show p < 6 by omega) (by decide), okA_nI t1 (show p < 6 by omega) (by decide), nI_cl (show p < 2147483648 by omega), kl_ref, nI_add1]
    refine ih (p + 1) _ (by omega) (frm_tr hf (frm_I ⟨by omega, by omega⟩)) (by rw [setI_1 (by omega)]; exact ea) (fun j hj => ?_) kk
    rw [setI_rd]
    by_cases e : j = p
    · subst e
      rw [if_pos ⟨rfl, rfl⟩, (hf.1 (b + 1) (by omega)).1]
    · rw [if_neg (fun z => e z.2)]
      exact ej j (by omega)
theorem c_cp_l (ha : NO a) (hb : NO b) (hab : a + 5 < b ∨ b + 5 < a) {f g : Nat → Int32} {P : Nat} (hP : P ≤ 11) (hf0 : f 3 = nI P) : ∀ (m p : Nat) (hc : Hp), p + m = P → frm (fun x => a ≤ x ∧ x ≤ a + 5) h hc → hc.1 a = f → hc.1 (a + 1) = g → (∀ j, j < p → hc.1 (a + 2) j = h.1 (b + 2) j ∧ hc.1 (a + 3) j = h.1 (b + 3) j ∧ hc.1 (a + 4) j = h.1 (b + 4) j ∧ hc.1 (a + 5) j = h.1 (b + 5) j) →
    (∀ h' : Hp, frm (fun x => a ≤ x ∧ x ≤ a + 5) h h' → h'.1 a = f → h'.1 (a + 1) = g → (∀ j, j < P → h'.1 (a + 2) j = h.1 (b + 2) j ∧ h'.1 (a + 3) j = h.1 (b + 3) j ∧ h'.1 (a + 4) j = h.1 (b + 4) j ∧ h'.1 (a + 5) j = h.1 (b + 5) j) → Q (some none) h') →
    WP d 25 62 [some (.ref a), some (.ref b), some (.int (nI p))] [] hc Q := by
  obtain ⟨s0, s1, s2, s3, s4, s5, v1, v2, v3, v4, v5⟩ := ha
  obtain ⟨t0, t1, t2, t3, t4, t5, w1, w2, w3, w4, w5⟩ := hb
  intro m
  induction m with
  | zero =>
    intro p hc hp hf ea eg ej kk
    have : p = P := by omega
    subst this
    have hcd : nI p ≤ nI p := nI_le (Nat.le_refl _) (by omega)
    rw [S25_62]
    simp only [S25_0, S25_1, S25_2, S25_5, S25_8, S25_9, S25_10, S25_13, S25_16, S25_17, S25_18, S25_21, S25_24, S25_25, S25_26, S25_29, S25_32, S25_33, S25_35, S25_36, S25_39, S25_42, S25_43, S25_46, S25_47, S25_48, S25_51, S25_52, S25_53, S25_54, S25_57, S25_60, S25_61, S25_63, S25_64, S25_67, S25_70, S25_71, S25_74, S25_75, S25_76, S25_79, S25_80, S25_81, S25_82, S25_83, S25_86, S25_87, S25_88, S25_91, S25_92, S25_93, S25_94, S25_95, S25_98, S25_99, S25_100, S25_103, S25_104, S25_105, S25_106, S25_107, S25_110, S25_111, S25_112, S25_115, S25_116, S25_117, S25_118, S25_121, S25_124, s0, ea, hf0, if_pos hcd, kl_ref]
    exact kk hc hf ea eg ej
  | succ m ih =>
    intro p hc hp hf ea eg ej kk
    have hcd : ¬ nI P ≤ nI p := nI_ge (by omega) (by omega)
    have e2 : hc.1 (b + 2) = h.1 (b + 2) := (hf.1 (b + 2) (by omega)).1
    have e3 : hc.1 (b + 3) = h.1 (b + 3) := (hf.1 (b + 3) (by omega)).1
    have e4 : hc.1 (b + 4) = h.1 (b + 4) := (hf.1 (b + 4) (by omega)).1
    have e5 : hc.1 (b + 5) = h.1 (b + 5) := (hf.1 (b + 5) (by omega)).1
    rw [S25_62]
    simp only [S25_0, S25_1, S25_2, S25_5, S25_8, S25_9, S25_10, S25_13, S25_16, S25_17, S25_18, S25_21, S25_24, S25_25, S25_26, S25_29, S25_32, S25_33, S25_35, S25_36, S25_39, S25_42, S25_43, S25_46, S25_47, S25_48, S25_51, S25_52, S25_53, S25_54, S25_57, S25_60, S25_61, S25_63, S25_64, S25_67, S25_70, S25_71, S25_74, S25_75, S25_76, S25_79, S25_80, S25_81, S25_82, S25_83, S25_86, S25_87, S25_88, S25_91, S25_92, S25_93, S25_94, S25_95, S25_98, S25_99, S25_100, S25_103, S25_104, S25_105, S25_106, S25_107, S25_110, S25_111, S25_112, S25_115, S25_116, S25_117, S25_118, S25_121, S25_124, s0, s1, s2, s3, s4, s5, t0, t1, t2, t3, t4, t5, v2, v3, v4, v5, w2, w3, w4, w5, ea, hf0, if_neg hcd, okA_nI s2 (show p < 11 by omega) (by decide), okA_nI t2 (show p < 11 by omega) (by decide), okA_nI s3 (show p < 11 by omega) (by decide), okA_nI t3 (show p < 11 by omega) (by decide), okA_nI s4 (show p < 11 by omega) (by decide), okA_nI t4 (show p < 11 by omega) (by decide), okA_nI s5 (show p < 11 by omega) (by decide), okA_nI t5 (show p < 11 by omega) (by decide), nI_cl (show p < 2147483648 by omega), kl_ref, nI_add1]
    refine ih (p + 1) _ (by omega) (frm_tr hf (frm_tr (frm_I ⟨by omega, by omega⟩) (frm_tr (frm_I ⟨by omega, by omega⟩) (frm_tr (frm_I ⟨by omega, by omega⟩) (frm_I ⟨by omega, by omega⟩))))) ?_ ?_ (fun j hj => ?_) kk
    · rw [setI_1 (by omega), setI_1 (by omega), setI_1 (by omega), setI_1 (by omega)]; exact ea
    · rw [setI_1 (by omega), setI_1 (by omega), setI_1 (by omega), setI_1 (by omega)]; exact eg
    · have n1 : b + 3 ≠ a + 2 := by omega
      have n2 : b + 4 ≠ a + 2 := by omega
      have n3 : b + 4 ≠ a + 3 := by omega
      have n4 : b + 5 ≠ a + 2 := by omega
      have n5 : b + 5 ≠ a + 3 := by omega
      have n6 : b + 5 ≠ a + 4 := by omega
      rw [setI_1 (show b + 3 ≠ a + 2 from n1), setI_1 (show b + 4 ≠ a + 3 from n3), setI_1 (show b + 4 ≠ a + 2 from n2), setI_1 (show b + 5 ≠ a + 4 from n6), setI_1 (show b + 5 ≠ a + 3 from n5), setI_1 (show b + 5 ≠ a + 2 from n4), e2, e3, e4, e5]
      have m1 : a + 2 ≠ a + 5 := by omega
      have m2 : a + 2 ≠ a + 4 := by omega
      have m3 : a + 2 ≠ a + 3 := by omega
      have m4 : a + 3 ≠ a + 5 := by omega
      have m5 : a + 3 ≠ a + 4 := by omega
      have m6 : a + 4 ≠ a + 5 := by omega
      have m7 : a + 3 ≠ a + 2 := by omega
      have m8 : a + 4 ≠ a + 2 := by omega
      have m9 : a + 4 ≠ a + 3 := by omega
      have m10 : a + 5 ≠ a + 2 := by omega
      have m11 : a + 5 ≠ a + 3 := by omega
      have m12 : a + 5 ≠ a + 4 := by omega
      simp only [setI_rd, m1, m2, m3, m4, m5, m6, m7, m8, m9, m10, m11, m12, false_and, true_and, if_false]
      by_cases e : j = p
      · subst e
        simp only [if_true]
        exact ⟨trivial, trivial, trivial, trivial⟩
      · simp only [e, if_false]
        exact ej j (by omega)
theorem c_copyFrom (ha : NO a) (hb : NO b) (hab : a + 5 < b ∨ b + 5 < a) (hV : VR r) (hN : CN h b r) (kk : ∀ h' : Hp, frm (fun x => a ≤ x ∧ x ≤ a + 5) h h' → CN h' a r → Q (some none) h') : WP d 25 0 [some (.ref a), some (.ref b), none] [] h Q := by
  have s0 := ha.1
  have t0 := hb.1
  have hba : b ≠ a := by omega
  simp only [S25_0, S25_1, S25_2, S25_5, S25_8, S25_9, S25_10, S25_13, S25_16, S25_17, S25_18, S25_21, S25_24, S25_25, S25_26, S25_29, S25_32, S25_33, S25_35, S25_36, S25_39, S25_42, S25_43, S25_46, S25_47, S25_48, S25_51, S25_52, S25_53, S25_54, S25_57, S25_60, S25_61, S25_63, S25_64, S25_67, S25_70, S25_71, S25_74, S25_75, S25_76, S25_79, S25_80, S25_81, S25_82, S25_83, S25_86, S25_87, S25_88, S25_91, S25_92, S25_93, S25_94, S25_95, S25_98, S25_99, S25_100, S25_103, S25_104, S25_105, S25_106, S25_107, S25_110, S25_111, S25_112, S25_115, S25_116, S25_117, S25_118, S25_121, S25_124, s0, t0, setI_1 hba, hN.1, hN.2.1, hN.2.2.1, hN.2.2.2.1, kl_ref, kl_none]
  rw [nI_l0]
  have F0 : frm (fun x => a ≤ x ∧ x ≤ a + 5) h (setI (setI (setI (setI h a 0 (r 0)) a 1 (maskOf (fxd r))) a 3 (r 1)) a 4 (maskOf (snd r))) := frm_tr (frm_I ⟨by omega, by omega⟩) (frm_tr (frm_I ⟨by omega, by omega⟩) (frm_tr (frm_I ⟨by omega, by omega⟩) (frm_I ⟨by omega, by omega⟩)))
  have g0 : (setI (setI (setI (setI h a 0 (r 0)) a 1 (maskOf (fxd r))) a 3 (r 1)) a 4 (maskOf (snd r))).1 a 0 = r 0 := by simp [setI_rd]
  have g1 : (setI (setI (setI (setI h a 0 (r 0)) a 1 (maskOf (fxd r))) a 3 (r 1)) a 4 (maskOf (snd r))).1 a 1 = maskOf (fxd r) := by simp [setI_rd]
  have g3 : (setI (setI (setI (setI h a 0 (r 0)) a 1 (maskOf (fxd r))) a 3 (r 1)) a 4 (maskOf (snd r))).1 a 3 = r 1 := by simp [setI_rd]
  have g4 : (setI (setI (setI (setI h a 0 (r 0)) a 1 (maskOf (fxd r))) a 3 (r 1)) a 4 (maskOf (snd r))).1 a 4 = maskOf (snd r) := by simp [setI_rd]
  generalize (setI (setI (setI (setI h a 0 (r 0)) a 1 (maskOf (fxd r))) a 3 (r 1)) a 4 (maskOf (snd r))) = h0 at *
  refine c_cp_p (h := h) ha hb hab (f := h0.1 a) (P := rP r) hV.1.2 (g0.trans hV.1.1) (rP r) 0 h0 (by omega) F0 rfl (fun j hj => by omega) (fun h1 f1 e1 e2 => ?_)
  rw [nI_l0]
  refine c_cp_l (h := h) ha hb hab (f := h0.1 a) (g := h1.1 (a + 1)) (P := rL r) hV.2.1.2 (g3.trans hV.2.1.1) (rL r) 0 h1 (by omega) f1 e1 rfl (fun j hj => by omega) (fun h2 f2 e3 e4 e5 => ?_)
  refine kk h2 f2 ⟨by rw [e3]; exact g0, by rw [e3]; exact g1, by rw [e3]; exact g3, by rw [e3]; exact g4, fun p hp => ?_, fun l hl => ?_⟩
  · rw [e4, e2 p hp]; exact hN.2.2.2.2.1 p hp
  · obtain ⟨q1, q2, q3, q4⟩ := e5 l hl
    rw [q1, q2, q3, q4]
    exact hN.2.2.2.2.2 l hl
end
