/-! The class's ways along the tree; what it settles of ties. -/
/-- places and a mask that hold a state of the ways -/
def wyR (r : Nat → Int32) (s : WS) (K : Int32) (h : Hp) : Prop := (∀ i, i < 32 → (bt K i = true ↔ s.1.1 i)) ∧ (∀ j, j < rP r → h.1 11 j = s.1.2 j) ∧ ∀ j, j < rP r → h.1 10 j = s.2 j
theorem wyS_no {r : Nat → Int32} {l : Nat} {s : WS} (hc : ¬ (tre r l ∧ ¬ (s.1.1 (rA r l) ↔ s.1.1 (rB r l)))) : wyS r l s = s := by
  have e1 : (wyS r l s).1 = s.1 := alS_no hc
  have e2 : (wyS r l s).2 = s.2 := @if_neg _ (Classical.propDecidable _) hc _ _ _
  exact Prod.ext e1 e2
theorem wyS_a {r : Nat → Int32} {l : Nat} {s : WS} (ht : tre r l) (h1 : s.1.1 (rA r l)) (h2 : ¬ s.1.1 (rB r l)) : wyS r l s = ((fun i => s.1.1 i ∨ i = rA r l ∨ i = rB r l, upd s.1.2 (rB r l) (s.1.2 (rA r l) + r (36 + l))), upd s.2 (rB r l) (s.2 (rA r l) ||| ((1 : Int32) <<< (nI l &&& 31)))) := by
  unfold wyS
  rw [alS_a ht h1 h2, @if_pos _ (Classical.propDecidable _) (show tre r l ∧ ¬ (s.1.1 (rA r l) ↔ s.1.1 (rB r l)) from ⟨ht, fun q => h2 (q.mp h1)⟩), @if_pos _ (Classical.propDecidable _) h1]
theorem wyS_b {r : Nat → Int32} {l : Nat} {s : WS} (ht : tre r l) (h1 : ¬ s.1.1 (rA r l)) (h2 : s.1.1 (rB r l)) : wyS r l s = ((fun i => s.1.1 i ∨ i = rA r l ∨ i = rB r l, upd s.1.2 (rA r l) (s.1.2 (rB r l) - r (36 + l))), upd s.2 (rA r l) (s.2 (rB r l) ||| ((1 : Int32) <<< (nI l &&& 31)))) := by
  unfold wyS
  rw [alS_b ht h1 h2, @if_pos _ (Classical.propDecidable _) (show tre r l ∧ ¬ (s.1.1 (rA r l) ↔ s.1.1 (rB r l)) from ⟨ht, fun q => h1 (q.mpr h2)⟩), @if_neg _ (Classical.propDecidable _) h1]
theorem b2i_eq {a b : Bool} : b2i a = b2i b ↔ a = b := by cases a <;> cases b <;> decide
theorem sub_neg32 (x y : Int32) : x + -y = x - y := (Int32.sub_eq_add_neg x y).symm
section
variable {d : Nat} {h : Hp} {Q : Option (Option Value) → Hp → Prop} {x y z : Int32} {k l p q : Nat} {r : Nat → Int32}
theorem c_walkLine (hV : VR r) (hN : CN h 21 r) {s : WS} {K : Int32} (hw : wyR r s K h) (hl : l < rL r) (ht : tre r l)
    (kk : ∀ (h' : Hp) (K' : Int32), frm (fun a => a = 10 ∨ a = 11) h h' → wyR r (wyS r l s) K' h' → Q (some (some (.int K'))) h') :
    WP (d + 1) 53 0 [some (.ref 8), some (.ref 21), some (.int (nI l)), some (.int K), none, none, none, none, none] [] h Q := by
  have hP := hV.1
  have hL := hV.2.1
  have hVl := hV.2.2.2 l hl
  have hNl := hN.2.2.2.2.2 l hl
  have o1 := ok23 (n := l) (by omega)
  have o2 := ok24 (n := l) (by omega)
  have o3 := ok25 (n := l) (by omega)
  have c0 := nI_cl (n := l) (by omega)
  have c1 := nI_cl (n := rA r l) (by omega)
  have c2 := nI_cl (n := rB r l) (by omega)
  have oa := ok10 (n := rA r l) (by omega)
  have ob := ok10 (n := rB r l) (by omega)
  have pa := ok11 (n := rA r l) (by omega)
  have pb' := ok11 (n := rB r l) (by omega)
  have s11 : ∀ (h : Hp) (j : Nat) (x : Int32), (setI h 10 j x).1 11 = h.1 11 := fun h j x => setI_1 (by decide)
  have s21 : ∀ (h : Hp) (j : Nat) (x : Int32), (setI h 10 j x).1 25 = h.1 25 := fun h j x => setI_1 (by decide)
  simp only [S53_0, S53_1, S53_4, S53_5, S53_6, S53_8, S53_9, S53_12, S53_13, S53_14, S53_16, S53_17, S53_19, S53_22, S53_23, S53_25, S53_28, S53_31, S53_32, S53_33, S53_34, S53_36, S53_39, S53_40, S53_43, S53_44, S53_47, S53_48, S53_50, S53_52, S53_55, S53_57, S53_60, S53_62, S53_64, S53_66, S53_69, S53_71, S53_74, S53_76, S53_78, S53_79, S53_82, S53_84, S53_85, S53_88, S53_90, S53_91, S53_92, S53_93, S53_94, S53_95, S53_96, S53_97, S53_100, S53_102, S53_103, S53_106, S53_108, S53_109, S53_111, S53_114, S53_115, S53_118, S53_119, S53_120, S53_123, S53_124, S53_127, S53_128, S53_129, S53_130, S53_131, S53_132, S53_133, S53_134, S53_136, S53_137, S53_138, shp_8, RV_8_0, RV_8_5, RV_8_6, shp_21, RV_21_2, RV_21_5, RV_21_6, RV_21_7, RV_21_8, o1, o2, o3, c0, hNl.1, hNl.2.1, hNl.2.2.1, hVl.1.1, hVl.2.1.1, c_bit, bitv_bt (show rA r l < 32 by omega), bitv_bt (show rB r l < 32 by omega), kR_at, kl_int, kl_ref, kl_none, b2i_eq, b2i_1]
  cases qa : bt K (rA r l) with
  | true =>
    have ha : s.1.1 (rA r l) := (hw.1 _ (by omega)).mp qa
    cases qb : bt K (rB r l) with
    | true =>
      have hb : s.1.1 (rB r l) := (hw.1 _ (by omega)).mp qb
      rw [if_pos rfl]
      exact kk h K frm_rf (by rw [wyS_no (fun z => z.2 ⟨fun _ => hb, fun _ => ha⟩)]; exact hw)
    | false =>
      have hb : ¬ s.1.1 (rB r l) := fun z => by rw [(hw.1 _ (by omega)).mpr z] at qb; cases qb
      simp only [S53_0, S53_1, S53_4, S53_5, S53_6, S53_8, S53_9, S53_12, S53_13, S53_14, S53_16, S53_17, S53_19, S53_22, S53_23, S53_25, S53_28, S53_31, S53_32, S53_33, S53_34, S53_36, S53_39, S53_40, S53_43, S53_44, S53_47, S53_48, S53_50, S53_52, S53_55, S53_57, S53_60, S53_62, S53_64, S53_66, S53_69, S53_71, S53_74, S53_76, S53_78, S53_79, S53_82, S53_84, S53_85, S53_88, S53_90, S53_91, S53_92, S53_93, S53_94, S53_95, S53_96, S53_97, S53_100, S53_102, S53_103, S53_106, S53_108, S53_109, S53_111, S53_114, S53_115, S53_118, S53_119, S53_120, S53_123, S53_124, S53_127, S53_128, S53_129, S53_130, S53_131, S53_132, S53_133, S53_134, S53_136, S53_137, S53_138, shp_8, RV_8_0, RV_8_5, RV_8_6, shp_21, RV_21_2, RV_21_5, RV_21_6, RV_21_7, RV_21_8, Bool.true_eq_false, Bool.false_eq_true, if_true, if_false, i10, oa, ob, pa, pb', c1, c2, o3, c0, hNl.2.2.1, kl_int, s11, s21]
      refine kk _ _ (frm_tr (frm_I (Or.inl rfl)) (frm_I (Or.inr rfl))) ?_
      rw [wyS_a ht ha hb]
      refine ⟨fun i hi => ?_, fun j hj => ?_, fun j hj => ?_⟩
      · rw [b_or, b_one (by omega) hi, Bool.or_eq_true, hw.1 i hi, decide_eq_true_eq]
        constructor
        · rintro (z | z)
          · exact Or.inl z
          · exact Or.inr (Or.inr z)
        · rintro (z | z | z)
          · exact Or.inl z
          · exact Or.inl (z ▸ ha)
          · exact Or.inr z
      · rw [setI_rd]
        unfold upd
        dsimp only
        by_cases e : j = rB r l
        · rw [if_pos ⟨rfl, e⟩, if_pos e, hw.2.1 _ hVl.1.2]
        · rw [if_neg (fun z => e z.2), if_neg e, s11, hw.2.1 _ hj]
      · rw [setI_1 (by decide), setI_rd]
        unfold upd
        dsimp only
        by_cases e : j = rB r l
        · rw [if_pos ⟨rfl, e⟩, if_pos e, hw.2.2 _ hVl.1.2]
        · rw [if_neg (fun z => e z.2), if_neg e, hw.2.2 _ hj]
  | false =>
    have ha : ¬ s.1.1 (rA r l) := fun z => by rw [(hw.1 _ (by omega)).mpr z] at qa; cases qa
    cases qb : bt K (rB r l) with
    | true =>
      have hb : s.1.1 (rB r l) := (hw.1 _ (by omega)).mp qb
      simp only [S53_0, S53_1, S53_4, S53_5, S53_6, S53_8, S53_9, S53_12, S53_13, S53_14, S53_16, S53_17, S53_19, S53_22, S53_23, S53_25, S53_28, S53_31, S53_32, S53_33, S53_34, S53_36, S53_39, S53_40, S53_43, S53_44, S53_47, S53_48, S53_50, S53_52, S53_55, S53_57, S53_60, S53_62, S53_64, S53_66, S53_69, S53_71, S53_74, S53_76, S53_78, S53_79, S53_82, S53_84, S53_85, S53_88, S53_90, S53_91, S53_92, S53_93, S53_94, S53_95, S53_96, S53_97, S53_100, S53_102, S53_103, S53_106, S53_108, S53_109, S53_111, S53_114, S53_115, S53_118, S53_119, S53_120, S53_123, S53_124, S53_127, S53_128, S53_129, S53_130, S53_131, S53_132, S53_133, S53_134, S53_136, S53_137, S53_138, shp_8, RV_8_0, RV_8_5, RV_8_6, shp_21, RV_21_2, RV_21_5, RV_21_6, RV_21_7, RV_21_8, Bool.true_eq_false, Bool.false_eq_true, if_true, if_false, i10, oa, ob, pa, pb', c1, c2, o3, c0, hNl.2.2.1, kl_int, s11, s21]
      refine kk _ _ (frm_tr (frm_I (Or.inl rfl)) (frm_I (Or.inr rfl))) ?_
      rw [wyS_b ht ha hb]
      refine ⟨fun i hi => ?_, fun j hj => ?_, fun j hj => ?_⟩
      · rw [b_or, b_one (by omega) hi, Bool.or_eq_true, hw.1 i hi, decide_eq_true_eq]
        constructor
        · rintro (z | z)
          · exact Or.inl z
          · exact Or.inr (Or.inl z)
        · rintro (z | z | z)
          · exact Or.inl z
          · exact Or.inr z
          · exact Or.inl (z ▸ hb)
      · rw [setI_rd]
        unfold upd
        dsimp only
        by_cases e : j = rA r l
        · rw [if_pos ⟨rfl, e⟩, if_pos e, hw.2.1 _ hVl.2.1.2, sub_neg32]
        · rw [if_neg (fun z => e z.2), if_neg e, s11, hw.2.1 _ hj]
      · rw [setI_1 (by decide), setI_rd]
        unfold upd
        dsimp only
        by_cases e : j = rA r l
        · rw [if_pos ⟨rfl, e⟩, if_pos e, hw.2.2 _ hVl.2.1.2]
        · rw [if_neg (fun z => e z.2), if_neg e, hw.2.2 _ hj]
    | false =>
      have hb : ¬ s.1.1 (rB r l) := fun z => by rw [(hw.1 _ (by omega)).mpr z] at qb; cases qb
      rw [if_pos rfl]
      exact kk h K frm_rf (by rw [wyS_no (fun z => z.2 ⟨fun q => absurd q ha, fun q => absurd q hb⟩)]; exact hw)
/-- roots by labels -/
theorem rt_lab (hV : VR r) (hp : p < rP r) {f : Option Nat} {fp : Int32} (h1 : ∀ j, f = some j → fxd r j ∧ fp = nI (ptOf r j)) (h2 : f = none → fp = -1 ∧ ∀ i, ¬ fxd r i) : (ptOf r p = p ∧ ¬ nI p = fp) ↔ isRt r p := by
  have hP := hV.1
  unfold isRt
  rw [ptOf_eq]
  constructor
  · rintro ⟨a, b⟩
    refine ⟨a, fun q hq ht hf => ?_⟩
    cases f with
    | none => exact (h2 rfl).2 q hf
    | some j =>
      obtain ⟨j1, j2⟩ := h1 j rfl
      apply b
      rw [j2, ← ptOf_eq.mpr a, ptOf_td.mpr (Td_tr ht (Td_fx hf j1))]
  · rintro ⟨a, b⟩
    refine ⟨a, fun z => ?_⟩
    cases f with
    | none =>
      have h0 := congrArg Int32.toInt (z.trans (h2 rfl).1)
      rw [nI_int (by omega)] at h0
      have : (-1 : Int32).toInt = -1 := by decide
      omega
    | some j =>
      obtain ⟨j1, j2⟩ := h1 j rfl
      obtain ⟨p1, p2, p3⟩ := ptOf_ok r j
      have hj := j1.1
      have e : p = ptOf r j := (nI_eq (by omega) (by omega)).mp (z.trans j2)
      exact b j j1.1 (by rw [e]; exact Td_sy p1) j1
/-- what the ties' first fields are -/
def tiA (r : Nat → Int32) (h : Hp) : Prop := h.1 8 1 = maskOf (tre r) ∧ (∀ j, j < 6 → h.1 9 j = nI (ptOf r j)) ∧ ∀ p, p < rP r → ((ptOf r p = p ∧ ¬ nI p = h.1 8 4) ↔ isRt r p)
theorem tiA_frm {S : Nat → Prop} {h h' : Hp} (hf : frm S h h') (h8 : ¬ S 8) (h9 : ¬ S 9) (ht : tiA r h) : tiA r h' := by
  unfold tiA
  rw [(hf.1 8 h8).1, (hf.1 9 h9).1]
  exact ht
theorem c_tisRootA (hV : VR r) (ht : tiA r h) (hp : p < rP r) : WP d 45 0 [some (.ref 8), some (.int (nI p))] [] h Q ↔ Q (some (some (.int (pb (isRt r p))))) h := by
  have hP := hV.1
  have hpt := (ptOf_ok r p).2.1
  rw [c_tisRoot (show p < 6 by omega), ht.2.1 p (by omega), pb_congr (ht.2.2 p hp).symm]
  by_cases h1 : ptOf r p = p
  · by_cases h2 : nI p = h.1 8 4
    · rw [if_pos (by rw [h1]), if_pos h2, pb_f (fun z => z.2 h2)]
    · rw [if_pos (by rw [h1]), if_neg h2, pb_t ⟨h1, h2⟩]
  · rw [if_neg (fun z => h1 ((nI_eq (by omega) (by omega)).mp z)), pb_f (fun z => h1 z.1)]
theorem c_walk1 (hV : VR r) {o4 : Option Value} : ∀ (n p : Nat) (hc : Hp) (K : Int32), p + n = rP r → CN hc 21 r → tiA r hc → frm (fun a => a = 10 ∨ a = 11) h hc → (∀ i, i < 32 → (bt K i = true ↔ i < p ∧ bas r i)) → (∀ j, j < rP r → hc.1 11 j = if j < p then (al0 r).2 j else 0) → (∀ j, j < rP r → hc.1 10 j = 0) →
    (∀ (hc' : Hp) (K' : Int32), CN hc' 21 r → tiA r hc' → frm (fun a => a = 10 ∨ a = 11) h hc' → wyR r (wy0 r) K' hc' → WP (d + 2) 52 60 [some (.ref 8), some (.ref 21), some (.int K'), some (.int (nI (rP r))), o4] [] hc' Q) →
    WP (d + 2) 52 4 [some (.ref 8), some (.ref 21), some (.int K), some (.int (nI p)), o4] [] hc Q := by
  have hP := hV.1
  have hS : ∀ a, 21 ≤ a → a ≤ 21 + 5 → ¬ (fun a => a = 10 ∨ a = 11) a := fun a h1 h2 h3 => by rcases h3 with h | h <;> omega
  intro n
  induction n with
  | zero =>
    intro p hc K hp hN hT hf hK h11 h10 kk
    have hcd : nI (rP r) ≤ nI p := nI_le (by omega) (by omega)
    have : p = rP r := by omega
    subst this
    rw [S52_4]
    simp only [S52_0, S52_1, S52_2, S52_3, S52_5, S52_6, S52_9, S52_12, S52_13, S52_14, S52_17, S52_20, S52_21, S52_24, S52_25, S52_26, S52_29, S52_30, S52_31, S52_32, S52_33, S52_34, S52_37, S52_40, S52_41, S52_42, S52_45, S52_48, S52_49, S52_50, S52_51, S52_52, S52_53, S52_54, S52_57, S52_60, S52_61, S52_63, S52_64, S52_67, S52_70, S52_71, S52_75, S52_76, S52_79, S52_82, S52_83, S52_86, S52_88, S52_91, S52_92, S52_95, S52_96, S52_97, S52_99, S52_100, S52_103, S52_104, S52_107, S52_110, S52_113, S52_116, shp_8, RV_8_0, RV_8_5, RV_8_6, shp_21, RV_21_2, RV_21_5, RV_21_6, RV_21_7, RV_21_8, hN.1, hP.1, if_pos hcd]
    have := kk hc K hN hT hf ⟨fun i hi => (hK i hi).trans ⟨fun z => z.2, fun z => ⟨z.elim (fun z => z.1) (fun z => z.1), z⟩⟩, fun j hj => by rw [h11 j hj, if_pos hj]; rfl, h10⟩
    simp only [S52_0, S52_1, S52_2, S52_3, S52_5, S52_6, S52_9, S52_12, S52_13, S52_14, S52_17, S52_20, S52_21, S52_24, S52_25, S52_26, S52_29, S52_30, S52_31, S52_32, S52_33, S52_34, S52_37, S52_40, S52_41, S52_42, S52_45, S52_48, S52_49, S52_50, S52_51, S52_52, S52_53, S52_54, S52_57, S52_60, S52_61, S52_63, S52_64, S52_67, S52_70, S52_71, S52_75, S52_76, S52_79, S52_82, S52_83, S52_86, S52_88, S52_91, S52_92, S52_95, S52_96, S52_97, S52_99, S52_100, S52_103, S52_104, S52_107, S52_110, S52_113, S52_116, kl_int] at this
    exact this
  | succ n ih =>
    intro p hc K hp hN hT hf hK h11 h10 kk
    have hcd : ¬ nI (rP r) ≤ nI p := nI_ge (by omega) (by omega)
    have hpl : p < rP r := by omega
    have hp6 : p < 6 := by omega
    have o1 := ok11 hp6
    have o2 := ok22 hp6
    have c1 := nI_cl (n := p) (by omega)
    rw [S52_4]
    simp only [S52_0, S52_1, S52_2, S52_3, S52_5, S52_6, S52_9, S52_12, S52_13, S52_14, S52_17, S52_20, S52_21, S52_24, S52_25, S52_26, S52_29, S52_30, S52_31, S52_32, S52_33, S52_34, S52_37, S52_40, S52_41, S52_42, S52_45, S52_48, S52_49, S52_50, S52_51, S52_52, S52_53, S52_54, S52_57, S52_60, S52_61, S52_63, S52_64, S52_67, S52_70, S52_71, S52_75, S52_76, S52_79, S52_82, S52_83, S52_86, S52_88, S52_91, S52_92, S52_95, S52_96, S52_97, S52_99, S52_100, S52_103, S52_104, S52_107, S52_110, S52_113, S52_116, shp_8, RV_8_0, RV_8_5, RV_8_6, shp_21, RV_21_2, RV_21_5, RV_21_6, RV_21_7, RV_21_8, hN.1, hP.1, if_neg hcd, c_isFixed21 hN (show p < 32 by omega), kR_at, kl_int, kl_ref, nI_add1, o1, o2, c1, hN.2.2.2.2.1 p hpl]
    have hKb : ∀ i, i < 32 → bas r p → (bt (K ||| ((1 : Int32) <<< (nI p &&& 31))) i = true ↔ i < p + 1 ∧ bas r i) := by
      intro i hi hb
      rw [b_or, Bool.or_eq_true, hK i hi, b_one (by omega) hi, decide_eq_true_eq]
      constructor
      · rintro (⟨z1, z2⟩ | rfl)
        · exact ⟨by omega, z2⟩
        · exact ⟨by omega, hb⟩
      · rintro ⟨z1, z2⟩
        by_cases e : i = p
        · exact Or.inr e
        · exact Or.inl ⟨by omega, z2⟩
    by_cases hx : fxd r p
    · rw [if_neg (fun z => pb_0.mp z hx)]
      have hN' : CN (setI hc 11 p (r (8 + p))) 21 r := CN_frm (S := fun a => a = 10 ∨ a = 11) (frm_I (Or.inr rfl)) hS hN
      have hT' : tiA r (setI hc 11 p (r (8 + p))) := tiA_frm (S := fun a => a = 10 ∨ a = 11) (frm_I (Or.inr rfl)) (by decide) (by decide) hT
      simp only [S52_0, S52_1, S52_2, S52_3, S52_5, S52_6, S52_9, S52_12, S52_13, S52_14, S52_17, S52_20, S52_21, S52_24, S52_25, S52_26, S52_29, S52_30, S52_31, S52_32, S52_33, S52_34, S52_37, S52_40, S52_41, S52_42, S52_45, S52_48, S52_49, S52_50, S52_51, S52_52, S52_53, S52_54, S52_57, S52_60, S52_61, S52_63, S52_64, S52_67, S52_70, S52_71, S52_75, S52_76, S52_79, S52_82, S52_83, S52_86, S52_88, S52_91, S52_92, S52_95, S52_96, S52_97, S52_99, S52_100, S52_103, S52_104, S52_107, S52_110, S52_113, S52_116, shp_8, RV_8_0, RV_8_5, RV_8_6, shp_21, RV_21_2, RV_21_5, RV_21_6, RV_21_7, RV_21_8, c_isFixed21 hN' (show p < 32 by omega), kR_at, kl_int, kl_ref, nI_add1]
      rw [if_neg (fun z => pb_0.mp z hx)]
      refine ih (p + 1) _ _ (by omega) hN' hT' (frm_tr hf (frm_I (Or.inr rfl))) (fun i hi => hKb i hi (Or.inl hx)) (fun j hj => ?_) (fun j hj => ?_) kk
      · rw [setI_rd]
        by_cases e : j = p
        · subst e
          rw [if_pos ⟨rfl, rfl⟩, if_pos (by omega)]
          show _ = if r (2 + j) = 1 then r (8 + j) else 0
          rw [if_pos hx.2]
        · rw [if_neg (fun z => e z.2), h11 j hj]
          by_cases w : j < p
          · rw [if_pos w, if_pos (by omega)]
          · rw [if_neg w, if_neg (by omega)]
      · rw [setI_1 (by decide)]; exact h10 j hj
    · rw [if_pos (pb_0.mpr hx)]
      rw [if_pos (pb_0.mpr hx)]
      simp only [S52_0, S52_1, S52_2, S52_3, S52_5, S52_6, S52_9, S52_12, S52_13, S52_14, S52_17, S52_20, S52_21, S52_24, S52_25, S52_26, S52_29, S52_30, S52_31, S52_32, S52_33, S52_34, S52_37, S52_40, S52_41, S52_42, S52_45, S52_48, S52_49, S52_50, S52_51, S52_52, S52_53, S52_54, S52_57, S52_60, S52_61, S52_63, S52_64, S52_67, S52_70, S52_71, S52_75, S52_76, S52_79, S52_82, S52_83, S52_86, S52_88, S52_91, S52_92, S52_95, S52_96, S52_97, S52_99, S52_100, S52_103, S52_104, S52_107, S52_110, S52_113, S52_116, shp_8, RV_8_0, RV_8_5, RV_8_6, shp_21, RV_21_2, RV_21_5, RV_21_6, RV_21_7, RV_21_8, c_tisRootA hV hT hpl, kR_at, kl_int, kl_ref, nI_add1]
      have h11' : ∀ j, j < rP r → hc.1 11 j = if j < p + 1 then (al0 r).2 j else 0 := by
        intro j hj
        rw [h11 j hj]
        by_cases w : j < p
        · rw [if_pos w, if_pos (by omega)]
        · by_cases e : j = p
          · subst e
            rw [if_neg w, if_pos (by omega)]
            show _ = if r (2 + j) = 1 then r (8 + j) else 0
            rw [if_neg (fun z => hx ⟨hj, z⟩)]
          · rw [if_neg w, if_neg (by omega)]
      by_cases hrt : isRt r p
      · rw [if_neg (fun z => pb_0.mp z hrt)]
        exact ih (p + 1) _ _ (by omega) hN hT hf (fun i hi => hKb i hi (Or.inr ⟨hpl, hrt⟩)) h11' h10 kk
      · rw [if_pos (pb_0.mpr hrt)]
        refine ih (p + 1) _ _ (by omega) hN hT hf (fun i hi => ?_) h11' h10 kk
        rw [hK i hi]
        constructor
        · rintro ⟨z1, z2⟩
          exact ⟨by omega, z2⟩
        · rintro ⟨z1, z2⟩
          refine ⟨?_, z2⟩
          by_cases e : i = p
          · subst e
            rcases z2 with z | z
            · exact absurd z hx
            · exact absurd z.2 hrt
          · omega
theorem c_walk3 (hV : VR r) {s0 : WS} {i3 : Int32} : ∀ (n l : Nat) (hc : Hp) (K : Int32), l + n = rL r → CN hc 21 r → tiA r hc → frm (fun a => a = 10 ∨ a = 11) h hc → wyR r (wyLn r l s0) K hc →
    (∀ (hc' : Hp) (K' : Int32) (o4 : Option Value), CN hc' 21 r → tiA r hc' → frm (fun a => a = 10 ∨ a = 11) h hc' → wyR r (wyLn r (rL r) s0) K' hc' → WP (d + 2) 52 62 [some (.ref 8), some (.ref 21), some (.int K'), some (.int (i3 + 1)), o4] [] hc' Q) →
    WP (d + 2) 52 73 [some (.ref 8), some (.ref 21), some (.int K), some (.int i3), some (.int (nI l))] [] hc Q := by
  have hP := hV.1
  have hL := hV.2.1
  have hS : ∀ a, 21 ≤ a → a ≤ 21 + 5 → ¬ (fun a => a = 10 ∨ a = 11) a := fun a h1 h2 h3 => by rcases h3 with h | h <;> omega
  intro n
  induction n with
  | zero =>
    intro l hc K hl hN hT hf hw kk
    have hcd : nI (rL r) ≤ nI l := nI_le (by omega) (by omega)
    have : l = rL r := by omega
    subst this
    rw [S52_73]
    simp only [S52_0, S52_1, S52_2, S52_3, S52_5, S52_6, S52_9, S52_12, S52_13, S52_14, S52_17, S52_20, S52_21, S52_24, S52_25, S52_26, S52_29, S52_30, S52_31, S52_32, S52_33, S52_34, S52_37, S52_40, S52_41, S52_42, S52_45, S52_48, S52_49, S52_50, S52_51, S52_52, S52_53, S52_54, S52_57, S52_60, S52_61, S52_63, S52_64, S52_67, S52_70, S52_71, S52_75, S52_76, S52_79, S52_82, S52_83, S52_86, S52_88, S52_91, S52_92, S52_95, S52_96, S52_97, S52_99, S52_100, S52_103, S52_104, S52_107, S52_110, S52_113, S52_116, shp_8, RV_8_0, RV_8_5, RV_8_6, shp_21, RV_21_2, RV_21_5, RV_21_6, RV_21_7, RV_21_8, hN.2.2.1, hL.1, if_pos hcd, kl_int]
    exact kk hc K _ hN hT hf hw
  | succ n ih =>
    intro l hc K hl hN hT hf hw kk
    have hcd : ¬ nI (rL r) ≤ nI l := nI_ge (by omega) (by omega)
    rw [S52_73]
    simp only [S52_0, S52_1, S52_2, S52_3, S52_5, S52_6, S52_9, S52_12, S52_13, S52_14, S52_17, S52_20, S52_21, S52_24, S52_25, S52_26, S52_29, S52_30, S52_31, S52_32, S52_33, S52_34, S52_37, S52_40, S52_41, S52_42, S52_45, S52_48, S52_49, S52_50, S52_51, S52_52, S52_53, S52_54, S52_57, S52_60, S52_61, S52_63, S52_64, S52_67, S52_70, S52_71, S52_75, S52_76, S52_79, S52_82, S52_83, S52_86, S52_88, S52_91, S52_92, S52_95, S52_96, S52_97, S52_99, S52_100, S52_103, S52_104, S52_107, S52_110, S52_113, S52_116, shp_8, RV_8_0, RV_8_5, RV_8_6, shp_21, RV_21_2, RV_21_5, RV_21_6, RV_21_7, RV_21_8, hN.2.2.1, hL.1, if_neg hcd, hT.1, c_bit, bitm (show l < 32 by omega), kR_at, kl_int, nI_add1]
    by_cases ht : tre r l
    · rw [if_pos (pb_1.mpr ht)]
      refine c_walkLine hV hN hw (by omega) ht (fun h' K' q1 q2 => ?_)
      simp only [kR_at, S52_0, S52_1, S52_2, S52_3, S52_5, S52_6, S52_9, S52_12, S52_13, S52_14, S52_17, S52_20, S52_21, S52_24, S52_25, S52_26, S52_29, S52_30, S52_31, S52_32, S52_33, S52_34, S52_37, S52_40, S52_41, S52_42, S52_45, S52_48, S52_49, S52_50, S52_51, S52_52, S52_53, S52_54, S52_57, S52_60, S52_61, S52_63, S52_64, S52_67, S52_70, S52_71, S52_75, S52_76, S52_79, S52_82, S52_83, S52_86, S52_88, S52_91, S52_92, S52_95, S52_96, S52_97, S52_99, S52_100, S52_103, S52_104, S52_107, S52_110, S52_113, S52_116, kl_int, kl_ref, nI_add1]
      exact ih (l + 1) h' K' (by omega) (CN_frm q1 hS hN) (tiA_frm q1 (by decide) (by decide) hT) (frm_tr hf q1) q2 kk
    · rw [if_neg (fun z => ht (pb_1.mp z))]
      refine ih (l + 1) hc K (by omega) hN hT hf ?_ kk
      show wyR r (wyS r l (wyLn r l s0)) K hc
      rw [wyS_no (fun z => ht z.1)]
      exact hw
theorem c_walk2 (hV : VR r) : ∀ (n k : Nat) (hc : Hp) (K : Int32) (o4 : Option Value), k + n = rP r → CN hc 21 r → tiA r hc → frm (fun a => a = 10 ∨ a = 11) h hc → wyR r (wyRd r k (wy0 r)) K hc →
    (∀ hc' : Hp, CN hc' 21 r → tiA r hc' → frm (fun a => a = 10 ∨ a = 11) h hc' → (∀ j, j < rP r → hc'.1 11 j = (alF r).2 j ∧ hc'.1 10 j = (wyRd r (rP r) (wy0 r)).2 j) → Q (some none) hc') →
    WP (d + 2) 52 62 [some (.ref 8), some (.ref 21), some (.int K), some (.int (nI k)), o4] [] hc Q := by
  have hP := hV.1
  intro n
  induction n with
  | zero =>
    intro k hc K o4 hk hN hT hf hw kk
    have hcd : nI (rP r) ≤ nI k := nI_le (by omega) (by omega)
    have : k = rP r := by omega
    subst this
    rw [S52_62]
    simp only [S52_0, S52_1, S52_2, S52_3, S52_5, S52_6, S52_9, S52_12, S52_13, S52_14, S52_17, S52_20, S52_21, S52_24, S52_25, S52_26, S52_29, S52_30, S52_31, S52_32, S52_33, S52_34, S52_37, S52_40, S52_41, S52_42, S52_45, S52_48, S52_49, S52_50, S52_51, S52_52, S52_53, S52_54, S52_57, S52_60, S52_61, S52_63, S52_64, S52_67, S52_70, S52_71, S52_75, S52_76, S52_79, S52_82, S52_83, S52_86, S52_88, S52_91, S52_92, S52_95, S52_96, S52_97, S52_99, S52_100, S52_103, S52_104, S52_107, S52_110, S52_113, S52_116, shp_8, RV_8_0, RV_8_5, RV_8_6, shp_21, RV_21_2, RV_21_5, RV_21_6, RV_21_7, RV_21_8, hN.1, hP.1, if_pos hcd]
    refine kk hc hN hT hf (fun j hj => ⟨?_, hw.2.2 j hj⟩)
    rw [hw.2.1 j hj, wyRd_1]
    rfl
  | succ n ih =>
    intro k hc K o4 hk hN hT hf hw kk
    have hcd : ¬ nI (rP r) ≤ nI k := nI_ge (by omega) (by omega)
    rw [S52_62]
    simp only [S52_0, S52_1, S52_2, S52_3, S52_5, S52_6, S52_9, S52_12, S52_13, S52_14, S52_17, S52_20, S52_21, S52_24, S52_25, S52_26, S52_29, S52_30, S52_31, S52_32, S52_33, S52_34, S52_37, S52_40, S52_41, S52_42, S52_45, S52_48, S52_49, S52_50, S52_51, S52_52, S52_53, S52_54, S52_57, S52_60, S52_61, S52_63, S52_64, S52_67, S52_70, S52_71, S52_75, S52_76, S52_79, S52_82, S52_83, S52_86, S52_88, S52_91, S52_92, S52_95, S52_96, S52_97, S52_99, S52_100, S52_103, S52_104, S52_107, S52_110, S52_113, S52_116, shp_8, RV_8_0, RV_8_5, RV_8_6, shp_21, RV_21_2, RV_21_5, RV_21_6, RV_21_7, RV_21_8, hN.1, hP.1, if_neg hcd, kl_int]
    rw [nI_l0]
    refine c_walk3 hV (rL r) 0 hc K (by omega) hN hT hf hw (fun hc' K' o4' q1 q2 q3 q4 => ?_)
    rw [nI_add1]
    exact ih (k + 1) hc' K' o4' (by omega) q1 q2 q3 q4 kk
theorem c_walkTree (hV : VR r) (hN : CN h 21 r) (hT : tiA r h) (h10 : ∀ j, j < 6 → h.1 10 j = 0) (h11 : ∀ j, j < 6 → h.1 11 j = 0)
    (kk : ∀ hc' : Hp, CN hc' 21 r → tiA r hc' → frm (fun a => a = 10 ∨ a = 11) h hc' → (∀ j, j < rP r → hc'.1 11 j = (alF r).2 j ∧ hc'.1 10 j = (wyRd r (rP r) (wy0 r)).2 j) → Q (some none) hc') :
    WP (d + 2) 52 0 [some (.ref 8), some (.ref 21), none, none, none] [] h Q := by
  have hP := hV.1
  simp only [S52_0, S52_1, S52_2, S52_3, S52_5, S52_6, S52_9, S52_12, S52_13, S52_14, S52_17, S52_20, S52_21, S52_24, S52_25, S52_26, S52_29, S52_30, S52_31, S52_32, S52_33, S52_34, S52_37, S52_40, S52_41, S52_42, S52_45, S52_48, S52_49, S52_50, S52_51, S52_52, S52_53, S52_54, S52_57, S52_60, S52_61, S52_63, S52_64, S52_67, S52_70, S52_71, S52_75, S52_76, S52_79, S52_82, S52_83, S52_86, S52_88, S52_91, S52_92, S52_95, S52_96, S52_97, S52_99, S52_100, S52_103, S52_104, S52_107, S52_110, S52_113, S52_116, kl_int, kl_ref]
  rw [nI_l0]
  refine c_walk1 hV (rP r) 0 h _ (by omega) hN hT frm_rf (fun i hi => by rw [nI_0, b_0]; simp) (fun j hj => by rw [if_neg (by omega)]; exact h11 j (by omega)) (fun j hj => h10 j (by omega)) (fun hc' K' q1 q2 q3 q4 => ?_)
  simp only [S52_0, S52_1, S52_2, S52_3, S52_5, S52_6, S52_9, S52_12, S52_13, S52_14, S52_17, S52_20, S52_21, S52_24, S52_25, S52_26, S52_29, S52_30, S52_31, S52_32, S52_33, S52_34, S52_37, S52_40, S52_41, S52_42, S52_45, S52_48, S52_49, S52_50, S52_51, S52_52, S52_53, S52_54, S52_57, S52_60, S52_61, S52_63, S52_64, S52_67, S52_70, S52_71, S52_75, S52_76, S52_79, S52_82, S52_83, S52_86, S52_88, S52_91, S52_92, S52_95, S52_96, S52_97, S52_99, S52_100, S52_103, S52_104, S52_107, S52_110, S52_113, S52_116, kl_int]
  rw [nI_l0]
  exact c_walk2 hV (rP r) 0 hc' K' _ (by omega) q1 q2 q3 q4 kk
end
