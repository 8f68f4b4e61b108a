/-! The model's parts, roots, tree, bridges, rings. -/
noncomputable def pb (P : Prop) : Int32 := @ite _ P (Classical.propDecidable P) 1 0
theorem pb_t {P : Prop} (h : P) : pb P = 1 := @if_pos _ (Classical.propDecidable P) h _ _ _
theorem pb_f {P : Prop} (h : ¬ P) : pb P = 0 := @if_neg _ (Classical.propDecidable P) h _ _ _
theorem pb_1 {P : Prop} : pb P = 1 ↔ P := by
  by_cases h : P
  · rw [pb_t h]; simp [h]
  · rw [pb_f h]; simp [h]
theorem pb_0 {P : Prop} : pb P = 0 ↔ ¬ P := by
  by_cases h : P
  · rw [pb_t h]; simp [h]
  · rw [pb_f h]; simp [h]
theorem isB_pb (P : Prop) : isB (pb P) := by
  by_cases h : P
  · rw [pb_t h]; exact isB_1
  · rw [pb_f h]; exact isB_0
theorem pb_congr {P P' : Prop} (h : P ↔ P') : pb P = pb P' := by rw [propext h]
theorem b2i_mask {S : Nat → Prop} {i : Nat} (hi : i < 32) : b2i (bt (maskOf S) i) = pb (S i) := by
  by_cases h : S i
  · rw [(bt_mask hi).mpr h, pb_t h, b2i_t]
  · rw [pb_f h]
    cases q : bt (maskOf S) i with
    | false => exact b2i_f
    | true => exact absurd ((bt_mask hi).mp q) h
theorem Td_mask {r : Nat → Int32} (hV : VR r) {S : Nat → Prop} {x : Int32} (hx : ∀ i, i < 11 → (bt x i = true ↔ S i)) {p q : Nat} : Td r (fun k => bt x k = true) p q ↔ Td r S p q := Td_congr (fun l hl => hx l (by have := hV.2.1.2; omega))
/-- the least from i on, f more at most -/
noncomputable def mnU (S : Nat → Prop) : Nat → Nat → Nat
  | 0, i => i
  | f + 1, i => @ite _ (S i) (Classical.propDecidable _) i (mnU S f (i + 1))
theorem mnU_ok {S : Nat → Prop} : ∀ (f i : Nat), S (i + f) → S (mnU S f i) ∧ i ≤ mnU S f i ∧ mnU S f i ≤ i + f ∧ ∀ j, i ≤ j → j < mnU S f i → ¬ S j
  | 0, i, h => ⟨h, Nat.le_refl _, Nat.le_refl _, fun j h1 h2 => by unfold mnU at h2; omega⟩
  | f + 1, i, h => by
    unfold mnU
    by_cases hi : S i
    · rw [@if_pos _ (Classical.propDecidable _) hi]
      exact ⟨hi, Nat.le_refl _, by omega, fun j h1 h2 => by omega⟩
    · rw [@if_neg _ (Classical.propDecidable _) hi]
      obtain ⟨a, b, c, e⟩ := mnU_ok (S := S) f (i + 1) (by rw [show i + 1 + f = i + (f + 1) by omega]; exact h)
      refine ⟨a, by omega, by omega, fun j h1 h2 => ?_⟩
      by_cases hj : j = i
      · subst hj; exact hi
      · exact e j (by omega) h2
noncomputable def ptOf (r : Nat → Int32) (p : Nat) : Nat := mnU (Td r (snd r) p) p 0
theorem ptOf_ok (r : Nat → Int32) (p : Nat) : Td r (snd r) p (ptOf r p) ∧ ptOf r p ≤ p ∧ ∀ j, j < ptOf r p → ¬ Td r (snd r) p j := by
  obtain ⟨a, b, c, e⟩ := mnU_ok (S := Td r (snd r) p) p 0 (by rw [Nat.zero_add]; exact Td_rf)
  exact ⟨a, by unfold ptOf; omega, fun j hj => e j (Nat.zero_le _) hj⟩
theorem ptOf_eq {r : Nat → Int32} {p q : Nat} : ptOf r p = q ↔ isPt r p q := by
  obtain ⟨a, b, c⟩ := ptOf_ok r p
  constructor
  · rintro rfl
    exact ⟨a, c⟩
  · rintro ⟨h1, h2⟩
    rcases Nat.lt_trichotomy (ptOf r p) q with h | h | h
    · exact absurd a (h2 _ h)
    · exact h
    · exact absurd h1 (c _ h)
theorem ptOf_td {r : Nat → Int32} {p q : Nat} : ptOf r p = ptOf r q ↔ Td r (snd r) p q := by
  obtain ⟨a, b, c⟩ := ptOf_ok r p
  obtain ⟨a', b', c'⟩ := ptOf_ok r q
  constructor
  · intro h
    rw [h] at a
    exact Td_tr a (Td_sy a')
  · intro h
    rw [ptOf_eq]
    exact ⟨Td_tr h a', fun j hj z => c' j hj (Td_tr (Td_sy h) z)⟩
section
variable {d : Nat} {h : Hp} {Q : Option (Option Value) → Hp → Prop} {x y z : Int32} {k l p q : Nat}
theorem m_tiedS (hV : VR (h.1 95)) (hp : p < rP (h.1 95)) : WP (d + 2) 138 0 [some (.ref 93), some (.int (nI p)), some (.int (maskOf (snd (h.1 95)))), none, none, none, none] [] h Q ↔ Q (some (some (.int (maskOf (Td (h.1 95) (snd (h.1 95)) p))))) h := by
  rw [m_tied_iff hV hp, mask_congr (fun i hi => Td_mask hV (fun i hi => bt_mask (by omega)))]
theorem m_areTiedX (hV : VR (h.1 95)) {S : Nat → Prop} (hx : ∀ i, i < 11 → (bt x i = true ↔ S i)) (hp : p < rP (h.1 95)) (hq : q < rP (h.1 95)) : WP (d + 3) 139 0 [some (.ref 93), some (.int (nI p)), some (.int (nI q)), some (.int x)] [] h Q ↔ Q (some (some (.int (pb (Td (h.1 95) S p q))))) h := by
  have hP := hV.1
  rw [m_areTied hV hp hq, b2i_mask (by omega), pb_congr (Td_mask hV hx)]
theorem m_partOf_loop (hV : VR (h.1 95)) (hp : p < rP (h.1 95)) {pp : Int32} : ∀ (n i : Nat), i + n = ptOf (h.1 95) p → (WP (d + 1) 140 12 [some (.ref 93), some (.int pp), some (.int (maskOf (Td (h.1 95) (snd (h.1 95)) p))), some (.int (nI i))] [] h Q ↔ Q (some (some (.int (nI (ptOf (h.1 95) p))))) h) := by
  obtain ⟨a, b, c⟩ := ptOf_ok (h.1 95) p
  have hP := hV.1
  intro n
  induction n with
  | zero =>
    intro i hi
    have : i = ptOf (h.1 95) p := by omega
    subst this
    rw [S140_12]
    simp only [S140_0, S140_1, S140_2, S140_3, S140_6, S140_9, S140_10, S140_11, S140_13, S140_14, S140_17, S140_20, S140_23, S140_26, S140_27, m_has (show ptOf (h.1 95) p < 32 by omega), b2i_mask (show ptOf (h.1 95) p < 32 by omega), kR_at]
    rw [if_neg (fun z => pb_0.mp z a)]
  | succ n ih =>
    intro i hi
    rw [S140_12]
    simp only [S140_0, S140_1, S140_2, S140_3, S140_6, S140_9, S140_10, S140_11, S140_13, S140_14, S140_17, S140_20, S140_23, S140_26, S140_27, m_has (show i < 32 by omega), b2i_mask (show i < 32 by omega), kR_at, kl_int, nI_add1]
    rw [if_pos (pb_0.mpr (c i (by omega)))]
    exact ih (i + 1) (by omega)
theorem m_partOf (hV : VR (h.1 95)) (hp : p < rP (h.1 95)) : WP (d + 3) 140 0 [some (.ref 93), some (.int (nI p)), none, none] [] h Q ↔ Q (some (some (.int (nI (ptOf (h.1 95) p))))) h := by
  simp only [S140_0, S140_1, S140_2, S140_3, S140_6, S140_9, S140_10, S140_11, S140_13, S140_14, S140_17, S140_20, S140_23, S140_26, S140_27, shp_93, RV_93_1, RV_93_13, RV_93_14, RV_93_15, RV_93_16, RV_93_17, RV_93_18, RV_93_19, RV_93_20, RV_93_23, RV_93_24, RV_93_27, RV_93_28, RV_93_29, m_sound hV, kR_at, m_tiedS hV hp, kl_int]
  exact m_partOf_loop hV hp (ptOf (h.1 95) p) 0 (by omega)
theorem isRt_iff {r : Nat → Int32} (hV : VR r) (hp : p < rP r) : isRt r p ↔ ptOf r p = p ∧ maskOf (Td r (snd r) p) &&& maskOf (fxd r) = 0 := by
  unfold isRt
  rw [ptOf_eq, bt_eq0]
  have hP := hV.1
  constructor
  · rintro ⟨a, b⟩
    refine ⟨a, fun i hi => ?_⟩
    rw [b_and]
    cases q1 : bt (maskOf (Td r (snd r) p)) i with
    | false => rfl
    | true =>
      cases q2 : bt (maskOf (fxd r)) i with
      | false => rfl
      | true =>
        have h2 := (bt_mask hi).mp q2
        exact absurd h2 (b i h2.1 ((bt_mask hi).mp q1))
  · rintro ⟨a, b⟩
    refine ⟨a, fun q hq ht hf => ?_⟩
    have := b q (by omega)
    rw [b_and, (bt_mask (by omega)).mpr ht, (bt_mask (by omega)).mpr hf] at this
    cases this
theorem m_isRoot (hV : VR (h.1 95)) (hp : p < rP (h.1 95)) : WP (d + 4) 141 0 [some (.ref 93), some (.int (nI p))] [] h Q ↔ Q (some (some (.int (pb (isRt (h.1 95) p))))) h := by
  obtain ⟨a, b, c⟩ := ptOf_ok (h.1 95) p
  have hP := hV.1
  simp only [S141_0, S141_1, S141_2, S141_5, S141_6, S141_9, S141_10, S141_11, S141_12, S141_15, S141_18, S141_19, S141_22, S141_23, S141_26, S141_27, S141_30, S141_31, shp_93, RV_93_1, RV_93_13, RV_93_14, RV_93_15, RV_93_16, RV_93_17, RV_93_18, RV_93_19, RV_93_20, RV_93_23, RV_93_24, RV_93_27, RV_93_28, RV_93_29, m_partOf hV hp, m_sound hV, m_fixed hV, kR_at, m_tiedS hV hp, isB_0, isB_1, nI_eq (show ptOf (h.1 95) p < 2 ^ 31 by omega) (show p < 2 ^ 31 by omega)]
  rw [pb_congr (isRt_iff hV hp)]
  by_cases h1 : ptOf (h.1 95) p = p
  · rw [if_pos h1]
    by_cases h2 : maskOf (Td (h.1 95) (snd (h.1 95)) p) &&& maskOf (fxd (h.1 95)) = 0
    · rw [if_pos h2, pb_t ⟨h1, h2⟩]
    · rw [if_neg h2, pb_f (fun z => h2 z.2)]
  · rw [if_neg h1, pb_f (fun z => h1 z.1)]
theorem m_tree_loop (hV : VR (h.1 95)) : ∀ (n l : Nat) (x : Int32), l + n = rL (h.1 95) → (∀ i, i < 32 → (bt x i = true ↔ trU (h.1 95) l i)) → (WP (d + 4) 142 4 [some (.ref 93), some (.int x), some (.int (nI l))] [] h Q ↔ Q (some (some (.int (maskOf (tre (h.1 95)))))) h) := by
  have hL := hV.2.1
  have hP := hV.1
  intro n
  induction n with
  | zero =>
    intro l x hl hx
    have hc : nI (rL (h.1 95)) ≤ nI l := nI_le (by omega) (by omega)
    have : l = rL (h.1 95) := by omega
    subst this
    have he : x = maskOf (tre (h.1 95)) := eq_mask hx
    rw [S142_4]
    simp only [S142_0, S142_1, S142_2, S142_3, S142_5, S142_6, S142_9, S142_12, S142_13, S142_14, S142_17, S142_20, S142_21, S142_22, S142_23, S142_26, S142_27, S142_28, S142_31, S142_32, S142_35, S142_38, S142_39, S142_40, S142_41, S142_42, S142_43, S142_44, S142_47, S142_50, S142_51, shp_93, RV_93_1, RV_93_13, RV_93_14, RV_93_15, RV_93_16, RV_93_17, RV_93_18, RV_93_19, RV_93_20, RV_93_23, RV_93_24, RV_93_27, RV_93_28, RV_93_29, m_lines, kR_at, hL.1, if_pos hc, he]
  | succ n ih =>
    intro l x hl hx
    have hc : ¬ nI (rL (h.1 95)) ≤ nI l := nI_ge (by omega) (by omega)
    have hl11 : l < 11 := by omega
    have hV1 := hV.2.2.2 l (by omega)
    rw [S142_4]
    simp only [S142_0, S142_1, S142_2, S142_3, S142_5, S142_6, S142_9, S142_12, S142_13, S142_14, S142_17, S142_20, S142_21, S142_22, S142_23, S142_26, S142_27, S142_28, S142_31, S142_32, S142_35, S142_38, S142_39, S142_40, S142_41, S142_42, S142_43, S142_44, S142_47, S142_50, S142_51, shp_93, RV_93_1, RV_93_13, RV_93_14, RV_93_15, RV_93_16, RV_93_17, RV_93_18, RV_93_19, RV_93_20, RV_93_23, RV_93_24, RV_93_27, RV_93_28, RV_93_29, m_lines, kR_at, hL.1, if_neg hc, m_isSound hl11, ite1, m_first hl11, m_second hl11, hV1.1.1, hV1.2.1.1, m_areTiedX hV (S := trU (h.1 95) l) (fun i hi => hx i (by omega)) hV1.1.2 hV1.2.1.2, kl_int, nI_add1]
    by_cases hs : h.1 95 (58 + l) = 1
    · rw [if_neg (fun z => z hs)]
      by_cases ht : Td (h.1 95) (trU (h.1 95) l) (rA (h.1 95) l) (rB (h.1 95) l)
      · rw [if_neg (fun z => pb_0.mp z ht)]
        refine ih (l + 1) _ (by omega) (fun i hi => ?_)
        rw [hx i hi]
        exact ⟨Or.inl, fun q => q.elim id (fun q => absurd ht q.2.2)⟩
      · rw [if_pos (pb_0.mpr ht)]
        refine ih (l + 1) _ (by omega) (fun i hi => ?_)
        rw [b_or, Bool.or_eq_true, hx i hi, b_one (by omega) hi, decide_eq_true_eq]
        constructor
        · rintro (q | rfl)
          · exact Or.inl q
          · exact Or.inr ⟨rfl, ⟨by omega, hs⟩, ht⟩
        · rintro (q | ⟨q, -⟩)
          · exact Or.inl q
          · exact Or.inr q
    · rw [if_pos hs]
      refine ih (l + 1) _ (by omega) (fun i hi => ?_)
      rw [hx i hi]
      exact ⟨Or.inl, fun q => q.elim id (fun q => absurd q.2.1.2 hs)⟩
theorem m_tree (hV : VR (h.1 95)) : WP (d + 4) 142 0 [some (.ref 93), none, none] [] h Q ↔ Q (some (some (.int (maskOf (tre (h.1 95)))))) h := by
  simp only [S142_0, S142_1, S142_2, S142_3, S142_5, S142_6, S142_9, S142_12, S142_13, S142_14, S142_17, S142_20, S142_21, S142_22, S142_23, S142_26, S142_27, S142_28, S142_31, S142_32, S142_35, S142_38, S142_39, S142_40, S142_41, S142_42, S142_43, S142_44, S142_47, S142_50, S142_51, kl_ref, kl_int]
  exact m_tree_loop hV (rL (h.1 95)) 0 0 (by omega) (fun i hi => by rw [b_0]; simp [trU])
theorem m_isBridge (hV : VR (h.1 95)) (hl : l < rL (h.1 95)) : WP (d + 4) 143 0 [some (.ref 93), some (.int (nI l))] [] h Q ↔ Q (some (some (.int (pb (brg (h.1 95) l))))) h := by
  have hL := hV.2.1
  have hl11 : l < 11 := by omega
  have hV1 := hV.2.2.2 l hl
  have hx : ∀ i, i < 11 → (bt (maskOf (snd (h.1 95)) &&& (((1 : Int32) <<< (nI l &&& 31)) ^^^ (-1))) i = true ↔ (snd (h.1 95) i ∧ i ≠ l)) := fun i hi => by
    rw [b_and, b_not (by omega), b_one (by omega) (by omega), Bool.and_eq_true, bt_mask (by omega)]
    simp
  simp only [S143_0, S143_1, S143_2, S143_5, S143_8, S143_9, S143_10, S143_11, S143_14, S143_15, S143_16, S143_19, S143_20, S143_23, S143_24, S143_25, S143_26, S143_27, S143_28, S143_29, S143_32, S143_35, S143_36, S143_39, S143_40, shp_93, RV_93_1, RV_93_13, RV_93_14, RV_93_15, RV_93_16, RV_93_17, RV_93_18, RV_93_19, RV_93_20, RV_93_23, RV_93_24, RV_93_27, RV_93_28, RV_93_29, kR_at, m_isSound hl11, ite1, m_first hl11, m_second hl11, hV1.1.1, hV1.2.1.1, m_sound hV, m_areTiedX hV hx hV1.1.2 hV1.2.1.2, isB_0, isB_1]
  by_cases hs : h.1 95 (58 + l) = 1
  · rw [if_neg (fun z => z hs)]
    by_cases ht : Td (h.1 95) (fun i => snd (h.1 95) i ∧ i ≠ l) (rA (h.1 95) l) (rB (h.1 95) l)
    · rw [if_neg (fun z => pb_0.mp z ht), pb_f (fun z => z.2 ht)]
    · rw [if_pos (pb_0.mpr ht), pb_t ⟨⟨hl, hs⟩, ht⟩]
  · rw [if_pos hs, pb_f (fun z => hs z.1.2)]
theorem m_isClosed_no (hx : x < 0 ∨ h.1 95 1 - 1 < x) : WP (d + 5) 160 0 [some (.ref 93), some (.int x)] [] h Q ↔ Q (some (some (.int 0))) h := by
  simp only [S160_0, S160_1, S160_2, S160_5, S160_8, S160_9, S160_10, S160_13, S160_16, S160_17, S160_20, S160_21, S160_24, S160_27, S160_28, S160_31, S160_32, shp_93, RV_93_1, RV_93_13, RV_93_14, RV_93_15, RV_93_16, RV_93_17, RV_93_18, RV_93_19, RV_93_20, RV_93_23, RV_93_24, RV_93_27, RV_93_28, RV_93_29, kR_at, m_isLine, isB_0]
  rcases hx with hx | hx
  · rw [if_pos hx, if_pos rfl]
  · by_cases h0 : x < 0
    · rw [if_pos h0, if_pos rfl]
    · rw [if_neg h0, if_pos hx, if_pos rfl]
theorem line_in (hV : VR (h.1 95)) (hl : l < rL (h.1 95)) : ¬ nI l < 0 ∧ ¬ h.1 95 1 - 1 < nI l := by
  have hL := hV.2.1
  refine ⟨nI_pos (by omega), ?_⟩
  rw [hL.1]
  obtain ⟨m, hm⟩ : ∃ m, rL (h.1 95) = m + 1 := ⟨rL (h.1 95) - 1, by omega⟩
  rw [hm, nI_pred]
  exact nI_nlt (by omega) (by omega)
theorem m_isClosed (hV : VR (h.1 95)) (hl : l < rL (h.1 95)) : WP (d + 5) 160 0 [some (.ref 93), some (.int (nI l))] [] h Q ↔ Q (some (some (.int (pb (rngL (h.1 95) l))))) h := by
  have hL := hV.2.1
  have hl11 : l < 11 := by omega
  obtain ⟨z1, z2⟩ := line_in hV hl
  simp only [S160_0, S160_1, S160_2, S160_5, S160_8, S160_9, S160_10, S160_13, S160_16, S160_17, S160_20, S160_21, S160_24, S160_27, S160_28, S160_31, S160_32, shp_93, RV_93_1, RV_93_13, RV_93_14, RV_93_15, RV_93_16, RV_93_17, RV_93_18, RV_93_19, RV_93_20, RV_93_23, RV_93_24, RV_93_27, RV_93_28, RV_93_29, kR_at, m_isLine, m_isSound hl11, ite1, m_tree hV, m_has (show l < 32 by omega), b2i_mask (show l < 32 by omega), isB_0, isB_1, if_neg z1, if_neg z2, i10, if_false]
  by_cases hs : h.1 95 (58 + l) = 1
  · rw [if_neg (fun z => z hs)]
    by_cases ht : tre (h.1 95) l
    · rw [if_neg (fun z => pb_0.mp z ht), pb_f (fun z => z.2 ht)]
    · rw [if_pos (pb_0.mpr ht), pb_t ⟨⟨hl, hs⟩, ht⟩]
  · rw [if_pos hs, pb_f (fun z => hs z.1.2)]
end
