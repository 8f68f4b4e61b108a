/-! The model's masks and what is tied. -/
theorem i10 : ((1 : Int32) = 0) = False := by simp
theorem i01 : ((0 : Int32) = 1) = False := by simp
theorem ite1 {c : Prop} [Decidable c] : ((if c then (1 : Int32) else 0) = 0) ↔ ¬ c := by
  by_cases h : c
  · rw [if_pos h]; simp [h]
  · rw [if_neg h]; simp [h]
theorem ite1' {c : Prop} [Decidable c] : ((if c then (1 : Int32) else 0) = 1) ↔ c := by
  by_cases h : c
  · rw [if_pos h]; simp [h]
  · rw [if_neg h]; simp [h]
def uT (x : Int32) : Nat := x.toBitVec.toNat
theorem uT_lt {x y : Int32} (h : ∀ i, i < 32 → bt x i = true → bt y i = true) (hn : x ≠ y) : uT x < uT y := by
  have e : x = y &&& x := b_ext (fun i hi => by
    rw [b_and]
    cases hx : bt x i with
    | false => rw [Bool.and_false]
    | true => rw [h i hi hx]; rfl)
  have h1 : uT x ≤ uT y := by
    have : uT x = uT y &&& uT x := by
      have := congrArg uT e
      unfold uT at this ⊢
      rw [Int32.toBitVec_and, BitVec.toNat_and] at this
      exact this
    rw [this]
    exact Nat.and_le_left
  have h2 : uT x ≠ uT y := fun q => hn (Int32.toBitVec_inj.mp (BitVec.eq_of_toNat_eq q))
  omega
theorem uT_b (x : Int32) : uT x < 4294967296 := x.toBitVec.isLt
section
variable {d : Nat} {h : Hp} {Q : Option (Option Value) → Hp → Prop} {x y z : Int32} {k l p : Nat}
theorem m_sound_loop (hV : VR (h.1 95)) : ∀ (n l : Nat) (x : Int32), l + n = rL (h.1 95) → (∀ i, i < 32 → (bt x i = true ↔ i < l ∧ snd (h.1 95) i)) → (WP (d + 1) 136 4 [some (.ref 93), some (.int x), some (.int (nI l))] [] h Q ↔ Q (some (some (.int (maskOf (snd (h.1 95)))))) h) := by
  have hL := hV.2.1
  intro n
  induction n with
  | zero =>
    intro l x hl hx
    have hc : nI (rL (h.1 95)) ≤ nI l := nI_le (by omega) (by omega)
    have he : x = maskOf (snd (h.1 95)) := eq_mask (fun i hi => (hx i hi).trans ⟨fun q => q.2, fun q => ⟨by have := q.1; omega, q⟩⟩)
    rw [S136_4]
    simp only [S136_0, S136_1, S136_2, S136_3, S136_5, S136_6, S136_9, S136_12, S136_13, S136_14, S136_17, S136_20, S136_21, S136_22, S136_23, S136_24, S136_25, S136_26, S136_29, S136_32, S136_33, shp_93, RV_93_1, RV_93_13, RV_93_14, RV_93_15, RV_93_16, RV_93_17, RV_93_18, RV_93_19, RV_93_20, RV_93_23, RV_93_24, RV_93_27, RV_93_28, RV_93_29, m_lines, kR_at, hL.1, if_pos hc, he]
  | succ n ih =>
    intro l x hl hx
    have hc : ¬ nI (rL (h.1 95)) ≤ nI l := nI_ge (by omega) (by omega)
    rw [S136_4]
    simp only [S136_0, S136_1, S136_2, S136_3, S136_5, S136_6, S136_9, S136_12, S136_13, S136_14, S136_17, S136_20, S136_21, S136_22, S136_23, S136_24, S136_25, S136_26, S136_29, S136_32, S136_33, shp_93, RV_93_1, RV_93_13, RV_93_14, RV_93_15, RV_93_16, RV_93_17, RV_93_18, RV_93_19, RV_93_20, RV_93_23, RV_93_24, RV_93_27, RV_93_28, RV_93_29, m_lines, kR_at, hL.1, if_neg hc, m_isSound (show l < 11 by omega), ite1, kl_int, nI_add1]
    by_cases hs : h.1 95 (58 + l) = 1
    · rw [if_neg (fun z => z hs)]
      refine ih (l + 1) _ (by omega) (fun i hi => ?_)
      rw [b_or, Bool.or_eq_true, hx i hi, b_one (by omega) hi, decide_eq_true_eq]
      constructor
      · rintro (⟨a, b⟩ | rfl)
        · exact ⟨by omega, b⟩
        · exact ⟨by omega, by omega, hs⟩
      · rintro ⟨a, b⟩
        by_cases hq : i = l
        · exact Or.inr hq
        · exact Or.inl ⟨by omega, b⟩
    · rw [if_pos hs]
      refine ih (l + 1) _ (by omega) (fun i hi => ?_)
      rw [hx i hi]
      constructor
      · rintro ⟨a, b⟩
        exact ⟨by omega, b⟩
      · rintro ⟨a, b⟩
        refine ⟨?_, b⟩
        by_cases hq : i = l
        · subst hq
          exact absurd b.2 hs
        · omega
theorem m_sound (hV : VR (h.1 95)) : WP (d + 1) 136 0 [some (.ref 93), none, none] [] h Q ↔ Q (some (some (.int (maskOf (snd (h.1 95)))))) h := by
  simp only [S136_0, S136_1, S136_2, S136_3, S136_5, S136_6, S136_9, S136_12, S136_13, S136_14, S136_17, S136_20, S136_21, S136_22, S136_23, S136_24, S136_25, S136_26, S136_29, S136_32, S136_33, kl_ref, kl_int]
  exact m_sound_loop hV (rL (h.1 95)) 0 0 (by omega) (fun i hi => by rw [b_0]; simp)
theorem m_fixed_loop (hV : VR (h.1 95)) : ∀ (n l : Nat) (x : Int32), l + n = rP (h.1 95) → (∀ i, i < 32 → (bt x i = true ↔ i < l ∧ fxd (h.1 95) i)) → (WP (d + 1) 137 4 [some (.ref 93), some (.int x), some (.int (nI l))] [] h Q ↔ Q (some (some (.int (maskOf (fxd (h.1 95)))))) h) := by
  have hL := hV.1
  intro n
  induction n with
  | zero =>
    intro l x hl hx
    have hc : nI (rP (h.1 95)) ≤ nI l := nI_le (by omega) (by omega)
    have he : x = maskOf (fxd (h.1 95)) := eq_mask (fun i hi => (hx i hi).trans ⟨fun q => q.2, fun q => ⟨by have := q.1; omega, q⟩⟩)
    rw [S137_4]
    simp only [S137_0, S137_1, S137_2, S137_3, S137_5, S137_6, S137_9, S137_12, S137_13, S137_14, S137_17, S137_20, S137_21, S137_22, S137_23, S137_24, S137_25, S137_26, S137_29, S137_32, S137_33, shp_93, RV_93_1, RV_93_13, RV_93_14, RV_93_15, RV_93_16, RV_93_17, RV_93_18, RV_93_19, RV_93_20, RV_93_23, RV_93_24, RV_93_27, RV_93_28, RV_93_29, m_points, kR_at, hL.1, if_pos hc, he]
  | succ n ih =>
    intro l x hl hx
    have hc : ¬ nI (rP (h.1 95)) ≤ nI l := nI_ge (by omega) (by omega)
    rw [S137_4]
    simp only [S137_0, S137_1, S137_2, S137_3, S137_5, S137_6, S137_9, S137_12, S137_13, S137_14, S137_17, S137_20, S137_21, S137_22, S137_23, S137_24, S137_25, S137_26, S137_29, S137_32, S137_33, shp_93, RV_93_1, RV_93_13, RV_93_14, RV_93_15, RV_93_16, RV_93_17, RV_93_18, RV_93_19, RV_93_20, RV_93_23, RV_93_24, RV_93_27, RV_93_28, RV_93_29, m_points, kR_at, hL.1, if_neg hc, m_isFixed (show l < 6 by omega), ite1, kl_int, nI_add1]
    by_cases hs : h.1 95 (2 + l) = 1
    · rw [if_neg (fun z => z hs)]
      refine ih (l + 1) _ (by omega) (fun i hi => ?_)
      rw [b_or, Bool.or_eq_true, hx i hi, b_one (by omega) hi, decide_eq_true_eq]
      constructor
      · rintro (⟨a, b⟩ | rfl)
        · exact ⟨by omega, b⟩
        · exact ⟨by omega, by omega, hs⟩
      · rintro ⟨a, b⟩
        by_cases hq : i = l
        · exact Or.inr hq
        · exact Or.inl ⟨by omega, b⟩
    · rw [if_pos hs]
      refine ih (l + 1) _ (by omega) (fun i hi => ?_)
      rw [hx i hi]
      constructor
      · rintro ⟨a, b⟩
        exact ⟨by omega, b⟩
      · rintro ⟨a, b⟩
        refine ⟨?_, b⟩
        by_cases hq : i = l
        · subst hq
          exact absurd b.2 hs
        · omega
theorem m_fixed (hV : VR (h.1 95)) : WP (d + 1) 137 0 [some (.ref 93), none, none] [] h Q ↔ Q (some (some (.int (maskOf (fxd (h.1 95)))))) h := by
  simp only [S137_0, S137_1, S137_2, S137_3, S137_5, S137_6, S137_9, S137_12, S137_13, S137_14, S137_17, S137_20, S137_21, S137_22, S137_23, S137_24, S137_25, S137_26, S137_29, S137_32, S137_33, kl_ref, kl_int]
  exact m_fixed_loop hV (rP (h.1 95)) 0 0 (by omega) (fun i hi => by rw [b_0]; simp)
/-- one pass over the lines -/
theorem m_tied_in (hV : VR (h.1 95)) {pp was by_ : Int32} : ∀ (n l : Nat) (set : Int32) (o6 : Option Value), l + n = rL (h.1 95) →
    (∀ (set' : Int32) (o6 : Option Value), (∀ i, i < 32 → bt set i = true → bt set' i = true) → (∀ T : Nat → Prop, Cl (h.1 95) (fun k => bt by_ k = true) T → (∀ i, i < 32 → bt set i = true → T i) → ∀ i, i < 32 → bt set' i = true → T i) → (set' = set → ∀ k, l ≤ k → k < rL (h.1 95) → bt by_ k = true → (bt set (rA (h.1 95) k) = true ∨ bt set (rB (h.1 95) k) = true) → bt set (rA (h.1 95) k) = true ∧ bt set (rB (h.1 95) k) = true) →
      WP (d + 1) 138 7 [some (.ref 93), some (.int pp), some (.int by_), some (.int set'), some (.int was), some (.int (nI (rL (h.1 95)))), o6] [] h Q) →
    WP (d + 1) 138 35 [some (.ref 93), some (.int pp), some (.int by_), some (.int set), some (.int was), some (.int (nI l)), o6] [] h Q := by
  have hL := hV.2.1
  have hP := hV.1
  intro n
  induction n with
  | zero =>
    intro l set o6 hl kk
    have hc : nI (rL (h.1 95)) ≤ nI l := nI_le (by omega) (by omega)
    rw [S138_35]
    simp only [S138_0, S138_1, S138_2, S138_3, S138_4, S138_5, S138_8, S138_10, S138_13, S138_14, S138_16, S138_17, S138_18, S138_21, S138_22, S138_25, S138_26, S138_27, S138_30, S138_31, S138_32, S138_33, S138_37, S138_38, S138_41, S138_44, S138_45, S138_46, S138_48, S138_51, S138_52, S138_53, S138_54, S138_56, S138_59, S138_60, S138_61, S138_63, S138_64, S138_66, S138_69, S138_72, S138_73, S138_75, S138_76, S138_79, S138_80, S138_82, S138_83, S138_84, S138_87, S138_90, S138_93, S138_94, shp_93, RV_93_1, RV_93_13, RV_93_14, RV_93_15, RV_93_16, RV_93_17, RV_93_18, RV_93_19, RV_93_20, RV_93_23, RV_93_24, RV_93_27, RV_93_28, RV_93_29, m_lines, kR_at, hL.1, if_pos hc]
    have : l = rL (h.1 95) := by omega
    subst this
    exact kk set o6 (fun _ _ z => z) (fun T _ z => z) (fun _ k h1 h2 => by omega)
  | succ n ih =>
    intro l set o6 hl kk
    have hc : ¬ nI (rL (h.1 95)) ≤ nI l := nI_ge (by omega) (by omega)
    have hl11 : l < 11 := by omega
    have hV1 := hV.2.2.2 l (by omega)
    rw [S138_35]
    simp only [S138_0, S138_1, S138_2, S138_3, S138_4, S138_5, S138_8, S138_10, S138_13, S138_14, S138_16, S138_17, S138_18, S138_21, S138_22, S138_25, S138_26, S138_27, S138_30, S138_31, S138_32, S138_33, S138_37, S138_38, S138_41, S138_44, S138_45, S138_46, S138_48, S138_51, S138_52, S138_53, S138_54, S138_56, S138_59, S138_60, S138_61, S138_63, S138_64, S138_66, S138_69, S138_72, S138_73, S138_75, S138_76, S138_79, S138_80, S138_82, S138_83, S138_84, S138_87, S138_90, S138_93, S138_94, shp_93, RV_93_1, RV_93_13, RV_93_14, RV_93_15, RV_93_16, RV_93_17, RV_93_18, RV_93_19, RV_93_20, RV_93_23, RV_93_24, RV_93_27, RV_93_28, RV_93_29, m_lines, kR_at, hL.1, if_neg hc, m_first hl11, m_second hl11, hV1.1.1, hV1.2.1.1, m_has (show l < 32 by omega), b2i_0, kl_int, nI_add1]
    have hA : rA (h.1 95) l < 32 := by omega
    have hB : rB (h.1 95) l < 32 := by omega
    have hbt : ∀ i, i < 32 → bt (((1 : Int32) <<< (nI (rA (h.1 95) l) &&& 31)) ||| ((1 : Int32) <<< (nI (rB (h.1 95) l) &&& 31))) i = (decide (i = rA (h.1 95) l) || decide (i = rB (h.1 95) l)) := fun i hi => by rw [b_or, b_one hA hi, b_one hB hi]
    by_cases hb : bt by_ l = false
    · rw [if_pos hb]
      refine ih (l + 1) set _ (by omega) (fun set' o6' k1 k2 k3 => kk set' o6' k1 k2 (fun e k h1 h2 h3 => ?_))
      by_cases hk : k = l
      · subst hk
        rw [hb] at h3
        cases h3
      · exact k3 e k (by omega) h2 h3
    · rw [if_neg hb]
      have hb' : bt by_ l = true := by cases q : bt by_ l with
        | true => rfl
        | false => exact absurd q hb
      by_cases hz : set &&& (((1 : Int32) <<< (nI (rA (h.1 95) l) &&& 31)) ||| ((1 : Int32) <<< (nI (rB (h.1 95) l) &&& 31))) = 0
      · rw [if_pos hz]
        have hz' := bt_eq0.mp hz
        refine ih (l + 1) set _ (by omega) (fun set' o6' k1 k2 k3 => kk set' o6' k1 k2 (fun e k h1 h2 h3 h4 => ?_))
        by_cases hk : k = l
        · subst hk
          exfalso
          rcases h4 with h4 | h4
          · have := hz' _ hA
            rw [b_and, hbt _ hA, h4] at this
            simp at this
          · have := hz' _ hB
            rw [b_and, hbt _ hB, h4] at this
            simp at this
        · exact k3 e k (by omega) h2 h3 h4
      · rw [if_neg hz]
        have hin : bt set (rA (h.1 95) l) = true ∨ bt set (rB (h.1 95) l) = true := by
          cases q1 : bt set (rA (h.1 95) l) with
          | true => exact Or.inl rfl
          | false =>
            cases q2 : bt set (rB (h.1 95) l) with
            | true => exact Or.inr rfl
            | false =>
              exfalso
              apply hz
              rw [bt_eq0]
              intro i hi
              rw [b_and, hbt i hi]
              by_cases e1 : i = rA (h.1 95) l
              · rw [e1, q1]; rfl
              · by_cases e2 : i = rB (h.1 95) l
                · rw [e2, q2]; rfl
                · rw [decide_eq_false e1, decide_eq_false e2]; simp
        have hset : ∀ i, i < 32 → (bt (set ||| (((1 : Int32) <<< (nI (rA (h.1 95) l) &&& 31)) ||| ((1 : Int32) <<< (nI (rB (h.1 95) l) &&& 31)))) i = true ↔ bt set i = true ∨ i = rA (h.1 95) l ∨ i = rB (h.1 95) l) := fun i hi => by rw [b_or, hbt i hi]; simp
        refine ih (l + 1) _ _ (by omega) (fun set' o6' k1 k2 k3 => kk set' o6' (fun i hi q => k1 i hi ((hset i hi).mpr (Or.inl q))) (fun T hT q => k2 T hT (fun i hi q1 => ?_)) (fun e k h1 h2 h3 h4 => ?_))
        · rcases (hset i hi).mp q1 with q2 | q2
          · exact q i hi q2
          · have hed : Ed (h.1 95) (fun k => bt by_ k = true) (rA (h.1 95) l) (rB (h.1 95) l) := Or.inl ⟨l, by omega, hb', Or.inl ⟨rfl, rfl⟩⟩
            have both : T (rA (h.1 95) l) ∧ T (rB (h.1 95) l) := by
              rcases hin with q3 | q3
              · exact ⟨q _ hA q3, hT _ _ hed (q _ hA q3)⟩
              · exact ⟨hT _ _ (Ed_sy hed) (q _ hB q3), q _ hB q3⟩
            rcases q2 with rfl | rfl
            · exact both.1
            · exact both.2
        · have sA : bt set (rA (h.1 95) l) = true := by rw [← e]; exact k1 _ hA ((hset _ hA).mpr (Or.inr (Or.inl rfl)))
          have sB : bt set (rB (h.1 95) l) = true := by rw [← e]; exact k1 _ hB ((hset _ hB).mpr (Or.inr (Or.inr rfl)))
          by_cases hk : k = l
          · subst hk
            exact ⟨sA, sB⟩
          · have e2 : set' = set ||| (((1 : Int32) <<< (nI (rA (h.1 95) l) &&& 31)) ||| ((1 : Int32) <<< (nI (rB (h.1 95) l) &&& 31))) := by
              rw [e]
              refine b_ext (fun i hi => ?_)
              rw [Bool.eq_iff_iff, hset i hi]
              constructor
              · exact Or.inl
              · rintro (q | rfl | rfl)
                · exact q
                · exact sA
                · exact sB
            have e3 : set ||| (((1 : Int32) <<< (nI (rA (h.1 95) l) &&& 31)) ||| ((1 : Int32) <<< (nI (rB (h.1 95) l) &&& 31))) = set := by rw [← e2, e]
            have := k3 e2 k (by omega) h2 h3
            rw [e3] at this
            exact this h4
theorem m_tied_out (hV : VR (h.1 95)) {by_ : Int32} (hp : p < rP (h.1 95)) : ∀ (n : Nat) (set was : Int32) (o5 o6 : Option Value), 4294967296 - uT set ≤ n → bt set p = true → (∀ i, i < 32 → bt set i = true → Td (h.1 95) (fun k => bt by_ k = true) p i) → (set = was → Cl (h.1 95) (fun k => bt by_ k = true) (fun i => i < 32 ∧ bt set i = true)) →
    Q (some (some (.int (maskOf (Td (h.1 95) (fun k => bt by_ k = true) p))))) h →
    WP (d + 2) 138 7 [some (.ref 93), some (.int (nI p)), some (.int by_), some (.int set), some (.int was), o5, o6] [] h Q := by
  have hL := hV.2.1
  have hP := hV.1
  have hexit : ∀ (set : Int32) (o5 o6 : Option Value), bt set p = true → (∀ i, i < 32 → bt set i = true → Td (h.1 95) (fun k => bt by_ k = true) p i) → Cl (h.1 95) (fun k => bt by_ k = true) (fun i => i < 32 ∧ bt set i = true) → Q (some (some (.int (maskOf (Td (h.1 95) (fun k => bt by_ k = true) p))))) h →
      WP (d + 2) 138 7 [some (.ref 93), some (.int (nI p)), some (.int by_), some (.int set), some (.int set), o5, o6] [] h Q := by
    intro set o5 o6 hsp hT hC hQ
    have : set = maskOf (Td (h.1 95) (fun k => bt by_ k = true) p) := eq_mask (fun i hi => ⟨hT i hi, fun q => (q _ hC ⟨by omega, hsp⟩).2⟩)
    rw [S138_7]
    simp only [S138_0, S138_1, S138_2, S138_3, S138_4, S138_5, S138_8, S138_10, S138_13, S138_14, S138_16, S138_17, S138_18, S138_21, S138_22, S138_25, S138_26, S138_27, S138_30, S138_31, S138_32, S138_33, S138_37, S138_38, S138_41, S138_44, S138_45, S138_46, S138_48, S138_51, S138_52, S138_53, S138_54, S138_56, S138_59, S138_60, S138_61, S138_63, S138_64, S138_66, S138_69, S138_72, S138_73, S138_75, S138_76, S138_79, S138_80, S138_82, S138_83, S138_84, S138_87, S138_90, S138_93, S138_94, shp_93, RV_93_1, RV_93_13, RV_93_14, RV_93_15, RV_93_16, RV_93_17, RV_93_18, RV_93_19, RV_93_20, RV_93_23, RV_93_24, RV_93_27, RV_93_28, RV_93_29, kl_int, if_true]
    rw [this]
    exact hQ
  intro n
  induction n with
  | zero =>
    intro set was o5 o6 hn
    have := uT_b set
    omega
  | succ n ih =>
    intro set was o5 o6 hn hsp hT hC hQ
    rw [S138_7]
    simp only [S138_0, S138_1, S138_2, S138_3, S138_4, S138_5, S138_8, S138_10, S138_13, S138_14, S138_16, S138_17, S138_18, S138_21, S138_22, S138_25, S138_26, S138_27, S138_30, S138_31, S138_32, S138_33, S138_37, S138_38, S138_41, S138_44, S138_45, S138_46, S138_48, S138_51, S138_52, S138_53, S138_54, S138_56, S138_59, S138_60, S138_61, S138_63, S138_64, S138_66, S138_69, S138_72, S138_73, S138_75, S138_76, S138_79, S138_80, S138_82, S138_83, S138_84, S138_87, S138_90, S138_93, S138_94, shp_93, RV_93_1, RV_93_13, RV_93_14, RV_93_15, RV_93_16, RV_93_17, RV_93_18, RV_93_19, RV_93_20, RV_93_23, RV_93_24, RV_93_27, RV_93_28, RV_93_29, kl_int]
    by_cases he : set = was
    · rw [if_pos he]
      have : set = maskOf (Td (h.1 95) (fun k => bt by_ k = true) p) := eq_mask (fun i hi => ⟨hT i hi, fun q => (q _ (hC he) ⟨by omega, hsp⟩).2⟩)
      rw [this]
      exact hQ
    · rw [if_neg he]
      simp only [m_fixed hV, kR_at, S138_0, S138_1, S138_2, S138_3, S138_4, S138_5, S138_8, S138_10, S138_13, S138_14, S138_16, S138_17, S138_18, S138_21, S138_22, S138_25, S138_26, S138_27, S138_30, S138_31, S138_32, S138_33, S138_37, S138_38, S138_41, S138_44, S138_45, S138_46, S138_48, S138_51, S138_52, S138_53, S138_54, S138_56, S138_59, S138_60, S138_61, S138_63, S138_64, S138_66, S138_69, S138_72, S138_73, S138_75, S138_76, S138_79, S138_80, S138_82, S138_83, S138_84, S138_87, S138_90, S138_93, S138_94, shp_93, RV_93_1, RV_93_13, RV_93_14, RV_93_15, RV_93_16, RV_93_17, RV_93_18, RV_93_19, RV_93_20, RV_93_23, RV_93_24, RV_93_27, RV_93_28, RV_93_29, kl_int]
      have hfin : ∀ (set1 : Int32), (∀ i, i < 32 → bt set i = true → bt set1 i = true) → (∀ i, i < 32 → bt set1 i = true → Td (h.1 95) (fun k => bt by_ k = true) p i) → (set1 = set → ∀ a b, fxd (h.1 95) a → fxd (h.1 95) b → bt set a = true → bt set b = true) →
          WP (d + 2) 138 35 [some (.ref 93), some (.int (nI p)), some (.int by_), some (.int set1), some (.int set), some (.int 0), o6] [] h Q := by
        intro set1 k1 k2 k3
        rw [nI_l0]
        refine m_tied_in (d := d + 1) hV (rL (h.1 95)) 0 set1 o6 (by omega) (fun set' o6' q1 q2 q3 => ?_)
        have hsub : ∀ i, i < 32 → bt set i = true → bt set' i = true := fun i hi q => q1 i hi (k1 i hi q)
        have hTd : ∀ i, i < 32 → bt set' i = true → Td (h.1 95) (fun k => bt by_ k = true) p i := q2 _ Td_cl k2
        have hcl : set' = set → Cl (h.1 95) (fun k => bt by_ k = true) (fun i => i < 32 ∧ bt set' i = true) := by
          intro e
          have e1 : set1 = set := b_ext (fun i hi => by
            rw [Bool.eq_iff_iff]
            exact ⟨fun q => by rw [← e]; exact q1 i hi q, k1 i hi⟩)
          have e2 : set' = set1 := e.trans e1.symm
          have q3' := q3 e2
          rw [e]
          rw [e1] at q3'
          rintro a b hed ⟨ha1, ha2⟩
          rcases hed with ⟨k, h1, h2, h3⟩ | ⟨h1, h2⟩
          · have hVk := hV.2.2.2 k h1
            rcases h3 with ⟨rfl, rfl⟩ | ⟨rfl, rfl⟩
            · exact ⟨by omega, (q3' k (by omega) h1 h2 (Or.inl ha2)).2⟩
            · exact ⟨by omega, (q3' k (by omega) h1 h2 (Or.inr ha2)).1⟩
          · exact ⟨by have := h2.1; omega, k3 e1 a b h1 h2 ha2⟩
        by_cases hz : set' = set
        · have hc := hcl hz
          subst hz
          exact hexit _ _ _ hsp hTd hc hQ
        · have := uT_lt hsub (Ne.symm hz)
          exact ih set' set _ _ (by omega) (hsub p (by omega) hsp) hTd hcl hQ
      by_cases hz : set &&& maskOf (fxd (h.1 95)) = 0
      · rw [if_pos hz]
        refine hfin set (fun _ _ q => q) hT (fun _ a b ha hb q => ?_)
        exfalso
        have ha32 : a < 32 := by have := ha.1; omega
        have := bt_eq0.mp hz a ha32
        rw [b_and, q, (bt_mask ha32).mpr ha] at this
        cases this
      · rw [if_neg hz]
        have hset : ∀ i, i < 32 → (bt (set ||| maskOf (fxd (h.1 95))) i = true ↔ bt set i = true ∨ fxd (h.1 95) i) := fun i hi => by rw [b_or, Bool.or_eq_true, bt_mask hi]
        refine hfin _ (fun i hi q => (hset i hi).mpr (Or.inl q)) (fun i hi q => ?_) (fun e a b ha hb _ => ?_)
        · rcases (hset i hi).mp q with q1 | q1
          · exact hT i hi q1
          · have hex : ∃ j, j < 32 ∧ bt set j = true ∧ fxd (h.1 95) j := by
              by_cases hq : ∃ j, j < 32 ∧ bt set j = true ∧ fxd (h.1 95) j
              · exact hq
              · exfalso
                apply hz
                rw [bt_eq0]
                intro j hj
                rw [b_and]
                cases q2 : bt set j with
                | false => rfl
                | true =>
                  cases q3 : bt (maskOf (fxd (h.1 95))) j with
                  | false => rfl
                  | true => exact absurd ⟨j, hj, q2, (bt_mask hj).mp q3⟩ hq
            obtain ⟨j, hj, j1, j2⟩ := hex
            exact Td_tr (hT j hj j1) (Td_fx j2 q1)
        · have hb32 : b < 32 := by have := hb.1; omega
          rw [← e]
          exact (hset b hb32).mpr (Or.inr hb)
theorem m_tied (hV : VR (h.1 95)) {by_ : Int32} (hp : p < rP (h.1 95)) (hQ : Q (some (some (.int (maskOf (Td (h.1 95) (fun k => bt by_ k = true) p))))) h) : WP (d + 2) 138 0 [some (.ref 93), some (.int (nI p)), some (.int by_), none, none, none, none] [] h Q := by
  have hP := hV.1
  simp only [S138_0, S138_1, S138_2, S138_3, S138_4, S138_5, S138_8, S138_10, S138_13, S138_14, S138_16, S138_17, S138_18, S138_21, S138_22, S138_25, S138_26, S138_27, S138_30, S138_31, S138_32, S138_33, S138_37, S138_38, S138_41, S138_44, S138_45, S138_46, S138_48, S138_51, S138_52, S138_53, S138_54, S138_56, S138_59, S138_60, S138_61, S138_63, S138_64, S138_66, S138_69, S138_72, S138_73, S138_75, S138_76, S138_79, S138_80, S138_82, S138_83, S138_84, S138_87, S138_90, S138_93, S138_94, kl_ref, kl_int]
  have hp32 : p < 32 := by omega
  refine m_tied_out hV hp (4294967296) _ _ _ _ (by omega) ?_ (fun i hi q => ?_) (fun e => ?_) hQ
  · rw [b_one hp32 hp32]; simp
  · rw [b_one hp32 hi, decide_eq_true_eq] at q
    subst q
    exact Td_rf
  · exfalso
    have := bt_eq0.mp e p hp32
    rw [b_one hp32 hp32] at this
    simp at this
theorem WP_det {mi pc : Nat} {lv : LV} {st : List Value} {o : Option (Option Value)} {h' : Hp} (hw : ∀ Q' : Option (Option Value) → Hp → Prop, Q' o h' → WP d mi pc lv st h Q') : WP d mi pc lv st h Q ↔ Q o h' := by
  constructor
  · rintro ⟨f, p1, s1, h1, o1, a1, b1, q1⟩
    obtain ⟨g, p2, s2, h2, o2, a2, b2, q2⟩ := hw (fun o' h'' => o' = o ∧ h'' = h') ⟨rfl, rfl⟩
    have e1 := exec_mono (Nat.le_max_left f g) a1
    have e2 := exec_mono (Nat.le_max_right f g) a2
    rw [e1] at e2
    cases e2
    rw [b1] at b2
    cases b2
    rw [← q2.1, ← q2.2]
    exact q1
  · exact hw Q
theorem m_tied_iff (hV : VR (h.1 95)) {by_ : Int32} (hp : p < rP (h.1 95)) : WP (d + 2) 138 0 [some (.ref 93), some (.int (nI p)), some (.int by_), none, none, none, none] [] h Q ↔ Q (some (some (.int (maskOf (Td (h.1 95) (fun k => bt by_ k = true) p))))) h := WP_det (fun _ hQ => m_tied hV hp hQ)
theorem m_areTied (hV : VR (h.1 95)) {by_ : Int32} {q : Nat} (hp : p < rP (h.1 95)) (hq : q < rP (h.1 95)) : WP (d + 3) 139 0 [some (.ref 93), some (.int (nI p)), some (.int (nI q)), some (.int by_)] [] h Q ↔ Q (some (some (.int (b2i (bt (maskOf (Td (h.1 95) (fun k => bt by_ k = true) p)) q))))) h := by
  have hP := hV.1
  simp only [S139_0, S139_1, S139_2, S139_3, S139_6, S139_7, S139_10, shp_93, RV_93_1, RV_93_13, RV_93_14, RV_93_15, RV_93_16, RV_93_17, RV_93_18, RV_93_19, RV_93_20, RV_93_23, RV_93_24, RV_93_27, RV_93_28, RV_93_29, m_tied_iff hV hp, kR_at, m_has (show q < 32 by omega), isB_b2i]
end
