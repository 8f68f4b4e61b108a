/-! Counting bits; the model's rings. -/
def cnt11 (x : Int32) : Nat := ((List.range 11).filter (fun i => bt x i)).length
def usr (x n : Int32) : Int32 := (x.toUInt32 >>> (n.toUInt32 &&& Int32.toUInt32 31)).toInt32
def bcv1 (x : Int32) : Int32 := x - (usr x 1 &&& 1431655765)
def bcv2 (x : Int32) : Int32 := (x &&& 858993459) + (usr x 2 &&& 858993459)
def bcv3 (x : Int32) : Int32 := (x + usr x 4) &&& 252645135
def bcv4 (x : Int32) : Int32 := x + usr x 8
def bcv5 (x : Int32) : Int32 := x + usr x 16
def bcv (x : Int32) : Int32 := bcv5 (bcv4 (bcv3 (bcv2 (bcv1 x)))) &&& 63
theorem bc_all : ∀ k, k < 2048 → bcv (nI k) = nI (cnt11 (nI k)) := by decide +kernel
theorem bl_all : ∀ k, k < 2048 → k ≠ 0 → cnt11 (nI k &&& (nI k - 1)) + 1 = cnt11 (nI k) ∧ uT (nI k &&& (nI k - 1)) < k := by decide +kernel
theorem small_bits {x : Int32} (hx : ∀ i, 11 ≤ i → i < 32 → bt x i = false) : ∃ k, k < 2048 ∧ x = nI k := by
  refine ⟨uT x, ?_, ?_⟩
  · unfold uT
    refine Nat.lt_pow_two_of_testBit (n := 11) _ (fun i hi => ?_)
    rcases Nat.lt_or_ge i 32 with q | q
    · exact hx i hi q
    · have := b_big (x := x) q
      exact this
  · refine Int32.toBitVec_inj.mp (BitVec.eq_of_toNat_eq ?_)
    show x.toBitVec.toNat = (BitVec.ofNat 32 (uT x)).toNat
    rw [BitVec.toNat_ofNat, Nat.mod_eq_of_lt (uT_b x)]
    rfl
theorem mask_small {S : Nat → Prop} (hS : ∀ i, S i → i < 11) : ∀ i, 11 ≤ i → i < 32 → bt (maskOf S) i = false := by
  intro i h1 h2
  cases q : bt (maskOf S) i with
  | false => rfl
  | true => have := hS i ((bt_mask h2).mp q); omega
section
variable {d : Nat} {h : Hp} {Q : Option (Option Value) → Hp → Prop} {x y z : Int32} {k l p q : Nat} {r : Nat → Int32}
theorem c_bitCount (hx : ∀ i, 11 ≤ i → i < 32 → bt x i = false) : WP d 199 0 [some (.int x)] [] h Q ↔ Q (some (some (.int (nI (cnt11 x))))) h := by
  obtain ⟨k, hk, rfl⟩ := small_bits hx
  rw [← bc_all k hk]
  simp only [S199_0, S199_1, S199_2, S199_3, S199_4, S199_7, S199_8, S199_9, S199_10, S199_11, S199_14, S199_15, S199_16, S199_17, S199_18, S199_21, S199_22, S199_23, S199_24, S199_25, S199_26, S199_27, S199_28, S199_29, S199_32, S199_33, S199_34, S199_35, S199_36, S199_38, S199_39, S199_40, S199_41, S199_42, S199_43, S199_45, S199_46, S199_47, S199_48, S199_49, S199_51, S199_52]
  exact Iff.rfl
theorem m_bits_loop : ∀ (n k m : Nat) (o0 : Option Value), k ≤ n → k < 2048 → (WP d 103 4 [o0, some (.int (nI m)), some (.int (nI k))] [] h Q ↔ Q (some (some (.int (nI (m + cnt11 (nI k)))))) h) := by
  intro n
  induction n with
  | zero =>
    intro k m o0 hk _
    have : k = 0 := by omega
    subst this
    rw [S103_4]
    simp only [S103_0, S103_1, S103_2, S103_3, S103_5, S103_8, S103_11, S103_12, S103_13, S103_14, S103_15, S103_16, S103_17, S103_20, S103_21]
    rw [if_pos (by decide), show cnt11 (nI 0) = 0 by decide]
    rfl
  | succ n ih =>
    intro k m o0 hk hk2
    by_cases h0 : k = 0
    · exact ih k m o0 (by omega) hk2
    · obtain ⟨b1, b2⟩ := bl_all k hk2 h0
      rw [S103_4]
      simp only [S103_0, S103_1, S103_2, S103_3, S103_5, S103_8, S103_11, S103_12, S103_13, S103_14, S103_15, S103_16, S103_17, S103_20, S103_21, kl_int, nI_add1]
      rw [if_neg (nI_ne0 (by omega) (by omega))]
      have e : nI k &&& (nI k - 1) = nI (uT (nI k &&& (nI k - 1))) := by
        refine Int32.toBitVec_inj.mp (BitVec.eq_of_toNat_eq ?_)
        show _ = (BitVec.ofNat 32 _).toNat
        rw [BitVec.toNat_ofNat, Nat.mod_eq_of_lt (uT_b _)]
        rfl
      rw [e, ih (uT (nI k &&& (nI k - 1))) (m + 1) (kl o0) (by omega) (by omega), ← e, show m + 1 + cnt11 (nI k &&& (nI k - 1)) = m + cnt11 (nI k) by omega]
theorem m_bits (hx : ∀ i, 11 ≤ i → i < 32 → bt x i = false) : WP d 103 0 [some (.int x), none, none] [] h Q ↔ Q (some (some (.int (nI (cnt11 x))))) h := by
  obtain ⟨k, hk, rfl⟩ := small_bits hx
  simp only [S103_0, S103_1, S103_2, S103_3, S103_5, S103_8, S103_11, S103_12, S103_13, S103_14, S103_15, S103_16, S103_17, S103_20, S103_21, kl_int]
  rw [nI_l0, m_bits_loop k k 0 _ (Nat.le_refl _) hk, Nat.zero_add]
theorem snd_11 (hV : VR r) : ∀ i, snd r i → i < 11 := fun i hi => by have := hV.2.1.2; have := hi.1; omega
theorem tre_11 (hV : VR r) : ∀ i, tre r i → i < 11 := fun i hi => snd_11 hV i (tre_snd hi)
theorem s95_93 {j : Nat} : (setI h 93 j x).1 95 = h.1 95 := setI_1 (by decide)
theorem m_rings (hr : h.1 95 = r) (hV : VR r) : WP (d + 5) 161 0 [some (.ref 93)] [] h Q ↔ Q (some (some (.int (nI (cnt11 (maskOf (snd r))) - nI (cnt11 (maskOf (tre r))))))) (setI h 93 0 0) := by
  have hV' : VR ((setI h 93 0 0).1 95) := by rw [s95_93, hr]; exact hV
  simp only [S161_0, S161_1, S161_2, S161_5, S161_6, S161_9, S161_12, S161_13, S161_16, S161_19, S161_20, shp_93, RV_93_1, RV_93_13, RV_93_14, RV_93_15, RV_93_16, RV_93_17, RV_93_18, RV_93_19, RV_93_20, RV_93_23, RV_93_24, RV_93_27, RV_93_28, RV_93_29, kR_at, m_sound hV', m_tree hV', s95_93, hr, m_bits (mask_small (snd_11 hV)), m_bits (mask_small (tre_11 hV))]
/-- a line that has a ring, by its number as an int -/
def clsd (r : Nat → Int32) (x : Int32) : Prop := ∃ l, l < rL r ∧ x = nI l ∧ rngL r l
theorem m_isClosedX (hr : h.1 95 = r) (hV : VR r) : WP (d + 5) 160 0 [some (.ref 93), some (.int x)] [] h Q ↔ Q (some (some (.int (pb (clsd r x))))) h := by
  have hL := hV.2.1
  have hV' : VR (h.1 95) := by rw [hr]; exact hV
  by_cases hx : ∃ l, l < rL r ∧ x = nI l
  · obtain ⟨l, h1, rfl⟩ := hx
    rw [m_isClosed hV' (by rw [hr]; exact h1), hr]
    have : rngL r l ↔ clsd r (nI l) := ⟨fun q => ⟨l, h1, rfl, q⟩, fun ⟨l', q1, q2, q3⟩ => by
      have : l = l' := (nI_eq (by omega) (by omega)).mp q2
      rw [this]; exact q3⟩
    rw [pb_congr this]
  · rw [pb_f (fun ⟨l, q1, q2, _⟩ => hx ⟨l, q1, q2⟩)]
    refine m_isClosed_no ?_
    rw [hr, hL.1]
    rcases pk_ix x (n := rL r) (by omega) with q | q | ⟨j, q1, q2⟩
    · exact Or.inl q
    · refine Or.inr ?_
      rcases Nat.eq_zero_or_pos (rL r) with z | z
      · by_cases h0 : x < 0
        · exfalso
          rw [z] at q
          have : nI 0 ≤ x := q
          rw [nI_0, Int32.le_iff_toInt_le] at this
          rw [Int32.lt_iff_toInt_lt] at h0
          omega
        · rw [z, Int32.lt_iff_toInt_lt]
          rw [Int32.lt_iff_toInt_lt] at h0
          have e : (nI 0 - 1).toInt = -1 := by decide
          rw [e]
          simp at h0
          omega
      · obtain ⟨m, hm⟩ : ∃ m, rL r = m + 1 := ⟨rL r - 1, by omega⟩
        rw [hm, nI_pred, Int32.lt_iff_toInt_lt, nI_int (by omega)]
        rw [hm, Int32.le_iff_toInt_le, nI_int (by omega)] at q
        omega
    · exact absurd ⟨j, q1, q2⟩ hx
theorem m_ring_no (hr : h.1 95 = r) (hV : VR r) (hx : ¬ clsd r x) : WP (d + 6) 162 0 [some (.ref 93), some (.int x), none, none, none] [] h Q ↔ Q (some (some (.int (-1)))) (setI h 93 0 0) := by
  simp only [S162_0, S162_1, S162_2, S162_5, S162_6, S162_7, S162_10, S162_13, S162_14, S162_15, S162_16, S162_19, S162_20, S162_21, S162_22, S162_23, S162_27, S162_28, S162_31, S162_34, S162_35, S162_37, S162_40, S162_43, S162_44, S162_45, S162_46, S162_49, S162_50, S162_51, S162_54, S162_55, S162_56, S162_58, S162_59, S162_60, S162_61, S162_62, S162_65, S162_68, S162_69, S162_70, S162_72, S162_73, S162_74, S162_75, S162_78, S162_81, S162_82, shp_93, RV_93_1, RV_93_13, RV_93_14, RV_93_15, RV_93_16, RV_93_17, RV_93_18, RV_93_19, RV_93_20, RV_93_23, RV_93_24, RV_93_27, RV_93_28, RV_93_29, kR_at, m_isClosedX (h := setI h 93 0 0) (r := r) (by rw [s95_93, hr]) hV]
  rw [if_pos (pb_0.mpr hx)]
theorem m_ring_loop (hr : h.1 95 = r) (hV : VR r) (hl : l < rL r) : ∀ (n e : Nat) (set : Int32), e + n = rL r → (∀ i, i < 32 → (bt set i = true ↔ i < e ∧ rng r l i)) → (WP (d + 4) 162 25 [some (.ref 93), some (.int (nI l)), some (.int (maskOf (tre r))), some (.int set), some (.int (nI e))] [] h Q ↔ Q (some (some (.int (maskOf (rng r l))))) h) := by
  have hL := hV.2.1
  have hP := hV.1
  have hV' : VR (h.1 95) := by rw [hr]; exact hV
  have hV1 := hV.2.2.2 l hl
  have hl11 : l < 11 := by omega
  intro n
  induction n with
  | zero =>
    intro e set he hx
    have hc : nI (rL r) ≤ nI e := nI_le (by omega) (by omega)
    have hm : set = maskOf (rng r l) := eq_mask (fun i hi => (hx i hi).trans ⟨fun q => q.2, fun q => ⟨by have := (tre_snd q.1).1; omega, q⟩⟩)
    rw [S162_25]
    simp only [S162_0, S162_1, S162_2, S162_5, S162_6, S162_7, S162_10, S162_13, S162_14, S162_15, S162_16, S162_19, S162_20, S162_21, S162_22, S162_23, S162_27, S162_28, S162_31, S162_34, S162_35, S162_37, S162_40, S162_43, S162_44, S162_45, S162_46, S162_49, S162_50, S162_51, S162_54, S162_55, S162_56, S162_58, S162_59, S162_60, S162_61, S162_62, S162_65, S162_68, S162_69, S162_70, S162_72, S162_73, S162_74, S162_75, S162_78, S162_81, S162_82, shp_93, RV_93_1, RV_93_13, RV_93_14, RV_93_15, RV_93_16, RV_93_17, RV_93_18, RV_93_19, RV_93_20, RV_93_23, RV_93_24, RV_93_27, RV_93_28, RV_93_29, m_lines, kR_at, hr, hL.1, if_pos hc, hm]
  | succ n ih =>
    intro e set he hx
    have hc : ¬ nI (rL r) ≤ nI e := nI_ge (by omega) (by omega)
    have hxx : ∀ i, i < 11 → (bt (maskOf (tre r) &&& (((1 : Int32) <<< (nI e &&& 31)) ^^^ (-1))) i = true ↔ (tre r i ∧ i ≠ e)) := fun i hi => by
      rw [b_and, b_not (by omega), b_one (by omega) (by omega), Bool.and_eq_true, bt_mask (by omega)]
      simp
    rw [S162_25]
    simp only [S162_0, S162_1, S162_2, S162_5, S162_6, S162_7, S162_10, S162_13, S162_14, S162_15, S162_16, S162_19, S162_20, S162_21, S162_22, S162_23, S162_27, S162_28, S162_31, S162_34, S162_35, S162_37, S162_40, S162_43, S162_44, S162_45, S162_46, S162_49, S162_50, S162_51, S162_54, S162_55, S162_56, S162_58, S162_59, S162_60, S162_61, S162_62, S162_65, S162_68, S162_69, S162_70, S162_72, S162_73, S162_74, S162_75, S162_78, S162_81, S162_82, shp_93, RV_93_1, RV_93_13, RV_93_14, RV_93_15, RV_93_16, RV_93_17, RV_93_18, RV_93_19, RV_93_20, RV_93_23, RV_93_24, RV_93_27, RV_93_28, RV_93_29, m_lines, kR_at, hr, hL.1, if_neg hc, m_has (show e < 32 by omega), b2i_mask (show e < 32 by omega), m_first hl11, m_second hl11, hV1.1.1, hV1.2.1.1, m_areTiedX hV' hxx (p := rA r l) (q := rB r l) (by rw [hr]; exact hV1.1.2) (by rw [hr]; exact hV1.2.1.2), kl_int, nI_add1]
    by_cases ht : tre r e
    · rw [if_neg (fun z => pb_0.mp z ht)]
      by_cases hz : Td r (fun k => tre r k ∧ k ≠ e) (rA r l) (rB r l)
      · rw [if_neg (fun z => pb_0.mp z hz)]
        refine ih (e + 1) set (by omega) (fun i hi => ?_)
        rw [hx i hi]
        constructor
        · rintro ⟨a, b⟩; exact ⟨by omega, b⟩
        · rintro ⟨a, b⟩
          refine ⟨?_, b⟩
          by_cases q : i = e
          · subst q; exact absurd hz b.2
          · omega
      · rw [if_pos (pb_0.mpr hz)]
        refine ih (e + 1) _ (by omega) (fun i hi => ?_)
        rw [b_or, Bool.or_eq_true, hx i hi, b_one (by omega) hi, decide_eq_true_eq]
        constructor
        · rintro (⟨a, b⟩ | rfl)
          · exact ⟨by omega, b⟩
          · exact ⟨by omega, ht, hz⟩
        · rintro ⟨a, b⟩
          by_cases q : i = e
          · exact Or.inr q
          · exact Or.inl ⟨by omega, b⟩
    · rw [if_pos (pb_0.mpr ht)]
      refine ih (e + 1) set (by omega) (fun i hi => ?_)
      rw [hx i hi]
      constructor
      · rintro ⟨a, b⟩; exact ⟨by omega, b⟩
      · rintro ⟨a, b⟩
        refine ⟨?_, b⟩
        by_cases q : i = e
        · subst q; exact absurd b.1 ht
        · omega
theorem m_ring_yes (hr : h.1 95 = r) (hV : VR r) (hl : l < rL r) (hx : rngL r l) : WP (d + 6) 162 0 [some (.ref 93), some (.int (nI l)), none, none, none] [] h Q ↔ Q (some (some (.int (maskOf (rng r l))))) (setI h 93 0 0) := by
  have hr' : (setI h 93 0 0).1 95 = r := by rw [s95_93, hr]
  have hV' : VR ((setI h 93 0 0).1 95) := by rw [hr']; exact hV
  simp only [S162_0, S162_1, S162_2, S162_5, S162_6, S162_7, S162_10, S162_13, S162_14, S162_15, S162_16, S162_19, S162_20, S162_21, S162_22, S162_23, S162_27, S162_28, S162_31, S162_34, S162_35, S162_37, S162_40, S162_43, S162_44, S162_45, S162_46, S162_49, S162_50, S162_51, S162_54, S162_55, S162_56, S162_58, S162_59, S162_60, S162_61, S162_62, S162_65, S162_68, S162_69, S162_70, S162_72, S162_73, S162_74, S162_75, S162_78, S162_81, S162_82, shp_93, RV_93_1, RV_93_13, RV_93_14, RV_93_15, RV_93_16, RV_93_17, RV_93_18, RV_93_19, RV_93_20, RV_93_23, RV_93_24, RV_93_27, RV_93_28, RV_93_29, kR_at, m_isClosedX (h := setI h 93 0 0) (r := r) hr' hV, m_tree hV', hr', kl_int]
  rw [if_neg (fun z => pb_0.mp z ⟨l, hl, rfl, hx⟩), nI_l0]
  exact m_ring_loop (d := d + 2) hr' hV hl (rL r) 0 _ (by omega) (fun i hi => by rw [nI_0, b_0]; simp)
end
