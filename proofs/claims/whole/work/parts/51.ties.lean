/-! The class's parts, tree, rings, bridges. -/
/-- the net at b tells the row r -/
def CN (h : Hp) (b : Nat) (r : Nat → Int32) : Prop := h.1 b 0 = r 0 ∧ h.1 b 1 = maskOf (fxd r) ∧ h.1 b 3 = r 1 ∧ h.1 b 4 = maskOf (snd r) ∧ (∀ p, p < rP r → h.1 (b + 1) p = r (8 + p)) ∧ ∀ l, l < rL r → h.1 (b + 2) l = r (14 + l) ∧ h.1 (b + 3) l = r (25 + l) ∧ h.1 (b + 4) l = r (36 + l) ∧ h.1 (b + 5) l = r (47 + l)
theorem CN_frm {S : Nat → Prop} {h h' : Hp} {b : Nat} {r : Nat → Int32} (hf : frm S h h') (hS : ∀ a, b ≤ a → a ≤ b + 5 → ¬ S a) (hc : CN h b r) : CN h' b r := by
  have e : ∀ k, k ≤ 5 → h'.1 (b + k) = h.1 (b + k) := fun k hk => (hf.1 (b + k) (hS _ (by omega) (by omega))).1
  have e0 : h'.1 b = h.1 b := e 0 (by omega)
  unfold CN
  rw [e0, e 1 (by omega), e 2 (by omega), e 3 (by omega), e 4 (by omega), e 5 (by omega)]
  exact hc
theorem ok22 {n : Nat} (h : n < 6) : okA 1 22 (nI n) := okA_nI shp_22 h (by decide)
theorem ok23 {n : Nat} (h : n < 11) : okA 1 23 (nI n) := okA_nI shp_23 h (by decide)
theorem ok24 {n : Nat} (h : n < 11) : okA 1 24 (nI n) := okA_nI shp_24 h (by decide)
theorem ok25 {n : Nat} (h : n < 11) : okA 1 25 (nI n) := okA_nI shp_25 h (by decide)
theorem ok26 {n : Nat} (h : n < 11) : okA 1 26 (nI n) := okA_nI shp_26 h (by decide)
theorem ok9 {n : Nat} (h : n < 6) : okA 1 9 (nI n) := okA_nI shp_9 h (by decide)
theorem ok10 {n : Nat} (h : n < 6) : okA 1 10 (nI n) := okA_nI shp_10 h (by decide)
theorem ok11 {n : Nat} (h : n < 6) : okA 1 11 (nI n) := okA_nI shp_11 h (by decide)
theorem bitm {S : Nat → Prop} {n : Nat} (hn : n < 32) : bitv (maskOf S) (nI n) = pb (S n) := by rw [bitv_bt hn, b2i_mask hn]
theorem lt6 {n : Nat} (h : n < 6) : ¬ (6 : Int32) ≤ nI n := by
  have : ∀ n, n < 6 → ¬ (6 : Int32) ≤ nI n := by decide
  exact this n h
section
variable {d : Nat} {h : Hp} {Q : Option (Option Value) → Hp → Prop} {x y z : Int32} {k l p q : Nat} {r : Nat → Int32}
theorem c_isFixed21 (hc : CN h 21 r) (hp : p < 32) : WP (d + 1) 28 0 [some (.ref 21), some (.int (nI p))] [] h Q ↔ Q (some (some (.int (pb (fxd r p))))) h := by
  rw [c_isFixed shp_21, hc.2.1, bitm hp]
  by_cases hq : fxd r p
  · rw [if_pos (pb_1.mpr hq), pb_t hq]
  · rw [if_neg (fun z => hq (pb_1.mp z)), pb_f hq]
theorem c_tisRoot (hp : p < 6) : WP d 45 0 [some (.ref 8), some (.int (nI p))] [] h Q ↔ Q (some (some (.int (if h.1 9 p = nI p then (if nI p = h.1 8 4 then 0 else 1) else 0)))) h := by
  have o1 := ok9 hp
  have c1 := nI_cl (n := p) (by omega)
  simp only [S45_0, S45_1, S45_4, S45_5, S45_6, S45_7, S45_10, S45_11, S45_12, S45_15, S45_18, S45_19, S45_22, S45_23, shp_8, RV_8_0, RV_8_5, RV_8_6, o1, c1, isB_0, isB_1]
  split
  · split <;> rfl
  · rfl
theorem c_min {a b : Nat} (ha : a < 2 ^ 31) (hb : b < 2 ^ 31) : WP d 204 0 [some (.int (nI a)), some (.int (nI b))] [] h Q ↔ Q (some (some (.int (nI (min a b))))) h := by
  simp only [S204_0, S204_1, S204_2, S204_5, S204_6, S204_9, S204_10]
  by_cases hq : a ≤ b
  · have h1 : ¬ nI b < nI a := nI_nlt hq hb
    have h2 : nI a ≤ nI b := nI_le hq hb
    simp only [h1, h2, if_true, if_false, Nat.min_eq_left hq]
  · have h1 : nI b < nI a := nI_lt (by omega) ha
    have h2 : ¬ nI a ≤ nI b := nI_ge (by omega) ha
    simp only [h1, h2, if_true, if_false, Nat.min_eq_right (show b ≤ a by omega)]
theorem c_max {a b : Nat} (ha : a < 2 ^ 31) (hb : b < 2 ^ 31) : WP d 203 0 [some (.int (nI a)), some (.int (nI b))] [] h Q ↔ Q (some (some (.int (nI (max a b))))) h := by
  simp only [S203_0, S203_1, S203_2, S203_5, S203_6, S203_9, S203_10]
  by_cases hq : a ≤ b
  · have h1 : ¬ nI b < nI a := nI_nlt hq hb
    have h2 : nI a ≤ nI b := nI_le hq hb
    by_cases he : a = b
    · subst he
      have h3 : nI a ≤ nI a := nI_le (Nat.le_refl _) ha
      have h4 : ¬ nI a < nI a := nI_nlt (Nat.le_refl _) ha
      simp only [h3, h4, if_true, if_false, Nat.max_self]
    · have h3 : nI a < nI b := nI_lt (by omega) hb
      have h4 : ¬ nI b ≤ nI a := nI_ge (by omega) hb
      simp only [h1, h2, h3, h4, if_true, if_false, Nat.max_eq_right hq]
  · have h1 : nI b < nI a := nI_lt (by omega) ha
    have h2 : ¬ nI a ≤ nI b := nI_ge (by omega) ha
    have h3 : nI b ≤ nI a := nI_le (by omega) ha
    have h4 : ¬ nI a < nI b := nI_nlt (by omega) ha
    simp only [h1, h2, h3, h4, if_true, if_false, Nat.max_eq_left (show b ≤ a by omega)]
theorem c_merge_loop {kept lost : Int32} : ∀ (n p : Nat) (hc : Hp), p + n = 6 → (∀ j, j < 6 → hc.1 9 j = if j < p ∧ h.1 9 j = lost then kept else h.1 9 j) → frm (fun a => a = 9) h hc →
    (∀ hc' : Hp, (∀ j, j < 6 → hc'.1 9 j = if h.1 9 j = lost then kept else h.1 9 j) → frm (fun a => a = 9) h hc' → Q (some none) hc') →
    WP d 51 2 [some (.ref 8), some (.int kept), some (.int lost), some (.int (nI p))] [] hc Q := by
  intro n
  induction n with
  | zero =>
    intro p hc hp hj hf kk
    have : p = 6 := by omega
    subst this
    rw [S51_2]
    simp only [S51_0, S51_1, S51_3, S51_5, S51_8, S51_9, S51_12, S51_13, S51_14, S51_15, S51_18, S51_19, S51_22, S51_23, S51_24, S51_25, S51_28, S51_31, shp_8, RV_8_0, RV_8_5, RV_8_6]
    rw [if_pos (by decide)]
    refine kk hc (fun j hj6 => ?_) hf
    rw [hj j hj6]
    by_cases q : h.1 9 j = lost
    · rw [if_pos ⟨hj6, q⟩, if_pos q]
    · rw [if_neg (fun z => q z.2), if_neg q]
  | succ n ih =>
    intro p hc hp hj hf kk
    have hp6 : p < 6 := by omega
    have o1 := ok9 hp6
    have c1 := nI_cl (n := p) (by omega)
    have hpj : hc.1 9 p = h.1 9 p := by rw [hj p hp6, if_neg (fun z => by omega)]
    rw [S51_2]
    simp only [S51_0, S51_1, S51_3, S51_5, S51_8, S51_9, S51_12, S51_13, S51_14, S51_15, S51_18, S51_19, S51_22, S51_23, S51_24, S51_25, S51_28, S51_31, shp_8, RV_8_0, RV_8_5, RV_8_6, if_neg (lt6 hp6), o1, c1, hpj, kl_int, nI_add1]
    by_cases q : h.1 9 p = lost
    · rw [if_pos q]
      refine ih (p + 1) _ (by omega) (fun j hj6 => ?_) (frm_tr hf (frm_I rfl)) kk
      rw [setI_rd]
      by_cases e : j = p
      · subst e; rw [if_pos ⟨rfl, rfl⟩, if_pos ⟨by omega, q⟩]
      · rw [if_neg (fun z => e z.2), hj j hj6]
        by_cases w : j < p ∧ h.1 9 j = lost
        · rw [if_pos w, if_pos ⟨by omega, w.2⟩]
        · rw [if_neg w, if_neg (fun z => w ⟨by omega, z.2⟩)]
    · rw [if_neg q]
      refine ih (p + 1) _ (by omega) (fun j hj6 => ?_) hf kk
      rw [hj j hj6]
      by_cases w : j < p ∧ h.1 9 j = lost
      · rw [if_pos w, if_pos ⟨by omega, w.2⟩]
      · rw [if_neg w, if_neg]
        rintro ⟨z1, z2⟩
        by_cases e : j = p
        · subst e; exact q z2
        · exact w ⟨by omega, z2⟩
theorem c_merge {kept lost : Int32} (kk : ∀ hc' : Hp, (∀ j, j < 6 → hc'.1 9 j = if h.1 9 j = lost then kept else h.1 9 j) → frm (fun a => a = 9) h hc' → Q (some none) hc') : WP d 51 0 [some (.ref 8), some (.int kept), some (.int lost), none] [] h Q := by
  simp only [S51_0, S51_1, S51_3, S51_5, S51_8, S51_9, S51_12, S51_13, S51_14, S51_15, S51_18, S51_19, S51_22, S51_23, S51_24, S51_25, S51_28, S51_31, kl_int]
  rw [nI_l0]
  exact c_merge_loop 6 0 h (by omega) (fun j hj => by rw [if_neg (fun z => by omega)]) frm_rf kk
/-- the fixed points tied, behind p of them -/
theorem c_tieFixed_loop (hV : VR r) : ∀ (n p : Nat) (hc : Hp) (f : Option Nat), p + n = rP r → CN hc 21 r → frm (fun a => a = 9) h hc → (∀ j, f = some j → j < p ∧ fxd r j ∧ ∀ i, i < j → ¬ fxd r i) → (f = none → ∀ i, i < p → ¬ fxd r i) → (∀ j, j < 6 → hc.1 9 j = if j < p then nI (labOf r (fun _ => False) j) else nI j) →
    (∀ (hc' : Hp) (f : Option Nat), CN hc' 21 r → frm (fun a => a = 9) h hc' → (∀ j, f = some j → fxd r j) → (f = none → ∀ i, ¬ fxd r i) → (∀ j, j < 6 → hc'.1 9 j = nI (labOf r (fun _ => False) j)) → Q (some (some (.int (match f with | some j => nI j | none => -1)))) hc') →
    WP (d + 2) 49 4 [some (.ref 8), some (.ref 21), some (.int (match f with | some j => nI j | none => -1)), some (.int (nI p))] [] hc Q := by
  have hP := hV.1
  have noTd : ∀ {a b : Nat}, ¬ fxd r a → Td r (fun _ => False) a b → a = b := by
    intro a b ha ht
    refine ht (fun x => a = x) (fun x y he hx => ?_) rfl
    rcases he with ⟨-, -, z, -⟩ | ⟨z, -⟩
    · exact z.elim
    · exact absurd (hx ▸ z) ha
  have labN : ∀ {a : Nat}, ¬ fxd r a → labOf r (fun _ => False) a = a := fun ha => lab_uniq Td_rf (fun j hj z => by have := noTd ha z; omega)
  have labF : ∀ {a f : Nat}, fxd r a → fxd r f → (∀ i, i < f → ¬ fxd r i) → labOf r (fun _ => False) a = f := by
    intro a f ha hf hm
    refine lab_uniq (Td_fx ha hf) (fun j hj z => ?_)
    have := noTd (hm j hj) (Td_sy z)
    exact hm j hj (this ▸ ha)
  intro n
  induction n with
  | zero =>
    intro p hc f hp hN hf h1 h2 hj kk
    have hcd : nI (rP r) ≤ nI p := nI_le (by omega) (by omega)
    have : p = rP r := by omega
    subst this
    rw [S49_4]
    simp only [S49_0, S49_1, S49_2, S49_3, S49_5, S49_6, S49_9, S49_12, S49_13, S49_14, S49_17, S49_20, S49_21, S49_22, S49_25, S49_26, S49_29, S49_30, S49_31, S49_32, S49_35, S49_36, S49_37, S49_38, S49_41, S49_44, S49_45, shp_8, RV_8_0, RV_8_5, RV_8_6, shp_21, RV_21_2, RV_21_5, RV_21_6, RV_21_7, RV_21_8, hN.1, hP.1, if_pos hcd]
    refine kk hc f hN hf (fun j e => (h1 j e).2.1) (fun e i z => h2 e i z.1 z) (fun j hj6 => ?_)
    rw [hj j hj6]
    by_cases q : j < rP r
    · rw [if_pos q]
    · rw [if_neg q, labN (fun z => q z.1)]
  | succ n ih =>
    intro p hc f hp hN hf h1 h2 hj kk
    have hcd : ¬ nI (rP r) ≤ nI p := nI_ge (by omega) (by omega)
    have hp6 : p < 6 := by omega
    have o1 := ok9 hp6
    have c1 := nI_cl (n := p) (by omega)
    have hS : ∀ a, 21 ≤ a → a ≤ 21 + 5 → ¬ (fun a => a = 9) a := fun a h1 h2 h3 => by have : a = 9 := h3; omega
    rw [S49_4]
    simp only [S49_0, S49_1, S49_2, S49_3, S49_5, S49_6, S49_9, S49_12, S49_13, S49_14, S49_17, S49_20, S49_21, S49_22, S49_25, S49_26, S49_29, S49_30, S49_31, S49_32, S49_35, S49_36, S49_37, S49_38, S49_41, S49_44, S49_45, shp_8, RV_8_0, RV_8_5, RV_8_6, shp_21, RV_21_2, RV_21_5, RV_21_6, RV_21_7, RV_21_8, hN.1, hP.1, if_neg hcd, c_isFixed21 hN (show p < 32 by omega), kR_at, kl_int, kl_ref, nI_add1, o1, c1]
    by_cases hx : fxd r p
    · rw [if_neg (fun z => pb_0.mp z hx)]
      cases f with
      | none =>
        have e1 : (nI p) = (match (some p : Option Nat) with | some j => nI j | none => -1) := rfl
        simp only [if_true]
        rw [e1]
        refine ih (p + 1) _ (some p) (by omega) (CN_frm (S := fun a => a = 9) (frm_I rfl) hS hN) (frm_tr hf (frm_I rfl)) (fun j e => by cases e; exact ⟨by omega, hx, h2 rfl⟩) (fun e => by cases e) (fun j hj6 => ?_) kk
        rw [setI_rd]
        by_cases e : j = p
        · subst e
          rw [if_pos ⟨rfl, rfl⟩, if_pos (by omega), labF hx hx (h2 rfl)]
        · rw [if_neg (fun z => e z.2), hj j hj6]
          by_cases w : j < p
          · rw [if_pos w, if_pos (by omega)]
          · rw [if_neg w, if_neg (by omega)]
      | some g =>
        obtain ⟨g1, g2, g3⟩ := h1 g rfl
        have hne : ¬ nI g = -1 := fun z => by
          have h0 := congrArg Int32.toInt z
          rw [nI_int (by omega)] at h0
          have : (-1 : Int32).toInt = -1 := by decide
          omega
        simp only [hne, if_false]
        refine ih (p + 1) _ (some g) (by omega) (CN_frm (S := fun a => a = 9) (frm_I rfl) hS hN) (frm_tr hf (frm_I rfl)) (fun j e => by cases e; exact ⟨by omega, g2, g3⟩) (fun e => by cases e) (fun j hj6 => ?_) kk
        rw [setI_rd]
        by_cases e : j = p
        · subst e
          rw [if_pos ⟨rfl, rfl⟩, if_pos (by omega), labF hx g2 g3]
        · rw [if_neg (fun z => e z.2), hj j hj6]
          by_cases w : j < p
          · rw [if_pos w, if_pos (by omega)]
          · rw [if_neg w, if_neg (by omega)]
    · rw [if_pos (pb_0.mpr hx)]
      refine ih (p + 1) _ f (by omega) hN hf (fun j e => by have := h1 j e; exact ⟨by omega, this.2⟩) (fun e i hi z => ?_) (fun j hj6 => ?_) kk
      · by_cases w : i = p
        · subst w; exact hx z
        · exact h2 e i (by omega) z
      · rw [hj j hj6]
        by_cases w : j < p
        · rw [if_pos w, if_pos (by omega)]
        · by_cases e : j = p
          · subst e
            rw [if_neg w, if_pos (by omega), labN hx]
          · rw [if_neg w, if_neg (by omega)]
theorem c_tieFixed (hV : VR r) (hN : CN h 21 r) (hj : ∀ j, j < 6 → h.1 9 j = nI j)
    (kk : ∀ (hc' : Hp) (f : Option Nat), CN hc' 21 r → frm (fun a => a = 9) h hc' → (∀ j, f = some j → fxd r j) → (f = none → ∀ i, ¬ fxd r i) → (∀ j, j < 6 → hc'.1 9 j = nI (labOf r (fun _ => False) j)) → Q (some (some (.int (match f with | some j => nI j | none => -1)))) hc') :
    WP (d + 2) 49 0 [some (.ref 8), some (.ref 21), none, none] [] h Q := by
  simp only [S49_0, S49_1, S49_2, S49_3, S49_5, S49_6, S49_9, S49_12, S49_13, S49_14, S49_17, S49_20, S49_21, S49_22, S49_25, S49_26, S49_29, S49_30, S49_31, S49_32, S49_35, S49_36, S49_37, S49_38, S49_41, S49_44, S49_45, kl_int, kl_ref]
  rw [nI_l0]
  exact c_tieFixed_loop hV (rP r) 0 h none (by omega) hN frm_rf (fun j e => by cases e) (fun _ i hi => by omega) (fun j hj6 => by rw [if_neg (by omega)]; exact hj j hj6) kk
theorem c_growTree_loop (hV : VR r) : ∀ (n l : Nat) (hc : Hp) (o3 o4 : Option Value), l + n = rL r → CN hc 21 r → frm (fun a => a = 8 ∨ a = 9) h hc → (∀ j, j ≠ 1 → hc.1 8 j = h.1 8 j) → hc.1 8 1 = maskOf (trU r l) → (∀ j, j < 6 → hc.1 9 j = nI (labOf r (trU r l) j)) →
    (∀ hc' : Hp, CN hc' 21 r → frm (fun a => a = 8 ∨ a = 9) h hc' → (∀ j, j ≠ 1 → hc'.1 8 j = h.1 8 j) → hc'.1 8 1 = maskOf (tre r) → (∀ j, j < 6 → hc'.1 9 j = nI (ptOf r j)) → Q (some none) hc') →
    WP (d + 1) 50 7 [some (.ref 8), some (.ref 21), some (.int (nI l)), o3, o4] [] hc Q := by
  have hP := hV.1
  have hL := hV.2.1
  have hS : ∀ a, 21 ≤ a → a ≤ 21 + 5 → ¬ (fun a => a = 8 ∨ a = 9) a := fun a h1 h2 h3 => by rcases h3 with h | h <;> omega
  intro n
  induction n with
  | zero =>
    intro l hc o3 o4 hl hN hf h8 ht hj kk
    have hcd : nI (rL r) ≤ nI l := nI_le (by omega) (by omega)
    have : l = rL r := by omega
    subst this
    rw [S50_7]
    simp only [S50_0, S50_1, S50_2, S50_5, S50_6, S50_8, S50_9, S50_12, S50_15, S50_16, S50_19, S50_20, S50_23, S50_24, S50_25, S50_26, S50_27, S50_28, S50_31, S50_32, S50_35, S50_36, S50_37, S50_38, S50_40, S50_41, S50_44, S50_45, S50_48, S50_49, S50_52, S50_53, S50_55, S50_58, S50_59, S50_60, S50_63, S50_64, S50_65, S50_66, S50_67, S50_70, S50_71, S50_72, S50_74, S50_77, S50_78, S50_80, S50_83, S50_86, S50_89, S50_92, shp_8, RV_8_0, RV_8_5, RV_8_6, shp_21, RV_21_2, RV_21_5, RV_21_6, RV_21_7, RV_21_8, hN.2.2.1, hL.1, if_pos hcd]
    exact kk hc hN hf h8 ht (fun j hj6 => by rw [hj j hj6, ← lab_tre]; rfl)
  | succ n ih =>
    intro l hc o3 o4 hl hN hf h8 ht hj kk
    have hcd : ¬ nI (rL r) ≤ nI l := nI_ge (by omega) (by omega)
    have hlt : l < rL r := by omega
    have hVl := hV.2.2.2 l hlt
    have hNl := hN.2.2.2.2.2 l hlt
    have a6 : rA r l < 6 := by omega
    have b6 : rB r l < 6 := by omega
    have la := (lab_ok r (trU r l) (rA r l)).2.1
    have lb := (lab_ok r (trU r l) (rB r l)).2.1
    have o1 := ok23 (n := l) (by omega)
    have o2 := ok24 (n := l) (by omega)
    have c0 := nI_cl (n := l) (by omega)
    have c1 := nI_cl (n := rA r l) (by omega)
    have c2 := nI_cl (n := rB r l) (by omega)
    rw [S50_7]
    simp only [S50_0, S50_1, S50_2, S50_5, S50_6, S50_8, S50_9, S50_12, S50_15, S50_16, S50_19, S50_20, S50_23, S50_24, S50_25, S50_26, S50_27, S50_28, S50_31, S50_32, S50_35, S50_36, S50_37, S50_38, S50_40, S50_41, S50_44, S50_45, S50_48, S50_49, S50_52, S50_53, S50_55, S50_58, S50_59, S50_60, S50_63, S50_64, S50_65, S50_66, S50_67, S50_70, S50_71, S50_72, S50_74, S50_77, S50_78, S50_80, S50_83, S50_86, S50_89, S50_92, shp_8, RV_8_0, RV_8_5, RV_8_6, shp_21, RV_21_2, RV_21_5, RV_21_6, RV_21_7, RV_21_8, hN.2.2.1, hL.1, if_neg hcd, o1, o2, c0, hNl.1, hNl.2.1, hVl.1.1, hVl.2.1.1, ok9 a6, ok9 b6, c1, c2, hj _ a6, hj _ b6, c_bit, hN.2.2.2.1, bitm (show l < 32 by omega), kR_at, kV_at, kl_int, kl_ref, nI_add1, nI_eq (show labOf r (trU r l) (rA r l) < 2 ^ 31 by omega) (show labOf r (trU r l) (rB r l) < 2 ^ 31 by omega), c_min (show labOf r (trU r l) (rA r l) < 2 ^ 31 by omega) (show labOf r (trU r l) (rB r l) < 2 ^ 31 by omega), c_max (show labOf r (trU r l) (rA r l) < 2 ^ 31 by omega) (show labOf r (trU r l) (rB r l) < 2 ^ 31 by omega)]
    by_cases hs : snd r l
    · rw [if_pos (pb_1.mpr hs)]
      by_cases he : labOf r (trU r l) (rA r l) = labOf r (trU r l) (rB r l)
      · rw [if_pos he]
        have hno : ∀ k, trU r (l + 1) k ↔ trU r l k := fun k => ⟨fun z => z.elim id (fun z => absurd (lab_td.mp he) z.2.2), Or.inl⟩
        refine ih (l + 1) hc _ _ (by omega) hN hf h8 ?_ (fun j hj6 => ?_) kk
        · rw [ht]; exact mask_congr (fun i _ => (hno i).symm)
        · rw [hj j hj6, lab_congr (fun k _ => (hno k).symm)]
      · rw [if_neg he]
        have hyes : ∀ k, trU r (l + 1) k ↔ trU r l k ∨ k = l := fun k => ⟨fun z => z.imp id (fun z => z.1), fun z => z.imp id (fun z => ⟨z, hs, fun w => he (lab_td.mpr w)⟩)⟩
        refine c_merge (fun hc' q1 q2 => ?_)
        simp only [kV_at, S50_0, S50_1, S50_2, S50_5, S50_6, S50_8, S50_9, S50_12, S50_15, S50_16, S50_19, S50_20, S50_23, S50_24, S50_25, S50_26, S50_27, S50_28, S50_31, S50_32, S50_35, S50_36, S50_37, S50_38, S50_40, S50_41, S50_44, S50_45, S50_48, S50_49, S50_52, S50_53, S50_55, S50_58, S50_59, S50_60, S50_63, S50_64, S50_65, S50_66, S50_67, S50_70, S50_71, S50_72, S50_74, S50_77, S50_78, S50_80, S50_83, S50_86, S50_89, S50_92, kl_int, nI_add1]
        have hf1 : frm (fun a => a = 8 ∨ a = 9) hc hc' := frm_tr (frm_I (Or.inl rfl)) (frm_mono (fun a h => Or.inr h) q2)
        have e8 : ∀ j, hc'.1 8 j = (setI hc 8 1 (hc.1 8 1 ||| ((1 : Int32) <<< (nI l &&& 31)))).1 8 j := fun j => congrFun (q2.1 8 (by decide)).1 j
        refine ih (l + 1) hc' _ _ (by omega) (CN_frm hf1 hS hN) (frm_tr hf hf1) (fun j hj1 => ?_) ?_ (fun j hj6 => ?_) kk
        · rw [e8, setI_rd, if_neg (fun z => hj1 z.2)]; exact h8 j hj1
        · rw [e8, setI_rd, if_pos ⟨rfl, rfl⟩, ht]
          refine eq_mask (fun i hi => ?_)
          rw [b_or, Bool.or_eq_true, bt_mask hi, b_one (by omega) hi, decide_eq_true_eq]
          exact (hyes i).symm
        · have e9 : (setI hc 8 1 (hc.1 8 1 ||| ((1 : Int32) <<< (nI l &&& 31)))).1 9 = hc.1 9 := setI_1 (by decide)
          rw [q1 j hj6, e9, hj j hj6, lab_add (p := j) hlt (fun k _ => hyes k)]
          have lj := (lab_ok r (trU r l) j).2.1
          by_cases w : labOf r (trU r l) j = max (labOf r (trU r l) (rA r l)) (labOf r (trU r l) (rB r l))
          · rw [if_pos w, if_pos (by rw [w])]
          · rw [if_neg w, if_neg (fun z => w ((nI_eq (by omega) (by omega)).mp z))]
    · rw [if_neg (fun z => hs (pb_1.mp z))]
      have hno : ∀ k, trU r (l + 1) k ↔ trU r l k := fun k => ⟨fun z => z.elim id (fun z => absurd z.2.1 hs), Or.inl⟩
      refine ih (l + 1) hc _ _ (by omega) hN hf h8 ?_ (fun j hj6 => ?_) kk
      · rw [ht]; exact mask_congr (fun i _ => (hno i).symm)
      · rw [hj j hj6, lab_congr (fun k _ => (hno k).symm)]
theorem c_growTree (hV : VR r) (hN : CN h 21 r) (hj : ∀ j, j < 6 → h.1 9 j = nI (labOf r (fun _ => False) j))
    (kk : ∀ hc' : Hp, CN hc' 21 r → frm (fun a => a = 8 ∨ a = 9) h hc' → (∀ j, j ≠ 1 → hc'.1 8 j = h.1 8 j) → hc'.1 8 1 = maskOf (tre r) → (∀ j, j < 6 → hc'.1 9 j = nI (ptOf r j)) → Q (some none) hc') :
    WP (d + 1) 50 0 [some (.ref 8), some (.ref 21), none, none, none] [] h Q := by
  simp only [S50_0, S50_1, S50_2, S50_5, S50_6, S50_8, S50_9, S50_12, S50_15, S50_16, S50_19, S50_20, S50_23, S50_24, S50_25, S50_26, S50_27, S50_28, S50_31, S50_32, S50_35, S50_36, S50_37, S50_38, S50_40, S50_41, S50_44, S50_45, S50_48, S50_49, S50_52, S50_53, S50_55, S50_58, S50_59, S50_60, S50_63, S50_64, S50_65, S50_66, S50_67, S50_70, S50_71, S50_72, S50_74, S50_77, S50_78, S50_80, S50_83, S50_86, S50_89, S50_92, shp_8, RV_8_0, RV_8_5, RV_8_6, kl_int, kl_ref]
  rw [nI_l0]
  have hS : ∀ a, 21 ≤ a → a ≤ 21 + 5 → ¬ (fun a => a = 8 ∨ a = 9) a := fun a h1 h2 h3 => by rcases h3 with h | h <;> omega
  refine c_growTree_loop (h := h) hV (rL r) 0 _ _ _ (by omega) (CN_frm (frm_I (Or.inl rfl)) hS hN) (frm_I (Or.inl rfl)) (fun j hj1 => by rw [setI_rd, if_neg (fun z => hj1 z.2)]) ?_ (fun j hj6 => ?_) kk
  · rw [setI_rd, if_pos ⟨rfl, by decide⟩, nI_0]
    exact eq_mask (fun i hi => by rw [b_0]; simp [trU])
  · rw [setI_1 (by decide), hj j hj6]
    exact congrArg nI (lab_congr (fun k _ => Iff.rfl))
end
