/-! The class settles; halves; what is a point, a line. -/
noncomputable def hlf (v : Int) (B : Nat) (x : Int32) : Int64 := if x = 0 then iL (rN v B) else lN (rD v B)
theorem gcd_iL {v : Int} {B : Nat} (hv : v.natAbs < 2 ^ 63) (hB : 0 < B) (hB2 : B < 2 ^ 63) : iL v / lN (Nat.gcd v.natAbs B) = iL (rN v B) := by
  have hg : 0 < Nat.gcd v.natAbs B := Nat.gcd_pos_of_pos_right _ hB
  have hg2 : Nat.gcd v.natAbs B ≤ B := Nat.gcd_le_right _ hB
  have d3 : ((Nat.gcd v.natAbs B : Nat) : Int) ∣ v := Int.ofNat_dvd_left.mpr (Nat.gcd_dvd_left _ _)
  have hb := (r_back (a := v) (b := B)).2.1
  apply Int64.toInt_inj.mp
  rw [Int64.toInt_div, iL_T (B := v.natAbs) (Nat.le_refl _) hv, pk_lT (by omega), iL_T (B := v.natAbs) hb hv]
  unfold rN at hb ⊢
  generalize Nat.gcd v.natAbs B = G at *
  obtain ⟨y, hy⟩ := d3
  have e1 : v / (G : Int) = y := by rw [hy]; exact Int.mul_ediv_cancel_left _ (by omega)
  have e2 : v.tdiv (G : Int) = y := by rw [hy]; exact Int.mul_tdiv_cancel_left _ (by omega)
  rw [e1] at hb ⊢
  rw [e2]
  show y.bmod (2 ^ 64) = y
  exact Int.bmod_eq_of_le (by omega) (by omega)
theorem gcd_lN {v : Int} {B : Nat} (hB : 0 < B) (hB2 : B < 2 ^ 63) : lN B / lN (Nat.gcd v.natAbs B) = lN (rD v B) := by
  have hg : 0 < Nat.gcd v.natAbs B := Nat.gcd_pos_of_pos_right _ hB
  have hg2 : Nat.gcd v.natAbs B ≤ B := Nat.gcd_le_right _ hB
  rw [dvL hB2 hg (by omega)]
  rfl
def isP (r : Nat → Int32) (x : Int32) : Prop := ∃ p, p < rP r ∧ x = nI p
def isL (r : Nat → Int32) (x : Int32) : Prop := ∃ l, l < rL r ∧ x = nI l
def isS (r : Nat → Int32) (x : Int32) : Prop := ∃ l, snd r l ∧ x = nI l
def isH (x : Int32) : Prop := x = 0 ∨ x = 1
/-- the class behind a call -/
def cls (r : Nat → Int32) (h : Hp) : Prop := VR r ∧ CN h 21 r ∧ isB (h.1 0 11) ∧ (h.1 0 11 = 0 → tiOK r h ∧ balOK r h)
def stS (a j : Nat) : Prop := (8 ≤ a ∧ a ≤ 20) ∨ (a = 0 ∧ j = 11)
section
variable {d : Nat} {h : Hp} {Q : Option (Option Value) → Hp → Prop} {x y z t : Int32} {u w v rs : Int64} {k l p q : Nat} {r : Nat → Int32}
theorem c_halfI {v : Int} {B : Nat} (hv : v.natAbs < 2 ^ 63) (hB : 0 < B) (hB2 : B < 2 ^ 63) : WP (d + 1) 19 0 [some (.long (iL v)), none, some (.long (lN B)), none, some (.int x)] [] h Q ↔ Q (some (some (.long (hlf v B x)))) h := by
  rw [c_half (A := v.natAbs) (by rw [iL_T (B := v.natAbs) (Nat.le_refl _) hv]) hv hB hB2, gcd_iL hv hB hB2, gcd_lN hB hB2]
  unfold hlf
  exact Iff.rfl
theorem isP_if (hV : VR r) {m : Int32} (hm : m = r 0) : (if x < 0 then (0 : Int32) else if m ≤ x then 0 else 1) = pb (isP r x) := by
  have hP := hV.1
  subst hm
  by_cases h0 : x < 0
  · rw [if_pos h0, pb_f (fun z => by
      obtain ⟨p, h1, h2⟩ := z
      rw [h2] at h0
      exact nI_pos (by omega) h0)]
  · obtain ⟨j, hj, rfl⟩ := nI_of h0
    rw [if_neg h0, hP.1]
    by_cases e : rP r ≤ j
    · rw [if_pos (nI_le e hj), pb_f (fun z => by
        obtain ⟨p, h1, h2⟩ := z
        have := (nI_eq hj (by omega)).mp h2
        omega)]
    · rw [if_neg (nI_ge (by omega) (by omega)), pb_t ⟨j, by omega, rfl⟩]
theorem isL_if (hV : VR r) {m : Int32} (hm : m = r 1) : (if x < 0 then (0 : Int32) else if m ≤ x then 0 else 1) = pb (isL r x) := by
  have hP := hV.2.1
  subst hm
  by_cases h0 : x < 0
  · rw [if_pos h0, pb_f (fun z => by
      obtain ⟨p, h1, h2⟩ := z
      rw [h2] at h0
      exact nI_pos (by omega) h0)]
  · obtain ⟨j, hj, rfl⟩ := nI_of h0
    rw [if_neg h0, hP.1]
    by_cases e : rL r ≤ j
    · rw [if_pos (nI_le e hj), pb_f (fun z => by
        obtain ⟨p, h1, h2⟩ := z
        have := (nI_eq hj (by omega)).mp h2
        omega)]
    · rw [if_neg (nI_ge (by omega) (by omega)), pb_t ⟨j, by omega, rfl⟩]
theorem c_isPointX (hV : VR r) (hN : CN h 21 r) : WP d 89 0 [some (.ref 0), some (.int x)] [] h Q ↔ Q (some (some (.int (pb (isP r x))))) h := by
  rw [c_isPoint, isP_if hV hN.1]
theorem c_isLineX (hV : VR r) (hN : CN h 21 r) : WP d 90 0 [some (.ref 0), some (.int x)] [] h Q ↔ Q (some (some (.int (pb (isL r x))))) h := by
  rw [c_isLine, isL_if hV hN.2.2.1]
theorem c_isHalfX : WP d 93 0 [some (.int x)] [] h Q ↔ Q (some (some (.int (pb (isH x))))) h := by
  rw [c_isHalf]
  unfold isH
  by_cases h0 : x = 0
  · rw [if_pos h0, pb_t (Or.inl h0)]
  · rw [if_neg h0]
    by_cases h1 : x = 1
    · rw [if_pos h1, pb_t (Or.inr h1)]
    · rw [if_neg h1, pb_f (fun z => by rcases z with z | z; exact h0 z; exact h1 z)]
theorem isS_no (hx : ¬ isL r x) : ¬ isS r x := fun z => by
  obtain ⟨l, h1, h2⟩ := z
  exact hx ⟨l, h1.1, h2⟩
theorem isS_nI (hV : VR r) (hl : l < rL r) : isS r (nI l) ↔ snd r l := by
  have h11 := hV.2.1.2
  constructor
  · intro z
    obtain ⟨l', h1, h2⟩ := z
    have := (nI_eq (by omega) (by have := h1.1; omega)).mp h2
    rw [this]
    exact h1
  · exact fun z => ⟨l, z, rfl⟩
theorem c_isSoundLineX (hV : VR r) (hN : CN h 21 r) : WP (d + 1) 91 0 [some (.ref 0), some (.int x)] [] h Q ↔ Q (some (some (.int (pb (isS r x))))) h := by
  have h11 := hV.2.1.2
  simp only [S91_0, S91_1, S91_2, S91_5, S91_8, S91_9, S91_12, S91_15, S91_16, S91_19, S91_20, S91_23, S91_24, S91_27, S91_28, shp_0, RV_0_0, RV_0_1, RV_0_2, RV_0_3, RV_0_4, RV_0_5, RV_0_9, RV_0_10, shp_21, RV_21_2, RV_21_5, RV_21_6, RV_21_7, RV_21_8, c_isLineX hV hN, kR_at, isB_0, isB_1]
  by_cases hx : isL r x
  · obtain ⟨l, hl, rfl⟩ := hx
    have hx : isL r (nI l) := ⟨l, hl, rfl⟩
    rw [if_neg (fun z => pb_0.mp z hx)]
    simp only [c_bit, hN.2.2.2.1, bitm (show l < 32 by omega), kR_at, S91_0, S91_1, S91_2, S91_5, S91_8, S91_9, S91_12, S91_15, S91_16, S91_19, S91_20, S91_23, S91_24, S91_27, S91_28, isB_0, isB_1]
    by_cases hs : snd r l
    · rw [if_pos (pb_1.mpr hs), pb_t ((isS_nI hV hl).mpr hs)]
    · rw [if_neg (fun z => hs (pb_1.mp z)), pb_f (fun z => hs ((isS_nI hV hl).mp z))]
  · rw [if_pos (pb_0.mpr hx), pb_f (isS_no hx)]
theorem c_settle (hC : cls r h) (kk : ∀ h' : Hp, frmF stS h h' → stl r h' → h'.1 0 11 = 0 → Q (some none) h') : WP (d + 5) 87 0 [some (.ref 0)] [] h Q := by
  obtain ⟨hV, hN, hb, hc⟩ := hC
  simp only [S87_0, S87_1, S87_4, S87_7, S87_8, S87_11, S87_12, S87_15, S87_18, S87_19, S87_22, S87_23, S87_26, S87_27, S87_30, S87_33, S87_34, S87_35, S87_38, shp_0, RV_0_0, RV_0_1, RV_0_2, RV_0_3, RV_0_4, RV_0_5, RV_0_9, RV_0_10, shp_8, RV_8_0, RV_8_5, RV_8_6, shp_12, RV_12_1, RV_12_2, RV_12_3, isB_0]
  by_cases h0 : h.1 0 11 = 0
  · rw [if_pos h0]
    exact kk h frmF_rf ⟨hV, hN, hc h0⟩ h0
  · rw [if_neg h0]
    refine c_tsettle (d := d + 1) hV hN (fun h1 f1 t1 => ?_)
    have hN1 : CN h1 21 r := CN_frm f1 (fun a z1 z2 z3 => by have := z3.2; omega) hN
    simp only [kV_at, S87_0, S87_1, S87_4, S87_7, S87_8, S87_11, S87_12, S87_15, S87_18, S87_19, S87_22, S87_23, S87_26, S87_27, S87_30, S87_33, S87_34, S87_35, S87_38, shp_0, RV_0_0, RV_0_1, RV_0_2, RV_0_3, RV_0_4, RV_0_5, RV_0_9, RV_0_10, shp_8, RV_8_0, RV_8_5, RV_8_6, shp_12, RV_12_1, RV_12_2, RV_12_3, isB_0]
    refine c_bsettle (d := d) hV hN1 t1 (TC_nz hV) (fun h2 f2 n2 t2 b2 => ?_)
    simp only [kV_at, S87_0, S87_1, S87_4, S87_7, S87_8, S87_11, S87_12, S87_15, S87_18, S87_19, S87_22, S87_23, S87_26, S87_27, S87_30, S87_33, S87_34, S87_35, S87_38, shp_0, RV_0_0, RV_0_1, RV_0_2, RV_0_3, RV_0_4, RV_0_5, RV_0_9, RV_0_10, shp_8, RV_8_0, RV_8_5, RV_8_6, shp_12, RV_12_1, RV_12_2, RV_12_3, isB_0]
    have g1 : frmF stS h h1 := frmF_frm (fun a j z => Or.inl ⟨z.1, by have := z.2; omega⟩) f1
    have g2 : frmF stS h1 h2 := ⟨fun a j hn => f2.1 a j (fun z => hn (Or.inl ⟨by have := z.1; omega, z.2⟩)), f2.2⟩
    refine kk _ (frmF_tr (frmF_tr g1 g2) (frmF_I (Or.inr ⟨rfl, rfl⟩))) ?_ (by rw [setI_rd, if_pos ⟨rfl, rfl⟩])
    refine ⟨hV, ?_, ?_, ?_⟩
    · exact CN_frm (S := fun a => a = 0) (frm_I rfl) (fun a z1 z2 z3 => by omega) n2
    · exact tiOK_frm (S := fun a => a = 0) (frm_I rfl) (fun a z1 z2 z3 => by omega) t2
    · obtain ⟨q1, q2, q3, q4, q5⟩ := b2
      refine ⟨by rw [setI_1 (by decide)]; exact q1, fun p hp => by rw [setI_1 (by decide)]; exact q2 p hp, q3, q4, q5⟩
theorem stl_cls (hS : stl r h) (h0 : h.1 0 11 = 0) : cls r h := ⟨hS.1, hS.2.1, by rw [h0]; exact isB_0, fun _ => hS.2.2⟩
end
