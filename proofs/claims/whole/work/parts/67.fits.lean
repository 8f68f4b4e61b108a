/-! All that is eliminated fits; what both come to. -/
noncomputable def degN (r : Nat → Int32) (y : Nat) : Nat := sN (rL r) (fun l => (wE r l).natAbs * (cE r l y).natAbs)
section
variable {r : Nat → Int32} {p q l k i j m n : Nat}
theorem eP_01 : (eP r p i).natAbs ≤ 1 ∧ 0 ≤ eP r p i := by
  unfold eP
  by_cases h : soug r p ∧ i = rowN r p
  · rw [dI_t h]; decide
  · rw [dI_f h]; decide
theorem sN_ind {f : Nat → Nat} {a : Nat} (h1 : ∀ y, f y ≤ 1) (h2 : ∀ y, y ≠ a → f y = 0) : ∀ n, sN n f ≤ 1 ∧ (n ≤ a → sN n f = 0) := by
  intro n
  induction n with
  | zero => exact ⟨Nat.zero_le _, fun _ => rfl⟩
  | succ n ih =>
    show sN n f + f n ≤ 1 ∧ (n + 1 ≤ a → sN n f + f n = 0)
    by_cases e : n = a
    · have := h1 n
      have := ih.2 (by omega)
      exact ⟨by omega, fun z => by omega⟩
    · have := h2 n e
      have := ih.1
      exact ⟨by omega, fun z => by have := ih.2 (by omega); omega⟩
theorem eP_sN : sN n (fun y => (eP r p y).natAbs) ≤ 1 := by
  refine (sN_ind (a := rowN r p) (fun y => eP_01.1) (fun y hy => ?_) n).1
  unfold eP
  rw [dI_f (fun z => hy z.2)]
  rfl
theorem cE_1 : (cE r l i).natAbs ≤ 1 := by
  unfold cE
  have h1 := eP_01 (r := r) (p := rB r l) (i := i)
  have h2 := eP_01 (r := r) (p := rA r l) (i := i)
  omega
theorem cE_sN : sN n (fun y => (cE r l y).natAbs) ≤ 2 := by
  have h1 := eP_sN (r := r) (p := rB r l) (n := n)
  have h2 := eP_sN (r := r) (p := rA r l) (n := n)
  have h3 : sN n (fun y => (cE r l y).natAbs) ≤ sN n (fun y => (eP r (rB r l) y).natAbs + (eP r (rA r l) y).natAbs) := sN_le (fun y _ => by unfold cE; omega)
  rw [sN_add] at h3
  omega
theorem wE_4 (hV : VR r) (hl : l < rL r) : (wE r l).natAbs ≤ 4 := by
  unfold wE
  by_cases h : snd r l
  · rw [dI_t h]
    have := (hV.2.2.2 l hl).2.2.2.2.1
    unfold inW at this
    omega
  · rw [dI_f h]; decide
theorem wE_44 (hV : VR r) : sN (rL r) (fun l => (wE r l).natAbs) ≤ 44 := by
  have h11 := hV.2.1.2
  have : ∀ m, m ≤ rL r → sN m (fun l => (wE r l).natAbs) ≤ 4 * m := fun m => by
    induction m with
    | zero => intro _; exact Nat.le_refl _
    | succ m ih =>
      intro hm
      have h1 := ih (by omega)
      have h2 := wE_4 hV (show m < rL r by omega)
      show sN m (fun l => (wE r l).natAbs) + (wE r m).natAbs ≤ _
      omega
  have := this _ (Nat.le_refl _)
  omega
theorem Am_abs {x y : Nat} : (Am (rL r) (wE r) (cE r) x y).natAbs ≤ sN (rL r) (fun l => (wE r l).natAbs * (cE r l y).natAbs * (cE r l x).natAbs) := by
  refine Nat.le_trans sm_abs (sN_le (fun l _ => ?_))
  rw [Int.natAbs_mul, Int.natAbs_mul, Nat.mul_right_comm]
  exact Nat.le_refl _
theorem Am_col {y : Nat} : sN n (fun x => (Am (rL r) (wE r) (cE r) x y).natAbs) ≤ 2 * degN r y := by
  refine Nat.le_trans (sN_le (fun x _ => Am_abs)) ?_
  rw [sN_swap]
  unfold degN
  rw [← sN_mul]
  refine sN_le (fun l _ => ?_)
  rw [sN_mul, Nat.mul_comm 2]
  exact Nat.mul_le_mul_left _ cE_sN
theorem Am_dia {y : Nat} : (Am (rL r) (wE r) (cE r) y y).natAbs ≤ degN r y := by
  refine Nat.le_trans Am_abs (sN_le (fun l _ => ?_))
  have := cE_1 (r := r) (l := l) (i := y)
  exact Nat.le_trans (Nat.mul_le_mul_left _ this) (by omega)
theorem deg_sN (hV : VR r) : sN n (degN r) ≤ 88 := by
  unfold degN
  rw [sN_swap]
  have h1 : sN (rL r) (fun l => sN n (fun y => (wE r l).natAbs * (cE r l y).natAbs)) ≤ sN (rL r) (fun l => (wE r l).natAbs * 2) := sN_le (fun l _ => by rw [sN_mul]; exact Nat.mul_le_mul_left _ cE_sN)
  rw [sN_mulr] at h1
  have := wE_44 hV
  omega
noncomputable def uN (r : Nat → Int32) (y : Nat) : Nat := degN r y + 1
theorem uN_5 (hV : VR r) : pN 5 (uN r) ≤ 2226204 := by
  refine pN5 ?_
  have : sN 5 (uN r) = sN 5 (degN r) + sN 5 (fun _ => 1) := sN_add
  have h1 := deg_sN (n := 5) hV
  have h2 : sN 5 (fun _ => 1) = 5 := rfl
  omega
theorem uN_4 (hV : VR r) : pN 4 (uN r) ≤ 279841 := by
  refine pN4 ?_
  have : sN 4 (uN r) = sN 4 (degN r) + sN 4 (fun _ => 1) := sN_add
  have h1 := deg_sN (n := 4) hV
  have h2 : sN 4 (fun _ => 1) = 4 := rfl
  omega
/-- rows that hold the lines -/
def hasA (r : Nat → Int32) (T : Mx) : Prop := ∀ i j, i < wd r → j < wd r → T i j = Am (rL r) (wE r) (cE r) i j
theorem det_uN (hV : VR r) {T : Mx} (hA : hasA r T) : ∀ t, t ≤ wd r → 0 < det t T ∧ det t T ≤ (pN t (uN r) : Nat) := by
  have hpd := Am_PD (sep_r hV) hA
  intro t
  induction t with
  | zero => intro _; exact ⟨show (0 : Int) < 1 by decide, show (1 : Int) ≤ ((1 : Nat) : Int) by decide⟩
  | succ t ih =>
    intro ht
    have ih := ih (by omega)
    refine ⟨det_pos hpd _ ht, ?_⟩
    have h1 := det_le hpd (fun i j hi hj => by rw [hA i j hi hj, hA j i hj hi, Am_sym]) (show t < wd r by omega)
    refine Int.le_trans h1 ?_
    rw [hA t t (by omega) (by omega), pN_last, Int.natCast_mul]
    have h2 := Am_dia (r := r) (y := t)
    have h3 : Am (rL r) (wE r) (cE r) t t ≤ ((uN r t : Nat) : Int) := by unfold uN; omega
    refine Int.le_trans (Int.mul_le_mul_of_nonneg_left h3 (by omega)) ?_
    exact Int.mul_le_mul_of_nonneg_right ih.2 (by omega)
theorem uN_1 (y : Nat) : 1 ≤ uN r y := by unfold uN; omega
theorem det_U (hV : VR r) {T : Mx} (hA : hasA r T) {t : Nat} (ht : t ≤ wd r) : 0 < det t T ∧ det t T ≤ 2226204 := by
  have h1 := det_uN hV hA t ht
  have h2 := pN_mon (f := uN r) uN_1 (show t ≤ 5 by have := wd_5 hV; omega)
  have h3 := uN_5 hV
  exact ⟨h1.1, by omega⟩
theorem pN_two {f : Nat → Nat} : ∀ k, pN k (fun y => 2 * f y) = 2 ^ k * pN k f := by
  intro k
  induction k with
  | zero => rfl
  | succ k ih => rw [pN_last, pN_last, ih, Nat.pow_succ]; grind
theorem GI_U (hV : VR r) {T : Mx} (hA : hasA r T) {t : Nat} (ht : t ≤ wd r) {B : Nat} (hX : sN (wd r) (fun x => (T x j).natAbs) ≤ B) : (GI (wd r) T t i j).natAbs ≤ 71238528 * (B + 1) := by
  have h5 := wd_5 hV
  refine Nat.le_trans (GI_bnd ht) (Nat.mul_le_mul ?_ (by omega))
  have h1 : pN t (fun y => sN (wd r) (fun x => (T x y).natAbs) + 1) ≤ pN t (fun y => 2 * uN r y) := pN_le (fun y hy => by
    have e : sN (wd r) (fun x => (T x y).natAbs) ≤ sN (wd r) (fun x => (Am (rL r) (wE r) (cE r) x y).natAbs) := sN_le (fun x hx => by rw [hA x y hx (by omega)]; exact Nat.le_refl _)
    have := Am_col (r := r) (n := wd r) (y := y)
    unfold uN
    omega)
  rw [pN_two] at h1
  have h2 := pN_mon (f := uN r) uN_1 (show t ≤ 5 by omega)
  have h3 := uN_5 hV
  have h4 : 2 ^ t ≤ 2 ^ 5 := Nat.pow_le_pow_right (by decide) (by omega)
  have h6 : 2 ^ t * pN t (uN r) ≤ 2 ^ 5 * 2226204 := Nat.mul_le_mul h4 (by omega)
  omega
theorem gE_297 (hV : VR r) (hl : l < rL r) : (gE r l).natAbs ≤ 297 := by
  have := (hV.2.2.2 l hl).2.2.2.1
  unfold inH at this
  have h1 := kE_b (p := rA r l) hV
  have h2 := kE_b (p := rB r l) hV
  unfold gE
  omega
theorem bV_col (hV : VR r) : sN n (fun x => (bV (rL r) (wE r) (gE r) (cE r) x).natAbs) ≤ 26136 := by
  have h1 : sN n (fun x => (bV (rL r) (wE r) (gE r) (cE r) x).natAbs) ≤ sN n (fun x => sN (rL r) (fun l => (wE r l).natAbs * 297 * (cE r l x).natAbs)) := sN_le (fun x _ => Nat.le_trans sm_abs (sN_le (fun l hl => by
    rw [Int.natAbs_mul, Int.natAbs_mul, Nat.mul_right_comm]
    exact Nat.mul_le_mul_right _ (Nat.mul_le_mul_left _ (gE_297 hV hl)))))
  rw [sN_swap] at h1
  have h2 : sN (rL r) (fun l => sN n (fun x => (wE r l).natAbs * 297 * (cE r l x).natAbs)) ≤ sN (rL r) (fun l => (wE r l).natAbs * 594) := sN_le (fun l _ => by
    rw [sN_mul]
    refine Nat.le_trans (Nat.mul_le_mul_left _ cE_sN) ?_
    omega)
  rw [sN_mulr] at h2
  have := wE_44 hV
  omega
/-- elimination in 64 bits is exact -/
theorem sysT {c : Nat} {T : Nat → Nat → Int64} (hV : VR r) (hc : wd r ≤ c) (hA : hasA r (ti T)) (hX : ∀ j, j < c → sN (wd r) (fun x => (ti T x j).natAbs) ≤ 26136) {k : Nat} (hk : k ≤ wd r) :
    (gjT (wd r) T k).2.toInt = det k (ti T) ∧ ∀ i j, i < wd r → j < c → ((gjT (wd r) T k).1 i j).toInt = GI (wd r) (ti T) k i j := by
  refine gj_exact hc k hk (fun t ht => by have := (det_U hV hA (show t ≤ wd r by omega)).1; omega) (fun t ht i j hi hj => ?_)
  have h1 := det_U hV hA (show t ≤ wd r by omega)
  have h2 := GI_U (i := i) hV hA (show t + 1 ≤ wd r by omega) (hX j hj)
  rw [Int.natAbs_mul]
  have h3 : (det t (ti T)).natAbs ≤ 2226204 := by omega
  have := Nat.mul_le_mul h3 h2
  omega
theorem sysN {c : Nat} {T : Nat → Nat → Int64} (hV : VR r) (hc : wd r ≤ c) (hA : hasA r (ti T)) (hX : ∀ j, j < c → sN (wd r) (fun x => (ti T x j).natAbs) ≤ 26136) : ∀ k, k < wd r → (gjT (wd r) T k).2 ≠ 0 := by
  intro k hk z
  have h1 := (sysT hV hc hA hX (show k ≤ wd r by omega)).1
  have h2 := (det_U hV hA (show k ≤ wd r by omega)).1
  rw [z] at h1
  have : (0 : Int64).toInt = 0 := by decide
  omega
noncomputable def dd (r : Nat → Int32) : Int := det (wd r) (Am (rL r) (wE r) (cE r))
theorem dd_T {T : Mx} (hA : hasA r T) : det (wd r) T = dd r := det_congr (fun x y hx hy => hA x y hx hy)
theorem dd_U (hV : VR r) : 0 < dd r ∧ dd r ≤ 2226204 := det_U hV (T := Am (rL r) (wE r) (cE r)) (fun _ _ _ _ => rfl) (Nat.le_refl _)
abbrev solR (r : Nat → Int32) (y X : Nat → Int) : Prop := sol (wd r) (rL r) (wE r) (cE r) (dd r) y X
theorem sysS {c : Nat} {T : Nat → Nat → Int64} (hV : VR r) (hc : wd r ≤ c) (hA : hasA r (ti T)) (hX : ∀ j, j < c → sN (wd r) (fun x => (ti T x j).natAbs) ≤ 26136) :
    (gjT (wd r) T (wd r)).2.toInt = dd r ∧ ∀ j, wd r ≤ j → j < c → solR r (fun i => ((gjT (wd r) T (wd r)).1 i j).toInt) (fun i => (T i j).toInt) ∧ ∀ i, i < wd r → (((gjT (wd r) T (wd r)).1 i j).toInt).natAbs ≤ 71238528 * (sN (wd r) (fun x => (ti T x j).natAbs) + 1) := by
  have h := sysT hV hc hA hX (Nat.le_refl _)
  refine ⟨by rw [h.1]; exact dd_T hA, fun j h1 h2 => ⟨fun i hi => ?_, fun i hi => ?_⟩⟩
  · have := gj_sol (sep_r hV) hA h1 i hi
    rw [dd_T hA] at this
    rw [sm_congr (g := fun k => Am (rL r) (wE r) (cE r) i k * GI (wd r) (ti T) (wd r) k j) (fun k hk => congrArg (fun z => Am (rL r) (wE r) (cE r) i k * z) (h.2 k j hk h2))]
    exact this
  · rw [h.2 i j hi h2]
    exact GI_U hV hA (Nat.le_refl _) (Nat.le_refl _)
end
