/-! What the rows hold that both lay, as whole numbers. -/
def eI (x : Int64) (v : Int) (B : Nat) : Prop := x.toInt = v ∧ v.natAbs ≤ B
section
variable {x y : Int64} {u v : Int} {B C : Nat} {P : Prop}
theorem eI_add (h1 : eI x v B) (h2 : eI y u C) (hb : B + C < 2 ^ 62) : eI (x + y) (v + u) (B + C) := by
  obtain ⟨a1, a2⟩ := h1
  obtain ⟨b1, b2⟩ := h2
  refine ⟨?_, by omega⟩
  rw [Int64.toInt_add, a1, b1]
  exact Int.bmod_eq_of_le (by omega) (by omega)
theorem eI_sub (h1 : eI x v B) (h2 : eI y u C) (hb : B + C < 2 ^ 62) : eI (x - y) (v - u) (B + C) := by
  obtain ⟨a1, a2⟩ := h1
  obtain ⟨b1, b2⟩ := h2
  refine ⟨?_, by omega⟩
  rw [Int64.toInt_sub, a1, b1]
  exact Int.bmod_eq_of_le (by omega) (by omega)
theorem eI_neg (h1 : eI x v B) (hb : B < 2 ^ 62) : eI (-x) (-v) B := by
  obtain ⟨a1, a2⟩ := h1
  refine ⟨?_, by omega⟩
  rw [Int64.toInt_neg, a1]
  exact Int.bmod_eq_of_le (by omega) (by omega)
theorem eI_mul (h1 : eI x v B) (h2 : eI y u C) (hb : B * C < 2 ^ 62) : eI (x * y) (v * u) (B * C) := by
  obtain ⟨a1, a2⟩ := h1
  obtain ⟨b1, b2⟩ := h2
  have : (v * u).natAbs ≤ B * C := by rw [Int.natAbs_mul]; exact Nat.mul_le_mul a2 b2
  refine ⟨?_, this⟩
  rw [Int64.toInt_mul, a1, b1]
  exact Int.bmod_eq_of_le (by omega) (by omega)
theorem eI_dv (h1 : eI x v B) : eI (dv P x) (dI P v) B := by
  by_cases h : P
  · rw [dv_t h, dI_t h]; exact h1
  · rw [dv_f h, dI_f h]; exact ⟨by decide, by omega⟩
theorem eI_le (h1 : eI x v B) (h : B ≤ C) : eI x v C := ⟨h1.1, by have := h1.2; omega⟩
theorem eI_v (h1 : eI x v B) (h : v = u) : eI x u B := h ▸ h1
theorem eI_32 {a : Int32} (h : a.toInt.natAbs ≤ B) : eI a.toInt64 a.toInt B := ⟨Int32.toInt_toInt64 a, h⟩
theorem eI_0 : eI 0 0 0 := ⟨by decide, by decide⟩
theorem eI_1 : eI 1 1 1 := ⟨by decide, by decide⟩
theorem dI_mul {P Q : Prop} {v : Int} : dI (P ∧ Q) v = dI P 1 * dI Q v := by
  by_cases h : P
  · rw [dI_t h, Int.one_mul, dI_iff (show P ∧ Q ↔ Q from ⟨fun z => z.2, fun z => ⟨h, z⟩⟩)]
  · rw [dI_f (fun z => h z.1), dI_f h, Int.zero_mul]
theorem dI_one {P : Prop} {v : Int} : dI P v = dI P 1 * v := by
  by_cases h : P
  · rw [dI_t h, dI_t h, Int.one_mul]
  · rw [dI_f h, dI_f h, Int.zero_mul]
end
section
variable {r : Nat → Int32} {p q l k i j m : Nat}
theorem dI_ee {v : Int} : dI (soug r p ∧ i = rowN r p ∧ soug r q ∧ j = rowN r q) v = v * eP r p i * eP r q j := by
  rw [dI_iff (show (soug r p ∧ i = rowN r p ∧ soug r q ∧ j = rowN r q) ↔ ((soug r p ∧ i = rowN r p) ∧ soug r q ∧ j = rowN r q) from ⟨fun z => ⟨⟨z.1, z.2.1⟩, z.2.2⟩, fun z => ⟨z.1.1, z.1.2, z.2⟩⟩), dI_mul, dI_one (P := soug r q ∧ j = rowN r q)]
  unfold eP
  grind
theorem dI_eq {v : Int} : dI (soug r p ∧ i = rowN r p ∧ j = rowN r p) v = v * eP r p i * eP r p j := by
  rw [← dI_ee]
  exact dI_iff ⟨fun z => ⟨z.1, z.2.1, z.1, z.2.2⟩, fun z => ⟨z.1, z.2.1, z.2.2.2⟩⟩
theorem dI_ec {v : Int} {c : Prop} (hc : c) : dI (soug r p ∧ i = rowN r p ∧ c) v = v * eP r p i := by
  rw [dI_iff (show (soug r p ∧ i = rowN r p ∧ c) ↔ (soug r p ∧ i = rowN r p) from ⟨fun z => ⟨z.1, z.2.1⟩, fun z => ⟨z.1, z.2, hc⟩⟩), dI_one]
  unfold eP
  grind
theorem eP_k (p i : Nat) : eP r p i * kE r p = 0 := by
  by_cases h : soug r p
  · have : kE r p = 0 := by unfold kE; exact dI_f h.2.1
    rw [this, Int.mul_zero]
  · have : eP r p i = 0 := by unfold eP; exact dI_f (fun z => h z.1)
    rw [this, Int.zero_mul]
theorem eP_hi (hV : VR r) (hj : 5 ≤ j) : eP r p j = 0 := by
  unfold eP
  refine dI_f (fun z => ?_)
  have := rowN_lt z.1
  have := wd_5 hV
  omega
theorem kE_b (hV : VR r) : (kE r p).natAbs ≤ 99 := by
  unfold kE
  by_cases h : fxd r p
  · rw [dI_t h]
    have := (hV.2.2.1 p h.1).2
    unfold inH at this
    omega
  · rw [dI_f h]; decide
theorem hf_kE (hV : VR r) (hq : q < rP r) : eI ((r (8 + q)).toInt64 * (r (2 + q)).toInt64) (kE r q) 99 := by
  have hx := hV.2.2.1 q hq
  have hh := hx.2
  unfold inH at hh
  have e1 : eI (r (8 + q)).toInt64 (r (8 + q)).toInt 99 := eI_32 (by omega)
  unfold kE
  rcases hx.1 with z | z
  · rw [dI_f (fun y => by have := y.2; rw [z] at this; exact absurd this (by decide)), z]
    exact ⟨by rw [show (0 : Int32).toInt64 = 0 by decide, Int64.mul_zero]; decide, by decide⟩
  · rw [dI_t ⟨hq, z⟩, z, show (1 : Int32).toInt64 = 1 by decide, Int64.mul_one]
    exact e1
theorem kn_kE (hV : VR r) : eI (knV r q) (kE r q) 99 := by
  unfold knV kE
  by_cases h : fxd r q
  · have := (hV.2.2.1 q h.1).2
    unfold inH at this
    exact eI_dv (eI_32 (by omega))
  · rw [dv_f h, dI_f h]; exact eI_le eI_0 (by omega)
/-- a line at one of its points, in the model's columns -/
theorem tC_i {told : Prop} {w rise : Int64} {W R : Int} (hV : VR r) (hq : q < rP r) (hw : eI w W 4) (hr : eI rise R 99) : eI (tC r told p q w rise i j) (dI (j < 5) (W * eP r p i * (eP r p j - eP r q j)) + dI (j = 5) (W * eP r p i * (R + dI told (kE r q)))) 1604 := by
  have hk := hf_kE hV hq
  have a1 := eI_dv (P := soug r p ∧ i = rowN r p ∧ j = rowN r p) hw
  have a2 := eI_dv (P := soug r p ∧ i = rowN r p ∧ j = 5) (eI_mul hw hr (by decide))
  have a3 := eI_dv (P := soug r p ∧ i = rowN r p ∧ soug r q ∧ j = rowN r q) (eI_neg hw (by decide))
  have a4 := eI_dv (P := soug r p ∧ i = rowN r p ∧ ¬ soug r q ∧ told ∧ j = 5) (eI_mul hw hk (by decide))
  have s := eI_add (eI_add (eI_add a1 a2 (by decide)) a3 (by decide)) a4 (by decide)
  unfold tC
  rw [Int64.mul_assoc]
  refine eI_v (eI_le s (by decide)) ?_
  rw [dI_eq, dI_ee]
  by_cases h5 : j = 5
  · rw [dI_ec (c := j = 5) h5, dI_t (P := j = 5) h5, dI_f (P := j < 5) (by omega), eP_hi hV (show 5 ≤ j by omega), eP_hi hV (show 5 ≤ j by omega)]
    by_cases ht : told
    · rw [dI_t ht]
      by_cases hs : soug r q
      · have : kE r q = 0 := by unfold kE; exact dI_f hs.2.1
        rw [this, dI_f (fun z => z.2.2.1 hs)]
        grind
      · rw [dI_ec (c := ¬ soug r q ∧ told ∧ j = 5) ⟨hs, ht, h5⟩]
        grind
    · rw [dI_f ht, dI_f (fun z => ht z.2.2.2.1)]
      grind
  · rw [dI_f (P := j = 5) h5, dI_f (fun z => h5 z.2.2), dI_f (fun z => h5 z.2.2.2.2)]
    by_cases hj : j < 5
    · rw [dI_t hj]
      grind
    · rw [dI_f hj, eP_hi hV (show 5 ≤ j by omega), eP_hi hV (show 5 ≤ j by omega)]
      grind
theorem pC_i {w rs : Int64} {W R : Int} (hV : VR r) (hw : eI w W 4) (hr : eI rs R 396) : eI (pC r p q w rs i j) (dI (j < 5) (W * eP r p i * (eP r p j - eP r q j)) + dI (j = 10) (eP r p i * (R + W * kE r q))) 1604 := by
  have hk := kn_kE (q := q) hV
  have a1 := eI_dv (P := soug r p ∧ i = rowN r p ∧ j = rowN r p) hw
  have a2 := eI_dv (P := soug r p ∧ i = rowN r p ∧ j = 10) hr
  have a3 := eI_dv (P := soug r p ∧ i = rowN r p ∧ soug r q ∧ j = rowN r q) (eI_neg hw (by decide))
  have a4 := eI_dv (P := soug r p ∧ i = rowN r p ∧ ¬ soug r q ∧ j = 10) (eI_mul hw hk (by decide))
  have s := eI_add (eI_add a1 a2 (by decide)) (eI_add a3 a4 (by decide)) (by decide)
  unfold pC
  refine eI_v (eI_le s (by decide)) ?_
  rw [dI_eq, dI_ee]
  by_cases h5 : j = 10
  · rw [dI_ec (c := j = 10) h5, dI_t (P := j = 10) h5, dI_f (P := j < 5) (by omega), eP_hi hV (show 5 ≤ j by omega), eP_hi hV (show 5 ≤ j by omega)]
    by_cases hs : soug r q
    · have : kE r q = 0 := by unfold kE; exact dI_f hs.2.1
      rw [this, dI_f (fun z => z.2.2.1 hs)]
      grind
    · rw [dI_ec (c := ¬ soug r q ∧ j = 10) ⟨hs, h5⟩]
      grind
  · rw [dI_f (P := j = 10) h5, dI_f (fun z => h5 z.2.2), dI_f (fun z => h5 z.2.2.2)]
    by_cases hj : j < 5
    · rw [dI_t hj]
      grind
    · rw [dI_f hj, eP_hi hV (show 5 ≤ j by omega), eP_hi hV (show 5 ≤ j by omega)]
      grind
theorem w_eI (hV : VR r) (hl : l < rL r) : eI (r (47 + l)).toInt64 (r (47 + l)).toInt 4 := by
  have := (hV.2.2.2 l hl).2.2.2.2.1
  unfold inW at this
  exact eI_32 (by omega)
theorem s_eI (hV : VR r) (hl : l < rL r) : eI (r (36 + l)).toInt64 (r (36 + l)).toInt 99 := by
  have := (hV.2.2.2 l hl).2.2.2.1
  unfold inH at this
  exact eI_32 (by omega)
theorem lC_i {told : Prop} (hV : VR r) (hl : l < rL r) : eI (lC r told l i j) (dI (j < 5) ((r (47 + l)).toInt * cE r l i * cE r l j) + dI (j = 5 ∧ told) ((r (47 + l)).toInt * cE r l i * gE r l)) 3208 := by
  have hVl := hV.2.2.2 l hl
  have hw := w_eI hV hl
  have hr : eI (riT r told l) (dI told (r (36 + l)).toInt) 99 := eI_dv (s_eI hV hl)
  have s := eI_add (tC_i (told := told) (p := rB r l) (i := i) (j := j) hV hVl.1.2 hw hr) (tC_i (told := told) (p := rA r l) (i := i) (j := j) hV hVl.2.1.2 hw (eI_neg hr (by decide))) (by decide)
  unfold lC
  refine eI_v s ?_
  have k1 := eP_k (r := r) (rA r l) i
  have k2 := eP_k (r := r) (rB r l) i
  by_cases h5 : j = 5
  · rw [dI_t (P := j = 5) h5, dI_t (P := j = 5) h5, dI_f (P := j < 5) (by omega), dI_f (P := j < 5) (by omega), dI_f (P := j < 5) (by omega)]
    by_cases ht : told
    · rw [dI_t ht, dI_t ht, dI_t ht, dI_t (P := j = 5 ∧ told) ⟨h5, ht⟩]
      unfold cE gE
      grind
    · rw [dI_f ht, dI_f ht, dI_f ht, dI_f (P := j = 5 ∧ told) (fun z => ht z.2)]
      grind
  · rw [dI_f (P := j = 5) h5, dI_f (P := j = 5) h5, dI_f (P := j = 5 ∧ told) (fun z => h5 z.1)]
    by_cases hj : j < 5
    · rw [dI_t hj, dI_t hj, dI_t hj]
      unfold cE
      grind
    · rw [dI_f hj, dI_f hj, dI_f hj]
      grind
theorem pLC_i (hV : VR r) (hl : l < rL r) : eI (pLC r l i j) (dI (j < 5) ((r (47 + l)).toInt * cE r l i * cE r l j) + dI (j = 10) ((r (47 + l)).toInt * cE r l i * gE r l)) 3208 := by
  have hw := w_eI hV hl
  have hr := eI_mul hw (s_eI hV hl) (by decide)
  have s := eI_add (pC_i (p := rA r l) (q := rB r l) (i := i) (j := j) hV hw (eI_neg hr (by decide))) (pC_i (p := rB r l) (q := rA r l) (i := i) (j := j) hV hw hr) (by decide)
  unfold pLC
  refine eI_v s ?_
  have k1 := eP_k (r := r) (rA r l) i
  have k2 := eP_k (r := r) (rB r l) i
  by_cases h5 : j = 10
  · rw [dI_t (P := j = 10) h5, dI_t (P := j = 10) h5, dI_t (P := j = 10) h5, dI_f (P := j < 5) (by omega), dI_f (P := j < 5) (by omega), dI_f (P := j < 5) (by omega)]
    unfold cE gE
    grind
  · rw [dI_f (P := j = 10) h5, dI_f (P := j = 10) h5, dI_f (P := j = 10) h5]
    by_cases hj : j < 5
    · rw [dI_t hj, dI_t hj, dI_t hj]
      unfold cE
      grind
    · rw [dI_f hj, dI_f hj, dI_f hj]
      grind
theorem LSm_i {told : Prop} (hV : VR r) : ∀ m, m ≤ rL r → eI (LSm r told m i j) (dI (j < 5) (Am m (wE r) (cE r) i j) + dI (j = 5 ∧ told) (bV m (wE r) (gE r) (cE r) i)) (3208 * m) := by
  have h11 := hV.2.1.2
  intro m
  induction m with
  | zero =>
    intro _
    show eI 0 (dI (j < 5) 0 + dI (j = 5 ∧ told) 0) 0
    refine eI_v eI_0 ?_
    rw [dI_one, dI_one (v := 0), Int.mul_zero, Int.mul_zero]
    rfl
  | succ m ih =>
    intro hm
    have s := eI_add (ih (by omega)) (eI_dv (P := snd r m) (lC_i (told := told) (i := i) (j := j) hV (show m < rL r by omega))) (by omega)
    refine eI_v (eI_le s (by omega)) ?_
    show _ = dI (j < 5) (Am m (wE r) (cE r) i j + wE r m * cE r m i * cE r m j) + dI (j = 5 ∧ told) (bV m (wE r) (gE r) (cE r) i + wE r m * cE r m i * gE r m)
    unfold wE
    rw [dI_one (P := snd r m), dI_one (P := snd r m) (v := (r (47 + m)).toInt), dI_one (P := j < 5), dI_one (P := j < 5) (v := (r (47 + m)).toInt * cE r m i * cE r m j), dI_one (P := j < 5) (v := Am m (fun l => dI (snd r l) (r (47 + l)).toInt) (cE r) i j + _), dI_one (P := j = 5 ∧ told), dI_one (P := j = 5 ∧ told) (v := (r (47 + m)).toInt * cE r m i * gE r m), dI_one (P := j = 5 ∧ told) (v := bV m (fun l => dI (snd r l) (r (47 + l)).toInt) (gE r) (cE r) i + _)]
    grind
theorem TCn_i (hV : VR r) (hj : j < 11) : ∀ m, m ≤ rL r → eI (TCn r m i j) (dI (j < 5) (Am m (wE r) (cE r) i j) + dI (j = 10) (bV m (wE r) (gE r) (cE r) i) + dI (j = 5 + i) 1) (3208 * m + 1) := by
  have h11 := hV.2.1.2
  intro m
  induction m with
  | zero =>
    intro _
    show eI (if j = 5 + i then 1 else 0) (dI (j < 5) 0 + dI (j = 10) 0 + dI (j = 5 + i) 1) 1
    rw [dI_one (P := j < 5), dI_one (P := j = 10), Int.mul_zero, Int.mul_zero]
    by_cases e : j = 5 + i
    · rw [if_pos e, dI_t e]; exact eI_1
    · rw [if_neg e, dI_f e]; exact eI_le eI_0 (by omega)
  | succ m ih =>
    intro hm
    have s := eI_add (ih (by omega)) (eI_dv (P := snd r m) (pLC_i (i := i) (j := j) hV (show m < rL r by omega))) (by omega)
    refine eI_v (eI_le s (by omega)) ?_
    show _ = dI (j < 5) (Am m (wE r) (cE r) i j + wE r m * cE r m i * cE r m j) + dI (j = 10) (bV m (wE r) (gE r) (cE r) i + wE r m * cE r m i * gE r m) + dI (j = 5 + i) 1
    unfold wE
    rw [dI_one (P := snd r m), dI_one (P := snd r m) (v := (r (47 + m)).toInt), dI_one (P := j < 5), dI_one (P := j < 5) (v := (r (47 + m)).toInt * cE r m i * cE r m j), dI_one (P := j < 5) (v := Am m (fun l => dI (snd r l) (r (47 + l)).toInt) (cE r) i j + _), dI_one (P := j = 10), dI_one (P := j = 10) (v := (r (47 + m)).toInt * cE r m i * gE r m), dI_one (P := j = 10) (v := bV m (fun l => dI (snd r l) (r (47 + l)).toInt) (gE r) (cE r) i + _)]
    grind
end
