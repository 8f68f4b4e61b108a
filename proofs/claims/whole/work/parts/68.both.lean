/-! What the class's rows and the model's rows come to. -/
noncomputable def yS (r : Nat → Int32) (i : Nat) : Int := ((TCf r).1 i 10).toInt
noncomputable def iS (r : Nat → Int32) (k i : Nat) : Int := ((TCf r).1 i (5 + k)).toInt
noncomputable def uS (r : Nat → Int32) (p i : Nat) : Int := dI (soug r p) (iS r (rowN r p) i)
noncomputable def inv (r : Nat → Int32) (p q : Nat) : Int := dI (soug r p ∧ soug r q) (iS r (rowN r q) (rowN r p))
noncomputable def dbt (r : Nat → Int32) (p q : Nat) : Int := inv r p p + inv r q q - 2 * inv r p q
section
variable {r : Nat → Int32} {p q l k i j m n : Nat}
theorem deg_88 (hV : VR r) : degN r j ≤ 88 := by
  have := deg_sN (n := j + 1) hV
  have e : sN (j + 1) (degN r) = sN j (degN r) + degN r j := rfl
  omega
theorem col_A (hV : VR r) : sN n (fun x => (Am (rL r) (wE r) (cE r) x j).natAbs) ≤ 26136 := by
  have := Am_col (r := r) (n := n) (y := j)
  have := deg_88 (j := j) hV
  omega
theorem sN_congr {f g : Nat → Nat} (h : ∀ x, x < n → f x = g x) : sN n f = sN n g := Nat.le_antisymm (sN_le (fun x hx => Nat.le_of_eq (h x hx))) (sN_le (fun x hx => Nat.le_of_eq (h x hx).symm))
/-! class -/
theorem TC_A (hV : VR r) (hj : j < 5) : ti (TCn r (rL r)) i j = Am (rL r) (wE r) (cE r) i j := by
  have := (TCn_i (i := i) hV (show j < 11 by omega) (rL r) (Nat.le_refl _)).1
  rw [dI_t hj, dI_f (P := j = 10) (by omega), dI_f (P := j = 5 + i) (by omega)] at this
  unfold ti
  omega
theorem TC_e (hV : VR r) (hj : k < 5) : ti (TCn r (rL r)) i (5 + k) = dI (i = k) 1 := by
  have := (TCn_i (i := i) hV (show 5 + k < 11 by omega) (rL r) (Nat.le_refl _)).1
  rw [dI_f (P := 5 + k < 5) (by omega), dI_f (P := 5 + k = 10) (by omega), dI_iff (show 5 + k = 5 + i ↔ i = k by omega)] at this
  unfold ti
  omega
theorem TC_b (hV : VR r) (hi : i < 5) : ti (TCn r (rL r)) i 10 = bV (rL r) (wE r) (gE r) (cE r) i := by
  have := (TCn_i (i := i) hV (show 10 < 11 by omega) (rL r) (Nat.le_refl _)).1
  rw [dI_f (P := 10 < 5) (by omega), dI_t (P := 10 = 10) rfl, dI_f (P := 10 = 5 + i) (by omega)] at this
  unfold ti
  omega
theorem TC_hasA (hV : VR r) : hasA r (ti (TCn r (rL r))) := fun i j hi hj => TC_A hV (by have := wd_5 hV; omega)
theorem ind_col {a : Nat} : sN n (fun x => (dI (x = a) 1).natAbs) ≤ 1 := (sN_ind (a := a) (fun y => by
  by_cases h : y = a
  · rw [dI_t h]; decide
  · rw [dI_f h]; decide) (fun y hy => by rw [dI_f hy]; rfl) n).1
theorem TC_col (hV : VR r) (hj : j < 11) : sN (wd r) (fun x => (ti (TCn r (rL r)) x j).natAbs) ≤ 26136 := by
  have h5 := wd_5 hV
  by_cases h1 : j < 5
  · rw [sN_congr (g := fun x => (Am (rL r) (wE r) (cE r) x j).natAbs) (fun x _ => by rw [TC_A hV h1])]
    exact col_A hV
  · by_cases h2 : j = 10
    · subst h2
      rw [sN_congr (g := fun x => (bV (rL r) (wE r) (gE r) (cE r) x).natAbs) (fun x hx => by rw [TC_b hV (by omega)])]
      exact bV_col hV
    · obtain ⟨k, rfl⟩ : ∃ k, j = 5 + k := ⟨j - 5, by omega⟩
      rw [sN_congr (g := fun x => (dI (x = k) 1).natAbs) (fun x _ => by rw [TC_e hV (by omega)])]
      have := ind_col (n := wd r) (a := k)
      omega
theorem TC_nz (hV : VR r) : ∀ k, k < wd r → (gjT (wd r) (TCn r (rL r)) k).2 ≠ 0 := sysN (c := 11) hV (by have := wd_5 hV; omega) (TC_hasA hV) (fun j hj => TC_col hV hj)
theorem TC_S (hV : VR r) : (gjT (wd r) (TCn r (rL r)) (wd r)).2.toInt = dd r ∧ ∀ j, wd r ≤ j → j < 11 → solR r (fun i => ((gjT (wd r) (TCn r (rL r)) (wd r)).1 i j).toInt) (fun i => (TCn r (rL r) i j).toInt) ∧ ∀ i, i < wd r → (((gjT (wd r) (TCn r (rL r)) (wd r)).1 i j).toInt).natAbs ≤ 71238528 * (sN (wd r) (fun x => (ti (TCn r (rL r)) x j).natAbs) + 1) := sysS (c := 11) hV (by have := wd_5 hV; omega) (TC_hasA hV) (fun j hj => TC_col hV hj)
theorem d_T (hV : VR r) : (TCf r).2.toInt = dd r := (TC_S hV).1
theorem y_sol (hV : VR r) : solR r (yS r) (bV (rL r) (wE r) (gE r) (cE r)) := by
  have h5 := wd_5 hV
  have := ((TC_S hV).2 10 (by omega) (by omega)).1
  intro i hi
  have t := this i hi
  have e : (TCn r (rL r) i 10).toInt = bV (rL r) (wE r) (gE r) (cE r) i := TC_b hV (by omega)
  rw [← e]
  exact t
theorem i_sol (hV : VR r) (hk : k < wd r) : solR r (iS r k) (fun i => dI (i = k) 1) := by
  have h5 := wd_5 hV
  have := ((TC_S hV).2 (5 + k) (by omega) (by omega)).1
  intro i hi
  have t := this i hi
  have e : (TCn r (rL r) i (5 + k)).toInt = dI (i = k) 1 := TC_e hV (by omega)
  show _ = dd r * dI (i = k) 1
  rw [← e]
  exact t
theorem y_b (hV : VR r) (hi : i < wd r) : (yS r i).natAbs ≤ 1861961406336 := by
  have h5 := wd_5 hV
  have := ((TC_S hV).2 10 (by omega) (by omega)).2 i hi
  have h2 := TC_col hV (show 10 < 11 by omega)
  unfold yS TCf
  omega
theorem i_b (hV : VR r) (hk : k < wd r) (hi : i < wd r) : (iS r k i).natAbs ≤ 142477056 := by
  have h5 := wd_5 hV
  have := ((TC_S hV).2 (5 + k) (by omega) (by omega)).2 i hi
  have h2 : sN (wd r) (fun x => (ti (TCn r (rL r)) x (5 + k)).natAbs) ≤ 1 := by
    rw [sN_congr (g := fun x => (dI (x = k) 1).natAbs) (fun x _ => by rw [TC_e hV (by omega)])]
    exact ind_col
  unfold iS TCf
  omega
/-! model, as told -/
theorem LS_A {told : Prop} (hV : VR r) (hj : j < 5) : ti (LSm r told (rL r)) i j = Am (rL r) (wE r) (cE r) i j := by
  have := (LSm_i (told := told) (i := i) (j := j) hV (rL r) (Nat.le_refl _)).1
  rw [dI_t hj, dI_f (P := j = 5 ∧ told) (by omega)] at this
  unfold ti
  omega
theorem LS_b (hV : VR r) : ti (LSm r True (rL r)) i 5 = bV (rL r) (wE r) (gE r) (cE r) i := by
  have := (LSm_i (told := True) (i := i) (j := 5) hV (rL r) (Nat.le_refl _)).1
  rw [dI_f (P := 5 < 5) (by omega), dI_t (P := 5 = 5 ∧ True) ⟨rfl, trivial⟩] at this
  unfold ti
  omega
theorem LS_col (hV : VR r) (hj : j < 6) : sN (wd r) (fun x => (ti (LSm r True (rL r)) x j).natAbs) ≤ 26136 := by
  by_cases h1 : j < 5
  · rw [sN_congr (g := fun x => (Am (rL r) (wE r) (cE r) x j).natAbs) (fun x _ => by rw [LS_A hV h1])]
    exact col_A hV
  · have : j = 5 := by omega
    subst this
    rw [sN_congr (g := fun x => (bV (rL r) (wE r) (gE r) (cE r) x).natAbs) (fun x _ => by rw [LS_b hV])]
    exact bV_col hV
theorem LS_hasA {told : Prop} (hV : VR r) : hasA r (ti (LSm r told (rL r))) := fun i j hi hj => LS_A hV (by have := wd_5 hV; omega)
theorem LS_nz (hV : VR r) : ∀ k, k < wd r → (gjT (wd r) (LSm r True (rL r)) k).2 ≠ 0 := sysN (c := 6) hV (by have := wd_5 hV; omega) (LS_hasA hV) (fun j hj => LS_col hV hj)
theorem LS_d (hV : VR r) : (gjT (wd r) (LSm r True (rL r)) (wd r)).2 = (TCf r).2 := by
  apply Int64.toInt_inj.mp
  rw [d_T hV]
  exact (sysS (c := 6) hV (by have := wd_5 hV; omega) (LS_hasA hV) (fun j hj => LS_col hV hj)).1
theorem LS_y (hV : VR r) (hi : i < wd r) : (gjT (wd r) (LSm r True (rL r)) (wd r)).1 i 5 = (TCf r).1 i 10 := by
  have h5 := wd_5 hV
  apply Int64.toInt_inj.mp
  have s := ((sysS (c := 6) hV (by omega) (LS_hasA hV) (fun j hj => LS_col hV hj)).2 5 (by omega) (by omega)).1
  have s2 : solR r (fun i => ((gjT (wd r) (LSm r True (rL r)) (wd r)).1 i 5).toInt) (bV (rL r) (wE r) (gE r) (cE r)) := fun i hi => by
    have t := s i hi
    have e : (LSm r True (rL r) i 5).toInt = bV (rL r) (wE r) (gE r) (cE r) i := LS_b hV
    rw [← e]
    exact t
  exact sol_uq (sep_r hV) s2 (y_sol hV) i hi
theorem hg_ab (hV : VR r) : hgV r True (gjT (wd r) (LSm r True (rL r)) (wd r)) p = abV r (TCf r) p := by
  unfold hgV abV
  by_cases hs : soug r p
  · rw [dv_t hs, dv_t hs, dv_f (fun z => z.1 hs), dv_f (fun z => z hs), LS_y hV (rowN_lt hs)]
  · rw [dv_f hs, dv_f hs, dv_t hs, LS_d hV]
    unfold knV
    by_cases hf : fxd r p
    · rw [dv_t ⟨hs, trivial, hf⟩, dv_t hf]
    · rw [dv_f (fun z => hf z.2.2), dv_f hf, Int64.zero_mul]
/-! model, doubt -/
theorem db_i : ti (dbT r p q) i j = (LSm r False (rL r) i j + dv (soug r p ∧ i = rowN r p ∧ j = 5) 1 + dv (soug r q ∧ i = rowN r q ∧ j = 5) (-1)).toInt := rfl
theorem db_v (hV : VR r) : ti (dbT r p q) i j = dI (j < 5) (Am (rL r) (wE r) (cE r) i j) + dI (j = 5) (eP r p i - eP r q i) := by
  have h11 := hV.2.1.2
  have a1 := LSm_i (told := False) (i := i) (j := j) hV (rL r) (Nat.le_refl _)
  have a2 := eI_dv (P := soug r p ∧ i = rowN r p ∧ j = 5) eI_1
  have a3 := eI_dv (P := soug r q ∧ i = rowN r q ∧ j = 5) (eI_neg eI_1 (by decide))
  have s := (eI_add (eI_add a1 a2 (by omega)) a3 (by omega)).1
  rw [db_i, s, dI_f (P := j = 5 ∧ False) (fun z => z.2)]
  by_cases h5 : j = 5
  · rw [dI_ec (c := j = 5) h5, dI_ec (c := j = 5) h5, dI_t (P := j = 5) h5]
    grind
  · rw [dI_f (P := j = 5) h5, dI_f (P := soug r p ∧ i = rowN r p ∧ j = 5) (fun z => h5 z.2.2), dI_f (P := soug r q ∧ i = rowN r q ∧ j = 5) (fun z => h5 z.2.2)]
    grind
theorem db_A (hV : VR r) (hj : j < 5) : ti (dbT r p q) i j = Am (rL r) (wE r) (cE r) i j := by
  rw [db_v hV, dI_t hj, dI_f (P := j = 5) (by omega), Int.add_zero]
theorem db_5 (hV : VR r) : ti (dbT r p q) i 5 = eP r p i - eP r q i := by
  rw [db_v hV, dI_f (P := 5 < 5) (by omega), dI_t (P := 5 = 5) rfl, Int.zero_add]
theorem db_col (hV : VR r) (hj : j < 6) : sN (wd r) (fun x => (ti (dbT r p q) x j).natAbs) ≤ 26136 := by
  by_cases h1 : j < 5
  · rw [sN_congr (g := fun x => (Am (rL r) (wE r) (cE r) x j).natAbs) (fun x _ => by rw [db_A hV h1])]
    exact col_A hV
  · have : j = 5 := by omega
    subst this
    have h2 : sN (wd r) (fun x => (ti (dbT r p q) x 5).natAbs) ≤ sN (wd r) (fun x => (eP r p x).natAbs + (eP r q x).natAbs) := sN_le (fun x _ => by rw [db_5 hV]; omega)
    rw [sN_add] at h2
    have h3 := eP_sN (r := r) (p := p) (n := wd r)
    have h4 := eP_sN (r := r) (p := q) (n := wd r)
    omega
theorem db_hasA (hV : VR r) : hasA r (ti (dbT r p q)) := fun i j hi hj => db_A hV (by have := wd_5 hV; omega)
theorem db_nz (hV : VR r) : ∀ k, k < wd r → (gjT (wd r) (dbT r p q) k).2 ≠ 0 := sysN (c := 6) hV (by have := wd_5 hV; omega) (db_hasA hV) (fun j hj => db_col hV hj)
theorem db_d (hV : VR r) : (gjT (wd r) (dbT r p q) (wd r)).2 = (TCf r).2 := by
  apply Int64.toInt_inj.mp
  rw [d_T hV]
  exact (sysS (c := 6) hV (by have := wd_5 hV; omega) (db_hasA hV) (fun j hj => db_col hV hj)).1
theorem u_sol (hV : VR r) : solR r (uS r p) (eP r p) := by
  by_cases hs : soug r p
  · have := i_sol hV (rowN_lt hs)
    intro i hi
    have t := this i hi
    have e : eP r p i = dI (i = rowN r p) 1 := by unfold eP; exact dI_iff ⟨fun z => z.2, fun z => ⟨hs, z⟩⟩
    rw [e, ← t]
    exact sm_congr (fun j _ => by unfold uS; rw [dI_t hs])
  · intro i hi
    have e : eP r p i = 0 := by unfold eP; exact dI_f (fun z => hs z.1)
    rw [e, Int.mul_zero]
    exact sm_zero (fun j _ => by unfold uS; rw [dI_f hs, Int.mul_zero])
theorem db_z (hV : VR r) (hi : i < wd r) : ((gjT (wd r) (dbT r p q) (wd r)).1 i 5).toInt = uS r p i - uS r q i := by
  have h5 := wd_5 hV
  have s := ((sysS (c := 6) hV (by omega) (db_hasA (p := p) (q := q) hV) (fun j hj => db_col hV hj)).2 5 (by omega) (by omega)).1
  have s2 := sol_cmb (a := 1) (b := -1) (u_sol (p := p) hV) (u_sol (p := q) hV)
  have s3 : solR r (fun i => ((gjT (wd r) (dbT r p q) (wd r)).1 i 5).toInt) (fun i => 1 * eP r p i + -1 * eP r q i) := fun i hi => by
    have t := s i hi
    have e : (dbT r p q i 5).toInt = eP r p i - eP r q i := db_5 hV
    have e2 : 1 * eP r p i + -1 * eP r q i = (dbT r p q i 5).toInt := by rw [e]; omega
    show _ = dd r * (1 * eP r p i + -1 * eP r q i)
    rw [e2]
    exact t
  have := sol_uq (sep_r hV) s3 s2 i hi
  have t : ((gjT (wd r) (dbT r p q) (wd r)).1 i 5).toInt = 1 * uS r p i + -1 * uS r q i := this
  omega
theorem xP_u (p q : Nat) : xP r (uS r q) p = inv r p q := by
  unfold xP uS inv
  by_cases h1 : soug r p
  · rw [dI_t h1]
    by_cases h2 : soug r q
    · rw [dI_t h2, dI_t ⟨h1, h2⟩]
    · rw [dI_f h2, dI_f (fun z => h2 z.2)]
  · rw [dI_f h1, dI_f (fun z => h1 z.1)]
theorem inv_sym (hV : VR r) : inv r p q = inv r q p := by
  have h := sol_sym (u_sol (p := p) hV) (u_sol (p := q) hV)
  have hd := (dd_U hV).1
  rw [dt_e, dt_e, xP_u, xP_u] at h
  exact Int.eq_of_mul_eq_mul_left (by omega) h
theorem inv_b (hV : VR r) : (inv r p q).natAbs ≤ 142477056 := by
  unfold inv
  by_cases h : soug r p ∧ soug r q
  · rw [dI_t h]; exact i_b hV (rowN_lt h.2) (rowN_lt h.1)
  · rw [dI_f h]; decide
theorem uS_b (hV : VR r) (hi : i < wd r) : (uS r p i).natAbs ≤ 142477056 := by
  unfold uS
  by_cases h : soug r p
  · rw [dI_t h]; exact i_b hV (rowN_lt h) hi
  · rw [dI_f h]; decide
theorem db_V (hV : VR r) : eI (dbV r p q) (dbt r p q) 569908224 := by
  have g : ∀ a, eI (hgV r False (gjT (wd r) (dbT r p q) (wd r)) a) (inv r a p - inv r a q) 284954112 := by
    intro a
    unfold hgV
    rw [dv_f (P := ¬ soug r a ∧ False ∧ fxd r a) (fun z => z.2.1), Int64.add_zero]
    by_cases h : soug r a
    · rw [dv_t h]
      have e := db_z (p := p) (q := q) hV (rowN_lt h)
      have b1 := uS_b (p := p) hV (rowN_lt h)
      have b2 := uS_b (p := q) hV (rowN_lt h)
      have e1 : inv r a p = uS r p (rowN r a) := by rw [← xP_u]; unfold xP; rw [dI_t h]
      have e2 : inv r a q = uS r q (rowN r a) := by rw [← xP_u]; unfold xP; rw [dI_t h]
      rw [e1, e2]
      exact ⟨e, by omega⟩
    · rw [dv_f h]
      have e1 : inv r a p = 0 := by unfold inv; exact dI_f (fun z => h z.1)
      have e2 : inv r a q = 0 := by unfold inv; exact dI_f (fun z => h z.1)
      rw [e1, e2]
      exact eI_le eI_0 (by omega)
  have s := eI_sub (g p) (g q) (by decide)
  unfold dbV
  refine eI_v s ?_
  rw [inv_sym hV (p := q) (q := p)]
  unfold dbt
  omega
end
