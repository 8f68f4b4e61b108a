/-! The numbers of a row: heights, offs, sum, checks, falls. -/
noncomputable def hI (r : Nat → Int32) (p : Nat) : Int := xP r (yS r) p + kE r p * dd r
noncomputable def offI (r : Nat → Int32) (l : Nat) : Int := hI r (rB r l) - hI r (rA r l) - (r (36 + l)).toInt * dd r
noncomputable def sumI (r : Nat → Int32) : Int := sm (rL r) (fun l => wE r l * (offI r l * offI r l))
noncomputable def allI (r : Nat → Int32) : Int := sm (rL r) (fun l => wE r l * offI r l * (- gE r l))
noncomputable def gg (r : Nat → Int32) : Int := sm (rL r) (fun l => wE r l * (gE r l * gE r l))
noncomputable def chkI (r : Nat → Int32) (l : Nat) : Int := dd r - (r (47 + l)).toInt * dbt r (rA r l) (rB r l)
section
variable {r : Nat → Int32} {p q l k i j m n : Nat}
theorem d_eI (hV : VR r) : eI (TCf r).2 (dd r) 2226204 := ⟨d_T hV, by have := dd_U hV; omega⟩
theorem ab_eI (hV : VR r) : eI (abV r (TCf r) p) (hI r p) 1862181800532 := by
  unfold abV hI xP
  by_cases hs : soug r p
  · have k0 : kE r p = 0 := by unfold kE; exact dI_f hs.2.1
    rw [dv_t hs, dv_f (fun z => z hs), dI_t hs, k0, Int.zero_mul, Int.add_zero, Int64.add_zero]
    have := y_b hV (rowN_lt hs)
    exact ⟨rfl, by omega⟩
  · rw [dv_f hs, dv_t hs, dI_f hs, Int64.zero_add, Int.zero_add]
    exact eI_le (eI_mul (kn_kE hV) (d_eI hV) (by decide)) (by decide)
theorem off_eI (hV : VR r) (hl : l < rL r) : eI (abV r (TCf r) (rB r l) - abV r (TCf r) (rA r l) - (r (36 + l)).toInt64 * (TCf r).2) (offI r l) 3724583995260 := by
  unfold offI
  exact eI_le (eI_sub (eI_sub (ab_eI hV) (ab_eI hV) (by decide)) (eI_mul (s_eI hV hl) (d_eI hV) (by decide)) (by decide)) (by decide)
theorem off_dt : offI r l = dt (wd r) (cE r l) (yS r) - dd r * gE r l := by
  rw [dt_c]
  unfold offI hI gE
  grind
theorem sum_all (hV : VR r) : sumI r = dd r * allI r := by
  have h := off_sum (y_sol hV)
  unfold sumI allI
  rw [sm_congr (g := fun l => wE r l * ((dt (wd r) (cE r l) (yS r) - dd r * gE r l) * (dt (wd r) (cE r l) (yS r) - dd r * gE r l))) (fun l _ => by rw [off_dt]), h]
  congr 1
  exact sm_congr (fun l _ => by rw [off_dt])
theorem sum_gg (hV : VR r) : 0 ≤ sumI r ∧ sumI r ≤ dd r * dd r * gg r := by
  refine ⟨sm_nn (fun l hl => Int.mul_nonneg (wE_nn hV hl) (sq_nn _)), ?_⟩
  have h := off_least (fun l hl => wE_nn hV hl) (y_sol hV) (dd_U hV).1
  unfold sumI
  rw [sm_congr (g := fun l => wE r l * ((dt (wd r) (cE r l) (yS r) - dd r * gE r l) * (dt (wd r) (cE r l) (yS r) - dd r * gE r l))) (fun l _ => by rw [off_dt])]
  exact h
/-! how great -/
theorem cK_two {K : Nat → Prop} {a b : Nat} (ha : ¬ K a) (hb : ¬ K b) (hab : a < b) : ∀ n, b < n → cK K n + 2 ≤ n
  | 0, h => by omega
  | n + 1, h => by
    by_cases e : b = n
    · subst e
      rw [cK_succ_n hb]
      have := cK_hole ha b hab
      omega
    · have := cK_two ha hb hab n (by omega)
      by_cases hk : K n
      · rw [cK_succ_y hk]; omega
      · rw [cK_succ_n hk]; omega
theorem wd5_soug (hV : VR r) (h : wd r = 5) (hl : l < rL r) : soug r (rA r l) ∨ soug r (rB r l) := by
  have hVl := hV.2.2.2 l hl
  have h6 := hV.1.2
  refine Classical.byContradiction (fun z => ?_)
  have h1 : ¬ soug r (rA r l) := fun y => z (Or.inl y)
  have h2 : ¬ soug r (rB r l) := fun y => z (Or.inr y)
  unfold wd at h
  rcases Nat.lt_or_gt_of_ne hVl.2.2.1 with y | y
  · have := cK_two (K := soug r) h1 h2 y (rP r) hVl.2.1.2
    omega
  · have := cK_two (K := soug r) h2 h1 y (rP r) hVl.1.2
    omega
theorem gE_198 (hV : VR r) (h : wd r = 5) (hl : l < rL r) : (gE r l).natAbs ≤ 198 := by
  have := (hV.2.2.2 l hl).2.2.2.1
  unfold inH at this
  have h1 := kE_b (p := rA r l) hV
  have h2 := kE_b (p := rB r l) hV
  unfold gE
  rcases wd5_soug hV h hl with y | y
  · have k0 : kE r (rA r l) = 0 := by unfold kE; exact dI_f y.2.1
    omega
  · have k0 : kE r (rB r l) = 0 := by unfold kE; exact dI_f y.2.1
    omega
theorem gg_b (hV : VR r) {B : Nat} (hB : ∀ l, l < rL r → (gE r l).natAbs ≤ B) : (gg r).natAbs ≤ 44 * (B * B) := by
  have h1 : (gg r).natAbs ≤ sN (rL r) (fun l => (wE r l).natAbs * (B * B)) := Nat.le_trans sm_abs (sN_le (fun l hl => by
    rw [Int.natAbs_mul, Int.natAbs_mul]
    exact Nat.mul_le_mul_left _ (Nat.mul_le_mul (hB l hl) (hB l hl))))
  rw [sN_mulr] at h1
  exact Nat.le_trans h1 (Nat.mul_le_mul_right _ (wE_44 hV))
theorem gg_nn (hV : VR r) : 0 ≤ gg r := sm_nn (fun l hl => Int.mul_nonneg (wE_nn hV hl) (sq_nn _))
/-- as great as a head of this width can be -/
noncomputable def dU (r : Nat → Int32) : Nat := @ite _ (wd r = 5) (Classical.propDecidable _) 2226204 279841
theorem dd_dU (hV : VR r) : dd r ≤ (dU r : Nat) := by
  unfold dU
  by_cases h : wd r = 5
  · rw [@if_pos _ (Classical.propDecidable _) h]
    exact (dd_U hV).2
  · rw [@if_neg _ (Classical.propDecidable _) h]
    have h5 := wd_5 hV
    have h1 := (det_uN hV (T := Am (rL r) (wE r) (cE r)) (fun _ _ _ _ => rfl) (wd r) (Nat.le_refl _)).2
    have h2 := pN_mon (f := uN r) uN_1 (show wd r ≤ 4 by omega)
    have h3 := uN_4 hV
    unfold dd
    omega
theorem dU_gg (hV : VR r) {a b : Int} (ha : 0 ≤ a) (ha2 : a ≤ (dU r : Nat)) (hb : 0 ≤ b) (hb2 : b ≤ (dU r : Nat)) : a * b * gg r < 9000000000000000000 := by
  have g0 := gg_nn hV
  have key : a.toNat * b.toNat * (gg r).natAbs < 9000000000000000000 := by
    unfold dU at ha2 hb2
    by_cases h : wd r = 5
    · rw [@if_pos _ (Classical.propDecidable _) h] at ha2 hb2
      have h1 := gg_b hV (fun l hl => gE_198 hV h hl)
      have h2 : a.toNat * b.toNat * (gg r).natAbs ≤ 2226204 * 2226204 * (44 * (198 * 198)) := Nat.mul_le_mul (Nat.mul_le_mul (by omega) (by omega)) h1
      omega
    · rw [@if_neg _ (Classical.propDecidable _) h] at ha2 hb2
      have h1 := gg_b hV (fun l hl => gE_297 hV hl)
      have h2 : a.toNat * b.toNat * (gg r).natAbs ≤ 279841 * 279841 * (44 * (297 * 297)) := Nat.mul_le_mul (Nat.mul_le_mul (by omega) (by omega)) h1
      omega
  have e : a * b * gg r = ((a.toNat * b.toNat * (gg r).natAbs : Nat) : Int) := by
    rw [Int.natCast_mul, Int.natCast_mul, Int.toNat_of_nonneg ha, Int.toNat_of_nonneg hb, Int.natAbs_of_nonneg g0]
  rw [e]
  omega
theorem sum_b (hV : VR r) : sumI r < 9000000000000000000 := by
  have h1 := (sum_gg hV).2
  have h2 := dU_gg hV (a := dd r) (b := dd r) (by have := (dd_U hV).1; omega) (dd_dU hV) (by have := (dd_U hV).1; omega) (dd_dU hV)
  omega
/-! check -/
theorem c_sol (hV : VR r) : solR r (fun i => 1 * uS r (rB r l) i + -1 * uS r (rA r l) i) (cE r l) := by
  have := sol_cmb (a := 1) (b := -1) (u_sol (p := rB r l) hV) (u_sol (p := rA r l) hV)
  intro i hi
  rw [this i hi]
  unfold cE
  grind
theorem c_dbt (hV : VR r) : dt (wd r) (cE r l) (fun i => 1 * uS r (rB r l) i + -1 * uS r (rA r l) i) = dbt r (rA r l) (rB r l) := by
  have e : ∀ p, xP r (fun i => 1 * uS r (rB r l) i + -1 * uS r (rA r l) i) p = inv r p (rB r l) - inv r p (rA r l) := by
    intro p
    rw [← xP_u, ← xP_u]
    unfold xP
    by_cases h : soug r p
    · rw [dI_t h, dI_t h, dI_t h]
      show 1 * uS r (rB r l) (rowN r p) + -1 * uS r (rA r l) (rowN r p) = _
      omega
    · rw [dI_f h, dI_f h, dI_f h]; rfl
  rw [dt_c, e, e, inv_sym hV (p := rB r l) (q := rA r l)]
  unfold dbt
  omega
theorem w_of (h : snd r l) : wE r l = (r (47 + l)).toInt := by unfold wE; exact dI_t h
theorem chk_c (hV : VR r) (h : snd r l) : chkI r l = dd r - wE r l * dt (wd r) (cE r l) (fun i => 1 * uS r (rB r l) i + -1 * uS r (rA r l) i) := by
  rw [c_dbt hV, w_of h]
  rfl
theorem chk_b (hV : VR r) (h : snd r l) : 0 ≤ chkI r l ∧ chkI r l ≤ dd r ∧ 0 ≤ dbt r (rA r l) (rB r l) := by
  have := chk_nn (sep_r hV) h.1 (dd_U hV).1 (c_sol (l := l) hV)
  rw [← chk_c hV h, c_dbt hV] at this
  refine ⟨this.2, ?_, this.1⟩
  have h2 := Int.mul_nonneg (wE_nn hV h.1) this.1
  rw [w_of h] at h2
  unfold chkI
  omega
theorem chk_brg (hV : VR r) (h : brg r l) : chkI r l = 0 := by
  obtain ⟨x, s, h1, h2, h3⟩ := bridge_x hV h
  rw [chk_c hV h.1]
  exact chk_bridge (sep_r hV) h.1.1 (c_sol hV) h1 h2 h3
theorem chk_nb (hV : VR r) (hs : snd r l) (h : ¬ brg r l) : 0 < chkI r l := by
  have h1 := chk_ne (sep_wo hV hs h) hs.1 (dd_U hV).1 (c_sol (l := l) hV)
  rw [← chk_c hV hs] at h1
  have := (chk_b hV hs).1
  omega
/-! without a line -/
theorem strk_sol (hV : VR r) (hk : snd r k) (hb : ¬ brg r k) : sol (wd r) (rL r) (wo (wE r) k) (cE r) (dd (strk r k)) (yS (strk r k)) (bV (rL r) (wo (wE r) k) (gE r) (cE r)) := by
  have h11 := hV.2.1.2
  have := y_sol (strk_V (k := k) hV)
  intro i hi
  have t := this i (by rw [strk_wd hV hk hb]; exact hi)
  rw [strk_wd hV hk hb, strk_L] at t
  have e1 : sm (wd r) (fun j => Am (rL r) (wE (strk r k)) (cE (strk r k)) i j * yS (strk r k) j) = sm (wd r) (fun j => Am (rL r) (wo (wE r) k) (cE r) i j * yS (strk r k) j) := sm_congr (fun j _ => by
    congr 1
    exact sm_congr (fun l hl => by rw [strk_wE (by omega), strk_cE hV hk hb (by omega), strk_cE hV hk hb (by omega)]))
  have e2 : bV (rL r) (wE (strk r k)) (gE (strk r k)) (cE (strk r k)) i = bV (rL r) (wo (wE r) k) (gE r) (cE r) i := sm_congr (fun l hl => by rw [strk_wE (by omega), strk_cE hV hk hb (by omega), strk_gE hV hl])
  rw [← e1, ← e2]
  exact t
noncomputable def wanI (r : Nat → Int32) (k : Nat) : Int := hI (strk r k) (rB r k) - hI (strk r k) (rA r k)
noncomputable def outI (r : Nat → Int32) (k : Nat) : Int := wanI r k - (r (36 + k)).toInt * dd (strk r k)
theorem out_dt (hV : VR r) (hk : snd r k) (hb : ¬ brg r k) : outI r k = dt (wd r) (cE r k) (yS (strk r k)) - dd (strk r k) * gE r k := by
  have hVk := hV.2.2.2 k hk.1
  have e : ∀ p, xP (strk r k) (yS (strk r k)) p = xP r (yS (strk r k)) p := fun p => by unfold xP; rw [strk_soug hV hk hb, strk_row hV hk hb]
  rw [dt_c]
  unfold outI wanI hI gE
  rw [e, e, strk_kE hV hVk.1.2, strk_kE hV hVk.2.1.2]
  grind
theorem out_off (hV : VR r) (hk : snd r k) (hb : ¬ brg r k) : outI r k * chkI r k = dd (strk r k) * offI r k := by
  have := off_wo (sep_r hV) hk.1 (y_sol hV) (strk_sol hV hk hb) (c_sol (l := k) hV)
  rw [← chk_c hV hk, ← out_dt hV hk hb, ← off_dt] at this
  exact this
theorem strk_dU (hV : VR r) (hk : snd r k) (hb : ¬ brg r k) : dU (strk r k) = dU r := by unfold dU; rw [strk_wd hV hk hb]
theorem out_b (hV : VR r) (hk : snd r k) (hb : ¬ brg r k) : 0 ≤ wE r k * outI r k * offI r k ∧ wE r k * outI r k * offI r k < 9000000000000000000 := by
  have hd := dd_U hV
  have hV' := strk_V (k := k) hV
  have hd' := dd_U hV'
  have hc := chk_nb hV hk hb
  have h1 := fall_le (sep_r hV) hk.1 hd.1 hd'.1 (y_sol hV) (strk_sol hV hk hb) (c_sol (l := k) hV)
  rw [← out_dt hV hk hb, ← off_dt] at h1
  have e : sm (rL r) (fun l => wE r l * (dt (wd r) (cE r l) (yS r) - dd r * gE r l) * (- gE r l)) = allI r := sm_congr (fun l _ => by rw [off_dt])
  rw [e] at h1
  constructor
  · have h2 : wE r k * outI r k * offI r k * chkI r k = wE r k * dd (strk r k) * (offI r k * offI r k) := by
      have := out_off hV hk hb
      calc wE r k * outI r k * offI r k * chkI r k = wE r k * offI r k * (outI r k * chkI r k) := by grind
        _ = wE r k * offI r k * (dd (strk r k) * offI r k) := by rw [this]
        _ = _ := by grind
    have h3 : 0 ≤ wE r k * outI r k * offI r k * chkI r k := by
      rw [h2]
      exact Int.mul_nonneg (Int.mul_nonneg (wE_nn hV hk.1) (by omega)) (sq_nn _)
    exact Int.nonneg_of_mul_nonneg_left h3 hc
  · have h4 := sum_all hV
    have h5 := (sum_gg hV).2
    have h6 : allI r ≤ dd r * gg r := by
      refine Int.le_of_mul_le_mul_left (a := dd r) ?_ hd.1
      rw [← h4]
      have : dd r * (dd r * gg r) = dd r * dd r * gg r := by grind
      omega
    have h7 : dd (strk r k) * allI r ≤ dd (strk r k) * (dd r * gg r) := Int.mul_le_mul_of_nonneg_left h6 (by omega)
    have h8 := dU_gg hV (a := dd (strk r k)) (b := dd r) (by omega) (by rw [← strk_dU hV hk hb]; exact dd_dU hV') (by omega) (dd_dU hV)
    have : dd (strk r k) * (dd r * gg r) = dd (strk r k) * dd r * gg r := by grind
    omega
theorem wsq_b (hV : VR r) (hk : snd r k) : 0 ≤ wE r k * (offI r k * offI r k) ∧ wE r k * (offI r k * offI r k) < 9000000000000000000 := by
  have nn : ∀ l, l < rL r → 0 ≤ wE r l * (offI r l * offI r l) := fun l hl => Int.mul_nonneg (wE_nn hV hl) (sq_nn _)
  have h1 := sm_ge nn hk.1
  have h2 := sum_b hV
  unfold sumI at h2
  exact ⟨nn k hk.1, by omega⟩
end
