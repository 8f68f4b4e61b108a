/-! The state behind the constructors. -/
def vI (v : Value) : Int32 := match v with
  | .int x => x
  | _ => 0
def vL (v : Value) : Int64 := match v with
  | .long x => x
  | _ => 0
def h0F (xs : Nat → Int32) (L : Nat) : Hp := (fun k j => if k = 1000 then xs j else vI ((wAt k).2.2.getD j .null), fun k j => vL ((wAt k).2.2.getD j .null), 0, L)
def adF (b : Nat) (Lf : List Nat) (k : Nat) : Nat := if k = 1000 then b else Lf.getD (pm k) 0
section
variable {D : va_G} {cs : Nat → ClassId} {a0 : Nat → Nat} {B0 b L : Nat} {xs : Nat → Int32} {Lf : List Nat} {H : Heap}
set_option maxRecDepth 100000 in
theorem chk_7 : (List.range 109).all (fun k => decide ((wAt k).1 < 7)) = true := by decide +kernel
theorem chkF_at {k : Nat} (hk : k < 109) : chkF k = true := List.all_eq_true.mp chk_F k (List.mem_range.mpr hk)
theorem pm_lt {k : Nat} (hk : k < 109) : pm k < 109 := by
  have h := chkF_at hk
  unfold chkF at h
  rw [Bool.and_eq_true, Bool.and_eq_true, decide_eq_true_eq, decide_eq_true_eq] at h
  exact h.1.2
theorem adF_at {k : Nat} (hk : k < 109) : adF b Lf k = am a0 Lf (pm k) := by
  have := pm_lt hk
  unfold adF am
  rw [if_neg (by omega), if_pos (by omega)]
theorem refOk_rf {v : Value} {o : Option Nat} (h : refOk v o = true) : rfA (am a0 Lf) v = o.map (adF b Lf) ∧ va_rf (o.map (adF b Lf)) = tr (am a0 Lf) v := by
  cases v with
  | ref i =>
    cases o with
    | none => cases h
    | some k =>
      have h1 : pm k = i ∧ k < 109 := by
        have : (decide (pm k = i) && decide (k < 109)) = true := h
        rw [Bool.and_eq_true, decide_eq_true_eq, decide_eq_true_eq] at this
        exact this
      have e : am a0 Lf i = adF b Lf k := by rw [adF_at (a0 := a0) h1.2, h1.1]
      exact ⟨congrArg some e, congrArg Value.ref e.symm⟩
  | null =>
    have h1 : o = none := of_decide_eq_true h
    subst h1
    exact ⟨rfl, rfl⟩
  | _ => cases h
theorem h0_1 {k : Nat} (hk : k < 109) (j : Nat) : (h0F xs L).1 k j = vI ((wAt k).2.2.getD j .null) := if_neg (by omega)
theorem fun_ref {k : Nat} {rs : List Value} (h1 : (rtL.getD k []).length ≤ rs.length) (h2 : (List.range rs.length).all (fun j => refOk (rs.getD j .null) (RT k j)) = true) : (fun j => (RT k j).map (adF b Lf)) = fun j => rfA (am a0 Lf) (rs.getD j .null) := by
  funext j
  by_cases hj : j < rs.length
  · exact (refOk_rf (List.all_eq_true.mp h2 j (List.mem_range.mpr hj))).1.symm
  · have e1 : RT k j = none := by
      unfold RT
      rw [List.getD_eq_getElem?_getD, List.getElem?_eq_none (by omega)]
      rfl
    have e2 : rs.getD j .null = .null := by
      rw [List.getD_eq_getElem?_getD, List.getElem?_eq_none (by omega)]
      rfl
    rw [e1, e2]
    rfl
set_option maxHeartbeats 2000000 in
theorem cell_F {k : Nat} (hk : k < 109) : cellE cs (adF b Lf) (h0F xs L) k = ceE cs (am a0 Lf) (wAt k) := by
  have hc := chkF_at hk
  have hI : ∀ j, (h0F xs L).1 k j = vI ((wAt k).2.2.getD j .null) := h0_1 hk
  have hJ : ∀ j, (h0F xs L).2.1 k j = vL ((wAt k).2.2.getD j .null) := fun j => rfl
  unfold chkF at hc
  rw [Bool.and_eq_true, Bool.and_eq_true, decide_eq_true_eq, decide_eq_true_eq] at hc
  obtain ⟨⟨hs, -⟩, hc⟩ := hc
  have hk7 : (wAt k).1 < 7 := of_decide_eq_true (List.all_eq_true.mp chk_7 k (List.mem_range.mpr hk))
  generalize wAt k = z at hI hJ hs hc hk7 ⊢
  obtain ⟨kd, c, fs⟩ := z
  dsimp only at hI hJ hs hc hk7 ⊢
  have hz : fs = [] → (h0F xs L).1 k = (fun _ => 0) ∧ (h0F xs L).2.1 k = fun _ => 0 := by
    intro e
    subst e
    exact ⟨funext (fun j => by rw [hI]; rfl), funext (fun j => by rw [hJ]; rfl)⟩
  unfold cellE
  rw [hs]
  match kd, hc, hk7 with
  | 0, hc, hk7 =>
    simp only [Bool.and_eq_true, decide_eq_true_eq] at hc
    obtain ⟨h1, h2⟩ := hc
    show (Sum.inr (c, (List.range (fN c)).map (fv (adF b Lf) (h0F xs L) k c)) : va_E) = .inr (c, fs.map (tr (am a0 Lf)))
    have : (List.range (fN c)).map (fv (adF b Lf) (h0F xs L) k c) = fs.map (tr (am a0 Lf)) := by
      apply List.ext_getElem?
      intro j
      rw [List.getElem?_map, List.getElem?_map]
      by_cases hj : j < fN c
      · rw [List.getElem?_range hj]
        have h3 := List.all_eq_true.mp h2 j (List.mem_range.mpr hj)
        have h4 : fs[j]? = some (fs.getD j .null) := by
          rw [List.getD_eq_getElem?_getD, List.getElem?_eq_getElem (by omega)]
          rfl
        rw [h4]
        show some (fv (adF b Lf) (h0F xs L) k c j) = some (tr (am a0 Lf) (fs.getD j .null))
        congr 1
        unfold fOk at h3
        unfold fv
        split at h3
        · rename_i e1
          rw [e1]
          show Value.long ((h0F xs L).2.1 k j) = _
          rw [hJ]
          split at h3
          · rename_i e2
            rw [e2]
            rfl
          · cases h3
        · rename_i e1
          rw [e1]
          exact (refOk_rf h3).2
        · rename_i e1 e2
          split
          · rename_i e3
            exact absurd e3 e1
          · rename_i e3
            exact absurd e3 e2
          · rw [hI]
            split at h3
            · rename_i e4
              rw [e4]
              rfl
            · cases h3
      · rw [List.getElem?_eq_none (by rw [List.length_range]; omega), List.getElem?_eq_none (by omega)]
        rfl
    rw [this]
  | 1, hc, hk7 =>
    simp only [Bool.and_eq_true, decide_eq_true_eq] at hc
    show (Sum.inl (cs 1, c, .inl ((h0F xs L).1 k)) : va_E) = _
    rw [(hz hc.1).1]
    rfl
  | 2, hc, hk7 =>
    simp only [Bool.and_eq_true, decide_eq_true_eq] at hc
    show (Sum.inl (cs 0, c, .inl ((h0F xs L).1 k)) : va_E) = _
    rw [(hz hc.1).1]
    rfl
  | 3, hc, hk7 =>
    simp only [Bool.and_eq_true, decide_eq_true_eq] at hc
    show (Sum.inl (cs 3, c, .inl ((h0F xs L).1 k)) : va_E) = _
    rw [(hz hc.1).1]
    rfl
  | 4, hc, hk7 =>
    simp only [Bool.and_eq_true, decide_eq_true_eq] at hc
    show (Sum.inl (cs 2, c, .inr (.inl ((h0F xs L).2.1 k))) : va_E) = _
    rw [(hz hc.1).2]
    rfl
  | 5, hc, hk7 =>
    simp only [Bool.and_eq_true, decide_eq_true_eq] at hc
    show (Sum.inl (cs 4, c, .inr (.inr (.inr (.inr (fun j => (RT k j).map (adF b Lf)))))) : va_E) = _
    rw [fun_ref (a0 := a0) hc.1 hc.2]
    rfl
  | 6, hc, hk7 =>
    simp only [Bool.and_eq_true, decide_eq_true_eq] at hc
    show (Sum.inl (cs 5, c, .inr (.inr (.inr (.inr (fun j => (RT k j).map (adF b Lf)))))) : va_E) = _
    rw [fun_ref (a0 := a0) hc.1 hc.2]
    rfl
  | n + 7, hc, hk7 =>
    omega
theorem Rep_F (hl : Lf.length = 109) (hP : va_P D cls9 (cwE cs (am a0 Lf) Lf wF) H) : Rep D cs (adF b Lf) xs L (h0F xs L) H := by
  refine ⟨fun k q hk => ?_, funext (fun j => by simp [h0F]), rfl⟩
  have hk9 : k < 109 := by
    have := (List.getElem?_eq_some_iff.mp hk).1
    unfold wsh at this
    rw [List.length_map, List.length_range] at this
    exact this
  rw [wsh_get hk9] at hk
  cases hk
  have hp := pm_lt hk9
  have hw : wF[pm k]? = some (wAt k) := by
    unfold wAt
    rw [List.getD_eq_getElem?_getD, List.getElem?_eq_getElem (by rw [wF_len]; exact hp)]
    rfl
  have h1 := hP (pm k) _ (cwE_get (by rw [hl, wF_len]) hw)
  rw [← cell_F (b := b) (xs := xs) (L := L) hk9] at h1
  have e : adF b Lf k = Lf.getD (pm k) 0 := if_neg (by omega)
  rw [e]
  exact h1
set_option maxRecDepth 100000 in
theorem w_z : ([2, 94, 95, 97, 98, 102].all fun k => decide ((wAt k).2.2 = [])) = true := by decide +kernel
theorem h0_z {k : Nat} (hk : k ∈ [2, 94, 95, 97, 98, 102]) : (h0F xs L).1 k = fun _ => 0 := by
  have h1 : (wAt k).2.2 = [] := of_decide_eq_true (List.all_eq_true.mp w_z k hk)
  have h2 : k ≠ 1000 := by
    intro z
    subst z
    revert hk
    decide
  funext j
  show (if k = 1000 then xs j else vI ((wAt k).2.2.getD j .null)) = 0
  rw [if_neg h2, h1]
  rfl
set_option maxRecDepth 100000 in
theorem w_i : ([(21, 0, 0), (21, 1, 0), (21, 3, 0), (21, 4, 0), (0, 11, 1), (5, 1, 0), (5, 2, 0), (93, 21, 0), (0, 6, 0), (1, 1, 0), (93, 2, 0), (0, 7, 0), (93, 8, 0), (0, 8, -1), (93, 9, -1)] : List (Nat × Nat × Int32)).all (fun q => decide (vI ((wAt q.1).2.2.getD q.2.1 .null) = q.2.2) && decide (q.1 < 109)) = true := by decide +kernel
theorem h0_i {k j : Nat} {v : Int32} (h : (k, j, v) ∈ ([(21, 0, 0), (21, 1, 0), (21, 3, 0), (21, 4, 0), (0, 11, 1), (5, 1, 0), (5, 2, 0), (93, 21, 0), (0, 6, 0), (1, 1, 0), (93, 2, 0), (0, 7, 0), (93, 8, 0), (0, 8, -1), (93, 9, -1)] : List (Nat × Nat × Int32))) : (h0F xs L).1 k j = v := by
  have h1 := List.all_eq_true.mp w_i _ h
  rw [Bool.and_eq_true, decide_eq_true_eq, decide_eq_true_eq] at h1
  rw [h0_1 h1.2]
  exact h1.1
set_option maxRecDepth 100000 in
theorem w_l : ([(2, iL PW), (3, iL LW), (4, iL UW), (5, iL DW)] : List (Nat × Int64)).all (fun q => decide (vL ((wAt 3).2.2.getD q.1 .null) = q.2)) = true := by decide +kernel
theorem J_0 : J (h0F xs L) := by
  have z95 : (h0F xs L).1 95 = zr := h0_z (by simp)
  have z102 : (h0F xs L).1 102 = fun _ => 0 := h0_z (by simp)
  have e11 : (h0F xs L).1 0 11 = 1 := h0_i (by simp)
  refine ⟨?_, ⟨0, 0, ⟨by omega, by omega, (h0_i (v := 0) (by simp)).trans rfl, (h0_i (v := 0) (by simp)).trans rfl⟩, (h0_i (v := 0) (by simp)).trans rfl, fun i hi => by omega⟩, ?_, ⟨0, fun _ => 0, by omega, fun _ => (show (0 : Nat) < 256 by decide), ⟨(h0_i (v := 0) (by simp)).trans rfl, fun j hj => by omega⟩, ⟨(h0_i (v := 0) (by simp)).trans rfl, fun j hj => by omega⟩⟩, ?_, ?_⟩
  · rw [z95]
    refine ⟨zr_V, zr_CN (h0_i (by simp)) (h0_i (by simp)) (h0_i (by simp)) (h0_i (by simp)), Or.inr e11, fun z => ?_⟩
    rw [e11] at z
    exact absurd z (by decide)
  · intro k hk
    rw [z102, h0_i (k := 0) (j := 6) (v := 0) (by simp)]
    refine ⟨⟨fun z => ?_, fun z => absurd rfl z⟩, fun z => absurd rfl z⟩
    have : bt 0 k = false := by simp [bt]
    rw [this] at z
    cases z
  · exact ⟨(h0_i (v := 0) (by simp)).trans (h0_i (v := 0) (by simp)).symm, (h0_i (v := -1) (by simp)).trans (h0_i (v := -1) (by simp)).symm⟩
  · have hl : ∀ q ∈ ([(2, iL PW), (3, iL LW), (4, iL UW), (5, iL DW)] : List (Nat × Int64)), (h0F xs L).2.1 3 q.1 = q.2 := fun q hq => of_decide_eq_true (List.all_eq_true.mp w_l q hq)
    exact ⟨hl (2, iL PW) (by simp), hl (3, iL LW) (by simp), hl (4, iL UW) (by simp), hl (5, iL DW) (by simp)⟩
end
