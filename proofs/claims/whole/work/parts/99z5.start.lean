/-! The law's start. -/
set_option maxRecDepth 100000 in
theorem pm_inj : (List.range 109).all (fun i => (List.range 109).all (fun j => decide (pm i = pm j → i = j))) = true := by decide +kernel
set_option maxRecDepth 100000 in
theorem slS_F : slS wF ≤ 10000 := by decide +kernel
set_option maxRecDepth 20000 in
theorem st_w : [Cond.laysStatic "java/lang/String" "COMPACT_STRINGS" "Z", .initialized "java/lang/String", .laysStatic "jdk/internal/util/Preconditions" "SIOOBE_FORMATTER" "Ljava/util/function/BiFunction;", .initialized "jdk/internal/util/Preconditions", .laysStatic Bundle.tN "UNASSIGNED_STACK" Bundle.steD, .laysStatic Bundle.tN "SUPPRESSED_SENTINEL" Bundle.listD, .initialized Bundle.tN, .arrayClass .byte, .arrayClass .int, .arrayClass .long, .arrayClass .boolean, .arrayOver (.object RX3), .arrayOver (.array .long), .stringRef RX4 22 "point", .stringRef RX4 32 "line", .stringRef RX4 37 "up", .stringRef RX4 42 "down"].all (fun w => decide (w ∈ lw_tbl)) = true := by decide +kernel
set_option maxRecDepth 20000 in
theorem zW_t : zW.all (fun w => decide (w ∈ lw_tbl)) = true := by decide +kernel
set_option maxRecDepth 20000 in
theorem inst_t : [0, 1, 3, 4, 5, 6, 7, 8].all (fun c => decide (Cond.instantiable (clR c) (clN c) ∈ lw_tbl)) = true := by decide +kernel
abbrev gvC : Cond := Jvm.Cond.and given_1 narrow_1
abbrev tmS (i : Nat) : Term := .string RX4 (lxS.getD i (0, "")).1
set_option maxRecDepth 20000 in
theorem gv_s : ((List.range 4).all (fun i => decide (Cond.exactly (tmS i) "java/lang/String" ∈ flatC gvC) && decide (Cond.eq (.field (tmS i) "java/lang/String" "coder" "B") (.int 0) ∈ flatC gvC) && decide (Cond.arrayOf (.field (tmS i) "java/lang/String" "value" "[B") .byte ∈ flatC gvC) && decide (Cond.eq (.length (.field (tmS i) "java/lang/String" "value" "[B")) (.int (Int32.ofNat (lenS.getD i 0))) ∈ flatC gvC) && (List.range (lenS.getD i 0)).all (fun j => decide (Cond.eq (.elem (.field (tmS i) "java/lang/String" "value" "[B") (.int (Int32.ofNat j))) (.int ((bytS.getD i []).getD j 0)) ∈ flatC gvC)) && (List.range i).all (fun j => decide (Cond.not (Cond.eq (tmS j) (tmS i)) ∈ flatC gvC)))) = true := by decide +kernel
set_option maxRecDepth 20000 in
theorem gv_o : [Cond.eq (.static "java/lang/String" "COMPACT_STRINGS" "Z") (.int 1), .isRef (.static "jdk/internal/util/Preconditions" "SIOOBE_FORMATTER" "Ljava/util/function/BiFunction;"), .isRef (.static Bundle.tN "UNASSIGNED_STACK" Bundle.steD), .isRef (.static Bundle.tN "SUPPRESSED_SENTINEL" Bundle.listD)].all (fun w => decide (w ∈ flatC gvC)) = true := by decide +kernel
section
variable {s : State} {b : Nat}
theorem K_start (hts : ∀ w ∈ lw_tbl, w.before #[Value.ref b] s = true) : ∃ (D : va_G) (cs : Nat → ClassId), va_K D cls9 (tys6 cs) s := by
  have hTS : ∀ w ∈ TS, w.before #[Value.ref b] s = true := fun w hw => hts w (List.mem_filter.mp hw).1
  have h0 : ∀ c, ∃ q : ClassId × (Nat → Nat), c < 9 → u_Kn s (clR c) (cls9.getD c ("", TX2, 0)).2.1 (clN c) q.1 q.2 := by
    intro c
    by_cases h9 : c < 9
    · by_cases h2 : c = 2
      · subst h2
        obtain ⟨cC, iS, h⟩ := u_known (C := clR 2) (T := (cls9.getD 2 ("", TX2, 0)).2.1) (N := clN 2) (n := clN 0) hTS (cls9_in (by decide)) (hts (.instantiable (clR 0) (clN 0)) (of_decide_eq_true (List.all_eq_true.mp inst_t 0 (by simp))))
        exact ⟨(cC, iS), fun _ => h⟩
      · have hm : c ∈ [0, 1, 3, 4, 5, 6, 7, 8] := by
          match c, h9, h2 with
          | 0, _, _ => simp
          | 1, _, _ => simp
          | 3, _, _ => simp
          | 4, _, _ => simp
          | 5, _, _ => simp
          | 6, _, _ => simp
          | 7, _, _ => simp
          | 8, _, _ => simp
        obtain ⟨cC, iS, h⟩ := u_known (C := clR c) (T := (cls9.getD c ("", TX2, 0)).2.1) (N := clN c) (n := clN c) hTS (cls9_in h9) (hts _ (of_decide_eq_true (List.all_eq_true.mp inst_t c hm)))
        exact ⟨(cC, iS), fun _ => h⟩
    · exact ⟨(0, fun _ => 0), fun z => absurd z h9⟩
  obtain ⟨q, hq⟩ := Classical.axiomOfChoice h0
  have hw : ∀ w ∈ [Cond.laysStatic "java/lang/String" "COMPACT_STRINGS" "Z", .initialized "java/lang/String", .laysStatic "jdk/internal/util/Preconditions" "SIOOBE_FORMATTER" "Ljava/util/function/BiFunction;", .initialized "jdk/internal/util/Preconditions", .laysStatic Bundle.tN "UNASSIGNED_STACK" Bundle.steD, .laysStatic Bundle.tN "SUPPRESSED_SENTINEL" Bundle.listD, .initialized Bundle.tN, .arrayClass .byte, .arrayClass .int, .arrayClass .long, .arrayClass .boolean, .arrayOver (.object RX3), .arrayOver (.array .long), .stringRef RX4 22 "point", .stringRef RX4 32 "line", .stringRef RX4 37 "up", .stringRef RX4 42 "down"], w.before #[Value.ref b] s = true := fun w hw => hts w (of_decide_eq_true (List.all_eq_true.mp st_w w hw))
  have hp : ∀ ty : FieldType, (Cond.arrayClass ty).before #[Value.ref b] s = true → (∀ C, ty ≠ .object C) → ∃ c, ArrOfT s c ty ∧ va_RA s c ty := by
    intro ty h hn
    obtain ⟨c, k, comp, h1, h2, h3⟩ := Cond.arrayClass_spec h
    refine ⟨c, fun n z => ⟨fun k h => (by cases h), k, h2, comp, h3⟩, ?_⟩
    cases ty with
    | object C => exact absurd rfl (hn C)
    | _ => exact h1
  obtain ⟨c0, g0⟩ := hp .byte (hw _ (by simp)) (by simp)
  obtain ⟨c1, g1⟩ := hp .int (hw _ (by simp)) (by simp)
  obtain ⟨c2, g2⟩ := hp .long (hw _ (by simp)) (by simp)
  obtain ⟨c3, g3⟩ := hp .boolean (hw _ (by simp)) (by simp)
  obtain ⟨comp4, c4, k4, a1, a2, a3, a4, a5⟩ := Cond.arrayOver_spec (hw (.arrayOver (.object RX3)) (by simp))
  obtain ⟨comp5, c5, k5, b1, b3, b4, b5⟩ := Cond.arrayOver_specA (hw (.arrayOver (.array .long)) (by simp))
  refine ⟨(fun c => (q c).1, fun c => (q c).2), fun i => match i with
    | 0 => c0
    | 1 => c1
    | 2 => c2
    | 3 => c3
    | 4 => c4
    | _ => c5, fun c r hc => ?_, fun k r hk => ?_⟩
  · have h9 : c < 9 := (List.getElem?_eq_some_iff.mp hc).1
    rw [cls9_at h9] at hc
    cases hc
    exact hq c h9
  · match k, hk with
    | 0, hk => cases hk; exact g0
    | 1, hk => cases hk; exact g1
    | 2, hk => cases hk; exact g2
    | 3, hk => cases hk; exact g3
    | 4, hk => cases hk; exact ⟨fun n z => ⟨fun k h => (by cases h), k4, a3, comp4, a4⟩, k4, comp4, a3, a4, a1, a5⟩
    | 5, hk => cases hk; exact ⟨fun n z => ⟨fun k h => (by cases h), k5, b3, comp5, b4⟩, b5⟩
    | k + 6, hk => simp at hk
theorem S_start (hts : ∀ w ∈ lw_tbl, w.before #[Value.ref b] s = true) (hgv : gvC.before #[Value.ref b] s = true) : ∃ adK adV : Nat → Nat, SXf adK adV s.heap.size s s.heap ∧ (∀ i, i < 4 → vk_R RX4 (lxS.getD i (0, "")).1 (lxS.getD i (0, "")).2 (adK i) s) ∧ ZZ s.heap.size s s.heap := by
  have hg := flat_of_before _ hgv
  have hA : ∀ a : Nat, a < s.heap.size → ¬ (fun q : Nat => s.heap.size ≤ q) a := fun a ha => Nat.not_le.mpr ha
  have hw : ∀ w ∈ [Cond.laysStatic "java/lang/String" "COMPACT_STRINGS" "Z", .initialized "java/lang/String", .laysStatic "jdk/internal/util/Preconditions" "SIOOBE_FORMATTER" "Ljava/util/function/BiFunction;", .initialized "jdk/internal/util/Preconditions", .laysStatic Bundle.tN "UNASSIGNED_STACK" Bundle.steD, .laysStatic Bundle.tN "SUPPRESSED_SENTINEL" Bundle.listD, .initialized Bundle.tN, .arrayClass .byte, .arrayClass .int, .arrayClass .long, .arrayClass .boolean, .arrayOver (.object RX3), .arrayOver (.array .long), .stringRef RX4 22 "point", .stringRef RX4 32 "line", .stringRef RX4 37 "up", .stringRef RX4 42 "down"], w.before #[Value.ref b] s = true := fun w hw => hts w (of_decide_eq_true (List.all_eq_true.mp st_w w hw))
  have ho : ∀ w ∈ [Cond.eq (.static "java/lang/String" "COMPACT_STRINGS" "Z") (.int 1), .isRef (.static "jdk/internal/util/Preconditions" "SIOOBE_FORMATTER" "Ljava/util/function/BiFunction;"), .isRef (.static Bundle.tN "UNASSIGNED_STACK" Bundle.steD), .isRef (.static Bundle.tN "SUPPRESSED_SENTINEL" Bundle.listD)], w.before #[Value.ref b] s = true := fun w hw => hg w (of_decide_eq_true (List.all_eq_true.mp gv_o w hw))
  have hs : ∀ i, i < 4 → (Cond.exactly (tmS i) "java/lang/String").before #[Value.ref b] s = true ∧ (Cond.eq (.field (tmS i) "java/lang/String" "coder" "B") (.int 0)).before #[Value.ref b] s = true ∧ (Cond.arrayOf (.field (tmS i) "java/lang/String" "value" "[B") .byte).before #[Value.ref b] s = true ∧ (Cond.eq (.length (.field (tmS i) "java/lang/String" "value" "[B")) (.int (Int32.ofNat (lenS.getD i 0)))).before #[Value.ref b] s = true ∧ (∀ j, j < lenS.getD i 0 → (Cond.eq (.elem (.field (tmS i) "java/lang/String" "value" "[B") (.int (Int32.ofNat j))) (.int ((bytS.getD i []).getD j 0))).before #[Value.ref b] s = true) ∧ ∀ j, j < i → (Cond.not (Cond.eq (tmS j) (tmS i))).before #[Value.ref b] s = true := by
    intro i hi
    have h1 := List.all_eq_true.mp gv_s i (List.mem_range.mpr hi)
    simp only [Bool.and_eq_true, decide_eq_true_eq] at h1
    obtain ⟨⟨⟨⟨⟨h1, h2⟩, h3⟩, h4⟩, h5⟩, h6⟩ := h1
    exact ⟨hg _ h1, hg _ h2, hg _ h3, hg _ h4, fun j hj => hg _ (of_decide_eq_true (List.all_eq_true.mp h5 j (List.mem_range.mpr hj))), fun j hj => hg _ (of_decide_eq_true (List.all_eq_true.mp h6 j (List.mem_range.mpr hj)))⟩
  obtain ⟨adK, adV, hV, hE⟩ := vk_Sof (N := 4) (tm := tmS) (len := lenS) (byt := bytS) (A := fun q => s.heap.size ≤ q) (fun i hi => by have := len_lt hi; omega) (fun i hi => (hs i hi).1) (fun i hi => (hs i hi).2.1) (fun i hi => (hs i hi).2.2.1) (fun i hi => (hs i hi).2.2.2.1) (fun i hi j hj => (hs i hi).2.2.2.2.1 j hj) (fun i j hi hj hij => by
    rcases Nat.lt_or_gt_of_ne hij with z | z
    · exact Or.inl ((hs j hj).2.2.2.2.2 i z)
    · exact Or.inr ((hs i hi).2.2.2.2.2 j z)) hA
  refine ⟨adK, adV, ⟨hV, va_Zof (hw _ (by simp)) (hw _ (by simp)) (va_eqt (ho _ (by simp))) hA, va_Zqof (hw _ (by simp)) (hw _ (by simp)) (ho _ (by simp)) hA⟩, fun i hi => ?_, vx_Zqof (hw _ (by simp)) (hw _ (by simp)) (ho _ (by simp)) hA, vx_Zqof (hw _ (by simp)) (hw _ (by simp)) (ho _ (by simp)) hA, zW_at (Vm.Alike.refl s.vm) (fun w hw => hts w (of_decide_eq_true (List.all_eq_true.mp zW_t w hw)))⟩
  refine vk_R.of (A := #[Value.ref b]) ?_ (hE i hi)
  match i, hi with
  | 0, _ => exact hw (.stringRef RX4 22 "point") (by simp)
  | 1, _ => exact hw (.stringRef RX4 32 "line") (by simp)
  | 2, _ => exact hw (.stringRef RX4 37 "up") (by simp)
  | 3, _ => exact hw (.stringRef RX4 42 "down") (by simp)
end
