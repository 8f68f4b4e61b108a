/-! The machine's heap and locals beside the abstract ones. -/
def tr (ad : Nat → Nat) : Value → Value
  | .ref k => .ref (ad k)
  | v => v
theorem tr_cat (ad : Nat → Nat) (v : Value) : (tr ad v).category = v.category := by cases v <;> rfl
/-- the locals -/
def LH (ad : Nat → Nat) (ls : Array Slot) (n : Nat) (lv : LV) : Prop := lv.length = n ∧ ls.size = n ∧ lv_wf ls ∧ ∀ (i : Nat) (v : Value), lv[i]? = some (some v) → ls[i]? = some (.val (tr ad v))
def asl (ad : Nat → Nat) (lv : LV) : List (Nat × Value) := (List.range lv.length).filterMap (fun i => (ldv lv i).map (fun v => (i, tr ad v)))
theorem ldv_some {lv : LV} {i : Nat} {v : Value} (h : ldv lv i = some v) : lv[i]? = some (some v) := by
  unfold ldv at h
  cases hq : lv[i]? with
  | none => rw [hq] at h; cases h
  | some o => rw [hq] at h; cases o with
    | none => cases h
    | some w => cases h; rfl
theorem ldv_of {lv : LV} {i : Nat} {v : Value} (h : lv[i]? = some (some v)) : ldv lv i = some v := by
  unfold ldv
  rw [h]
  rfl
theorem asl_mem {ad : Nat → Nat} {lv : LV} {q : Nat × Value} : q ∈ asl ad lv ↔ ∃ v, lv[q.1]? = some (some v) ∧ q.2 = tr ad v := by
  unfold asl
  rw [List.mem_filterMap]
  constructor
  · rintro ⟨i, hi, hq⟩
    cases hv : ldv lv i with
    | none => rw [hv] at hq; cases hq
    | some v =>
      rw [hv] at hq
      cases hq
      exact ⟨v, ldv_some hv, rfl⟩
  · rintro ⟨v, h1, h2⟩
    refine ⟨q.1, List.mem_range.mpr (List.getElem?_eq_some_iff.mp h1).1, ?_⟩
    rw [ldv_of h1]
    show some (q.1, tr ad v) = some q
    rw [← h2]
theorem LH_has {ad : Nat → Nat} {ls : Array Slot} {n : Nat} {lv : LV} (h : LH ad ls n lv) : lv_has ls n (asl ad lv) := by
  refine ⟨h.2.1, h.2.2.1, fun q hq => ?_⟩
  obtain ⟨v, h1, h2⟩ := asl_mem.mp hq
  rw [h2]
  exact h.2.2.2 _ _ h1
theorem LH_at {ad : Nat → Nat} {ls : Array Slot} {n : Nat} {lv : LV} (h : LH ad ls n lv) {i : Nat} {v : Value} (hv : ldv lv i = some v) : ls[i]? = some (.val (tr ad v)) := h.2.2.2 _ _ (ldv_some hv)
theorem st1_len {lv : LV} {i : Nat} {v : Value} : (st1 lv i v).length = lv.length := by
  unfold st1
  split <;> simp
theorem kl_some {o : Option Value} {w : Value} (h : kl o = some w) : o = some w ∧ ¬ w.category = 2 := by
  unfold kl at h
  split at h
  · cases h
  · cases h
  · rename_i h1 h2
    refine ⟨h, ?_⟩
    subst h
    intro hc
    cases w with
    | long x => exact h1 x rfl
    | double x => exact h2 x rfl
    | _ => simp [Value.category] at hc
theorem st1_at {lv : LV} {i j : Nat} {v w : Value} (h : (st1 lv i v)[j]? = some (some w)) : (j = i ∧ w = v) ∨ (j ≠ i ∧ lv[j]? = some (some w) ∧ ¬ (j + 1 = i ∧ w.category = 2)) := by
  unfold st1 at h
  split at h
  · by_cases hj : j = 0
    · subst hj
      rw [List.getElem?_set_self'] at h
      cases hq : lv[0]? with
      | none => rw [hq] at h; cases h
      | some o => rw [hq] at h; cases h; exact Or.inl ⟨rfl, rfl⟩
    · rw [List.getElem?_set_ne (Ne.symm hj)] at h
      exact Or.inr ⟨hj, h, fun q => by omega⟩
  · rename_i k
    by_cases hj : j = k + 1
    · subst hj
      rw [List.getElem?_set_self'] at h
      cases hq : (lv.modify k kl)[k + 1]? with
      | none => rw [hq] at h; cases h
      | some o => rw [hq] at h; cases h; exact Or.inl ⟨rfl, rfl⟩
    · rw [List.getElem?_set_ne (Ne.symm hj), List.getElem?_modify] at h
      by_cases hk : k = j
      · subst hk
        cases hq : lv[k]? with
        | none => rw [hq] at h; cases h
        | some o =>
          rw [hq] at h
          simp only [if_true, Option.map_eq_map, Option.map_some] at h
          obtain ⟨h1, h2⟩ := kl_some (Option.some.inj h)
          exact Or.inr ⟨by omega, by rw [h1], fun q => h2 q.2⟩
      · cases hq : lv[j]? with
        | none => rw [hq] at h; cases h
        | some o =>
          rw [hq] at h
          simp only [hk, if_false, Option.map_eq_map, Option.map_some, id_eq] at h
          exact Or.inr ⟨hj, by rw [← h], fun q => by omega⟩
theorem LH_st1 {ad : Nat → Nat} {ls' : Array Slot} {n i : Nat} {lv : LV} {v : Value} (hn : lv.length = n) (h : lv_has ls' n ((i, tr ad v) :: (asl ad lv).filter (fun q => !(q.1 == i) && !(q.1 + 1 == i && q.2.category == 2)))) : LH ad ls' n (st1 lv i v) := by
  refine ⟨st1_len.trans hn, h.1, h.2.1, fun j w hj => ?_⟩
  rcases st1_at hj with ⟨rfl, rfl⟩ | ⟨h1, h2, h3⟩
  · exact h.2.2 _ List.mem_cons_self
  · refine h.2.2 (j, tr ad w) (List.mem_cons_of_mem _ (List.mem_filter.mpr ⟨asl_mem.mpr ⟨w, h2, rfl⟩, ?_⟩))
    rw [tr_cat]
    simp only [Bool.and_eq_true, Bool.not_eq_true', beq_eq_false_iff_ne, ne_eq, Bool.and_eq_false_iff]
    refine ⟨h1, ?_⟩
    by_cases hq : j + 1 = i
    · exact Or.inr (fun z => h3 ⟨hq, z⟩)
    · exact Or.inl hq
theorem LH_st2 {ad : Nat → Nat} {ls' : Array Slot} {n i : Nat} {lv : LV} {v : Value} (hn : lv.length = n) (h : lv_has ls' n ((i, tr ad v) :: (asl ad lv).filter (fun q => !(q.1 == i) && (!(q.1 == i + 1) && !(q.1 + 1 == i && q.2.category == 2))))) : LH ad ls' n (st2 lv i v) := by
  refine ⟨(by unfold st2; rw [List.length_set, st1_len]; exact hn), h.1, h.2.1, fun j w hj => ?_⟩
  unfold st2 at hj
  by_cases hj1 : j = i + 1
  · subst hj1
    rw [List.getElem?_set_self'] at hj
    cases hq : (st1 lv i v)[i + 1]? with
    | none => rw [hq] at hj; cases hj
    | some o => rw [hq] at hj; cases hj
  · rw [List.getElem?_set_ne (Ne.symm hj1)] at hj
    rcases st1_at hj with ⟨rfl, rfl⟩ | ⟨h1, h2, h3⟩
    · exact h.2.2 _ List.mem_cons_self
    · refine h.2.2 (j, tr ad w) (List.mem_cons_of_mem _ (List.mem_filter.mpr ⟨asl_mem.mpr ⟨w, h2, rfl⟩, ?_⟩))
      rw [tr_cat]
      simp only [Bool.and_eq_true, Bool.not_eq_true', beq_eq_false_iff_ne, ne_eq, Bool.and_eq_false_iff]
      refine ⟨h1, hj1, ?_⟩
      by_cases hq : j + 1 = i
      · exact Or.inr (fun z => h3 ⟨hq, z⟩)
      · exact Or.inl hq
/-- the locals at a method's entry -/
theorem ent_at : ∀ (as : List Value) (k i : Nat) (v : Value), (as.flatMap (fun v => if v.category = 2 then [some v, none] else [some v]))[i]? = some (some v) → (k + i, v) ∈ lv_args k as := by
  intro as
  induction as with
  | nil => intro k i v h; simp at h
  | cons a as ih =>
    intro k i v h
    rw [List.flatMap_cons] at h
    unfold lv_args
    by_cases hc : a.category = 2
    · rw [if_pos hc] at h ⊢
      match i, h with
      | 0, h => cases h; exact List.mem_cons_self
      | 1, h => cases h
      | i + 2, h =>
        have := ih (k + 2) i v h
        rw [show k + (i + 2) = k + 2 + i by omega]
        exact List.mem_cons_of_mem _ this
    · rw [if_neg hc] at h ⊢
      match i, h with
      | 0, h => cases h; exact List.mem_cons_self
      | i + 1, h =>
        have := ih (k + 1) i v h
        rw [show k + (i + 1) = k + 1 + i by omega]
        exact List.mem_cons_of_mem _ this
theorem lv_args_map (ad : Nat → Nat) : ∀ (as : List Value) (k : Nat) (q : Nat × Value), q ∈ lv_args k as → (q.1, tr ad q.2) ∈ lv_args k (as.map (tr ad)) := by
  intro as
  induction as with
  | nil => intro k q h; cases h
  | cons a as ih =>
    intro k q h
    unfold lv_args at h
    show (q.1, tr ad q.2) ∈ lv_args k (tr ad a :: as.map (tr ad))
    unfold lv_args
    rw [tr_cat]
    rcases List.mem_cons.mp h with rfl | h
    · exact List.mem_cons_self
    · exact List.mem_cons_of_mem _ (ih _ q h)
theorem ent_len {as : List Value} : (as.flatMap (fun v => if v.category = 2 then [some v, (none : Option Value)] else [some v])).length = (as.map (fun v => v.category)).sum := by
  induction as with
  | nil => rfl
  | cons a as ih =>
    rw [List.flatMap_cons, List.length_append, ih, List.map_cons, List.sum_cons]
    rcases lv_cat a with h | h <;> simp [h]
theorem sl_len {as : List Value} : (lg_sl as).length = (as.map (fun v => v.category)).sum := by
  unfold lg_sl
  induction as with
  | nil => rfl
  | cons a as ih =>
    rw [List.flatMap_cons, List.length_append, ih, List.map_cons, List.sum_cons]
    rcases lv_cat a with h | h <;> simp [h]
theorem cat_map (ad : Nat → Nat) (as : List Value) : ((as.map (tr ad)).map (fun v => v.category)) = as.map (fun v => v.category) := by
  rw [List.map_map]
  exact List.map_congr_left (fun v _ => tr_cat ad v)
theorem LH_ent {ad : Nat → Nat} {n : Nat} {as : List Value} (h : (as.map (fun v => v.category)).sum ≤ n) : LH ad ((lg_sl (as.map (tr ad)) ++ List.replicate (n - (lg_sl (as.map (tr ad))).length) Slot.unset).toArray) n (ent n as) := by
  have hh := lv_entry (as.map (tr ad)) (n := n) (by rw [sl_len, cat_map]; exact h)
  refine ⟨?_, hh.1, hh.2.1, fun i v hi => ?_⟩
  · unfold ent
    rw [List.length_append, List.length_replicate, ent_len]
    omega
  · unfold ent at hi
    rcases Nat.lt_or_ge i (as.flatMap (fun v : Value => if v.category = 2 then [some v, (none : Option Value)] else [some v])).length with hl | hl
    · rw [List.getElem?_append_left hl] at hi
      have h1 := ent_at as 0 i v hi
      rw [Nat.zero_add] at h1
      exact hh.2.2 (i, tr ad v) (lv_args_map ad as 0 (i, v) h1)
    · rw [List.getElem?_append_right hl] at hi
      have := List.mem_of_getElem? hi
      rw [List.mem_replicate] at this
      cases this.2
/-! the heap -/
def fv (ad : Nat → Nat) (h : Hp) (k c j : Nat) : Value := match fK c j with
  | 1 => .long (h.2.1 k j)
  | 2 => va_rf ((RT k j).map ad)
  | _ => .int (h.1 k j)
def fN (c : Nat) : Nat := (fKL.getD c []).length
def cellE (cs : Nat → ClassId) (ad : Nat → Nat) (h : Hp) (k : Nat) : va_E := match shp k with
  | some (0, c) => .inr (c, (List.range (fN c)).map (fv ad h k c))
  | some (1, n) => .inl (cs 1, n, .inl (h.1 k))
  | some (2, n) => .inl (cs 0, n, .inl (h.1 k))
  | some (3, n) => .inl (cs 3, n, .inl (h.1 k))
  | some (4, n) => .inl (cs 2, n, .inr (.inl (h.2.1 k)))
  | some (5, n) => .inl (cs 4, n, .inr (.inr (.inr (.inr (fun j => (RT k j).map ad)))))
  | some (_, n) => .inl (cs 5, n, .inr (.inr (.inr (.inr (fun j => (RT k j).map ad)))))
  | none => .inr (0, [])
def wsh (cs : Nat → ClassId) (ad : Nat → Nat) (h : Hp) : va_W := (List.range 109).map (fun k => (ad k, cellE cs ad h k))
abbrev tys6 (cs : Nat → ClassId) : List (ClassId × FieldType) := [(cs 0, .byte), (cs 1, .int), (cs 2, .long), (cs 3, .boolean), (cs 4, .object RX3), (cs 5, .array .long)]
theorem wsh_get {cs : Nat → ClassId} {ad : Nat → Nat} {h : Hp} {k : Nat} (hk : k < 109) : (wsh cs ad h)[k]? = some (ad k, cellE cs ad h k) := by
  unfold wsh
  rw [List.getElem?_map, List.getElem?_range hk]
  rfl
theorem cellE_congr {cs : Nat → ClassId} {ad : Nat → Nat} {h h' : Hp} {k : Nat} (h1 : h'.1 k = h.1 k) (h2 : h'.2.1 k = h.2.1 k) : cellE cs ad h' k = cellE cs ad h k := by
  unfold cellE
  have hf : ∀ c j, fv ad h' k c j = fv ad h k c j := fun c j => by unfold fv; rw [h1, h2]
  split
  · simp only [funext (hf _)]
  all_goals (first | rw [h1] | rw [h2] | rfl)
theorem wsh_set {cs : Nat → ClassId} {ad : Nat → Nat} {h h' : Hp} {a : Nat} (h1 : ∀ k, k ≠ a → h'.1 k = h.1 k) (h2 : ∀ k, k ≠ a → h'.2.1 k = h.2.1 k) : wsh cs ad h' = (wsh cs ad h).set a (ad a, cellE cs ad h' a) := by
  apply List.ext_getElem?
  intro k
  by_cases hk : k < 109
  · rw [wsh_get hk]
    by_cases hka : k = a
    · subst hka
      rw [List.getElem?_set_self (by unfold wsh; rw [List.length_map, List.length_range]; exact hk)]
    · rw [List.getElem?_set_ne (Ne.symm hka), wsh_get hk, cellE_congr (h1 k hka) (h2 k hka)]
  · have e : ∀ h : Hp, (wsh cs ad h).length = 109 := fun h => by unfold wsh; rw [List.length_map, List.length_range]
    rw [List.getElem?_eq_none (by rw [e]; omega), List.getElem?_eq_none (by rw [List.length_set, e]; omega)]
theorem setI_1 {h : Hp} {a j k : Nat} {x : Int32} (hk : k ≠ a) : (setI h a j x).1 k = h.1 k := if_neg hk
theorem setI_s {h : Hp} {a j : Nat} {x : Int32} : (setI h a j x).1 a = upd (h.1 a) j x := if_pos rfl
theorem setL_1 {h : Hp} {a j k : Nat} {x : Int64} (hk : k ≠ a) : (setL h a j x).2.1 k = h.2.1 k := if_neg hk
theorem setL_s {h : Hp} {a j : Nat} {x : Int64} : (setL h a j x).2.1 a = vp_updL (h.2.1 a) j x := if_pos rfl
/-- the world: its cells, and the script as it was -/
def Rep (D : va_G) (cs : Nat → ClassId) (ad : Nat → Nat) (xs : Nat → Int32) (L : Nat) (h : Hp) (H : Heap) : Prop := va_P D cls9 (wsh cs ad h) H ∧ h.1 1000 = xs ∧ h.2.2.2 = L
