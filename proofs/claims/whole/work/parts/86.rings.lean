/-! Rings are counted alike. -/
theorem flt_two {f g k : Nat → Bool} : ∀ L : List Nat, (∀ i ∈ L, f i = (g i || k i) ∧ ¬ (g i = true ∧ k i = true)) → (L.filter f).length = (L.filter g).length + (L.filter k).length := by
  intro L
  induction L with
  | nil => intro _; rfl
  | cons a L ih =>
    intro hL
    have h1 := hL a (List.mem_cons_self ..)
    have h2 := ih (fun i hi => hL i (List.mem_cons_of_mem _ hi))
    cases hg : g a <;> cases hk : k a <;> simp only [hg, hk, Bool.or_true, Bool.or_false, Bool.true_or, Bool.false_or] at h1 <;> simp_all [List.filter_cons] <;> omega
section
variable {d : Nat} {h : Hp} {Q : Option (Option Value) → Hp → Prop} {r : Nat → Int32}
theorem cnt_rings : cnt11 (maskOf (snd r)) = cnt11 (maskOf (tre r)) + cnt11 (maskOf (rngL r)) := by
  unfold cnt11
  refine flt_two _ (fun i hi => ?_)
  have hi : i < 32 := by have := List.mem_range.mp hi; omega
  have a := bt_mask (S := snd r) hi
  have b := bt_mask (S := tre r) hi
  have c := bt_mask (S := rngL r) hi
  constructor
  · by_cases h1 : snd r i
    · rw [a.mpr h1]
      by_cases h2 : tre r i
      · rw [b.mpr h2]; rfl
      · rw [c.mpr ⟨h1, h2⟩, Bool.or_true]
    · have ha : bt (maskOf (snd r)) i = false := Bool.eq_false_iff.mpr (fun z => h1 (a.mp z))
      have hb : bt (maskOf (tre r)) i = false := Bool.eq_false_iff.mpr (fun z => h1 (tre_snd (b.mp z)))
      have hc : bt (maskOf (rngL r)) i = false := Bool.eq_false_iff.mpr (fun z => h1 (c.mp z).1)
      rw [ha, hb, hc]; rfl
  · exact fun z => (c.mp z.2).2 (b.mp z.1)
theorem m_ringsX (hr : h.1 95 = r) (hV : VR r) (kk : mPost r h Q 0 (some (.int (nI (cnt11 (maskOf (rngL r))))))) : WP (d + 5) 161 0 [some (.ref 93)] [] h Q := by
  have k1 := kk _ M0 (r0 (x := 0) hr) t0
  rw [m_rings hr hV]
  have e : nI (cnt11 (maskOf (snd r))) - nI (cnt11 (maskOf (tre r))) = nI (cnt11 (maskOf (rngL r))) := by
    rw [cnt_rings, ← nI_add]
    grind
  rw [e]
  exact k1
end
