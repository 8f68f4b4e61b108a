/-! Labels of what is tied; what a line of the tree parts. -/
noncomputable def labOf (r : Nat → Int32) (by_ : Nat → Prop) (p : Nat) : Nat := mnU (Td r by_ p) p 0
section
variable {r : Nat → Int32} {by_ by2 : Nat → Prop} {p q l : Nat}
theorem lab_ok (r : Nat → Int32) (by_ : Nat → Prop) (p : Nat) : Td r by_ p (labOf r by_ p) ∧ labOf r by_ p ≤ p ∧ ∀ j, j < labOf r by_ p → ¬ Td r by_ p j := by
  obtain ⟨a, b, c, e⟩ := mnU_ok (S := Td r by_ p) p 0 (by rw [Nat.zero_add]; exact Td_rf)
  exact ⟨a, by unfold labOf; omega, fun j hj => e j (Nat.zero_le _) hj⟩
theorem lab_uniq (h1 : Td r by_ p q) (h2 : ∀ j, j < q → ¬ Td r by_ p j) : labOf r by_ p = q := by
  obtain ⟨a, b, c⟩ := lab_ok r by_ p
  rcases Nat.lt_trichotomy (labOf r by_ p) q with h | h | h
  · exact absurd a (h2 _ h)
  · exact h
  · exact absurd h1 (c _ h)
theorem lab_td : labOf r by_ p = labOf r by_ q ↔ Td r by_ p q := by
  obtain ⟨a, b, c⟩ := lab_ok r by_ p
  obtain ⟨a', b', c'⟩ := lab_ok r by_ q
  constructor
  · intro h
    rw [h] at a
    exact Td_tr a (Td_sy a')
  · intro h
    exact lab_uniq (Td_tr h a') (fun j hj z => c' j hj (Td_tr (Td_sy h) z))
theorem lab_congr (hm : ∀ l, l < rL r → (by_ l ↔ by2 l)) : labOf r by_ p = labOf r by2 p := by
  obtain ⟨a, b, c⟩ := lab_ok r by2 p
  exact lab_uniq ((Td_congr hm).mpr a) (fun j hj z => c j hj ((Td_congr hm).mp z))
theorem lab_tre : labOf r (tre r) p = ptOf r p := by
  obtain ⟨a, b, c⟩ := ptOf_ok r p
  exact lab_uniq (Td_tre.mpr a) (fun j hj z => c j hj (Td_tre.mp z))
/-- one line more: the greater label becomes the lesser one -/
theorem lab_add (hl : l < rL r) (hm : ∀ k, k < rL r → (by2 k ↔ by_ k ∨ k = l)) : labOf r by2 p = if labOf r by_ p = max (labOf r by_ (rA r l)) (labOf r by_ (rB r l)) then min (labOf r by_ (rA r l)) (labOf r by_ (rB r l)) else labOf r by_ p := by
  obtain ⟨a1, a2, a3⟩ := lab_ok r by_ (rA r l)
  obtain ⟨b1, b2, b3⟩ := lab_ok r by_ (rB r l)
  obtain ⟨c1, c2, c3⟩ := lab_ok r by_ p
  have up : ∀ {x y : Nat}, Td r by_ x y → Td r by2 x y := Td_mono (fun k hk z => (hm k hk).mpr (Or.inl z))
  have hAB : Td r by2 (rA r l) (rB r l) := Td_line hl ((hm l hl).mpr (Or.inr rfl))
  have dn : ∀ {x y : Nat}, Td r by2 x y → Td r by_ x y ∨ (Td r by_ x (rA r l) ∧ Td r by_ (rB r l) y) ∨ (Td r by_ x (rB r l) ∧ Td r by_ (rA r l) y) := Td_add (fun k hk z => (hm k hk).mp z)
  by_cases hp : Td r by_ p (rA r l) ∨ Td r by_ p (rB r l)
  · have key : labOf r by2 p = min (labOf r by_ (rA r l)) (labOf r by_ (rB r l)) := by
      have pA : Td r by2 p (rA r l) := by
        rcases hp with h | h
        · exact up h
        · exact Td_tr (up h) (Td_sy hAB)
      refine lab_uniq ?_ (fun j hj z => ?_)
      · rcases Nat.le_total (labOf r by_ (rA r l)) (labOf r by_ (rB r l)) with h | h
        · rw [Nat.min_eq_left h]
          exact Td_tr pA (up a1)
        · rw [Nat.min_eq_right h]
          exact Td_tr pA (Td_tr hAB (up b1))
      · have jA : Td r by_ (rA r l) j ∨ Td r by_ (rB r l) j := by
          rcases dn z with h | ⟨-, h⟩ | ⟨-, h⟩
          · rcases hp with h2 | h2
            · exact Or.inl (Td_tr (Td_sy h2) h)
            · exact Or.inr (Td_tr (Td_sy h2) h)
          · exact Or.inr h
          · exact Or.inl h
        rcases jA with h | h
        · exact a3 j (by omega) h
        · exact b3 j (by omega) h
    rw [key]
    have : labOf r by_ p = labOf r by_ (rA r l) ∨ labOf r by_ p = labOf r by_ (rB r l) := hp.imp lab_td.mpr lab_td.mpr
    by_cases hq : labOf r by_ p = max (labOf r by_ (rA r l)) (labOf r by_ (rB r l))
    · rw [if_pos hq]
    · rw [if_neg hq]
      omega
  · have hq : ¬ labOf r by_ p = max (labOf r by_ (rA r l)) (labOf r by_ (rB r l)) := by
      intro z
      apply hp
      rcases Nat.le_total (labOf r by_ (rA r l)) (labOf r by_ (rB r l)) with h | h
      · rw [Nat.max_eq_right h] at z
        exact Or.inr (lab_td.mp z)
      · rw [Nat.max_eq_left h] at z
        exact Or.inl (lab_td.mp z)
    rw [if_neg hq]
    refine lab_uniq (up c1) (fun j hj z => ?_)
    rcases dn z with h | ⟨h, -⟩ | ⟨h, -⟩
    · exact c3 j hj h
    · exact hp (Or.inl h)
    · exact hp (Or.inr h)
/-- where heights are known at first -/
def bas (r : Nat → Int32) (p : Nat) : Prop := fxd r p ∨ (p < rP r ∧ isRt r p)
theorem bas_one (hp : bas r p) (hq : bas r q) (h : Td r (snd r) p q) (by_ : Nat → Prop) : Td r by_ p q := by
  rcases hp with hp | ⟨hp, hp2⟩
  · rcases hq with hq | ⟨hq, hq2⟩
    · exact Td_fx hp hq
    · exact absurd hp (hq2.2 p hp.1 (Td_sy h))
  · rcases hq with hq | ⟨hq, hq2⟩
    · exact absurd hq (hp2.2 q hq.1 h)
    · have e1 := ptOf_eq.mpr hp2.1
      have e2 := ptOf_eq.mpr hq2.1
      have := ptOf_td.mpr h
      rw [e1, e2] at this
      rw [this]
      exact Td_rf
theorem bas_ex (hV : VR r) (hp : p < rP r) : ∃ b, bas r b ∧ Td r (snd r) p b := by
  by_cases h : ∃ q, q < rP r ∧ Td r (snd r) p q ∧ fxd r q
  · obtain ⟨q, -, h1, h2⟩ := h
    exact ⟨q, Or.inl h2, h1⟩
  · obtain ⟨a, b, c⟩ := ptOf_ok r p
    refine ⟨ptOf r p, Or.inr ⟨by omega, ⟨Td_rf, fun j hj z => c j hj (Td_tr a z)⟩, fun q hq z hf => h ⟨q, hq, Td_tr a z, hf⟩⟩, a⟩
/-- the line e parts p from all known heights -/
def sepr (r : Nat → Int32) (e p : Nat) : Prop := tre r e ∧ ∀ b, bas r b → ¬ Td r (fun k => tre r k ∧ k ≠ e) b p
theorem sep_bas {e : Nat} (h : bas r p) : ¬ sepr r e p := fun z => z.2 p h Td_rf
theorem sep_other {e : Nat} (hl : tre r l) (hle : l ≠ e) : sepr r e (rA r l) ↔ sepr r e (rB r l) := by
  have hlt := (tre_snd hl).1
  have hAB : Td r (fun k => tre r k ∧ k ≠ e) (rA r l) (rB r l) := Td_line hlt ⟨hl, hle⟩
  constructor
  · rintro ⟨h1, h2⟩
    exact ⟨h1, fun b hb z => h2 b hb (Td_tr z (Td_sy hAB))⟩
  · rintro ⟨h1, h2⟩
    exact ⟨h1, fun b hb z => h2 b hb (Td_tr z hAB)⟩
/-- the two ends of a ring's line -/
theorem rng_sep (hV : VR r) (hl : snd r l) {e : Nat} (he : tre r e) : rng r l e ↔ ¬ (sepr r e (rA r l) ↔ sepr r e (rB r l)) := by
  have hVl := hV.2.2.2 l hl.1
  have hAB : Td r (tre r) (rA r l) (rB r l) := Td_tre.mpr (Td_line hl.1 hl)
  have add : ∀ {x y : Nat}, Td r (tre r) x y → Td r (fun k => tre r k ∧ k ≠ e) x y ∨ (Td r (fun k => tre r k ∧ k ≠ e) x (rA r e) ∧ Td r (fun k => tre r k ∧ k ≠ e) (rB r e) y) ∨ (Td r (fun k => tre r k ∧ k ≠ e) x (rB r e) ∧ Td r (fun k => tre r k ∧ k ≠ e) (rA r e) y) := Td_add (fun k _ z => by
    by_cases q : k = e
    · exact Or.inr q
    · exact Or.inl ⟨z, q⟩)
  constructor
  · rintro ⟨-, h⟩ hiff
    by_cases sA : sepr r e (rA r l)
    · have sB := hiff.mp sA
      obtain ⟨b, hb, hb2⟩ := bas_ex hV hVl.1.2
      have hb3 : Td r (tre r) b (rA r l) := Td_tre.mpr (Td_sy hb2)
      rcases add hAB with z | ⟨z1, z2⟩ | ⟨z1, z2⟩
      · exact h z
      · rcases add hb3 with w | ⟨w1, w2⟩ | ⟨w1, w2⟩
        · exact sA.2 b hb w
        · exact sA.2 b hb (Td_tr w1 (Td_sy z1))
        · exact sB.2 b hb (Td_tr w1 z2)
      · rcases add hb3 with w | ⟨w1, w2⟩ | ⟨w1, w2⟩
        · exact sA.2 b hb w
        · exact sB.2 b hb (Td_tr w1 z2)
        · exact sA.2 b hb (Td_tr w1 (Td_sy z1))
    · have sB : ¬ sepr r e (rB r l) := fun z => sA (hiff.mpr z)
      have exA : ∃ b, bas r b ∧ Td r (fun k => tre r k ∧ k ≠ e) b (rA r l) := by
        by_cases q : ∃ b, bas r b ∧ Td r (fun k => tre r k ∧ k ≠ e) b (rA r l)
        · exact q
        · exact absurd ⟨he, fun b hb z => q ⟨b, hb, z⟩⟩ sA
      have exB : ∃ b, bas r b ∧ Td r (fun k => tre r k ∧ k ≠ e) b (rB r l) := by
        by_cases q : ∃ b, bas r b ∧ Td r (fun k => tre r k ∧ k ≠ e) b (rB r l)
        · exact q
        · exact absurd ⟨he, fun b hb z => q ⟨b, hb, z⟩⟩ sB
      obtain ⟨b, b1, b2⟩ := exA
      obtain ⟨c, c1, c2⟩ := exB
      have up : ∀ {x y : Nat}, Td r (fun k => tre r k ∧ k ≠ e) x y → Td r (snd r) x y := fun z => Td_tre.mp (Td_mono (fun k _ w => w.1) z)
      have bc : Td r (snd r) b c := Td_tr (up b2) (Td_tr (Td_tre.mp hAB) (Td_sy (up c2)))
      exact h (Td_tr (Td_sy b2) (Td_tr (bas_one b1 c1 bc _) c2))
  · intro hn
    refine ⟨he, fun hAB' => hn ?_⟩
    constructor
    · rintro ⟨h1, h2⟩
      exact ⟨h1, fun b hb z => h2 b hb (Td_tr z (Td_sy hAB'))⟩
    · rintro ⟨h1, h2⟩
      exact ⟨h1, fun b hb z => h2 b hb (Td_tr z hAB')⟩
end
/-! the way of the class: heights along the tree, and the lines gone -/
abbrev WS : Type := AS × (Nat → Int32)
noncomputable def wyS (r : Nat → Int32) (l : Nat) (s : WS) : WS := (alS r l s.1, @ite _ (tre r l ∧ ¬ (s.1.1 (rA r l) ↔ s.1.1 (rB r l))) (Classical.propDecidable _) (@ite _ (s.1.1 (rA r l)) (Classical.propDecidable _) (upd s.2 (rB r l) (s.2 (rA r l) ||| ((1 : Int32) <<< (nI l &&& 31)))) (upd s.2 (rA r l) (s.2 (rB r l) ||| ((1 : Int32) <<< (nI l &&& 31))))) s.2)
noncomputable def wyLn (r : Nat → Int32) : Nat → WS → WS
  | 0, s => s
  | n + 1, s => wyS r n (wyLn r n s)
noncomputable def wyRd (r : Nat → Int32) : Nat → WS → WS
  | 0, s => s
  | n + 1, s => wyLn r (rL r) (wyRd r n s)
noncomputable def wy0 (r : Nat → Int32) : WS := (al0 r, fun _ => 0)
section
variable {r : Nat → Int32}
theorem wyLn_1 {n : Nat} {s : WS} : (wyLn r n s).1 = alLn r n s.1 := by
  induction n with
  | zero => rfl
  | succ n ih => show alS r n (wyLn r n s).1 = alS r n (alLn r n s.1); rw [ih]
theorem wyRd_1 {n : Nat} : (wyRd r n (wy0 r)).1 = alRd r n (al0 r) := by
  induction n with
  | zero => rfl
  | succ n ih => show (wyLn r (rL r) (wyRd r n (wy0 r))).1 = alLn r (rL r) (alRd r n (al0 r)); rw [wyLn_1, ih]
/-- what the state means -/
def wyI (r : Nat → Int32) (s : WS) : Prop := (∀ p, bas r p → s.1.1 p) ∧ (∀ p, s.1.1 p → p < rP r ∧ ∃ b, bas r b ∧ Td r (fun k => tre r k ∧ s.1.1 (rA r k) ∧ s.1.1 (rB r k)) b p) ∧ ∀ p, s.1.1 p → ∀ e, e < 32 → (bt (s.2 p) e = true ↔ sepr r e p)
theorem wyI_0 (hV : VR r) : wyI r (wy0 r) := by
  refine ⟨fun p h => h, fun p h => ⟨?_, p, h, Td_rf⟩, fun p h e he => ?_⟩
  · rcases h with h | h
    · exact h.1
    · exact h.1
  · show bt 0 e = true ↔ _
    rw [b_0]
    exact ⟨fun z => (by cases z), fun z => absurd z (sep_bas h)⟩
theorem wyI_S (hV : VR r) {l : Nat} {s : WS} (h : wyI r s) : wyI r (wyS r l s) := by
  obtain ⟨h1, h2, h3⟩ := h
  by_cases hc : tre r l ∧ ¬ (s.1.1 (rA r l) ↔ s.1.1 (rB r l))
  · obtain ⟨ht, hn⟩ := hc
    have hlt := (tre_snd ht).1
    have hL := hV.2.1
    have hVl := hV.2.2.2 l hlt
    -- from, to
    have gen : ∀ (f t : Nat), s.1.1 f → ¬ s.1.1 t → ((f = rA r l ∧ t = rB r l) ∨ (f = rB r l ∧ t = rA r l)) → (wyS r l s).1.1 = (fun i => s.1.1 i ∨ i = rA r l ∨ i = rB r l) → (wyS r l s).2 = upd s.2 t (s.2 f ||| ((1 : Int32) <<< (nI l &&& 31))) → wyI r (wyS r l s) := by
      intro f t hf hnt hft e1 e2
      have hk : ∀ i, (wyS r l s).1.1 i ↔ s.1.1 i ∨ i = t := by
        intro i
        rw [e1]
        constructor
        · rintro (q | q | q)
          · exact Or.inl q
          · rcases hft with ⟨z1, z2⟩ | ⟨z1, z2⟩
            · exact Or.inl (by rw [q, ← z1]; exact hf)
            · exact Or.inr (by rw [q, z2])
          · rcases hft with ⟨z1, z2⟩ | ⟨z1, z2⟩
            · exact Or.inr (by rw [q, z2])
            · exact Or.inl (by rw [q, ← z1]; exact hf)
        · rintro (q | q)
          · exact Or.inl q
          · rcases hft with ⟨z1, z2⟩ | ⟨z1, z2⟩
            · exact Or.inr (Or.inr (by rw [q, z2]))
            · exact Or.inr (Or.inl (by rw [q, z2]))
      have htl : t < rP r := by
        rcases hft with ⟨-, z⟩ | ⟨-, z⟩
        · rw [z]; exact hVl.2.1.2
        · rw [z]; exact hVl.1.2
      have hmono : ∀ {x y : Nat}, Td r (fun k => tre r k ∧ s.1.1 (rA r k) ∧ s.1.1 (rB r k)) x y → Td r (fun k => tre r k ∧ (wyS r l s).1.1 (rA r k) ∧ (wyS r l s).1.1 (rB r k)) x y := Td_mono (fun k _ z => ⟨z.1, (hk _).mpr (Or.inl z.2.1), (hk _).mpr (Or.inl z.2.2)⟩)
      have hboth : (wyS r l s).1.1 (rA r l) ∧ (wyS r l s).1.1 (rB r l) := by
        rcases hft with ⟨z1, z2⟩ | ⟨z1, z2⟩
        · exact ⟨(hk _).mpr (Or.inl (z1 ▸ hf)), (hk _).mpr (Or.inr z2.symm)⟩
        · exact ⟨(hk _).mpr (Or.inr z2.symm), (hk _).mpr (Or.inl (z1 ▸ hf))⟩
      have hTft : ∀ (B : Nat → Prop), B l → Td r B f t := by
        intro B hB
        rcases hft with ⟨z1, z2⟩ | ⟨z1, z2⟩
        · rw [z1, z2]; exact Td_line hlt hB
        · rw [z1, z2]; exact Td_sy (Td_line hlt hB)
      refine ⟨fun p hp => (hk p).mpr (Or.inl (h1 p hp)), fun p hp => ?_, fun p hp e he => ?_⟩
      · rcases (hk p).mp hp with q | rfl
        · obtain ⟨a, b, b1, b2⟩ := h2 p q
          exact ⟨a, b, b1, hmono b2⟩
        · obtain ⟨a, b, b1, b2⟩ := h2 f hf
          exact ⟨htl, b, b1, Td_tr (hmono b2) (hTft _ ⟨ht, hboth⟩)⟩
      · rw [e2]
        unfold upd
        by_cases hpt : p = t
        · subst hpt
          rw [if_pos rfl, b_or, Bool.or_eq_true, h3 f hf e he, b_one (by omega) he, decide_eq_true_eq]
          by_cases hel : e = l
          · subst hel
            refine ⟨fun _ => ⟨ht, fun b hb z => ?_⟩, fun _ => Or.inr rfl⟩
            obtain ⟨-, b', c1, c2⟩ := h2 f hf
            have c3 : Td r (fun k => tre r k ∧ k ≠ e) b' f := Td_mono (fun k _ w => ⟨w.1, fun q => by
              subst q
              rcases hft with ⟨z1, z2⟩ | ⟨z1, z2⟩
              · exact hnt (z2 ▸ w.2.2)
              · exact hnt (z2 ▸ w.2.1)⟩) c2
            have up : ∀ {x y : Nat}, Td r (fun k => tre r k ∧ k ≠ e) x y → Td r (snd r) x y := fun z => Td_tre.mp (Td_mono (fun k _ w => w.1) z)
            have bb : Td r (snd r) b' b := Td_tr (up c3) (Td_tr (hTft _ (tre_snd ht)) (Td_sy (up z)))
            have fin : Td r (fun k => tre r k ∧ k ≠ e) f p := Td_tr (Td_sy c3) (Td_tr (bas_one c1 hb bb _) z)
            rcases hft with ⟨z1, z2⟩ | ⟨z1, z2⟩
            · exact tre_acy ht (by rw [← z1, ← z2]; exact fin)
            · exact tre_acy ht (by rw [← z1, ← z2]; exact Td_sy fin)
          · have hso : sepr r e f ↔ sepr r e p := by
              rcases hft with ⟨z1, z2⟩ | ⟨z1, z2⟩
              · rw [z1, z2]; exact sep_other ht (fun q => hel q.symm)
              · rw [z1, z2]; exact (sep_other ht (fun q => hel q.symm)).symm
            rw [← hso]
            exact ⟨fun z => z.elim id (fun q => absurd q hel), Or.inl⟩
        · rw [if_neg hpt]
          exact h3 p (((hk p).mp hp).resolve_right hpt) e he
    by_cases hA : s.1.1 (rA r l)
    · have hB : ¬ s.1.1 (rB r l) := fun z => hn ⟨fun _ => z, fun _ => hA⟩
      refine gen (rA r l) (rB r l) hA hB (Or.inl ⟨rfl, rfl⟩) ?_ ?_
      · show (alS r l s.1).1 = _
        rw [alS_a ht hA hB]
      · show (@ite _ _ (Classical.propDecidable _) _ _) = _
        rw [@if_pos _ (Classical.propDecidable _) (show tre r l ∧ ¬ (s.1.1 (rA r l) ↔ s.1.1 (rB r l)) from ⟨ht, hn⟩), @if_pos _ (Classical.propDecidable _) hA]
    · have hB : s.1.1 (rB r l) := by
        by_cases q : s.1.1 (rB r l)
        · exact q
        · exact absurd ⟨fun z => absurd z hA, fun z => absurd z q⟩ hn
      refine gen (rB r l) (rA r l) hB hA (Or.inr ⟨rfl, rfl⟩) ?_ ?_
      · show (alS r l s.1).1 = _
        rw [alS_b ht hA hB]
      · show (@ite _ _ (Classical.propDecidable _) _ _) = _
        rw [@if_pos _ (Classical.propDecidable _) (show tre r l ∧ ¬ (s.1.1 (rA r l) ↔ s.1.1 (rB r l)) from ⟨ht, hn⟩), @if_neg _ (Classical.propDecidable _) hA]
  · have e1 : (wyS r l s).1 = s.1 := alS_no hc
    have e2 : (wyS r l s).2 = s.2 := @if_neg _ (Classical.propDecidable _) hc _ _ _
    unfold wyI
    rw [e1, e2]
    exact ⟨h1, h2, h3⟩
theorem wyI_Ln (hV : VR r) {n : Nat} {s : WS} (h : wyI r s) : wyI r (wyLn r n s) := by
  induction n with
  | zero => exact h
  | succ n ih => exact wyI_S hV ih
theorem wyI_Rd (hV : VR r) {n : Nat} : wyI r (wyRd r n (wy0 r)) := by
  induction n with
  | zero => exact wyI_0 hV
  | succ n ih => exact wyI_Ln hV ih
end
/-! at the end every point's height along the tree is known -/
noncomputable def cK (K : Nat → Prop) : Nat → Nat
  | 0 => 0
  | n + 1 => cK K n + @ite _ (K n) (Classical.propDecidable _) 1 0
theorem cK_le {K : Nat → Prop} : ∀ n, cK K n ≤ n
  | 0 => Nat.le_refl _
  | n + 1 => by
    have := cK_le (K := K) n
    unfold cK
    by_cases h : K n
    · rw [@if_pos _ (Classical.propDecidable _) h]; omega
    · rw [@if_neg _ (Classical.propDecidable _) h]; omega
theorem cK_all {K : Nat → Prop} : ∀ n, n ≤ cK K n → ∀ i, i < n → K i
  | 0, _, i, hi => by omega
  | n + 1, hn, i, hi => by
    have h1 := cK_le (K := K) n
    unfold cK at hn
    by_cases h : K n
    · rw [@if_pos _ (Classical.propDecidable _) h] at hn
      by_cases e : i = n
      · rw [e]; exact h
      · exact cK_all n (by omega) i (by omega)
    · rw [@if_neg _ (Classical.propDecidable _) h] at hn
      omega
theorem cK_mono {K K' : Nat → Prop} (hm : ∀ i, K i → K' i) : ∀ n, cK K n ≤ cK K' n
  | 0 => Nat.le_refl _
  | n + 1 => by
    have := cK_mono hm n
    unfold cK
    by_cases h : K n
    · rw [@if_pos _ (Classical.propDecidable _) h, @if_pos _ (Classical.propDecidable _) (hm n h)]; omega
    · rw [@if_neg _ (Classical.propDecidable _) h]; omega
theorem cK_lt {K K' : Nat → Prop} (hm : ∀ i, K i → K' i) {j : Nat} (h1 : K' j) (h2 : ¬ K j) : ∀ n, j < n → cK K n < cK K' n
  | 0, h => by omega
  | n + 1, h => by
    have hmn := cK_mono hm n
    unfold cK
    by_cases e : j = n
    · rw [← e] at hmn ⊢
      rw [@if_neg _ (Classical.propDecidable _) h2, @if_pos _ (Classical.propDecidable _) h1]; omega
    · have := cK_lt hm h1 h2 n (by omega)
      by_cases hq : K n
      · rw [@if_pos _ (Classical.propDecidable _) hq, @if_pos _ (Classical.propDecidable _) (hm n hq)]; omega
      · rw [@if_neg _ (Classical.propDecidable _) hq]; omega
section
variable {r : Nat → Int32}
theorem alS_grow {l i : Nat} {s : AS} (h : s.1 i) : (alS r l s).1 i := by
  by_cases hc : tre r l ∧ ¬ (s.1 (rA r l) ↔ s.1 (rB r l))
  · unfold alS
    rw [@if_pos _ (Classical.propDecidable _) hc]
    exact Or.inl h
  · rw [alS_no hc]; exact h
theorem alS_both {l : Nat} {s : AS} (ht : tre r l) : (alS r l s).1 (rA r l) ↔ (alS r l s).1 (rB r l) := by
  by_cases hc : tre r l ∧ ¬ (s.1 (rA r l) ↔ s.1 (rB r l))
  · unfold alS
    rw [@if_pos _ (Classical.propDecidable _) hc]
    exact ⟨fun _ => Or.inr (Or.inr rfl), fun _ => Or.inr (Or.inl rfl)⟩
  · rw [alS_no hc]
    by_cases q : s.1 (rA r l) ↔ s.1 (rB r l)
    · exact q
    · exact absurd ⟨ht, q⟩ hc
theorem alLn_grow {n m i : Nat} {s : AS} (hnm : n ≤ m) (h : (alLn r n s).1 i) : (alLn r m s).1 i := by
  induction m with
  | zero =>
    have : n = 0 := by omega
    subst this
    exact h
  | succ m ih =>
    rcases Nat.lt_or_ge n (m + 1) with q | q
    · exact alS_grow (ih (by omega))
    · have : n = m + 1 := by omega
      subst this
      exact h
theorem al_new (hV : VR r) {s : AS} (hb : ∀ p, bas r p → s.1 p) {p : Nat} (hp : p < rP r) (hn : ¬ s.1 p) : ∃ j, j < rP r ∧ (alLn r (rL r) s).1 j ∧ ¬ s.1 j := by
  by_cases hx : ∃ j, j < rP r ∧ (alLn r (rL r) s).1 j ∧ ¬ s.1 j
  · exact hx
  · exfalso
    apply hn
    have hsame : ∀ j, j < rP r → (alLn r (rL r) s).1 j → s.1 j := fun j hj z => by
      by_cases q : s.1 j
      · exact q
      · exact absurd ⟨j, hj, z, q⟩ hx
    obtain ⟨b, b1, b2⟩ := bas_ex hV hp
    refine Td_tre.mpr (Td_sy b2) s.1 (fun x y he hxs => ?_) (hb b b1)
    rcases he with ⟨l, l1, l2, l3⟩ | ⟨-, f2⟩
    · have hVl := hV.2.2.2 l l1
      have hbo : (alLn r (l + 1) s).1 (rA r l) ↔ (alLn r (l + 1) s).1 (rB r l) := alS_both l2
      have up : ∀ {i : Nat}, s.1 i → (alLn r (l + 1) s).1 i := fun z => alLn_grow (n := 0) (Nat.zero_le _) z
      have dn : ∀ {i : Nat}, i < rP r → (alLn r (l + 1) s).1 i → s.1 i := fun hi z => hsame _ hi (alLn_grow (by omega) z)
      rcases l3 with ⟨rfl, rfl⟩ | ⟨rfl, rfl⟩
      · exact dn hVl.2.1.2 (hbo.mp (up hxs))
      · exact dn hVl.1.2 (hbo.mpr (up hxs))
    · exact hb y (Or.inl f2)
theorem alRd_all (hV : VR r) : ∀ p, p < rP r → (alRd r (rP r) (al0 r)).1 p := by
  have hb : ∀ n p, bas r p → (alRd r n (al0 r)).1 p := by
    intro n
    induction n with
    | zero => exact fun p h => h
    | succ n ih => exact fun p h => alLn_grow (n := 0) (Nat.zero_le _) (ih p h)
  have key : ∀ n, (∀ p, p < rP r → (alRd r n (al0 r)).1 p) ∨ n ≤ cK (alRd r n (al0 r)).1 (rP r) := by
    intro n
    induction n with
    | zero => exact Or.inr (Nat.zero_le _)
    | succ n ih =>
      have hg : ∀ i, (alRd r n (al0 r)).1 i → (alRd r (n + 1) (al0 r)).1 i := fun i z => alLn_grow (n := 0) (Nat.zero_le _) z
      rcases ih with h | h
      · exact Or.inl (fun p hp => hg p (h p hp))
      · by_cases ha : ∀ p, p < rP r → (alRd r n (al0 r)).1 p
        · exact Or.inl (fun p hp => hg p (ha p hp))
        · right
          have : ∃ p, p < rP r ∧ ¬ (alRd r n (al0 r)).1 p := by
            by_cases q : ∃ p, p < rP r ∧ ¬ (alRd r n (al0 r)).1 p
            · exact q
            · exact absurd (fun p hp => by
                by_cases w : (alRd r n (al0 r)).1 p
                · exact w
                · exact absurd ⟨p, hp, w⟩ q) ha
          obtain ⟨p, p1, p2⟩ := this
          obtain ⟨j, j1, j2, j3⟩ := al_new hV (hb n) p1 p2
          have := cK_lt hg j2 j3 (rP r) j1
          omega
  rcases key (rP r) with h | h
  · exact h
  · exact cK_all _ h
/-- the way's bits at the end -/
theorem wy_bits (hV : VR r) {p e : Nat} (hp : p < rP r) (he : e < 32) : bt ((wyRd r (rP r) (wy0 r)).2 p) e = true ↔ sepr r e p := by
  have hI := wyI_Rd hV (n := rP r)
  refine hI.2.2 p ?_ e he
  rw [wyRd_1]
  exact alRd_all hV p hp
/-- the ring of a line by the ways to its points -/
theorem wy_ring (hV : VR r) {l : Nat} (hl : rngL r l) : (wyRd r (rP r) (wy0 r)).2 (rA r l) ^^^ (wyRd r (rP r) (wy0 r)).2 (rB r l) = maskOf (rng r l) := by
  have hVl := hV.2.2.2 l hl.1.1
  refine eq_mask (fun e he => ?_)
  rw [b_xor]
  have hA := wy_bits hV hVl.1.2 he
  have hB := wy_bits hV hVl.2.1.2 he
  by_cases ht : tre r e
  · rw [rng_sep hV hl.1 ht, ← hA, ← hB]
    cases bt ((wyRd r (rP r) (wy0 r)).2 (rA r l)) e <;> cases bt ((wyRd r (rP r) (wy0 r)).2 (rB r l)) e <;> decide
  · have nA : bt ((wyRd r (rP r) (wy0 r)).2 (rA r l)) e = false := by
      cases q : bt ((wyRd r (rP r) (wy0 r)).2 (rA r l)) e with
      | false => rfl
      | true => exact absurd (hA.mp q).1 ht
    have nB : bt ((wyRd r (rP r) (wy0 r)).2 (rB r l)) e = false := by
      cases q : bt ((wyRd r (rP r) (wy0 r)).2 (rB r l)) e with
      | false => rfl
      | true => exact absurd (hB.mp q).1 ht
    rw [nA, nB]
    exact ⟨fun z => (by cases z), fun z => absurd z.1 ht⟩
end
