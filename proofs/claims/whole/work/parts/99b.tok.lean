/-! Tokens: what both readers find next on the tape. -/
def isSp (c : Nat) : Prop := c = 32 ∨ c = 10
def isLt (c : Nat) : Prop := 97 ≤ c ∧ c ≤ 122
def isDg (c : Nat) : Prop := 48 ≤ c ∧ c ≤ 57
noncomputable def skp (b : Nat → Nat) (n : Nat) : Nat → Nat → Nat
  | 0, p => p
  | f + 1, p => @ite _ (p < n ∧ isSp (b p)) (Classical.propDecidable _) (skp b n f (p + 1)) p
noncomputable def skq (b : Nat → Nat) (n p : Nat) : Nat := skp b n (n - p) p
abbrev ES : Type := Nat × Nat × Nat × Int
noncomputable def exq (b : Nat → Nat) (n : Nat) : Nat → ES → ES
  | 0, s => s
  | f + 1, s => @ite _ (s.1 < n ∧ isLt (b s.1)) (Classical.propDecidable _) (exq b n f (s.1 + 1, s.2.1 + 1, s.2.2.1, s.2.2.2 * 27 + ((b s.1 : Int) - 96))) (@ite _ (s.1 < n ∧ isDg (b s.1)) (Classical.propDecidable _) (exq b n f (s.1 + 1, s.2.1, s.2.2.1 + 1, s.2.2.2 * 10 + ((b s.1 : Int) - 48))) s)
noncomputable def exF (b : Nat → Nat) (n : Nat) (s : ES) : ES := exq b n (n - s.1) s
noncomputable def exE (b : Nat → Nat) (n q : Nat) : ES := exF b n (q, 0, 0, 0)
/-- kind (0 end, 1 word, 2 number, 3 semicolon, 4 none, 5 past the limit), place, what is next, value -/
abbrev TK : Type := Nat × Nat × Nat × Int
noncomputable def tkE (q : Nat) (e : ES) : TK := if e.2.2.1 = 0 ∧ 1 ≤ e.2.1 ∧ e.2.1 ≤ 7 then (1, q, e.1, e.2.2.2) else if e.2.1 = 0 ∧ 1 ≤ e.2.2.1 ∧ e.2.2.1 ≤ 2 then (2, q, e.1, e.2.2.2) else (4, q, 0, 0)
noncomputable def tkQ (b : Nat → Nat) (n q : Nat) : TK := if 500 < n ∧ 500 ≤ q then (5, 500, 0, 0) else if n ≤ q then (0, n, 0, 0) else if b q = 59 then (3, q, q + 1, 0) else tkE q (exE b n q)
noncomputable def tk (b : Nat → Nat) (n p : Nat) : TK := tkQ b n (skq b n p)
def ckk (k : Nat) : Nat := if k = 5 then 0 else k
def mkk (k : Nat) : Nat := if k = 0 then 0 else if k = 1 then 2 else if k = 2 then 3 else if k = 3 then 4 else 1
def tkC (t : TK) (h : Hp) : Prop := h.1 3 7 = nI (ckk t.1) ∧ h.1 3 8 = nI t.2.1 ∧ ((t.1 = 1 ∨ t.1 = 2) → h.2.1 3 9 = iL t.2.2.2) ∧ ((t.1 = 1 ∨ t.1 = 2 ∨ t.1 = 3) → h.1 3 6 = nI t.2.2.1)
def tkM (t : TK) (h : Hp) : Prop := h.1 93 6 = nI (mkk t.1) ∧ h.1 93 5 = nI t.2.1 ∧ (t.1 = 1 → h.2.1 93 12 = iL t.2.2.2) ∧ (t.1 = 2 → h.1 93 7 = Int32.ofInt t.2.2.2) ∧ ((t.1 = 1 ∨ t.1 = 2 ∨ t.1 = 3) → h.1 93 4 = nI t.2.2.1)
section
variable {b : Nat → Nat} {n p q f st : Nat} {s : ES}
theorem skq_y (hp : p < n) (hs : isSp (b p)) : skq b n p = skq b n (p + 1) := by
  unfold skq
  rw [show n - p = (n - (p + 1)) + 1 by omega]
  exact @if_pos _ (Classical.propDecidable _) ⟨hp, hs⟩ _ _ _
theorem skq_n (hs : ¬ (p < n ∧ isSp (b p))) : skq b n p = p := by
  unfold skq
  cases n - p with
  | zero => rfl
  | succ f => exact @if_neg _ (Classical.propDecidable _) hs _ _ _
theorem skq_spec : p ≤ skq b n p ∧ (∀ j, p ≤ j → j < skq b n p → j < n ∧ isSp (b j)) ∧ ¬ (skq b n p < n ∧ isSp (b (skq b n p))) := by
  have go : ∀ (f p : Nat), n - p ≤ f → p ≤ skq b n p ∧ (∀ j, p ≤ j → j < skq b n p → j < n ∧ isSp (b j)) ∧ ¬ (skq b n p < n ∧ isSp (b (skq b n p))) := by
    intro f
    induction f with
    | zero =>
      intro p hp
      rw [skq_n (fun z => by omega)]
      exact ⟨Nat.le_refl _, fun j h1 h2 => by omega, fun z => by omega⟩
    | succ f ih =>
      intro p hp
      by_cases c : p < n ∧ isSp (b p)
      · rw [skq_y c.1 c.2]
        have := ih (p + 1) (by omega)
        refine ⟨by omega, fun j h1 h2 => ?_, this.2.2⟩
        by_cases e : j = p
        · subst e; exact c
        · exact this.2.1 j (by omega) h2
      · rw [skq_n c]
        exact ⟨Nat.le_refl _, fun j h1 h2 => by omega, c⟩
  exact go (n - p) p (Nat.le_refl _)
theorem skq_un (h1 : p ≤ q) (h2 : ∀ j, p ≤ j → j < q → j < n ∧ isSp (b j)) (h3 : ¬ (q < n ∧ isSp (b q))) : skq b n p = q := by
  obtain ⟨a1, a2, a3⟩ := skq_spec (b := b) (n := n) (p := p)
  rcases Nat.lt_trichotomy (skq b n p) q with z | z | z
  · exact absurd (h2 _ a1 z) a3
  · exact z
  · exact absurd (a2 q h1 z) h3
theorem skq_lt (hst : st ≤ n) (h : skq b st p < st) : skq b n p = skq b st p := by
  obtain ⟨a1, a2, a3⟩ := skq_spec (b := b) (n := st) (p := p)
  exact skq_un a1 (fun j h1 h2 => ⟨by have := (a2 j h1 h2).1; omega, (a2 j h1 h2).2⟩) (fun z => a3 ⟨h, z.2⟩)
theorem skq_ge (hst : st ≤ n) (h : st ≤ skq b st p) : st ≤ skq b n p := by
  rcases Nat.lt_or_ge (skq b n p) st with z | z
  · obtain ⟨a1, a2, a3⟩ := skq_spec (b := b) (n := n) (p := p)
    have : skq b st p = skq b n p := skq_un a1 (fun j h1 h2 => ⟨by omega, (a2 j h1 h2).2⟩) (fun q => a3 ⟨by omega, q.2⟩)
    omega
  · exact z
theorem skq_le (hp : p ≤ n) : skq b n p ≤ n := by
  obtain ⟨a1, a2, a3⟩ := skq_spec (b := b) (n := n) (p := p)
  rcases Nat.lt_or_ge n (skq b n p) with z | z
  · have := a2 n hp z; omega
  · exact z
theorem exF_l (h1 : s.1 < n) (h2 : isLt (b s.1)) : exF b n s = exF b n (s.1 + 1, s.2.1 + 1, s.2.2.1, s.2.2.2 * 27 + ((b s.1 : Int) - 96)) := by
  unfold exF
  show exq b n (n - s.1) s = exq b n (n - (s.1 + 1)) _
  rw [show n - s.1 = (n - (s.1 + 1)) + 1 by omega]
  exact @if_pos _ (Classical.propDecidable _) ⟨h1, h2⟩ _ _ _
theorem exF_d (h1 : s.1 < n) (h2 : isDg (b s.1)) : exF b n s = exF b n (s.1 + 1, s.2.1, s.2.2.1 + 1, s.2.2.2 * 10 + ((b s.1 : Int) - 48)) := by
  unfold exF
  show exq b n (n - s.1) s = exq b n (n - (s.1 + 1)) _
  rw [show n - s.1 = (n - (s.1 + 1)) + 1 by omega]
  have nl : ¬ (s.1 < n ∧ isLt (b s.1)) := fun z => by have := z.2; unfold isLt at this; unfold isDg at h2; omega
  exact (@if_neg _ (Classical.propDecidable _) nl _ _ _).trans (@if_pos _ (Classical.propDecidable _) ⟨h1, h2⟩ _ _ _)
theorem exF_n (h2 : ¬ (s.1 < n ∧ (isLt (b s.1) ∨ isDg (b s.1)))) : exF b n s = s := by
  unfold exF
  cases n - s.1 with
  | zero => rfl
  | succ f =>
    have nl : ¬ (s.1 < n ∧ isLt (b s.1)) := fun z => h2 ⟨z.1, Or.inl z.2⟩
    have nd : ¬ (s.1 < n ∧ isDg (b s.1)) := fun z => h2 ⟨z.1, Or.inr z.2⟩
    exact (@if_neg _ (Classical.propDecidable _) nl _ _ _).trans (@if_neg _ (Classical.propDecidable _) nd _ _ _)
def esI (q n : Nat) (s : ES) : Prop := s.1 = q + s.2.1 + s.2.2.1 ∧ s.1 ≤ n ∧ (s.2.2.1 = 0 → 0 ≤ s.2.2.2 ∧ s.2.2.2 < (27 ^ s.2.1 : Nat)) ∧ (s.2.1 = 0 → 0 ≤ s.2.2.2 ∧ s.2.2.2 < (10 ^ s.2.2.1 : Nat))
theorem esI_l (hs : esI q n s) (h1 : s.1 < n) (h2 : isLt (b s.1)) : esI q n (s.1 + 1, s.2.1 + 1, s.2.2.1, s.2.2.2 * 27 + ((b s.1 : Int) - 96)) := by
  obtain ⟨a1, a2, a3, a4⟩ := hs
  unfold isLt at h2
  refine ⟨by show s.1 + 1 = q + (s.2.1 + 1) + s.2.2.1; omega, by show s.1 + 1 ≤ n; omega, fun z => ?_, fun z => absurd z (by show ¬ s.2.1 + 1 = 0; omega)⟩
  have z' : s.2.2.1 = 0 := z
  have := a3 z'
  show 0 ≤ s.2.2.2 * 27 + ((b s.1 : Int) - 96) ∧ s.2.2.2 * 27 + ((b s.1 : Int) - 96) < ((27 ^ (s.2.1 + 1) : Nat) : Int)
  rw [Nat.pow_succ]
  omega
theorem esI_d (hs : esI q n s) (h1 : s.1 < n) (h2 : isDg (b s.1)) : esI q n (s.1 + 1, s.2.1, s.2.2.1 + 1, s.2.2.2 * 10 + ((b s.1 : Int) - 48)) := by
  obtain ⟨a1, a2, a3, a4⟩ := hs
  unfold isDg at h2
  refine ⟨by show s.1 + 1 = q + s.2.1 + (s.2.2.1 + 1); omega, by show s.1 + 1 ≤ n; omega, fun z => absurd z (by show ¬ s.2.2.1 + 1 = 0; omega), fun z => ?_⟩
  have z' : s.2.1 = 0 := z
  have := a4 z'
  show 0 ≤ s.2.2.2 * 10 + ((b s.1 : Int) - 48) ∧ s.2.2.2 * 10 + ((b s.1 : Int) - 48) < ((10 ^ (s.2.2.1 + 1) : Nat) : Int)
  rw [Nat.pow_succ]
  omega
theorem esI_F : ∀ (f : Nat) (s : ES), n - s.1 ≤ f → esI q n s → esI q n (exF b n s) := by
  intro f
  induction f with
  | zero =>
    intro s hf hs
    rw [exF_n (fun z => by have := z.1; omega)]
    exact hs
  | succ f ih =>
    intro s hf hs
    by_cases c1 : s.1 < n ∧ isLt (b s.1)
    · rw [exF_l c1.1 c1.2]
      exact ih _ (by show n - (s.1 + 1) ≤ f; omega) (esI_l hs c1.1 c1.2)
    · by_cases c2 : s.1 < n ∧ isDg (b s.1)
      · rw [exF_d c2.1 c2.2]
        exact ih _ (by show n - (s.1 + 1) ≤ f; omega) (esI_d hs c2.1 c2.2)
      · rw [exF_n (fun z => by rcases z.2 with q | q; exact c1 ⟨z.1, q⟩; exact c2 ⟨z.1, q⟩)]
        exact hs
theorem exE_I (hq : q ≤ n) : esI q n (exE b n q) := esI_F (n - q) _ (Nat.le_refl _) ⟨by show q = q + 0 + 0; omega, hq, fun _ => ⟨by show (0 : Int) ≤ 0; decide, by show (0 : Int) < ((27 ^ 0 : Nat) : Int); decide⟩, fun _ => ⟨by show (0 : Int) ≤ 0; decide, by show (0 : Int) < ((10 ^ 0 : Nat) : Int); decide⟩⟩
theorem pow27 {L : Nat} (h : L ≤ 7) : 27 ^ L ≤ 10460353203 := by
  rcases (show L = 0 ∨ L = 1 ∨ L = 2 ∨ L = 3 ∨ L = 4 ∨ L = 5 ∨ L = 6 ∨ L = 7 by omega) with e | e | e | e | e | e | e | e <;> subst e <;> decide
/-- what a token's numbers keep to -/
theorem tk_b (hp : p ≤ n) (hn : n ≤ 540) : ((tk b n p).1 = 1 → 0 ≤ (tk b n p).2.2.2 ∧ (tk b n p).2.2.2 < 10460353203) ∧ ((tk b n p).1 = 2 → 0 ≤ (tk b n p).2.2.2 ∧ (tk b n p).2.2.2 ≤ 99) ∧ (((tk b n p).1 = 1 ∨ (tk b n p).1 = 2 ∨ (tk b n p).1 = 3) → (tk b n p).2.2.1 ≤ n) ∧ (tk b n p).2.1 ≤ 540 := by
  have hq : skq b n p ≤ n := skq_le hp
  unfold tk
  generalize skq b n p = q at *
  unfold tkQ
  by_cases c1 : 500 < n ∧ 500 ≤ q
  · rw [if_pos c1]; exact ⟨fun z => absurd z (by decide), fun z => absurd z (by decide), fun z => absurd z (by decide), by decide⟩
  rw [if_neg c1]
  by_cases c2 : n ≤ q
  · rw [if_pos c2]; exact ⟨fun z => absurd z (by simp), fun z => absurd z (by simp), fun z => absurd z (by simp), hn⟩
  rw [if_neg c2]
  by_cases c3 : b q = 59
  · rw [if_pos c3]; exact ⟨fun z => absurd z (by simp), fun z => absurd z (by simp), fun z => by show q + 1 ≤ n; omega, by show q ≤ 540; omega⟩
  rw [if_neg c3]
  have hI := exE_I (b := b) hq
  generalize exE b n q = e at *
  unfold tkE
  by_cases c4 : e.2.2.1 = 0 ∧ 1 ≤ e.2.1 ∧ e.2.1 ≤ 7
  · rw [if_pos c4]
    have h3 := hI.2.2.1 c4.1
    have h4 := pow27 c4.2.2
    refine ⟨fun _ => ⟨h3.1, ?_⟩, fun z => absurd z (by simp), fun _ => hI.2.1, by show q ≤ 540; omega⟩
    show e.2.2.2 < 10460353203
    omega
  rw [if_neg c4]
  by_cases c5 : e.2.1 = 0 ∧ 1 ≤ e.2.2.1 ∧ e.2.2.1 ≤ 2
  · rw [if_pos c5]
    have h3 := hI.2.2.2 c5.1
    refine ⟨fun z => absurd z (by simp), fun _ => ⟨h3.1, ?_⟩, fun _ => hI.2.1, by show q ≤ 540; omega⟩
    show e.2.2.2 ≤ 99
    rcases (show e.2.2.1 = 1 ∨ e.2.2.1 = 2 by omega) with z | z <;> rw [z] at h3 <;> omega
  rw [if_neg c5]
  exact ⟨fun z => absurd z (by simp), fun z => absurd z (by simp), fun z => absurd z (by simp), by show q ≤ 540; omega⟩
/-! bytes as the class has them -/
theorem cb_all : ∀ c, c < 256 → ((cb c = 32 ↔ c = 32) ∧ (cb c = 10 ↔ c = 10) ∧ (cb c = 59 ↔ c = 59) ∧ ((¬ cb c < 97 ∧ ¬ 122 < cb c) ↔ (97 ≤ c ∧ c ≤ 122)) ∧ ((¬ cb c < 48 ∧ ¬ 57 < cb c) ↔ (48 ≤ c ∧ c ≤ 57)) ∧ (c < 128 → cb c = nI c)) := by decide +kernel
end
