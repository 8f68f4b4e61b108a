/-! Rows (a NET as 69 numbers), what is tied, masks of sets. -/
def rP (r : Nat → Int32) : Nat := (r 0).toNatClampNeg
def rL (r : Nat → Int32) : Nat := (r 1).toNatClampNeg
def rA (r : Nat → Int32) (l : Nat) : Nat := (r (14 + l)).toNatClampNeg
def rB (r : Nat → Int32) (l : Nat) : Nat := (r (25 + l)).toNatClampNeg
def inH (x : Int32) : Prop := -99 ≤ x.toInt ∧ x.toInt ≤ 99
def inW (x : Int32) : Prop := 1 ≤ x.toInt ∧ x.toInt ≤ 4
/-- a row that tells a net -/
def VR (r : Nat → Int32) : Prop := (r 0 = nI (rP r) ∧ rP r ≤ 6) ∧ (r 1 = nI (rL r) ∧ rL r ≤ 11) ∧ (∀ p, p < rP r → isB (r (2 + p)) ∧ inH (r (8 + p))) ∧ ∀ l, l < rL r → (r (14 + l) = nI (rA r l) ∧ rA r l < rP r) ∧ (r (25 + l) = nI (rB r l) ∧ rB r l < rP r) ∧ rA r l ≠ rB r l ∧ inH (r (36 + l)) ∧ inW (r (47 + l)) ∧ isB (r (58 + l))
def fxd (r : Nat → Int32) (p : Nat) : Prop := p < rP r ∧ r (2 + p) = 1
def snd (r : Nat → Int32) (l : Nat) : Prop := l < rL r ∧ r (58 + l) = 1
/-- a set of bits as a number -/
noncomputable def mU (S : Nat → Prop) : Nat → Int32
  | 0 => 0
  | n + 1 => @ite _ (S n) (Classical.propDecidable _) (mU S n ||| ((1 : Int32) <<< (nI n &&& 31))) (mU S n)
noncomputable def maskOf (S : Nat → Prop) : Int32 := mU S 32
theorem bt_mU {S : Nat → Prop} : ∀ n, n ≤ 32 → ∀ i, i < 32 → (bt (mU S n) i = true ↔ i < n ∧ S i)
  | 0, _, i, _ => by simp [mU, b_0]
  | n + 1, hn, i, hi => by
    have ih := bt_mU (S := S) n (by omega) i hi
    unfold mU
    by_cases h : S n
    · rw [@if_pos _ (Classical.propDecidable _) h, b_or, Bool.or_eq_true, ih, b_one (by omega) hi, decide_eq_true_eq]
      constructor
      · rintro (⟨a, b⟩ | rfl)
        · exact ⟨by omega, b⟩
        · exact ⟨by omega, h⟩
      · rintro ⟨a, b⟩
        by_cases hq : i = n
        · exact Or.inr hq
        · exact Or.inl ⟨by omega, b⟩
    · rw [@if_neg _ (Classical.propDecidable _) h, ih]
      constructor
      · rintro ⟨a, b⟩
        exact ⟨by omega, b⟩
      · rintro ⟨a, b⟩
        refine ⟨?_, b⟩
        rcases Nat.lt_or_ge i n with q | q
        · exact q
        · have : i = n := by omega
          subst this
          exact absurd b h
theorem bt_mask {S : Nat → Prop} {i : Nat} (hi : i < 32) : bt (maskOf S) i = true ↔ S i := by
  unfold maskOf
  rw [bt_mU 32 (Nat.le_refl _) i hi]
  exact ⟨fun h => h.2, fun h => ⟨hi, h⟩⟩
theorem eq_mask {S : Nat → Prop} {x : Int32} (h : ∀ i, i < 32 → (bt x i = true ↔ S i)) : x = maskOf S := b_ext (fun i hi => by
  rw [Bool.eq_iff_iff, h i hi, bt_mask hi])
theorem mask_congr {S T : Nat → Prop} (h : ∀ i, i < 32 → (S i ↔ T i)) : maskOf S = maskOf T := eq_mask (fun i hi => (bt_mask hi).trans (h i hi))
/-- two points at a line of the set, or both fixed -/
def Ed (r : Nat → Int32) (by_ : Nat → Prop) (a b : Nat) : Prop := (∃ l, l < rL r ∧ by_ l ∧ ((rA r l = a ∧ rB r l = b) ∨ (rA r l = b ∧ rB r l = a))) ∨ (fxd r a ∧ fxd r b)
def Cl (r : Nat → Int32) (by_ S : Nat → Prop) : Prop := ∀ a b, Ed r by_ a b → S a → S b
/-- tied by lines of the set, and by being fixed -/
def Td (r : Nat → Int32) (by_ : Nat → Prop) (p q : Nat) : Prop := ∀ S, Cl r by_ S → S p → S q
section
variable {r : Nat → Int32} {by_ by2 : Nat → Prop} {p q a b : Nat}
theorem Ed_sy (h : Ed r by_ a b) : Ed r by_ b a := by
  rcases h with ⟨l, h1, h2, h3⟩ | ⟨h1, h2⟩
  · exact Or.inl ⟨l, h1, h2, h3.symm⟩
  · exact Or.inr ⟨h2, h1⟩
theorem Td_rf : Td r by_ p p := fun _ _ h => h
theorem Td_tr (h1 : Td r by_ p q) (h2 : Td r by_ q a) : Td r by_ p a := fun S hS h => h2 S hS (h1 S hS h)
theorem Td_ed (h : Ed r by_ a b) : Td r by_ a b := fun S hS ha => hS a b h ha
theorem Td_cl : Cl r by_ (Td r by_ p) := fun _ _ he h => Td_tr h (Td_ed he)
theorem Td_sy (h : Td r by_ p q) : Td r by_ q p := by
  refine h (fun x => Td r by_ x p) (fun a b he ha => ?_) Td_rf
  exact Td_tr (Td_ed (Ed_sy he)) ha
theorem Ed_mono (hm : ∀ l, l < rL r → by_ l → by2 l) (h : Ed r by_ a b) : Ed r by2 a b := by
  rcases h with ⟨l, h1, h2, h3⟩ | h
  · exact Or.inl ⟨l, h1, hm l h1 h2, h3⟩
  · exact Or.inr h
theorem Td_mono (hm : ∀ l, l < rL r → by_ l → by2 l) (h : Td r by_ p q) : Td r by2 p q := fun S hS hp => h S (fun a b he => hS a b (Ed_mono hm he)) hp
theorem Td_congr (hm : ∀ l, l < rL r → (by_ l ↔ by2 l)) : Td r by_ p q ↔ Td r by2 p q := ⟨Td_mono (fun l hl => (hm l hl).mp), Td_mono (fun l hl => (hm l hl).mpr)⟩
theorem Td_line {l : Nat} (hl : l < rL r) (h : by_ l) : Td r by_ (rA r l) (rB r l) := Td_ed (Or.inl ⟨l, hl, h, Or.inl ⟨rfl, rfl⟩⟩)
theorem Td_fx (h1 : fxd r a) (h2 : fxd r b) : Td r by_ a b := Td_ed (Or.inr ⟨h1, h2⟩)
theorem Td_lt (hV : VR r) (h : Td r by_ p q) (hp : p < rP r) : q < rP r := by
  refine h (fun x => x < rP r) (fun a b he _ => ?_) hp
  rcases he with ⟨l, h1, -, h3⟩ | ⟨-, h2⟩
  · have := hV.2.2.2 l h1
    rcases h3 with ⟨-, rfl⟩ | ⟨rfl, -⟩
    · exact this.2.1.2
    · exact this.1.2
  · exact h2.1
/-- one line more -/
theorem Td_add {l : Nat} (hm : ∀ k, k < rL r → by2 k → by_ k ∨ k = l) (h : Td r by2 p q) : Td r by_ p q ∨ (Td r by_ p (rA r l) ∧ Td r by_ (rB r l) q) ∨ (Td r by_ p (rB r l) ∧ Td r by_ (rA r l) q) := by
  refine h (fun q => Td r by_ p q ∨ (Td r by_ p (rA r l) ∧ Td r by_ (rB r l) q) ∨ (Td r by_ p (rB r l) ∧ Td r by_ (rA r l) q)) (fun a b he ha => ?_) (Or.inl Td_rf)
  have old : Ed r by_ a b → Td r by_ p b ∨ (Td r by_ p (rA r l) ∧ Td r by_ (rB r l) b) ∨ (Td r by_ p (rB r l) ∧ Td r by_ (rA r l) b) := by
    intro hb
    rcases ha with h1 | ⟨h1, h2⟩ | ⟨h1, h2⟩
    · exact Or.inl (Td_tr h1 (Td_ed hb))
    · exact Or.inr (Or.inl ⟨h1, Td_tr h2 (Td_ed hb)⟩)
    · exact Or.inr (Or.inr ⟨h1, Td_tr h2 (Td_ed hb)⟩)
  rcases he with ⟨k, h1, h2, h3⟩ | he
  · rcases hm k h1 h2 with hk | rfl
    · exact old (Or.inl ⟨k, h1, hk, h3⟩)
    · rcases h3 with ⟨rfl, rfl⟩ | ⟨rfl, rfl⟩
      · rcases ha with h1 | ⟨h1, -⟩ | ⟨h1, -⟩
        · exact Or.inr (Or.inl ⟨h1, Td_rf⟩)
        · exact Or.inr (Or.inl ⟨h1, Td_rf⟩)
        · exact Or.inl h1
      · rcases ha with h1 | ⟨h1, -⟩ | ⟨h1, -⟩
        · exact Or.inr (Or.inr ⟨h1, Td_rf⟩)
        · exact Or.inl h1
        · exact Or.inr (Or.inr ⟨h1, Td_rf⟩)
  · exact old (Or.inr he)
end
/-- the tree's lines below n -/
def trU (r : Nat → Int32) : Nat → Nat → Prop
  | 0, _ => False
  | n + 1, k => trU r n k ∨ (k = n ∧ snd r n ∧ ¬ Td r (trU r n) (rA r n) (rB r n))
def tre (r : Nat → Int32) : Nat → Prop := trU r (rL r)
/-- the least point tied with p by sound lines -/
def isPt (r : Nat → Int32) (p q : Nat) : Prop := Td r (snd r) p q ∧ ∀ q', q' < q → ¬ Td r (snd r) p q'
def isRt (r : Nat → Int32) (p : Nat) : Prop := isPt r p p ∧ ∀ q, q < rP r → Td r (snd r) p q → ¬ fxd r q
def brg (r : Nat → Int32) (l : Nat) : Prop := snd r l ∧ ¬ Td r (fun k => snd r k ∧ k ≠ l) (rA r l) (rB r l)
def rngL (r : Nat → Int32) (l : Nat) : Prop := snd r l ∧ ¬ tre r l
def rng (r : Nat → Int32) (l e : Nat) : Prop := tre r e ∧ ¬ Td r (fun k => tre r k ∧ k ≠ e) (rA r l) (rB r l)
section
variable {r : Nat → Int32}
theorem trU_lt {n k : Nat} (h : trU r n k) : k < n ∧ snd r k := by
  induction n with
  | zero => cases h
  | succ n ih =>
    rcases h with h | ⟨rfl, h, -⟩
    · exact ⟨by have := ih h; omega, (ih h).2⟩
    · exact ⟨Nat.lt_succ_self _, h⟩
theorem trU_mono {n m k : Nat} (hnm : n ≤ m) (h : trU r n k) : trU r m k := by
  induction m with
  | zero =>
    have : n = 0 := by omega
    subst this
    exact h
  | succ m ih =>
    rcases Nat.lt_or_ge n (m + 1) with q | q
    · exact Or.inl (ih (by omega))
    · have : n = m + 1 := by omega
      subst this
      exact h
theorem trU_of {n m k : Nat} (hk : k < n) (h : trU r m k) : trU r n k := by
  induction m with
  | zero => cases h
  | succ m ih =>
    rcases h with h | ⟨rfl, h1, h2⟩
    · exact ih h
    · exact trU_mono hk (Or.inr ⟨rfl, h1, h2⟩)
theorem tre_iff {l : Nat} (hl : l < rL r) : tre r l ↔ snd r l ∧ ¬ Td r (trU r l) (rA r l) (rB r l) := by
  constructor
  · intro h
    have h1 : trU r (l + 1) l := trU_of (Nat.lt_succ_self _) h
    rcases h1 with h1 | ⟨-, h1⟩
    · exact absurd (trU_lt h1).1 (Nat.lt_irrefl _)
    · exact h1
  · intro h
    exact trU_mono hl (Or.inr ⟨rfl, h⟩)
/-- the tree ties what sound lines tie -/
theorem Td_trU {n p q : Nat} : Td r (trU r n) p q ↔ Td r (fun k => k < n ∧ snd r k) p q := by
  constructor
  · exact Td_mono (fun l _ h => trU_lt h)
  · intro h
    refine h (fun x => Td r (trU r n) p x) (fun a b he ha => ?_) Td_rf
    rcases he with ⟨k, h1, ⟨h2, h3⟩, h4⟩ | he
    · have hk : Td r (trU r n) (rA r k) (rB r k) := by
        by_cases ht : Td r (trU r k) (rA r k) (rB r k)
        · exact Td_mono (fun l _ hl => trU_mono (Nat.le_of_lt h2) hl) ht
        · exact Td_line h1 (trU_mono h2 (Or.inr ⟨rfl, h3, ht⟩))
      rcases h4 with ⟨rfl, rfl⟩ | ⟨rfl, rfl⟩
      · exact Td_tr ha hk
      · exact Td_tr ha (Td_sy hk)
    · exact Td_tr ha (Td_ed (Or.inr he))
theorem Td_tre {p q : Nat} : Td r (tre r) p q ↔ Td r (snd r) p q := by
  unfold tre
  rw [Td_trU]
  exact Td_congr (fun l hl => ⟨fun h => h.2, fun h => ⟨hl, h⟩⟩)
/-- no line of the tree is tied without itself -/
theorem trU_acy : ∀ (n e : Nat), trU r n e → ¬ Td r (fun k => trU r n k ∧ k ≠ e) (rA r e) (rB r e) := by
  intro n
  induction n with
  | zero => intro e h; cases h
  | succ n ih =>
    intro e he ht
    rcases he with he | ⟨rfl, h1, h2⟩
    · by_cases hn : snd r n ∧ ¬ Td r (trU r n) (rA r n) (rB r n)
      · have hd := Td_add (by_ := fun k => trU r n k ∧ k ≠ e) (l := n) (fun k _ hk => by
          rcases hk.1 with q | ⟨q, -⟩
          · exact Or.inl ⟨q, hk.2⟩
          · exact Or.inr q) ht
        have hm : ∀ {p q : Nat}, Td r (fun k => trU r n k ∧ k ≠ e) p q → Td r (trU r n) p q := Td_mono (fun l _ h => h.1)
        have hl : Td r (trU r n) (rA r e) (rB r e) := Td_line (trU_lt he).2.1 he
        rcases hd with hd | ⟨h3, h4⟩ | ⟨h3, h4⟩
        · exact ih e he hd
        · exact hn.2 (Td_tr (Td_sy (hm h3)) (Td_tr hl (Td_sy (hm h4))))
        · exact hn.2 (Td_sy (Td_tr (Td_sy (hm h3)) (Td_tr hl (Td_sy (hm h4)))))
      · refine ih e he (Td_mono (fun l _ hl => ⟨?_, hl.2⟩) ht)
        rcases hl.1 with q | ⟨rfl, q⟩
        · exact q
        · exact absurd q hn
    · refine h2 (Td_mono (fun l _ hl => ?_) ht)
      rcases hl.1 with q | ⟨q, -⟩
      · exact q
      · exact absurd q hl.2
theorem tre_acy {e : Nat} (h : tre r e) : ¬ Td r (fun k => tre r k ∧ k ≠ e) (rA r e) (rB r e) := trU_acy _ e h
theorem tre_snd {e : Nat} (h : tre r e) : snd r e := (trU_lt h).2
/-- bridges: lines of the tree that are in no ring -/
theorem brg_iff {l : Nat} : brg r l ↔ tre r l ∧ ∀ k, rngL r k → ¬ rng r k l := by
  constructor
  · rintro ⟨h1, h2⟩
    have ht : tre r l := by
      by_cases h : tre r l
      · exact h
      · exfalso
        refine h2 (Td_mono (fun k _ hk => ?_) (Td_tre.mpr (Td_line h1.1 h1)))
        exact ⟨tre_snd hk, fun z => h (z ▸ hk)⟩
    refine ⟨ht, ?_⟩
    rintro k ⟨k1, k2⟩ ⟨-, k3⟩
    apply h2
    have hkl : k ≠ l := fun z => k2 (z ▸ ht)
    have hk : Td r (fun j => snd r j ∧ j ≠ l) (rA r k) (rB r k) := Td_line k1.1 ⟨k1, hkl⟩
    have hm : ∀ {p q : Nat}, Td r (fun j => tre r j ∧ j ≠ l) p q → Td r (fun j => snd r j ∧ j ≠ l) p q := Td_mono (fun j _ h => ⟨tre_snd h.1, h.2⟩)
    have hd := Td_add (by_ := fun j => tre r j ∧ j ≠ l) (l := l) (fun j _ hj => by
      by_cases z : j = l
      · exact Or.inr z
      · exact Or.inl ⟨hj, z⟩) (Td_tre.mpr (Td_line k1.1 k1))
    rcases hd with hd | ⟨h3, h4⟩ | ⟨h3, h4⟩
    · exact absurd hd k3
    · exact Td_tr (Td_sy (hm h3)) (Td_tr hk (Td_sy (hm h4)))
    · exact Td_sy (Td_tr (Td_sy (hm h3)) (Td_tr hk (Td_sy (hm h4))))
  · rintro ⟨h1, h2⟩
    refine ⟨tre_snd h1, fun h3 => tre_acy h1 ?_⟩
    refine h3 (fun x => Td r (fun k => tre r k ∧ k ≠ l) (rA r l) x) (fun a b he ha => ?_) Td_rf
    rcases he with ⟨k, k1, ⟨k2, k3⟩, k4⟩ | he
    · have hk : Td r (fun k => tre r k ∧ k ≠ l) (rA r k) (rB r k) := by
        by_cases ht : tre r k
        · exact Td_line k1 ⟨ht, k3⟩
        · have := h2 k ⟨k2, ht⟩
          by_cases hz : Td r (fun k => tre r k ∧ k ≠ l) (rA r k) (rB r k)
          · exact hz
          · exact absurd ⟨h1, hz⟩ this
      rcases k4 with ⟨rfl, rfl⟩ | ⟨rfl, rfl⟩
      · exact Td_tr ha hk
      · exact Td_tr ha (Td_sy hk)
    · exact Td_tr ha (Td_ed (Or.inr he))
end
