/-! The row as a system of lines. -/
noncomputable def dI (P : Prop) (v : Int) : Int := @ite _ P (Classical.propDecidable P) v 0
theorem dI_t {P : Prop} {v : Int} (h : P) : dI P v = v := @if_pos _ (Classical.propDecidable P) h _ _ _
theorem dI_f {P : Prop} {v : Int} (h : ¬ P) : dI P v = 0 := @if_neg _ (Classical.propDecidable P) h _ _ _
theorem dI_iff {P P' : Prop} {v : Int} (h : P ↔ P') : dI P v = dI P' v := by rw [propext h]
noncomputable def wE (r : Nat → Int32) (l : Nat) : Int := dI (snd r l) (r (47 + l)).toInt
noncomputable def eP (r : Nat → Int32) (p i : Nat) : Int := dI (soug r p ∧ i = rowN r p) 1
noncomputable def cE (r : Nat → Int32) (l i : Nat) : Int := eP r (rB r l) i - eP r (rA r l) i
noncomputable def kE (r : Nat → Int32) (p : Nat) : Int := dI (fxd r p) (r (8 + p)).toInt
noncomputable def gE (r : Nat → Int32) (l : Nat) : Int := (r (36 + l)).toInt - (kE r (rB r l) - kE r (rA r l))
noncomputable def xP (r : Nat → Int32) (x : Nat → Int) (p : Nat) : Int := dI (soug r p) (x (rowN r p))
section
variable {r : Nat → Int32} {p q l k i : Nat} {x : Nat → Int}
theorem dt_e : dt (wd r) (eP r p) x = xP r x p := by
  unfold dt xP
  by_cases h : soug r p
  · rw [sm_one (p := rowN r p) (rowN_lt h) (fun i _ hn => by unfold eP; rw [dI_f (fun z => hn z.2), Int.zero_mul]), dI_t h]
    unfold eP
    rw [dI_t ⟨h, rfl⟩, Int.one_mul]
  · rw [dI_f h]
    exact sm_zero (fun i _ => by unfold eP; rw [dI_f (fun z => h z.1), Int.zero_mul])
theorem dt_c : dt (wd r) (cE r l) x = xP r x (rB r l) - xP r x (rA r l) := by
  rw [← dt_e, ← dt_e]
  unfold dt
  rw [← sm_sub]
  exact sm_congr (fun i _ => by unfold cE; grind)
theorem cK_sur {K : Nat → Prop} : ∀ n i, i < cK K n → ∃ p, p < n ∧ K p ∧ cK K p = i
  | 0, i, h => by exact absurd h (Nat.not_lt_zero _)
  | n + 1, i, h => by
    by_cases hk : K n
    · rw [cK_succ_y hk] at h
      by_cases e : i = cK K n
      · exact ⟨n, by omega, hk, e.symm⟩
      · obtain ⟨p, h1, h2⟩ := cK_sur (K := K) n i (by omega)
        exact ⟨p, by omega, h2⟩
    · rw [cK_succ_n hk] at h
      obtain ⟨p, h1, h2⟩ := cK_sur n i h
      exact ⟨p, by omega, h2⟩
theorem row_sur (h : i < wd r) : ∃ p, soug r p ∧ rowN r p = i := by
  obtain ⟨p, _, h2, h3⟩ := cK_sur (rP r) i h
  exact ⟨p, h2, h3⟩
theorem soug_bas : soug r p ↔ p < rP r ∧ ¬ bas r p := by
  unfold soug bas
  refine ⟨fun z => ⟨z.1, fun y => ?_⟩, fun z => ⟨z.1, fun y => z.2 (Or.inl y), fun y => z.2 (Or.inr ⟨z.1, y⟩)⟩⟩
  rcases y with y | y
  · exact z.2.1 y
  · exact z.2.2 y.2
theorem wE_nn (hV : VR r) (hl : l < rL r) : 0 ≤ wE r l := by
  unfold wE
  by_cases h : snd r l
  · rw [dI_t h]
    have := (hV.2.2.2 l hl).2.2.2.2.1
    have := this.1
    omega
  · rw [dI_f h]; omega
theorem wE_ne (hV : VR r) (hl : l < rL r) : wE r l ≠ 0 ↔ snd r l := by
  unfold wE
  by_cases h : snd r l
  · rw [dI_t h]
    have := (hV.2.2.2 l hl).2.2.2.2.1
    have := this.1
    exact ⟨fun _ => h, fun _ => by omega⟩
  · rw [dI_f h]; exact ⟨fun z => absurd rfl z, fun z => absurd z h⟩
theorem sep_r (hV : VR r) : sepd (wd r) (rL r) (wE r) (cE r) := by
  refine ⟨fun l hl => wE_nn hV hl, fun x hx i hi => ?_⟩
  obtain ⟨p, hp, hi⟩ := row_sur hi
  obtain ⟨b, hb, htd⟩ := bas_ex hV hp.1
  have h0 : xP r x b = 0 := by unfold xP; exact dI_f (fun z => (soug_bas.mp z).2 hb)
  have key : xP r x p = 0 := Td_sy htd (fun a => xP r x a = 0) (fun a c he ha => by
    rcases he with ⟨l, hl, hs, h1 | h1⟩ | h1
    · have := hx l hl ((wE_ne hV hl).mpr hs)
      rw [dt_c, h1.1, h1.2] at this
      show xP r x c = 0
      have ha' : xP r x a = 0 := ha
      omega
    · have := hx l hl ((wE_ne hV hl).mpr hs)
      rw [dt_c, h1.1, h1.2] at this
      show xP r x c = 0
      have ha' : xP r x a = 0 := ha
      omega
    · unfold xP
      exact dI_f (fun z => z.2.1 h1.2)) h0
  unfold xP at key
  rw [dI_t hp, hi] at key
  exact key
/-! a line struck -/
def strk (r : Nat → Int32) (k : Nat) : Nat → Int32 := fun j => if j = 58 + k then 0 else r j
theorem strk_lo {j : Nat} (h : j < 58) : strk r k j = r j := by unfold strk; rw [if_neg (by omega)]
theorem strk_P : rP (strk r k) = rP r := by unfold rP; rw [strk_lo (by omega)]
theorem strk_L : rL (strk r k) = rL r := by unfold rL; rw [strk_lo (by omega)]
theorem strk_A (hl : l < 11) : rA (strk r k) l = rA r l := by unfold rA; rw [strk_lo (by omega)]
theorem strk_B (hl : l < 11) : rB (strk r k) l = rB r l := by unfold rB; rw [strk_lo (by omega)]
theorem strk_fx (hV : VR r) : fxd (strk r k) p ↔ fxd r p := by
  unfold fxd
  rw [strk_P]
  by_cases h : p < rP r
  · rw [strk_lo (by have := hV.1.2; omega)]
  · exact ⟨fun z => absurd z.1 h, fun z => absurd z.1 h⟩
theorem strk_sn : snd (strk r k) l ↔ snd r l ∧ l ≠ k := by
  unfold snd
  rw [strk_L]
  unfold strk
  by_cases e : l = k
  · subst e
    rw [if_pos rfl]
    exact ⟨fun z => absurd z.2 (by decide), fun z => absurd rfl z.2⟩
  · rw [if_neg (by omega)]
    exact ⟨fun z => ⟨z, e⟩, fun z => z.1⟩
theorem strk_V (hV : VR r) : VR (strk r k) := by
  have h6 := hV.1.2
  have h11 := hV.2.1.2
  unfold VR
  rw [strk_P, strk_L, strk_lo (show 0 < 58 by omega), strk_lo (show 1 < 58 by omega)]
  refine ⟨hV.1, hV.2.1, fun p hp => ?_, fun l hl => ?_⟩
  · rw [strk_lo (by omega), strk_lo (by omega)]
    exact hV.2.2.1 p hp
  · rw [strk_lo (show 14 + l < 58 by omega), strk_lo (show 25 + l < 58 by omega), strk_lo (show 36 + l < 58 by omega), strk_lo (show 47 + l < 58 by omega), strk_A (by omega), strk_B (by omega)]
    obtain ⟨a, b, c, e, f, g⟩ := hV.2.2.2 l hl
    refine ⟨a, b, c, e, f, ?_⟩
    unfold strk
    by_cases z : 58 + l = 58 + k
    · rw [if_pos z]; exact isB_0
    · rw [if_neg z]; exact g
theorem strk_Ed (hV : VR r) {by_ : Nat → Prop} {a b : Nat} : Ed (strk r k) by_ a b ↔ Ed r by_ a b := by
  have h11 := hV.2.1.2
  unfold Ed
  rw [strk_L]
  refine or_congr ⟨fun z => ?_, fun z => ?_⟩ (and_congr (strk_fx hV) (strk_fx hV))
  · obtain ⟨l, hl, hb, h⟩ := z
    rw [strk_A (by omega), strk_B (by omega)] at h
    exact ⟨l, hl, hb, h⟩
  · obtain ⟨l, hl, hb, h⟩ := z
    refine ⟨l, hl, hb, ?_⟩
    rw [strk_A (by omega), strk_B (by omega)]
    exact h
theorem strk_Td (hV : VR r) {by_ : Nat → Prop} {a b : Nat} : Td (strk r k) by_ a b ↔ Td r by_ a b :=
  ⟨fun z S hS => z S (fun u v he => hS u v ((strk_Ed hV).mp he)), fun z S hS => z S (fun u v he => hS u v ((strk_Ed hV).mpr he))⟩
theorem strk_tied (hV : VR r) (hk : snd r k) (hb : ¬ brg r k) {a b : Nat} : Td (strk r k) (snd (strk r k)) a b ↔ Td r (snd r) a b := by
  rw [strk_Td hV]
  have hkt : Td r (snd (strk r k)) (rA r k) (rB r k) := by
    refine Classical.byContradiction (fun z => hb ⟨hk, fun y => z ?_⟩)
    exact Td_mono (fun l _ h => strk_sn.mpr h) y
  refine ⟨Td_mono (fun l _ h => (strk_sn.mp h).1), fun h => ?_⟩
  rcases Td_add (by_ := snd (strk r k)) (by2 := snd r) (l := k) (fun l _ hs => by
    by_cases e : l = k
    · exact Or.inr e
    · exact Or.inl (strk_sn.mpr ⟨hs, e⟩)) h with h1 | h1 | h1
  · exact h1
  · exact Td_tr h1.1 (Td_tr hkt h1.2)
  · exact Td_tr h1.1 (Td_tr (Td_sy hkt) h1.2)
theorem strk_soug (hV : VR r) (hk : snd r k) (hb : ¬ brg r k) : soug (strk r k) = soug r := by
  funext p
  apply propext
  unfold soug isRt isPt
  rw [strk_P]
  refine and_congr Iff.rfl (and_congr (not_congr (strk_fx hV)) (not_congr (and_congr (and_congr (strk_tied hV hk hb) ?_) ?_)))
  · exact ⟨fun z q' h => fun y => z q' h ((strk_tied hV hk hb).mpr y), fun z q' h => fun y => z q' h ((strk_tied hV hk hb).mp y)⟩
  · exact ⟨fun z q h1 h2 h3 => z q h1 ((strk_tied hV hk hb).mpr h2) ((strk_fx hV).mpr h3), fun z q h1 h2 h3 => z q h1 ((strk_tied hV hk hb).mp h2) ((strk_fx hV).mp h3)⟩
theorem strk_wd (hV : VR r) (hk : snd r k) (hb : ¬ brg r k) : wd (strk r k) = wd r := by unfold wd; rw [strk_soug hV hk hb, strk_P]
theorem strk_row (hV : VR r) (hk : snd r k) (hb : ¬ brg r k) : rowN (strk r k) p = rowN r p := by unfold rowN; rw [strk_soug hV hk hb]
theorem strk_eP (hV : VR r) (hk : snd r k) (hb : ¬ brg r k) : eP (strk r k) p i = eP r p i := by unfold eP; rw [strk_soug hV hk hb, strk_row hV hk hb]
theorem strk_cE (hV : VR r) (hk : snd r k) (hb : ¬ brg r k) (hl : l < 11) : cE (strk r k) l i = cE r l i := by unfold cE; rw [strk_eP hV hk hb, strk_eP hV hk hb, strk_A hl, strk_B hl]
theorem strk_kE (hV : VR r) (hp : p < rP r) : kE (strk r k) p = kE r p := by
  unfold kE
  rw [dI_iff (strk_fx hV), strk_lo (by have := hV.1.2; omega)]
theorem strk_gE (hV : VR r) (hl : l < rL r) : gE (strk r k) l = gE r l := by
  have h11 := hV.2.1.2
  have hVl := hV.2.2.2 l hl
  unfold gE
  rw [strk_lo (by omega), strk_A (by omega), strk_B (by omega), strk_kE hV hVl.1.2, strk_kE hV hVl.2.1.2]
theorem strk_wE (hl : l < 11) : wE (strk r k) l = wo (wE r) k l := by
  unfold wE wo
  by_cases e : l = k
  · rw [if_pos e, dI_f (fun z => (strk_sn.mp z).2 e)]
  · rw [if_neg e, strk_lo (by omega), dI_iff (show snd (strk r k) l ↔ snd r l from ⟨fun z => (strk_sn.mp z).1, fun z => strk_sn.mpr ⟨z, e⟩⟩)]
theorem sep_wo (hV : VR r) (hk : snd r k) (hb : ¬ brg r k) : sepd (wd r) (rL r) (wo (wE r) k) (cE r) := by
  have h11 := hV.2.1.2
  have := sep_r (strk_V (k := k) hV)
  rw [strk_wd hV hk hb, strk_L] at this
  refine ⟨fun l hl => by rw [← strk_wE (by omega)]; exact this.1 l hl, fun x hx i hi => this.2 x (fun l hl hw => ?_) i hi⟩
  rw [strk_wE (by omega)] at hw
  rw [← hx l hl hw]
  unfold dt
  exact sm_congr (fun i _ => by rw [strk_cE hV hk hb (by omega)])
/-- a bridge parts some points from all that are known -/
theorem bridge_x (hV : VR r) (hb : brg r k) : ∃ (x : Nat → Int) (s : Int), (∀ l, l < rL r → l ≠ k → wE r l ≠ 0 → dt (wd r) (cE r l) x = 0) ∧ dt (wd r) (cE r k) x = s ∧ s ≠ 0 := by
  have hk := hb.1
  have hVk := hV.2.2.2 k hk.1
  obtain ⟨b, hbb, hbt⟩ := bas_ex hV hVk.1.2
  have two : Td r (fun l => snd r l ∧ l ≠ k) (rA r k) b ∨ Td r (fun l => snd r l ∧ l ≠ k) (rB r k) b := by
    rcases Td_add (by_ := fun l => snd r l ∧ l ≠ k) (by2 := snd r) (l := k) (fun l _ hs => by
      by_cases e : l = k
      · exact Or.inr e
      · exact Or.inl ⟨hs, e⟩) hbt with h1 | h1 | h1
    · exact Or.inl h1
    · exact Or.inr h1.2
    · exact absurd h1.1 hb.2
  have main : ∀ F N : Nat, F < rP r → Td r (snd r) F b → Td r (fun l => snd r l ∧ l ≠ k) N b → ¬ Td r (fun l => snd r l ∧ l ≠ k) F N → ∃ x : Nat → Int, (∀ l, l < rL r → l ≠ k → wE r l ≠ 0 → dt (wd r) (cE r l) x = 0) ∧ xP r x F = 1 ∧ xP r x N = 0 := by
    intro F N hF hFb hN hFN
    have hX : ∀ p, xP r (fun i => dI (∃ p, soug r p ∧ rowN r p = i ∧ Td r (fun l => snd r l ∧ l ≠ k) F p) 1) p = dI (Td r (fun l => snd r l ∧ l ≠ k) F p) 1 := by
      intro p
      unfold xP
      by_cases hS : Td r (fun l => snd r l ∧ l ≠ k) F p
      · have hs : soug r p := by
          refine soug_bas.mpr ⟨Td_lt hV hS hF, fun hbp => hFN ?_⟩
          have t1 : Td r (snd r) F p := Td_mono (fun l _ h => h.1) hS
          have t2 := bas_one hbb hbp (Td_tr (Td_sy hFb) t1) (fun l => snd r l ∧ l ≠ k)
          exact Td_tr hS (Td_tr (Td_sy t2) (Td_sy hN))
        rw [dI_t hs, dI_t hS]
        exact dI_t ⟨p, hs, rfl, hS⟩
      · rw [dI_f hS]
        by_cases hs : soug r p
        · rw [dI_t hs]
          exact dI_f (fun z => by
            obtain ⟨p', h1, h2, h3⟩ := z
            have := rowN_inj h1 hs h2
            subst this
            exact hS h3)
        · exact dI_f hs
    refine ⟨_, fun l hl hlk hw => ?_, by rw [hX]; exact dI_t Td_rf, by rw [hX]; exact dI_f hFN⟩
    rw [dt_c, hX, hX]
    have ln := Td_line (r := r) (by_ := fun l => snd r l ∧ l ≠ k) hl ⟨(wE_ne hV hl).mp hw, hlk⟩
    rw [dI_iff (show Td r (fun l => snd r l ∧ l ≠ k) F (rB r l) ↔ Td r (fun l => snd r l ∧ l ≠ k) F (rA r l) from ⟨fun z => Td_tr z (Td_sy ln), fun z => Td_tr z ln⟩)]
    omega
  rcases two with h | h
  · obtain ⟨x, h1, h2, h3⟩ := main (rB r k) (rA r k) hVk.2.1.2 (Td_tr (Td_sy (Td_line hk.1 hk)) hbt) h (fun z => hb.2 (Td_sy z))
    exact ⟨x, _, h1, rfl, by rw [dt_c, h2, h3]; decide⟩
  · obtain ⟨x, h1, h2, h3⟩ := main (rA r k) (rB r k) hVk.1.2 hbt h hb.2
    exact ⟨x, _, h1, rfl, by rw [dt_c, h2, h3]; decide⟩
end
