/-! Rows changed at a place, what holds of them; the model's stay and becomes. -/
theorem upd_eq {f : Nat → Int32} {k : Nat} {x : Int32} : upd f k x k = x := if_pos rfl
theorem upd_ne {f : Nat → Int32} {k j : Nat} {x : Int32} (h : j ≠ k) : upd f k x j = f j := if_neg h
section
variable {h h' : Hp} {b k l p : Nat} {r : Nat → Int32} {v : Int32}
theorem upd_P (hk : 2 ≤ k) : rP (upd r k v) = rP r := by unfold rP; rw [upd_ne (by omega)]
theorem upd_L (hk : 2 ≤ k) : rL (upd r k v) = rL r := by unfold rL; rw [upd_ne (by omega)]
theorem VR_upd (hV : VR r) (hk : 2 ≤ k) (h1 : ∀ p, p < rP r → k = 2 + p → isB v) (h2 : ∀ p, p < rP r → k = 8 + p → inH v) (h3 : ∀ l, l < rL r → k ≠ 14 + l) (h4 : ∀ l, l < rL r → k ≠ 25 + l) (h5 : ∀ l, l < rL r → k = 36 + l → inH v) (h6 : ∀ l, l < rL r → k = 47 + l → inW v) (h7 : ∀ l, l < rL r → k = 58 + l → isB v) : VR (upd r k v) := by
  have eP := upd_P (r := r) (v := v) hk
  have eL := upd_L (r := r) (v := v) hk
  refine ⟨?_, ?_, ?_, ?_⟩
  · rw [eP, upd_ne (by omega)]; exact hV.1
  · rw [eL, upd_ne (by omega)]; exact hV.2.1
  · intro p hp
    rw [eP] at hp
    constructor
    · by_cases e : k = 2 + p
      · rw [e, upd_eq]; exact h1 p hp e
      · rw [upd_ne (Ne.symm e)]; exact (hV.2.2.1 p hp).1
    · by_cases e : k = 8 + p
      · rw [e, upd_eq]; exact h2 p hp e
      · rw [upd_ne (Ne.symm e)]; exact (hV.2.2.1 p hp).2
  · intro l hl
    rw [eL] at hl
    have q := hV.2.2.2 l hl
    have eA : rA (upd r k v) l = rA r l := by unfold rA; rw [upd_ne (Ne.symm (h3 l hl))]
    have eB : rB (upd r k v) l = rB r l := by unfold rB; rw [upd_ne (Ne.symm (h4 l hl))]
    rw [eA, eB, eP, upd_ne (Ne.symm (h3 l hl)), upd_ne (Ne.symm (h4 l hl))]
    refine ⟨q.1, q.2.1, q.2.2.1, ?_, ?_, ?_⟩
    · by_cases e : k = 36 + l
      · rw [e, upd_eq]; exact h5 l hl e
      · rw [upd_ne (Ne.symm e)]; exact q.2.2.2.1
    · by_cases e : k = 47 + l
      · rw [e, upd_eq]; exact h6 l hl e
      · rw [upd_ne (Ne.symm e)]; exact q.2.2.2.2.1
    · by_cases e : k = 58 + l
      · rw [e, upd_eq]; exact h7 l hl e
      · rw [upd_ne (Ne.symm e)]; exact q.2.2.2.2.2
theorem CN_upd (hV : VR r) (hN : CN h b r) (hk : 2 ≤ k) (hk2 : k < 14 ∨ 36 ≤ k) (q0 : h'.1 b 0 = h.1 b 0) (q1 : h'.1 b 1 = maskOf (fxd (upd r k v))) (q3 : h'.1 b 3 = h.1 b 3) (q4 : h'.1 b 4 = maskOf (snd (upd r k v))) (q5 : ∀ p, p < rP r → h'.1 (b + 1) p = if k = 8 + p then v else h.1 (b + 1) p) (q6 : ∀ l, l < rL r → h'.1 (b + 2) l = h.1 (b + 2) l ∧ h'.1 (b + 3) l = h.1 (b + 3) l ∧ h'.1 (b + 4) l = (if k = 36 + l then v else h.1 (b + 4) l) ∧ h'.1 (b + 5) l = if k = 47 + l then v else h.1 (b + 5) l) : CN h' b (upd r k v) := by
  have h11 := hV.2.1.2
  have eP := upd_P (r := r) (v := v) hk
  have eL := upd_L (r := r) (v := v) hk
  refine ⟨by rw [q0, upd_ne (by omega)]; exact hN.1, q1, by rw [q3, upd_ne (by omega)]; exact hN.2.2.1, q4, fun p hp => ?_, fun l hl => ?_⟩
  · rw [eP] at hp
    rw [q5 p hp]
    by_cases e : k = 8 + p
    · rw [if_pos e, e, upd_eq]
    · rw [if_neg e, upd_ne (Ne.symm e)]; exact hN.2.2.2.2.1 p hp
  · rw [eL] at hl
    obtain ⟨a1, a2, a3, a4⟩ := q6 l hl
    have q := hN.2.2.2.2.2 l hl
    rw [a1, a2, a3, a4, upd_ne (show 14 + l ≠ k by omega), upd_ne (show 25 + l ≠ k by omega)]
    refine ⟨q.1, q.2.1, ?_, ?_⟩
    · by_cases e : k = 36 + l
      · rw [if_pos e, e, upd_eq]
      · rw [if_neg e, upd_ne (Ne.symm e)]; exact q.2.2.1
    · by_cases e : k = 47 + l
      · rw [if_pos e, e, upd_eq]
      · rw [if_neg e, upd_ne (Ne.symm e)]; exact q.2.2.2
theorem fx_upd (hV : VR r) (hk : 8 ≤ k) : maskOf (fxd (upd r k v)) = maskOf (fxd r) := mask_congr (fun i _ => by
  have h6 := hV.1.2
  unfold fxd
  rw [upd_P (by omega)]
  constructor
  · rintro ⟨a, q⟩; rw [upd_ne (by omega)] at q; exact ⟨a, q⟩
  · rintro ⟨a, q⟩; exact ⟨a, by rw [upd_ne (by omega)]; exact q⟩)
theorem sn_upd (hV : VR r) (hk : 2 ≤ k) (hk2 : k < 58) : maskOf (snd (upd r k v)) = maskOf (snd r) := mask_congr (fun i _ => by
  unfold snd
  rw [upd_L (by omega)]
  constructor
  · rintro ⟨a, q⟩; rw [upd_ne (by omega)] at q; exact ⟨a, q⟩
  · rintro ⟨a, q⟩; exact ⟨a, by rw [upd_ne (by omega)]; exact q⟩)
theorem bt_off (hl : l < 32) {x : Int32} {i : Nat} (hi : i < 32) : bt (x &&& (((1 : Int32) <<< (nI l &&& 31)) ^^^ (-1))) i = (bt x i && !decide (i = l)) := by
  rw [b_and, b_not hi, b_one hl hi]
theorem bt_on (hl : l < 32) {x : Int32} {i : Nat} (hi : i < 32) : bt (x ||| ((1 : Int32) <<< (nI l &&& 31))) i = (bt x i || decide (i = l)) := by
  rw [b_or, b_one hl hi]
theorem sn_off (hl : l < rL r) (hl2 : l < 32) : maskOf (snd r) &&& (((1 : Int32) <<< (nI l &&& 31)) ^^^ (-1)) = maskOf (snd (upd r (58 + l) 0)) := by
  refine eq_mask (fun i hi => ?_)
  rw [bt_off hl2 hi, Bool.and_eq_true, bt_mask hi, Bool.not_eq_true', decide_eq_false_iff_not]
  unfold snd
  rw [upd_L (by omega)]
  constructor
  · rintro ⟨⟨a, q⟩, e⟩; exact ⟨a, by rw [upd_ne (by omega)]; exact q⟩
  · rintro ⟨a, q⟩
    by_cases e : i = l
    · subst e; rw [upd_eq] at q; exact absurd q (by decide)
    · rw [upd_ne (by omega)] at q; exact ⟨⟨a, q⟩, e⟩
theorem sn_on (hl : l < rL r) (hl2 : l < 32) : maskOf (snd r) ||| ((1 : Int32) <<< (nI l &&& 31)) = maskOf (snd (upd r (58 + l) 1)) := by
  refine eq_mask (fun i hi => ?_)
  rw [bt_on hl2 hi, Bool.or_eq_true, bt_mask hi, decide_eq_true_eq]
  unfold snd
  rw [upd_L (by omega)]
  constructor
  · rintro (⟨a, q⟩ | e)
    · refine ⟨a, ?_⟩
      by_cases e : i = l
      · subst e; rw [upd_eq]
      · rw [upd_ne (by omega)]; exact q
    · subst e; exact ⟨hl, upd_eq⟩
  · rintro ⟨a, q⟩
    by_cases e : i = l
    · exact Or.inr e
    · rw [upd_ne (by omega)] at q; exact Or.inl ⟨a, q⟩
theorem fx_off (hl : p < rP r) (hl2 : p < 32) : maskOf (fxd r) &&& (((1 : Int32) <<< (nI p &&& 31)) ^^^ (-1)) = maskOf (fxd (upd r (2 + p) 0)) := by
  refine eq_mask (fun i hi => ?_)
  rw [bt_off hl2 hi, Bool.and_eq_true, bt_mask hi, Bool.not_eq_true', decide_eq_false_iff_not]
  unfold fxd
  rw [upd_P (by omega)]
  constructor
  · rintro ⟨⟨a, q⟩, e⟩; exact ⟨a, by rw [upd_ne (by omega)]; exact q⟩
  · rintro ⟨a, q⟩
    by_cases e : i = p
    · subst e; rw [upd_eq] at q; exact absurd q (by decide)
    · rw [upd_ne (by omega)] at q; exact ⟨⟨a, q⟩, e⟩
theorem fx_on (hl : p < rP r) (hl2 : p < 32) : maskOf (fxd r) ||| ((1 : Int32) <<< (nI p &&& 31)) = maskOf (fxd (upd r (2 + p) 1)) := by
  refine eq_mask (fun i hi => ?_)
  rw [bt_on hl2 hi, Bool.or_eq_true, bt_mask hi, decide_eq_true_eq]
  unfold fxd
  rw [upd_P (by omega)]
  constructor
  · rintro (⟨a, q⟩ | e)
    · refine ⟨a, ?_⟩
      by_cases e : i = p
      · subst e; rw [upd_eq]
      · rw [upd_ne (by omega)]; exact q
    · subst e; exact ⟨hl, upd_eq⟩
  · rintro ⟨a, q⟩
    by_cases e : i = p
    · exact Or.inr e
    · rw [upd_ne (by omega)] at q; exact Or.inl ⟨a, q⟩
/-- the class's net with the place changed -/
theorem CN_s0 (hV : VR r) (hN : CN h 21 r) (hl : l < rL r) : CN (setI h 21 4 (h.1 21 4 &&& (((1 : Int32) <<< (nI l &&& 31)) ^^^ (-1)))) 21 (upd r (58 + l) 0) := by
  have h11 := hV.2.1.2
  refine CN_upd hV hN (by omega) (by omega) (by rw [setI_rd, if_neg (by decide)]) ?_ (by rw [setI_rd, if_neg (by decide)]) ?_ (fun p hp => ?_) (fun i hi => ?_)
  · rw [setI_rd, if_neg (by decide), fx_upd hV (by omega)]; exact hN.2.1
  · rw [setI_rd, if_pos ⟨rfl, rfl⟩, hN.2.2.2.1]; exact sn_off hl (by omega)
  · rw [if_neg (by have := hV.1.2; omega), setI_1 (by decide)]
  · rw [if_neg (by omega), if_neg (by omega)]
    simp only [setI_1 (show 21 + 2 ≠ 21 by decide), setI_1 (show 21 + 3 ≠ 21 by decide), setI_1 (show 21 + 4 ≠ 21 by decide), setI_1 (show 21 + 5 ≠ 21 by decide), and_self]
theorem CN_s1 (hV : VR r) (hN : CN h 21 r) (hl : l < rL r) : CN (setI h 21 4 (h.1 21 4 ||| ((1 : Int32) <<< (nI l &&& 31)))) 21 (upd r (58 + l) 1) := by
  have h11 := hV.2.1.2
  refine CN_upd hV hN (by omega) (by omega) (by rw [setI_rd, if_neg (by decide)]) ?_ (by rw [setI_rd, if_neg (by decide)]) ?_ (fun p hp => ?_) (fun i hi => ?_)
  · rw [setI_rd, if_neg (by decide), fx_upd hV (by omega)]; exact hN.2.1
  · rw [setI_rd, if_pos ⟨rfl, rfl⟩, hN.2.2.2.1]; exact sn_on hl (by omega)
  · rw [if_neg (by have := hV.1.2; omega), setI_1 (by decide)]
  · rw [if_neg (by omega), if_neg (by omega)]
    simp only [setI_1 (show 21 + 2 ≠ 21 by decide), setI_1 (show 21 + 3 ≠ 21 by decide), setI_1 (show 21 + 4 ≠ 21 by decide), setI_1 (show 21 + 5 ≠ 21 by decide), and_self]
theorem CN_f0 (hV : VR r) (hN : CN h 21 r) (hp : p < rP r) : CN (setI h 21 1 (h.1 21 1 &&& (((1 : Int32) <<< (nI p &&& 31)) ^^^ (-1)))) 21 (upd r (2 + p) 0) := by
  have h6 := hV.1.2
  refine CN_upd hV hN (by omega) (by omega) (by rw [setI_rd, if_neg (by decide)]) ?_ (by rw [setI_rd, if_neg (by decide)]) ?_ (fun i hi => ?_) (fun i hi => ?_)
  · rw [setI_rd, if_pos ⟨rfl, rfl⟩, hN.2.1]; exact fx_off hp (by omega)
  · rw [setI_rd, if_neg (by decide), sn_upd hV (by omega) (by omega)]; exact hN.2.2.2.1
  · rw [if_neg (by omega), setI_1 (by decide)]
  · rw [if_neg (by omega), if_neg (by omega)]
    simp only [setI_1 (show 21 + 2 ≠ 21 by decide), setI_1 (show 21 + 3 ≠ 21 by decide), setI_1 (show 21 + 4 ≠ 21 by decide), setI_1 (show 21 + 5 ≠ 21 by decide), and_self]
theorem CN_f1 (hV : VR r) (hN : CN h 21 r) (hp : p < rP r) : CN (setI h 21 1 (h.1 21 1 ||| ((1 : Int32) <<< (nI p &&& 31)))) 21 (upd r (2 + p) 1) := by
  have h6 := hV.1.2
  refine CN_upd hV hN (by omega) (by omega) (by rw [setI_rd, if_neg (by decide)]) ?_ (by rw [setI_rd, if_neg (by decide)]) ?_ (fun i hi => ?_) (fun i hi => ?_)
  · rw [setI_rd, if_pos ⟨rfl, rfl⟩, hN.2.1]; exact fx_on hp (by omega)
  · rw [setI_rd, if_neg (by decide), sn_upd hV (by omega) (by omega)]; exact hN.2.2.2.1
  · rw [if_neg (by omega), setI_1 (by decide)]
  · rw [if_neg (by omega), if_neg (by omega)]
    simp only [setI_1 (show 21 + 2 ≠ 21 by decide), setI_1 (show 21 + 3 ≠ 21 by decide), setI_1 (show 21 + 4 ≠ 21 by decide), setI_1 (show 21 + 5 ≠ 21 by decide), and_self]
theorem CN_h (hV : VR r) (hN : CN h 21 r) (hp : p < rP r) : CN (setI h 22 p v) 21 (upd r (8 + p) v) := by
  have h6 := hV.1.2
  refine CN_upd hV hN (by omega) (by omega) (by rw [setI_1 (by decide)]) ?_ (by rw [setI_1 (by decide)]) ?_ (fun i hi => ?_) (fun i hi => ?_)
  · rw [setI_1 (by decide), fx_upd hV (by omega)]; exact hN.2.1
  · rw [setI_1 (by decide), sn_upd hV (by omega) (by omega)]; exact hN.2.2.2.1
  · rw [setI_rd]
    by_cases e : i = p
    · rw [if_pos ⟨rfl, e⟩, if_pos (by omega)]
    · rw [if_neg (fun z => e z.2), if_neg (by omega)]
  · rw [if_neg (by omega), if_neg (by omega)]
    simp only [setI_1 (show 21 + 2 ≠ 22 by decide), setI_1 (show 21 + 3 ≠ 22 by decide), setI_1 (show 21 + 4 ≠ 22 by decide), setI_1 (show 21 + 5 ≠ 22 by decide), and_self]
theorem CN_r (hV : VR r) (hN : CN h 21 r) (hl : l < rL r) : CN (setI h 25 l v) 21 (upd r (36 + l) v) := by
  have h11 := hV.2.1.2
  refine CN_upd hV hN (by omega) (by omega) (by rw [setI_1 (by decide)]) ?_ (by rw [setI_1 (by decide)]) ?_ (fun i hi => ?_) (fun i hi => ?_)
  · rw [setI_1 (by decide), fx_upd hV (by omega)]; exact hN.2.1
  · rw [setI_1 (by decide), sn_upd hV (by omega) (by omega)]; exact hN.2.2.2.1
  · rw [if_neg (by have := hV.1.2; omega), setI_1 (by decide)]
  · rw [if_neg (show ¬ 36 + l = 47 + i by omega), setI_1 (show 21 + 2 ≠ 25 by decide), setI_1 (show 21 + 3 ≠ 25 by decide), setI_1 (show 21 + 5 ≠ 25 by decide)]
    refine ⟨rfl, rfl, ?_, rfl⟩
    rw [setI_rd]
    by_cases e : i = l
    · rw [if_pos ⟨rfl, e⟩, if_pos (by omega)]
    · rw [if_neg (fun z => e z.2), if_neg (by omega)]
theorem CN_w (hV : VR r) (hN : CN h 21 r) (hl : l < rL r) : CN (setI h 26 l v) 21 (upd r (47 + l) v) := by
  have h11 := hV.2.1.2
  refine CN_upd hV hN (by omega) (by omega) (by rw [setI_1 (by decide)]) ?_ (by rw [setI_1 (by decide)]) ?_ (fun i hi => ?_) (fun i hi => ?_)
  · rw [setI_1 (by decide), fx_upd hV (by omega)]; exact hN.2.1
  · rw [setI_1 (by decide), sn_upd hV (by omega) (by omega)]; exact hN.2.2.2.1
  · rw [if_neg (by have := hV.1.2; omega), setI_1 (by decide)]
  · rw [if_neg (show ¬ 47 + l = 36 + i by omega), setI_1 (show 21 + 2 ≠ 26 by decide), setI_1 (show 21 + 3 ≠ 26 by decide), setI_1 (show 21 + 4 ≠ 26 by decide)]
    refine ⟨rfl, rfl, rfl, ?_⟩
    rw [setI_rd]
    by_cases e : i = l
    · rw [if_pos ⟨rfl, e⟩, if_pos (by omega)]
    · rw [if_neg (fun z => e z.2), if_neg (by omega)]
theorem VR_s (hV : VR r) (hl : l < rL r) (hv : isB v) : VR (upd r (58 + l) v) := by
  have h6 := hV.1.2
  have h11 := hV.2.1.2
  exact VR_upd hV (by omega) (fun p hp e => by omega) (fun p hp e => by omega) (fun i hi => by omega) (fun i hi => by omega) (fun i hi e => by omega) (fun i hi e => by omega) (fun _ _ _ => hv)
theorem VR_f (hV : VR r) (hp : p < rP r) (hv : isB v) : VR (upd r (2 + p) v) := by
  have h6 := hV.1.2
  have h11 := hV.2.1.2
  exact VR_upd hV (by omega) (fun _ _ _ => hv) (fun p hp e => by omega) (fun i hi => by omega) (fun i hi => by omega) (fun i hi e => by omega) (fun i hi e => by omega) (fun i hi e => by omega)
theorem VR_h (hV : VR r) (hp : p < rP r) (hv : inH v) : VR (upd r (8 + p) v) := by
  have h6 := hV.1.2
  have h11 := hV.2.1.2
  exact VR_upd hV (by omega) (fun p hp e => by omega) (fun _ _ _ => hv) (fun i hi => by omega) (fun i hi => by omega) (fun i hi e => by omega) (fun i hi e => by omega) (fun i hi e => by omega)
theorem VR_r (hV : VR r) (hl : l < rL r) (hv : inH v) : VR (upd r (36 + l) v) := by
  have h6 := hV.1.2
  have h11 := hV.2.1.2
  exact VR_upd hV (by omega) (fun p hp e => by omega) (fun p hp e => by omega) (fun i hi => by omega) (fun i hi => by omega) (fun _ _ _ => hv) (fun i hi e => by omega) (fun i hi e => by omega)
theorem VR_w (hV : VR r) (hl : l < rL r) (hv : inW v) : VR (upd r (47 + l) v) := by
  have h6 := hV.1.2
  have h11 := hV.2.1.2
  exact VR_upd hV (by omega) (fun p hp e => by omega) (fun p hp e => by omega) (fun i hi => by omega) (fun i hi => by omega) (fun i hi e => by omega) (fun _ _ _ => hv) (fun i hi e => by omega)
end
