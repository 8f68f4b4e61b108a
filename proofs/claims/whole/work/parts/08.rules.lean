/-! Rules of the abstract machine, an instruction each: what the rows S.. stand on. -/
def isB (x : Int32) : Prop := x = 0 ∨ x = 1
theorem isB_0 : isB 0 := Or.inl rfl
theorem isB_1 : isB 1 := Or.inr rfl
def RV (a k : Nat) : Nat := (RT a k).getD 0
/-- the place i is in the array a, of this kind -/
def okA (kd a : Nat) (i : Int32) : Prop := ∃ n, shp a = some (kd, n) ∧ 0 ≤ i.toInt ∧ i.toInt < (n : Int)
def okB (a : Nat) (i : Int32) : Prop := okA 2 a i ∨ okA 3 a i
def okR (a : Nat) (i : Int32) : Prop := (okA 5 a i ∨ okA 6 a i) ∧ (RT a i.toNatClampNeg).isSome = true
/-- what is done with an answer -/
def kR (d mi pc : Nat) (lv : LV) (rest : List Value) (Q : Option (Option Value) → Hp → Prop) : Option (Option Value) → Hp → Prop := fun o h' => match o with
  | some (some v) => WP d mi pc lv (v :: rest) h' Q
  | _ => False
def kV (d mi pc : Nat) (lv : LV) (rest : List Value) (Q : Option (Option Value) → Hp → Prop) : Option (Option Value) → Hp → Prop := fun o h' => match o with
  | some none => WP d mi pc lv rest h' Q
  | _ => False
section
variable {d mi pc : Nat} {lv : LV} {st : List Value} {h : Hp} {Q : Option (Option Value) → Hp → Prop}
theorem kR_at {rest : List Value} {v : Value} {h' : Hp} : kR d mi pc lv rest Q (some (some v)) h' ↔ WP d mi pc lv (v :: rest) h' Q := Iff.rfl
theorem kV_at {rest : List Value} {h' : Hp} : kV d mi pc lv rest Q (some none) h' ↔ WP d mi pc lv rest h' Q := Iff.rfl
theorem WP_br {c : Prop} [Decidable c] {p1 p2 : Nat} {lv' : LV} {st' : List Value} {h' : Hp} (hs : stpAt mi pc lv st h = some (if c then p1 else p2, lv', st', h')) : WP d mi pc lv st h Q ↔ if c then WP d mi p1 lv' st' h' Q else WP d mi p2 lv' st' h' Q := by
  rw [WP_st hs]
  by_cases hc : c
  · rw [if_pos hc, if_pos hc]
  · rw [if_neg hc, if_neg hc]
theorem stpAt_of {ins : Instr} {n r : Nat} (hc : mCd mi pc = some (ins, n, r)) (hi : isC ins = 0) : stpAt mi pc lv st h = stp ins r pc lv st h := by
  unfold stpAt
  rw [hc]
  simp only [hi, if_true]
theorem WP_irem {n r : Nat} {x y : Int32} (hc : mCd mi pc = some (.irem, n, r)) (hy : y ≠ 0) : WP d mi pc lv (.int y :: .int x :: st) h Q ↔ WP d mi (pc + 1) lv (.int (x - x / y * y) :: st) h Q := WP_st (by rw [stpAt_of hc rfl]; simp only [stp]; rw [if_neg hy])
theorem WP_ldiv {n r : Nat} {x y : Int64} (hc : mCd mi pc = some (.ldiv, n, r)) (hy : y ≠ 0) : WP d mi pc lv (.long y :: .long x :: st) h Q ↔ WP d mi (pc + 1) lv (.long (x / y) :: st) h Q := WP_st (by rw [stpAt_of hc rfl]; simp only [stp]; rw [if_neg hy])
theorem WP_lrem {n r : Nat} {x y : Int64} (hc : mCd mi pc = some (.lrem, n, r)) (hy : y ≠ 0) : WP d mi pc lv (.long y :: .long x :: st) h Q ↔ WP d mi (pc + 1) lv (.long (x - x / y * y) :: st) h Q := WP_st (by rw [stpAt_of hc rfl]; simp only [stp]; rw [if_neg hy])
theorem WP_getI {ix n r a : Nat} (hc : mCd mi pc = some (.getfield ix, n, r)) (hs : shp a = some (0, r / 64)) (hf : fK (r / 64) (r % 64) = 0 ∨ fK (r / 64) (r % 64) = 3) : WP d mi pc lv (.ref a :: st) h Q ↔ WP d mi (pc + 3) lv (.int (h.1 a (r % 64)) :: st) h Q := WP_st (by
  rw [stpAt_of hc rfl]
  rcases hf with hf | hf <;> simp only [stp, hs, hf, if_true])
theorem WP_getL {ix n r a : Nat} (hc : mCd mi pc = some (.getfield ix, n, r)) (hs : shp a = some (0, r / 64)) (hf : fK (r / 64) (r % 64) = 1) : WP d mi pc lv (.ref a :: st) h Q ↔ WP d mi (pc + 3) lv (.long (h.2.1 a (r % 64)) :: st) h Q := WP_st (by
  rw [stpAt_of hc rfl]
  simp only [stp, hs, hf, if_true])
theorem RT_allF : ∀ (a : Fin 109) (c : Fin 9) (k : Fin 40), shp a.val = some (0, c.val) → fK c.val k.val = 2 → (RT a.val k.val).isSome = true := by decide +kernel
theorem RT_all (a : Nat) (ha : a < 109) (c : Nat) (hc : c < 9) (k : Nat) (hk : k < 40) (h1 : shp a = some (0, c)) (h2 : fK c k = 2) : (RT a k).isSome = true := RT_allF ⟨a, ha⟩ ⟨c, hc⟩ ⟨k, hk⟩ h1 h2
theorem fK_lt : ∀ c, c < 9 → ∀ k, fK c k = 2 → k < 40 := by
  intro c hc k hk
  rcases Nat.lt_or_ge k 40 with h | h
  · exact h
  · have hl : ∀ c, c < 9 → (fKL.getD c []).length ≤ 40 := by decide +kernel
    have : fK c k = 9 := by
      unfold fK
      rw [List.getD_eq_getElem?_getD, List.getElem?_eq_none (Nat.le_trans (hl c hc) h)]
      rfl
    omega
theorem shp_lt {a : Nat} {q : Nat × Nat} (h : shp a = some q) : a < 109 := (List.getElem?_eq_some_iff.mp h).1
theorem WP_getR {ix n r a : Nat} (hc : mCd mi pc = some (.getfield ix, n, r)) (hs : shp a = some (0, r / 64)) (hf : fK (r / 64) (r % 64) = 2 ∧ r / 64 < 9) : WP d mi pc lv (.ref a :: st) h Q ↔ WP d mi (pc + 3) lv (.ref (RV a (r % 64)) :: st) h Q := WP_st (by
  rw [stpAt_of hc rfl]
  have h1 := RT_all a (shp_lt hs) _ hf.2 _ (fK_lt _ hf.2 _ hf.1) hs hf.1
  obtain ⟨k, hk⟩ := Option.isSome_iff_exists.mp h1
  simp only [stp, hs, hf.1, if_true, RV, hk, Option.getD_some])
theorem WP_putI {ix n r a : Nat} {x : Int32} (hc : mCd mi pc = some (.putfield ix, n, r)) (hs : shp a = some (0, r / 64)) (hf : fK (r / 64) (r % 64) = 0) : WP d mi pc lv (.int x :: .ref a :: st) h Q ↔ WP d mi (pc + 3) lv st (setI h a (r % 64) x) Q := WP_st (by
  rw [stpAt_of hc rfl]
  simp only [stp]
  rw [if_pos ⟨hs, Or.inl hf⟩])
theorem WP_putZ {ix n r a : Nat} {x : Int32} (hc : mCd mi pc = some (.putfield ix, n, r)) (hs : shp a = some (0, r / 64)) (hf : fK (r / 64) (r % 64) = 3) (hx : isB x) : WP d mi pc lv (.int x :: .ref a :: st) h Q ↔ WP d mi (pc + 3) lv st (setI h a (r % 64) x) Q := WP_st (by
  rw [stpAt_of hc rfl]
  simp only [stp]
  rw [if_pos ⟨hs, Or.inr ⟨hf, hx⟩⟩])
theorem WP_putL {ix n r a : Nat} {x : Int64} (hc : mCd mi pc = some (.putfield ix, n, r)) (hs : shp a = some (0, r / 64)) (hf : fK (r / 64) (r % 64) = 1) : WP d mi pc lv (.long x :: .ref a :: st) h Q ↔ WP d mi (pc + 3) lv st (setL h a (r % 64) x) Q := WP_st (by
  rw [stpAt_of hc rfl]
  simp only [stp]
  rw [if_pos ⟨hs, hf⟩])
theorem WP_iald {n r a : Nat} {i : Int32} (hc : mCd mi pc = some (.iaload, n, r)) (hi : okA 1 a i) : WP d mi pc lv (.int i :: .ref a :: st) h Q ↔ WP d mi (pc + 1) lv (.int (h.1 a i.toNatClampNeg) :: st) h Q := WP_st (by
  obtain ⟨k, h1, h2⟩ := hi
  have ha : ¬ a = 1000 := fun q => by have := shp_lt h1; omega
  rw [stpAt_of hc rfl]
  simp only [stp, h1]
  rw [if_neg ha, if_pos h2])
theorem WP_sld {n r : Nat} {i : Int32} (hc : mCd mi pc = some (.iaload, n, r)) (hi : 0 ≤ i.toInt ∧ i.toInt < h.2.2.2) : WP d mi pc lv (.int i :: .ref 1000 :: st) h Q ↔ WP d mi (pc + 1) lv (.int (h.1 1000 i.toNatClampNeg) :: st) h Q := WP_st (by
  rw [stpAt_of hc rfl]
  simp only [stp]
  rw [if_pos trivial, if_pos hi])
theorem WP_bald {n r a : Nat} {i : Int32} (hc : mCd mi pc = some (.baload, n, r)) (hi : okB a i) : WP d mi pc lv (.int i :: .ref a :: st) h Q ↔ WP d mi (pc + 1) lv (.int (h.1 a i.toNatClampNeg) :: st) h Q := WP_st (by
  rw [stpAt_of hc rfl]
  rcases hi with ⟨k, h1, h2⟩ | ⟨k, h1, h2⟩ <;> simp only [stp, h1] <;> rw [if_pos h2])
theorem WP_lald {n r a : Nat} {i : Int32} (hc : mCd mi pc = some (.laload, n, r)) (hi : okA 4 a i) : WP d mi pc lv (.int i :: .ref a :: st) h Q ↔ WP d mi (pc + 1) lv (.long (h.2.1 a i.toNatClampNeg) :: st) h Q := WP_st (by
  obtain ⟨k, h1, h2⟩ := hi
  rw [stpAt_of hc rfl]
  simp only [stp, h1]
  rw [if_pos h2])
theorem WP_aald {n r a : Nat} {i : Int32} (hc : mCd mi pc = some (.aaload, n, r)) (hi : okR a i) : WP d mi pc lv (.int i :: .ref a :: st) h Q ↔ WP d mi (pc + 1) lv (.ref (RV a i.toNatClampNeg) :: st) h Q := WP_st (by
  obtain ⟨hq, hr⟩ := hi
  obtain ⟨j, hj⟩ := Option.isSome_iff_exists.mp hr
  rw [stpAt_of hc rfl]
  rcases hq with ⟨k, h1, h2⟩ | ⟨k, h1, h2⟩ <;> simp only [stp, h1, RV, hj, Option.getD_some] <;> rw [if_pos h2])
theorem WP_iast {n r a : Nat} {i x : Int32} (hc : mCd mi pc = some (.iastore, n, r)) (hi : okA 1 a i) : WP d mi pc lv (.int x :: .int i :: .ref a :: st) h Q ↔ WP d mi (pc + 1) lv st (setI h a i.toNatClampNeg x) Q := WP_st (by
  obtain ⟨k, h1, h2⟩ := hi
  rw [stpAt_of hc rfl]
  simp only [stp, h1]
  rw [if_pos h2])
theorem WP_bast2 {n r a : Nat} {i x : Int32} (hc : mCd mi pc = some (.bastore, n, r)) (hi : okA 2 a i) : WP d mi pc lv (.int x :: .int i :: .ref a :: st) h Q ↔ WP d mi (pc + 1) lv st (setI h a i.toNatClampNeg (vp_nar .byte x)) Q := WP_st (by
  obtain ⟨k, h1, h2⟩ := hi
  rw [stpAt_of hc rfl]
  simp only [stp, h1]
  rw [if_pos h2])
theorem WP_bast3 {n r a : Nat} {i x : Int32} (hc : mCd mi pc = some (.bastore, n, r)) (hi : okA 3 a i) : WP d mi pc lv (.int x :: .int i :: .ref a :: st) h Q ↔ WP d mi (pc + 1) lv st (setI h a i.toNatClampNeg (vp_nar .boolean x)) Q := WP_st (by
  obtain ⟨k, h1, h2⟩ := hi
  rw [stpAt_of hc rfl]
  simp only [stp, h1]
  rw [if_pos h2])
theorem WP_last {n r a : Nat} {i : Int32} {x : Int64} (hc : mCd mi pc = some (.lastore, n, r)) (hi : okA 4 a i) : WP d mi pc lv (.long x :: .int i :: .ref a :: st) h Q ↔ WP d mi (pc + 1) lv st (setL h a i.toNatClampNeg x) Q := WP_st (by
  obtain ⟨k, h1, h2⟩ := hi
  rw [stpAt_of hc rfl]
  simp only [stp, h1]
  rw [if_pos h2])
theorem WP_endZ {n r : Nat} {x : Int32} (hc : mCd mi pc = some (.ireturn, n, r)) (ht : mRt mi = some .boolean) (hx : isB x) : WP d mi pc lv [.int x] h Q ↔ Q (some (some (.int x))) h := WP_end hc rfl (by
  unfold fin
  rw [hc]
  simp only [ht]
  rw [if_pos (show x = 0 ∨ x = 1 from hx)])
theorem fin_R {i : Nat} {o : Option Value} (hm : (mRt i).isSome = true) (hf : fin i pc st = some (some o)) : ∃ v, o = some v := by
  unfold fin at hf
  split at hf
  · split at hf
    · split at hf
      · exact ⟨_, (Option.some.inj (Option.some.inj hf)).symm⟩
      · split at hf
        · exact ⟨_, (Option.some.inj (Option.some.inj hf)).symm⟩
        · cases hf
      · cases hf
    · cases hf
  · split at hf
    · split at hf
      · exact ⟨_, (Option.some.inj (Option.some.inj hf)).symm⟩
      · cases hf
    · cases hf
  · split at hf
    · split at hf
      · rename_i hn
        rw [hn] at hm
        cases hm
      · cases hf
    · cases hf
  · split at hf <;> cases hf
  · cases hf
theorem fin_V {i : Nat} {o : Option Value} (hm : mRt i = none) (hf : fin i pc st = some (some o)) : o = none := by
  unfold fin at hf
  rw [hm] at hf
  split at hf
  · split at hf <;> cases hf
  · split at hf <;> cases hf
  · split at hf
    · exact (Option.some.inj (Option.some.inj hf)).symm
    · cases hf
  · split at hf <;> cases hf
  · cases hf
theorem WP_retR {r : Nat} {lv0 : LV} {rest : List Value} {d' : Nat} (hm : (mRt r).isSome = true) : WP d r 0 lv0 [] h (fun o h' => match o with
    | some v => WP d' mi pc lv (v.toList ++ rest) h' Q
    | none => False) ↔ WP d r 0 lv0 [] h (kR d' mi pc lv rest Q) := by
  constructor
  · rintro ⟨f, p', s', h', o, a, b, q⟩
    match o, b, q with
    | some o, b, q =>
      obtain ⟨v, rfl⟩ := fin_R hm b
      exact ⟨f, p', s', h', _, a, b, q⟩
  · rintro ⟨f, p', s', h', o, a, b, q⟩
    match o, b, q with
    | some (some v), b, q => exact ⟨f, p', s', h', _, a, b, q⟩
theorem WP_retV {r : Nat} {lv0 : LV} {rest : List Value} {d' : Nat} (hm : mRt r = none) : WP d r 0 lv0 [] h (fun o h' => match o with
    | some v => WP d' mi pc lv (v.toList ++ rest) h' Q
    | none => False) ↔ WP d r 0 lv0 [] h (kV d' mi pc lv rest Q) := by
  constructor
  · rintro ⟨f, p', s', h', o, a, b, q⟩
    match o, b, q with
    | some o, b, q =>
      have e := fin_V hm b
      subst e
      exact ⟨f, p', s', h', _, a, b, q⟩
  · rintro ⟨f, p', s', h', o, a, b, q⟩
    match o, b, q with
    | some none, b, q => exact ⟨f, p', s', h', _, a, b, q⟩
theorem WP_callSR {as rest : List Value} {ins : Instr} {n r : Nat} {lv0 : LV} (hc : mCd mi pc = some (ins, n, r)) (hi : (isC ins, wrp r, mSt r) = (1, none, true)) (ha : cargs ins r st = some (as, rest)) (hm : (mRt r).isSome = true) (he : ent (mMx r) as = lv0) : WP (d + 1) mi pc lv st h Q ↔ WP d r 0 lv0 [] h (kR (d + 1) mi (pc + 3) lv rest Q) := by
  subst he
  have hst : mSt r = true := (Prod.mk.inj (Prod.mk.inj hi).2).2
  rw [WP_call hc (Prod.mk.inj hi).1 (Prod.mk.inj (Prod.mk.inj hi).2).1 ha (by unfold rcv; split <;> simp [hst])]
  exact WP_retR hm
theorem WP_callSV {as rest : List Value} {ins : Instr} {n r : Nat} {lv0 : LV} (hc : mCd mi pc = some (ins, n, r)) (hi : (isC ins, wrp r, mSt r) = (1, none, true)) (ha : cargs ins r st = some (as, rest)) (hm : mRt r = none) (he : ent (mMx r) as = lv0) : WP (d + 1) mi pc lv st h Q ↔ WP d r 0 lv0 [] h (kV (d + 1) mi (pc + 3) lv rest Q) := by
  subst he
  have hst : mSt r = true := (Prod.mk.inj (Prod.mk.inj hi).2).2
  rw [WP_call hc (Prod.mk.inj hi).1 (Prod.mk.inj (Prod.mk.inj hi).2).1 ha (by unfold rcv; split <;> simp [hst])]
  exact WP_retV hm
theorem WP_callVR {as rest : List Value} {ins : Instr} {n r a ci : Nat} {lv0 : LV} (hc : mCd mi pc = some (ins, n, r)) (hi : (isC ins, wrp r, mCl r) = (1, none, ci)) (ha : cargs ins r st = some (.ref a :: as, rest)) (hm : (mRt r).isSome = true) (he : ent (mMx r) (.ref a :: as) = lv0) (hs : shp a = some (0, ci)) : WP (d + 1) mi pc lv st h Q ↔ WP d r 0 lv0 [] h (kR (d + 1) mi (pc + 3) lv rest Q) := by
  subst he
  have hcl : mCl r = ci := (Prod.mk.inj (Prod.mk.inj hi).2).2
  rw [WP_call hc (Prod.mk.inj hi).1 (Prod.mk.inj (Prod.mk.inj hi).2).1 ha (by simp only [rcv]; rw [hs, hcl]; simp)]
  exact WP_retR hm
theorem WP_callVV {as rest : List Value} {ins : Instr} {n r a ci : Nat} {lv0 : LV} (hc : mCd mi pc = some (ins, n, r)) (hi : (isC ins, wrp r, mCl r) = (1, none, ci)) (ha : cargs ins r st = some (.ref a :: as, rest)) (hm : mRt r = none) (he : ent (mMx r) (.ref a :: as) = lv0) (hs : shp a = some (0, ci)) : WP (d + 1) mi pc lv st h Q ↔ WP d r 0 lv0 [] h (kV (d + 1) mi (pc + 3) lv rest Q) := by
  subst he
  have hcl : mCl r = ci := (Prod.mk.inj (Prod.mk.inj hi).2).2
  rw [WP_call hc (Prod.mk.inj hi).1 (Prod.mk.inj (Prod.mk.inj hi).2).1 ha (by simp only [rcv]; rw [hs, hcl]; simp)]
  exact WP_retV hm
end
