/-! Bits (the family bt of kit/laws/BITS.to-paste), numbers, reading what was written. -/
/-! ===== Int32 by its bits: bt x i ===== -/
def bt (x : Int32) (i : Nat) : Bool := x.toBitVec.getLsbD i
theorem b_ext {x y : Int32} (h : ∀ i, i < 32 → bt x i = bt y i) : x = y := Int32.toBitVec_inj.mp (BitVec.eq_of_getLsbD_eq (fun i hi => h i hi))
theorem b_or (x y : Int32) (i : Nat) : bt (x ||| y) i = (bt x i || bt y i) := by unfold bt; rw [Int32.toBitVec_or, BitVec.getLsbD_or]
theorem b_and (x y : Int32) (i : Nat) : bt (x &&& y) i = (bt x i && bt y i) := by unfold bt; rw [Int32.toBitVec_and, BitVec.getLsbD_and]
theorem b_xor (x y : Int32) (i : Nat) : bt (x ^^^ y) i = (bt x i ^^ bt y i) := by unfold bt; rw [Int32.toBitVec_xor, BitVec.getLsbD_xor]
theorem b_big {x : Int32} {i : Nat} (h : 32 ≤ i) : bt x i = false := BitVec.getLsbD_of_ge _ _ h
theorem b_255 (i : Nat) : bt 255 i = decide (i < 8) := by
  rcases Nat.lt_or_ge i 32 with h | h
  · exact (by decide +kernel : ∀ i, i < 32 → bt 255 i = decide (i < 8)) i h
  · rw [b_big h, decide_eq_false (by omega)]
theorem b_65535 (i : Nat) : bt 65535 i = decide (i < 16) := by
  rcases Nat.lt_or_ge i 32 with h | h
  · exact (by decide +kernel : ∀ i, i < 32 → bt 65535 i = decide (i < 16)) i h
  · rw [b_big h, decide_eq_false (by omega)]
theorem b_m1 : ∀ i, i < 32 → bt (-1) i = true := by decide +kernel
theorem b_0 (i : Nat) : bt 0 i = false := BitVec.getLsbD_zero
theorem s_l : ∀ n, n < 32 → ((nI n &&& 31).toBitVec.smod 32).toNat = n := by decide +kernel
theorem s_u : ∀ n, n < 32 → (((nI n).toUInt32 &&& Int32.toUInt32 31).toBitVec % 32).toNat = n := by decide +kernel
theorem b_shl (n : Nat) (hn : n < 32) (x : Int32) {i : Nat} (hi : i < 32) : bt (x <<< (nI n &&& 31)) i = (decide (n ≤ i) && bt x (i - n)) := by
  unfold bt
  rw [Int32.toBitVec_shiftLeft]
  show (x.toBitVec <<< ((nI n &&& 31).toBitVec.smod 32).toNat).getLsbD i = _
  rw [s_l n hn, BitVec.getLsbD_shiftLeft]
  rcases Nat.lt_or_ge i n with h | h
  · simp [h, Nat.not_le.mpr h]
  · simp [hi, h, Nat.not_lt.mpr h]
theorem b_ushr (n : Nat) (hn : n < 32) (x : Int32) (i : Nat) : bt ((x.toUInt32 >>> ((nI n).toUInt32 &&& Int32.toUInt32 31)).toInt32) i = bt x (n + i) := by
  show (x.toUInt32 >>> ((nI n).toUInt32 &&& Int32.toUInt32 31)).toBitVec.getLsbD i = x.toUInt32.toBitVec.getLsbD (n + i)
  rw [UInt32.toBitVec_shiftRight]
  show (x.toUInt32.toBitVec >>> (((nI n).toUInt32 &&& Int32.toUInt32 31).toBitVec % 32).toNat).getLsbD i = _
  rw [s_u n hn, BitVec.getLsbD_ushiftRight]
theorem b_sshr (n : Nat) (hn : n < 32) (x : Int32) {i : Nat} (hi : i < 32) : bt (x >>> (nI n &&& 31)) i = if n + i < 32 then bt x (n + i) else bt x 31 := by
  unfold bt
  rw [Int32.toBitVec_shiftRight]
  show (x.toBitVec.sshiftRight ((nI n &&& 31).toBitVec.smod 32).toNat).getLsbD i = _
  rw [s_l n hn, BitVec.getLsbD_sshiftRight, BitVec.msb_eq_getLsbD_last]
  simp [hi]
def bitv (x y : Int32) : Int32 := (x.toUInt32 >>> (y.toUInt32 &&& Int32.toUInt32 31)).toInt32 &&& 1
def b2i (b : Bool) : Int32 := if b then 1 else 0
theorem b2i_t : b2i true = 1 := by decide
theorem b2i_f : b2i false = 0 := by decide
theorem isB_b2i (b : Bool) : isB (b2i b) := by
  cases b
  · exact Or.inl (by decide)
  · exact Or.inr (by decide)
theorem b2i_1 {b : Bool} : b2i b = 1 ↔ b = true := by cases b <;> decide
theorem b2i_0 {b : Bool} : b2i b = 0 ↔ b = false := by cases b <;> decide
theorem bt_1 (i : Nat) (hi : i < 32) : bt 1 i = decide (i = 0) := by
  have : ∀ i, i < 32 → bt 1 i = decide (i = 0) := by decide +kernel
  exact this i hi
theorem and1 {x : Int32} : x &&& 1 = b2i (bt x 0) := by
  refine b_ext (fun i hi => ?_)
  rw [b_and, bt_1 i hi]
  cases hb : bt x 0 with
  | true =>
    rw [b2i_t, bt_1 i hi]
    by_cases h : i = 0
    · subst h; rw [hb]; rfl
    · rw [decide_eq_false h, Bool.and_false]
  | false =>
    rw [b2i_f, b_0]
    by_cases h : i = 0
    · subst h; rw [hb]; rfl
    · rw [decide_eq_false h, Bool.and_false]
theorem bitv_bt {x : Int32} {n : Nat} (hn : n < 32) : bitv x (nI n) = b2i (bt x n) := by
  unfold bitv
  rw [and1, b_ushr n hn]
  rfl
theorem hasv_bt {x : Int32} {n : Nat} (hn : n < 32) : (x >>> (nI n &&& 31)) &&& 1 = b2i (bt x n) := by
  rw [and1, b_sshr n hn x (by decide)]
  rw [Nat.add_zero, if_pos hn]
theorem b_one {n i : Nat} (hn : n < 32) (hi : i < 32) : bt ((1 : Int32) <<< (nI n &&& 31)) i = decide (i = n) := by
  rw [b_shl n hn 1 hi]
  by_cases h : n ≤ i
  · rw [bt_1 _ (by omega), decide_eq_true h, Bool.true_and]
    exact decide_eq_decide.mpr ⟨fun q => by omega, fun q => by omega⟩
  · rw [decide_eq_false h, Bool.false_and]
    exact (decide_eq_false (by omega)).symm
theorem b_not {x : Int32} {i : Nat} (hi : i < 32) : bt (x ^^^ (-1)) i = !bt x i := by
  rw [b_xor, b_m1 i hi, Bool.xor_true]
theorem bt_eq0 {x : Int32} : x = 0 ↔ ∀ i, i < 32 → bt x i = false := by
  constructor
  · intro h i _
    rw [h, b_0]
  · intro h
    exact b_ext (fun i hi => by rw [h i hi, b_0])
theorem kl_int {x : Int32} : kl (some (.int x)) = some (.int x) := by simp only [kl]
theorem kl_ref {a : Nat} : kl (some (.ref a)) = some (.ref a) := by simp only [kl]
theorem kl_long {x : Int64} : kl (some (.long x)) = none := by simp only [kl]
theorem kl_none : kl none = none := by simp only [kl]
theorem nI_l0 : (0 : Int32) = nI 0 := by decide
theorem lit_add (k n : Nat) : (OfNat.ofNat k : Int32) + nI n = nI (k + n) := by
  show nI k + nI n = nI (k + n)
  exact nI_add k n
theorem nI_add1 (n : Nat) : nI n + 1 = nI (n + 1) := nI_1 n
theorem nI_cl {n : Nat} (h : n < 2147483648) : (nI n).toNatClampNeg = n := nI_clamp h
theorem nI_int {n : Nat} (h : n < 2147483648) : (nI n).toInt = (n : Int) := nI_toInt h
theorem okA_nI {kd a n k : Nat} (hs : shp a = some (kd, k)) (h : n < k) (hk : k < 2147483648) : okA kd a (nI n) := ⟨k, hs, by rw [nI_int (by omega)]; omega, by rw [nI_int (by omega)]; omega⟩
/-- only what S names has changed -/
def frm (S : Nat → Prop) (h h' : Hp) : Prop := (∀ a, ¬ S a → h'.1 a = h.1 a ∧ h'.2.1 a = h.2.1 a) ∧ h'.2.2 = h.2.2
theorem frm_rf {S : Nat → Prop} {h : Hp} : frm S h h := ⟨fun _ _ => ⟨rfl, rfl⟩, rfl⟩
theorem frm_tr {S : Nat → Prop} {h h1 h2 : Hp} (a : frm S h h1) (b : frm S h1 h2) : frm S h h2 := ⟨fun q hq => ⟨(b.1 q hq).1.trans (a.1 q hq).1, (b.1 q hq).2.trans (a.1 q hq).2⟩, b.2.trans a.2⟩
theorem frm_mono {S S' : Nat → Prop} {h h' : Hp} (hS : ∀ a, S a → S' a) (a : frm S h h') : frm S' h h' := ⟨fun q hq => a.1 q (fun z => hq (hS q z)), a.2⟩
theorem frm_I {S : Nat → Prop} {h : Hp} {a j : Nat} {x : Int32} (ha : S a) : frm S h (setI h a j x) := ⟨fun q hq => ⟨setI_1 (fun z => hq (z ▸ ha)), rfl⟩, rfl⟩
theorem frm_L {S : Nat → Prop} {h : Hp} {a j : Nat} {x : Int64} (ha : S a) : frm S h (setL h a j x) := ⟨fun q hq => ⟨rfl, setL_1 (fun z => hq (z ▸ ha))⟩, rfl⟩
theorem setI_rd {h : Hp} {a j b k : Nat} {x : Int32} : (setI h a j x).1 b k = if b = a ∧ k = j then x else h.1 b k := by
  by_cases hb : b = a
  · subst hb
    rw [setI_s]
    unfold upd
    by_cases hk : k = j
    · rw [if_pos hk, if_pos ⟨rfl, hk⟩]
    · rw [if_neg hk, if_neg (fun z => hk z.2)]
  · rw [setI_1 hb, if_neg (fun z => hb z.1)]
theorem setI_rdL {h : Hp} {a j : Nat} {x : Int32} : (setI h a j x).2 = h.2 := rfl
theorem setL_rd {h : Hp} {a j b k : Nat} {x : Int64} : (setL h a j x).2.1 b k = if b = a ∧ k = j then x else h.2.1 b k := by
  by_cases hb : b = a
  · subst hb
    rw [setL_s]
    unfold vp_updL
    by_cases hk : k = j
    · rw [if_pos hk, if_pos ⟨rfl, hk⟩]
    · rw [if_neg hk, if_neg (fun z => hk z.2)]
  · rw [setL_1 hb, if_neg (fun z => hb z.1)]
theorem setL_rdI {h : Hp} {a j : Nat} {x : Int64} : (setL h a j x).1 = h.1 := rfl
theorem setL_rd2 {h : Hp} {a j : Nat} {x : Int64} : (setL h a j x).2.2 = h.2.2 := rfl
/-! nets by number: 0 now, 1 spare, 2 to 9 of the acts, 10 and 11 the images -/
def nid (k : Nat) : Nat := 21 + 6 * k
theorem nid_ok : ∀ k, k < 12 → shp (nid k) = some (0, 3) ∧ shp (nid k + 1) = some (1, 6) ∧ shp (nid k + 2) = some (1, 11) ∧ shp (nid k + 3) = some (1, 11) ∧ shp (nid k + 4) = some (1, 11) ∧ shp (nid k + 5) = some (1, 11) ∧ RV (nid k) 2 = nid k + 1 ∧ RV (nid k) 5 = nid k + 2 ∧ RV (nid k) 6 = nid k + 3 ∧ RV (nid k) 7 = nid k + 4 ∧ RV (nid k) 8 = nid k + 5 := by decide +kernel
