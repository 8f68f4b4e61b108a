/-! A machine of the constructors: its heap is the list of the cells made so far, a reference is a place in it. -/
abbrev CE : Type := Nat × Nat × List Value
abbrev CW : Type := List CE
def ceS (e : CE) : Nat := if e.1 = 0 then e.2.2.length else e.2.1
def slS (w : CW) : Nat := (w.map ceS).sum
def am (a0 : Nat → Nat) (L : List Nat) (i : Nat) : Nat := if i < 1000 then L.getD i 0 else a0 i
def rfA (a : Nat → Nat) (v : Value) : Option Nat := match v with
  | .ref i => some (a i)
  | _ => none
def ceE (cs : Nat → ClassId) (a : Nat → Nat) (e : CE) : va_E := match e.1 with
  | 0 => .inr (e.2.1, e.2.2.map (tr a))
  | 1 => .inl (cs 1, e.2.1, .inl (fun _ => 0))
  | 2 => .inl (cs 0, e.2.1, .inl (fun _ => 0))
  | 3 => .inl (cs 3, e.2.1, .inl (fun _ => 0))
  | 4 => .inl (cs 2, e.2.1, .inr (.inl (fun _ => 0)))
  | 5 => .inl (cs 4, e.2.1, .inr (.inr (.inr (.inr (fun j => rfA a (e.2.2.getD j .null))))))
  | _ => .inl (cs 5, e.2.1, .inr (.inr (.inr (.inr (fun j => rfA a (e.2.2.getD j .null))))))
def cwE (cs : Nat → ClassId) (a : Nat → Nat) (L : List Nat) (w : CW) : va_W := List.zipWith (fun q e => (q, ceE cs a e)) L w
def okV (n : Nat) (v : Value) : Bool := match v with
  | .ref i => decide (i < n) || decide (1000 ≤ i)
  | _ => true
def okO (n : Nat) (o : Option Value) : Bool := match o with
  | some v => okV n v
  | none => true
def okS (w : CW) (lv : LV) (st : List Value) : Bool := w.all (fun e => e.2.2.all (okV w.length)) && lv.all (okO w.length) && st.all (okV w.length) && decide (w.length < 900)
theorem am_e2 {a0 : Nat → Nat} {L L2 : List Nat} {i : Nat} (h : i < L.length ∨ 1000 ≤ i) : am a0 (L ++ L2) i = am a0 L i := by
  unfold am
  by_cases hi : i < 1000
  · rw [if_pos hi, if_pos hi]
    have : i < L.length := by omega
    rw [List.getD_eq_getElem?_getD, List.getD_eq_getElem?_getD, List.getElem?_append_left this]
  · rw [if_neg hi, if_neg hi]
theorem am_ext {a0 : Nat → Nat} {L L2 : List Nat} {v : Value} (h : okV L.length v = true) : tr (am a0 (L ++ L2)) v = tr (am a0 L) v := by
  cases v with
  | ref i =>
    have h1 : i < L.length ∨ 1000 ≤ i := by
      simpa [okV] using h
    show Value.ref (am a0 (L ++ L2) i) = .ref (am a0 L i)
    rw [am_e2 h1]
  | _ => rfl
theorem st_ext {a0 : Nat → Nat} {L L2 : List Nat} {st : List Value} (h : st.all (okV L.length) = true) : st.map (tr (am a0 (L ++ L2))) = st.map (tr (am a0 L)) := List.map_congr_left (fun v hv => am_ext (List.all_eq_true.mp h v hv))
theorem LH_ext {a0 : Nat → Nat} {L L2 : List Nat} {ls : Array Slot} {n : Nat} {lv : LV} (h : lv.all (okO L.length) = true) (hl : LH (am a0 L) ls n lv) : LH (am a0 (L ++ L2)) ls n lv := by
  refine ⟨hl.1, hl.2.1, hl.2.2.1, fun i v hv => ?_⟩
  have := List.all_eq_true.mp h (some v) (List.mem_of_getElem? hv)
  rw [am_ext this]
  exact hl.2.2.2 i v hv
theorem rfA_tr {a a' : Nat → Nat} {v : Value} (h : tr a v = tr a' v) : rfA a v = rfA a' v := by
  cases v with
  | ref i =>
    have h1 : a i = a' i := by injection h
    show some (a i) = some (a' i)
    rw [h1]
  | _ => rfl
theorem ceE_ext {cs : Nat → ClassId} {a0 : Nat → Nat} {L L2 : List Nat} {e : CE} (h : e.2.2.all (okV L.length) = true) : ceE cs (am a0 (L ++ L2)) e = ceE cs (am a0 L) e := by
  have hg : ∀ j, rfA (am a0 (L ++ L2)) (e.2.2.getD j .null) = rfA (am a0 L) (e.2.2.getD j .null) := by
    intro j
    apply rfA_tr
    apply am_ext
    rw [List.getD_eq_getElem?_getD]
    cases hq : e.2.2[j]? with
    | none => rfl
    | some v => exact List.all_eq_true.mp h v (List.mem_of_getElem? hq)
  unfold ceE
  split
  · rw [st_ext h]
  · rfl
  · rfl
  · rfl
  · rfl
  · simp only [hg]
  · simp only [hg]
theorem cwE_app {cs : Nat → ClassId} {a0 : Nat → Nat} {L L2 : List Nat} {w w2 : CW} (hl : L.length = w.length) (h : w.all (fun e => e.2.2.all (okV w.length)) = true) : cwE cs (am a0 (L ++ L2)) (L ++ L2) (w ++ w2) = cwE cs (am a0 L) L w ++ cwE cs (am a0 (L ++ L2)) L2 w2 := by
  unfold cwE
  rw [List.zipWith_append hl]
  congr 1
  rw [← hl] at h
  apply List.ext_getElem?
  intro i
  rw [List.getElem?_zipWith, List.getElem?_zipWith]
  cases h1 : L[i]? with
  | none => rfl
  | some q =>
    cases h2 : w[i]? with
    | none => rfl
    | some e =>
      show some (q, _) = some (q, _)
      rw [ceE_ext (List.all_eq_true.mp h e (List.mem_of_getElem? h2))]
theorem cwE_get {cs : Nat → ClassId} {a : Nat → Nat} {L : List Nat} {w : CW} {o : Nat} {e : CE} (hl : L.length = w.length) (h : w[o]? = some e) : (cwE cs a L w)[o]? = some (L.getD o 0, ceE cs a e) := by
  unfold cwE
  have ho : o < L.length := by rw [hl]; exact (List.getElem?_eq_some_iff.mp h).1
  rw [List.getElem?_zipWith, h, List.getElem?_eq_getElem ho]
  show some (L[o], _) = _
  rw [List.getD_eq_getElem?_getD, List.getElem?_eq_getElem ho]
  rfl
theorem cwE_set {cs : Nat → ClassId} {a : Nat → Nat} {L : List Nat} {w : CW} {o : Nat} {e e' : CE} (hl : L.length = w.length) (h : w[o]? = some e) : cwE cs a L (w.set o e') = (cwE cs a L w).set o (L.getD o 0, ceE cs a e') := by
  have ho : o < w.length := (List.getElem?_eq_some_iff.mp h).1
  have ho2 : o < L.length := by omega
  apply List.ext_getElem?
  intro i
  rw [List.getElem?_set]
  unfold cwE
  rw [List.getElem?_zipWith, List.getElem?_zipWith, List.getElem?_set, List.length_zipWith]
  by_cases hi : o = i
  · subst hi
    rw [if_pos rfl, if_pos rfl, if_pos ho, if_pos (by omega), List.getElem?_eq_getElem ho2]
    show some (L[o], _) = _
    rw [List.getD_eq_getElem?_getD, List.getElem?_eq_getElem ho2]
    rfl
  · rw [if_neg hi, if_neg hi]
def dfl (c : Nat) : List Value := (List.range (clN c)).map (fun k => defaultValue (clY c k))
def fitC (ty : FieldType) (v : Value) : Bool := match ty with
  | .int => (match v with
    | .int _ => true
    | _ => false)
  | .long => (match v with
    | .long _ => true
    | _ => false)
  | .boolean => (match v with
    | .int x => decide (x = 0 ∨ x = 1)
    | _ => false)
  | .object _ => (match v with
    | .ref _ => true
    | _ => false)
  | .array _ => (match v with
    | .ref _ => true
    | _ => false)
  | _ => false
theorem fitC_ok {ty : FieldType} {v : Value} {a : Nat → Nat} (h : fitC ty v = true) : narrow ty (tr a v) = tr a v ∧ fits ty (tr a v) = true := by
  unfold fitC at h
  split at h
  · split at h
    · exact ⟨rfl, rfl⟩
    · cases h
  · split at h
    · exact ⟨rfl, rfl⟩
    · cases h
  · split at h
    · rw [decide_eq_true_eq] at h
      rcases h with rfl | rfl
      · exact ⟨rfl, rfl⟩
      · exact ⟨rfl, rfl⟩
    · cases h
  · split at h
    · exact ⟨rfl, rfl⟩
    · cases h
  · split at h
    · exact ⟨rfl, rfl⟩
    · cases h
  · cases h
def knd : ArrayType → Nat
  | .int => 1
  | .byte => 2
  | .boolean => 3
  | .long => 4
  | _ => 9
def pwS : List Int64 := [iL PW, iL LW, iL UW, iL DW]
def cst (c : Nat) (ins : Instr) (a pc : Nat) (lv : LV) (st : List Value) (w : CW) : Option (Nat × LV × List Value × CW) := match ins with
  | .iconst n => some (pc + 1, lv, .int (Int32.ofInt n) :: st, w)
  | .bipush n => some (pc + 2, lv, .int (Int8.ofInt n).toInt32 :: st, w)
  | .sipush n => some (pc + 3, lv, .int (Int16.ofInt n).toInt32 :: st, w)
  | .lconst n => some (pc + 1, lv, .long (Int64.ofNat n.val) :: st, w)
  | .aload_n i => match ldv lv i.val with
    | some (.ref x) => some (pc + 1, lv, .ref x :: st, w)
    | _ => none
  | .iload_n i => match ldv lv i.val with
    | some (.int x) => some (pc + 1, lv, .int x :: st, w)
    | _ => none
  | .istore_n i => match st with
    | .int x :: st => if i.val < lv.length then some (pc + 1, st1 lv i.val (.int x), st, w) else none
    | _ => none
  | .astore_n i => match st with
    | .ref x :: st => if i.val < lv.length then some (pc + 1, st1 lv i.val (.ref x), st, w) else none
    | _ => none
  | .iinc i n => match ldv lv i with
    | some (.int x) => if i < lv.length then some (pc + 3, st1 lv i (.int (x + Int32.ofInt n)), st, w) else none
    | _ => none
  | .dup => match st with
    | .ref x :: st => some (pc + 1, lv, .ref x :: .ref x :: st, w)
    | _ => none
  | .if_icmp q off => match st with
    | .int y :: .int x :: st => if jok pc off = true ∧ q = .ge then some (if y ≤ x then jmp pc off else pc + 3, lv, st, w) else none
    | _ => none
  | .goto off => if jok pc off then some (jmp pc off, lv, st, w) else none
  | .ldc _ => some (pc + 2, lv, .ref (2000 + a) :: st, w)
  | .putfield _ => match st with
    | v :: .ref o :: st => match w[o]? with
      | some (0, c', fs) => if c' = c ∧ o < 1000 ∧ a < fs.length ∧ fitC (clY c a) v = true then some (pc + 3, lv, st, w.set o (0, c, fs.set a v)) else none
      | _ => none
    | _ => none
  | .getfield _ => match st with
    | .ref o :: st => match w[o]? with
      | some (0, c', fs) => match fs[a % 64]? with
        | some v => if c' = a / 64 ∧ o < 1000 then some (pc + 3, lv, v :: st, w) else none
        | none => none
      | _ => none
    | _ => none
  | .new _ => if okS w lv st = true then some (pc + 3, lv, .ref w.length :: st, w ++ [(0, a, dfl a)]) else none
  | .newarray t => match st with
    | .int n :: st => if okS w lv st = true ∧ ¬ n < 0 ∧ n.toNatClampNeg ≤ 1000 ∧ knd t < 9 then some (pc + 2, lv, .ref w.length :: st, w ++ [(knd t, n.toNatClampNeg, [])]) else none
    | _ => none
  | .anewarray _ => match st with
    | .int n :: st => if okS w lv st = true ∧ ¬ n < 0 ∧ n.toNatClampNeg ≤ 1000 then some (pc + 3, lv, .ref w.length :: st, w ++ [(5, n.toNatClampNeg, List.replicate n.toNatClampNeg .null)]) else none
    | _ => none
  | .multianewarray _ _ => match st with
    | .int k :: .int n :: st => if okS w lv st = true ∧ ¬ n < 0 ∧ ¬ k < 0 ∧ n.toNatClampNeg ≤ 50 ∧ k.toNatClampNeg ≤ 1000 then some (pc + 4, lv, .ref w.length :: st, w ++ (6, n.toNatClampNeg, (List.range n.toNatClampNeg).map (fun i => .ref (w.length + 1 + i))) :: List.replicate n.toNatClampNeg (4, k.toNatClampNeg, [])) else none
    | _ => none
  | .aastore => match st with
    | .ref v :: .int i :: .ref r :: st => match w[r]? with
      | some (5, n, rs) => match w[v]? with
        | some (0, 3, _) => if rs.length = n ∧ r < 1000 ∧ v < 1000 ∧ ¬ (i < 0 ∨ n ≤ i.toNatClampNeg) then some (pc + 1, lv, st, w.set r (5, n, rs.set i.toNatClampNeg (.ref v))) else none
        | _ => none
      | _ => none
    | _ => none
  | _ => none
def isK (ins : Instr) : Nat := match ins with
  | .return_ => 2
  | .nop => 2
  | .invokespecial _ => 1
  | .invokestatic _ => 3
  | _ => 0
/-- a constructor's arguments -/
def kargs (st : List Value) : Option (List Value × List Value) := match st with
  | .ref o :: st => some ([.ref o], st)
  | _ => none
def cex : Nat → Nat → Nat → Nat → LV → List Value → CW → Option (Nat × LV × List Value × CW)
  | 0, _, _, _, _, _, _ => none
  | f + 1, d, c, pc, lv, st, w => match iCd c pc with
    | none => none
    | some (ins, _, a) => match isK ins with
      | 0 => match cst c ins a pc lv st w with
        | none => none
        | some (pc', lv', st', w') => cex f d c pc' lv' st' w'
      | 1 => match d with
        | 0 => none
        | d' + 1 => if a = 99 then (match st with
            | .ref _ :: rest => if (rest.map (fun v => v.category)).sum ≤ 8 then cex f (d' + 1) c (pc + 3) lv rest w else none
            | _ => none)
          else match kargs st with
            | none => none
            | some (as, rest) => if okS w lv st = true ∧ (rest.map (fun v => v.category)).sum ≤ 8 ∧ as.length ≤ iMx (a % 100) then (match cex f d' (a % 100) 0 (ent (iMx (a % 100)) as) [] w with
              | some (pc', _, [], w') => if iCd (a % 100) pc' = some (.return_, 1, 0) then cex f (d' + 1) c (pc + 3) lv rest w' else none
              | _ => none) else none
      | 3 => match st with
        | .ref o :: rest => if 2000 ≤ o ∧ o < 2004 ∧ 10 ≤ d ∧ (rest.map (fun v => v.category)).sum ≤ 8 then cex f d c (pc + 3) lv (.long (pwS.getD (o - 2000) 0) :: rest) w else none
        | _ => none
      | _ => some (pc, lv, st, w)
set_option maxRecDepth 100000 in
theorem cex_len : (cex 3000 20 9 0 (ent 8 [.ref 1000]) [] []).map (fun x => (x.1, x.2.2.1, x.2.2.2.length)) = some (20, [], 109) := by decide +kernel
