/-! THE ABSTRACT MACHINE: the program's methods run over two tables of numbers (ints and longs of every object, by the object's number); references never change once all is made. -/
abbrev LV : Type := List (Option Value)
/-- ints, longs, how many exceptions were made, the script's length -/
abbrev Hp : Type := (Nat → Nat → Int32) × (Nat → Nat → Int64) × Nat × Nat
def setI (h : Hp) (a j : Nat) (x : Int32) : Hp := (fun a' => if a' = a then upd (h.1 a) j x else h.1 a', h.2)
def setL (h : Hp) (a j : Nat) (x : Int64) : Hp := (h.1, fun a' => if a' = a then vp_updL (h.2.1 a) j x else h.2.1 a', h.2.2)
def tick (h : Hp) : Hp := (h.1, h.2.1, h.2.2.1 + 1, h.2.2.2)
def kl : Option Value → Option Value
  | some (.long _) => none
  | some (.double _) => none
  | o => o
def st1 (lv : LV) (i : Nat) (v : Value) : LV := match i with
  | 0 => lv.set 0 (some v)
  | k + 1 => (lv.modify k kl).set (k + 1) (some v)
def st2 (lv : LV) (i : Nat) (v : Value) : LV := (st1 lv i v).set (i + 1) none
def ent (n : Nat) (as : List Value) : LV := (as.flatMap (fun v => if v.category = 2 then [some v, none] else [some v])) ++ List.replicate (n - (as.flatMap (fun v => if v.category = 2 then [some v, none] else [some v])).length) none
/-- a jump's goal -/
def jmp (pc : Nat) (off : Int) : Nat := ((pc : Int) + off).toNat
def jok (pc : Nat) (off : Int) : Bool := decide (0 ≤ (pc : Int) + off)
def ldv (lv : LV) (i : Nat) : Option Value := (lv[i]?).join
/-- where a switch goes -/
def swT (dflt lo hi : Int) (offs : Array Int) (x : Int32) : Int := if x.toInt < lo ∨ hi < x.toInt then dflt else (offs[(x.toInt - lo).toNat]?).getD 0
/-- one instruction that is no call and no end -/
def stp (ins : Instr) (r pc : Nat) (lv : LV) (st : List Value) (h : Hp) : Option (Nat × LV × List Value × Hp) := match ins with
  | .iconst n => some (pc + 1, lv, .int (Int32.ofInt n) :: st, h)
  | .bipush n => some (pc + 2, lv, .int (Int8.ofInt n).toInt32 :: st, h)
  | .sipush n => some (pc + 3, lv, .int (Int16.ofInt n).toInt32 :: st, h)
  | .lconst n => some (pc + 1, lv, .long (Int64.ofNat n.val) :: st, h)
  | .ldc _ => some (pc + 2, lv, .int (kI r) :: st, h)
  | .ldc_w _ => some (pc + 3, lv, .int (kI r) :: st, h)
  | .ldc2_w _ => some (pc + 3, lv, .long (kL r) :: st, h)
  | .iload i => match ldv lv i with
    | some (.int x) => some (pc + 2, lv, .int x :: st, h)
    | _ => none
  | .iload_n i => match ldv lv i.val with
    | some (.int x) => some (pc + 1, lv, .int x :: st, h)
    | _ => none
  | .lload i => match ldv lv i with
    | some (.long x) => some (pc + 2, lv, .long x :: st, h)
    | _ => none
  | .lload_n i => match ldv lv i.val with
    | some (.long x) => some (pc + 1, lv, .long x :: st, h)
    | _ => none
  | .aload i => match ldv lv i with
    | some (.ref x) => some (pc + 2, lv, .ref x :: st, h)
    | _ => none
  | .aload_n i => match ldv lv i.val with
    | some (.ref x) => some (pc + 1, lv, .ref x :: st, h)
    | _ => none
  | .istore i => match st with
    | .int x :: st => if i < lv.length then some (pc + 2, st1 lv i (.int x), st, h) else none
    | _ => none
  | .istore_n i => match st with
    | .int x :: st => if i.val < lv.length then some (pc + 1, st1 lv i.val (.int x), st, h) else none
    | _ => none
  | .lstore i => match st with
    | .long x :: st => if i + 1 < lv.length then some (pc + 2, st2 lv i (.long x), st, h) else none
    | _ => none
  | .lstore_n i => match st with
    | .long x :: st => if i.val + 1 < lv.length then some (pc + 1, st2 lv i.val (.long x), st, h) else none
    | _ => none
  | .astore_n i => match st with
    | .ref x :: st => if i.val < lv.length then some (pc + 1, st1 lv i.val (.ref x), st, h) else none
    | _ => none
  | .iinc i n => match ldv lv i with
    | some (.int x) => if i < lv.length then some (pc + 3, st1 lv i (.int (x + Int32.ofInt n)), st, h) else none
    | _ => none
  | .iadd => match st with
    | .int y :: .int x :: st => some (pc + 1, lv, .int (x + y) :: st, h)
    | _ => none
  | .isub => match st with
    | .int y :: .int x :: st => some (pc + 1, lv, .int (x - y) :: st, h)
    | _ => none
  | .imul => match st with
    | .int y :: .int x :: st => some (pc + 1, lv, .int (x * y) :: st, h)
    | _ => none
  | .irem => match st with
    | .int y :: .int x :: st => if y = 0 then none else some (pc + 1, lv, .int (x - x / y * y) :: st, h)
    | _ => none
  | .iand => match st with
    | .int y :: .int x :: st => some (pc + 1, lv, .int (x &&& y) :: st, h)
    | _ => none
  | .ior => match st with
    | .int y :: .int x :: st => some (pc + 1, lv, .int (x ||| y) :: st, h)
    | _ => none
  | .ixor => match st with
    | .int y :: .int x :: st => some (pc + 1, lv, .int (x ^^^ y) :: st, h)
    | _ => none
  | .ishl => match st with
    | .int y :: .int x :: st => some (pc + 1, lv, .int (x <<< (y &&& 31)) :: st, h)
    | _ => none
  | .ishr => match st with
    | .int y :: .int x :: st => some (pc + 1, lv, .int (x >>> (y &&& 31)) :: st, h)
    | _ => none
  | .iushr => match st with
    | .int y :: .int x :: st => some (pc + 1, lv, .int (x.toUInt32 >>> (y.toUInt32 &&& Int32.toUInt32 31)).toInt32 :: st, h)
    | _ => none
  | .ineg => match st with
    | .int x :: st => some (pc + 1, lv, .int (-x) :: st, h)
    | _ => none
  | .ladd => match st with
    | .long y :: .long x :: st => some (pc + 1, lv, .long (x + y) :: st, h)
    | _ => none
  | .lsub => match st with
    | .long y :: .long x :: st => some (pc + 1, lv, .long (x - y) :: st, h)
    | _ => none
  | .lmul => match st with
    | .long y :: .long x :: st => some (pc + 1, lv, .long (x * y) :: st, h)
    | _ => none
  | .lxor => match st with
    | .long y :: .long x :: st => some (pc + 1, lv, .long (x ^^^ y) :: st, h)
    | _ => none
  | .ldiv => match st with
    | .long y :: .long x :: st => if y = 0 then none else some (pc + 1, lv, .long (x / y) :: st, h)
    | _ => none
  | .lrem => match st with
    | .long y :: .long x :: st => if y = 0 then none else some (pc + 1, lv, .long (x - x / y * y) :: st, h)
    | _ => none
  | .lneg => match st with
    | .long x :: st => some (pc + 1, lv, .long (-x) :: st, h)
    | _ => none
  | .lcmp => match st with
    | .long y :: .long x :: st => some (pc + 1, lv, .int (lg_cmp x y) :: st, h)
    | _ => none
  | .i2l => match st with
    | .int x :: st => some (pc + 1, lv, .long x.toInt64 :: st, h)
    | _ => none
  | .l2i => match st with
    | .long x :: st => some (pc + 1, lv, .int x.toInt32 :: st, h)
    | _ => none
  | .i2b => match st with
    | .int x :: st => some (pc + 1, lv, .int x.toInt8.toInt32 :: st, h)
    | _ => none
  | .dup => match st with
    | .int x :: st => some (pc + 1, lv, .int x :: .int x :: st, h)
    | .ref x :: st => some (pc + 1, lv, .ref x :: .ref x :: st, h)
    | _ => none
  | .dup2 => match st with
    | .int x :: .ref y :: st => some (pc + 1, lv, .int x :: .ref y :: .int x :: .ref y :: st, h)
    | _ => none
  | .pop => match st with
    | .int _ :: st => some (pc + 1, lv, st, h)
    | _ => none
  | .ifCond c off => match st with
    | .int x :: st => if jok pc off then some (match c with
      | .eq => if x = 0 then jmp pc off else pc + 3
      | .ne => if x = 0 then pc + 3 else jmp pc off
      | .lt => if x < 0 then jmp pc off else pc + 3
      | .ge => if 0 ≤ x then jmp pc off else pc + 3
      | .gt => if 0 < x then jmp pc off else pc + 3
      | .le => if x ≤ 0 then jmp pc off else pc + 3, lv, st, h) else none
    | _ => none
  | .if_icmp c off => match st with
    | .int y :: .int x :: st => if jok pc off then some (match c with
      | .eq => if x = y then jmp pc off else pc + 3
      | .ne => if x = y then pc + 3 else jmp pc off
      | .lt => if x < y then jmp pc off else pc + 3
      | .ge => if y ≤ x then jmp pc off else pc + 3
      | .gt => if y < x then jmp pc off else pc + 3
      | .le => if x ≤ y then jmp pc off else pc + 3, lv, st, h) else none
    | _ => none
  | .goto off => if jok pc off then some (jmp pc off, lv, st, h) else none
  | .tableswitch dflt lo hi offs => match st with
    | .int x :: st => if (x.toInt < lo ∨ hi < x.toInt ∨ (x.toInt - lo).toNat < offs.size) ∧ jok pc (swT dflt lo hi offs x) then some (jmp pc (swT dflt lo hi offs x), lv, st, h) else none
    | _ => none
  | .lookupswitch dflt ps => match st with
    | .int x :: st => if (ps.toList.zip (ps.toList.drop 1)).all (fun (a, next) => a.1 < next.1) = true ∧ jok pc (Op.lookupswitch.offset ps.toList dflt x.toInt) then some (jmp pc (Op.lookupswitch.offset ps.toList dflt x.toInt), lv, st, h) else none
    | _ => none
  | .getfield _ => match st with
    | .ref a :: st => if shp a = some (0, r / 64) then (match fK (r / 64) (r % 64) with
      | 0 => some (pc + 3, lv, .int (h.1 a (r % 64)) :: st, h)
      | 3 => some (pc + 3, lv, .int (h.1 a (r % 64)) :: st, h)
      | 1 => some (pc + 3, lv, .long (h.2.1 a (r % 64)) :: st, h)
      | 2 => (match RT a (r % 64) with
        | some k => some (pc + 3, lv, .ref k :: st, h)
        | none => none)
      | _ => none) else none
    | _ => none
  | .putfield _ => match st with
    | .int x :: .ref a :: st => if shp a = some (0, r / 64) ∧ (fK (r / 64) (r % 64) = 0 ∨ (fK (r / 64) (r % 64) = 3 ∧ (x = 0 ∨ x = 1))) then some (pc + 3, lv, st, setI h a (r % 64) x) else none
    | .long x :: .ref a :: st => if shp a = some (0, r / 64) ∧ fK (r / 64) (r % 64) = 1 then some (pc + 3, lv, st, setL h a (r % 64) x) else none
    | _ => none
  | .iaload => match st with
    | .int i :: .ref a :: st => if a = 1000 then (if 0 ≤ i.toInt ∧ i.toInt < h.2.2.2 then some (pc + 1, lv, .int (h.1 1000 i.toNatClampNeg) :: st, h) else none) else (match shp a with
      | some (1, n) => if 0 ≤ i.toInt ∧ i.toInt < n then some (pc + 1, lv, .int (h.1 a i.toNatClampNeg) :: st, h) else none
      | _ => none)
    | _ => none
  | .baload => match st with
    | .int i :: .ref a :: st => match shp a with
      | some (2, n) => if 0 ≤ i.toInt ∧ i.toInt < n then some (pc + 1, lv, .int (h.1 a i.toNatClampNeg) :: st, h) else none
      | some (3, n) => if 0 ≤ i.toInt ∧ i.toInt < n then some (pc + 1, lv, .int (h.1 a i.toNatClampNeg) :: st, h) else none
      | _ => none
    | _ => none
  | .laload => match st with
    | .int i :: .ref a :: st => match shp a with
      | some (4, n) => if 0 ≤ i.toInt ∧ i.toInt < n then some (pc + 1, lv, .long (h.2.1 a i.toNatClampNeg) :: st, h) else none
      | _ => none
    | _ => none
  | .aaload => match st with
    | .int i :: .ref a :: st => match shp a with
      | some (5, n) => if 0 ≤ i.toInt ∧ i.toInt < n then (match RT a i.toNatClampNeg with
        | some k => some (pc + 1, lv, .ref k :: st, h)
        | none => none) else none
      | some (6, n) => if 0 ≤ i.toInt ∧ i.toInt < n then (match RT a i.toNatClampNeg with
        | some k => some (pc + 1, lv, .ref k :: st, h)
        | none => none) else none
      | _ => none
    | _ => none
  | .iastore => match st with
    | .int x :: .int i :: .ref a :: st => match shp a with
      | some (1, n) => if 0 ≤ i.toInt ∧ i.toInt < n then some (pc + 1, lv, st, setI h a i.toNatClampNeg x) else none
      | _ => none
    | _ => none
  | .bastore => match st with
    | .int x :: .int i :: .ref a :: st => match shp a with
      | some (2, n) => if 0 ≤ i.toInt ∧ i.toInt < n then some (pc + 1, lv, st, setI h a i.toNatClampNeg (vp_nar .byte x)) else none
      | some (3, n) => if 0 ≤ i.toInt ∧ i.toInt < n then some (pc + 1, lv, st, setI h a i.toNatClampNeg (vp_nar .boolean x)) else none
      | _ => none
    | _ => none
  | .lastore => match st with
    | .long x :: .int i :: .ref a :: st => match shp a with
      | some (4, n) => if 0 ≤ i.toInt ∧ i.toInt < n then some (pc + 1, lv, st, setL h a i.toNatClampNeg x) else none
      | _ => none
    | _ => none
  | .arraylength => match st with
    | .ref a :: st => if a = 1000 then some (pc + 1, lv, .int (Int32.ofNat h.2.2.2) :: st, h) else none
    | _ => none
  | _ => none
/-- 0: a plain instruction, 1: a call, 2: an end -/
def isC : Instr → Nat
  | .invokestatic _ => 1
  | .invokevirtual _ => 1
  | .ireturn => 2
  | .lreturn => 2
  | .return_ => 2
  | .new _ => 2
  | _ => 0
/-- what a method's end says: an answer, or that it throws -/
def fin (i pc : Nat) (st : List Value) : Option (Option (Option Value)) := match mCd i pc with
  | some (.ireturn, _, _) => match st with
    | [.int v] => match mRt i with
      | some .int => some (some (some (.int v)))
      | some .boolean => if v = 0 ∨ v = 1 then some (some (some (.int v))) else none
      | _ => none
    | _ => none
  | some (.lreturn, _, _) => match st with
    | [.long v] => match mRt i with
      | some .long => some (some (some (.long v)))
      | _ => none
    | _ => none
  | some (.return_, _, _) => match st with
    | [] => match mRt i with
      | none => some (some none)
      | _ => none
    | _ => none
  | some (.new _, _, _) => match st with
    | [] => some none
    | _ => none
  | _ => none
def nAr (r : Nat) : Nat := if mSt r then mNp r else mNp r + 1
def isSt : Instr → Bool
  | .invokestatic _ => true
  | _ => false
/-- a call's arguments, and what stays -/
def cargs (ins : Instr) (r : Nat) (st : List Value) : Option (List Value × List Value) :=
  if isSt ins = mSt r ∧ nAr r ≤ st.length ∧ ((st.drop (nAr r)).map (fun v => v.category)).sum ≤ 8 ∧ ((st.take (nAr r)).map (fun v => v.category)).sum ≤ mMx r then some ((st.take (nAr r)).reverse, st.drop (nAr r)) else none
/-- the receiver is of the callee's class -/
def rcv (r : Nat) (as : List Value) : Bool := match as with
  | .ref b :: _ => mSt r || decide (shp b = some (0, mCl r))
  | _ => mSt r
def toL : Value → Int64
  | .int v => v.toInt64
  | .long v => v
  | _ => 0
/-- a wrapper's last argument: the array that takes the answer -/
def isIv : Value → Bool
  | .int _ => true
  | _ => false
def wOut (as : List Value) : Option Nat := match as.getLast? with
  | some (.ref o) => if (decide (shp o = some (4, 1)) && as.dropLast.tail.all isIv) = true then some o else none
  | _ => none
def exec : Nat → Nat → Nat → Nat → LV → List Value → Hp → Option (Nat × List Value × Hp)
  | 0, _, _, _, _, _, _ => none
  | f + 1, d, mi, pc, lv, st, h => match mCd mi pc with
    | none => none
    | some (ins, _, r) => match isC ins with
      | 0 => match stp ins r pc lv st h with
        | none => none
        | some (pc', lv', st', h') => exec f d mi pc' lv' st' h'
      | 1 => match d with
        | 0 => none
        | d' + 1 => match cargs ins r st with
          | none => none
          | some (as, rest) => match wrp r with
            | none => if rcv r as then (match exec f d' r 0 (ent (mMx r) as) [] h with
              | none => none
              | some (pc', st', h') => match fin r pc' st' with
                | some (some v) => exec f (d' + 1) mi (pc + 3) lv (v.toList ++ rest) h'
                | _ => none) else none
            | some tg => match d' with
              | 0 => none
              | d'' + 1 => match wOut as with
                | none => none
                | some o => if rcv tg as.dropLast = true ∧ 6 ≤ d'' then (match exec f d'' tg 0 (ent (mMx tg) as.dropLast) [] h with
                  | none => none
                  | some (pc', st', h') => match fin tg pc' st' with
                    | some (some (some v)) => exec f (d'' + 1 + 1) mi (pc + 3) lv (.int 0 :: rest) (setL h' o 0 (toL v))
                    | some none => exec f (d'' + 1 + 1) mi (pc + 3) lv (.int 1 :: rest) (tick h')
                    | _ => none) else none
      | _ => some (pc, st, h)
theorem exec_succ : ∀ (f d mi pc : Nat) (lv : LV) (st : List Value) (h : Hp) (x : Nat × List Value × Hp), exec f d mi pc lv st h = some x → exec (f + 1) d mi pc lv st h = some x := by
  intro f
  induction f with
  | zero => intro d mi pc lv st h x hx; simp [exec] at hx
  | succ f ih =>
    intro d mi pc lv st h x hx
    unfold exec at hx ⊢
    split at hx
    · cases hx
    · rename_i ins len r hc
      split at hx
      · split at hx
        · cases hx
        · exact ih _ _ _ _ _ _ _ hx
      · split at hx
        · cases hx
        · split at hx
          · cases hx
          · split at hx
            · rename_i hw
              split at hx
              · rename_i hr
                rw [if_pos hr]
                split at hx
                · cases hx
                · rename_i he
                  rw [ih _ _ _ _ _ _ _ he]
                  dsimp only
                  split at hx
                  · rename_i hfin
                    exact ih _ _ _ _ _ _ _ hx
                  · cases hx
              · cases hx
            · rename_i hw
              split at hx
              · cases hx
              · split at hx
                · cases hx
                · split at hx
                  · rename_i hr
                    rw [if_pos hr]
                    split at hx
                    · cases hx
                    · rename_i he
                      rw [ih _ _ _ _ _ _ _ he]
                      dsimp only
                      split at hx
                      · exact ih _ _ _ _ _ _ _ hx
                      · exact ih _ _ _ _ _ _ _ hx
                      · cases hx
                  · cases hx
      · exact hx
theorem exec_mono {f g d mi pc : Nat} {lv : LV} {st : List Value} {h : Hp} {x : Nat × List Value × Hp} (hfg : f ≤ g) (hx : exec f d mi pc lv st h = some x) : exec g d mi pc lv st h = some x := by
  obtain ⟨k, rfl⟩ := Nat.exists_eq_add_of_le hfg
  induction k with
  | zero => exact hx
  | succ k ih => exact exec_succ _ _ _ _ _ _ _ _ (ih (Nat.le_add_right _ _))
/-- from here the method comes to an end, and of that Q holds -/
def WP (d mi pc : Nat) (lv : LV) (st : List Value) (h : Hp) (Q : Option (Option Value) → Hp → Prop) : Prop :=
  ∃ (f pc' : Nat) (st' : List Value) (h' : Hp) (o : Option (Option Value)), exec f d mi pc lv st h = some (pc', st', h') ∧ fin mi pc' st' = some o ∧ Q o h'
theorem WP.mono {d mi pc : Nat} {lv : LV} {st : List Value} {h : Hp} {Q Q' : Option (Option Value) → Hp → Prop} (hw : WP d mi pc lv st h Q) (hq : ∀ o h', Q o h' → Q' o h') : WP d mi pc lv st h Q' := by
  obtain ⟨f, pc', st', h', o, a, b, c⟩ := hw
  exact ⟨f, pc', st', h', o, a, b, hq _ _ c⟩
def stpAt (mi pc : Nat) (lv : LV) (st : List Value) (h : Hp) : Option (Nat × LV × List Value × Hp) := match mCd mi pc with
  | some (ins, _, r) => if isC ins = 0 then stp ins r pc lv st h else none
  | none => none
/-- a plain instruction -/
theorem WP_st {d mi pc pc' : Nat} {lv lv' : LV} {st st' : List Value} {h h' : Hp} {Q : Option (Option Value) → Hp → Prop} (hs : stpAt mi pc lv st h = some (pc', lv', st', h')) : WP d mi pc lv st h Q ↔ WP d mi pc' lv' st' h' Q := by
  unfold stpAt at hs
  split at hs
  · rename_i ins len r hc
    split at hs
    · rename_i hi
      constructor
      · rintro ⟨f, pE, sE, hE, o, a, b, q⟩
        cases f with
        | zero => simp [exec] at a
        | succ f =>
          unfold exec at a
          rw [hc] at a
          simp only [hi, hs] at a
          exact ⟨f, pE, sE, hE, o, a, b, q⟩
      · rintro ⟨f, pE, sE, hE, o, a, b, q⟩
        refine ⟨f + 1, pE, sE, hE, o, ?_, b, q⟩
        unfold exec
        rw [hc]
        simp only [hi, hs]
        exact a
    · cases hs
  · cases hs
/-- an end -/
theorem WP_end {d mi pc : Nat} {lv : LV} {st : List Value} {h : Hp} {Q : Option (Option Value) → Hp → Prop} {o : Option (Option Value)} {ins : Instr} {n r : Nat} (hc : mCd mi pc = some (ins, n, r)) (hi : isC ins = 2) (hf : fin mi pc st = some o) : WP d mi pc lv st h Q ↔ Q o h := by
  constructor
  · rintro ⟨f, pE, sE, hE, o', a, b, q⟩
    cases f with
    | zero => simp [exec] at a
    | succ f =>
      unfold exec at a
      rw [hc] at a
      simp only [hi] at a
      cases a
      rw [hf] at b
      cases b
      exact q
  · intro q
    refine ⟨1, pc, st, h, o, ?_, hf, q⟩
    unfold exec
    rw [hc]
    simp only [hi]
/-- a call -/
theorem WP_call {d mi pc : Nat} {lv : LV} {st as rest : List Value} {h : Hp} {Q : Option (Option Value) → Hp → Prop} {ins : Instr} {n r : Nat} (hc : mCd mi pc = some (ins, n, r)) (hi : isC ins = 1) (hw : wrp r = none) (ha : cargs ins r st = some (as, rest)) (hr : rcv r as = true) : WP (d + 1) mi pc lv st h Q ↔ WP d r 0 (ent (mMx r) as) [] h (fun o h' => match o with
    | some v => WP (d + 1) mi (pc + 3) lv (v.toList ++ rest) h' Q
    | none => False) := by
  constructor
  · rintro ⟨f, pE, sE, hE, o', a, b, q⟩
    cases f with
    | zero => simp [exec] at a
    | succ f =>
      unfold exec at a
      rw [hc] at a
      simp only [hi, ha, hw, hr, if_true] at a
      split at a
      · cases a
      · rename_i he
        split at a
        · rename_i hfin
          exact ⟨f, _, _, _, _, he, hfin, f, pE, sE, hE, o', a, b, q⟩
        · cases a
  · rintro ⟨f, pE, sE, hE, o', a, b, q⟩
    match o', b, q with
    | some v, b, ⟨g, pE', sE', hE', o'', a', b', q'⟩ =>
      refine ⟨max f g + 1, pE', sE', hE', o'', ?_, b', q'⟩
      unfold exec
      rw [hc]
      simp only [hi, ha, hw, hr, if_true]
      rw [exec_mono (Nat.le_max_left f g) a]
      simp only [b]
      exact exec_mono (Nat.le_max_right f g) a'
