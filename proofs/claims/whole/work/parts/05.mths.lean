/-- a method that may be called: its words -/
def mthOk (i : Nat) : Bool := atP (.code (mNm i) (mBy i) (mMx i) (mRt i)) (cdP.getD i 0) && atP (if mSt i then .static (mNm i) else .instanceMethod (mNm i)) (stP.getD i 0) && (mSt i || atP (.selects (mNm i).cls (mNm i) (mNm i)) (seP.getD i 0)) && atP (.initialized (mNm i).cls) (iiP.getD i 0) && decide ((parseMethodDescriptor (mNm i).desc).map (fun d => d.parameters.length) = some (mNp i)) && decide ((mNm i).cls ≠ "java/lang/invoke/MethodHandle") && decide ((mNm i).cls ≠ "java/lang/invoke/VarHandle") && decide (mMx i ≤ 41) && plainFor (mNm i) && (mSt i || decide (clR (mCl i) = (mNm i).cls ∧ mCl i < 9))

set_option maxRecDepth 20000 in
theorem mth_0 : ((List.range 30).drop 0).all mthOk = true := by decide +kernel
set_option maxRecDepth 20000 in
theorem mth_30 : ((List.range 60).drop 30).all mthOk = true := by decide +kernel
set_option maxRecDepth 20000 in
theorem mth_60 : ((List.range 90).drop 60).all mthOk = true := by decide +kernel
set_option maxRecDepth 20000 in
theorem mth_90 : ((List.range 120).drop 90).all mthOk = true := by decide +kernel
set_option maxRecDepth 20000 in
theorem mth_120 : ((List.range 150).drop 120).all mthOk = true := by decide +kernel
set_option maxRecDepth 20000 in
theorem mth_150 : ((List.range 180).drop 150).all mthOk = true := by decide +kernel
set_option maxRecDepth 20000 in
theorem mth_180 : ((List.range 205).drop 180).all mthOk = true := by decide +kernel
def ilen : Instr → Nat
  | .bipush _ => 2
  | .sipush _ => 3
  | .ldc _ => 2
  | .ldc_w _ => 3
  | .ldc2_w _ => 3
  | .goto _ => 3
  | .ifCond _ _ => 3
  | .if_icmp _ _ => 3
  | .getfield _ => 3
  | .putfield _ => 3
  | .invokestatic _ => 3
  | .invokevirtual _ => 3
  | .iinc _ _ => 3
  | .new _ => 3
  | .invokespecial _ => 3
  | .newarray _ => 2
  | .iload _ => 2
  | .lload _ => 2
  | .aload _ => 2
  | .istore _ => 2
  | .lstore _ => 2
  | .tableswitch _ _ _ _ => 0
  | .lookupswitch _ _ => 0
  | _ => 1
def lkOk (i : Nat) (ins : Instr) (r : Nat) : Bool := match ins with
  | .getfield x => fLk.any (fun q => decide (q.1 = (mNm i).cls ∧ q.2.1 = x ∧ r = q.2.2.1 * 64 + q.2.2.2.1 ∧ q.2.2.2.1 < 64))
  | .putfield x => fLk.any (fun q => decide (q.1 = (mNm i).cls ∧ q.2.1 = x ∧ r = q.2.2.1 * 64 + q.2.2.2.1 ∧ q.2.2.2.1 < 64 ∧ ((clT q.2.2.1 q.2.2.2.1).2.2.2 = false)))
  | .ldc x => kLk.any (fun q => decide (q.1 = (mNm i).cls ∧ q.2.1 = x ∧ r = q.2.2.1))
  | .ldc_w x => kLk.any (fun q => decide (q.1 = (mNm i).cls ∧ q.2.1 = x ∧ r = q.2.2.1))
  | .ldc2_w x => jLk.any (fun q => decide (q.1 = (mNm i).cls ∧ q.2.1 = x ∧ r = q.2.2.1))
  | .invokevirtual x => cLk.any (fun q => decide (q.1 = (mNm i).cls ∧ q.2.1 = x ∧ r = q.2.2.1 ∧ (r < 205)))
  | .invokestatic x => cLk.any (fun q => decide (q.1 = (mNm i).cls ∧ q.2.1 = x ∧ r = q.2.2.1 ∧ (r < 214))) || nLk.any (fun q => decide (q.1 = (mNm i).cls ∧ q.2.1 = x ∧ r = q.2.2.1 ∧ (r < 205)))
  | _ => true
def okE (i : Nat) (e : Nat × Instr × Nat × Nat) : Bool := decide (decode (mBy i) e.1 = .ok (e.2.1, e.2.2.1)) && (decide (ilen e.2.1 = 0) || decide (e.2.2.1 = ilen e.2.1)) && lkOk i e.2.1 e.2.2.2
theorem all_dt {α : Type} {f : α → Bool} {l : List α} {j : Nat} (k : Nat) (h1 : ((l.drop j).take k).all f = true) (h2 : (l.drop (j + k)).all f = true) : (l.drop j).all f = true := by
  have h : l.drop j = (l.drop j).take k ++ l.drop (j + k) := by
    rw [← List.drop_drop]
    exact (List.take_append_drop k (l.drop j)).symm
  rw [h, List.all_append, h1, h2]
  rfl
theorem all_dl {α : Type} {f : α → Bool} {l : List α} {j k : Nat} (h1 : ((l.drop j).take k).all f = true) (hk : l.length ≤ j + k := by decide) : (l.drop j).all f = true := by
  have h : (l.drop j).take k = l.drop j := List.take_of_length_le (by rw [List.length_drop]; omega)
  rw [h] at h1
  exact h1
