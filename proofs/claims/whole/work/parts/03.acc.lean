/-! The tables by number. -/
def mNm (i : Nat) : MethodName := mNmL.getD i ⟨"", "", ""⟩
def mBy (i : Nat) : ByteArray := mByL.getD i ⟨#[]⟩
def mMx (i : Nat) : Nat := mMxL.getD i 0
def mRt (i : Nat) : Option FieldType := mRtL.getD i none
def mSt (i : Nat) : Bool := mStL.getD i false
def mNp (i : Nat) : Nat := mNpL.getD i 0
def mCl (i : Nat) : Nat := mClL.getD i 0
def wrp (i : Nat) : Option Nat := wrL.getD i none
def kI (i : Nat) : Int32 := kIL.getD i 0
def kL (i : Nat) : Int64 := kLL.getD i 0
def fK (c k : Nat) : Nat := (fKL.getD c []).getD k 9
def shp (k : Nat) : Option (Nat × Nat) := shpL[k]?
def RT (k j : Nat) : Option Nat := (rtL.getD k []).getD j none
def lk : Nat → List (Nat × Instr × Nat × Nat) → Option (Instr × Nat × Nat)
  | _, [] => none
  | pc, e :: l => if e.1 = pc then some e.2 else lk pc l
def mCd (i pc : Nat) : Option (Instr × Nat × Nat) := lk pc (mCdL.getD i [])
