/-! The cells that the constructors make (laid by genfin.py). -/
def wF0 : CW := [(0, 7, [.ref 1, .ref 2, .ref 5, .ref 11, .ref 17, .ref 67, .int 0, .int 0, .int (-1), .ref 68, .ref 72, .int 1]), (0, 4, [.ref 2, .ref 4, .long (iL PW), .long (iL LW), .long (iL UW), .long (iL DW), .int 0, .int 0, .int 0, .long 0, .int 0, .int 0, .int 0, .int 0]), (0, 5, [.ref 3, .int 0]), (2, 540, []), (4, 6, []), (0, 3, [.int 0, .int 0, .ref 6, .int 0, .int 0, .ref 7, .ref 8, .ref 9, .ref 10]), (1, 6, []), (1, 11, []), (1, 11, []), (1, 11, [])]
def wF1 : CW := [(1, 11, []), (0, 3, [.int 0, .int 0, .ref 12, .int 0, .int 0, .ref 13, .ref 14, .ref 15, .ref 16]), (1, 6, []), (1, 11, []), (1, 11, []), (1, 11, []), (1, 11, []), (0, 0, [.ref 18, .int 0, .int 0]), (5, 8, [.ref 19, .ref 25, .ref 31, .ref 37, .ref 43, .ref 49, .ref 55, .ref 61]), (0, 3, [.int 0, .int 0, .ref 20, .int 0, .int 0, .ref 21, .ref 22, .ref 23, .ref 24])]
def wF2 : CW := [(1, 6, []), (1, 11, []), (1, 11, []), (1, 11, []), (1, 11, []), (0, 3, [.int 0, .int 0, .ref 26, .int 0, .int 0, .ref 27, .ref 28, .ref 29, .ref 30]), (1, 6, []), (1, 11, []), (1, 11, []), (1, 11, [])]
def wF3 : CW := [(1, 11, []), (0, 3, [.int 0, .int 0, .ref 32, .int 0, .int 0, .ref 33, .ref 34, .ref 35, .ref 36]), (1, 6, []), (1, 11, []), (1, 11, []), (1, 11, []), (1, 11, []), (0, 3, [.int 0, .int 0, .ref 38, .int 0, .int 0, .ref 39, .ref 40, .ref 41, .ref 42]), (1, 6, []), (1, 11, [])]
def wF4 : CW := [(1, 11, []), (1, 11, []), (1, 11, []), (0, 3, [.int 0, .int 0, .ref 44, .int 0, .int 0, .ref 45, .ref 46, .ref 47, .ref 48]), (1, 6, []), (1, 11, []), (1, 11, []), (1, 11, []), (1, 11, []), (0, 3, [.int 0, .int 0, .ref 50, .int 0, .int 0, .ref 51, .ref 52, .ref 53, .ref 54])]
def wF5 : CW := [(1, 6, []), (1, 11, []), (1, 11, []), (1, 11, []), (1, 11, []), (0, 3, [.int 0, .int 0, .ref 56, .int 0, .int 0, .ref 57, .ref 58, .ref 59, .ref 60]), (1, 6, []), (1, 11, []), (1, 11, []), (1, 11, [])]
def wF6 : CW := [(1, 11, []), (0, 3, [.int 0, .int 0, .ref 62, .int 0, .int 0, .ref 63, .ref 64, .ref 65, .ref 66]), (1, 6, []), (1, 11, []), (1, 11, []), (1, 11, []), (1, 11, []), (5, 2, [.ref 81, .ref 87]), (0, 6, [.ref 69, .int 0, .int 0, .int 0, .int (-1), .ref 70, .ref 71]), (1, 6, [])]
def wF7 : CW := [(1, 6, []), (1, 6, []), (0, 1, [.int 0, .ref 73, .ref 74, .ref 80, .long 1]), (1, 6, []), (6, 5, [.ref 75, .ref 76, .ref 77, .ref 78, .ref 79]), (4, 11, []), (4, 11, []), (4, 11, []), (4, 11, []), (4, 11, [])]
def wF8 : CW := [(4, 6, []), (0, 3, [.int 0, .int 0, .ref 82, .int 0, .int 0, .ref 83, .ref 84, .ref 85, .ref 86]), (1, 6, []), (1, 11, []), (1, 11, []), (1, 11, []), (1, 11, []), (0, 3, [.int 0, .int 0, .ref 88, .int 0, .int 0, .ref 89, .ref 90, .ref 91, .ref 92]), (1, 6, []), (1, 11, [])]
def wF9 : CW := [(1, 11, []), (1, 11, []), (1, 11, []), (0, 8, [.int 0, .ref 94, .int 0, .int 0, .int 0, .int 0, .int 0, .int 0, .int 0, .int (-1), .int 0, .int 0, .long 0, .ref 95, .ref 96, .ref 97, .ref 98, .ref 99, .ref 100, .ref 101, .ref 102, .int 0, .int 0, .ref 103, .ref 104, .int 0, .long 0, .ref 105, .ref 106, .ref 107, .long 0, .long 0, .long 0, .long 0, .int 0]), (1, 540, []), (1, 69, []), (1, 69, []), (1, 138, []), (1, 552, []), (1, 69, [])]
def wF10 : CW := [(1, 69, []), (4, 6, []), (3, 2, []), (4, 36, []), (1, 6, []), (4, 6, []), (4, 2, []), (1, 6, []), (4, 1, [])]
def wF : CW := wF0 ++ wF1 ++ wF2 ++ wF3 ++ wF4 ++ wF5 ++ wF6 ++ wF7 ++ wF8 ++ wF9 ++ wF10
def pmL : List Nat := [0, 2, 3, 1, 4, 17, 18, 67, 68, 69, 70, 71, 72, 73, 74, 75, 76, 77, 78, 79, 80, 5, 6, 7, 8, 9, 10, 11, 12, 13, 14, 15, 16, 19, 20, 21, 22, 23, 24, 25, 26, 27, 28, 29, 30, 31, 32, 33, 34, 35, 36, 37, 38, 39, 40, 41, 42, 43, 44, 45, 46, 47, 48, 49, 50, 51, 52, 53, 54, 55, 56, 57, 58, 59, 60, 61, 62, 63, 64, 65, 66, 81, 82, 83, 84, 85, 86, 87, 88, 89, 90, 91, 92, 93, 94, 95, 96, 97, 98, 99, 100, 101, 102, 103, 104, 105, 106, 107, 108]
def pm (k : Nat) : Nat := pmL.getD k 0
def lvF : LV := [some (.ref 1000), some (.ref 0), some (.ref 93), some (.ref 108), none, none, none, none]
def dEq7 : DecidableEq (List (Nat × Nat × List Value)) := inferInstance
def dEq8 : DecidableEq (Nat × List (Option Value) × List Value × List (Nat × Nat × List Value)) :=
  haveI i1 : DecidableEq (List (Option Value)) := inferInstance
  haveI i2 : DecidableEq (List Value) := inferInstance
  haveI i3 : DecidableEq (List (Nat × Nat × List Value)) := dEq7
  inferInstance
def dEq9 : DecidableEq (Option (Nat × List (Option Value) × List Value × List (Nat × Nat × List Value))) :=
  haveI i4 : DecidableEq (Nat × List (Option Value) × List Value × List (Nat × Nat × List Value)) := dEq8
  inferInstance
set_option maxRecDepth 100000 in
theorem cex_F : cex 3000 20 9 0 (ent 8 [.ref 1000]) [] [] = some (20, lvF, [], wF) := by
  exact @of_decide_eq_true _ (dEq9 _ _) (by decide +kernel)
set_option maxRecDepth 100000 in
theorem wF_len : wF.length = 109 := by decide +kernel
def wAt (k : Nat) : CE := wF.getD (pm k) (0, 0, [])
def refOk (v : Value) (o : Option Nat) : Bool := match v with
  | .ref i => (match o with
    | some k' => decide (pm k' = i) && decide (k' < 109)
    | none => false)
  | .null => decide (o = none)
  | _ => false
def fOk (k c j : Nat) (v : Value) : Bool := match fK c j with
  | 1 => (match v with
    | .long _ => true
    | _ => false)
  | 2 => refOk v (RT k j)
  | _ => (match v with
    | .int _ => true
    | _ => false)
def chkF (k : Nat) : Bool := decide (shp k = some ((wAt k).1, (wAt k).2.1)) && decide (pm k < 109) && (match (wAt k).1 with
  | 0 => decide ((wAt k).2.2.length = fN (wAt k).2.1) && (List.range (fN (wAt k).2.1)).all (fun j => fOk k (wAt k).2.1 j ((wAt k).2.2.getD j .null))
  | 5 => decide ((rtL.getD k []).length ≤ (wAt k).2.2.length) && (List.range (wAt k).2.2.length).all (fun j => refOk ((wAt k).2.2.getD j .null) (RT k j))
  | 6 => decide ((rtL.getD k []).length ≤ (wAt k).2.2.length) && (List.range (wAt k).2.2.length).all (fun j => refOk ((wAt k).2.2.getD j .null) (RT k j))
  | _ => decide ((wAt k).2.2 = []) && decide ((wAt k).1 < 5))
set_option maxRecDepth 100000 in
theorem chk_F : (List.range 109).all chkF = true := by decide +kernel
