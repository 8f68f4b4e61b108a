/-! The program's data held against the Statement: every entry decodes so, every link stands in the tables. -/
def TS : List Cond := lw_tbl.filter goodWord
abbrev cls9 : List vw_C := [(RX0, TX0, 3), (RX1, TX1, 5), (RX0, TX0, 0), (RX3, TX3, 9), (RX4, TX4, 14), (RX5, TX5, 2), (RX6, TX6, 7), (RX7, TX7, 12), (RX8, TX8, 35)]
def clT (c k : Nat) : String × String × String × Bool := (cls9.getD c ("", TX2, 0)).2.1 k
def clR (c : Nat) : String := (cls9.getD c ("", TX2, 0)).1
def clN (c : Nat) : Nat := (cls9.getD c ("", TX2, 0)).2.2
theorem TS_mem {w : Cond} {i : Nat} (h : lw_tbl[i]? = some w) (hg : goodWord w = true) : w ∈ TS := List.mem_filter.mpr ⟨List.mem_of_getElem? h, hg⟩
/-- a table's words stand where they are told to stand, and are good ones -/
def atP (w : Cond) (i : Nat) : Bool := decide (lw_tbl[i]? = some w) && goodWord w
theorem atP_mem {w : Cond} {i : Nat} (h : atP w i = true) : w ∈ TS := by
  unfold atP at h
  rw [Bool.and_eq_true, decide_eq_true_eq] at h
  exact TS_mem h.1 h.2
set_option maxRecDepth 20000 in
theorem fLk_ok : fLk.all (fun q => atP (.fieldLink q.1 q.2.1 (clT q.2.2.1 q.2.2.2.1).1 (clT q.2.2.1 q.2.2.2.1).2.1 (clT q.2.2.1 q.2.2.2.1).2.2.1) q.2.2.2.2 && decide (q.2.2.1 < 9) && decide (q.2.2.2.1 < clN q.2.2.1)) = true := by decide +kernel
set_option maxRecDepth 20000 in
theorem cLk_ok : cLk.all (fun q => atP (.methodLink q.1 q.2.1 (mNm q.2.2.1)) q.2.2.2) = true := by decide +kernel
set_option maxRecDepth 20000 in
theorem kLk_ok : kLk.all (fun q => atP (.constant q.1 q.2.1 (kI q.2.2.1)) q.2.2.2) = true := by decide +kernel
set_option maxRecDepth 20000 in
theorem jLk_ok : jLk.all (fun q => atP (.constantLong q.1 q.2.1 (kL q.2.2.1)) q.2.2.2) = true := by decide +kernel
/-- the nest mates' calls -/
def nW : List Cond := nLk.map (fun q => .methodLinkNest q.1 q.2.1 (mNm q.2.2.1) "LevelRings")
set_option maxRecDepth 20000 in
theorem nLk_ok : nLk.all (fun q => decide (lw_tbl[q.2.2.2]? = some (.methodLinkNest q.1 q.2.1 (mNm q.2.2.1) "LevelRings"))) = true := by decide +kernel
set_option maxRecDepth 20000 in
theorem lay_ok : (List.range 9).all (fun c => (u_ws (clR c) (fun k => clT c k) (clN c)).all (fun w => decide (w ∈ lw_tbl) && goodWord w)) = true := by decide +kernel
