/-! The constructors as data (laid by genctor.py). -/
def ik0 : List (Nat × Instr × Nat × Nat) := [(0, .aload_n 0, 1, 0), (1, .invokespecial 3, 3, 99), (4, .aload_n 0, 1, 0), (5, .bipush 8, 2, 0), (7, .anewarray 9, 3, 0), (10, .putfield 11, 3, 0), (13, .aload_n 0, 1, 0), (14, .iconst 0, 1, 0), (15, .putfield 17, 3, 1), (18, .aload_n 0, 1, 0), (19, .iconst 0, 1, 0), (20, .putfield 21, 3, 2), (23, .iconst 0, 1, 0), (24, .istore_n 1, 1, 0), (25, .iload_n 1, 1, 0), (26, .bipush 8, 2, 0), (28, .if_icmp .ge 22, 3, 0), (31, .aload_n 0, 1, 0), (32, .getfield 11, 3, 0), (35, .iload_n 1, 1, 0), (36, .new 9, 3, 3), (39, .dup, 1, 0), (40, .invokespecial 24, 3, 103), (43, .aastore, 1, 0), (44, .iinc 1 1, 3, 0), (47, .goto (-22), 3, 0), (50, .return_, 1, 0)]
def ik1 : List (Nat × Instr × Nat × Nat) := [(0, .aload_n 0, 1, 0), (1, .invokespecial 5, 3, 99), (4, .aload_n 0, 1, 0), (5, .iconst 0, 1, 0), (6, .putfield 11, 3, 0), (9, .aload_n 0, 1, 0), (10, .bipush 6, 2, 0), (12, .newarray .int, 2, 0), (14, .putfield 15, 3, 1), (17, .aload_n 0, 1, 0), (18, .iconst 5, 1, 0), (19, .bipush 11, 2, 0), (21, .multianewarray 19 2, 4, 0), (25, .putfield 21, 3, 2), (28, .aload_n 0, 1, 0), (29, .bipush 6, 2, 0), (31, .newarray .long, 2, 0), (33, .putfield 24, 3, 3), (36, .aload_n 0, 1, 0), (37, .lconst 1, 1, 0), (38, .putfield 28, 3, 4), (41, .return_, 1, 0)]
def ik2 : List (Nat × Instr × Nat × Nat) := []
def ik3 : List (Nat × Instr × Nat × Nat) := [(0, .aload_n 0, 1, 0), (1, .invokespecial 3, 3, 99), (4, .aload_n 0, 1, 0), (5, .iconst 0, 1, 0), (6, .putfield 9, 3, 0), (9, .aload_n 0, 1, 0), (10, .iconst 0, 1, 0), (11, .putfield 15, 3, 1), (14, .aload_n 0, 1, 0), (15, .bipush 6, 2, 0), (17, .newarray .int, 2, 0), (19, .putfield 18, 3, 2), (22, .aload_n 0, 1, 0), (23, .iconst 0, 1, 0), (24, .putfield 22, 3, 3), (27, .aload_n 0, 1, 0), (28, .iconst 0, 1, 0), (29, .putfield 25, 3, 4), (32, .aload_n 0, 1, 0), (33, .bipush 11, 2, 0), (35, .newarray .int, 2, 0), (37, .putfield 28, 3, 5), (40, .aload_n 0, 1, 0), (41, .bipush 11, 2, 0), (43, .newarray .int, 2, 0), (45, .putfield 31, 3, 6), (48, .aload_n 0, 1, 0), (49, .bipush 11, 2, 0), (51, .newarray .int, 2, 0), (53, .putfield 34, 3, 7), (56, .aload_n 0, 1, 0), (57, .bipush 11, 2, 0), (59, .newarray .int, 2, 0), (61, .putfield 37, 3, 8), (64, .return_, 1, 0)]
def ik4 : List (Nat × Instr × Nat × Nat) := [(0, .aload_n 0, 1, 0), (1, .invokespecial 3, 3, 99), (4, .aload_n 0, 1, 0), (5, .new 9, 3, 5), (8, .dup, 1, 0), (9, .invokespecial 11, 3, 105), (12, .putfield 12, 3, 0), (15, .aload_n 0, 1, 0), (16, .bipush 6, 2, 0), (18, .newarray .long, 2, 0), (20, .putfield 18, 3, 1), (23, .aload_n 0, 1, 0), (24, .ldc 22, 2, 0), (26, .invokestatic 24, 3, 0), (29, .putfield 28, 3, 2), (32, .aload_n 0, 1, 0), (33, .ldc 32, 2, 1), (35, .invokestatic 24, 3, 0), (38, .putfield 34, 3, 3), (41, .aload_n 0, 1, 0), (42, .ldc 37, 2, 2), (44, .invokestatic 24, 3, 0), (47, .putfield 39, 3, 4), (50, .aload_n 0, 1, 0), (51, .ldc 42, 2, 3), (53, .invokestatic 24, 3, 0), (56, .putfield 44, 3, 5), (59, .aload_n 0, 1, 0), (60, .iconst 0, 1, 0), (61, .putfield 47, 3, 6), (64, .aload_n 0, 1, 0), (65, .iconst 0, 1, 0), (66, .putfield 51, 3, 7), (69, .aload_n 0, 1, 0), (70, .iconst 0, 1, 0), (71, .putfield 54, 3, 8), (74, .aload_n 0, 1, 0), (75, .lconst 0, 1, 0), (76, .putfield 57, 3, 9), (79, .aload_n 0, 1, 0), (80, .iconst 0, 1, 0), (81, .putfield 60, 3, 10), (84, .aload_n 0, 1, 0), (85, .iconst 0, 1, 0), (86, .putfield 63, 3, 11), (89, .aload_n 0, 1, 0), (90, .iconst 0, 1, 0), (91, .putfield 66, 3, 12), (94, .aload_n 0, 1, 0), (95, .iconst 0, 1, 0), (96, .putfield 69, 3, 13), (99, .return_, 1, 0)]
def ik5 : List (Nat × Instr × Nat × Nat) := [(0, .aload_n 0, 1, 0), (1, .invokespecial 3, 3, 99), (4, .aload_n 0, 1, 0), (5, .sipush 540, 3, 0), (8, .newarray .byte, 2, 0), (10, .putfield 9, 3, 0), (13, .aload_n 0, 1, 0), (14, .iconst 0, 1, 0), (15, .putfield 15, 3, 1), (18, .return_, 1, 0)]
def ik6 : List (Nat × Instr × Nat × Nat) := [(0, .aload_n 0, 1, 0), (1, .invokespecial 3, 3, 99), (4, .aload_n 0, 1, 0), (5, .bipush 6, 2, 0), (7, .newarray .int, 2, 0), (9, .putfield 9, 3, 0), (12, .aload_n 0, 1, 0), (13, .iconst 0, 1, 0), (14, .putfield 15, 3, 1), (17, .aload_n 0, 1, 0), (18, .iconst 0, 1, 0), (19, .putfield 19, 3, 2), (22, .aload_n 0, 1, 0), (23, .iconst 0, 1, 0), (24, .putfield 22, 3, 3), (27, .aload_n 0, 1, 0), (28, .iconst (-1), 1, 0), (29, .putfield 25, 3, 4), (32, .aload_n 0, 1, 0), (33, .bipush 6, 2, 0), (35, .newarray .int, 2, 0), (37, .putfield 28, 3, 5), (40, .aload_n 0, 1, 0), (41, .bipush 6, 2, 0), (43, .newarray .int, 2, 0), (45, .putfield 31, 3, 6), (48, .return_, 1, 0)]
def ik7 : List (Nat × Instr × Nat × Nat) := [(0, .aload_n 0, 1, 0), (1, .invokespecial 1, 3, 99), (4, .aload_n 0, 1, 0), (5, .new 7, 3, 4), (8, .dup, 1, 0), (9, .invokespecial 9, 3, 104), (12, .putfield 10, 3, 0), (15, .aload_n 0, 1, 0), (16, .aload_n 0, 1, 0), (17, .getfield 10, 3, 448), (20, .getfield 16, 3, 256), (23, .putfield 20, 3, 1), (26, .aload_n 0, 1, 0), (27, .new 21, 3, 3), (30, .dup, 1, 0), (31, .invokespecial 23, 3, 103), (34, .putfield 24, 3, 2), (37, .aload_n 0, 1, 0), (38, .new 21, 3, 3), (41, .dup, 1, 0), (42, .invokespecial 23, 3, 103), (45, .putfield 28, 3, 3), (48, .aload_n 0, 1, 0), (49, .new 31, 3, 0), (52, .dup, 1, 0), (53, .invokespecial 33, 3, 0), (56, .putfield 34, 3, 4), (59, .aload_n 0, 1, 0), (60, .iconst 2, 1, 0), (61, .anewarray 21, 3, 0), (64, .putfield 38, 3, 5), (67, .aload_n 0, 1, 0), (68, .iconst 0, 1, 0), (69, .putfield 42, 3, 6), (72, .aload_n 0, 1, 0), (73, .iconst 0, 1, 0), (74, .putfield 46, 3, 7), (77, .aload_n 0, 1, 0), (78, .iconst (-1), 1, 0), (79, .putfield 49, 3, 8), (82, .aload_n 0, 1, 0), (83, .new 52, 3, 6), (86, .dup, 1, 0), (87, .invokespecial 54, 3, 106), (90, .putfield 55, 3, 9), (93, .aload_n 0, 1, 0), (94, .new 59, 3, 1), (97, .dup, 1, 0), (98, .invokespecial 61, 3, 101), (101, .putfield 62, 3, 10), (104, .aload_n 0, 1, 0), (105, .iconst 1, 1, 0), (106, .putfield 66, 3, 11), (109, .iconst 0, 1, 0), (110, .istore_n 1, 1, 0), (111, .iload_n 1, 1, 0), (112, .iconst 2, 1, 0), (113, .if_icmp .ge 22, 3, 0), (116, .aload_n 0, 1, 0), (117, .getfield 38, 3, 453), (120, .iload_n 1, 1, 0), (121, .new 21, 3, 3), (124, .dup, 1, 0), (125, .invokespecial 23, 3, 103), (128, .aastore, 1, 0), (129, .iinc 1 1, 3, 0), (132, .goto (-21), 3, 0), (135, .return_, 1, 0)]
def ik8 : List (Nat × Instr × Nat × Nat) := [(0, .aload_n 0, 1, 0), (1, .invokespecial 85, 3, 99), (4, .aload_n 0, 1, 0), (5, .sipush 540, 3, 0), (8, .newarray .int, 2, 0), (10, .putfield 7, 3, 1), (13, .aload_n 0, 1, 0), (14, .iconst (-1), 1, 0), (15, .putfield 82, 3, 9), (18, .aload_n 0, 1, 0), (19, .bipush 69, 2, 0), (21, .newarray .int, 2, 0), (23, .putfield 91, 3, 13), (26, .aload_n 0, 1, 0), (27, .bipush 69, 2, 0), (29, .newarray .int, 2, 0), (31, .putfield 94, 3, 14), (34, .aload_n 0, 1, 0), (35, .sipush 138, 3, 0), (38, .newarray .int, 2, 0), (40, .putfield 97, 3, 15), (43, .aload_n 0, 1, 0), (44, .sipush 552, 3, 0), (47, .newarray .int, 2, 0), (49, .putfield 100, 3, 16), (52, .aload_n 0, 1, 0), (53, .bipush 69, 2, 0), (55, .newarray .int, 2, 0), (57, .putfield 103, 3, 17), (60, .aload_n 0, 1, 0), (61, .bipush 69, 2, 0), (63, .newarray .int, 2, 0), (65, .putfield 106, 3, 18), (68, .aload_n 0, 1, 0), (69, .bipush 6, 2, 0), (71, .newarray .long, 2, 0), (73, .putfield 109, 3, 19), (76, .aload_n 0, 1, 0), (77, .iconst 2, 1, 0), (78, .newarray .boolean, 2, 0), (80, .putfield 113, 3, 20), (83, .aload_n 0, 1, 0), (84, .bipush 36, 2, 0), (86, .newarray .long, 2, 0), (88, .putfield 117, 3, 23), (91, .aload_n 0, 1, 0), (92, .bipush 6, 2, 0), (94, .newarray .int, 2, 0), (96, .putfield 120, 3, 24), (99, .aload_n 0, 1, 0), (100, .bipush 6, 2, 0), (102, .newarray .long, 2, 0), (104, .putfield 123, 3, 27), (107, .aload_n 0, 1, 0), (108, .iconst 2, 1, 0), (109, .newarray .long, 2, 0), (111, .putfield 126, 3, 28), (114, .aload_n 0, 1, 0), (115, .bipush 6, 2, 0), (117, .newarray .int, 2, 0), (119, .putfield 129, 3, 29), (122, .return_, 1, 0)]
def ik9 : List (Nat × Instr × Nat × Nat) := [(0, .new 8, 3, 7), (3, .dup, 1, 0), (4, .invokespecial 42, 3, 7), (7, .astore_n 1, 1, 0), (8, .new 43, 3, 8), (11, .dup, 1, 0), (12, .invokespecial 45, 3, 8), (15, .astore_n 2, 1, 0), (16, .iconst 1, 1, 0), (17, .newarray .long, 2, 0), (19, .astore_n 3, 1, 0), (20, .nop, 0, 0)]
def iCdL : List (List (Nat × Instr × Nat × Nat)) := [ik0, ik1, ik2, ik3, ik4, ik5, ik6, ik7, ik8, ik9]
def iNmL : List MethodName := [yX0_init, yX1_init, ⟨"", "", ""⟩, yX3_init, yX4_init, yX5_init, yX6_init, yX7_init, yX8_init, yL_law]
def iByL : List ByteArray := [cX0_init, cX1_init, ⟨#[]⟩, cX3_init, cX4_init, cX5_init, cX6_init, cX7_init, cX8_init, cL_law]
def iMxL : List Nat := [2, 1, 0, 1, 1, 1, 1, 2, 1, 8]
def iNm (c : Nat) : MethodName := iNmL.getD c ⟨"", "", ""⟩
def iBy (c : Nat) : ByteArray := iByL.getD c ⟨#[]⟩
def iMx (c : Nat) : Nat := iMxL.getD c 0
def iCd (c pc : Nat) : Option (Instr × Nat × Nat) := lk pc (iCdL.getD c [])
/-- the strings -/
def lxS : List (Nat × String) := [(22, "point"), (32, "line"), (37, "up"), (42, "down")]
/-- the nest mates' constructors -/
def iN : List (Nat × Nat × Nat) := [(0, 24, 3), (4, 11, 5), (7, 9, 4), (7, 23, 3), (7, 54, 6), (7, 61, 1)]
def iNW : List Cond := iN.map (fun q => .methodLinkNest (iNm q.1).cls q.2.1 (iNm q.2.2) "LevelRings")
def clsS (w : Cond) : Bool := decide (w ∈ lw_tbl) && goodWord w
theorem clsS_mem {w : Cond} (h : clsS w = true) : w ∈ TS := by
  unfold clsS at h
  rw [Bool.and_eq_true, decide_eq_true_eq] at h
  exact List.mem_filter.mpr h
/-- an entry held against the Statement -/
def okI2 (c : Nat) (ins : Instr) (n a : Nat) : Bool := match ins with
  | .new ix => clsS (.classLink (iNm c).cls ix (clR a)) && clsS (.instantiable (clR a) (clN a)) && clsS (.initialized (clR a)) && decide (a < 9) && decide (n = 3)
  | .invokespecial ix => decide (n = 3) && (if a = 99 then clsS (.methodLink (iNm c).cls ix objectInit) else if a < 99 then clsS (.methodLink (iNm c).cls ix (iNm a)) && decide (a < 9) else decide ((c, ix, a - 100) ∈ iN) && decide (a - 100 < 9))
  | .putfield ix => clsS (.fieldLink (iNm c).cls ix (clT c a).1 (clT c a).2.1 (clT c a).2.2.1) && decide ((clT c a).1 = (iNm c).cls) && decide (c < 9) && decide (a < clN c) && decide (n = 3)
  | .getfield ix => clsS (.fieldLink (iNm c).cls ix (clT (a / 64) (a % 64)).1 (clT (a / 64) (a % 64)).2.1 (clT (a / 64) (a % 64)).2.2.1) && decide (a / 64 < 9) && decide (a % 64 < clN (a / 64)) && decide (n = 3)
  | .anewarray ix => clsS (.classLink (iNm c).cls ix RX3) && decide (n = 3)
  | .multianewarray ix k => clsS (.classLink (iNm c).cls ix "[[J") && decide (k = 2) && decide (n = 4)
  | .newarray t => clsS (.arrayClass (newarray.typeOf t)) && decide (n = 2)
  | .ldc ix => decide ((iNm c).cls = RX4) && decide ((lxS.getD a (0, "")).1 = ix) && decide (a < 4) && decide (n = 2)
  | .invokestatic ix => decide ((iNm c).cls = RX4) && clsS (.methodLink RX4 ix yX4_packed) && decide (n = 3)
  | i => decide (i = .nop) || decide (n = ilen i)
def okI (c : Nat) (e : Nat × Instr × Nat × Nat) : Bool := (decide (e.2.1 = .nop) || decide (decode (iBy c) e.1 = .ok (e.2.1, e.2.2.1))) && okI2 c e.2.1 e.2.2.1 e.2.2.2
set_option maxRecDepth 20000 in
theorem okI_0 : ik0.all (okI 0) = true := by decide +kernel
set_option maxRecDepth 20000 in
theorem okI_1 : ik1.all (okI 1) = true := by decide +kernel
set_option maxRecDepth 20000 in
theorem okI_3 : ik3.all (okI 3) = true := by decide +kernel
set_option maxRecDepth 20000 in
theorem okI_4 : ik4.all (okI 4) = true := by decide +kernel
set_option maxRecDepth 20000 in
theorem okI_5 : ik5.all (okI 5) = true := by decide +kernel
set_option maxRecDepth 20000 in
theorem okI_6 : ik6.all (okI 6) = true := by decide +kernel
set_option maxRecDepth 20000 in
theorem okI_7 : ik7.all (okI 7) = true := by decide +kernel
set_option maxRecDepth 20000 in
theorem okI_8 : ik8.all (okI 8) = true := by decide +kernel
set_option maxRecDepth 20000 in
theorem okI_9 : ik9.all (okI 9) = true := by decide +kernel
set_option maxRecDepth 20000 in
theorem okI_g : [Cond.instanceMethod objectInit, Cond.code objectInit ⟨#[0xb1]⟩ 1 none, Cond.static yX4_packed, Cond.initialized RX4, Cond.arrayClass .long].all clsS = true := by decide +kernel
set_option maxRecDepth 20000 in
theorem okI_n : iNW.all (fun w => decide (w ∈ lw_tbl)) = true := by decide +kernel
def iMth (c : Nat) : Bool := clsS (.code (iNm c) (iBy c) (iMx c) none) && clsS (.instanceMethod (iNm c)) && clsS (.initialized (iNm c).cls) && plainFor (iNm c) && decide ((iNm c).name = "<init>") && decide ((iNm c).cls ≠ "java/lang/invoke/MethodHandle") && decide ((iNm c).cls ≠ "java/lang/invoke/VarHandle") && decide ((parseMethodDescriptor (iNm c).desc).map (fun d => d.parameters.length) = some 0) && decide (iMx c ≤ 2) && decide ((iNm c).cls = clR c)
set_option maxRecDepth 20000 in
theorem okI_m : [0, 1, 3, 4, 5, 6, 7, 8].all iMth = true := by decide +kernel
