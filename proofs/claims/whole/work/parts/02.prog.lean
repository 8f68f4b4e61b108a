/-! The program as data: methods by number (laid by wip/whole/gen02.py). -/
def mNmL : List (MethodName) := [
  yX0_push, yX0_popInto, yX0_forget, yX1_settle, yX1_offAbove, yX1_sumAbove, yX1_checkAbove, yX1_fallAbove,
  yX1_fallBelow, yX1_fallsAbove, yX1_greatestFall, yX1_doubtAbove, yX1_inverse, yX1_weightedSquare, yX1_chooseSought, yX1_knownHeight,
  yX1_pull, yX1_eliminate, yX1_clearColumn, yX2_half, yX2_quotient, yX2_floor, yX2_divisor, yX2_isGreater,
  yX3_clear, yX3_copyFrom, yX3_putPoint, yX3_putLine, yX3_isFixed, yX3_soundLinesAt, yX4_readsInto, yX4_readsPoint,
  yX4_readsLine, yX4_readsTold, yX4_readsHeight, yX4_readsSemicolon, yX4_isWord, yX4_isName, yX4_named, yX4_fails,
  yX4_step, yX4_takeWordOrNumber, yX4_withLetter, yX5_push, yX6_settle, yX6_isRoot, yX6_parts, yX6_ringOf,
  yX6_closingOf, yX6_tieFixed, yX6_growTree, yX6_merge, yX6_walkTree, yX6_walkLine, yX7_feed, yX7_end,
  yX7_net, yX7_fault, yX7_point, yX7_line, yX7_height, yX7_rounded, yX7_off, yX7_sum,
  yX7_rings, yX7_ring, yX7_closes, yX7_worst, yX7_check, yX7_fall, yX7_wanted, yX7_blunder,
  yX7_doubt, yX7_next, yX7_strike, yX7_mend, yX7_snoop, yX7_read, yX7_weigh, yX7_add,
  yX7_fix, yX7_free, yX7_drawn, yX7_undo, yX7_image, yX7_restore, yX7_count, yX7_settle,
  yX7_beginAct, yX7_isPoint, yX7_isLine, yX7_isSoundLine, yX7_hasRing, yX7_isHalf, yX7_isHeight, yX7_isWeight,
  yX7_isImage, yX7_bit, yX7_seedBehind, yX8_thrown, yX8_refuse, yX8_isIn, yX8_has, yX8_bits,
  yX8_come, yX8_feed, yX8_end, yX8_tapeAt, yX8_isDigit, yX8_isLetter, yX8_go, yX8_spelt,
  yX8_isWord, yX8_isPointWord, yX8_isLineWord, yX8_isUp, yX8_isDown, yX8_isName, yX8_bad, yX8_copy,
  yX8_named, yX8_readHeight, yX8_readPoint, yX8_readLine, yX8_lays, yX8_readEnd, yX8_net, yX8_fault,
  yX8_points, yX8_lines, yX8_isPoint, yX8_isLine, yX8_isFixed, yX8_isSound, yX8_first, yX8_second,
  yX8_sound, yX8_fixed, yX8_tied, yX8_areTied, yX8_partOf, yX8_isRoot, yX8_tree, yX8_isBridge,
  yX8_laysRows, yX8_adds, yX8_ties, yX8_laysAll, yX8_frees, yX8_solve, yX8_solveNow, yX8_tells,
  yX8_said, yX8_isPart, yX8_height, yX8_rounded, yX8_offOf, yX8_off, yX8_heldBy, yX8_sum,
  yX8_isClosed, yX8_rings, yX8_ring, yX8_laysAlong, yX8_closing, yX8_closes, yX8_amount, yX8_worst,
  yX8_doubtOf, yX8_doubt, yX8_next, yX8_check, yX8_laysWanted, yX8_wanted, yX8_laysFall, yX8_fall,
  yX8_isMore, yX8_laysBlunder, yX8_blunder, yX8_snap, yX8_stay, yX8_becomes, yX8_strike, yX8_mend,
  yX8_read, yX8_weigh, yX8_free, yX8_fix, yX8_add, yX8_snoop, yX8_draw, yX8_slips,
  yX8_drawn, yX8_undo, yX8_image, yX8_restore, yX8_point, yX8_line, yX8_count, yJ6_bitCount_0f7a4,
  yJ9_floorDiv_f86c9, yJ9_abs_0f7a4, yJ9_abs_067f4, yJ9_max_7cf53, yJ9_min_7cf53, yL_point, yL_line, yL_height,
  yL_off, yL_sum, yL_check, yL_fall, yL_wanted, yL_doubt, yL_law]
def mByL : List (ByteArray) := [
  cX0_push, cX0_popInto, cX0_forget, cX1_settle, cX1_offAbove, cX1_sumAbove, cX1_checkAbove, cX1_fallAbove,
  cX1_fallBelow, cX1_fallsAbove, cX1_greatestFall, cX1_doubtAbove, cX1_inverse, cX1_weightedSquare, cX1_chooseSought, cX1_knownHeight,
  cX1_pull, cX1_eliminate, cX1_clearColumn, cX2_half, cX2_quotient, cX2_floor, cX2_divisor, cX2_isGreater,
  cX3_clear, cX3_copyFrom, cX3_putPoint, cX3_putLine, cX3_isFixed, cX3_soundLinesAt, cX4_readsInto, cX4_readsPoint,
  cX4_readsLine, cX4_readsTold, cX4_readsHeight, cX4_readsSemicolon, cX4_isWord, cX4_isName, cX4_named, cX4_fails,
  cX4_step, cX4_takeWordOrNumber, cX4_withLetter, cX5_push, cX6_settle, cX6_isRoot, cX6_parts, cX6_ringOf,
  cX6_closingOf, cX6_tieFixed, cX6_growTree, cX6_merge, cX6_walkTree, cX6_walkLine, cX7_feed, cX7_end,
  cX7_net, cX7_fault, cX7_point, cX7_line, cX7_height, cX7_rounded, cX7_off, cX7_sum,
  cX7_rings, cX7_ring, cX7_closes, cX7_worst, cX7_check, cX7_fall, cX7_wanted, cX7_blunder,
  cX7_doubt, cX7_next, cX7_strike, cX7_mend, cX7_snoop, cX7_read, cX7_weigh, cX7_add,
  cX7_fix, cX7_free, cX7_drawn, cX7_undo, cX7_image, cX7_restore, cX7_count, cX7_settle,
  cX7_beginAct, cX7_isPoint, cX7_isLine, cX7_isSoundLine, cX7_hasRing, cX7_isHalf, cX7_isHeight, cX7_isWeight,
  cX7_isImage, cX7_bit, cX7_seedBehind, cX8_thrown, cX8_refuse, cX8_isIn, cX8_has, cX8_bits,
  cX8_come, cX8_feed, cX8_end, cX8_tapeAt, cX8_isDigit, cX8_isLetter, cX8_go, cX8_spelt,
  cX8_isWord, cX8_isPointWord, cX8_isLineWord, cX8_isUp, cX8_isDown, cX8_isName, cX8_bad, cX8_copy,
  cX8_named, cX8_readHeight, cX8_readPoint, cX8_readLine, cX8_lays, cX8_readEnd, cX8_net, cX8_fault,
  cX8_points, cX8_lines, cX8_isPoint, cX8_isLine, cX8_isFixed, cX8_isSound, cX8_first, cX8_second,
  cX8_sound, cX8_fixed, cX8_tied, cX8_areTied, cX8_partOf, cX8_isRoot, cX8_tree, cX8_isBridge,
  cX8_laysRows, cX8_adds, cX8_ties, cX8_laysAll, cX8_frees, cX8_solve, cX8_solveNow, cX8_tells,
  cX8_said, cX8_isPart, cX8_height, cX8_rounded, cX8_offOf, cX8_off, cX8_heldBy, cX8_sum,
  cX8_isClosed, cX8_rings, cX8_ring, cX8_laysAlong, cX8_closing, cX8_closes, cX8_amount, cX8_worst,
  cX8_doubtOf, cX8_doubt, cX8_next, cX8_check, cX8_laysWanted, cX8_wanted, cX8_laysFall, cX8_fall,
  cX8_isMore, cX8_laysBlunder, cX8_blunder, cX8_snap, cX8_stay, cX8_becomes, cX8_strike, cX8_mend,
  cX8_read, cX8_weigh, cX8_free, cX8_fix, cX8_add, cX8_snoop, cX8_draw, cX8_slips,
  cX8_drawn, cX8_undo, cX8_image, cX8_restore, cX8_point, cX8_line, cX8_count, cJ6_bitCount_0f7a4,
  cJ9_floorDiv_f86c9, cJ9_abs_0f7a4, cJ9_abs_067f4, cJ9_max_7cf53, cJ9_min_7cf53, cL_point, cL_line, cL_height,
  cL_off, cL_sum, cL_check, cL_fall, cL_wanted, cL_doubt, cL_law]
def mMxL : List (Nat) := [
  2, 2, 1, 6, 3, 5, 3, 3, 5, 4, 12, 3, 3, 5, 5, 2, 9, 5, 8, 5, 4, 4, 11, 17, 1, 3, 3, 6, 2, 4,
  3, 3, 5, 3, 2, 1, 3, 1, 3, 2, 2, 4, 3, 3, 5, 2, 4, 3, 3, 4, 5, 4, 5, 9, 6, 2, 2, 2, 3, 3,
  3, 2, 3, 2, 1, 2, 2, 5, 3, 3, 5, 1, 4, 7, 2, 2, 5, 3, 3, 6, 3, 2, 8, 1, 2, 2, 2, 1, 1, 2,
  2, 2, 2, 1, 1, 1, 1, 2, 1, 1, 1, 3, 2, 3, 3, 6, 2, 2, 1, 1, 5, 7, 3, 1, 1, 1, 1, 1, 2, 5,
  2, 2, 2, 4, 6, 1, 2, 2, 1, 1, 2, 2, 2, 2, 2, 2, 3, 3, 7, 4, 4, 2, 3, 2, 2, 5, 8, 5, 8, 3,
  1, 11, 2, 1, 3, 8, 2, 3, 2, 5, 2, 1, 5, 5, 2, 2, 1, 3, 3, 6, 10, 5, 2, 3, 8, 3, 8, 3, 1, 2,
  1, 4, 2, 2, 3, 3, 2, 3, 5, 4, 2, 4, 5, 1, 2, 2, 5, 3, 4, 1, 6, 1, 2, 2, 2, 5, 5, 5, 5, 4,
  5, 5, 5, 6, 8]
def mRtL : List (Option FieldType) := [
  none, none, none, none, some .long, some .long, some .long, some .long,
  some .long, some .boolean, some .int, some .long, some .long, some .long, none, some .long,
  none, none, none, some .long, some .long, some .long, some .long, some .boolean,
  none, none, none, some .int, some .boolean, some .int, some .boolean, some .boolean,
  some .boolean, some .int, some .boolean, some .boolean, some .boolean, some .boolean, some .int, some .boolean,
  none, none, some .long, none, none, some .boolean, some .int, some .int,
  some .int, some .int, none, none, none, some .int, some .int, some .boolean,
  some .int, some .int, some .int, some .int, some .long, some .int, some .long, some .long,
  some .int, some .int, some .int, some .int, some .long, some .long, some .long, some .int,
  some .long, some .int, some .int, some .int, some .int, some .int, some .int, some .int,
  some .int, some .int, some .int, some .int, some .boolean, some .boolean, some .int, none,
  none, some .boolean, some .boolean, some .boolean, some .boolean, some .boolean, some .boolean, some .boolean,
  some .boolean, some .int, some .int, some .int, some .int, some .boolean, some .boolean, some .int,
  none, some .int, some .boolean, some .int, some .boolean, some .boolean, none, some .long,
  some .boolean, some .boolean, some .boolean, some .boolean, some .boolean, some .boolean, some .boolean, none,
  some .int, some .boolean, some .boolean, some .boolean, none, some .boolean, some .int, some .int,
  some .int, some .int, some .boolean, some .boolean, some .boolean, some .boolean, some .int, some .int,
  some .int, some .int, some .int, some .boolean, some .int, some .boolean, some .int, some .boolean,
  none, none, none, none, none, none, none, none,
  some .long, some .boolean, some .long, some .int, some .long, some .long, some .long, some .long,
  some .boolean, some .int, some .int, none, some .int, some .int, some .int, some .int,
  some .long, some .long, some .int, some .long, none, some .long, none, some .long,
  some .boolean, some .int, some .int, none, none, some .int, some .int, some .int,
  some .int, some .int, some .int, some .int, some .int, some .int, some .int, some .boolean,
  some .int, some .int, some .boolean, some .boolean, some .int, some .int, some .int, some .int,
  some .long, some .int, some .long, some .int, some .int, some .int, some .int, some .int,
  some .int, some .int, some .int, some .int, some .int, some .int, some .boolean]
def mStL : List (Bool) := [
  false, false, false, false, false, false, false, false, false, false, false, false, false, false, false, true, false, false, false, true,
  true, true, true, true, false, false, false, false, false, false, false, false, false, false, false, false, false, false, false, false,
  false, false, true, false, false, false, false, false, false, false, false, false, false, false, false, false, false, false, false, false,
  false, false, false, false, false, false, false, false, false, false, false, false, false, false, false, false, false, false, false, false,
  false, false, false, false, false, false, false, false, false, false, false, false, false, true, true, true, true, true, true, false,
  false, true, true, true, false, false, false, false, true, true, false, true, false, false, false, false, false, false, false, true,
  false, false, false, false, true, false, false, false, false, false, false, false, false, false, false, false, false, false, false, false,
  false, false, false, false, false, false, false, false, false, false, false, false, false, true, false, false, false, false, false, false,
  false, false, false, false, false, false, true, false, false, false, false, false, false, false, false, false, true, false, false, false,
  false, false, false, false, false, false, false, false, false, false, false, false, false, false, false, false, false, false, false, true,
  true, true, true, true, true, true, true, true, true, true, true, true, true, true, false]
def mNpL : List (Nat) := [
  1, 1, 0, 2, 2, 1, 2, 2, 2, 3, 1, 2, 2, 2, 2, 2, 5, 0, 3, 3, 2, 2, 2, 4, 0, 1, 2, 4, 1, 1,
  1, 1, 1, 1, 0, 0, 1, 0, 1, 1, 0, 0, 2, 1, 1, 1, 1, 2, 2, 1, 1, 2, 1, 3, 5, 1, 0, 1, 2, 2,
  2, 1, 2, 1, 0, 1, 1, 0, 2, 2, 2, 0, 3, 1, 1, 1, 1, 2, 2, 4, 2, 1, 2, 0, 1, 1, 1, 0, 0, 1,
  1, 1, 1, 1, 1, 1, 1, 2, 1, 0, 0, 3, 2, 1, 1, 5, 1, 1, 1, 1, 0, 5, 1, 0, 0, 0, 0, 0, 1, 4,
  0, 0, 0, 0, 5, 0, 0, 1, 0, 0, 1, 1, 1, 1, 1, 1, 0, 0, 2, 3, 1, 1, 0, 1, 0, 3, 5, 1, 0, 1,
  0, 2, 1, 1, 2, 1, 1, 2, 1, 1, 1, 0, 1, 0, 1, 1, 1, 0, 2, 3, 1, 2, 1, 2, 1, 2, 4, 0, 0, 0,
  0, 3, 1, 1, 2, 2, 1, 2, 4, 1, 1, 0, 2, 0, 1, 1, 2, 2, 1, 1, 2, 1, 1, 2, 2, 4, 4, 4, 4, 3,
  4, 4, 4, 5, 1]
def mClL : List (Nat) := [
  0, 0, 0, 1, 1, 1, 1, 1, 1, 1, 1, 1, 1, 1, 1, 1, 1, 1, 1, 2, 2, 2, 2, 2, 3, 3, 3, 3, 3, 3,
  4, 4, 4, 4, 4, 4, 4, 4, 4, 4, 4, 4, 4, 5, 6, 6, 6, 6, 6, 6, 6, 6, 6, 6, 7, 7, 7, 7, 7, 7,
  7, 7, 7, 7, 7, 7, 7, 7, 7, 7, 7, 7, 7, 7, 7, 7, 7, 7, 7, 7, 7, 7, 7, 7, 7, 7, 7, 7, 7, 7,
  7, 7, 7, 7, 7, 7, 7, 7, 7, 8, 8, 8, 8, 8, 8, 8, 8, 8, 8, 8, 8, 8, 8, 8, 8, 8, 8, 8, 8, 8,
  8, 8, 8, 8, 8, 8, 8, 8, 8, 8, 8, 8, 8, 8, 8, 8, 8, 8, 8, 8, 8, 8, 8, 8, 8, 8, 8, 8, 8, 8,
  8, 8, 8, 8, 8, 8, 8, 8, 8, 8, 8, 8, 8, 8, 8, 8, 8, 8, 8, 8, 8, 8, 8, 8, 8, 8, 8, 8, 8, 8,
  8, 8, 8, 8, 8, 8, 8, 8, 8, 8, 8, 8, 8, 8, 8, 8, 8, 8, 8, 99, 99, 99, 99, 99, 99, 99, 99, 99, 99, 99,
  99, 99, 99, 99, 99]
def kIL : List (Int32) := [
  -1000000, 1103515245, 1431655765, 858993459, 252645135]
def kLL : List (Int64) := [
  2, 10, 27, -1, 96]
def fKL : List (List Nat) := [
  [2, 0, 0], [0, 2, 2, 2, 1], [],
  [0, 0, 2, 0, 0, 2, 2, 2, 2], [2, 2, 1, 1, 1, 1, 0, 0, 0, 1, 0, 0, 0, 0], [2, 0],
  [2, 0, 0, 0, 0, 2, 2], [2, 2, 2, 2, 2, 2, 0, 0, 0, 2, 2, 3], [0, 2, 0, 0, 0, 0, 0, 0, 0, 0, 0, 0, 1, 2, 2, 2, 2, 2, 2, 2, 2, 0, 0, 2, 2, 0, 1, 2, 2, 2, 1, 1, 1, 1, 0]]
def kd0 : List (Nat × Instr × Nat × Nat) := [
  (0, .aload_n 0, 1, 0), (1, .getfield 11, 3, 0), (4, .aload_n 0, 1, 0), (5, .getfield 17, 3, 1), (8, .aaload, 1, 0), (9, .aload_n 1, 1, 0),
  (10, .invokevirtual 25, 3, 25), (13, .aload_n 0, 1, 0), (14, .aload_n 0, 1, 0), (15, .getfield 17, 3, 1), (18, .iconst 1, 1, 0), (19, .iadd, 1, 0),
  (20, .bipush 8, 2, 0), (22, .irem, 1, 0), (23, .putfield 17, 3, 1), (26, .aload_n 0, 1, 0), (27, .aload_n 0, 1, 0), (28, .getfield 21, 3, 2),
  (31, .iconst 1, 1, 0), (32, .iadd, 1, 0), (33, .bipush 8, 2, 0), (35, .invokestatic 29, 3, 204), (38, .putfield 21, 3, 2), (41, .return_, 1, 0)]
def kd1 : List (Nat × Instr × Nat × Nat) := [
  (0, .aload_n 0, 1, 0), (1, .getfield 21, 3, 2), (4, .ifCond .gt 4, 3, 0), (7, .return_, 1, 0), (8, .aload_n 0, 1, 0), (9, .aload_n 0, 1, 0),
  (10, .getfield 17, 3, 1), (13, .bipush 8, 2, 0), (15, .iadd, 1, 0), (16, .iconst 1, 1, 0), (17, .isub, 1, 0), (18, .bipush 8, 2, 0),
  (20, .irem, 1, 0), (21, .putfield 17, 3, 1), (24, .aload_n 0, 1, 0), (25, .dup, 1, 0), (26, .getfield 21, 3, 2), (29, .iconst 1, 1, 0),
  (30, .isub, 1, 0), (31, .putfield 21, 3, 2), (34, .aload_n 1, 1, 0), (35, .aload_n 0, 1, 0), (36, .getfield 11, 3, 0), (39, .aload_n 0, 1, 0),
  (40, .getfield 17, 3, 1), (43, .aaload, 1, 0), (44, .invokevirtual 25, 3, 25), (47, .return_, 1, 0)]
def kd2 : List (Nat × Instr × Nat × Nat) := [
  (0, .aload_n 0, 1, 0), (1, .iconst 0, 1, 0), (2, .putfield 21, 3, 2), (5, .return_, 1, 0)]
def kd3 : List (Nat × Instr × Nat × Nat) := [
  (0, .aload_n 0, 1, 0), (1, .aload_n 1, 1, 0), (2, .aload_n 2, 1, 0), (3, .invokevirtual 32, 3, 14), (6, .iconst 0, 1, 0), (7, .istore_n 3, 1, 0),
  (8, .iload_n 3, 1, 0), (9, .iconst 5, 1, 0), (10, .if_icmp .ge 46, 3, 0), (13, .iconst 0, 1, 0), (14, .istore 4, 2, 0), (16, .iload 4, 2, 0),
  (18, .bipush 11, 2, 0), (20, .if_icmp .ge 19, 3, 0), (23, .aload_n 0, 1, 0), (24, .getfield 21, 3, 66), (27, .iload_n 3, 1, 0), (28, .aaload, 1, 0),
  (29, .iload 4, 2, 0), (31, .lconst 0, 1, 0), (32, .lastore, 1, 0), (33, .iinc 4 1, 3, 0), (36, .goto (-20), 3, 0), (39, .aload_n 0, 1, 0),
  (40, .getfield 21, 3, 66), (43, .iload_n 3, 1, 0), (44, .aaload, 1, 0), (45, .iconst 5, 1, 0), (46, .iload_n 3, 1, 0), (47, .iadd, 1, 0),
  (48, .lconst 1, 1, 0), (49, .lastore, 1, 0), (50, .iinc 3 1, 3, 0), (53, .goto (-45), 3, 0), (56, .iconst 0, 1, 0), (57, .istore_n 3, 1, 0),
  (58, .iload_n 3, 1, 0), (59, .aload_n 1, 1, 0), (60, .getfield 36, 3, 195), (63, .if_icmp .ge 91, 3, 0), (66, .aload_n 1, 1, 0), (67, .getfield 41, 3, 196),
  (70, .iload_n 3, 1, 0), (71, .invokestatic 44, 3, 97), (74, .iconst 1, 1, 0), (75, .if_icmp .ne 73, 3, 0), (78, .aload_n 1, 1, 0), (79, .getfield 48, 3, 200),
  (82, .iload_n 3, 1, 0), (83, .iaload, 1, 0), (84, .i2l, 1, 0), (85, .aload_n 1, 1, 0), (86, .getfield 51, 3, 199), (89, .iload_n 3, 1, 0),
  (90, .iaload, 1, 0), (91, .i2l, 1, 0), (92, .lmul, 1, 0), (93, .lstore 4, 2, 0), (95, .aload_n 0, 1, 0), (96, .aload_n 1, 1, 0),
  (97, .aload_n 1, 1, 0), (98, .getfield 54, 3, 197), (101, .iload_n 3, 1, 0), (102, .iaload, 1, 0), (103, .aload_n 1, 1, 0), (104, .getfield 57, 3, 198),
  (107, .iload_n 3, 1, 0), (108, .iaload, 1, 0), (109, .aload_n 1, 1, 0), (110, .getfield 48, 3, 200), (113, .iload_n 3, 1, 0), (114, .iaload, 1, 0),
  (115, .i2l, 1, 0), (116, .lload 4, 2, 0), (118, .lneg, 1, 0), (119, .invokevirtual 60, 3, 16), (122, .aload_n 0, 1, 0), (123, .aload_n 1, 1, 0),
  (124, .aload_n 1, 1, 0), (125, .getfield 57, 3, 198), (128, .iload_n 3, 1, 0), (129, .iaload, 1, 0), (130, .aload_n 1, 1, 0), (131, .getfield 54, 3, 197),
  (134, .iload_n 3, 1, 0), (135, .iaload, 1, 0), (136, .aload_n 1, 1, 0), (137, .getfield 48, 3, 200), (140, .iload_n 3, 1, 0), (141, .iaload, 1, 0),
  (142, .i2l, 1, 0), (143, .lload 4, 2, 0), (145, .invokevirtual 60, 3, 16), (148, .iinc 3 1, 3, 0), (151, .goto (-93), 3, 0), (154, .aload_n 0, 1, 0),
  (155, .invokevirtual 64, 3, 17), (158, .iconst 0, 1, 0), (159, .istore_n 3, 1, 0), (160, .iload_n 3, 1, 0), (161, .aload_n 1, 1, 0), (162, .getfield 67, 3, 192),
  (165, .if_icmp .ge 52, 3, 0), (168, .aload_n 0, 1, 0), (169, .getfield 24, 3, 67), (172, .iload_n 3, 1, 0), (173, .aload_n 0, 1, 0), (174, .getfield 15, 3, 65),
  (177, .iload_n 3, 1, 0), (178, .iaload, 1, 0), (179, .iconst (-1), 1, 0), (180, .if_icmp .ne 16, 3, 0), (183, .aload_n 1, 1, 0), (184, .iload_n 3, 1, 0),
  (185, .invokestatic 70, 3, 15), (188, .aload_n 0, 1, 0), (189, .getfield 28, 3, 68), (192, .lmul, 1, 0), (193, .goto 17, 3, 0), (196, .aload_n 0, 1, 0),
  (197, .getfield 21, 3, 66), (200, .aload_n 0, 1, 0), (201, .getfield 15, 3, 65), (204, .iload_n 3, 1, 0), (205, .iaload, 1, 0), (206, .aaload, 1, 0),
  (207, .bipush 10, 2, 0), (209, .laload, 1, 0), (210, .lastore, 1, 0), (211, .iinc 3 1, 3, 0), (214, .goto (-54), 3, 0), (217, .return_, 1, 0)]
def kd4 : List (Nat × Instr × Nat × Nat) := [
  (0, .aload_n 0, 1, 0), (1, .getfield 24, 3, 67), (4, .aload_n 1, 1, 0), (5, .getfield 57, 3, 198), (8, .iload_n 2, 1, 0), (9, .iaload, 1, 0),
  (10, .laload, 1, 0), (11, .aload_n 0, 1, 0), (12, .getfield 24, 3, 67), (15, .aload_n 1, 1, 0), (16, .getfield 54, 3, 197), (19, .iload_n 2, 1, 0),
  (20, .iaload, 1, 0), (21, .laload, 1, 0), (22, .lsub, 1, 0), (23, .aload_n 1, 1, 0), (24, .getfield 51, 3, 199), (27, .iload_n 2, 1, 0),
  (28, .iaload, 1, 0), (29, .i2l, 1, 0), (30, .aload_n 0, 1, 0), (31, .getfield 28, 3, 68), (34, .lmul, 1, 0), (35, .lsub, 1, 0),
  (36, .lreturn, 1, 0)]
def kd5 : List (Nat × Instr × Nat × Nat) := [
  (0, .lconst 0, 1, 0), (1, .lstore_n 2, 1, 0), (2, .iconst 0, 1, 0), (3, .istore 4, 2, 0), (5, .iload 4, 2, 0), (7, .aload_n 1, 1, 0),
  (8, .getfield 36, 3, 195), (11, .if_icmp .ge 32, 3, 0), (14, .aload_n 1, 1, 0), (15, .getfield 41, 3, 196), (18, .iload 4, 2, 0), (20, .invokestatic 44, 3, 97),
  (23, .iconst 1, 1, 0), (24, .if_icmp .ne 13, 3, 0), (27, .lload_n 2, 1, 0), (28, .aload_n 0, 1, 0), (29, .aload_n 1, 1, 0), (30, .iload 4, 2, 0),
  (32, .invokevirtual 74, 3, 13), (35, .ladd, 1, 0), (36, .lstore_n 2, 1, 0), (37, .iinc 4 1, 3, 0), (40, .goto (-35), 3, 0), (43, .lload_n 2, 1, 0),
  (44, .lreturn, 1, 0)]
def kd6 : List (Nat × Instr × Nat × Nat) := [
  (0, .aload_n 0, 1, 0), (1, .getfield 28, 3, 68), (4, .aload_n 1, 1, 0), (5, .getfield 48, 3, 200), (8, .iload_n 2, 1, 0), (9, .iaload, 1, 0),
  (10, .i2l, 1, 0), (11, .aload_n 0, 1, 0), (12, .aload_n 1, 1, 0), (13, .getfield 54, 3, 197), (16, .iload_n 2, 1, 0), (17, .iaload, 1, 0),
  (18, .aload_n 1, 1, 0), (19, .getfield 57, 3, 198), (22, .iload_n 2, 1, 0), (23, .iaload, 1, 0), (24, .invokevirtual 77, 3, 11), (27, .lmul, 1, 0),
  (28, .lsub, 1, 0), (29, .lreturn, 1, 0)]
def kd7 : List (Nat × Instr × Nat × Nat) := [
  (0, .aload_n 0, 1, 0), (1, .aload_n 1, 1, 0), (2, .iload_n 2, 1, 0), (3, .invokevirtual 81, 3, 6), (6, .lconst 0, 1, 0), (7, .lcmp, 1, 0),
  (8, .ifCond .ne 7, 3, 0), (11, .lconst 0, 1, 0), (12, .goto 9, 3, 0), (15, .aload_n 0, 1, 0), (16, .aload_n 1, 1, 0), (17, .iload_n 2, 1, 0),
  (18, .invokevirtual 74, 3, 13), (21, .lreturn, 1, 0)]
def kd8 : List (Nat × Instr × Nat × Nat) := [
  (0, .aload_n 0, 1, 0), (1, .aload_n 1, 1, 0), (2, .iload_n 2, 1, 0), (3, .invokevirtual 81, 3, 6), (6, .lstore_n 3, 1, 0), (7, .lload_n 3, 1, 0),
  (8, .lconst 0, 1, 0), (9, .lcmp, 1, 0), (10, .ifCond .ne 7, 3, 0), (13, .lconst 1, 1, 0), (14, .goto 9, 3, 0), (17, .lload_n 3, 1, 0),
  (18, .aload_n 0, 1, 0), (19, .getfield 28, 3, 68), (22, .lmul, 1, 0), (23, .lreturn, 1, 0)]
def kd9 : List (Nat × Instr × Nat × Nat) := [
  (0, .aload_n 0, 1, 0), (1, .aload_n 1, 1, 0), (2, .iload_n 2, 1, 0), (3, .invokevirtual 84, 3, 7), (6, .iload_n 3, 1, 0), (7, .i2l, 1, 0),
  (8, .aload_n 0, 1, 0), (9, .aload_n 1, 1, 0), (10, .iload_n 2, 1, 0), (11, .invokevirtual 87, 3, 8), (14, .lmul, 1, 0), (15, .lcmp, 1, 0),
  (16, .ifCond .le 7, 3, 0), (19, .iconst 1, 1, 0), (20, .goto 4, 3, 0), (23, .iconst 0, 1, 0), (24, .ireturn, 1, 0)]
def kd10 : List (Nat × Instr × Nat × Nat) := [
  (0, .iconst (-1), 1, 0), (1, .istore_n 2, 1, 0), (2, .lconst 0, 1, 0), (3, .lstore_n 3, 1, 0), (4, .lconst 1, 1, 0), (5, .lstore 5, 2, 0),
  (7, .iconst 0, 1, 0), (8, .istore 7, 2, 0), (10, .iload 7, 2, 0), (12, .aload_n 1, 1, 0), (13, .getfield 36, 3, 195), (16, .if_icmp .ge 65, 3, 0),
  (19, .aload_n 1, 1, 0), (20, .getfield 41, 3, 196), (23, .iload 7, 2, 0), (25, .invokestatic 44, 3, 97), (28, .ifCond .ne 6, 3, 0), (31, .goto 44, 3, 0),
  (34, .aload_n 0, 1, 0), (35, .aload_n 1, 1, 0), (36, .iload 7, 2, 0), (38, .invokevirtual 84, 3, 7), (41, .lstore 8, 2, 0), (43, .aload_n 0, 1, 0),
  (44, .aload_n 1, 1, 0), (45, .iload 7, 2, 0), (47, .invokevirtual 87, 3, 8), (50, .lstore 10, 2, 0), (52, .lload 8, 2, 0), (54, .lload 10, 2, 0),
  (56, .lload_n 3, 1, 0), (57, .lload 5, 2, 0), (59, .invokestatic 90, 3, 23), (62, .ifCond .eq 13, 3, 0), (65, .iload 7, 2, 0), (67, .istore_n 2, 1, 0),
  (68, .lload 8, 2, 0), (70, .lstore_n 3, 1, 0), (71, .lload 10, 2, 0), (73, .lstore 5, 2, 0), (75, .iinc 7 1, 3, 0), (78, .goto (-68), 3, 0),
  (81, .iload_n 2, 1, 0), (82, .ireturn, 1, 0)]
def kd11 : List (Nat × Instr × Nat × Nat) := [
  (0, .aload_n 0, 1, 0), (1, .iload_n 1, 1, 0), (2, .iload_n 1, 1, 0), (3, .invokevirtual 96, 3, 12), (6, .aload_n 0, 1, 0), (7, .iload_n 2, 1, 0),
  (8, .iload_n 2, 1, 0), (9, .invokevirtual 96, 3, 12), (12, .ladd, 1, 0), (13, .ldc2_w 99, 3, 0), (16, .aload_n 0, 1, 0), (17, .iload_n 1, 1, 0),
  (18, .iload_n 2, 1, 0), (19, .invokevirtual 96, 3, 12), (22, .lmul, 1, 0), (23, .lsub, 1, 0), (24, .lreturn, 1, 0)]
def kd12 : List (Nat × Instr × Nat × Nat) := [
  (0, .aload_n 0, 1, 0), (1, .getfield 15, 3, 65), (4, .iload_n 1, 1, 0), (5, .iaload, 1, 0), (6, .iconst (-1), 1, 0), (7, .if_icmp .eq 13, 3, 0),
  (10, .aload_n 0, 1, 0), (11, .getfield 15, 3, 65), (14, .iload_n 2, 1, 0), (15, .iaload, 1, 0), (16, .iconst (-1), 1, 0), (17, .if_icmp .ne 7, 3, 0),
  (20, .lconst 0, 1, 0), (21, .goto 23, 3, 0), (24, .aload_n 0, 1, 0), (25, .getfield 21, 3, 66), (28, .aload_n 0, 1, 0), (29, .getfield 15, 3, 65),
  (32, .iload_n 1, 1, 0), (33, .iaload, 1, 0), (34, .aaload, 1, 0), (35, .iconst 5, 1, 0), (36, .aload_n 0, 1, 0), (37, .getfield 15, 3, 65),
  (40, .iload_n 2, 1, 0), (41, .iaload, 1, 0), (42, .iadd, 1, 0), (43, .laload, 1, 0), (44, .lreturn, 1, 0)]
def kd13 : List (Nat × Instr × Nat × Nat) := [
  (0, .aload_n 0, 1, 0), (1, .aload_n 1, 1, 0), (2, .iload_n 2, 1, 0), (3, .invokevirtual 101, 3, 4), (6, .lstore_n 3, 1, 0), (7, .aload_n 1, 1, 0),
  (8, .getfield 48, 3, 200), (11, .iload_n 2, 1, 0), (12, .iaload, 1, 0), (13, .i2l, 1, 0), (14, .lload_n 3, 1, 0), (15, .lmul, 1, 0),
  (16, .lload_n 3, 1, 0), (17, .lmul, 1, 0), (18, .lreturn, 1, 0)]
def kd14 : List (Nat × Instr × Nat × Nat) := [
  (0, .aload_n 0, 1, 0), (1, .iconst 0, 1, 0), (2, .putfield 11, 3, 64), (5, .iconst 0, 1, 0), (6, .istore_n 3, 1, 0), (7, .iload_n 3, 1, 0),
  (8, .bipush 6, 2, 0), (10, .if_icmp .ge 80, 3, 0), (13, .aload_n 0, 1, 0), (14, .getfield 15, 3, 65), (17, .iload_n 3, 1, 0), (18, .iconst (-1), 1, 0),
  (19, .iastore, 1, 0), (20, .iload_n 3, 1, 0), (21, .aload_n 1, 1, 0), (22, .getfield 67, 3, 192), (25, .if_icmp .ge 23, 3, 0), (28, .aload_n 1, 1, 0),
  (29, .iload_n 3, 1, 0), (30, .invokevirtual 104, 3, 28), (33, .ifCond .ne 15, 3, 0), (36, .aload_n 2, 1, 0), (37, .iload_n 3, 1, 0), (38, .invokevirtual 108, 3, 45),
  (41, .ifCond .ne 7, 3, 0), (44, .iconst 1, 1, 0), (45, .goto 4, 3, 0), (48, .iconst 0, 1, 0), (49, .istore 4, 2, 0), (51, .iload 4, 2, 0),
  (53, .ifCond .eq 31, 3, 0), (56, .aload_n 0, 1, 0), (57, .getfield 11, 3, 64), (60, .iconst 5, 1, 0), (61, .if_icmp .ge 23, 3, 0), (64, .aload_n 0, 1, 0),
  (65, .getfield 15, 3, 65), (68, .iload_n 3, 1, 0), (69, .aload_n 0, 1, 0), (70, .getfield 11, 3, 64), (73, .iastore, 1, 0), (74, .aload_n 0, 1, 0),
  (75, .dup, 1, 0), (76, .getfield 11, 3, 64), (79, .iconst 1, 1, 0), (80, .iadd, 1, 0), (81, .putfield 11, 3, 64), (84, .iinc 3 1, 3, 0),
  (87, .goto (-80), 3, 0), (90, .return_, 1, 0)]
def kd15 : List (Nat × Instr × Nat × Nat) := [
  (0, .aload_n 0, 1, 0), (1, .iload_n 1, 1, 0), (2, .invokevirtual 104, 3, 28), (5, .ifCond .eq 13, 3, 0), (8, .aload_n 0, 1, 0), (9, .getfield 113, 3, 194),
  (12, .iload_n 1, 1, 0), (13, .iaload, 1, 0), (14, .i2l, 1, 0), (15, .goto 4, 3, 0), (18, .lconst 0, 1, 0), (19, .lreturn, 1, 0)]
def kd16 : List (Nat × Instr × Nat × Nat) := [
  (0, .aload_n 0, 1, 0), (1, .getfield 15, 3, 65), (4, .iload_n 2, 1, 0), (5, .iaload, 1, 0), (6, .istore 8, 2, 0), (8, .iload 8, 2, 0),
  (10, .iconst (-1), 1, 0), (11, .if_icmp .ne 4, 3, 0), (14, .return_, 1, 0), (15, .aload_n 0, 1, 0), (16, .getfield 21, 3, 66), (19, .iload 8, 2, 0),
  (21, .aaload, 1, 0), (22, .iload 8, 2, 0), (24, .dup2, 1, 0), (25, .laload, 1, 0), (26, .lload 4, 2, 0), (28, .ladd, 1, 0),
  (29, .lastore, 1, 0), (30, .aload_n 0, 1, 0), (31, .getfield 21, 3, 66), (34, .iload 8, 2, 0), (36, .aaload, 1, 0), (37, .bipush 10, 2, 0),
  (39, .dup2, 1, 0), (40, .laload, 1, 0), (41, .lload 6, 2, 0), (43, .ladd, 1, 0), (44, .lastore, 1, 0), (45, .aload_n 0, 1, 0),
  (46, .getfield 15, 3, 65), (49, .iload_n 3, 1, 0), (50, .iaload, 1, 0), (51, .iconst (-1), 1, 0), (52, .if_icmp .ne 27, 3, 0), (55, .aload_n 0, 1, 0),
  (56, .getfield 21, 3, 66), (59, .iload 8, 2, 0), (61, .aaload, 1, 0), (62, .bipush 10, 2, 0), (64, .dup2, 1, 0), (65, .laload, 1, 0),
  (66, .lload 4, 2, 0), (68, .aload_n 1, 1, 0), (69, .iload_n 3, 1, 0), (70, .invokestatic 70, 3, 15), (73, .lmul, 1, 0), (74, .ladd, 1, 0),
  (75, .lastore, 1, 0), (76, .goto 22, 3, 0), (79, .aload_n 0, 1, 0), (80, .getfield 21, 3, 66), (83, .iload 8, 2, 0), (85, .aaload, 1, 0),
  (86, .aload_n 0, 1, 0), (87, .getfield 15, 3, 65), (90, .iload_n 3, 1, 0), (91, .iaload, 1, 0), (92, .dup2, 1, 0), (93, .laload, 1, 0),
  (94, .lload 4, 2, 0), (96, .lsub, 1, 0), (97, .lastore, 1, 0), (98, .return_, 1, 0)]
def kd17 : List (Nat × Instr × Nat × Nat) := [
  (0, .aload_n 0, 1, 0), (1, .lconst 1, 1, 0), (2, .putfield 28, 3, 68), (5, .iconst 0, 1, 0), (6, .istore_n 1, 1, 0), (7, .iload_n 1, 1, 0),
  (8, .aload_n 0, 1, 0), (9, .getfield 11, 3, 64), (12, .if_icmp .ge 55, 3, 0), (15, .aload_n 0, 1, 0), (16, .getfield 21, 3, 66), (19, .iload_n 1, 1, 0),
  (20, .aaload, 1, 0), (21, .iload_n 1, 1, 0), (22, .laload, 1, 0), (23, .lstore_n 2, 1, 0), (24, .iconst 0, 1, 0), (25, .istore 4, 2, 0),
  (27, .iload 4, 2, 0), (29, .aload_n 0, 1, 0), (30, .getfield 11, 3, 64), (33, .if_icmp .ge 23, 3, 0), (36, .iload 4, 2, 0), (38, .iload_n 1, 1, 0),
  (39, .if_icmp .eq 11, 3, 0), (42, .aload_n 0, 1, 0), (43, .iload 4, 2, 0), (45, .iload_n 1, 1, 0), (46, .lload_n 2, 1, 0), (47, .invokevirtual 116, 3, 18),
  (50, .iinc 4 1, 3, 0), (53, .goto (-26), 3, 0), (56, .aload_n 0, 1, 0), (57, .lload_n 2, 1, 0), (58, .putfield 28, 3, 68), (61, .iinc 1 1, 3, 0),
  (64, .goto (-57), 3, 0), (67, .return_, 1, 0)]
def kd18 : List (Nat × Instr × Nat × Nat) := [
  (0, .aload_n 0, 1, 0), (1, .getfield 21, 3, 66), (4, .iload_n 1, 1, 0), (5, .aaload, 1, 0), (6, .iload_n 2, 1, 0), (7, .laload, 1, 0),
  (8, .lstore 5, 2, 0), (10, .iconst 0, 1, 0), (11, .istore 7, 2, 0), (13, .iload 7, 2, 0), (15, .bipush 11, 2, 0), (17, .if_icmp .ge 49, 3, 0),
  (20, .aload_n 0, 1, 0), (21, .getfield 21, 3, 66), (24, .iload_n 1, 1, 0), (25, .aaload, 1, 0), (26, .iload 7, 2, 0), (28, .lload_n 3, 1, 0),
  (29, .aload_n 0, 1, 0), (30, .getfield 21, 3, 66), (33, .iload_n 1, 1, 0), (34, .aaload, 1, 0), (35, .iload 7, 2, 0), (37, .laload, 1, 0),
  (38, .lmul, 1, 0), (39, .lload 5, 2, 0), (41, .aload_n 0, 1, 0), (42, .getfield 21, 3, 66), (45, .iload_n 2, 1, 0), (46, .aaload, 1, 0),
  (47, .iload 7, 2, 0), (49, .laload, 1, 0), (50, .lmul, 1, 0), (51, .lsub, 1, 0), (52, .aload_n 0, 1, 0), (53, .getfield 28, 3, 68),
  (56, .invokestatic 120, 3, 20), (59, .lastore, 1, 0), (60, .iinc 7 1, 3, 0), (63, .goto (-50), 3, 0), (66, .return_, 1, 0)]
def kd19 : List (Nat × Instr × Nat × Nat) := [
  (0, .iload 4, 2, 0), (2, .ifCond .ne 7, 3, 0), (5, .lload_n 0, 1, 0), (6, .goto 4, 3, 0), (9, .lload_n 2, 1, 0), (10, .lload_n 0, 1, 0),
  (11, .invokestatic 7, 3, 202), (14, .lload_n 2, 1, 0), (15, .invokestatic 13, 3, 22), (18, .invokestatic 19, 3, 20), (21, .lreturn, 1, 0)]
def kd20 : List (Nat × Instr × Nat × Nat) := [
  (0, .lload_n 2, 1, 0), (1, .lconst 0, 1, 0), (2, .lcmp, 1, 0), (3, .ifCond .ne 7, 3, 0), (6, .lconst 0, 1, 0), (7, .goto 6, 3, 0),
  (10, .lload_n 0, 1, 0), (11, .lload_n 2, 1, 0), (12, .ldiv, 1, 0), (13, .lreturn, 1, 0)]
def kd21 : List (Nat × Instr × Nat × Nat) := [
  (0, .lload_n 2, 1, 0), (1, .lconst 0, 1, 0), (2, .lcmp, 1, 0), (3, .ifCond .ne 7, 3, 0), (6, .lconst 0, 1, 0), (7, .goto 8, 3, 0),
  (10, .lload_n 0, 1, 0), (11, .lload_n 2, 1, 0), (12, .invokestatic 22, 3, 200), (15, .lreturn, 1, 0)]
def kd22 : List (Nat × Instr × Nat × Nat) := [
  (0, .lload_n 0, 1, 0), (1, .lstore 4, 2, 0), (3, .lload_n 2, 1, 0), (4, .lstore 6, 2, 0), (6, .iconst 0, 1, 0), (7, .istore 8, 2, 0),
  (9, .iload 8, 2, 0), (11, .sipush 200, 3, 0), (14, .if_icmp .ge 31, 3, 0), (17, .lload 6, 2, 0), (19, .lconst 0, 1, 0), (20, .lcmp, 1, 0),
  (21, .ifCond .eq 24, 3, 0), (24, .lload 4, 2, 0), (26, .lload 6, 2, 0), (28, .lrem, 1, 0), (29, .lstore 9, 2, 0), (31, .lload 6, 2, 0),
  (33, .lstore 4, 2, 0), (35, .lload 9, 2, 0), (37, .lstore 6, 2, 0), (39, .iinc 8 1, 3, 0), (42, .goto (-33), 3, 0), (45, .lload 4, 2, 0),
  (47, .lreturn, 1, 0)]
def kd23 : List (Nat × Instr × Nat × Nat) := [
  (0, .iconst 0, 1, 0), (1, .istore 8, 2, 0), (3, .iload 8, 2, 0), (5, .sipush 200, 3, 0), (8, .if_icmp .ge 115, 3, 0), (11, .lload_n 2, 1, 0),
  (12, .lconst 0, 1, 0), (13, .lcmp, 1, 0), (14, .ifCond .le 109, 3, 0), (17, .lload 6, 2, 0), (19, .lconst 0, 1, 0), (20, .lcmp, 1, 0),
  (21, .ifCond .le 102, 3, 0), (24, .lload_n 0, 1, 0), (25, .lload_n 2, 1, 0), (26, .ldiv, 1, 0), (27, .lstore 9, 2, 0), (29, .lload 4, 2, 0),
  (31, .lload 6, 2, 0), (33, .ldiv, 1, 0), (34, .lstore 11, 2, 0), (36, .lload 9, 2, 0), (38, .lload 11, 2, 0), (40, .lcmp, 1, 0),
  (41, .ifCond .eq 17, 3, 0), (44, .lload 9, 2, 0), (46, .lload 11, 2, 0), (48, .lcmp, 1, 0), (49, .ifCond .le 7, 3, 0), (52, .iconst 1, 1, 0),
  (53, .goto 4, 3, 0), (56, .iconst 0, 1, 0), (57, .ireturn, 1, 0), (58, .lload_n 0, 1, 0), (59, .lload 9, 2, 0), (61, .lload_n 2, 1, 0),
  (62, .lmul, 1, 0), (63, .lsub, 1, 0), (64, .lstore 13, 2, 0), (66, .lload 4, 2, 0), (68, .lload 11, 2, 0), (70, .lload 6, 2, 0),
  (72, .lmul, 1, 0), (73, .lsub, 1, 0), (74, .lstore 15, 2, 0), (76, .lload 13, 2, 0), (78, .lconst 0, 1, 0), (79, .lcmp, 1, 0),
  (80, .ifCond .eq 10, 3, 0), (83, .lload 15, 2, 0), (85, .lconst 0, 1, 0), (86, .lcmp, 1, 0), (87, .ifCond .ne 17, 3, 0), (90, .lload 13, 2, 0),
  (92, .lload 15, 2, 0), (94, .lcmp, 1, 0), (95, .ifCond .le 7, 3, 0), (98, .iconst 1, 1, 0), (99, .goto 4, 3, 0), (102, .iconst 0, 1, 0),
  (103, .ireturn, 1, 0), (104, .lload 6, 2, 0), (106, .lstore_n 0, 1, 0), (107, .lload_n 2, 1, 0), (108, .lstore 4, 2, 0), (110, .lload 15, 2, 0),
  (112, .lstore_n 2, 1, 0), (113, .lload 13, 2, 0), (115, .lstore 6, 2, 0), (117, .iinc 8 1, 3, 0), (120, .goto (-117), 3, 0), (123, .iconst 0, 1, 0),
  (124, .ireturn, 1, 0)]
def kd24 : List (Nat × Instr × Nat × Nat) := [
  (0, .aload_n 0, 1, 0), (1, .iconst 0, 1, 0), (2, .putfield 9, 3, 192), (5, .aload_n 0, 1, 0), (6, .iconst 0, 1, 0), (7, .putfield 15, 3, 193),
  (10, .aload_n 0, 1, 0), (11, .iconst 0, 1, 0), (12, .putfield 22, 3, 195), (15, .aload_n 0, 1, 0), (16, .iconst 0, 1, 0), (17, .putfield 25, 3, 196),
  (20, .return_, 1, 0)]
def kd25 : List (Nat × Instr × Nat × Nat) := [
  (0, .aload_n 0, 1, 0), (1, .aload_n 1, 1, 0), (2, .getfield 9, 3, 192), (5, .putfield 9, 3, 192), (8, .aload_n 0, 1, 0), (9, .aload_n 1, 1, 0),
  (10, .getfield 15, 3, 193), (13, .putfield 15, 3, 193), (16, .aload_n 0, 1, 0), (17, .aload_n 1, 1, 0), (18, .getfield 22, 3, 195), (21, .putfield 22, 3, 195),
  (24, .aload_n 0, 1, 0), (25, .aload_n 1, 1, 0), (26, .getfield 25, 3, 196), (29, .putfield 25, 3, 196), (32, .iconst 0, 1, 0), (33, .istore_n 2, 1, 0),
  (34, .iload_n 2, 1, 0), (35, .aload_n 0, 1, 0), (36, .getfield 9, 3, 192), (39, .if_icmp .ge 21, 3, 0), (42, .aload_n 0, 1, 0), (43, .getfield 18, 3, 194),
  (46, .iload_n 2, 1, 0), (47, .aload_n 1, 1, 0), (48, .getfield 18, 3, 194), (51, .iload_n 2, 1, 0), (52, .iaload, 1, 0), (53, .iastore, 1, 0),
  (54, .iinc 2 1, 3, 0), (57, .goto (-23), 3, 0), (60, .iconst 0, 1, 0), (61, .istore_n 2, 1, 0), (62, .iload_n 2, 1, 0), (63, .aload_n 0, 1, 0),
  (64, .getfield 22, 3, 195), (67, .if_icmp .ge 57, 3, 0), (70, .aload_n 0, 1, 0), (71, .getfield 28, 3, 197), (74, .iload_n 2, 1, 0), (75, .aload_n 1, 1, 0),
  (76, .getfield 28, 3, 197), (79, .iload_n 2, 1, 0), (80, .iaload, 1, 0), (81, .iastore, 1, 0), (82, .aload_n 0, 1, 0), (83, .getfield 31, 3, 198),
  (86, .iload_n 2, 1, 0), (87, .aload_n 1, 1, 0), (88, .getfield 31, 3, 198), (91, .iload_n 2, 1, 0), (92, .iaload, 1, 0), (93, .iastore, 1, 0),
  (94, .aload_n 0, 1, 0), (95, .getfield 34, 3, 199), (98, .iload_n 2, 1, 0), (99, .aload_n 1, 1, 0), (100, .getfield 34, 3, 199), (103, .iload_n 2, 1, 0),
  (104, .iaload, 1, 0), (105, .iastore, 1, 0), (106, .aload_n 0, 1, 0), (107, .getfield 37, 3, 200), (110, .iload_n 2, 1, 0), (111, .aload_n 1, 1, 0),
  (112, .getfield 37, 3, 200), (115, .iload_n 2, 1, 0), (116, .iaload, 1, 0), (117, .iastore, 1, 0), (118, .iinc 2 1, 3, 0), (121, .goto (-59), 3, 0),
  (124, .return_, 1, 0)]
def kd26 : List (Nat × Instr × Nat × Nat) := [
  (0, .aload_n 0, 1, 0), (1, .getfield 9, 3, 192), (4, .bipush 6, 2, 0), (6, .if_icmp .lt 4, 3, 0), (9, .return_, 1, 0), (10, .iload_n 1, 1, 0),
  (11, .ifCond .eq 18, 3, 0), (14, .aload_n 0, 1, 0), (15, .dup, 1, 0), (16, .getfield 15, 3, 193), (19, .iconst 1, 1, 0), (20, .aload_n 0, 1, 0),
  (21, .getfield 9, 3, 192), (24, .ishl, 1, 0), (25, .ior, 1, 0), (26, .putfield 15, 3, 193), (29, .aload_n 0, 1, 0), (30, .getfield 18, 3, 194),
  (33, .aload_n 0, 1, 0), (34, .getfield 9, 3, 192), (37, .iload_n 2, 1, 0), (38, .iastore, 1, 0), (39, .aload_n 0, 1, 0), (40, .dup, 1, 0),
  (41, .getfield 9, 3, 192), (44, .iconst 1, 1, 0), (45, .iadd, 1, 0), (46, .putfield 9, 3, 192), (49, .return_, 1, 0)]
def kd27 : List (Nat × Instr × Nat × Nat) := [
  (0, .aload_n 0, 1, 0), (1, .getfield 22, 3, 195), (4, .bipush 11, 2, 0), (6, .if_icmp .lt 5, 3, 0), (9, .iconst (-1), 1, 0), (10, .ireturn, 1, 0),
  (11, .aload_n 0, 1, 0), (12, .getfield 22, 3, 195), (15, .istore 5, 2, 0), (17, .aload_n 0, 1, 0), (18, .getfield 28, 3, 197), (21, .iload 5, 2, 0),
  (23, .iload_n 1, 1, 0), (24, .iastore, 1, 0), (25, .aload_n 0, 1, 0), (26, .getfield 31, 3, 198), (29, .iload 5, 2, 0), (31, .iload_n 2, 1, 0),
  (32, .iastore, 1, 0), (33, .aload_n 0, 1, 0), (34, .getfield 34, 3, 199), (37, .iload 5, 2, 0), (39, .iload_n 3, 1, 0), (40, .iastore, 1, 0),
  (41, .aload_n 0, 1, 0), (42, .getfield 37, 3, 200), (45, .iload 5, 2, 0), (47, .iload 4, 2, 0), (49, .iastore, 1, 0), (50, .aload_n 0, 1, 0),
  (51, .dup, 1, 0), (52, .getfield 25, 3, 196), (55, .iconst 1, 1, 0), (56, .iload 5, 2, 0), (58, .ishl, 1, 0), (59, .ior, 1, 0),
  (60, .putfield 25, 3, 196), (63, .aload_n 0, 1, 0), (64, .dup, 1, 0), (65, .getfield 22, 3, 195), (68, .iconst 1, 1, 0), (69, .iadd, 1, 0),
  (70, .putfield 22, 3, 195), (73, .iload 5, 2, 0), (75, .ireturn, 1, 0)]
def kd28 : List (Nat × Instr × Nat × Nat) := [
  (0, .aload_n 0, 1, 0), (1, .getfield 15, 3, 193), (4, .iload_n 1, 1, 0), (5, .invokestatic 40, 3, 97), (8, .iconst 1, 1, 0), (9, .if_icmp .ne 7, 3, 0),
  (12, .iconst 1, 1, 0), (13, .goto 4, 3, 0), (16, .iconst 0, 1, 0), (17, .ireturn, 1, 0)]
def kd29 : List (Nat × Instr × Nat × Nat) := [
  (0, .iconst 0, 1, 0), (1, .istore_n 2, 1, 0), (2, .iconst 0, 1, 0), (3, .istore_n 3, 1, 0), (4, .iload_n 3, 1, 0), (5, .aload_n 0, 1, 0),
  (6, .getfield 22, 3, 195), (9, .if_icmp .ge 44, 3, 0), (12, .aload_n 0, 1, 0), (13, .getfield 25, 3, 196), (16, .iload_n 3, 1, 0), (17, .invokestatic 40, 3, 97),
  (20, .iconst 1, 1, 0), (21, .if_icmp .ne 26, 3, 0), (24, .aload_n 0, 1, 0), (25, .getfield 28, 3, 197), (28, .iload_n 3, 1, 0), (29, .iaload, 1, 0),
  (30, .iload_n 1, 1, 0), (31, .if_icmp .eq 13, 3, 0), (34, .aload_n 0, 1, 0), (35, .getfield 31, 3, 198), (38, .iload_n 3, 1, 0), (39, .iaload, 1, 0),
  (40, .iload_n 1, 1, 0), (41, .if_icmp .ne 6, 3, 0), (44, .iinc 2 1, 3, 0), (47, .iinc 3 1, 3, 0), (50, .goto (-46), 3, 0), (53, .iload_n 2, 1, 0),
  (54, .ireturn, 1, 0)]
def kd30 : List (Nat × Instr × Nat × Nat) := [
  (0, .aload_n 1, 1, 0), (1, .invokevirtual 72, 3, 24), (4, .aload_n 0, 1, 0), (5, .iconst 0, 1, 0), (6, .putfield 47, 3, 262), (9, .aload_n 0, 1, 0),
  (10, .iconst 0, 1, 0), (11, .putfield 63, 3, 267), (14, .iconst 0, 1, 0), (15, .istore_n 2, 1, 0), (16, .iload_n 2, 1, 0), (17, .bipush 17, 2, 0),
  (19, .if_icmp .gt 117, 3, 0), (22, .aload_n 0, 1, 0), (23, .invokevirtual 77, 3, 40), (26, .aload_n 0, 1, 0), (27, .getfield 51, 3, 263), (30, .ifCond .ne 30, 3, 0),
  (33, .aload_n 0, 1, 0), (34, .getfield 12, 3, 256), (37, .getfield 80, 3, 321), (40, .sipush 500, 3, 0), (43, .if_icmp .le 11, 3, 0), (46, .aload_n 0, 1, 0),
  (47, .iconst 1, 1, 0), (48, .invokevirtual 83, 3, 39), (51, .ifCond .eq 7, 3, 0), (54, .iconst 1, 1, 0), (55, .goto 4, 3, 0), (58, .iconst 0, 1, 0),
  (59, .ireturn, 1, 0), (60, .aload_n 0, 1, 0), (61, .aload_n 0, 1, 0), (62, .getfield 28, 3, 258), (65, .invokevirtual 87, 3, 36), (68, .ifCond .ne 20, 3, 0),
  (71, .aload_n 0, 1, 0), (72, .aload_n 0, 1, 0), (73, .getfield 34, 3, 259), (76, .invokevirtual 87, 3, 36), (79, .ifCond .ne 9, 3, 0), (82, .aload_n 0, 1, 0),
  (83, .iconst 1, 1, 0), (84, .invokevirtual 83, 3, 39), (87, .ireturn, 1, 0), (88, .aload_n 0, 1, 0), (89, .aload_n 0, 1, 0), (90, .getfield 28, 3, 258),
  (93, .invokevirtual 87, 3, 36), (96, .ifCond .eq 14, 3, 0), (99, .aload_n 0, 1, 0), (100, .aload_n 1, 1, 0), (101, .invokevirtual 91, 3, 31), (104, .ifCond .eq 14, 3, 0),
  (107, .goto 13, 3, 0), (110, .aload_n 0, 1, 0), (111, .aload_n 1, 1, 0), (112, .invokevirtual 95, 3, 32), (115, .ifCond .ne 5, 3, 0), (118, .iconst 0, 1, 0),
  (119, .ireturn, 1, 0), (120, .aload_n 0, 1, 0), (121, .dup, 1, 0), (122, .getfield 63, 3, 267), (125, .iconst 1, 1, 0), (126, .iadd, 1, 0),
  (127, .putfield 63, 3, 267), (130, .iinc 2 1, 3, 0), (133, .goto (-117), 3, 0), (136, .aload_n 0, 1, 0), (137, .iconst 4, 1, 0), (138, .invokevirtual 83, 3, 39),
  (141, .ireturn, 1, 0)]
def kd31 : List (Nat × Instr × Nat × Nat) := [
  (0, .aload_n 1, 1, 0), (1, .getfield 98, 3, 192), (4, .istore_n 2, 1, 0), (5, .iload_n 2, 1, 0), (6, .bipush 6, 2, 0), (8, .if_icmp .lt 9, 3, 0),
  (11, .aload_n 0, 1, 0), (12, .iconst 4, 1, 0), (13, .invokevirtual 83, 3, 39), (16, .ireturn, 1, 0), (17, .aload_n 0, 1, 0), (18, .invokevirtual 77, 3, 40),
  (21, .aload_n 0, 1, 0), (22, .invokevirtual 101, 3, 37), (25, .ifCond .ne 9, 3, 0), (28, .aload_n 0, 1, 0), (29, .iconst 1, 1, 0), (30, .invokevirtual 83, 3, 39),
  (33, .ireturn, 1, 0), (34, .aload_n 0, 1, 0), (35, .iload_n 2, 1, 0), (36, .invokevirtual 105, 3, 38), (39, .iconst (-1), 1, 0), (40, .if_icmp .eq 9, 3, 0),
  (43, .aload_n 0, 1, 0), (44, .iconst 3, 1, 0), (45, .invokevirtual 83, 3, 39), (48, .ireturn, 1, 0), (49, .aload_n 0, 1, 0), (50, .getfield 18, 3, 257),
  (53, .iload_n 2, 1, 0), (54, .aload_n 0, 1, 0), (55, .getfield 57, 3, 265), (58, .lastore, 1, 0), (59, .aload_n 0, 1, 0), (60, .invokevirtual 77, 3, 40),
  (63, .aload_n 0, 1, 0), (64, .getfield 51, 3, 263), (67, .iconst 3, 1, 0), (68, .if_icmp .ne 11, 3, 0), (71, .aload_n 1, 1, 0), (72, .iconst 0, 1, 0),
  (73, .iconst 0, 1, 0), (74, .invokevirtual 109, 3, 26), (77, .iconst 1, 1, 0), (78, .ireturn, 1, 0), (79, .aload_n 0, 1, 0), (80, .invokevirtual 113, 3, 34),
  (83, .ifCond .eq 10, 3, 0), (86, .aload_n 0, 1, 0), (87, .invokevirtual 116, 3, 35), (90, .ifCond .ne 5, 3, 0), (93, .iconst 0, 1, 0), (94, .ireturn, 1, 0),
  (95, .aload_n 1, 1, 0), (96, .iconst 1, 1, 0), (97, .aload_n 0, 1, 0), (98, .getfield 60, 3, 266), (101, .invokevirtual 109, 3, 26), (104, .iconst 1, 1, 0),
  (105, .ireturn, 1, 0)]
def kd32 : List (Nat × Instr × Nat × Nat) := [
  (0, .aload_n 1, 1, 0), (1, .getfield 119, 3, 195), (4, .bipush 11, 2, 0), (6, .if_icmp .lt 9, 3, 0), (9, .aload_n 0, 1, 0), (10, .iconst 4, 1, 0),
  (11, .invokevirtual 83, 3, 39), (14, .ireturn, 1, 0), (15, .aload_n 0, 1, 0), (16, .invokevirtual 77, 3, 40), (19, .aload_n 0, 1, 0), (20, .aload_n 1, 1, 0),
  (21, .getfield 98, 3, 192), (24, .invokevirtual 122, 3, 33), (27, .istore_n 2, 1, 0), (28, .iload_n 2, 1, 0), (29, .iconst (-1), 1, 0), (30, .if_icmp .ne 5, 3, 0),
  (33, .iconst 0, 1, 0), (34, .ireturn, 1, 0), (35, .aload_n 0, 1, 0), (36, .invokevirtual 77, 3, 40), (39, .aload_n 0, 1, 0), (40, .aload_n 1, 1, 0),
  (41, .getfield 98, 3, 192), (44, .invokevirtual 122, 3, 33), (47, .istore_n 3, 1, 0), (48, .iload_n 3, 1, 0), (49, .iconst (-1), 1, 0), (50, .if_icmp .ne 5, 3, 0),
  (53, .iconst 0, 1, 0), (54, .ireturn, 1, 0), (55, .iload_n 3, 1, 0), (56, .iload_n 2, 1, 0), (57, .if_icmp .ne 9, 3, 0), (60, .aload_n 0, 1, 0),
  (61, .iconst 3, 1, 0), (62, .invokevirtual 83, 3, 39), (65, .ireturn, 1, 0), (66, .aload_n 0, 1, 0), (67, .invokevirtual 77, 3, 40), (70, .aload_n 0, 1, 0),
  (71, .invokevirtual 113, 3, 34), (74, .ifCond .ne 5, 3, 0), (77, .iconst 0, 1, 0), (78, .ireturn, 1, 0), (79, .aload_n 0, 1, 0), (80, .invokevirtual 77, 3, 40),
  (83, .aload_n 0, 1, 0), (84, .getfield 51, 3, 263), (87, .iconst 2, 1, 0), (88, .if_icmp .eq 9, 3, 0), (91, .aload_n 0, 1, 0), (92, .iconst 1, 1, 0),
  (93, .invokevirtual 83, 3, 39), (96, .ireturn, 1, 0), (97, .aload_n 0, 1, 0), (98, .getfield 57, 3, 265), (101, .l2i, 1, 0), (102, .istore 4, 2, 0),
  (104, .iload 4, 2, 0), (106, .invokestatic 125, 3, 95), (109, .ifCond .ne 9, 3, 0), (112, .aload_n 0, 1, 0), (113, .iconst 2, 1, 0), (114, .invokevirtual 83, 3, 39),
  (117, .ireturn, 1, 0), (118, .aload_n 0, 1, 0), (119, .invokevirtual 116, 3, 35), (122, .ifCond .ne 5, 3, 0), (125, .iconst 0, 1, 0), (126, .ireturn, 1, 0),
  (127, .aload_n 1, 1, 0), (128, .iload_n 2, 1, 0), (129, .iload_n 3, 1, 0), (130, .aload_n 0, 1, 0), (131, .getfield 60, 3, 266), (134, .iload 4, 2, 0),
  (136, .invokevirtual 128, 3, 27), (139, .pop, 1, 0), (140, .iconst 1, 1, 0), (141, .ireturn, 1, 0)]
def kd33 : List (Nat × Instr × Nat × Nat) := [
  (0, .aload_n 0, 1, 0), (1, .invokevirtual 101, 3, 37), (4, .ifCond .ne 11, 3, 0), (7, .aload_n 0, 1, 0), (8, .iconst 1, 1, 0), (9, .invokevirtual 83, 3, 39),
  (12, .pop, 1, 0), (13, .iconst (-1), 1, 0), (14, .ireturn, 1, 0), (15, .aload_n 0, 1, 0), (16, .iload_n 1, 1, 0), (17, .invokevirtual 105, 3, 38),
  (20, .istore_n 2, 1, 0), (21, .iload_n 2, 1, 0), (22, .iconst (-1), 1, 0), (23, .if_icmp .ne 9, 3, 0), (26, .aload_n 0, 1, 0), (27, .iconst 3, 1, 0),
  (28, .invokevirtual 83, 3, 39), (31, .pop, 1, 0), (32, .iload_n 2, 1, 0), (33, .ireturn, 1, 0)]
def kd34 : List (Nat × Instr × Nat × Nat) := [
  (0, .aload_n 0, 1, 0), (1, .aload_n 0, 1, 0), (2, .getfield 39, 3, 260), (5, .invokevirtual 87, 3, 36), (8, .istore_n 1, 1, 0), (9, .iload_n 1, 1, 0),
  (10, .ifCond .ne 20, 3, 0), (13, .aload_n 0, 1, 0), (14, .aload_n 0, 1, 0), (15, .getfield 44, 3, 261), (18, .invokevirtual 87, 3, 36), (21, .ifCond .ne 9, 3, 0),
  (24, .aload_n 0, 1, 0), (25, .iconst 1, 1, 0), (26, .invokevirtual 83, 3, 39), (29, .ireturn, 1, 0), (30, .aload_n 0, 1, 0), (31, .invokevirtual 77, 3, 40),
  (34, .aload_n 0, 1, 0), (35, .getfield 51, 3, 263), (38, .iconst 2, 1, 0), (39, .if_icmp .eq 9, 3, 0), (42, .aload_n 0, 1, 0), (43, .iconst 1, 1, 0),
  (44, .invokevirtual 83, 3, 39), (47, .ireturn, 1, 0), (48, .aload_n 0, 1, 0), (49, .iload_n 1, 1, 0), (50, .ifCond .eq 11, 3, 0), (53, .aload_n 0, 1, 0),
  (54, .getfield 57, 3, 265), (57, .l2i, 1, 0), (58, .goto 9, 3, 0), (61, .aload_n 0, 1, 0), (62, .getfield 57, 3, 265), (65, .lneg, 1, 0),
  (66, .l2i, 1, 0), (67, .putfield 60, 3, 266), (70, .iconst 1, 1, 0), (71, .ireturn, 1, 0)]
def kd35 : List (Nat × Instr × Nat × Nat) := [
  (0, .aload_n 0, 1, 0), (1, .invokevirtual 77, 3, 40), (4, .aload_n 0, 1, 0), (5, .getfield 51, 3, 263), (8, .iconst 3, 1, 0), (9, .if_icmp .eq 11, 3, 0),
  (12, .aload_n 0, 1, 0), (13, .iconst 1, 1, 0), (14, .invokevirtual 83, 3, 39), (17, .ifCond .eq 7, 3, 0), (20, .iconst 1, 1, 0), (21, .goto 4, 3, 0),
  (24, .iconst 0, 1, 0), (25, .ireturn, 1, 0)]
def kd36 : List (Nat × Instr × Nat × Nat) := [
  (0, .aload_n 0, 1, 0), (1, .getfield 51, 3, 263), (4, .iconst 1, 1, 0), (5, .if_icmp .ne 16, 3, 0), (8, .aload_n 0, 1, 0), (9, .getfield 57, 3, 265),
  (12, .lload_n 1, 1, 0), (13, .lcmp, 1, 0), (14, .ifCond .ne 7, 3, 0), (17, .iconst 1, 1, 0), (18, .goto 4, 3, 0), (21, .iconst 0, 1, 0),
  (22, .ireturn, 1, 0)]
def kd37 : List (Nat × Instr × Nat × Nat) := [
  (0, .aload_n 0, 1, 0), (1, .getfield 51, 3, 263), (4, .iconst 1, 1, 0), (5, .if_icmp .ne 55, 3, 0), (8, .aload_n 0, 1, 0), (9, .getfield 57, 3, 265),
  (12, .aload_n 0, 1, 0), (13, .getfield 28, 3, 258), (16, .lcmp, 1, 0), (17, .ifCond .eq 43, 3, 0), (20, .aload_n 0, 1, 0), (21, .getfield 57, 3, 265),
  (24, .aload_n 0, 1, 0), (25, .getfield 34, 3, 259), (28, .lcmp, 1, 0), (29, .ifCond .eq 31, 3, 0), (32, .aload_n 0, 1, 0), (33, .getfield 57, 3, 265),
  (36, .aload_n 0, 1, 0), (37, .getfield 39, 3, 260), (40, .lcmp, 1, 0), (41, .ifCond .eq 19, 3, 0), (44, .aload_n 0, 1, 0), (45, .getfield 57, 3, 265),
  (48, .aload_n 0, 1, 0), (49, .getfield 44, 3, 261), (52, .lcmp, 1, 0), (53, .ifCond .eq 7, 3, 0), (56, .iconst 1, 1, 0), (57, .goto 4, 3, 0),
  (60, .iconst 0, 1, 0), (61, .ireturn, 1, 0)]
def kd38 : List (Nat × Instr × Nat × Nat) := [
  (0, .iconst 0, 1, 0), (1, .istore_n 2, 1, 0), (2, .iload_n 2, 1, 0), (3, .iload_n 1, 1, 0), (4, .if_icmp .ge 31, 3, 0), (7, .iload_n 2, 1, 0),
  (8, .bipush 6, 2, 0), (10, .if_icmp .ge 25, 3, 0), (13, .aload_n 0, 1, 0), (14, .getfield 18, 3, 257), (17, .iload_n 2, 1, 0), (18, .laload, 1, 0),
  (19, .aload_n 0, 1, 0), (20, .getfield 57, 3, 265), (23, .lcmp, 1, 0), (24, .ifCond .ne 5, 3, 0), (27, .iload_n 2, 1, 0), (28, .ireturn, 1, 0),
  (29, .iinc 2 1, 3, 0), (32, .goto (-30), 3, 0), (35, .iconst (-1), 1, 0), (36, .ireturn, 1, 0)]
def kd39 : List (Nat × Instr × Nat × Nat) := [
  (0, .aload_n 0, 1, 0), (1, .iload_n 1, 1, 0), (2, .putfield 66, 3, 268), (5, .aload_n 0, 1, 0), (6, .aload_n 0, 1, 0), (7, .getfield 54, 3, 264),
  (10, .putfield 69, 3, 269), (13, .iconst 0, 1, 0), (14, .ireturn, 1, 0)]
def kd40 : List (Nat × Instr × Nat × Nat) := [
  (0, .aload_n 0, 1, 0), (1, .getfield 12, 3, 256), (4, .getfield 80, 3, 321), (7, .sipush 500, 3, 0), (10, .invokestatic 132, 3, 204), (13, .istore_n 1, 1, 0),
  (14, .aload_n 0, 1, 0), (15, .getfield 47, 3, 262), (18, .iload_n 1, 1, 0), (19, .if_icmp .ge 50, 3, 0), (22, .aload_n 0, 1, 0), (23, .getfield 12, 3, 256),
  (26, .getfield 138, 3, 320), (29, .aload_n 0, 1, 0), (30, .getfield 47, 3, 262), (33, .baload, 1, 0), (34, .bipush 32, 2, 0), (36, .if_icmp .eq 20, 3, 0),
  (39, .aload_n 0, 1, 0), (40, .getfield 12, 3, 256), (43, .getfield 138, 3, 320), (46, .aload_n 0, 1, 0), (47, .getfield 47, 3, 262), (50, .baload, 1, 0),
  (51, .bipush 10, 2, 0), (53, .if_icmp .ne 16, 3, 0), (56, .aload_n 0, 1, 0), (57, .dup, 1, 0), (58, .getfield 47, 3, 262), (61, .iconst 1, 1, 0),
  (62, .iadd, 1, 0), (63, .putfield 47, 3, 262), (66, .goto (-52), 3, 0), (69, .aload_n 0, 1, 0), (70, .getfield 47, 3, 262), (73, .iload_n 1, 1, 0),
  (74, .if_icmp .lt 14, 3, 0), (77, .aload_n 0, 1, 0), (78, .iconst 0, 1, 0), (79, .putfield 51, 3, 263), (82, .aload_n 0, 1, 0), (83, .iload_n 1, 1, 0),
  (84, .putfield 54, 3, 264), (87, .return_, 1, 0), (88, .aload_n 0, 1, 0), (89, .aload_n 0, 1, 0), (90, .getfield 47, 3, 262), (93, .putfield 54, 3, 264),
  (96, .aload_n 0, 1, 0), (97, .getfield 12, 3, 256), (100, .getfield 138, 3, 320), (103, .aload_n 0, 1, 0), (104, .getfield 47, 3, 262), (107, .baload, 1, 0),
  (108, .bipush 59, 2, 0), (110, .if_icmp .ne 19, 3, 0), (113, .aload_n 0, 1, 0), (114, .iconst 3, 1, 0), (115, .putfield 51, 3, 263), (118, .aload_n 0, 1, 0),
  (119, .dup, 1, 0), (120, .getfield 47, 3, 262), (123, .iconst 1, 1, 0), (124, .iadd, 1, 0), (125, .putfield 47, 3, 262), (128, .return_, 1, 0),
  (129, .aload_n 0, 1, 0), (130, .invokevirtual 142, 3, 41), (133, .return_, 1, 0)]
def kd41 : List (Nat × Instr × Nat × Nat) := [
  (0, .iconst 0, 1, 0), (1, .istore_n 1, 1, 0), (2, .iconst 0, 1, 0), (3, .istore_n 2, 1, 0), (4, .aload_n 0, 1, 0), (5, .lconst 0, 1, 0),
  (6, .putfield 57, 3, 265), (9, .aload_n 0, 1, 0), (10, .getfield 47, 3, 262), (13, .aload_n 0, 1, 0), (14, .getfield 12, 3, 256), (17, .getfield 80, 3, 321),
  (20, .if_icmp .ge 92, 3, 0), (23, .aload_n 0, 1, 0), (24, .getfield 12, 3, 256), (27, .getfield 138, 3, 320), (30, .aload_n 0, 1, 0), (31, .getfield 47, 3, 262),
  (34, .baload, 1, 0), (35, .istore_n 3, 1, 0), (36, .iload_n 3, 1, 0), (37, .bipush 97, 2, 0), (39, .if_icmp .lt 27, 3, 0), (42, .iload_n 3, 1, 0),
  (43, .bipush 122, 2, 0), (45, .if_icmp .gt 21, 3, 0), (48, .iinc 1 1, 3, 0), (51, .aload_n 0, 1, 0), (52, .aload_n 0, 1, 0), (53, .getfield 57, 3, 265),
  (56, .iload_n 3, 1, 0), (57, .invokestatic 145, 3, 42), (60, .putfield 57, 3, 265), (63, .goto 36, 3, 0), (66, .iload_n 3, 1, 0), (67, .bipush 48, 2, 0),
  (69, .if_icmp .lt 43, 3, 0), (72, .iload_n 3, 1, 0), (73, .bipush 57, 2, 0), (75, .if_icmp .gt 37, 3, 0), (78, .iinc 2 1, 3, 0), (81, .aload_n 0, 1, 0),
  (82, .aload_n 0, 1, 0), (83, .getfield 57, 3, 265), (86, .ldc2_w 149, 3, 1), (89, .lmul, 1, 0), (90, .iload_n 3, 1, 0), (91, .bipush 48, 2, 0),
  (93, .isub, 1, 0), (94, .i2l, 1, 0), (95, .ladd, 1, 0), (96, .putfield 57, 3, 265), (99, .aload_n 0, 1, 0), (100, .dup, 1, 0),
  (101, .getfield 47, 3, 262), (104, .iconst 1, 1, 0), (105, .iadd, 1, 0), (106, .putfield 47, 3, 262), (109, .goto (-100), 3, 0), (112, .iload_n 2, 1, 0),
  (113, .ifCond .ne 22, 3, 0), (116, .iload_n 1, 1, 0), (117, .iconst 1, 1, 0), (118, .if_icmp .lt 17, 3, 0), (121, .iload_n 1, 1, 0), (122, .bipush 7, 2, 0),
  (124, .if_icmp .gt 11, 3, 0), (127, .aload_n 0, 1, 0), (128, .iconst 1, 1, 0), (129, .putfield 51, 3, 263), (132, .goto 30, 3, 0), (135, .iload_n 1, 1, 0),
  (136, .ifCond .ne 21, 3, 0), (139, .iload_n 2, 1, 0), (140, .iconst 1, 1, 0), (141, .if_icmp .lt 16, 3, 0), (144, .iload_n 2, 1, 0), (145, .iconst 2, 1, 0),
  (146, .if_icmp .gt 11, 3, 0), (149, .aload_n 0, 1, 0), (150, .iconst 2, 1, 0), (151, .putfield 51, 3, 263), (154, .goto 8, 3, 0), (157, .aload_n 0, 1, 0),
  (158, .iconst 4, 1, 0), (159, .putfield 51, 3, 263), (162, .return_, 1, 0)]
def kd42 : List (Nat × Instr × Nat × Nat) := [
  (0, .lload_n 0, 1, 0), (1, .ldc2_w 151, 3, 2), (4, .lmul, 1, 0), (5, .iload_n 2, 1, 0), (6, .bipush 97, 2, 0), (8, .isub, 1, 0),
  (9, .iconst 1, 1, 0), (10, .iadd, 1, 0), (11, .i2l, 1, 0), (12, .ladd, 1, 0), (13, .lreturn, 1, 0)]
def kd43 : List (Nat × Instr × Nat × Nat) := [
  (0, .bipush 24, 2, 0), (2, .istore_n 2, 1, 0), (3, .iload_n 2, 1, 0), (4, .ifCond .lt 42, 3, 0), (7, .aload_n 0, 1, 0), (8, .getfield 15, 3, 321),
  (11, .sipush 540, 3, 0), (14, .if_icmp .ge 32, 3, 0), (17, .aload_n 0, 1, 0), (18, .getfield 9, 3, 320), (21, .aload_n 0, 1, 0), (22, .getfield 15, 3, 321),
  (25, .iload_n 1, 1, 0), (26, .iload_n 2, 1, 0), (27, .iushr, 1, 0), (28, .i2b, 1, 0), (29, .bastore, 1, 0), (30, .aload_n 0, 1, 0),
  (31, .dup, 1, 0), (32, .getfield 15, 3, 321), (35, .iconst 1, 1, 0), (36, .iadd, 1, 0), (37, .putfield 15, 3, 321), (40, .iinc 2 (-8), 3, 0),
  (43, .goto (-40), 3, 0), (46, .return_, 1, 0)]
def kd44 : List (Nat × Instr × Nat × Nat) := [
  (0, .iconst 0, 1, 0), (1, .istore_n 2, 1, 0), (2, .iload_n 2, 1, 0), (3, .bipush 6, 2, 0), (5, .if_icmp .ge 30, 3, 0), (8, .aload_n 0, 1, 0),
  (9, .getfield 9, 3, 384), (12, .iload_n 2, 1, 0), (13, .iload_n 2, 1, 0), (14, .iastore, 1, 0), (15, .aload_n 0, 1, 0), (16, .getfield 28, 3, 389),
  (19, .iload_n 2, 1, 0), (20, .iconst 0, 1, 0), (21, .iastore, 1, 0), (22, .aload_n 0, 1, 0), (23, .getfield 31, 3, 390), (26, .iload_n 2, 1, 0),
  (27, .iconst 0, 1, 0), (28, .iastore, 1, 0), (29, .iinc 2 1, 3, 0), (32, .goto (-30), 3, 0), (35, .aload_n 0, 1, 0), (36, .aload_n 1, 1, 0),
  (37, .invokevirtual 34, 3, 49), (40, .istore_n 2, 1, 0), (41, .aload_n 0, 1, 0), (42, .aload_n 1, 1, 0), (43, .invokevirtual 38, 3, 50), (46, .aload_n 0, 1, 0),
  (47, .iload_n 2, 1, 0), (48, .iconst (-1), 1, 0), (49, .if_icmp .ne 7, 3, 0), (52, .iconst (-1), 1, 0), (53, .goto 9, 3, 0), (56, .aload_n 0, 1, 0),
  (57, .getfield 9, 3, 384), (60, .iload_n 2, 1, 0), (61, .iaload, 1, 0), (62, .putfield 25, 3, 388), (65, .aload_n 0, 1, 0), (66, .aload_n 1, 1, 0),
  (67, .invokevirtual 42, 3, 52), (70, .aload_n 0, 1, 0), (71, .aload_n 1, 1, 0), (72, .getfield 45, 3, 196), (75, .aload_n 0, 1, 0), (76, .getfield 15, 3, 385),
  (79, .iconst (-1), 1, 0), (80, .ixor, 1, 0), (81, .iand, 1, 0), (82, .putfield 19, 3, 386), (85, .iconst 0, 1, 0), (86, .istore_n 3, 1, 0),
  (87, .iconst 0, 1, 0), (88, .istore 4, 2, 0), (90, .iload 4, 2, 0), (92, .aload_n 1, 1, 0), (93, .getfield 50, 3, 195), (96, .if_icmp .ge 32, 3, 0),
  (99, .aload_n 0, 1, 0), (100, .getfield 19, 3, 386), (103, .iload 4, 2, 0), (105, .invokestatic 53, 3, 97), (108, .iconst 1, 1, 0), (109, .if_icmp .ne 13, 3, 0),
  (112, .iload_n 3, 1, 0), (113, .aload_n 0, 1, 0), (114, .aload_n 1, 1, 0), (115, .iload 4, 2, 0), (117, .invokevirtual 57, 3, 47), (120, .ior, 1, 0),
  (121, .istore_n 3, 1, 0), (122, .iinc 4 1, 3, 0), (125, .goto (-35), 3, 0), (128, .aload_n 0, 1, 0), (129, .aload_n 0, 1, 0), (130, .getfield 15, 3, 385),
  (133, .iload_n 3, 1, 0), (134, .iconst (-1), 1, 0), (135, .ixor, 1, 0), (136, .iand, 1, 0), (137, .putfield 22, 3, 387), (140, .return_, 1, 0)]
def kd45 : List (Nat × Instr × Nat × Nat) := [
  (0, .aload_n 0, 1, 0), (1, .getfield 9, 3, 384), (4, .iload_n 1, 1, 0), (5, .iaload, 1, 0), (6, .iload_n 1, 1, 0), (7, .if_icmp .ne 15, 3, 0),
  (10, .iload_n 1, 1, 0), (11, .aload_n 0, 1, 0), (12, .getfield 25, 3, 388), (15, .if_icmp .eq 7, 3, 0), (18, .iconst 1, 1, 0), (19, .goto 4, 3, 0),
  (22, .iconst 0, 1, 0), (23, .ireturn, 1, 0)]
def kd46 : List (Nat × Instr × Nat × Nat) := [
  (0, .iconst 0, 1, 0), (1, .istore_n 2, 1, 0), (2, .iconst 0, 1, 0), (3, .istore_n 3, 1, 0), (4, .iload_n 3, 1, 0), (5, .aload_n 1, 1, 0),
  (6, .getfield 61, 3, 192), (9, .if_icmp .ge 22, 3, 0), (12, .aload_n 0, 1, 0), (13, .getfield 9, 3, 384), (16, .iload_n 3, 1, 0), (17, .iaload, 1, 0),
  (18, .iload_n 3, 1, 0), (19, .if_icmp .ne 6, 3, 0), (22, .iinc 2 1, 3, 0), (25, .iinc 3 1, 3, 0), (28, .goto (-24), 3, 0), (31, .iload_n 2, 1, 0),
  (32, .ireturn, 1, 0)]
def kd47 : List (Nat × Instr × Nat × Nat) := [
  (0, .aload_n 0, 1, 0), (1, .getfield 28, 3, 389), (4, .aload_n 1, 1, 0), (5, .getfield 64, 3, 197), (8, .iload_n 2, 1, 0), (9, .iaload, 1, 0),
  (10, .iaload, 1, 0), (11, .aload_n 0, 1, 0), (12, .getfield 28, 3, 389), (15, .aload_n 1, 1, 0), (16, .getfield 67, 3, 198), (19, .iload_n 2, 1, 0),
  (20, .iaload, 1, 0), (21, .iaload, 1, 0), (22, .ixor, 1, 0), (23, .ireturn, 1, 0)]
def kd48 : List (Nat × Instr × Nat × Nat) := [
  (0, .aload_n 1, 1, 0), (1, .getfield 70, 3, 199), (4, .iload_n 2, 1, 0), (5, .iaload, 1, 0), (6, .aload_n 0, 1, 0), (7, .getfield 31, 3, 390),
  (10, .aload_n 1, 1, 0), (11, .getfield 67, 3, 198), (14, .iload_n 2, 1, 0), (15, .iaload, 1, 0), (16, .iaload, 1, 0), (17, .aload_n 0, 1, 0),
  (18, .getfield 31, 3, 390), (21, .aload_n 1, 1, 0), (22, .getfield 64, 3, 197), (25, .iload_n 2, 1, 0), (26, .iaload, 1, 0), (27, .iaload, 1, 0),
  (28, .isub, 1, 0), (29, .isub, 1, 0), (30, .ireturn, 1, 0)]
def kd49 : List (Nat × Instr × Nat × Nat) := [
  (0, .iconst (-1), 1, 0), (1, .istore_n 2, 1, 0), (2, .iconst 0, 1, 0), (3, .istore_n 3, 1, 0), (4, .iload_n 3, 1, 0), (5, .aload_n 1, 1, 0),
  (6, .getfield 61, 3, 192), (9, .if_icmp .ge 35, 3, 0), (12, .aload_n 1, 1, 0), (13, .iload_n 3, 1, 0), (14, .invokevirtual 73, 3, 28), (17, .ifCond .eq 21, 3, 0),
  (20, .iload_n 2, 1, 0), (21, .iconst (-1), 1, 0), (22, .if_icmp .ne 7, 3, 0), (25, .iload_n 3, 1, 0), (26, .goto 4, 3, 0), (29, .iload_n 2, 1, 0),
  (30, .istore_n 2, 1, 0), (31, .aload_n 0, 1, 0), (32, .getfield 9, 3, 384), (35, .iload_n 3, 1, 0), (36, .iload_n 2, 1, 0), (37, .iastore, 1, 0),
  (38, .iinc 3 1, 3, 0), (41, .goto (-37), 3, 0), (44, .iload_n 2, 1, 0), (45, .ireturn, 1, 0)]
def kd50 : List (Nat × Instr × Nat × Nat) := [
  (0, .aload_n 0, 1, 0), (1, .iconst 0, 1, 0), (2, .putfield 15, 3, 385), (5, .iconst 0, 1, 0), (6, .istore_n 2, 1, 0), (7, .iload_n 2, 1, 0),
  (8, .aload_n 1, 1, 0), (9, .getfield 50, 3, 195), (12, .if_icmp .ge 80, 3, 0), (15, .aload_n 0, 1, 0), (16, .getfield 9, 3, 384), (19, .aload_n 1, 1, 0),
  (20, .getfield 64, 3, 197), (23, .iload_n 2, 1, 0), (24, .iaload, 1, 0), (25, .iaload, 1, 0), (26, .istore_n 3, 1, 0), (27, .aload_n 0, 1, 0),
  (28, .getfield 9, 3, 384), (31, .aload_n 1, 1, 0), (32, .getfield 67, 3, 198), (35, .iload_n 2, 1, 0), (36, .iaload, 1, 0), (37, .iaload, 1, 0),
  (38, .istore 4, 2, 0), (40, .aload_n 1, 1, 0), (41, .getfield 45, 3, 196), (44, .iload_n 2, 1, 0), (45, .invokestatic 53, 3, 97), (48, .iconst 1, 1, 0),
  (49, .if_icmp .ne 37, 3, 0), (52, .iload_n 3, 1, 0), (53, .iload 4, 2, 0), (55, .if_icmp .eq 31, 3, 0), (58, .aload_n 0, 1, 0), (59, .dup, 1, 0),
  (60, .getfield 15, 3, 385), (63, .iconst 1, 1, 0), (64, .iload_n 2, 1, 0), (65, .ishl, 1, 0), (66, .ior, 1, 0), (67, .putfield 15, 3, 385),
  (70, .aload_n 0, 1, 0), (71, .iload_n 3, 1, 0), (72, .iload 4, 2, 0), (74, .invokestatic 77, 3, 204), (77, .iload_n 3, 1, 0), (78, .iload 4, 2, 0),
  (80, .invokestatic 82, 3, 203), (83, .invokevirtual 85, 3, 51), (86, .iinc 2 1, 3, 0), (89, .goto (-82), 3, 0), (92, .return_, 1, 0)]
def kd51 : List (Nat × Instr × Nat × Nat) := [
  (0, .iconst 0, 1, 0), (1, .istore_n 3, 1, 0), (2, .iload_n 3, 1, 0), (3, .bipush 6, 2, 0), (5, .if_icmp .ge 26, 3, 0), (8, .aload_n 0, 1, 0),
  (9, .getfield 9, 3, 384), (12, .iload_n 3, 1, 0), (13, .iaload, 1, 0), (14, .iload_n 2, 1, 0), (15, .if_icmp .ne 10, 3, 0), (18, .aload_n 0, 1, 0),
  (19, .getfield 9, 3, 384), (22, .iload_n 3, 1, 0), (23, .iload_n 1, 1, 0), (24, .iastore, 1, 0), (25, .iinc 3 1, 3, 0), (28, .goto (-26), 3, 0),
  (31, .return_, 1, 0)]
def kd52 : List (Nat × Instr × Nat × Nat) := [
  (0, .iconst 0, 1, 0), (1, .istore_n 2, 1, 0), (2, .iconst 0, 1, 0), (3, .istore_n 3, 1, 0), (4, .iload_n 3, 1, 0), (5, .aload_n 1, 1, 0),
  (6, .getfield 61, 3, 192), (9, .if_icmp .ge 51, 3, 0), (12, .aload_n 1, 1, 0), (13, .iload_n 3, 1, 0), (14, .invokevirtual 73, 3, 28), (17, .ifCond .eq 15, 3, 0),
  (20, .aload_n 0, 1, 0), (21, .getfield 31, 3, 390), (24, .iload_n 3, 1, 0), (25, .aload_n 1, 1, 0), (26, .getfield 89, 3, 194), (29, .iload_n 3, 1, 0),
  (30, .iaload, 1, 0), (31, .iastore, 1, 0), (32, .aload_n 1, 1, 0), (33, .iload_n 3, 1, 0), (34, .invokevirtual 73, 3, 28), (37, .ifCond .ne 11, 3, 0),
  (40, .aload_n 0, 1, 0), (41, .iload_n 3, 1, 0), (42, .invokevirtual 92, 3, 45), (45, .ifCond .eq 9, 3, 0), (48, .iload_n 2, 1, 0), (49, .iconst 1, 1, 0),
  (50, .iload_n 3, 1, 0), (51, .ishl, 1, 0), (52, .ior, 1, 0), (53, .istore_n 2, 1, 0), (54, .iinc 3 1, 3, 0), (57, .goto (-53), 3, 0),
  (60, .iconst 0, 1, 0), (61, .istore_n 3, 1, 0), (62, .iload_n 3, 1, 0), (63, .aload_n 1, 1, 0), (64, .getfield 61, 3, 192), (67, .if_icmp .ge 49, 3, 0),
  (70, .iconst 0, 1, 0), (71, .istore 4, 2, 0), (73, .iload 4, 2, 0), (75, .aload_n 1, 1, 0), (76, .getfield 50, 3, 195), (79, .if_icmp .ge 31, 3, 0),
  (82, .aload_n 0, 1, 0), (83, .getfield 15, 3, 385), (86, .iload 4, 2, 0), (88, .invokestatic 53, 3, 97), (91, .iconst 1, 1, 0), (92, .if_icmp .ne 12, 3, 0),
  (95, .aload_n 0, 1, 0), (96, .aload_n 1, 1, 0), (97, .iload 4, 2, 0), (99, .iload_n 2, 1, 0), (100, .invokevirtual 95, 3, 53), (103, .istore_n 2, 1, 0),
  (104, .iinc 4 1, 3, 0), (107, .goto (-34), 3, 0), (110, .iinc 3 1, 3, 0), (113, .goto (-51), 3, 0), (116, .return_, 1, 0)]
def kd53 : List (Nat × Instr × Nat × Nat) := [
  (0, .aload_n 1, 1, 0), (1, .getfield 64, 3, 197), (4, .iload_n 2, 1, 0), (5, .iaload, 1, 0), (6, .istore 4, 2, 0), (8, .aload_n 1, 1, 0),
  (9, .getfield 67, 3, 198), (12, .iload_n 2, 1, 0), (13, .iaload, 1, 0), (14, .istore 5, 2, 0), (16, .iload_n 3, 1, 0), (17, .iload 4, 2, 0),
  (19, .invokestatic 53, 3, 97), (22, .iload_n 3, 1, 0), (23, .iload 5, 2, 0), (25, .invokestatic 53, 3, 97), (28, .if_icmp .ne 5, 3, 0), (31, .iload_n 3, 1, 0),
  (32, .ireturn, 1, 0), (33, .iload_n 3, 1, 0), (34, .iload 4, 2, 0), (36, .invokestatic 53, 3, 97), (39, .iconst 1, 1, 0), (40, .if_icmp .ne 7, 3, 0),
  (43, .iconst 1, 1, 0), (44, .goto 4, 3, 0), (47, .iconst 0, 1, 0), (48, .istore 6, 2, 0), (50, .iload 6, 2, 0), (52, .ifCond .eq 8, 3, 0),
  (55, .iload 4, 2, 0), (57, .goto 5, 3, 0), (60, .iload 5, 2, 0), (62, .istore 7, 2, 0), (64, .iload 6, 2, 0), (66, .ifCond .eq 8, 3, 0),
  (69, .iload 5, 2, 0), (71, .goto 5, 3, 0), (74, .iload 4, 2, 0), (76, .istore 8, 2, 0), (78, .aload_n 0, 1, 0), (79, .getfield 28, 3, 389),
  (82, .iload 8, 2, 0), (84, .aload_n 0, 1, 0), (85, .getfield 28, 3, 389), (88, .iload 7, 2, 0), (90, .iaload, 1, 0), (91, .iconst 1, 1, 0),
  (92, .iload_n 2, 1, 0), (93, .ishl, 1, 0), (94, .ior, 1, 0), (95, .iastore, 1, 0), (96, .aload_n 0, 1, 0), (97, .getfield 31, 3, 390),
  (100, .iload 8, 2, 0), (102, .aload_n 0, 1, 0), (103, .getfield 31, 3, 390), (106, .iload 7, 2, 0), (108, .iaload, 1, 0), (109, .iload 6, 2, 0),
  (111, .ifCond .eq 12, 3, 0), (114, .aload_n 1, 1, 0), (115, .getfield 70, 3, 199), (118, .iload_n 2, 1, 0), (119, .iaload, 1, 0), (120, .goto 10, 3, 0),
  (123, .aload_n 1, 1, 0), (124, .getfield 70, 3, 199), (127, .iload_n 2, 1, 0), (128, .iaload, 1, 0), (129, .ineg, 1, 0), (130, .iadd, 1, 0),
  (131, .iastore, 1, 0), (132, .iload_n 3, 1, 0), (133, .iconst 1, 1, 0), (134, .iload 8, 2, 0), (136, .ishl, 1, 0), (137, .ior, 1, 0),
  (138, .ireturn, 1, 0)]
def kd54 : List (Nat × Instr × Nat × Nat) := [
  (0, .aload_n 0, 1, 0), (1, .getfield 20, 3, 449), (4, .getfield 70, 3, 321), (7, .bipush 20, 2, 0), (9, .iadd, 1, 0), (10, .sipush 540, 3, 0),
  (13, .if_icmp .le 5, 3, 0), (16, .iconst (-1), 1, 0), (17, .ireturn, 1, 0), (18, .aload_n 0, 1, 0), (19, .getfield 20, 3, 449), (22, .iload_n 1, 1, 0),
  (23, .invokevirtual 75, 3, 43), (26, .aload_n 0, 1, 0), (27, .getfield 20, 3, 449), (30, .iload_n 2, 1, 0), (31, .invokevirtual 75, 3, 43), (34, .aload_n 0, 1, 0),
  (35, .getfield 20, 3, 449), (38, .iload_n 3, 1, 0), (39, .invokevirtual 75, 3, 43), (42, .aload_n 0, 1, 0), (43, .getfield 20, 3, 449), (46, .iload 4, 2, 0),
  (48, .invokevirtual 75, 3, 43), (51, .aload_n 0, 1, 0), (52, .getfield 20, 3, 449), (55, .iload 5, 2, 0), (57, .invokevirtual 75, 3, 43), (60, .aload_n 0, 1, 0),
  (61, .getfield 20, 3, 449), (64, .getfield 70, 3, 321), (67, .ireturn, 1, 0)]
def kd55 : List (Nat × Instr × Nat × Nat) := [
  (0, .iload_n 1, 1, 0), (1, .ifCond .lt 14, 3, 0), (4, .iload_n 1, 1, 0), (5, .aload_n 0, 1, 0), (6, .getfield 20, 3, 449), (9, .getfield 70, 3, 321),
  (12, .if_icmp .le 5, 3, 0), (15, .iconst 0, 1, 0), (16, .ireturn, 1, 0), (17, .aload_n 0, 1, 0), (18, .getfield 20, 3, 449), (21, .iload_n 1, 1, 0),
  (22, .putfield 70, 3, 321), (25, .iconst 1, 1, 0), (26, .ireturn, 1, 0)]
def kd56 : List (Nat × Instr × Nat × Nat) := [
  (0, .aload_n 0, 1, 0), (1, .getfield 10, 3, 448), (4, .aload_n 0, 1, 0), (5, .getfield 28, 3, 451), (8, .invokevirtual 79, 3, 30), (11, .istore_n 1, 1, 0),
  (12, .aload_n 0, 1, 0), (13, .getfield 20, 3, 449), (16, .iconst 0, 1, 0), (17, .putfield 70, 3, 321), (20, .iload_n 1, 1, 0), (21, .ifCond .ne 35, 3, 0),
  (24, .aload_n 0, 1, 0), (25, .aload_n 0, 1, 0), (26, .getfield 10, 3, 448), (29, .getfield 83, 3, 268), (32, .putfield 46, 3, 455), (35, .aload_n 0, 1, 0),
  (36, .aload_n 0, 1, 0), (37, .getfield 10, 3, 448), (40, .getfield 84, 3, 267), (43, .putfield 49, 3, 456), (46, .iconst (-1), 1, 0), (47, .aload_n 0, 1, 0),
  (48, .getfield 10, 3, 448), (51, .getfield 87, 3, 269), (54, .isub, 1, 0), (55, .ireturn, 1, 0), (56, .aload_n 0, 1, 0), (57, .iconst 0, 1, 0),
  (58, .putfield 46, 3, 455), (61, .aload_n 0, 1, 0), (62, .iconst (-1), 1, 0), (63, .putfield 49, 3, 456), (66, .aload_n 0, 1, 0), (67, .getfield 24, 3, 450),
  (70, .aload_n 0, 1, 0), (71, .getfield 28, 3, 451), (74, .invokevirtual 90, 3, 25), (77, .aload_n 0, 1, 0), (78, .getfield 34, 3, 452), (81, .invokevirtual 94, 3, 2),
  (84, .aload_n 0, 1, 0), (85, .iconst 1, 1, 0), (86, .putfield 66, 3, 459), (89, .aload_n 0, 1, 0), (90, .getfield 10, 3, 448), (93, .getfield 84, 3, 267),
  (96, .ireturn, 1, 0)]
def kd57 : List (Nat × Instr × Nat × Nat) := [
  (0, .iload_n 1, 1, 0), (1, .lookupswitch 37 #[(0, 27), (1, 32)], 27, 0), (28, .aload_n 0, 1, 0), (29, .getfield 46, 3, 455), (32, .ireturn, 1, 0), (33, .aload_n 0, 1, 0),
  (34, .getfield 49, 3, 456), (37, .ireturn, 1, 0), (38, .iconst (-1), 1, 0), (39, .ireturn, 1, 0)]
def kd58 : List (Nat × Instr × Nat × Nat) := [
  (0, .aload_n 0, 1, 0), (1, .iload_n 1, 1, 0), (2, .invokevirtual 97, 3, 89), (5, .ifCond .eq 12, 3, 0), (8, .iload_n 2, 1, 0), (9, .ifCond .lt 8, 3, 0),
  (12, .iload_n 2, 1, 0), (13, .iconst 4, 1, 0), (14, .if_icmp .le 11, 3, 0), (17, .new 101, 3, 1), (20, .dup, 1, 0), (21, .invokespecial 103, 3, 0),
  (24, .athrow, 1, 0), (25, .aload_n 0, 1, 0), (26, .invokevirtual 104, 3, 87), (29, .iload_n 2, 1, 0), (30, .tableswitch 100 0 3 #[30, 47, 73, 83], 30, 0), (60, .aload_n 0, 1, 0),
  (61, .getfield 24, 3, 450), (64, .iload_n 1, 1, 0), (65, .invokevirtual 107, 3, 28), (68, .ifCond .eq 7, 3, 0), (71, .iconst 1, 1, 0), (72, .goto 4, 3, 0),
  (75, .iconst 0, 1, 0), (76, .ireturn, 1, 0), (77, .aload_n 0, 1, 0), (78, .getfield 24, 3, 450), (81, .iload_n 1, 1, 0), (82, .invokevirtual 107, 3, 28),
  (85, .ifCond .eq 15, 3, 0), (88, .aload_n 0, 1, 0), (89, .getfield 24, 3, 450), (92, .getfield 110, 3, 194), (95, .iload_n 1, 1, 0), (96, .iaload, 1, 0),
  (97, .goto 5, 3, 0), (100, .ldc 114, 2, 0), (102, .ireturn, 1, 0), (103, .aload_n 0, 1, 0), (104, .getfield 55, 3, 457), (107, .getfield 115, 3, 384),
  (110, .iload_n 1, 1, 0), (111, .iaload, 1, 0), (112, .ireturn, 1, 0), (113, .aload_n 0, 1, 0), (114, .getfield 55, 3, 457), (117, .iload_n 1, 1, 0),
  (118, .invokevirtual 118, 3, 45), (121, .ifCond .eq 7, 3, 0), (124, .iconst 1, 1, 0), (125, .goto 4, 3, 0), (128, .iconst 0, 1, 0), (129, .ireturn, 1, 0),
  (130, .aload_n 0, 1, 0), (131, .getfield 24, 3, 450), (134, .iload_n 1, 1, 0), (135, .invokevirtual 121, 3, 29), (138, .ireturn, 1, 0)]
def kd59 : List (Nat × Instr × Nat × Nat) := [
  (0, .aload_n 0, 1, 0), (1, .iload_n 1, 1, 0), (2, .invokevirtual 125, 3, 90), (5, .ifCond .eq 13, 3, 0), (8, .iload_n 2, 1, 0), (9, .ifCond .lt 9, 3, 0),
  (12, .iload_n 2, 1, 0), (13, .bipush 6, 2, 0), (15, .if_icmp .le 11, 3, 0), (18, .new 101, 3, 1), (21, .dup, 1, 0), (22, .invokespecial 103, 3, 0),
  (25, .athrow, 1, 0), (26, .aload_n 0, 1, 0), (27, .invokevirtual 104, 3, 87), (30, .iload_n 2, 1, 0), (31, .tableswitch 101 0 5 #[37, 47, 57, 67, 77, 89], 37, 0), (68, .aload_n 0, 1, 0),
  (69, .getfield 24, 3, 450), (72, .getfield 128, 3, 197), (75, .iload_n 1, 1, 0), (76, .iaload, 1, 0), (77, .ireturn, 1, 0), (78, .aload_n 0, 1, 0),
  (79, .getfield 24, 3, 450), (82, .getfield 131, 3, 198), (85, .iload_n 1, 1, 0), (86, .iaload, 1, 0), (87, .ireturn, 1, 0), (88, .aload_n 0, 1, 0),
  (89, .getfield 24, 3, 450), (92, .getfield 134, 3, 199), (95, .iload_n 1, 1, 0), (96, .iaload, 1, 0), (97, .ireturn, 1, 0), (98, .aload_n 0, 1, 0),
  (99, .getfield 24, 3, 450), (102, .getfield 137, 3, 200), (105, .iload_n 1, 1, 0), (106, .iaload, 1, 0), (107, .ireturn, 1, 0), (108, .aload_n 0, 1, 0),
  (109, .getfield 24, 3, 450), (112, .getfield 140, 3, 196), (115, .iload_n 1, 1, 0), (116, .invokestatic 143, 3, 97), (119, .ireturn, 1, 0), (120, .aload_n 0, 1, 0),
  (121, .getfield 55, 3, 457), (124, .getfield 147, 3, 385), (127, .iload_n 1, 1, 0), (128, .invokestatic 143, 3, 97), (131, .ireturn, 1, 0), (132, .aload_n 0, 1, 0),
  (133, .getfield 55, 3, 457), (136, .getfield 150, 3, 387), (139, .iload_n 1, 1, 0), (140, .invokestatic 143, 3, 97), (143, .ireturn, 1, 0)]
def kd60 : List (Nat × Instr × Nat × Nat) := [
  (0, .aload_n 0, 1, 0), (1, .iload_n 1, 1, 0), (2, .invokevirtual 97, 3, 89), (5, .ifCond .eq 10, 3, 0), (8, .iload_n 2, 1, 0), (9, .invokestatic 153, 3, 93),
  (12, .ifCond .ne 11, 3, 0), (15, .new 101, 3, 1), (18, .dup, 1, 0), (19, .invokespecial 103, 3, 0), (22, .athrow, 1, 0), (23, .aload_n 0, 1, 0),
  (24, .invokevirtual 104, 3, 87), (27, .aload_n 0, 1, 0), (28, .getfield 62, 3, 458), (31, .getfield 156, 3, 67), (34, .iload_n 1, 1, 0), (35, .laload, 1, 0),
  (36, .aload_n 0, 1, 0), (37, .getfield 62, 3, 458), (40, .getfield 160, 3, 68), (43, .iload_n 2, 1, 0), (44, .invokestatic 164, 3, 19), (47, .lreturn, 1, 0)]
def kd61 : List (Nat × Instr × Nat × Nat) := [
  (0, .aload_n 0, 1, 0), (1, .iload_n 1, 1, 0), (2, .invokevirtual 97, 3, 89), (5, .ifCond .ne 6, 3, 0), (8, .ldc 114, 2, 0), (10, .ireturn, 1, 0),
  (11, .aload_n 0, 1, 0), (12, .invokevirtual 104, 3, 87), (15, .ldc2_w 170, 3, 0), (18, .aload_n 0, 1, 0), (19, .getfield 62, 3, 458), (22, .getfield 156, 3, 67),
  (25, .iload_n 1, 1, 0), (26, .laload, 1, 0), (27, .lmul, 1, 0), (28, .aload_n 0, 1, 0), (29, .getfield 62, 3, 458), (32, .getfield 160, 3, 68),
  (35, .ladd, 1, 0), (36, .ldc2_w 170, 3, 0), (39, .aload_n 0, 1, 0), (40, .getfield 62, 3, 458), (43, .getfield 160, 3, 68), (46, .lmul, 1, 0),
  (47, .invokestatic 172, 3, 21), (50, .l2i, 1, 0), (51, .ireturn, 1, 0)]
def kd62 : List (Nat × Instr × Nat × Nat) := [
  (0, .aload_n 0, 1, 0), (1, .iload_n 1, 1, 0), (2, .invokevirtual 176, 3, 91), (5, .ifCond .eq 10, 3, 0), (8, .iload_n 2, 1, 0), (9, .invokestatic 153, 3, 93),
  (12, .ifCond .ne 11, 3, 0), (15, .new 101, 3, 1), (18, .dup, 1, 0), (19, .invokespecial 103, 3, 0), (22, .athrow, 1, 0), (23, .aload_n 0, 1, 0),
  (24, .invokevirtual 104, 3, 87), (27, .aload_n 0, 1, 0), (28, .getfield 62, 3, 458), (31, .aload_n 0, 1, 0), (32, .getfield 24, 3, 450), (35, .iload_n 1, 1, 0),
  (36, .invokevirtual 179, 3, 4), (39, .aload_n 0, 1, 0), (40, .getfield 62, 3, 458), (43, .getfield 160, 3, 68), (46, .iload_n 2, 1, 0), (47, .invokestatic 164, 3, 19),
  (50, .lreturn, 1, 0)]
def kd63 : List (Nat × Instr × Nat × Nat) := [
  (0, .iload_n 1, 1, 0), (1, .invokestatic 153, 3, 93), (4, .ifCond .ne 11, 3, 0), (7, .new 101, 3, 1), (10, .dup, 1, 0), (11, .invokespecial 103, 3, 0),
  (14, .athrow, 1, 0), (15, .aload_n 0, 1, 0), (16, .invokevirtual 104, 3, 87), (19, .aload_n 0, 1, 0), (20, .getfield 62, 3, 458), (23, .aload_n 0, 1, 0),
  (24, .getfield 24, 3, 450), (27, .invokevirtual 183, 3, 5), (30, .aload_n 0, 1, 0), (31, .getfield 62, 3, 458), (34, .getfield 160, 3, 68), (37, .aload_n 0, 1, 0),
  (38, .getfield 62, 3, 458), (41, .getfield 160, 3, 68), (44, .lmul, 1, 0), (45, .iload_n 1, 1, 0), (46, .invokestatic 164, 3, 19), (49, .lreturn, 1, 0)]
def kd64 : List (Nat × Instr × Nat × Nat) := [
  (0, .aload_n 0, 1, 0), (1, .invokevirtual 104, 3, 87), (4, .aload_n 0, 1, 0), (5, .getfield 55, 3, 457), (8, .getfield 187, 3, 386), (11, .invokestatic 190, 3, 199),
  (14, .ireturn, 1, 0)]
def kd65 : List (Nat × Instr × Nat × Nat) := [
  (0, .aload_n 0, 1, 0), (1, .invokevirtual 104, 3, 87), (4, .aload_n 0, 1, 0), (5, .iload_n 1, 1, 0), (6, .invokevirtual 195, 3, 92), (9, .ifCond .eq 18, 3, 0),
  (12, .aload_n 0, 1, 0), (13, .getfield 55, 3, 457), (16, .aload_n 0, 1, 0), (17, .getfield 24, 3, 450), (20, .iload_n 1, 1, 0), (21, .invokevirtual 198, 3, 47),
  (24, .goto 4, 3, 0), (27, .iconst (-1), 1, 0), (28, .ireturn, 1, 0)]
def kd66 : List (Nat × Instr × Nat × Nat) := [
  (0, .aload_n 0, 1, 0), (1, .invokevirtual 104, 3, 87), (4, .aload_n 0, 1, 0), (5, .iload_n 1, 1, 0), (6, .invokevirtual 195, 3, 92), (9, .ifCond .eq 18, 3, 0),
  (12, .aload_n 0, 1, 0), (13, .getfield 55, 3, 457), (16, .aload_n 0, 1, 0), (17, .getfield 24, 3, 450), (20, .iload_n 1, 1, 0), (21, .invokevirtual 202, 3, 48),
  (24, .goto 5, 3, 0), (27, .ldc 114, 2, 0), (29, .ireturn, 1, 0)]
def kd67 : List (Nat × Instr × Nat × Nat) := [
  (0, .aload_n 0, 1, 0), (1, .invokevirtual 104, 3, 87), (4, .iconst (-1), 1, 0), (5, .istore_n 1, 1, 0), (6, .iconst (-1), 1, 0), (7, .istore_n 2, 1, 0),
  (8, .iconst 0, 1, 0), (9, .istore_n 3, 1, 0), (10, .iload_n 3, 1, 0), (11, .aload_n 0, 1, 0), (12, .getfield 24, 3, 450), (15, .getfield 205, 3, 195),
  (18, .if_icmp .ge 48, 3, 0), (21, .aload_n 0, 1, 0), (22, .iload_n 3, 1, 0), (23, .invokevirtual 195, 3, 92), (26, .ifCond .ne 6, 3, 0), (29, .goto 31, 3, 0),
  (32, .aload_n 0, 1, 0), (33, .getfield 55, 3, 457), (36, .aload_n 0, 1, 0), (37, .getfield 24, 3, 450), (40, .iload_n 3, 1, 0), (41, .invokevirtual 202, 3, 48),
  (44, .invokestatic 208, 3, 201), (47, .istore 4, 2, 0), (49, .iload 4, 2, 0), (51, .iload_n 2, 1, 0), (52, .if_icmp .le 8, 3, 0), (55, .iload_n 3, 1, 0),
  (56, .istore_n 1, 1, 0), (57, .iload 4, 2, 0), (59, .istore_n 2, 1, 0), (60, .iinc 3 1, 3, 0), (63, .goto (-53), 3, 0), (66, .iload_n 1, 1, 0),
  (67, .ireturn, 1, 0)]
def kd68 : List (Nat × Instr × Nat × Nat) := [
  (0, .aload_n 0, 1, 0), (1, .iload_n 1, 1, 0), (2, .invokevirtual 176, 3, 91), (5, .ifCond .eq 10, 3, 0), (8, .iload_n 2, 1, 0), (9, .invokestatic 153, 3, 93),
  (12, .ifCond .ne 11, 3, 0), (15, .new 101, 3, 1), (18, .dup, 1, 0), (19, .invokespecial 103, 3, 0), (22, .athrow, 1, 0), (23, .aload_n 0, 1, 0),
  (24, .invokevirtual 104, 3, 87), (27, .aload_n 0, 1, 0), (28, .getfield 62, 3, 458), (31, .aload_n 0, 1, 0), (32, .getfield 24, 3, 450), (35, .iload_n 1, 1, 0),
  (36, .invokevirtual 213, 3, 6), (39, .aload_n 0, 1, 0), (40, .getfield 62, 3, 458), (43, .getfield 160, 3, 68), (46, .iload_n 2, 1, 0), (47, .invokestatic 164, 3, 19),
  (50, .lreturn, 1, 0)]
def kd69 : List (Nat × Instr × Nat × Nat) := [
  (0, .aload_n 0, 1, 0), (1, .iload_n 1, 1, 0), (2, .invokevirtual 176, 3, 91), (5, .ifCond .eq 10, 3, 0), (8, .iload_n 2, 1, 0), (9, .invokestatic 153, 3, 93),
  (12, .ifCond .ne 11, 3, 0), (15, .new 101, 3, 1), (18, .dup, 1, 0), (19, .invokespecial 103, 3, 0), (22, .athrow, 1, 0), (23, .aload_n 0, 1, 0),
  (24, .invokevirtual 104, 3, 87), (27, .aload_n 0, 1, 0), (28, .getfield 62, 3, 458), (31, .aload_n 0, 1, 0), (32, .getfield 24, 3, 450), (35, .iload_n 1, 1, 0),
  (36, .invokevirtual 216, 3, 7), (39, .aload_n 0, 1, 0), (40, .getfield 62, 3, 458), (43, .aload_n 0, 1, 0), (44, .getfield 24, 3, 450), (47, .iload_n 1, 1, 0),
  (48, .invokevirtual 219, 3, 8), (51, .iload_n 2, 1, 0), (52, .invokestatic 164, 3, 19), (55, .lreturn, 1, 0)]
def kd70 : List (Nat × Instr × Nat × Nat) := [
  (0, .aload_n 0, 1, 0), (1, .iload_n 1, 1, 0), (2, .invokevirtual 176, 3, 91), (5, .ifCond .eq 10, 3, 0), (8, .iload_n 2, 1, 0), (9, .invokestatic 153, 3, 93),
  (12, .ifCond .ne 11, 3, 0), (15, .new 101, 3, 1), (18, .dup, 1, 0), (19, .invokespecial 103, 3, 0), (22, .athrow, 1, 0), (23, .aload_n 0, 1, 0),
  (24, .invokevirtual 104, 3, 87), (27, .aload_n 0, 1, 0), (28, .getfield 55, 3, 457), (31, .getfield 150, 3, 387), (34, .iload_n 1, 1, 0), (35, .invokestatic 143, 3, 97),
  (38, .iconst 1, 1, 0), (39, .if_icmp .ne 11, 3, 0), (42, .new 101, 3, 1), (45, .dup, 1, 0), (46, .invokespecial 103, 3, 0), (49, .athrow, 1, 0),
  (50, .aload_n 0, 1, 0), (51, .getfield 62, 3, 458), (54, .aload_n 0, 1, 0), (55, .getfield 24, 3, 450), (58, .iload_n 1, 1, 0), (59, .invokevirtual 213, 3, 6),
  (62, .lstore_n 3, 1, 0), (63, .aload_n 0, 1, 0), (64, .getfield 24, 3, 450), (67, .getfield 134, 3, 199), (70, .iload_n 1, 1, 0), (71, .iaload, 1, 0),
  (72, .i2l, 1, 0), (73, .lload_n 3, 1, 0), (74, .lmul, 1, 0), (75, .aload_n 0, 1, 0), (76, .getfield 62, 3, 458), (79, .aload_n 0, 1, 0),
  (80, .getfield 24, 3, 450), (83, .iload_n 1, 1, 0), (84, .invokevirtual 179, 3, 4), (87, .ladd, 1, 0), (88, .lload_n 3, 1, 0), (89, .iload_n 2, 1, 0),
  (90, .invokestatic 164, 3, 19), (93, .lreturn, 1, 0)]
def kd71 : List (Nat × Instr × Nat × Nat) := [
  (0, .aload_n 0, 1, 0), (1, .invokevirtual 104, 3, 87), (4, .aload_n 0, 1, 0), (5, .getfield 62, 3, 458), (8, .aload_n 0, 1, 0), (9, .getfield 24, 3, 450),
  (12, .invokevirtual 222, 3, 10), (15, .ireturn, 1, 0)]
def kd72 : List (Nat × Instr × Nat × Nat) := [
  (0, .aload_n 0, 1, 0), (1, .iload_n 1, 1, 0), (2, .invokevirtual 97, 3, 89), (5, .ifCond .eq 18, 3, 0), (8, .aload_n 0, 1, 0), (9, .iload_n 2, 1, 0),
  (10, .invokevirtual 97, 3, 89), (13, .ifCond .eq 10, 3, 0), (16, .iload_n 3, 1, 0), (17, .invokestatic 153, 3, 93), (20, .ifCond .ne 11, 3, 0), (23, .new 101, 3, 1),
  (26, .dup, 1, 0), (27, .invokespecial 103, 3, 0), (30, .athrow, 1, 0), (31, .aload_n 0, 1, 0), (32, .invokevirtual 104, 3, 87), (35, .aload_n 0, 1, 0),
  (36, .getfield 55, 3, 457), (39, .getfield 115, 3, 384), (42, .iload_n 1, 1, 0), (43, .iaload, 1, 0), (44, .aload_n 0, 1, 0), (45, .getfield 55, 3, 457),
  (48, .getfield 115, 3, 384), (51, .iload_n 2, 1, 0), (52, .iaload, 1, 0), (53, .if_icmp .eq 11, 3, 0), (56, .new 101, 3, 1), (59, .dup, 1, 0),
  (60, .invokespecial 103, 3, 0), (63, .athrow, 1, 0), (64, .aload_n 0, 1, 0), (65, .getfield 62, 3, 458), (68, .iload_n 1, 1, 0), (69, .iload_n 2, 1, 0),
  (70, .invokevirtual 226, 3, 11), (73, .aload_n 0, 1, 0), (74, .getfield 62, 3, 458), (77, .getfield 160, 3, 68), (80, .iload_n 3, 1, 0), (81, .invokestatic 164, 3, 19),
  (84, .lreturn, 1, 0)]
def kd73 : List (Nat × Instr × Nat × Nat) := [
  (0, .iload_n 1, 1, 0), (1, .ifCond .eq 10, 3, 0), (4, .iload_n 1, 1, 0), (5, .iconst 1, 1, 0), (6, .if_icmp .eq 5, 3, 0), (9, .iconst (-1), 1, 0),
  (10, .ireturn, 1, 0), (11, .aload_n 0, 1, 0), (12, .invokevirtual 104, 3, 87), (15, .iconst (-1), 1, 0), (16, .istore_n 2, 1, 0), (17, .ldc2_w 230, 3, 3),
  (20, .lstore_n 3, 1, 0), (21, .iconst 0, 1, 0), (22, .istore 5, 2, 0), (24, .iload 5, 2, 0), (26, .aload_n 0, 1, 0), (27, .getfield 24, 3, 450),
  (30, .getfield 232, 3, 192), (33, .if_icmp .ge 96, 3, 0), (36, .iload 5, 2, 0), (38, .iconst 1, 1, 0), (39, .iadd, 1, 0), (40, .istore 6, 2, 0),
  (42, .iload 6, 2, 0), (44, .aload_n 0, 1, 0), (45, .getfield 24, 3, 450), (48, .getfield 232, 3, 192), (51, .if_icmp .ge 72, 3, 0), (54, .aload_n 0, 1, 0),
  (55, .getfield 55, 3, 457), (58, .getfield 115, 3, 384), (61, .iload 5, 2, 0), (63, .iaload, 1, 0), (64, .aload_n 0, 1, 0), (65, .getfield 55, 3, 457),
  (68, .getfield 115, 3, 384), (71, .iload 6, 2, 0), (73, .iaload, 1, 0), (74, .if_icmp .ne 43, 3, 0), (77, .aload_n 0, 1, 0), (78, .getfield 62, 3, 458),
  (81, .iload 5, 2, 0), (83, .iload 6, 2, 0), (85, .invokevirtual 226, 3, 11), (88, .lload_n 3, 1, 0), (89, .lcmp, 1, 0), (90, .ifCond .le 27, 3, 0),
  (93, .aload_n 0, 1, 0), (94, .getfield 62, 3, 458), (97, .iload 5, 2, 0), (99, .iload 6, 2, 0), (101, .invokevirtual 226, 3, 11), (104, .lstore_n 3, 1, 0),
  (105, .iload_n 1, 1, 0), (106, .ifCond .ne 8, 3, 0), (109, .iload 5, 2, 0), (111, .goto 5, 3, 0), (114, .iload 6, 2, 0), (116, .istore_n 2, 1, 0),
  (117, .iinc 6 1, 3, 0), (120, .goto (-78), 3, 0), (123, .iinc 5 1, 3, 0), (126, .goto (-102), 3, 0), (129, .iload_n 2, 1, 0), (130, .ireturn, 1, 0)]
def kd74 : List (Nat × Instr × Nat × Nat) := [
  (0, .aload_n 0, 1, 0), (1, .iload_n 1, 1, 0), (2, .invokevirtual 125, 3, 90), (5, .ifCond .ne 5, 3, 0), (8, .iconst (-1), 1, 0), (9, .ireturn, 1, 0),
  (10, .aload_n 0, 1, 0), (11, .iload_n 1, 1, 0), (12, .invokevirtual 176, 3, 91), (15, .ifCond .ne 5, 3, 0), (18, .iconst 1, 1, 0), (19, .ireturn, 1, 0),
  (20, .aload_n 0, 1, 0), (21, .invokevirtual 235, 3, 88), (24, .aload_n 0, 1, 0), (25, .getfield 24, 3, 450), (28, .dup, 1, 0), (29, .getfield 140, 3, 196),
  (32, .iconst 1, 1, 0), (33, .iload_n 1, 1, 0), (34, .ishl, 1, 0), (35, .iconst (-1), 1, 0), (36, .ixor, 1, 0), (37, .iand, 1, 0),
  (38, .putfield 140, 3, 196), (41, .iconst 0, 1, 0), (42, .ireturn, 1, 0)]
def kd75 : List (Nat × Instr × Nat × Nat) := [
  (0, .aload_n 0, 1, 0), (1, .iload_n 1, 1, 0), (2, .invokevirtual 125, 3, 90), (5, .ifCond .ne 5, 3, 0), (8, .iconst (-1), 1, 0), (9, .ireturn, 1, 0),
  (10, .aload_n 0, 1, 0), (11, .iload_n 1, 1, 0), (12, .invokevirtual 176, 3, 91), (15, .ifCond .eq 5, 3, 0), (18, .iconst 1, 1, 0), (19, .ireturn, 1, 0),
  (20, .aload_n 0, 1, 0), (21, .invokevirtual 235, 3, 88), (24, .aload_n 0, 1, 0), (25, .getfield 24, 3, 450), (28, .dup, 1, 0), (29, .getfield 140, 3, 196),
  (32, .iconst 1, 1, 0), (33, .iload_n 1, 1, 0), (34, .ishl, 1, 0), (35, .ior, 1, 0), (36, .putfield 140, 3, 196), (39, .iconst 0, 1, 0),
  (40, .ireturn, 1, 0)]
def kd76 : List (Nat × Instr × Nat × Nat) := [
  (0, .iload_n 1, 1, 0), (1, .ifCond .lt 10, 3, 0), (4, .iload_n 1, 1, 0), (5, .sipush 9999, 3, 0), (8, .if_icmp .le 5, 3, 0), (11, .iconst (-1), 1, 0),
  (12, .ireturn, 1, 0), (13, .aload_n 0, 1, 0), (14, .getfield 28, 3, 451), (17, .aload_n 0, 1, 0), (18, .getfield 24, 3, 450), (21, .invokevirtual 90, 3, 25),
  (24, .iconst 0, 1, 0), (25, .istore_n 2, 1, 0), (26, .iconst 0, 1, 0), (27, .istore_n 3, 1, 0), (28, .iload_n 3, 1, 0), (29, .bipush 11, 2, 0),
  (31, .if_icmp .ge 78, 3, 0), (34, .aload_n 0, 1, 0), (35, .invokevirtual 104, 3, 87), (38, .aload_n 0, 1, 0), (39, .getfield 62, 3, 458), (42, .aload_n 0, 1, 0),
  (43, .getfield 24, 3, 450), (46, .invokevirtual 222, 3, 10), (49, .istore 4, 2, 0), (51, .iload 4, 2, 0), (53, .iconst (-1), 1, 0), (54, .if_icmp .eq 55, 3, 0),
  (57, .aload_n 0, 1, 0), (58, .getfield 62, 3, 458), (61, .aload_n 0, 1, 0), (62, .getfield 24, 3, 450), (65, .iload 4, 2, 0), (67, .iload_n 1, 1, 0),
  (68, .invokevirtual 238, 3, 9), (71, .ifCond .ne 6, 3, 0), (74, .goto 35, 3, 0), (77, .aload_n 0, 1, 0), (78, .getfield 24, 3, 450), (81, .dup, 1, 0),
  (82, .getfield 140, 3, 196), (85, .iconst 1, 1, 0), (86, .iload 4, 2, 0), (88, .ishl, 1, 0), (89, .iconst (-1), 1, 0), (90, .ixor, 1, 0),
  (91, .iand, 1, 0), (92, .putfield 140, 3, 196), (95, .aload_n 0, 1, 0), (96, .iconst 1, 1, 0), (97, .putfield 66, 3, 459), (100, .iinc 2 1, 3, 0),
  (103, .iinc 3 1, 3, 0), (106, .goto (-78), 3, 0), (109, .iload_n 2, 1, 0), (110, .ifCond .le 14, 3, 0), (113, .aload_n 0, 1, 0), (114, .getfield 34, 3, 452),
  (117, .aload_n 0, 1, 0), (118, .getfield 28, 3, 451), (121, .invokevirtual 242, 3, 0), (124, .iload_n 2, 1, 0), (125, .ireturn, 1, 0)]
def kd77 : List (Nat × Instr × Nat × Nat) := [
  (0, .aload_n 0, 1, 0), (1, .iload_n 1, 1, 0), (2, .invokevirtual 125, 3, 90), (5, .ifCond .eq 10, 3, 0), (8, .iload_n 2, 1, 0), (9, .invokestatic 244, 3, 94),
  (12, .ifCond .ne 5, 3, 0), (15, .iconst (-1), 1, 0), (16, .ireturn, 1, 0), (17, .aload_n 0, 1, 0), (18, .getfield 24, 3, 450), (21, .getfield 134, 3, 199),
  (24, .iload_n 1, 1, 0), (25, .iaload, 1, 0), (26, .iload_n 2, 1, 0), (27, .if_icmp .ne 5, 3, 0), (30, .iconst 1, 1, 0), (31, .ireturn, 1, 0),
  (32, .aload_n 0, 1, 0), (33, .invokevirtual 235, 3, 88), (36, .aload_n 0, 1, 0), (37, .getfield 24, 3, 450), (40, .getfield 134, 3, 199), (43, .iload_n 1, 1, 0),
  (44, .iload_n 2, 1, 0), (45, .iastore, 1, 0), (46, .iconst 0, 1, 0), (47, .ireturn, 1, 0)]
def kd78 : List (Nat × Instr × Nat × Nat) := [
  (0, .aload_n 0, 1, 0), (1, .iload_n 1, 1, 0), (2, .invokevirtual 125, 3, 90), (5, .ifCond .eq 10, 3, 0), (8, .iload_n 2, 1, 0), (9, .invokestatic 247, 3, 95),
  (12, .ifCond .ne 5, 3, 0), (15, .iconst (-1), 1, 0), (16, .ireturn, 1, 0), (17, .aload_n 0, 1, 0), (18, .getfield 24, 3, 450), (21, .getfield 137, 3, 200),
  (24, .iload_n 1, 1, 0), (25, .iaload, 1, 0), (26, .iload_n 2, 1, 0), (27, .if_icmp .ne 5, 3, 0), (30, .iconst 1, 1, 0), (31, .ireturn, 1, 0),
  (32, .aload_n 0, 1, 0), (33, .invokevirtual 235, 3, 88), (36, .aload_n 0, 1, 0), (37, .getfield 24, 3, 450), (40, .getfield 137, 3, 200), (43, .iload_n 1, 1, 0),
  (44, .iload_n 2, 1, 0), (45, .iastore, 1, 0), (46, .iconst 0, 1, 0), (47, .ireturn, 1, 0)]
def kd79 : List (Nat × Instr × Nat × Nat) := [
  (0, .aload_n 0, 1, 0), (1, .iload_n 1, 1, 0), (2, .invokevirtual 97, 3, 89), (5, .ifCond .eq 20, 3, 0), (8, .aload_n 0, 1, 0), (9, .iload_n 2, 1, 0),
  (10, .invokevirtual 97, 3, 89), (13, .ifCond .eq 12, 3, 0), (16, .iload_n 1, 1, 0), (17, .iload_n 2, 1, 0), (18, .if_icmp .eq 7, 3, 0), (21, .iconst 1, 1, 0),
  (22, .goto 4, 3, 0), (25, .iconst 0, 1, 0), (26, .istore 5, 2, 0), (28, .aload_n 0, 1, 0), (29, .getfield 24, 3, 450), (32, .getfield 205, 3, 195),
  (35, .bipush 11, 2, 0), (37, .if_icmp .ge 23, 3, 0), (40, .iload 5, 2, 0), (42, .ifCond .eq 18, 3, 0), (45, .iload_n 3, 1, 0), (46, .invokestatic 244, 3, 94),
  (49, .ifCond .eq 11, 3, 0), (52, .iload 4, 2, 0), (54, .invokestatic 247, 3, 95), (57, .ifCond .ne 5, 3, 0), (60, .iconst (-1), 1, 0), (61, .ireturn, 1, 0),
  (62, .aload_n 0, 1, 0), (63, .invokevirtual 235, 3, 88), (66, .aload_n 0, 1, 0), (67, .getfield 24, 3, 450), (70, .iload_n 1, 1, 0), (71, .iload_n 2, 1, 0),
  (72, .iload_n 3, 1, 0), (73, .iload 4, 2, 0), (75, .invokevirtual 250, 3, 27), (78, .ireturn, 1, 0)]
def kd80 : List (Nat × Instr × Nat × Nat) := [
  (0, .aload_n 0, 1, 0), (1, .iload_n 1, 1, 0), (2, .invokevirtual 97, 3, 89), (5, .ifCond .eq 10, 3, 0), (8, .iload_n 2, 1, 0), (9, .invokestatic 244, 3, 94),
  (12, .ifCond .ne 5, 3, 0), (15, .iconst (-1), 1, 0), (16, .ireturn, 1, 0), (17, .aload_n 0, 1, 0), (18, .getfield 24, 3, 450), (21, .iload_n 1, 1, 0),
  (22, .invokevirtual 107, 3, 28), (25, .ifCond .eq 18, 3, 0), (28, .aload_n 0, 1, 0), (29, .getfield 24, 3, 450), (32, .getfield 110, 3, 194), (35, .iload_n 1, 1, 0),
  (36, .iaload, 1, 0), (37, .iload_n 2, 1, 0), (38, .if_icmp .ne 5, 3, 0), (41, .iconst 1, 1, 0), (42, .ireturn, 1, 0), (43, .aload_n 0, 1, 0),
  (44, .invokevirtual 235, 3, 88), (47, .aload_n 0, 1, 0), (48, .getfield 24, 3, 450), (51, .dup, 1, 0), (52, .getfield 254, 3, 193), (55, .iconst 1, 1, 0),
  (56, .iload_n 1, 1, 0), (57, .ishl, 1, 0), (58, .ior, 1, 0), (59, .putfield 254, 3, 193), (62, .aload_n 0, 1, 0), (63, .getfield 24, 3, 450),
  (66, .getfield 110, 3, 194), (69, .iload_n 1, 1, 0), (70, .iload_n 2, 1, 0), (71, .iastore, 1, 0), (72, .iconst 0, 1, 0), (73, .ireturn, 1, 0)]
def kd81 : List (Nat × Instr × Nat × Nat) := [
  (0, .aload_n 0, 1, 0), (1, .iload_n 1, 1, 0), (2, .invokevirtual 97, 3, 89), (5, .ifCond .ne 5, 3, 0), (8, .iconst (-1), 1, 0), (9, .ireturn, 1, 0),
  (10, .aload_n 0, 1, 0), (11, .getfield 24, 3, 450), (14, .iload_n 1, 1, 0), (15, .invokevirtual 107, 3, 28), (18, .ifCond .ne 5, 3, 0), (21, .iconst 1, 1, 0),
  (22, .ireturn, 1, 0), (23, .aload_n 0, 1, 0), (24, .invokevirtual 235, 3, 88), (27, .aload_n 0, 1, 0), (28, .getfield 24, 3, 450), (31, .dup, 1, 0),
  (32, .getfield 254, 3, 193), (35, .iconst 1, 1, 0), (36, .iload_n 1, 1, 0), (37, .ishl, 1, 0), (38, .iconst (-1), 1, 0), (39, .ixor, 1, 0),
  (40, .iand, 1, 0), (41, .putfield 254, 3, 193), (44, .iconst 0, 1, 0), (45, .ireturn, 1, 0)]
def kd82 : List (Nat × Instr × Nat × Nat) := [
  (0, .iload_n 1, 1, 0), (1, .iconst 1, 1, 0), (2, .if_icmp .lt 9, 3, 0), (5, .iload_n 1, 1, 0), (6, .bipush 60, 2, 0), (8, .if_icmp .le 5, 3, 0),
  (11, .iconst (-1), 1, 0), (12, .ireturn, 1, 0), (13, .aload_n 0, 1, 0), (14, .getfield 24, 3, 450), (17, .getfield 205, 3, 195), (20, .ifCond .gt 5, 3, 0),
  (23, .iconst 0, 1, 0), (24, .ireturn, 1, 0), (25, .aload_n 0, 1, 0), (26, .getfield 28, 3, 451), (29, .aload_n 0, 1, 0), (30, .getfield 24, 3, 450),
  (33, .invokevirtual 90, 3, 25), (36, .iconst 0, 1, 0), (37, .istore_n 3, 1, 0), (38, .iload_n 2, 1, 0), (39, .istore 4, 2, 0), (41, .iconst 0, 1, 0),
  (42, .istore 5, 2, 0), (44, .iload 5, 2, 0), (46, .iload_n 1, 1, 0), (47, .if_icmp .ge 92, 3, 0), (50, .iload 4, 2, 0), (52, .invokestatic 257, 3, 98),
  (55, .istore 4, 2, 0), (57, .iload 4, 2, 0), (59, .bipush 8, 2, 0), (61, .iushr, 1, 0), (62, .aload_n 0, 1, 0), (63, .getfield 24, 3, 450),
  (66, .getfield 205, 3, 195), (69, .irem, 1, 0), (70, .istore 6, 2, 0), (72, .iload 4, 2, 0), (74, .invokestatic 257, 3, 98), (77, .istore 4, 2, 0),
  (79, .iload 4, 2, 0), (81, .bipush 8, 2, 0), (83, .iushr, 1, 0), (84, .bipush 9, 2, 0), (86, .irem, 1, 0), (87, .iconst 4, 1, 0),
  (88, .isub, 1, 0), (89, .istore 7, 2, 0), (91, .iload 7, 2, 0), (93, .ifCond .eq 40, 3, 0), (96, .aload_n 0, 1, 0), (97, .getfield 24, 3, 450),
  (100, .getfield 134, 3, 199), (103, .iload 6, 2, 0), (105, .iaload, 1, 0), (106, .iload 7, 2, 0), (108, .iadd, 1, 0), (109, .invokestatic 244, 3, 94),
  (112, .ifCond .eq 21, 3, 0), (115, .aload_n 0, 1, 0), (116, .getfield 24, 3, 450), (119, .getfield 134, 3, 199), (122, .iload 6, 2, 0), (124, .dup2, 1, 0),
  (125, .iaload, 1, 0), (126, .iload 7, 2, 0), (128, .iadd, 1, 0), (129, .iastore, 1, 0), (130, .iinc 3 1, 3, 0), (133, .iinc 5 1, 3, 0),
  (136, .goto (-92), 3, 0), (139, .iload_n 3, 1, 0), (140, .ifCond .le 19, 3, 0), (143, .aload_n 0, 1, 0), (144, .getfield 34, 3, 452), (147, .aload_n 0, 1, 0),
  (148, .getfield 28, 3, 451), (151, .invokevirtual 242, 3, 0), (154, .aload_n 0, 1, 0), (155, .iconst 1, 1, 0), (156, .putfield 66, 3, 459), (159, .iload_n 3, 1, 0),
  (160, .ireturn, 1, 0)]
def kd83 : List (Nat × Instr × Nat × Nat) := [
  (0, .aload_n 0, 1, 0), (1, .getfield 34, 3, 452), (4, .getfield 260, 3, 2), (7, .ifCond .gt 5, 3, 0), (10, .iconst (-1), 1, 0), (11, .ireturn, 1, 0),
  (12, .aload_n 0, 1, 0), (13, .getfield 34, 3, 452), (16, .aload_n 0, 1, 0), (17, .getfield 24, 3, 450), (20, .invokevirtual 263, 3, 1), (23, .aload_n 0, 1, 0),
  (24, .iconst 1, 1, 0), (25, .putfield 66, 3, 459), (28, .aload_n 0, 1, 0), (29, .getfield 34, 3, 452), (32, .getfield 260, 3, 2), (35, .ireturn, 1, 0)]
def kd84 : List (Nat × Instr × Nat × Nat) := [
  (0, .iload_n 1, 1, 0), (1, .invokestatic 266, 3, 96), (4, .ifCond .ne 5, 3, 0), (7, .iconst 0, 1, 0), (8, .ireturn, 1, 0), (9, .aload_n 0, 1, 0),
  (10, .getfield 38, 3, 453), (13, .iload_n 1, 1, 0), (14, .aaload, 1, 0), (15, .aload_n 0, 1, 0), (16, .getfield 24, 3, 450), (19, .invokevirtual 90, 3, 25),
  (22, .aload_n 0, 1, 0), (23, .dup, 1, 0), (24, .getfield 42, 3, 454), (27, .iconst 1, 1, 0), (28, .iload_n 1, 1, 0), (29, .ishl, 1, 0),
  (30, .ior, 1, 0), (31, .putfield 42, 3, 454), (34, .iconst 1, 1, 0), (35, .ireturn, 1, 0)]
def kd85 : List (Nat × Instr × Nat × Nat) := [
  (0, .iload_n 1, 1, 0), (1, .invokestatic 266, 3, 96), (4, .ifCond .eq 14, 3, 0), (7, .aload_n 0, 1, 0), (8, .getfield 42, 3, 454), (11, .iload_n 1, 1, 0),
  (12, .invokestatic 143, 3, 97), (15, .ifCond .ne 5, 3, 0), (18, .iconst 0, 1, 0), (19, .ireturn, 1, 0), (20, .aload_n 0, 1, 0), (21, .getfield 24, 3, 450),
  (24, .aload_n 0, 1, 0), (25, .getfield 38, 3, 453), (28, .iload_n 1, 1, 0), (29, .aaload, 1, 0), (30, .invokevirtual 90, 3, 25), (33, .aload_n 0, 1, 0),
  (34, .getfield 34, 3, 452), (37, .invokevirtual 94, 3, 2), (40, .aload_n 0, 1, 0), (41, .iconst 1, 1, 0), (42, .putfield 66, 3, 459), (45, .iconst 1, 1, 0),
  (46, .ireturn, 1, 0)]
def kd86 : List (Nat × Instr × Nat × Nat) := [
  (0, .aload_n 0, 1, 0), (1, .invokevirtual 104, 3, 87), (4, .iload_n 1, 1, 0), (5, .tableswitch 118 0 7 #[47, 55, 63, 74, 86, 94, 102, 110], 47, 0), (52, .aload_n 0, 1, 0), (53, .getfield 24, 3, 450),
  (56, .getfield 232, 3, 192), (59, .ireturn, 1, 0), (60, .aload_n 0, 1, 0), (61, .getfield 24, 3, 450), (64, .getfield 205, 3, 195), (67, .ireturn, 1, 0),
  (68, .aload_n 0, 1, 0), (69, .getfield 24, 3, 450), (72, .getfield 140, 3, 196), (75, .invokestatic 190, 3, 199), (78, .ireturn, 1, 0), (79, .aload_n 0, 1, 0),
  (80, .getfield 55, 3, 457), (83, .aload_n 0, 1, 0), (84, .getfield 24, 3, 450), (87, .invokevirtual 269, 3, 46), (90, .ireturn, 1, 0), (91, .aload_n 0, 1, 0),
  (92, .getfield 55, 3, 457), (95, .getfield 150, 3, 387), (98, .ireturn, 1, 0), (99, .aload_n 0, 1, 0), (100, .getfield 55, 3, 457), (103, .getfield 147, 3, 385),
  (106, .ireturn, 1, 0), (107, .aload_n 0, 1, 0), (108, .getfield 34, 3, 452), (111, .getfield 260, 3, 2), (114, .ireturn, 1, 0), (115, .aload_n 0, 1, 0),
  (116, .getfield 20, 3, 449), (119, .getfield 70, 3, 321), (122, .ireturn, 1, 0), (123, .iconst (-1), 1, 0), (124, .ireturn, 1, 0)]
def kd87 : List (Nat × Instr × Nat × Nat) := [
  (0, .aload_n 0, 1, 0), (1, .getfield 66, 3, 459), (4, .ifCond .eq 34, 3, 0), (7, .aload_n 0, 1, 0), (8, .getfield 55, 3, 457), (11, .aload_n 0, 1, 0),
  (12, .getfield 24, 3, 450), (15, .invokevirtual 272, 3, 44), (18, .aload_n 0, 1, 0), (19, .getfield 62, 3, 458), (22, .aload_n 0, 1, 0), (23, .getfield 24, 3, 450),
  (26, .aload_n 0, 1, 0), (27, .getfield 55, 3, 457), (30, .invokevirtual 274, 3, 3), (33, .aload_n 0, 1, 0), (34, .iconst 0, 1, 0), (35, .putfield 66, 3, 459),
  (38, .return_, 1, 0)]
def kd88 : List (Nat × Instr × Nat × Nat) := [
  (0, .aload_n 0, 1, 0), (1, .getfield 34, 3, 452), (4, .aload_n 0, 1, 0), (5, .getfield 24, 3, 450), (8, .invokevirtual 242, 3, 0), (11, .aload_n 0, 1, 0),
  (12, .iconst 1, 1, 0), (13, .putfield 66, 3, 459), (16, .return_, 1, 0)]
def kd89 : List (Nat × Instr × Nat × Nat) := [
  (0, .iload_n 1, 1, 0), (1, .ifCond .lt 18, 3, 0), (4, .iload_n 1, 1, 0), (5, .aload_n 0, 1, 0), (6, .getfield 24, 3, 450), (9, .getfield 232, 3, 192),
  (12, .if_icmp .ge 7, 3, 0), (15, .iconst 1, 1, 0), (16, .goto 4, 3, 0), (19, .iconst 0, 1, 0), (20, .ireturn, 1, 0)]
def kd90 : List (Nat × Instr × Nat × Nat) := [
  (0, .iload_n 1, 1, 0), (1, .ifCond .lt 18, 3, 0), (4, .iload_n 1, 1, 0), (5, .aload_n 0, 1, 0), (6, .getfield 24, 3, 450), (9, .getfield 205, 3, 195),
  (12, .if_icmp .ge 7, 3, 0), (15, .iconst 1, 1, 0), (16, .goto 4, 3, 0), (19, .iconst 0, 1, 0), (20, .ireturn, 1, 0)]
def kd91 : List (Nat × Instr × Nat × Nat) := [
  (0, .aload_n 0, 1, 0), (1, .iload_n 1, 1, 0), (2, .invokevirtual 125, 3, 90), (5, .ifCond .eq 22, 3, 0), (8, .aload_n 0, 1, 0), (9, .getfield 24, 3, 450),
  (12, .getfield 140, 3, 196), (15, .iload_n 1, 1, 0), (16, .invokestatic 143, 3, 97), (19, .iconst 1, 1, 0), (20, .if_icmp .ne 7, 3, 0), (23, .iconst 1, 1, 0),
  (24, .goto 4, 3, 0), (27, .iconst 0, 1, 0), (28, .ireturn, 1, 0)]
def kd92 : List (Nat × Instr × Nat × Nat) := [
  (0, .aload_n 0, 1, 0), (1, .iload_n 1, 1, 0), (2, .invokevirtual 125, 3, 90), (5, .ifCond .eq 22, 3, 0), (8, .aload_n 0, 1, 0), (9, .getfield 55, 3, 457),
  (12, .getfield 187, 3, 386), (15, .iload_n 1, 1, 0), (16, .invokestatic 143, 3, 97), (19, .iconst 1, 1, 0), (20, .if_icmp .ne 7, 3, 0), (23, .iconst 1, 1, 0),
  (24, .goto 4, 3, 0), (27, .iconst 0, 1, 0), (28, .ireturn, 1, 0)]
def kd93 : List (Nat × Instr × Nat × Nat) := [
  (0, .iload_n 0, 1, 0), (1, .ifCond .eq 8, 3, 0), (4, .iload_n 0, 1, 0), (5, .iconst 1, 1, 0), (6, .if_icmp .ne 7, 3, 0), (9, .iconst 1, 1, 0),
  (10, .goto 4, 3, 0), (13, .iconst 0, 1, 0), (14, .ireturn, 1, 0)]
def kd94 : List (Nat × Instr × Nat × Nat) := [
  (0, .iload_n 0, 1, 0), (1, .bipush (-99), 2, 0), (3, .if_icmp .lt 13, 3, 0), (6, .iload_n 0, 1, 0), (7, .bipush 99, 2, 0), (9, .if_icmp .gt 7, 3, 0),
  (12, .iconst 1, 1, 0), (13, .goto 4, 3, 0), (16, .iconst 0, 1, 0), (17, .ireturn, 1, 0)]
def kd95 : List (Nat × Instr × Nat × Nat) := [
  (0, .iload_n 0, 1, 0), (1, .iconst 1, 1, 0), (2, .if_icmp .lt 12, 3, 0), (5, .iload_n 0, 1, 0), (6, .iconst 4, 1, 0), (7, .if_icmp .gt 7, 3, 0),
  (10, .iconst 1, 1, 0), (11, .goto 4, 3, 0), (14, .iconst 0, 1, 0), (15, .ireturn, 1, 0)]
def kd96 : List (Nat × Instr × Nat × Nat) := [
  (0, .iload_n 0, 1, 0), (1, .ifCond .lt 12, 3, 0), (4, .iload_n 0, 1, 0), (5, .iconst 2, 1, 0), (6, .if_icmp .ge 7, 3, 0), (9, .iconst 1, 1, 0),
  (10, .goto 4, 3, 0), (13, .iconst 0, 1, 0), (14, .ireturn, 1, 0)]
def kd97 : List (Nat × Instr × Nat × Nat) := [
  (0, .iload_n 0, 1, 0), (1, .iload_n 1, 1, 0), (2, .iushr, 1, 0), (3, .iconst 1, 1, 0), (4, .iand, 1, 0), (5, .ireturn, 1, 0)]
def kd98 : List (Nat × Instr × Nat × Nat) := [
  (0, .iload_n 0, 1, 0), (1, .ldc_w 277, 3, 1), (4, .imul, 1, 0), (5, .sipush 12345, 3, 0), (8, .iadd, 1, 0), (9, .ireturn, 1, 0)]
def kd99 : List (Nat × Instr × Nat × Nat) := [
  (0, .aload_n 0, 1, 0), (1, .getfield 1, 3, 512), (4, .ireturn, 1, 0)]
def kd100 : List (Nat × Instr × Nat × Nat) := [
  (0, .aload_n 0, 1, 0), (1, .iconst 1, 1, 0), (2, .putfield 1, 3, 512), (5, .iconst 0, 1, 0), (6, .ireturn, 1, 0)]
def kd101 : List (Nat × Instr × Nat × Nat) := [
  (0, .iload_n 0, 1, 0), (1, .iload_n 1, 1, 0), (2, .if_icmp .lt 12, 3, 0), (5, .iload_n 0, 1, 0), (6, .iload_n 2, 1, 0), (7, .if_icmp .gt 7, 3, 0),
  (10, .iconst 1, 1, 0), (11, .goto 4, 3, 0), (14, .iconst 0, 1, 0), (15, .ireturn, 1, 0)]
def kd102 : List (Nat × Instr × Nat × Nat) := [
  (0, .iload_n 0, 1, 0), (1, .iload_n 1, 1, 0), (2, .ishr, 1, 0), (3, .iconst 1, 1, 0), (4, .iand, 1, 0), (5, .iconst 1, 1, 0),
  (6, .if_icmp .ne 7, 3, 0), (9, .iconst 1, 1, 0), (10, .goto 4, 3, 0), (13, .iconst 0, 1, 0), (14, .ireturn, 1, 0)]
def kd103 : List (Nat × Instr × Nat × Nat) := [
  (0, .iconst 0, 1, 0), (1, .istore_n 1, 1, 0), (2, .iload_n 0, 1, 0), (3, .istore_n 2, 1, 0), (4, .iload_n 2, 1, 0), (5, .ifCond .eq 15, 3, 0),
  (8, .iinc 1 1, 3, 0), (11, .iload_n 2, 1, 0), (12, .iload_n 2, 1, 0), (13, .iconst 1, 1, 0), (14, .isub, 1, 0), (15, .iand, 1, 0),
  (16, .istore_n 2, 1, 0), (17, .goto (-13), 3, 0), (20, .iload_n 1, 1, 0), (21, .ireturn, 1, 0)]
def kd104 : List (Nat × Instr × Nat × Nat) := [
  (0, .bipush 24, 2, 0), (2, .istore_n 2, 1, 0), (3, .iload_n 2, 1, 0), (4, .ifCond .lt 35, 3, 0), (7, .aload_n 0, 1, 0), (8, .getfield 7, 3, 513),
  (11, .aload_n 0, 1, 0), (12, .getfield 11, 3, 514), (15, .iload_n 1, 1, 0), (16, .iload_n 2, 1, 0), (17, .iushr, 1, 0), (18, .sipush 255, 3, 0),
  (21, .iand, 1, 0), (22, .iastore, 1, 0), (23, .aload_n 0, 1, 0), (24, .dup, 1, 0), (25, .getfield 11, 3, 514), (28, .iconst 1, 1, 0),
  (29, .iadd, 1, 0), (30, .putfield 11, 3, 514), (33, .iinc 2 (-8), 3, 0), (36, .goto (-33), 3, 0), (39, .return_, 1, 0)]
def kd105 : List (Nat × Instr × Nat × Nat) := [
  (0, .aload_n 0, 1, 0), (1, .iconst 0, 1, 0), (2, .putfield 1, 3, 512), (5, .aload_n 0, 1, 0), (6, .getfield 11, 3, 514), (9, .bipush 20, 2, 0),
  (11, .iadd, 1, 0), (12, .sipush 540, 3, 0), (15, .if_icmp .le 5, 3, 0), (18, .iconst (-1), 1, 0), (19, .ireturn, 1, 0), (20, .aload_n 0, 1, 0),
  (21, .iload_n 1, 1, 0), (22, .invokevirtual 14, 3, 104), (25, .aload_n 0, 1, 0), (26, .iload_n 2, 1, 0), (27, .invokevirtual 14, 3, 104), (30, .aload_n 0, 1, 0),
  (31, .iload_n 3, 1, 0), (32, .invokevirtual 14, 3, 104), (35, .aload_n 0, 1, 0), (36, .iload 4, 2, 0), (38, .invokevirtual 14, 3, 104), (41, .aload_n 0, 1, 0),
  (42, .iload 5, 2, 0), (44, .invokevirtual 14, 3, 104), (47, .aload_n 0, 1, 0), (48, .getfield 11, 3, 514), (51, .ireturn, 1, 0)]
def kd106 : List (Nat × Instr × Nat × Nat) := [
  (0, .aload_n 0, 1, 0), (1, .iconst 0, 1, 0), (2, .putfield 1, 3, 512), (5, .iload_n 1, 1, 0), (6, .ifCond .lt 11, 3, 0), (9, .iload_n 1, 1, 0),
  (10, .aload_n 0, 1, 0), (11, .getfield 11, 3, 514), (14, .if_icmp .le 5, 3, 0), (17, .iconst 0, 1, 0), (18, .ireturn, 1, 0), (19, .aload_n 0, 1, 0),
  (20, .iload_n 1, 1, 0), (21, .putfield 11, 3, 514), (24, .iconst 1, 1, 0), (25, .ireturn, 1, 0)]
def kd107 : List (Nat × Instr × Nat × Nat) := [
  (0, .iload_n 1, 1, 0), (1, .aload_n 0, 1, 0), (2, .getfield 18, 3, 515), (5, .if_icmp .ge 12, 3, 0), (8, .aload_n 0, 1, 0), (9, .getfield 7, 3, 513),
  (12, .iload_n 1, 1, 0), (13, .iaload, 1, 0), (14, .goto 4, 3, 0), (17, .iconst 0, 1, 0), (18, .ireturn, 1, 0)]
def kd108 : List (Nat × Instr × Nat × Nat) := [
  (0, .iload_n 0, 1, 0), (1, .bipush 48, 2, 0), (3, .if_icmp .lt 13, 3, 0), (6, .iload_n 0, 1, 0), (7, .bipush 57, 2, 0), (9, .if_icmp .gt 7, 3, 0),
  (12, .iconst 1, 1, 0), (13, .goto 4, 3, 0), (16, .iconst 0, 1, 0), (17, .ireturn, 1, 0)]
def kd109 : List (Nat × Instr × Nat × Nat) := [
  (0, .iload_n 0, 1, 0), (1, .bipush 97, 2, 0), (3, .if_icmp .lt 13, 3, 0), (6, .iload_n 0, 1, 0), (7, .bipush 122, 2, 0), (9, .if_icmp .gt 7, 3, 0),
  (12, .iconst 1, 1, 0), (13, .goto 4, 3, 0), (16, .iconst 0, 1, 0), (17, .ireturn, 1, 0)]
def kd110 : List (Nat × Instr × Nat × Nat) := [
  (0, .aload_n 0, 1, 0), (1, .getfield 21, 3, 516), (4, .aload_n 0, 1, 0), (5, .getfield 18, 3, 515), (8, .if_icmp .ge 44, 3, 0), (11, .aload_n 0, 1, 0),
  (12, .getfield 7, 3, 513), (15, .aload_n 0, 1, 0), (16, .getfield 21, 3, 516), (19, .iaload, 1, 0), (20, .bipush 32, 2, 0), (22, .if_icmp .eq 17, 3, 0),
  (25, .aload_n 0, 1, 0), (26, .getfield 7, 3, 513), (29, .aload_n 0, 1, 0), (30, .getfield 21, 3, 516), (33, .iaload, 1, 0), (34, .bipush 10, 2, 0),
  (36, .if_icmp .ne 16, 3, 0), (39, .aload_n 0, 1, 0), (40, .dup, 1, 0), (41, .getfield 21, 3, 516), (44, .iconst 1, 1, 0), (45, .iadd, 1, 0),
  (46, .putfield 21, 3, 516), (49, .goto (-49), 3, 0), (52, .aload_n 0, 1, 0), (53, .aload_n 0, 1, 0), (54, .getfield 21, 3, 516), (57, .putfield 24, 3, 517),
  (60, .aload_n 0, 1, 0), (61, .getfield 18, 3, 515), (64, .sipush 500, 3, 0), (67, .if_icmp .le 26, 3, 0), (70, .aload_n 0, 1, 0), (71, .getfield 24, 3, 517),
  (74, .sipush 500, 3, 0), (77, .if_icmp .lt 16, 3, 0), (80, .aload_n 0, 1, 0), (81, .sipush 500, 3, 0), (84, .putfield 24, 3, 517), (87, .aload_n 0, 1, 0),
  (88, .iconst 1, 1, 0), (89, .putfield 27, 3, 518), (92, .return_, 1, 0), (93, .aload_n 0, 1, 0), (94, .getfield 21, 3, 516), (97, .aload_n 0, 1, 0),
  (98, .getfield 18, 3, 515), (101, .if_icmp .lt 9, 3, 0), (104, .aload_n 0, 1, 0), (105, .iconst 0, 1, 0), (106, .putfield 27, 3, 518), (109, .return_, 1, 0),
  (110, .aload_n 0, 1, 0), (111, .getfield 7, 3, 513), (114, .aload_n 0, 1, 0), (115, .getfield 21, 3, 516), (118, .iaload, 1, 0), (119, .istore_n 1, 1, 0),
  (120, .iload_n 1, 1, 0), (121, .invokestatic 30, 3, 109), (124, .ifCond .ne 36, 3, 0), (127, .iload_n 1, 1, 0), (128, .invokestatic 34, 3, 108), (131, .ifCond .ne 29, 3, 0),
  (134, .aload_n 0, 1, 0), (135, .iload_n 1, 1, 0), (136, .bipush 59, 2, 0), (138, .if_icmp .ne 7, 3, 0), (141, .iconst 4, 1, 0), (142, .goto 4, 3, 0),
  (145, .iconst 1, 1, 0), (146, .putfield 27, 3, 518), (149, .aload_n 0, 1, 0), (150, .dup, 1, 0), (151, .getfield 21, 3, 516), (154, .iconst 1, 1, 0),
  (155, .iadd, 1, 0), (156, .putfield 21, 3, 516), (159, .return_, 1, 0), (160, .iload_n 1, 1, 0), (161, .invokestatic 30, 3, 109), (164, .istore_n 2, 1, 0),
  (165, .iconst 1, 1, 0), (166, .istore_n 3, 1, 0), (167, .aload_n 0, 1, 0), (168, .lconst 0, 1, 0), (169, .putfield 37, 3, 524), (172, .aload_n 0, 1, 0),
  (173, .iconst 0, 1, 0), (174, .putfield 41, 3, 519), (177, .aload_n 0, 1, 0), (178, .aload_n 0, 1, 0), (179, .getfield 21, 3, 516), (182, .invokevirtual 44, 3, 107),
  (185, .invokestatic 30, 3, 109), (188, .ifCond .ne 17, 3, 0), (191, .aload_n 0, 1, 0), (192, .aload_n 0, 1, 0), (193, .getfield 21, 3, 516), (196, .invokevirtual 44, 3, 107),
  (199, .invokestatic 34, 3, 108), (202, .ifCond .eq 110, 3, 0), (205, .aload_n 0, 1, 0), (206, .getfield 7, 3, 513), (209, .aload_n 0, 1, 0), (210, .getfield 21, 3, 516),
  (213, .iaload, 1, 0), (214, .istore 4, 2, 0), (216, .iload_n 3, 1, 0), (217, .ifCond .eq 16, 3, 0), (220, .iload 4, 2, 0), (222, .invokestatic 30, 3, 109),
  (225, .iload_n 2, 1, 0), (226, .if_icmp .ne 7, 3, 0), (229, .iconst 1, 1, 0), (230, .goto 4, 3, 0), (233, .iconst 0, 1, 0), (234, .istore_n 3, 1, 0),
  (235, .aload_n 0, 1, 0), (236, .getfield 21, 3, 516), (239, .aload_n 0, 1, 0), (240, .getfield 24, 3, 517), (243, .isub, 1, 0), (244, .bipush 7, 2, 0),
  (246, .if_icmp .ge 23, 3, 0), (249, .aload_n 0, 1, 0), (250, .ldc2_w 48, 3, 2), (253, .aload_n 0, 1, 0), (254, .getfield 37, 3, 524), (257, .lmul, 1, 0),
  (258, .iload 4, 2, 0), (260, .i2l, 1, 0), (261, .ladd, 1, 0), (262, .ldc2_w 50, 3, 4), (265, .lsub, 1, 0), (266, .putfield 37, 3, 524),
  (269, .aload_n 0, 1, 0), (270, .getfield 21, 3, 516), (273, .aload_n 0, 1, 0), (274, .getfield 24, 3, 517), (277, .isub, 1, 0), (278, .iconst 2, 1, 0),
  (279, .if_icmp .ge 20, 3, 0), (282, .aload_n 0, 1, 0), (283, .bipush 10, 2, 0), (285, .aload_n 0, 1, 0), (286, .getfield 41, 3, 519), (289, .imul, 1, 0),
  (290, .iload 4, 2, 0), (292, .iadd, 1, 0), (293, .bipush 48, 2, 0), (295, .isub, 1, 0), (296, .putfield 41, 3, 519), (299, .aload_n 0, 1, 0),
  (300, .dup, 1, 0), (301, .getfield 21, 3, 516), (304, .iconst 1, 1, 0), (305, .iadd, 1, 0), (306, .putfield 21, 3, 516), (309, .goto (-132), 3, 0),
  (312, .aload_n 0, 1, 0), (313, .iload_n 3, 1, 0), (314, .ifCond .eq 25, 3, 0), (317, .aload_n 0, 1, 0), (318, .getfield 21, 3, 516), (321, .aload_n 0, 1, 0),
  (322, .getfield 24, 3, 517), (325, .isub, 1, 0), (326, .iload_n 2, 1, 0), (327, .ifCond .eq 8, 3, 0), (330, .bipush 7, 2, 0), (332, .goto 4, 3, 0),
  (335, .iconst 2, 1, 0), (336, .if_icmp .le 7, 3, 0), (339, .iconst 1, 1, 0), (340, .goto 12, 3, 0), (343, .iload_n 2, 1, 0), (344, .ifCond .eq 7, 3, 0),
  (347, .iconst 2, 1, 0), (348, .goto 4, 3, 0), (351, .iconst 3, 1, 0), (352, .putfield 27, 3, 518), (355, .return_, 1, 0)]
def kd111 : List (Nat × Instr × Nat × Nat) := [
  (0, .ldc2_w 48, 3, 2), (3, .iload_n 0, 1, 0), (4, .i2l, 1, 0), (5, .ldc2_w 50, 3, 4), (8, .lsub, 1, 0), (9, .lmul, 1, 0),
  (10, .iload_n 1, 1, 0), (11, .i2l, 1, 0), (12, .ladd, 1, 0), (13, .ldc2_w 50, 3, 4), (16, .lsub, 1, 0), (17, .lstore 5, 2, 0),
  (19, .iload_n 2, 1, 0), (20, .ifCond .le 18, 3, 0), (23, .ldc2_w 48, 3, 2), (26, .lload 5, 2, 0), (28, .lmul, 1, 0), (29, .iload_n 2, 1, 0),
  (30, .i2l, 1, 0), (31, .ladd, 1, 0), (32, .ldc2_w 50, 3, 4), (35, .lsub, 1, 0), (36, .lstore 5, 2, 0), (38, .iload_n 3, 1, 0),
  (39, .ifCond .le 18, 3, 0), (42, .ldc2_w 48, 3, 2), (45, .lload 5, 2, 0), (47, .lmul, 1, 0), (48, .iload_n 3, 1, 0), (49, .i2l, 1, 0),
  (50, .ladd, 1, 0), (51, .ldc2_w 50, 3, 4), (54, .lsub, 1, 0), (55, .lstore 5, 2, 0), (57, .iload 4, 2, 0), (59, .ifCond .le 20, 3, 0),
  (62, .ldc2_w 48, 3, 2), (65, .lload 5, 2, 0), (67, .lmul, 1, 0), (68, .iload 4, 2, 0), (70, .i2l, 1, 0), (71, .ladd, 1, 0),
  (72, .ldc2_w 50, 3, 4), (75, .lsub, 1, 0), (76, .goto 5, 3, 0), (79, .lload 5, 2, 0), (81, .lreturn, 1, 0)]
def kd112 : List (Nat × Instr × Nat × Nat) := [
  (0, .aload_n 0, 1, 0), (1, .getfield 27, 3, 518), (4, .iconst 2, 1, 0), (5, .if_icmp .ne 16, 3, 0), (8, .aload_n 0, 1, 0), (9, .getfield 37, 3, 524),
  (12, .lload_n 1, 1, 0), (13, .lcmp, 1, 0), (14, .ifCond .ne 7, 3, 0), (17, .iconst 1, 1, 0), (18, .goto 4, 3, 0), (21, .iconst 0, 1, 0),
  (22, .ireturn, 1, 0)]
def kd113 : List (Nat × Instr × Nat × Nat) := [
  (0, .aload_n 0, 1, 0), (1, .bipush 112, 2, 0), (3, .bipush 111, 2, 0), (5, .bipush 105, 2, 0), (7, .bipush 110, 2, 0), (9, .bipush 116, 2, 0),
  (11, .invokestatic 52, 3, 111), (14, .invokevirtual 56, 3, 112), (17, .ireturn, 1, 0)]
def kd114 : List (Nat × Instr × Nat × Nat) := [
  (0, .aload_n 0, 1, 0), (1, .bipush 108, 2, 0), (3, .bipush 105, 2, 0), (5, .bipush 110, 2, 0), (7, .bipush 101, 2, 0), (9, .iconst 0, 1, 0),
  (10, .invokestatic 52, 3, 111), (13, .invokevirtual 56, 3, 112), (16, .ireturn, 1, 0)]
def kd115 : List (Nat × Instr × Nat × Nat) := [
  (0, .aload_n 0, 1, 0), (1, .bipush 117, 2, 0), (3, .bipush 112, 2, 0), (5, .iconst 0, 1, 0), (6, .iconst 0, 1, 0), (7, .iconst 0, 1, 0),
  (8, .invokestatic 52, 3, 111), (11, .invokevirtual 56, 3, 112), (14, .ireturn, 1, 0)]
def kd116 : List (Nat × Instr × Nat × Nat) := [
  (0, .aload_n 0, 1, 0), (1, .bipush 100, 2, 0), (3, .bipush 111, 2, 0), (5, .bipush 119, 2, 0), (7, .bipush 110, 2, 0), (9, .iconst 0, 1, 0),
  (10, .invokestatic 52, 3, 111), (13, .invokevirtual 56, 3, 112), (16, .ireturn, 1, 0)]
def kd117 : List (Nat × Instr × Nat × Nat) := [
  (0, .aload_n 0, 1, 0), (1, .getfield 27, 3, 518), (4, .iconst 2, 1, 0), (5, .if_icmp .ne 35, 3, 0), (8, .aload_n 0, 1, 0), (9, .invokevirtual 60, 3, 113),
  (12, .ifCond .ne 28, 3, 0), (15, .aload_n 0, 1, 0), (16, .invokevirtual 64, 3, 114), (19, .ifCond .ne 21, 3, 0), (22, .aload_n 0, 1, 0), (23, .invokevirtual 67, 3, 115),
  (26, .ifCond .ne 14, 3, 0), (29, .aload_n 0, 1, 0), (30, .invokevirtual 70, 3, 116), (33, .ifCond .ne 7, 3, 0), (36, .iconst 1, 1, 0), (37, .goto 4, 3, 0),
  (40, .iconst 0, 1, 0), (41, .ireturn, 1, 0)]
def kd118 : List (Nat × Instr × Nat × Nat) := [
  (0, .aload_n 0, 1, 0), (1, .aload_n 0, 1, 0), (2, .getfield 27, 3, 518), (5, .iconst 1, 1, 0), (6, .if_icmp .ne 7, 3, 0), (9, .iconst 1, 1, 0),
  (10, .goto 4, 3, 0), (13, .iload_n 1, 1, 0), (14, .putfield 73, 3, 520), (17, .aload_n 0, 1, 0), (18, .aload_n 0, 1, 0), (19, .getfield 24, 3, 517),
  (22, .putfield 76, 3, 522), (25, .aload_n 0, 1, 0), (26, .aload_n 0, 1, 0), (27, .getfield 79, 3, 523), (30, .putfield 82, 3, 521), (33, .iconst 0, 1, 0),
  (34, .ireturn, 1, 0)]
def kd119 : List (Nat × Instr × Nat × Nat) := [
  (0, .iconst 0, 1, 0), (1, .istore 4, 2, 0), (3, .iload 4, 2, 0), (5, .bipush 69, 2, 0), (7, .if_icmp .ge 21, 3, 0), (10, .aload_n 2, 1, 0),
  (11, .iload_n 3, 1, 0), (12, .iload 4, 2, 0), (14, .iadd, 1, 0), (15, .aload_n 0, 1, 0), (16, .iload_n 1, 1, 0), (17, .iload 4, 2, 0),
  (19, .iadd, 1, 0), (20, .iaload, 1, 0), (21, .iastore, 1, 0), (22, .iinc 4 1, 3, 0), (25, .goto (-22), 3, 0), (28, .return_, 1, 0)]
def kd120 : List (Nat × Instr × Nat × Nat) := [
  (0, .iconst 0, 1, 0), (1, .istore_n 1, 1, 0), (2, .iload_n 1, 1, 0), (3, .aload_n 0, 1, 0), (4, .getfield 94, 3, 526), (7, .iconst 0, 1, 0),
  (8, .iaload, 1, 0), (9, .if_icmp .ge 25, 3, 0), (12, .aload_n 0, 1, 0), (13, .getfield 109, 3, 531), (16, .iload_n 1, 1, 0), (17, .laload, 1, 0),
  (18, .aload_n 0, 1, 0), (19, .getfield 37, 3, 524), (22, .lcmp, 1, 0), (23, .ifCond .ne 5, 3, 0), (26, .iload_n 1, 1, 0), (27, .ireturn, 1, 0),
  (28, .iinc 1 1, 3, 0), (31, .goto (-29), 3, 0), (34, .iconst (-1), 1, 0), (35, .ireturn, 1, 0)]
def kd121 : List (Nat × Instr × Nat × Nat) := [
  (0, .aload_n 0, 1, 0), (1, .invokevirtual 70, 3, 116), (4, .istore_n 1, 1, 0), (5, .iload_n 1, 1, 0), (6, .ifCond .ne 16, 3, 0), (9, .aload_n 0, 1, 0),
  (10, .invokevirtual 67, 3, 115), (13, .ifCond .ne 9, 3, 0), (16, .aload_n 0, 1, 0), (17, .iconst 1, 1, 0), (18, .invokevirtual 132, 3, 118), (21, .ireturn, 1, 0),
  (22, .aload_n 0, 1, 0), (23, .invokevirtual 135, 3, 110), (26, .aload_n 0, 1, 0), (27, .getfield 27, 3, 518), (30, .iconst 3, 1, 0), (31, .if_icmp .eq 9, 3, 0),
  (34, .aload_n 0, 1, 0), (35, .iconst 1, 1, 0), (36, .invokevirtual 132, 3, 118), (39, .ireturn, 1, 0), (40, .aload_n 0, 1, 0), (41, .iload_n 1, 1, 0),
  (42, .ifCond .eq 11, 3, 0), (45, .aload_n 0, 1, 0), (46, .getfield 41, 3, 519), (49, .ineg, 1, 0), (50, .goto 7, 3, 0), (53, .aload_n 0, 1, 0),
  (54, .getfield 41, 3, 519), (57, .putfield 138, 3, 534), (60, .aload_n 0, 1, 0), (61, .invokevirtual 135, 3, 110), (64, .iconst 1, 1, 0), (65, .ireturn, 1, 0)]
def kd122 : List (Nat × Instr × Nat × Nat) := [
  (0, .aload_n 0, 1, 0), (1, .getfield 94, 3, 526), (4, .iconst 0, 1, 0), (5, .iaload, 1, 0), (6, .istore_n 1, 1, 0), (7, .iload_n 1, 1, 0),
  (8, .bipush 6, 2, 0), (10, .if_icmp .ne 9, 3, 0), (13, .aload_n 0, 1, 0), (14, .iconst 4, 1, 0), (15, .invokevirtual 132, 3, 118), (18, .ireturn, 1, 0),
  (19, .aload_n 0, 1, 0), (20, .invokevirtual 135, 3, 110), (23, .aload_n 0, 1, 0), (24, .invokevirtual 141, 3, 117), (27, .ifCond .ne 9, 3, 0), (30, .aload_n 0, 1, 0),
  (31, .iconst 1, 1, 0), (32, .invokevirtual 132, 3, 118), (35, .ireturn, 1, 0), (36, .aload_n 0, 1, 0), (37, .invokevirtual 144, 3, 120), (40, .iconst (-1), 1, 0),
  (41, .if_icmp .eq 9, 3, 0), (44, .aload_n 0, 1, 0), (45, .iconst 3, 1, 0), (46, .invokevirtual 132, 3, 118), (49, .ireturn, 1, 0), (50, .aload_n 0, 1, 0),
  (51, .getfield 109, 3, 531), (54, .iload_n 1, 1, 0), (55, .aload_n 0, 1, 0), (56, .getfield 37, 3, 524), (59, .lastore, 1, 0), (60, .aload_n 0, 1, 0),
  (61, .invokevirtual 135, 3, 110), (64, .aload_n 0, 1, 0), (65, .getfield 27, 3, 518), (68, .iconst 4, 1, 0), (69, .if_icmp .eq 34, 3, 0), (72, .aload_n 0, 1, 0),
  (73, .invokevirtual 148, 3, 121), (76, .ifCond .ne 5, 3, 0), (79, .iconst 0, 1, 0), (80, .ireturn, 1, 0), (81, .aload_n 0, 1, 0), (82, .getfield 94, 3, 526),
  (85, .iconst 2, 1, 0), (86, .iload_n 1, 1, 0), (87, .iadd, 1, 0), (88, .iconst 1, 1, 0), (89, .iastore, 1, 0), (90, .aload_n 0, 1, 0),
  (91, .getfield 94, 3, 526), (94, .bipush 8, 2, 0), (96, .iload_n 1, 1, 0), (97, .iadd, 1, 0), (98, .aload_n 0, 1, 0), (99, .getfield 138, 3, 534),
  (102, .iastore, 1, 0), (103, .aload_n 0, 1, 0), (104, .getfield 94, 3, 526), (107, .iconst 0, 1, 0), (108, .dup2, 1, 0), (109, .iaload, 1, 0),
  (110, .iconst 1, 1, 0), (111, .iadd, 1, 0), (112, .iastore, 1, 0), (113, .iconst 1, 1, 0), (114, .ireturn, 1, 0)]
def kd123 : List (Nat × Instr × Nat × Nat) := [
  (0, .aload_n 0, 1, 0), (1, .getfield 94, 3, 526), (4, .iconst 1, 1, 0), (5, .iaload, 1, 0), (6, .istore_n 1, 1, 0), (7, .iload_n 1, 1, 0),
  (8, .bipush 11, 2, 0), (10, .if_icmp .ne 9, 3, 0), (13, .aload_n 0, 1, 0), (14, .iconst 4, 1, 0), (15, .invokevirtual 132, 3, 118), (18, .ireturn, 1, 0),
  (19, .aload_n 0, 1, 0), (20, .invokevirtual 135, 3, 110), (23, .aload_n 0, 1, 0), (24, .invokevirtual 141, 3, 117), (27, .ifCond .ne 9, 3, 0), (30, .aload_n 0, 1, 0),
  (31, .iconst 1, 1, 0), (32, .invokevirtual 132, 3, 118), (35, .ireturn, 1, 0), (36, .aload_n 0, 1, 0), (37, .invokevirtual 144, 3, 120), (40, .istore_n 2, 1, 0),
  (41, .iload_n 2, 1, 0), (42, .iconst (-1), 1, 0), (43, .if_icmp .ne 9, 3, 0), (46, .aload_n 0, 1, 0), (47, .iconst 3, 1, 0), (48, .invokevirtual 132, 3, 118),
  (51, .ireturn, 1, 0), (52, .aload_n 0, 1, 0), (53, .invokevirtual 135, 3, 110), (56, .aload_n 0, 1, 0), (57, .invokevirtual 141, 3, 117), (60, .ifCond .ne 9, 3, 0),
  (63, .aload_n 0, 1, 0), (64, .iconst 1, 1, 0), (65, .invokevirtual 132, 3, 118), (68, .ireturn, 1, 0), (69, .aload_n 0, 1, 0), (70, .invokevirtual 144, 3, 120),
  (73, .istore_n 3, 1, 0), (74, .iload_n 3, 1, 0), (75, .iconst (-1), 1, 0), (76, .if_icmp .eq 8, 3, 0), (79, .iload_n 3, 1, 0), (80, .iload_n 2, 1, 0),
  (81, .if_icmp .ne 9, 3, 0), (84, .aload_n 0, 1, 0), (85, .iconst 3, 1, 0), (86, .invokevirtual 132, 3, 118), (89, .ireturn, 1, 0), (90, .aload_n 0, 1, 0),
  (91, .invokevirtual 135, 3, 110), (94, .aload_n 0, 1, 0), (95, .invokevirtual 148, 3, 121), (98, .ifCond .ne 5, 3, 0), (101, .iconst 0, 1, 0), (102, .ireturn, 1, 0),
  (103, .aload_n 0, 1, 0), (104, .getfield 27, 3, 518), (107, .iconst 3, 1, 0), (108, .if_icmp .eq 9, 3, 0), (111, .aload_n 0, 1, 0), (112, .iconst 1, 1, 0),
  (113, .invokevirtual 132, 3, 118), (116, .ireturn, 1, 0), (117, .aload_n 0, 1, 0), (118, .getfield 41, 3, 519), (121, .iconst 1, 1, 0), (122, .iconst 4, 1, 0),
  (123, .invokestatic 151, 3, 101), (126, .ifCond .ne 9, 3, 0), (129, .aload_n 0, 1, 0), (130, .iconst 2, 1, 0), (131, .invokevirtual 132, 3, 118), (134, .ireturn, 1, 0),
  (135, .aload_n 0, 1, 0), (136, .getfield 94, 3, 526), (139, .iload_n 2, 1, 0), (140, .iload_n 3, 1, 0), (141, .aload_n 0, 1, 0), (142, .getfield 138, 3, 534),
  (145, .aload_n 0, 1, 0), (146, .getfield 41, 3, 519), (149, .invokestatic 155, 3, 124), (152, .aload_n 0, 1, 0), (153, .invokevirtual 135, 3, 110), (156, .iconst 1, 1, 0),
  (157, .ireturn, 1, 0)]
def kd124 : List (Nat × Instr × Nat × Nat) := [
  (0, .aload_n 0, 1, 0), (1, .iconst 1, 1, 0), (2, .iaload, 1, 0), (3, .istore 5, 2, 0), (5, .aload_n 0, 1, 0), (6, .bipush 14, 2, 0),
  (8, .iload 5, 2, 0), (10, .iadd, 1, 0), (11, .iload_n 1, 1, 0), (12, .iastore, 1, 0), (13, .aload_n 0, 1, 0), (14, .bipush 25, 2, 0),
  (16, .iload 5, 2, 0), (18, .iadd, 1, 0), (19, .iload_n 2, 1, 0), (20, .iastore, 1, 0), (21, .aload_n 0, 1, 0), (22, .bipush 36, 2, 0),
  (24, .iload 5, 2, 0), (26, .iadd, 1, 0), (27, .iload_n 3, 1, 0), (28, .iastore, 1, 0), (29, .aload_n 0, 1, 0), (30, .bipush 47, 2, 0),
  (32, .iload 5, 2, 0), (34, .iadd, 1, 0), (35, .iload 4, 2, 0), (37, .iastore, 1, 0), (38, .aload_n 0, 1, 0), (39, .bipush 58, 2, 0),
  (41, .iload 5, 2, 0), (43, .iadd, 1, 0), (44, .iconst 1, 1, 0), (45, .iastore, 1, 0), (46, .aload_n 0, 1, 0), (47, .iconst 1, 1, 0),
  (48, .dup2, 1, 0), (49, .iaload, 1, 0), (50, .iconst 1, 1, 0), (51, .iadd, 1, 0), (52, .iastore, 1, 0), (53, .return_, 1, 0)]
def kd125 : List (Nat × Instr × Nat × Nat) := [
  (0, .aload_n 0, 1, 0), (1, .getfield 27, 3, 518), (4, .iconst 4, 1, 0), (5, .if_icmp .eq 9, 3, 0), (8, .aload_n 0, 1, 0), (9, .iconst 1, 1, 0),
  (10, .invokevirtual 132, 3, 118), (13, .ireturn, 1, 0), (14, .aload_n 0, 1, 0), (15, .invokevirtual 135, 3, 110), (18, .iconst 1, 1, 0), (19, .ireturn, 1, 0)]
def kd126 : List (Nat × Instr × Nat × Nat) := [
  (0, .aload_n 0, 1, 0), (1, .iconst 0, 1, 0), (2, .putfield 1, 3, 512), (5, .aload_n 0, 1, 0), (6, .aload_n 0, 1, 0), (7, .getfield 11, 3, 514),
  (10, .putfield 18, 3, 515), (13, .aload_n 0, 1, 0), (14, .iconst 0, 1, 0), (15, .putfield 11, 3, 514), (18, .aload_n 0, 1, 0), (19, .iconst 0, 1, 0),
  (20, .putfield 73, 3, 520), (23, .aload_n 0, 1, 0), (24, .iconst (-1), 1, 0), (25, .putfield 82, 3, 521), (28, .aload_n 0, 1, 0), (29, .iconst 0, 1, 0),
  (30, .putfield 21, 3, 516), (33, .aload_n 0, 1, 0), (34, .iconst 0, 1, 0), (35, .putfield 79, 3, 523), (38, .iconst 0, 1, 0), (39, .istore_n 1, 1, 0),
  (40, .iload_n 1, 1, 0), (41, .bipush 69, 2, 0), (43, .if_icmp .ge 16, 3, 0), (46, .aload_n 0, 1, 0), (47, .getfield 94, 3, 526), (50, .iload_n 1, 1, 0),
  (51, .iconst 0, 1, 0), (52, .iastore, 1, 0), (53, .iinc 1 1, 3, 0), (56, .goto (-16), 3, 0), (59, .aload_n 0, 1, 0), (60, .invokevirtual 135, 3, 110),
  (63, .aload_n 0, 1, 0), (64, .getfield 27, 3, 518), (67, .ifCond .eq 68, 3, 0), (70, .aload_n 0, 1, 0), (71, .invokevirtual 60, 3, 113), (74, .ifCond .eq 10, 3, 0),
  (77, .aload_n 0, 1, 0), (78, .invokevirtual 159, 3, 122), (81, .goto 22, 3, 0), (84, .aload_n 0, 1, 0), (85, .invokevirtual 64, 3, 114), (88, .ifCond .eq 10, 3, 0),
  (91, .aload_n 0, 1, 0), (92, .invokevirtual 162, 3, 123), (95, .goto 8, 3, 0), (98, .aload_n 0, 1, 0), (99, .iconst 1, 1, 0), (100, .invokevirtual 132, 3, 118),
  (103, .istore_n 1, 1, 0), (104, .iload_n 1, 1, 0), (105, .ifCond .eq 10, 3, 0), (108, .aload_n 0, 1, 0), (109, .invokevirtual 165, 3, 125), (112, .ifCond .ne 10, 3, 0),
  (115, .iconst (-1), 1, 0), (116, .aload_n 0, 1, 0), (117, .getfield 76, 3, 522), (120, .isub, 1, 0), (121, .ireturn, 1, 0), (122, .aload_n 0, 1, 0),
  (123, .dup, 1, 0), (124, .getfield 79, 3, 523), (127, .iconst 1, 1, 0), (128, .iadd, 1, 0), (129, .putfield 79, 3, 523), (132, .goto (-69), 3, 0),
  (135, .aload_n 0, 1, 0), (136, .getfield 94, 3, 526), (139, .iconst 0, 1, 0), (140, .aload_n 0, 1, 0), (141, .getfield 91, 3, 525), (144, .iconst 0, 1, 0),
  (145, .invokestatic 168, 3, 119), (148, .aload_n 0, 1, 0), (149, .iconst 0, 1, 0), (150, .putfield 172, 3, 533), (153, .aload_n 0, 1, 0), (154, .getfield 79, 3, 523),
  (157, .ireturn, 1, 0)]
def kd127 : List (Nat × Instr × Nat × Nat) := [
  (0, .aload_n 0, 1, 0), (1, .iconst 0, 1, 0), (2, .putfield 1, 3, 512), (5, .iload_n 1, 1, 0), (6, .ifCond .ne 10, 3, 0), (9, .aload_n 0, 1, 0),
  (10, .getfield 73, 3, 520), (13, .goto 16, 3, 0), (16, .iload_n 1, 1, 0), (17, .iconst 1, 1, 0), (18, .if_icmp .ne 10, 3, 0), (21, .aload_n 0, 1, 0),
  (22, .getfield 82, 3, 521), (25, .goto 4, 3, 0), (28, .iconst (-1), 1, 0), (29, .ireturn, 1, 0)]
def kd128 : List (Nat × Instr × Nat × Nat) := [
  (0, .aload_n 0, 1, 0), (1, .getfield 91, 3, 525), (4, .iconst 0, 1, 0), (5, .iaload, 1, 0), (6, .ireturn, 1, 0)]
def kd129 : List (Nat × Instr × Nat × Nat) := [
  (0, .aload_n 0, 1, 0), (1, .getfield 91, 3, 525), (4, .iconst 1, 1, 0), (5, .iaload, 1, 0), (6, .ireturn, 1, 0)]
def kd130 : List (Nat × Instr × Nat × Nat) := [
  (0, .iload_n 1, 1, 0), (1, .iconst 0, 1, 0), (2, .aload_n 0, 1, 0), (3, .invokevirtual 175, 3, 128), (6, .iconst 1, 1, 0), (7, .isub, 1, 0),
  (8, .invokestatic 151, 3, 101), (11, .ireturn, 1, 0)]
def kd131 : List (Nat × Instr × Nat × Nat) := [
  (0, .iload_n 1, 1, 0), (1, .iconst 0, 1, 0), (2, .aload_n 0, 1, 0), (3, .invokevirtual 178, 3, 129), (6, .iconst 1, 1, 0), (7, .isub, 1, 0),
  (8, .invokestatic 151, 3, 101), (11, .ireturn, 1, 0)]
def kd132 : List (Nat × Instr × Nat × Nat) := [
  (0, .aload_n 0, 1, 0), (1, .getfield 91, 3, 525), (4, .iconst 2, 1, 0), (5, .iload_n 1, 1, 0), (6, .iadd, 1, 0), (7, .iaload, 1, 0),
  (8, .iconst 1, 1, 0), (9, .if_icmp .ne 7, 3, 0), (12, .iconst 1, 1, 0), (13, .goto 4, 3, 0), (16, .iconst 0, 1, 0), (17, .ireturn, 1, 0)]
def kd133 : List (Nat × Instr × Nat × Nat) := [
  (0, .aload_n 0, 1, 0), (1, .getfield 91, 3, 525), (4, .bipush 58, 2, 0), (6, .iload_n 1, 1, 0), (7, .iadd, 1, 0), (8, .iaload, 1, 0),
  (9, .iconst 1, 1, 0), (10, .if_icmp .ne 7, 3, 0), (13, .iconst 1, 1, 0), (14, .goto 4, 3, 0), (17, .iconst 0, 1, 0), (18, .ireturn, 1, 0)]
def kd134 : List (Nat × Instr × Nat × Nat) := [
  (0, .aload_n 0, 1, 0), (1, .getfield 91, 3, 525), (4, .bipush 14, 2, 0), (6, .iload_n 1, 1, 0), (7, .iadd, 1, 0), (8, .iaload, 1, 0),
  (9, .ireturn, 1, 0)]
def kd135 : List (Nat × Instr × Nat × Nat) := [
  (0, .aload_n 0, 1, 0), (1, .getfield 91, 3, 525), (4, .bipush 25, 2, 0), (6, .iload_n 1, 1, 0), (7, .iadd, 1, 0), (8, .iaload, 1, 0),
  (9, .ireturn, 1, 0)]
def kd136 : List (Nat × Instr × Nat × Nat) := [
  (0, .iconst 0, 1, 0), (1, .istore_n 1, 1, 0), (2, .iconst 0, 1, 0), (3, .istore_n 2, 1, 0), (4, .iload_n 2, 1, 0), (5, .aload_n 0, 1, 0),
  (6, .invokevirtual 178, 3, 129), (9, .if_icmp .ge 23, 3, 0), (12, .aload_n 0, 1, 0), (13, .iload_n 2, 1, 0), (14, .invokevirtual 181, 3, 133), (17, .ifCond .eq 9, 3, 0),
  (20, .iload_n 1, 1, 0), (21, .iconst 1, 1, 0), (22, .iload_n 2, 1, 0), (23, .ishl, 1, 0), (24, .ior, 1, 0), (25, .istore_n 1, 1, 0),
  (26, .iinc 2 1, 3, 0), (29, .goto (-25), 3, 0), (32, .iload_n 1, 1, 0), (33, .ireturn, 1, 0)]
def kd137 : List (Nat × Instr × Nat × Nat) := [
  (0, .iconst 0, 1, 0), (1, .istore_n 1, 1, 0), (2, .iconst 0, 1, 0), (3, .istore_n 2, 1, 0), (4, .iload_n 2, 1, 0), (5, .aload_n 0, 1, 0),
  (6, .invokevirtual 175, 3, 128), (9, .if_icmp .ge 23, 3, 0), (12, .aload_n 0, 1, 0), (13, .iload_n 2, 1, 0), (14, .invokevirtual 184, 3, 132), (17, .ifCond .eq 9, 3, 0),
  (20, .iload_n 1, 1, 0), (21, .iconst 1, 1, 0), (22, .iload_n 2, 1, 0), (23, .ishl, 1, 0), (24, .ior, 1, 0), (25, .istore_n 1, 1, 0),
  (26, .iinc 2 1, 3, 0), (29, .goto (-25), 3, 0), (32, .iload_n 1, 1, 0), (33, .ireturn, 1, 0)]
def kd138 : List (Nat × Instr × Nat × Nat) := [
  (0, .iconst 1, 1, 0), (1, .iload_n 1, 1, 0), (2, .ishl, 1, 0), (3, .istore_n 3, 1, 0), (4, .iconst 0, 1, 0), (5, .istore 4, 2, 0),
  (7, .iload_n 3, 1, 0), (8, .iload 4, 2, 0), (10, .if_icmp .eq 83, 3, 0), (13, .iload_n 3, 1, 0), (14, .istore 4, 2, 0), (16, .iload_n 3, 1, 0),
  (17, .aload_n 0, 1, 0), (18, .invokevirtual 187, 3, 137), (21, .iand, 1, 0), (22, .ifCond .eq 10, 3, 0), (25, .iload_n 3, 1, 0), (26, .aload_n 0, 1, 0),
  (27, .invokevirtual 187, 3, 137), (30, .ior, 1, 0), (31, .istore_n 3, 1, 0), (32, .iconst 0, 1, 0), (33, .istore 5, 2, 0), (35, .iload 5, 2, 0),
  (37, .aload_n 0, 1, 0), (38, .invokevirtual 178, 3, 129), (41, .if_icmp .ge 49, 3, 0), (44, .iconst 1, 1, 0), (45, .aload_n 0, 1, 0), (46, .iload 5, 2, 0),
  (48, .invokevirtual 190, 3, 134), (51, .ishl, 1, 0), (52, .iconst 1, 1, 0), (53, .aload_n 0, 1, 0), (54, .iload 5, 2, 0), (56, .invokevirtual 193, 3, 135),
  (59, .ishl, 1, 0), (60, .ior, 1, 0), (61, .istore 6, 2, 0), (63, .iload_n 2, 1, 0), (64, .iload 5, 2, 0), (66, .invokestatic 196, 3, 102),
  (69, .ifCond .eq 15, 3, 0), (72, .iload_n 3, 1, 0), (73, .iload 6, 2, 0), (75, .iand, 1, 0), (76, .ifCond .eq 8, 3, 0), (79, .iload_n 3, 1, 0),
  (80, .iload 6, 2, 0), (82, .ior, 1, 0), (83, .istore_n 3, 1, 0), (84, .iinc 5 1, 3, 0), (87, .goto (-52), 3, 0), (90, .goto (-83), 3, 0),
  (93, .iload_n 3, 1, 0), (94, .ireturn, 1, 0)]
def kd139 : List (Nat × Instr × Nat × Nat) := [
  (0, .aload_n 0, 1, 0), (1, .iload_n 1, 1, 0), (2, .iload_n 3, 1, 0), (3, .invokevirtual 200, 3, 138), (6, .iload_n 2, 1, 0), (7, .invokestatic 196, 3, 102),
  (10, .ireturn, 1, 0)]
def kd140 : List (Nat × Instr × Nat × Nat) := [
  (0, .aload_n 0, 1, 0), (1, .iload_n 1, 1, 0), (2, .aload_n 0, 1, 0), (3, .invokevirtual 204, 3, 136), (6, .invokevirtual 200, 3, 138), (9, .istore_n 2, 1, 0),
  (10, .iconst 0, 1, 0), (11, .istore_n 3, 1, 0), (12, .iload_n 2, 1, 0), (13, .iload_n 3, 1, 0), (14, .invokestatic 196, 3, 102), (17, .ifCond .ne 9, 3, 0),
  (20, .iinc 3 1, 3, 0), (23, .goto (-11), 3, 0), (26, .iload_n 3, 1, 0), (27, .ireturn, 1, 0)]
def kd141 : List (Nat × Instr × Nat × Nat) := [
  (0, .aload_n 0, 1, 0), (1, .iload_n 1, 1, 0), (2, .invokevirtual 207, 3, 140), (5, .iload_n 1, 1, 0), (6, .if_icmp .ne 24, 3, 0), (9, .aload_n 0, 1, 0),
  (10, .iload_n 1, 1, 0), (11, .aload_n 0, 1, 0), (12, .invokevirtual 204, 3, 136), (15, .invokevirtual 200, 3, 138), (18, .aload_n 0, 1, 0), (19, .invokevirtual 187, 3, 137),
  (22, .iand, 1, 0), (23, .ifCond .ne 7, 3, 0), (26, .iconst 1, 1, 0), (27, .goto 4, 3, 0), (30, .iconst 0, 1, 0), (31, .ireturn, 1, 0)]
def kd142 : List (Nat × Instr × Nat × Nat) := [
  (0, .iconst 0, 1, 0), (1, .istore_n 1, 1, 0), (2, .iconst 0, 1, 0), (3, .istore_n 2, 1, 0), (4, .iload_n 2, 1, 0), (5, .aload_n 0, 1, 0),
  (6, .invokevirtual 178, 3, 129), (9, .if_icmp .ge 41, 3, 0), (12, .aload_n 0, 1, 0), (13, .iload_n 2, 1, 0), (14, .invokevirtual 181, 3, 133), (17, .ifCond .eq 27, 3, 0),
  (20, .aload_n 0, 1, 0), (21, .aload_n 0, 1, 0), (22, .iload_n 2, 1, 0), (23, .invokevirtual 190, 3, 134), (26, .aload_n 0, 1, 0), (27, .iload_n 2, 1, 0),
  (28, .invokevirtual 193, 3, 135), (31, .iload_n 1, 1, 0), (32, .invokevirtual 210, 3, 139), (35, .ifCond .ne 9, 3, 0), (38, .iload_n 1, 1, 0), (39, .iconst 1, 1, 0),
  (40, .iload_n 2, 1, 0), (41, .ishl, 1, 0), (42, .ior, 1, 0), (43, .istore_n 1, 1, 0), (44, .iinc 2 1, 3, 0), (47, .goto (-43), 3, 0),
  (50, .iload_n 1, 1, 0), (51, .ireturn, 1, 0)]
def kd143 : List (Nat × Instr × Nat × Nat) := [
  (0, .aload_n 0, 1, 0), (1, .iload_n 1, 1, 0), (2, .invokevirtual 181, 3, 133), (5, .ifCond .eq 34, 3, 0), (8, .aload_n 0, 1, 0), (9, .aload_n 0, 1, 0),
  (10, .iload_n 1, 1, 0), (11, .invokevirtual 190, 3, 134), (14, .aload_n 0, 1, 0), (15, .iload_n 1, 1, 0), (16, .invokevirtual 193, 3, 135), (19, .aload_n 0, 1, 0),
  (20, .invokevirtual 204, 3, 136), (23, .iconst 1, 1, 0), (24, .iload_n 1, 1, 0), (25, .ishl, 1, 0), (26, .iconst (-1), 1, 0), (27, .ixor, 1, 0),
  (28, .iand, 1, 0), (29, .invokevirtual 210, 3, 139), (32, .ifCond .ne 7, 3, 0), (35, .iconst 1, 1, 0), (36, .goto 4, 3, 0), (39, .iconst 0, 1, 0),
  (40, .ireturn, 1, 0)]
def kd144 : List (Nat × Instr × Nat × Nat) := [
  (0, .aload_n 0, 1, 0), (1, .iconst 0, 1, 0), (2, .putfield 213, 3, 537), (5, .iconst 0, 1, 0), (6, .istore_n 1, 1, 0), (7, .iload_n 1, 1, 0),
  (8, .aload_n 0, 1, 0), (9, .invokevirtual 175, 3, 128), (12, .if_icmp .ge 55, 3, 0), (15, .aload_n 0, 1, 0), (16, .getfield 120, 3, 536), (19, .iload_n 1, 1, 0),
  (20, .iconst (-1), 1, 0), (21, .iastore, 1, 0), (22, .aload_n 0, 1, 0), (23, .iload_n 1, 1, 0), (24, .invokevirtual 184, 3, 132), (27, .ifCond .ne 34, 3, 0),
  (30, .aload_n 0, 1, 0), (31, .iload_n 1, 1, 0), (32, .invokevirtual 216, 3, 141), (35, .ifCond .eq 6, 3, 0), (38, .goto 23, 3, 0), (41, .aload_n 0, 1, 0),
  (42, .getfield 120, 3, 536), (45, .iload_n 1, 1, 0), (46, .aload_n 0, 1, 0), (47, .getfield 213, 3, 537), (50, .iastore, 1, 0), (51, .aload_n 0, 1, 0),
  (52, .dup, 1, 0), (53, .getfield 213, 3, 537), (56, .iconst 1, 1, 0), (57, .iadd, 1, 0), (58, .putfield 213, 3, 537), (61, .iinc 1 1, 3, 0),
  (64, .goto (-57), 3, 0), (67, .iconst 0, 1, 0), (68, .istore_n 1, 1, 0), (69, .iload_n 1, 1, 0), (70, .bipush 36, 2, 0), (72, .if_icmp .ge 16, 3, 0),
  (75, .aload_n 0, 1, 0), (76, .getfield 117, 3, 535), (79, .iload_n 1, 1, 0), (80, .lconst 0, 1, 0), (81, .lastore, 1, 0), (82, .iinc 1 1, 3, 0),
  (85, .goto (-16), 3, 0), (88, .return_, 1, 0)]
def kd145 : List (Nat × Instr × Nat × Nat) := [
  (0, .aload_n 0, 1, 0), (1, .getfield 120, 3, 536), (4, .iload_n 1, 1, 0), (5, .iaload, 1, 0), (6, .iconst (-1), 1, 0), (7, .if_icmp .eq 23, 3, 0),
  (10, .aload_n 0, 1, 0), (11, .getfield 117, 3, 535), (14, .bipush 6, 2, 0), (16, .aload_n 0, 1, 0), (17, .getfield 120, 3, 536), (20, .iload_n 1, 1, 0),
  (21, .iaload, 1, 0), (22, .imul, 1, 0), (23, .iload_n 2, 1, 0), (24, .iadd, 1, 0), (25, .dup2, 1, 0), (26, .laload, 1, 0),
  (27, .lload_n 3, 1, 0), (28, .ladd, 1, 0), (29, .lastore, 1, 0), (30, .return_, 1, 0)]
def kd146 : List (Nat × Instr × Nat × Nat) := [
  (0, .aload_n 0, 1, 0), (1, .getfield 120, 3, 536), (4, .iload_n 1, 1, 0), (5, .iaload, 1, 0), (6, .iconst (-1), 1, 0), (7, .if_icmp .ne 4, 3, 0),
  (10, .return_, 1, 0), (11, .aload_n 0, 1, 0), (12, .iload_n 1, 1, 0), (13, .aload_n 0, 1, 0), (14, .getfield 120, 3, 536), (17, .iload_n 1, 1, 0),
  (18, .iaload, 1, 0), (19, .lload_n 3, 1, 0), (20, .invokevirtual 219, 3, 145), (23, .aload_n 0, 1, 0), (24, .iload_n 1, 1, 0), (25, .iconst 5, 1, 0),
  (26, .lload_n 3, 1, 0), (27, .lload 5, 2, 0), (29, .lmul, 1, 0), (30, .invokevirtual 219, 3, 145), (33, .aload_n 0, 1, 0), (34, .getfield 120, 3, 536),
  (37, .iload_n 2, 1, 0), (38, .iaload, 1, 0), (39, .iconst (-1), 1, 0), (40, .if_icmp .eq 19, 3, 0), (43, .aload_n 0, 1, 0), (44, .iload_n 1, 1, 0),
  (45, .aload_n 0, 1, 0), (46, .getfield 120, 3, 536), (49, .iload_n 2, 1, 0), (50, .iaload, 1, 0), (51, .lload_n 3, 1, 0), (52, .lneg, 1, 0),
  (53, .invokevirtual 219, 3, 145), (56, .goto 36, 3, 0), (59, .iload 7, 2, 0), (61, .ifCond .eq 31, 3, 0), (64, .aload_n 0, 1, 0), (65, .iload_n 1, 1, 0),
  (66, .iconst 5, 1, 0), (67, .lload_n 3, 1, 0), (68, .aload_n 0, 1, 0), (69, .getfield 91, 3, 525), (72, .bipush 8, 2, 0), (74, .iload_n 2, 1, 0),
  (75, .iadd, 1, 0), (76, .iaload, 1, 0), (77, .i2l, 1, 0), (78, .lmul, 1, 0), (79, .aload_n 0, 1, 0), (80, .getfield 91, 3, 525),
  (83, .iconst 2, 1, 0), (84, .iload_n 2, 1, 0), (85, .iadd, 1, 0), (86, .iaload, 1, 0), (87, .i2l, 1, 0), (88, .lmul, 1, 0),
  (89, .invokevirtual 219, 3, 145), (92, .return_, 1, 0)]
def kd147 : List (Nat × Instr × Nat × Nat) := [
  (0, .aload_n 0, 1, 0), (1, .invokevirtual 223, 3, 144), (4, .iconst 0, 1, 0), (5, .istore_n 2, 1, 0), (6, .iload_n 2, 1, 0), (7, .aload_n 0, 1, 0),
  (8, .invokevirtual 178, 3, 129), (11, .if_icmp .ge 92, 3, 0), (14, .aload_n 0, 1, 0), (15, .iload_n 2, 1, 0), (16, .invokevirtual 181, 3, 133), (19, .ifCond .ne 6, 3, 0),
  (22, .goto 75, 3, 0), (25, .iload_n 1, 1, 0), (26, .ifCond .eq 16, 3, 0), (29, .aload_n 0, 1, 0), (30, .getfield 91, 3, 525), (33, .bipush 36, 2, 0),
  (35, .iload_n 2, 1, 0), (36, .iadd, 1, 0), (37, .iaload, 1, 0), (38, .i2l, 1, 0), (39, .goto 4, 3, 0), (42, .lconst 0, 1, 0),
  (43, .lstore_n 3, 1, 0), (44, .aload_n 0, 1, 0), (45, .aload_n 0, 1, 0), (46, .iload_n 2, 1, 0), (47, .invokevirtual 193, 3, 135), (50, .aload_n 0, 1, 0),
  (51, .iload_n 2, 1, 0), (52, .invokevirtual 190, 3, 134), (55, .aload_n 0, 1, 0), (56, .getfield 91, 3, 525), (59, .bipush 47, 2, 0), (61, .iload_n 2, 1, 0),
  (62, .iadd, 1, 0), (63, .iaload, 1, 0), (64, .i2l, 1, 0), (65, .lload_n 3, 1, 0), (66, .iload_n 1, 1, 0), (67, .invokevirtual 226, 3, 146),
  (70, .aload_n 0, 1, 0), (71, .aload_n 0, 1, 0), (72, .iload_n 2, 1, 0), (73, .invokevirtual 190, 3, 134), (76, .aload_n 0, 1, 0), (77, .iload_n 2, 1, 0),
  (78, .invokevirtual 193, 3, 135), (81, .aload_n 0, 1, 0), (82, .getfield 91, 3, 525), (85, .bipush 47, 2, 0), (87, .iload_n 2, 1, 0), (88, .iadd, 1, 0),
  (89, .iaload, 1, 0), (90, .i2l, 1, 0), (91, .lload_n 3, 1, 0), (92, .lneg, 1, 0), (93, .iload_n 1, 1, 0), (94, .invokevirtual 226, 3, 146),
  (97, .iinc 2 1, 3, 0), (100, .goto (-94), 3, 0), (103, .return_, 1, 0)]
def kd148 : List (Nat × Instr × Nat × Nat) := [
  (0, .aload_n 0, 1, 0), (1, .lconst 1, 1, 0), (2, .putfield 230, 3, 538), (5, .iconst 0, 1, 0), (6, .istore_n 1, 1, 0), (7, .iload_n 1, 1, 0),
  (8, .aload_n 0, 1, 0), (9, .getfield 213, 3, 537), (12, .if_icmp .ge 133, 3, 0), (15, .aload_n 0, 1, 0), (16, .getfield 230, 3, 538), (19, .lstore_n 2, 1, 0),
  (20, .aload_n 0, 1, 0), (21, .aload_n 0, 1, 0), (22, .getfield 117, 3, 535), (25, .bipush 7, 2, 0), (27, .iload_n 1, 1, 0), (28, .imul, 1, 0),
  (29, .laload, 1, 0), (30, .putfield 230, 3, 538), (33, .iconst 0, 1, 0), (34, .istore 4, 2, 0), (36, .iload 4, 2, 0), (38, .aload_n 0, 1, 0),
  (39, .getfield 213, 3, 537), (42, .if_icmp .ge 97, 3, 0), (45, .iload 4, 2, 0), (47, .iload_n 1, 1, 0), (48, .if_icmp .ne 6, 3, 0), (51, .goto 82, 3, 0),
  (54, .aload_n 0, 1, 0), (55, .getfield 117, 3, 535), (58, .bipush 6, 2, 0), (60, .iload 4, 2, 0), (62, .imul, 1, 0), (63, .iload_n 1, 1, 0),
  (64, .iadd, 1, 0), (65, .laload, 1, 0), (66, .lstore 5, 2, 0), (68, .iconst 0, 1, 0), (69, .istore 7, 2, 0), (71, .iload 7, 2, 0),
  (73, .bipush 6, 2, 0), (75, .if_icmp .ge 58, 3, 0), (78, .aload_n 0, 1, 0), (79, .getfield 117, 3, 535), (82, .bipush 6, 2, 0), (84, .iload 4, 2, 0),
  (86, .imul, 1, 0), (87, .iload 7, 2, 0), (89, .iadd, 1, 0), (90, .aload_n 0, 1, 0), (91, .getfield 230, 3, 538), (94, .aload_n 0, 1, 0),
  (95, .getfield 117, 3, 535), (98, .bipush 6, 2, 0), (100, .iload 4, 2, 0), (102, .imul, 1, 0), (103, .iload 7, 2, 0), (105, .iadd, 1, 0),
  (106, .laload, 1, 0), (107, .lmul, 1, 0), (108, .lload 5, 2, 0), (110, .aload_n 0, 1, 0), (111, .getfield 117, 3, 535), (114, .bipush 6, 2, 0),
  (116, .iload_n 1, 1, 0), (117, .imul, 1, 0), (118, .iload 7, 2, 0), (120, .iadd, 1, 0), (121, .laload, 1, 0), (122, .lmul, 1, 0),
  (123, .lsub, 1, 0), (124, .lload_n 2, 1, 0), (125, .ldiv, 1, 0), (126, .lastore, 1, 0), (127, .iinc 7 1, 3, 0), (130, .goto (-59), 3, 0),
  (133, .iinc 4 1, 3, 0), (136, .goto (-100), 3, 0), (139, .iinc 1 1, 3, 0), (142, .goto (-135), 3, 0), (145, .return_, 1, 0)]
def kd149 : List (Nat × Instr × Nat × Nat) := [
  (0, .aload_n 0, 1, 0), (1, .invokevirtual 233, 3, 148), (4, .iconst 0, 1, 0), (5, .istore_n 2, 1, 0), (6, .iload_n 2, 1, 0), (7, .aload_n 0, 1, 0),
  (8, .invokevirtual 175, 3, 128), (11, .if_icmp .ge 75, 3, 0), (14, .aload_n 0, 1, 0), (15, .getfield 123, 3, 539), (18, .iload_n 2, 1, 0), (19, .aload_n 0, 1, 0),
  (20, .getfield 120, 3, 536), (23, .iload_n 2, 1, 0), (24, .iaload, 1, 0), (25, .iconst (-1), 1, 0), (26, .if_icmp .eq 22, 3, 0), (29, .aload_n 0, 1, 0),
  (30, .getfield 117, 3, 535), (33, .bipush 6, 2, 0), (35, .aload_n 0, 1, 0), (36, .getfield 120, 3, 536), (39, .iload_n 2, 1, 0), (40, .iaload, 1, 0),
  (41, .imul, 1, 0), (42, .iconst 5, 1, 0), (43, .iadd, 1, 0), (44, .laload, 1, 0), (45, .goto 34, 3, 0), (48, .iload_n 1, 1, 0),
  (49, .ifCond .eq 29, 3, 0), (52, .aload_n 0, 1, 0), (53, .iload_n 2, 1, 0), (54, .invokevirtual 184, 3, 132), (57, .ifCond .eq 21, 3, 0), (60, .aload_n 0, 1, 0),
  (61, .getfield 91, 3, 525), (64, .bipush 8, 2, 0), (66, .iload_n 2, 1, 0), (67, .iadd, 1, 0), (68, .iaload, 1, 0), (69, .i2l, 1, 0),
  (70, .aload_n 0, 1, 0), (71, .getfield 230, 3, 538), (74, .lmul, 1, 0), (75, .goto 4, 3, 0), (78, .lconst 0, 1, 0), (79, .lastore, 1, 0),
  (80, .iinc 2 1, 3, 0), (83, .goto (-77), 3, 0), (86, .return_, 1, 0)]
def kd150 : List (Nat × Instr × Nat × Nat) := [
  (0, .aload_n 0, 1, 0), (1, .iconst 1, 1, 0), (2, .invokevirtual 236, 3, 147), (5, .aload_n 0, 1, 0), (6, .iconst 1, 1, 0), (7, .invokevirtual 240, 3, 149),
  (10, .return_, 1, 0)]
def kd151 : List (Nat × Instr × Nat × Nat) := [
  (0, .lload_n 1, 1, 0), (1, .lconst 0, 1, 0), (2, .lcmp, 1, 0), (3, .ifCond .ge 8, 3, 0), (6, .lload_n 1, 1, 0), (7, .lneg, 1, 0),
  (8, .goto 4, 3, 0), (11, .lload_n 1, 1, 0), (12, .lstore 5, 2, 0), (14, .lload_n 3, 1, 0), (15, .lstore 7, 2, 0), (17, .lload 7, 2, 0),
  (19, .lconst 0, 1, 0), (20, .lcmp, 1, 0), (21, .ifCond .eq 21, 3, 0), (24, .lload 5, 2, 0), (26, .lload 7, 2, 0), (28, .lrem, 1, 0),
  (29, .lstore 9, 2, 0), (31, .lload 7, 2, 0), (33, .lstore 5, 2, 0), (35, .lload 9, 2, 0), (37, .lstore 7, 2, 0), (39, .goto (-22), 3, 0),
  (42, .aload_n 0, 1, 0), (43, .getfield 126, 3, 540), (46, .iconst 0, 1, 0), (47, .lload_n 1, 1, 0), (48, .lload 5, 2, 0), (50, .ldiv, 1, 0),
  (51, .lastore, 1, 0), (52, .aload_n 0, 1, 0), (53, .getfield 126, 3, 540), (56, .iconst 1, 1, 0), (57, .lload_n 3, 1, 0), (58, .lload 5, 2, 0),
  (60, .ldiv, 1, 0), (61, .lastore, 1, 0), (62, .return_, 1, 0)]
def kd152 : List (Nat × Instr × Nat × Nat) := [
  (0, .aload_n 0, 1, 0), (1, .getfield 126, 3, 540), (4, .iload_n 1, 1, 0), (5, .laload, 1, 0), (6, .lreturn, 1, 0)]
def kd153 : List (Nat × Instr × Nat × Nat) := [
  (0, .iload_n 0, 1, 0), (1, .iconst 0, 1, 0), (2, .iconst 1, 1, 0), (3, .invokestatic 151, 3, 101), (6, .ireturn, 1, 0)]
def kd154 : List (Nat × Instr × Nat × Nat) := [
  (0, .aload_n 0, 1, 0), (1, .iconst 0, 1, 0), (2, .putfield 1, 3, 512), (5, .aload_n 0, 1, 0), (6, .iload_n 1, 1, 0), (7, .invokevirtual 243, 3, 130),
  (10, .ifCond .eq 10, 3, 0), (13, .iload_n 2, 1, 0), (14, .invokestatic 246, 3, 153), (17, .ifCond .ne 9, 3, 0), (20, .aload_n 0, 1, 0), (21, .invokevirtual 249, 3, 100),
  (24, .i2l, 1, 0), (25, .lreturn, 1, 0), (26, .aload_n 0, 1, 0), (27, .invokevirtual 252, 3, 150), (30, .aload_n 0, 1, 0), (31, .aload_n 0, 1, 0),
  (32, .getfield 123, 3, 539), (35, .iload_n 1, 1, 0), (36, .laload, 1, 0), (37, .aload_n 0, 1, 0), (38, .getfield 230, 3, 538), (41, .invokevirtual 255, 3, 151),
  (44, .aload_n 0, 1, 0), (45, .iload_n 2, 1, 0), (46, .invokevirtual 259, 3, 152), (49, .lreturn, 1, 0)]
def kd155 : List (Nat × Instr × Nat × Nat) := [
  (0, .aload_n 0, 1, 0), (1, .iconst 0, 1, 0), (2, .putfield 1, 3, 512), (5, .aload_n 0, 1, 0), (6, .iload_n 1, 1, 0), (7, .invokevirtual 243, 3, 130),
  (10, .ifCond .ne 7, 3, 0), (13, .ldc_w 263, 3, 0), (16, .ireturn, 1, 0), (17, .aload_n 0, 1, 0), (18, .invokevirtual 252, 3, 150), (21, .ldc2_w 264, 3, 0),
  (24, .aload_n 0, 1, 0), (25, .getfield 123, 3, 539), (28, .iload_n 1, 1, 0), (29, .laload, 1, 0), (30, .lmul, 1, 0), (31, .aload_n 0, 1, 0),
  (32, .getfield 230, 3, 538), (35, .ladd, 1, 0), (36, .lstore_n 2, 1, 0), (37, .ldc2_w 264, 3, 0), (40, .aload_n 0, 1, 0), (41, .getfield 230, 3, 538),
  (44, .lmul, 1, 0), (45, .lstore 4, 2, 0), (47, .lload_n 2, 1, 0), (48, .lload 4, 2, 0), (50, .ldiv, 1, 0), (51, .lstore 6, 2, 0),
  (53, .lload 6, 2, 0), (55, .lload 4, 2, 0), (57, .lmul, 1, 0), (58, .lload_n 2, 1, 0), (59, .lcmp, 1, 0), (60, .ifCond .le 10, 3, 0),
  (63, .lload 6, 2, 0), (65, .lconst 1, 1, 0), (66, .lsub, 1, 0), (67, .goto 5, 3, 0), (70, .lload 6, 2, 0), (72, .l2i, 1, 0),
  (73, .ireturn, 1, 0)]
def kd156 : List (Nat × Instr × Nat × Nat) := [
  (0, .aload_n 0, 1, 0), (1, .getfield 123, 3, 539), (4, .aload_n 0, 1, 0), (5, .iload_n 1, 1, 0), (6, .invokevirtual 193, 3, 135), (9, .laload, 1, 0),
  (10, .aload_n 0, 1, 0), (11, .getfield 123, 3, 539), (14, .aload_n 0, 1, 0), (15, .iload_n 1, 1, 0), (16, .invokevirtual 190, 3, 134), (19, .laload, 1, 0),
  (20, .lsub, 1, 0), (21, .aload_n 0, 1, 0), (22, .getfield 91, 3, 525), (25, .bipush 36, 2, 0), (27, .iload_n 1, 1, 0), (28, .iadd, 1, 0),
  (29, .iaload, 1, 0), (30, .i2l, 1, 0), (31, .aload_n 0, 1, 0), (32, .getfield 230, 3, 538), (35, .lmul, 1, 0), (36, .lsub, 1, 0),
  (37, .lreturn, 1, 0)]
def kd157 : List (Nat × Instr × Nat × Nat) := [
  (0, .aload_n 0, 1, 0), (1, .iconst 0, 1, 0), (2, .putfield 1, 3, 512), (5, .aload_n 0, 1, 0), (6, .iload_n 1, 1, 0), (7, .invokevirtual 266, 3, 131),
  (10, .ifCond .eq 18, 3, 0), (13, .aload_n 0, 1, 0), (14, .iload_n 1, 1, 0), (15, .invokevirtual 181, 3, 133), (18, .ifCond .eq 10, 3, 0), (21, .iload_n 2, 1, 0),
  (22, .invokestatic 246, 3, 153), (25, .ifCond .ne 9, 3, 0), (28, .aload_n 0, 1, 0), (29, .invokevirtual 249, 3, 100), (32, .i2l, 1, 0), (33, .lreturn, 1, 0),
  (34, .aload_n 0, 1, 0), (35, .invokevirtual 252, 3, 150), (38, .aload_n 0, 1, 0), (39, .aload_n 0, 1, 0), (40, .iload_n 1, 1, 0), (41, .invokevirtual 269, 3, 156),
  (44, .aload_n 0, 1, 0), (45, .getfield 230, 3, 538), (48, .invokevirtual 255, 3, 151), (51, .aload_n 0, 1, 0), (52, .iload_n 2, 1, 0), (53, .invokevirtual 259, 3, 152),
  (56, .lreturn, 1, 0)]
def kd158 : List (Nat × Instr × Nat × Nat) := [
  (0, .aload_n 0, 1, 0), (1, .iload_n 1, 1, 0), (2, .invokevirtual 184, 3, 132), (5, .ifCond .eq 16, 3, 0), (8, .aload_n 0, 1, 0), (9, .getfield 91, 3, 525),
  (12, .bipush 8, 2, 0), (14, .iload_n 1, 1, 0), (15, .iadd, 1, 0), (16, .iaload, 1, 0), (17, .i2l, 1, 0), (18, .goto 4, 3, 0),
  (21, .lconst 0, 1, 0), (22, .lreturn, 1, 0)]
def kd159 : List (Nat × Instr × Nat × Nat) := [
  (0, .aload_n 0, 1, 0), (1, .iconst 0, 1, 0), (2, .putfield 1, 3, 512), (5, .iload_n 1, 1, 0), (6, .invokestatic 246, 3, 153), (9, .ifCond .ne 9, 3, 0),
  (12, .aload_n 0, 1, 0), (13, .invokevirtual 249, 3, 100), (16, .i2l, 1, 0), (17, .lreturn, 1, 0), (18, .aload_n 0, 1, 0), (19, .invokevirtual 252, 3, 150),
  (22, .lconst 0, 1, 0), (23, .lstore_n 2, 1, 0), (24, .iconst 0, 1, 0), (25, .istore 4, 2, 0), (27, .iload 4, 2, 0), (29, .aload_n 0, 1, 0),
  (30, .invokevirtual 178, 3, 129), (33, .if_icmp .ge 73, 3, 0), (36, .aload_n 0, 1, 0), (37, .iload 4, 2, 0), (39, .invokevirtual 181, 3, 133), (42, .ifCond .eq 58, 3, 0),
  (45, .lload_n 2, 1, 0), (46, .aload_n 0, 1, 0), (47, .getfield 91, 3, 525), (50, .bipush 47, 2, 0), (52, .iload 4, 2, 0), (54, .iadd, 1, 0),
  (55, .iaload, 1, 0), (56, .i2l, 1, 0), (57, .aload_n 0, 1, 0), (58, .iload 4, 2, 0), (60, .invokevirtual 269, 3, 156), (63, .lmul, 1, 0),
  (64, .aload_n 0, 1, 0), (65, .aload_n 0, 1, 0), (66, .iload 4, 2, 0), (68, .invokevirtual 193, 3, 135), (71, .invokevirtual 272, 3, 158), (74, .aload_n 0, 1, 0),
  (75, .aload_n 0, 1, 0), (76, .iload 4, 2, 0), (78, .invokevirtual 190, 3, 134), (81, .invokevirtual 272, 3, 158), (84, .lsub, 1, 0), (85, .aload_n 0, 1, 0),
  (86, .getfield 91, 3, 525), (89, .bipush 36, 2, 0), (91, .iload 4, 2, 0), (93, .iadd, 1, 0), (94, .iaload, 1, 0), (95, .i2l, 1, 0),
  (96, .lsub, 1, 0), (97, .lmul, 1, 0), (98, .ladd, 1, 0), (99, .lstore_n 2, 1, 0), (100, .iinc 4 1, 3, 0), (103, .goto (-76), 3, 0),
  (106, .aload_n 0, 1, 0), (107, .lload_n 2, 1, 0), (108, .aload_n 0, 1, 0), (109, .getfield 230, 3, 538), (112, .invokevirtual 255, 3, 151), (115, .aload_n 0, 1, 0),
  (116, .iload_n 1, 1, 0), (117, .invokevirtual 259, 3, 152), (120, .lreturn, 1, 0)]
def kd160 : List (Nat × Instr × Nat × Nat) := [
  (0, .aload_n 0, 1, 0), (1, .iload_n 1, 1, 0), (2, .invokevirtual 266, 3, 131), (5, .ifCond .eq 26, 3, 0), (8, .aload_n 0, 1, 0), (9, .iload_n 1, 1, 0),
  (10, .invokevirtual 181, 3, 133), (13, .ifCond .eq 18, 3, 0), (16, .aload_n 0, 1, 0), (17, .invokevirtual 275, 3, 142), (20, .iload_n 1, 1, 0), (21, .invokestatic 196, 3, 102),
  (24, .ifCond .ne 7, 3, 0), (27, .iconst 1, 1, 0), (28, .goto 4, 3, 0), (31, .iconst 0, 1, 0), (32, .ireturn, 1, 0)]
def kd161 : List (Nat × Instr × Nat × Nat) := [
  (0, .aload_n 0, 1, 0), (1, .iconst 0, 1, 0), (2, .putfield 1, 3, 512), (5, .aload_n 0, 1, 0), (6, .invokevirtual 204, 3, 136), (9, .invokestatic 278, 3, 103),
  (12, .aload_n 0, 1, 0), (13, .invokevirtual 275, 3, 142), (16, .invokestatic 278, 3, 103), (19, .isub, 1, 0), (20, .ireturn, 1, 0)]
def kd162 : List (Nat × Instr × Nat × Nat) := [
  (0, .aload_n 0, 1, 0), (1, .iconst 0, 1, 0), (2, .putfield 1, 3, 512), (5, .aload_n 0, 1, 0), (6, .iload_n 1, 1, 0), (7, .invokevirtual 281, 3, 160),
  (10, .ifCond .ne 5, 3, 0), (13, .iconst (-1), 1, 0), (14, .ireturn, 1, 0), (15, .aload_n 0, 1, 0), (16, .invokevirtual 275, 3, 142), (19, .istore_n 2, 1, 0),
  (20, .iconst 0, 1, 0), (21, .istore_n 3, 1, 0), (22, .iconst 0, 1, 0), (23, .istore 4, 2, 0), (25, .iload 4, 2, 0), (27, .aload_n 0, 1, 0),
  (28, .invokevirtual 178, 3, 129), (31, .if_icmp .ge 50, 3, 0), (34, .iload_n 2, 1, 0), (35, .iload 4, 2, 0), (37, .invokestatic 196, 3, 102), (40, .ifCond .eq 35, 3, 0),
  (43, .aload_n 0, 1, 0), (44, .aload_n 0, 1, 0), (45, .iload_n 1, 1, 0), (46, .invokevirtual 190, 3, 134), (49, .aload_n 0, 1, 0), (50, .iload_n 1, 1, 0),
  (51, .invokevirtual 193, 3, 135), (54, .iload_n 2, 1, 0), (55, .iconst 1, 1, 0), (56, .iload 4, 2, 0), (58, .ishl, 1, 0), (59, .iconst (-1), 1, 0),
  (60, .ixor, 1, 0), (61, .iand, 1, 0), (62, .invokevirtual 210, 3, 139), (65, .ifCond .ne 10, 3, 0), (68, .iload_n 3, 1, 0), (69, .iconst 1, 1, 0),
  (70, .iload 4, 2, 0), (72, .ishl, 1, 0), (73, .ior, 1, 0), (74, .istore_n 3, 1, 0), (75, .iinc 4 1, 3, 0), (78, .goto (-53), 3, 0),
  (81, .iload_n 3, 1, 0), (82, .ireturn, 1, 0)]
def kd163 : List (Nat × Instr × Nat × Nat) := [
  (0, .aload_n 0, 1, 0), (1, .invokevirtual 275, 3, 142), (4, .istore_n 1, 1, 0), (5, .aload_n 0, 1, 0), (6, .invokevirtual 187, 3, 137), (9, .istore_n 2, 1, 0),
  (10, .iconst 0, 1, 0), (11, .istore_n 3, 1, 0), (12, .iload_n 3, 1, 0), (13, .aload_n 0, 1, 0), (14, .invokevirtual 175, 3, 128), (17, .if_icmp .ge 50, 3, 0),
  (20, .aload_n 0, 1, 0), (21, .getfield 129, 3, 541), (24, .iload_n 3, 1, 0), (25, .aload_n 0, 1, 0), (26, .iload_n 3, 1, 0), (27, .invokevirtual 184, 3, 132),
  (30, .ifCond .eq 15, 3, 0), (33, .aload_n 0, 1, 0), (34, .getfield 91, 3, 525), (37, .bipush 8, 2, 0), (39, .iload_n 3, 1, 0), (40, .iadd, 1, 0),
  (41, .iaload, 1, 0), (42, .goto 4, 3, 0), (45, .iconst 0, 1, 0), (46, .iastore, 1, 0), (47, .aload_n 0, 1, 0), (48, .iload_n 3, 1, 0),
  (49, .invokevirtual 216, 3, 141), (52, .ifCond .eq 9, 3, 0), (55, .iload_n 2, 1, 0), (56, .iconst 1, 1, 0), (57, .iload_n 3, 1, 0), (58, .ishl, 1, 0),
  (59, .ior, 1, 0), (60, .istore_n 2, 1, 0), (61, .iinc 3 1, 3, 0), (64, .goto (-52), 3, 0), (67, .iconst 0, 1, 0), (68, .istore_n 3, 1, 0),
  (69, .iload_n 3, 1, 0), (70, .aload_n 0, 1, 0), (71, .invokevirtual 175, 3, 128), (74, .if_icmp .ge 164, 3, 0), (77, .iconst 0, 1, 0), (78, .istore 4, 2, 0),
  (80, .iload 4, 2, 0), (82, .aload_n 0, 1, 0), (83, .invokevirtual 178, 3, 129), (86, .if_icmp .ge 146, 3, 0), (89, .iload_n 1, 1, 0), (90, .iload 4, 2, 0),
  (92, .invokestatic 196, 3, 102), (95, .ifCond .eq 131, 3, 0), (98, .iload_n 2, 1, 0), (99, .aload_n 0, 1, 0), (100, .iload 4, 2, 0), (102, .invokevirtual 190, 3, 134),
  (105, .invokestatic 196, 3, 102), (108, .iload_n 2, 1, 0), (109, .aload_n 0, 1, 0), (110, .iload 4, 2, 0), (112, .invokevirtual 193, 3, 135), (115, .invokestatic 196, 3, 102),
  (118, .if_icmp .ne 6, 3, 0), (121, .goto 105, 3, 0), (124, .iload_n 2, 1, 0), (125, .aload_n 0, 1, 0), (126, .iload 4, 2, 0), (128, .invokevirtual 190, 3, 134),
  (131, .invokestatic 196, 3, 102), (134, .ifCond .eq 39, 3, 0), (137, .aload_n 0, 1, 0), (138, .getfield 129, 3, 541), (141, .aload_n 0, 1, 0), (142, .iload 4, 2, 0),
  (144, .invokevirtual 193, 3, 135), (147, .aload_n 0, 1, 0), (148, .getfield 129, 3, 541), (151, .aload_n 0, 1, 0), (152, .iload 4, 2, 0), (154, .invokevirtual 190, 3, 134),
  (157, .iaload, 1, 0), (158, .aload_n 0, 1, 0), (159, .getfield 91, 3, 525), (162, .bipush 36, 2, 0), (164, .iload 4, 2, 0), (166, .iadd, 1, 0),
  (167, .iaload, 1, 0), (168, .iadd, 1, 0), (169, .iastore, 1, 0), (170, .goto 36, 3, 0), (173, .aload_n 0, 1, 0), (174, .getfield 129, 3, 541),
  (177, .aload_n 0, 1, 0), (178, .iload 4, 2, 0), (180, .invokevirtual 190, 3, 134), (183, .aload_n 0, 1, 0), (184, .getfield 129, 3, 541), (187, .aload_n 0, 1, 0),
  (188, .iload 4, 2, 0), (190, .invokevirtual 193, 3, 135), (193, .iaload, 1, 0), (194, .aload_n 0, 1, 0), (195, .getfield 91, 3, 525), (198, .bipush 36, 2, 0),
  (200, .iload 4, 2, 0), (202, .iadd, 1, 0), (203, .iaload, 1, 0), (204, .isub, 1, 0), (205, .iastore, 1, 0), (206, .iload_n 2, 1, 0),
  (207, .iconst 1, 1, 0), (208, .aload_n 0, 1, 0), (209, .iload 4, 2, 0), (211, .invokevirtual 190, 3, 134), (214, .ishl, 1, 0), (215, .iconst 1, 1, 0),
  (216, .aload_n 0, 1, 0), (217, .iload 4, 2, 0), (219, .invokevirtual 193, 3, 135), (222, .ishl, 1, 0), (223, .ior, 1, 0), (224, .ior, 1, 0),
  (225, .istore_n 2, 1, 0), (226, .iinc 4 1, 3, 0), (229, .goto (-149), 3, 0), (232, .iinc 3 1, 3, 0), (235, .goto (-166), 3, 0), (238, .return_, 1, 0)]
def kd164 : List (Nat × Instr × Nat × Nat) := [
  (0, .aload_n 0, 1, 0), (1, .getfield 91, 3, 525), (4, .bipush 36, 2, 0), (6, .iload_n 1, 1, 0), (7, .iadd, 1, 0), (8, .iaload, 1, 0),
  (9, .aload_n 0, 1, 0), (10, .getfield 129, 3, 541), (13, .aload_n 0, 1, 0), (14, .iload_n 1, 1, 0), (15, .invokevirtual 193, 3, 135), (18, .iaload, 1, 0),
  (19, .isub, 1, 0), (20, .aload_n 0, 1, 0), (21, .getfield 129, 3, 541), (24, .aload_n 0, 1, 0), (25, .iload_n 1, 1, 0), (26, .invokevirtual 190, 3, 134),
  (29, .iaload, 1, 0), (30, .iadd, 1, 0), (31, .ireturn, 1, 0)]
def kd165 : List (Nat × Instr × Nat × Nat) := [
  (0, .aload_n 0, 1, 0), (1, .iconst 0, 1, 0), (2, .putfield 1, 3, 512), (5, .aload_n 0, 1, 0), (6, .iload_n 1, 1, 0), (7, .invokevirtual 281, 3, 160),
  (10, .ifCond .ne 7, 3, 0), (13, .ldc_w 263, 3, 0), (16, .ireturn, 1, 0), (17, .aload_n 0, 1, 0), (18, .invokevirtual 284, 3, 163), (21, .aload_n 0, 1, 0),
  (22, .iload_n 1, 1, 0), (23, .invokevirtual 287, 3, 164), (26, .ireturn, 1, 0)]
def kd166 : List (Nat × Instr × Nat × Nat) := [
  (0, .iload_n 0, 1, 0), (1, .ifCond .ge 8, 3, 0), (4, .iload_n 0, 1, 0), (5, .ineg, 1, 0), (6, .goto 4, 3, 0), (9, .iload_n 0, 1, 0),
  (10, .ireturn, 1, 0)]
def kd167 : List (Nat × Instr × Nat × Nat) := [
  (0, .aload_n 0, 1, 0), (1, .iconst 0, 1, 0), (2, .putfield 1, 3, 512), (5, .aload_n 0, 1, 0), (6, .invokevirtual 284, 3, 163), (9, .iconst (-1), 1, 0),
  (10, .istore_n 1, 1, 0), (11, .iconst 0, 1, 0), (12, .istore_n 2, 1, 0), (13, .iload_n 2, 1, 0), (14, .aload_n 0, 1, 0), (15, .invokevirtual 178, 3, 129),
  (18, .if_icmp .ge 43, 3, 0), (21, .aload_n 0, 1, 0), (22, .iload_n 2, 1, 0), (23, .invokevirtual 281, 3, 160), (26, .ifCond .eq 29, 3, 0), (29, .iload_n 1, 1, 0),
  (30, .iconst (-1), 1, 0), (31, .if_icmp .eq 22, 3, 0), (34, .aload_n 0, 1, 0), (35, .iload_n 2, 1, 0), (36, .invokevirtual 287, 3, 164), (39, .invokestatic 290, 3, 166),
  (42, .aload_n 0, 1, 0), (43, .iload_n 1, 1, 0), (44, .invokevirtual 287, 3, 164), (47, .invokestatic 290, 3, 166), (50, .if_icmp .le 5, 3, 0), (53, .iload_n 2, 1, 0),
  (54, .istore_n 1, 1, 0), (55, .iinc 2 1, 3, 0), (58, .goto (-45), 3, 0), (61, .iload_n 1, 1, 0), (62, .ireturn, 1, 0)]
def kd168 : List (Nat × Instr × Nat × Nat) := [
  (0, .aload_n 0, 1, 0), (1, .iconst 0, 1, 0), (2, .invokevirtual 236, 3, 147), (5, .aload_n 0, 1, 0), (6, .iload_n 1, 1, 0), (7, .iconst 5, 1, 0),
  (8, .lconst 1, 1, 0), (9, .invokevirtual 219, 3, 145), (12, .aload_n 0, 1, 0), (13, .iload_n 2, 1, 0), (14, .iconst 5, 1, 0), (15, .ldc2_w 293, 3, 3),
  (18, .invokevirtual 219, 3, 145), (21, .aload_n 0, 1, 0), (22, .iconst 0, 1, 0), (23, .invokevirtual 240, 3, 149), (26, .aload_n 0, 1, 0), (27, .getfield 123, 3, 539),
  (30, .iload_n 1, 1, 0), (31, .laload, 1, 0), (32, .aload_n 0, 1, 0), (33, .getfield 123, 3, 539), (36, .iload_n 2, 1, 0), (37, .laload, 1, 0),
  (38, .lsub, 1, 0), (39, .lreturn, 1, 0)]
def kd169 : List (Nat × Instr × Nat × Nat) := [
  (0, .aload_n 0, 1, 0), (1, .iconst 0, 1, 0), (2, .putfield 1, 3, 512), (5, .aload_n 0, 1, 0), (6, .iload_n 1, 1, 0), (7, .invokevirtual 243, 3, 130),
  (10, .ifCond .eq 31, 3, 0), (13, .aload_n 0, 1, 0), (14, .iload_n 2, 1, 0), (15, .invokevirtual 243, 3, 130), (18, .ifCond .eq 23, 3, 0), (21, .iload_n 3, 1, 0),
  (22, .invokestatic 246, 3, 153), (25, .ifCond .eq 16, 3, 0), (28, .aload_n 0, 1, 0), (29, .iload_n 1, 1, 0), (30, .iload_n 2, 1, 0), (31, .aload_n 0, 1, 0),
  (32, .invokevirtual 204, 3, 136), (35, .invokevirtual 210, 3, 139), (38, .ifCond .ne 9, 3, 0), (41, .aload_n 0, 1, 0), (42, .invokevirtual 249, 3, 100), (45, .i2l, 1, 0),
  (46, .lreturn, 1, 0), (47, .iload_n 1, 1, 0), (48, .iload_n 2, 1, 0), (49, .if_icmp .ne 7, 3, 0), (52, .lconst 0, 1, 0), (53, .goto 9, 3, 0),
  (56, .aload_n 0, 1, 0), (57, .iload_n 1, 1, 0), (58, .iload_n 2, 1, 0), (59, .invokevirtual 295, 3, 168), (62, .lstore 4, 2, 0), (64, .aload_n 0, 1, 0),
  (65, .lload 4, 2, 0), (67, .iload_n 1, 1, 0), (68, .iload_n 2, 1, 0), (69, .if_icmp .ne 7, 3, 0), (72, .lconst 1, 1, 0), (73, .goto 7, 3, 0),
  (76, .aload_n 0, 1, 0), (77, .getfield 230, 3, 538), (80, .invokevirtual 255, 3, 151), (83, .aload_n 0, 1, 0), (84, .iload_n 3, 1, 0), (85, .invokevirtual 259, 3, 152),
  (88, .lreturn, 1, 0)]
def kd170 : List (Nat × Instr × Nat × Nat) := [
  (0, .aload_n 0, 1, 0), (1, .iconst 0, 1, 0), (2, .putfield 1, 3, 512), (5, .iconst (-1), 1, 0), (6, .istore_n 2, 1, 0), (7, .iconst (-1), 1, 0),
  (8, .istore_n 3, 1, 0), (9, .ldc2_w 293, 3, 3), (12, .lstore 4, 2, 0), (14, .iconst 0, 1, 0), (15, .istore 6, 2, 0), (17, .iload 6, 2, 0),
  (19, .aload_n 0, 1, 0), (20, .invokevirtual 175, 3, 128), (23, .if_icmp .ge 79, 3, 0), (26, .iload 6, 2, 0), (28, .iconst 1, 1, 0), (29, .iadd, 1, 0),
  (30, .istore 7, 2, 0), (32, .iload 7, 2, 0), (34, .aload_n 0, 1, 0), (35, .invokevirtual 175, 3, 128), (38, .if_icmp .ge 58, 3, 0), (41, .aload_n 0, 1, 0),
  (42, .iload 6, 2, 0), (44, .iload 7, 2, 0), (46, .aload_n 0, 1, 0), (47, .invokevirtual 204, 3, 136), (50, .invokevirtual 210, 3, 139), (53, .ifCond .ne 6, 3, 0),
  (56, .goto 34, 3, 0), (59, .aload_n 0, 1, 0), (60, .iload 6, 2, 0), (62, .iload 7, 2, 0), (64, .invokevirtual 295, 3, 168), (67, .lstore 8, 2, 0),
  (69, .lload 8, 2, 0), (71, .lload 4, 2, 0), (73, .lcmp, 1, 0), (74, .ifCond .gt 6, 3, 0), (77, .goto 13, 3, 0), (80, .lload 8, 2, 0),
  (82, .lstore 4, 2, 0), (84, .iload 6, 2, 0), (86, .istore_n 2, 1, 0), (87, .iload 7, 2, 0), (89, .istore_n 3, 1, 0), (90, .iinc 7 1, 3, 0),
  (93, .goto (-61), 3, 0), (96, .iinc 6 1, 3, 0), (99, .goto (-82), 3, 0), (102, .iload_n 1, 1, 0), (103, .ifCond .ne 7, 3, 0), (106, .iload_n 2, 1, 0),
  (107, .goto 13, 3, 0), (110, .iload_n 1, 1, 0), (111, .iconst 1, 1, 0), (112, .if_icmp .ne 7, 3, 0), (115, .iload_n 3, 1, 0), (116, .goto 4, 3, 0),
  (119, .iconst (-1), 1, 0), (120, .ireturn, 1, 0)]
def kd171 : List (Nat × Instr × Nat × Nat) := [
  (0, .aload_n 0, 1, 0), (1, .iconst 0, 1, 0), (2, .putfield 1, 3, 512), (5, .aload_n 0, 1, 0), (6, .iload_n 1, 1, 0), (7, .invokevirtual 266, 3, 131),
  (10, .ifCond .eq 18, 3, 0), (13, .aload_n 0, 1, 0), (14, .iload_n 1, 1, 0), (15, .invokevirtual 181, 3, 133), (18, .ifCond .eq 10, 3, 0), (21, .iload_n 2, 1, 0),
  (22, .invokestatic 246, 3, 153), (25, .ifCond .ne 9, 3, 0), (28, .aload_n 0, 1, 0), (29, .invokevirtual 249, 3, 100), (32, .i2l, 1, 0), (33, .lreturn, 1, 0),
  (34, .aload_n 0, 1, 0), (35, .aload_n 0, 1, 0), (36, .iload_n 1, 1, 0), (37, .invokevirtual 190, 3, 134), (40, .aload_n 0, 1, 0), (41, .iload_n 1, 1, 0),
  (42, .invokevirtual 193, 3, 135), (45, .invokevirtual 295, 3, 168), (48, .lstore_n 3, 1, 0), (49, .aload_n 0, 1, 0), (50, .aload_n 0, 1, 0), (51, .getfield 230, 3, 538),
  (54, .aload_n 0, 1, 0), (55, .getfield 91, 3, 525), (58, .bipush 47, 2, 0), (60, .iload_n 1, 1, 0), (61, .iadd, 1, 0), (62, .iaload, 1, 0),
  (63, .i2l, 1, 0), (64, .lload_n 3, 1, 0), (65, .lmul, 1, 0), (66, .lsub, 1, 0), (67, .aload_n 0, 1, 0), (68, .getfield 230, 3, 538),
  (71, .invokevirtual 255, 3, 151), (74, .aload_n 0, 1, 0), (75, .iload_n 2, 1, 0), (76, .invokevirtual 259, 3, 152), (79, .lreturn, 1, 0)]
def kd172 : List (Nat × Instr × Nat × Nat) := [
  (0, .aload_n 0, 1, 0), (1, .getfield 91, 3, 525), (4, .bipush 58, 2, 0), (6, .iload_n 1, 1, 0), (7, .iadd, 1, 0), (8, .iconst 0, 1, 0),
  (9, .iastore, 1, 0), (10, .aload_n 0, 1, 0), (11, .invokevirtual 252, 3, 150), (14, .aload_n 0, 1, 0), (15, .aload_n 0, 1, 0), (16, .getfield 123, 3, 539),
  (19, .aload_n 0, 1, 0), (20, .iload_n 1, 1, 0), (21, .invokevirtual 193, 3, 135), (24, .laload, 1, 0), (25, .aload_n 0, 1, 0), (26, .getfield 123, 3, 539),
  (29, .aload_n 0, 1, 0), (30, .iload_n 1, 1, 0), (31, .invokevirtual 190, 3, 134), (34, .laload, 1, 0), (35, .lsub, 1, 0), (36, .aload_n 0, 1, 0),
  (37, .getfield 230, 3, 538), (40, .invokevirtual 255, 3, 151), (43, .aload_n 0, 1, 0), (44, .aload_n 0, 1, 0), (45, .iconst 0, 1, 0), (46, .invokevirtual 259, 3, 152),
  (49, .putfield 299, 3, 542), (52, .aload_n 0, 1, 0), (53, .aload_n 0, 1, 0), (54, .iconst 1, 1, 0), (55, .invokevirtual 259, 3, 152), (58, .putfield 302, 3, 543),
  (61, .aload_n 0, 1, 0), (62, .getfield 91, 3, 525), (65, .bipush 58, 2, 0), (67, .iload_n 1, 1, 0), (68, .iadd, 1, 0), (69, .iconst 1, 1, 0),
  (70, .iastore, 1, 0), (71, .return_, 1, 0)]
def kd173 : List (Nat × Instr × Nat × Nat) := [
  (0, .aload_n 0, 1, 0), (1, .iconst 0, 1, 0), (2, .putfield 1, 3, 512), (5, .aload_n 0, 1, 0), (6, .iload_n 1, 1, 0), (7, .invokevirtual 266, 3, 131),
  (10, .ifCond .eq 26, 3, 0), (13, .aload_n 0, 1, 0), (14, .iload_n 1, 1, 0), (15, .invokevirtual 181, 3, 133), (18, .ifCond .eq 18, 3, 0), (21, .iload_n 2, 1, 0),
  (22, .invokestatic 246, 3, 153), (25, .ifCond .eq 11, 3, 0), (28, .aload_n 0, 1, 0), (29, .iload_n 1, 1, 0), (30, .invokevirtual 305, 3, 143), (33, .ifCond .eq 9, 3, 0),
  (36, .aload_n 0, 1, 0), (37, .invokevirtual 249, 3, 100), (40, .i2l, 1, 0), (41, .lreturn, 1, 0), (42, .aload_n 0, 1, 0), (43, .iload_n 1, 1, 0),
  (44, .invokevirtual 308, 3, 172), (47, .iload_n 2, 1, 0), (48, .ifCond .ne 10, 3, 0), (51, .aload_n 0, 1, 0), (52, .getfield 299, 3, 542), (55, .goto 7, 3, 0),
  (58, .aload_n 0, 1, 0), (59, .getfield 302, 3, 543), (62, .lreturn, 1, 0)]
def kd174 : List (Nat × Instr × Nat × Nat) := [
  (0, .aload_n 0, 1, 0), (1, .iload_n 1, 1, 0), (2, .invokevirtual 305, 3, 143), (5, .ifCond .eq 10, 3, 0), (8, .aload_n 0, 1, 0), (9, .lconst 0, 1, 0),
  (10, .lconst 1, 1, 0), (11, .invokevirtual 255, 3, 151), (14, .return_, 1, 0), (15, .aload_n 0, 1, 0), (16, .iload_n 1, 1, 0), (17, .invokevirtual 308, 3, 172),
  (20, .aload_n 0, 1, 0), (21, .invokevirtual 252, 3, 150), (24, .aload_n 0, 1, 0), (25, .aload_n 0, 1, 0), (26, .iload_n 1, 1, 0), (27, .invokevirtual 269, 3, 156),
  (30, .aload_n 0, 1, 0), (31, .getfield 230, 3, 538), (34, .invokevirtual 255, 3, 151), (37, .aload_n 0, 1, 0), (38, .iconst 0, 1, 0), (39, .invokevirtual 259, 3, 152),
  (42, .lstore_n 2, 1, 0), (43, .aload_n 0, 1, 0), (44, .iconst 1, 1, 0), (45, .invokevirtual 259, 3, 152), (48, .lstore 4, 2, 0), (50, .aload_n 0, 1, 0),
  (51, .aload_n 0, 1, 0), (52, .getfield 299, 3, 542), (55, .aload_n 0, 1, 0), (56, .getfield 91, 3, 525), (59, .bipush 36, 2, 0), (61, .iload_n 1, 1, 0),
  (62, .iadd, 1, 0), (63, .iaload, 1, 0), (64, .i2l, 1, 0), (65, .aload_n 0, 1, 0), (66, .getfield 302, 3, 543), (69, .lmul, 1, 0),
  (70, .lsub, 1, 0), (71, .aload_n 0, 1, 0), (72, .getfield 302, 3, 543), (75, .invokevirtual 255, 3, 151), (78, .aload_n 0, 1, 0), (79, .iconst 0, 1, 0),
  (80, .invokevirtual 259, 3, 152), (83, .lstore 6, 2, 0), (85, .aload_n 0, 1, 0), (86, .aload_n 0, 1, 0), (87, .getfield 91, 3, 525), (90, .bipush 47, 2, 0),
  (92, .iload_n 1, 1, 0), (93, .iadd, 1, 0), (94, .iaload, 1, 0), (95, .i2l, 1, 0), (96, .lload_n 2, 1, 0), (97, .lmul, 1, 0),
  (98, .lload 6, 2, 0), (100, .lmul, 1, 0), (101, .lload 4, 2, 0), (103, .aload_n 0, 1, 0), (104, .iconst 1, 1, 0), (105, .invokevirtual 259, 3, 152),
  (108, .lmul, 1, 0), (109, .invokevirtual 255, 3, 151), (112, .return_, 1, 0)]
def kd175 : List (Nat × Instr × Nat × Nat) := [
  (0, .aload_n 0, 1, 0), (1, .iconst 0, 1, 0), (2, .putfield 1, 3, 512), (5, .aload_n 0, 1, 0), (6, .iload_n 1, 1, 0), (7, .invokevirtual 266, 3, 131),
  (10, .ifCond .eq 18, 3, 0), (13, .aload_n 0, 1, 0), (14, .iload_n 1, 1, 0), (15, .invokevirtual 181, 3, 133), (18, .ifCond .eq 10, 3, 0), (21, .iload_n 2, 1, 0),
  (22, .invokestatic 246, 3, 153), (25, .ifCond .ne 9, 3, 0), (28, .aload_n 0, 1, 0), (29, .invokevirtual 249, 3, 100), (32, .i2l, 1, 0), (33, .lreturn, 1, 0),
  (34, .aload_n 0, 1, 0), (35, .iload_n 1, 1, 0), (36, .invokevirtual 311, 3, 174), (39, .aload_n 0, 1, 0), (40, .iload_n 2, 1, 0), (41, .invokevirtual 259, 3, 152),
  (44, .lreturn, 1, 0)]
def kd176 : List (Nat × Instr × Nat × Nat) := [
  (0, .lload_n 0, 1, 0), (1, .lload_n 2, 1, 0), (2, .ldiv, 1, 0), (3, .lload 4, 2, 0), (5, .lload 6, 2, 0), (7, .ldiv, 1, 0),
  (8, .lcmp, 1, 0), (9, .ifCond .eq 21, 3, 0), (12, .lload_n 0, 1, 0), (13, .lload_n 2, 1, 0), (14, .ldiv, 1, 0), (15, .lload 4, 2, 0),
  (17, .lload 6, 2, 0), (19, .ldiv, 1, 0), (20, .lcmp, 1, 0), (21, .ifCond .le 7, 3, 0), (24, .iconst 1, 1, 0), (25, .goto 4, 3, 0),
  (28, .iconst 0, 1, 0), (29, .ireturn, 1, 0), (30, .lload_n 0, 1, 0), (31, .lload_n 2, 1, 0), (32, .lrem, 1, 0), (33, .lconst 0, 1, 0),
  (34, .lcmp, 1, 0), (35, .ifCond .eq 13, 3, 0), (38, .lload 4, 2, 0), (40, .lload 6, 2, 0), (42, .lrem, 1, 0), (43, .lconst 0, 1, 0),
  (44, .lcmp, 1, 0), (45, .ifCond .ne 27, 3, 0), (48, .lload_n 0, 1, 0), (49, .lload_n 2, 1, 0), (50, .lrem, 1, 0), (51, .lconst 0, 1, 0),
  (52, .lcmp, 1, 0), (53, .ifCond .eq 17, 3, 0), (56, .lload 4, 2, 0), (58, .lload 6, 2, 0), (60, .lrem, 1, 0), (61, .lconst 0, 1, 0),
  (62, .lcmp, 1, 0), (63, .ifCond .ne 7, 3, 0), (66, .iconst 1, 1, 0), (67, .goto 4, 3, 0), (70, .iconst 0, 1, 0), (71, .ireturn, 1, 0),
  (72, .lload 6, 2, 0), (74, .lload 4, 2, 0), (76, .lload 6, 2, 0), (78, .lrem, 1, 0), (79, .lload_n 2, 1, 0), (80, .lload_n 0, 1, 0),
  (81, .lload_n 2, 1, 0), (82, .lrem, 1, 0), (83, .invokestatic 314, 3, 176), (86, .ireturn, 1, 0)]
def kd177 : List (Nat × Instr × Nat × Nat) := [
  (0, .iconst (-1), 1, 0), (1, .istore_n 1, 1, 0), (2, .aload_n 0, 1, 0), (3, .lconst 0, 1, 0), (4, .putfield 318, 3, 544), (7, .aload_n 0, 1, 0),
  (8, .lconst 1, 1, 0), (9, .putfield 321, 3, 545), (12, .iconst 0, 1, 0), (13, .istore_n 2, 1, 0), (14, .iload_n 2, 1, 0), (15, .aload_n 0, 1, 0),
  (16, .invokevirtual 178, 3, 129), (19, .if_icmp .ge 72, 3, 0), (22, .aload_n 0, 1, 0), (23, .iload_n 2, 1, 0), (24, .invokevirtual 181, 3, 133), (27, .ifCond .ne 6, 3, 0),
  (30, .goto 55, 3, 0), (33, .aload_n 0, 1, 0), (34, .iload_n 2, 1, 0), (35, .invokevirtual 311, 3, 174), (38, .aload_n 0, 1, 0), (39, .iconst 0, 1, 0),
  (40, .invokevirtual 259, 3, 152), (43, .aload_n 0, 1, 0), (44, .iconst 1, 1, 0), (45, .invokevirtual 259, 3, 152), (48, .aload_n 0, 1, 0), (49, .getfield 318, 3, 544),
  (52, .aload_n 0, 1, 0), (53, .getfield 321, 3, 545), (56, .invokestatic 314, 3, 176), (59, .ifCond .ne 6, 3, 0), (62, .goto 23, 3, 0), (65, .iload_n 2, 1, 0),
  (66, .istore_n 1, 1, 0), (67, .aload_n 0, 1, 0), (68, .aload_n 0, 1, 0), (69, .iconst 0, 1, 0), (70, .invokevirtual 259, 3, 152), (73, .putfield 318, 3, 544),
  (76, .aload_n 0, 1, 0), (77, .aload_n 0, 1, 0), (78, .iconst 1, 1, 0), (79, .invokevirtual 259, 3, 152), (82, .putfield 321, 3, 545), (85, .iinc 2 1, 3, 0),
  (88, .goto (-74), 3, 0), (91, .iload_n 1, 1, 0), (92, .ireturn, 1, 0)]
def kd178 : List (Nat × Instr × Nat × Nat) := [
  (0, .aload_n 0, 1, 0), (1, .iconst 0, 1, 0), (2, .putfield 1, 3, 512), (5, .aload_n 0, 1, 0), (6, .invokevirtual 324, 3, 177), (9, .ireturn, 1, 0)]
def kd179 : List (Nat × Instr × Nat × Nat) := [
  (0, .aload_n 0, 1, 0), (1, .getfield 172, 3, 533), (4, .bipush 8, 2, 0), (6, .if_icmp .ne 43, 3, 0), (9, .iconst 0, 1, 0), (10, .istore_n 1, 1, 0),
  (11, .iload_n 1, 1, 0), (12, .sipush 483, 3, 0), (15, .if_icmp .ge 24, 3, 0), (18, .aload_n 0, 1, 0), (19, .getfield 100, 3, 528), (22, .iload_n 1, 1, 0),
  (23, .aload_n 0, 1, 0), (24, .getfield 100, 3, 528), (27, .iload_n 1, 1, 0), (28, .bipush 69, 2, 0), (30, .iadd, 1, 0), (31, .iaload, 1, 0),
  (32, .iastore, 1, 0), (33, .iinc 1 1, 3, 0), (36, .goto (-25), 3, 0), (39, .aload_n 0, 1, 0), (40, .dup, 1, 0), (41, .getfield 172, 3, 533),
  (44, .iconst 1, 1, 0), (45, .isub, 1, 0), (46, .putfield 172, 3, 533), (49, .aload_n 0, 1, 0), (50, .getfield 91, 3, 525), (53, .iconst 0, 1, 0),
  (54, .aload_n 0, 1, 0), (55, .getfield 100, 3, 528), (58, .bipush 69, 2, 0), (60, .aload_n 0, 1, 0), (61, .getfield 172, 3, 533), (64, .imul, 1, 0),
  (65, .invokestatic 168, 3, 119), (68, .aload_n 0, 1, 0), (69, .dup, 1, 0), (70, .getfield 172, 3, 533), (73, .iconst 1, 1, 0), (74, .iadd, 1, 0),
  (75, .putfield 172, 3, 533), (78, .return_, 1, 0)]
def kd180 : List (Nat × Instr × Nat × Nat) := [
  (0, .aload_n 0, 1, 0), (1, .getfield 91, 3, 525), (4, .iconst 0, 1, 0), (5, .aload_n 0, 1, 0), (6, .getfield 106, 3, 530), (9, .iconst 0, 1, 0),
  (10, .invokestatic 168, 3, 119), (13, .aload_n 0, 1, 0), (14, .getfield 103, 3, 529), (17, .iconst 0, 1, 0), (18, .aload_n 0, 1, 0), (19, .getfield 91, 3, 525),
  (22, .iconst 0, 1, 0), (23, .invokestatic 168, 3, 119), (26, .aload_n 0, 1, 0), (27, .invokevirtual 327, 3, 179), (30, .aload_n 0, 1, 0), (31, .getfield 106, 3, 530),
  (34, .iconst 0, 1, 0), (35, .aload_n 0, 1, 0), (36, .getfield 91, 3, 525), (39, .iconst 0, 1, 0), (40, .invokestatic 168, 3, 119), (43, .return_, 1, 0)]
def kd181 : List (Nat × Instr × Nat × Nat) := [
  (0, .aload_n 0, 1, 0), (1, .iconst 0, 1, 0), (2, .putfield 1, 3, 512), (5, .iload_n 3, 1, 0), (6, .ifCond .ne 5, 3, 0), (9, .iconst (-1), 1, 0),
  (10, .ireturn, 1, 0), (11, .aload_n 0, 1, 0), (12, .getfield 91, 3, 525), (15, .iload_n 1, 1, 0), (16, .iaload, 1, 0), (17, .iload_n 2, 1, 0),
  (18, .if_icmp .ne 5, 3, 0), (21, .iconst 1, 1, 0), (22, .ireturn, 1, 0), (23, .aload_n 0, 1, 0), (24, .invokevirtual 327, 3, 179), (27, .aload_n 0, 1, 0),
  (28, .getfield 91, 3, 525), (31, .iload_n 1, 1, 0), (32, .iload_n 2, 1, 0), (33, .iastore, 1, 0), (34, .iconst 0, 1, 0), (35, .ireturn, 1, 0)]
def kd182 : List (Nat × Instr × Nat × Nat) := [
  (0, .aload_n 0, 1, 0), (1, .bipush 58, 2, 0), (3, .iload_n 1, 1, 0), (4, .iadd, 1, 0), (5, .iconst 0, 1, 0), (6, .aload_n 0, 1, 0),
  (7, .iload_n 1, 1, 0), (8, .invokevirtual 266, 3, 131), (11, .invokevirtual 330, 3, 181), (14, .ireturn, 1, 0)]
def kd183 : List (Nat × Instr × Nat × Nat) := [
  (0, .aload_n 0, 1, 0), (1, .bipush 58, 2, 0), (3, .iload_n 1, 1, 0), (4, .iadd, 1, 0), (5, .iconst 1, 1, 0), (6, .aload_n 0, 1, 0),
  (7, .iload_n 1, 1, 0), (8, .invokevirtual 266, 3, 131), (11, .invokevirtual 330, 3, 181), (14, .ireturn, 1, 0)]
def kd184 : List (Nat × Instr × Nat × Nat) := [
  (0, .aload_n 0, 1, 0), (1, .bipush 36, 2, 0), (3, .iload_n 1, 1, 0), (4, .iadd, 1, 0), (5, .iload_n 2, 1, 0), (6, .aload_n 0, 1, 0),
  (7, .iload_n 1, 1, 0), (8, .invokevirtual 266, 3, 131), (11, .ifCond .eq 18, 3, 0), (14, .iload_n 2, 1, 0), (15, .bipush (-99), 2, 0), (17, .bipush 99, 2, 0),
  (19, .invokestatic 151, 3, 101), (22, .ifCond .eq 7, 3, 0), (25, .iconst 1, 1, 0), (26, .goto 4, 3, 0), (29, .iconst 0, 1, 0), (30, .invokevirtual 330, 3, 181),
  (33, .ireturn, 1, 0)]
def kd185 : List (Nat × Instr × Nat × Nat) := [
  (0, .aload_n 0, 1, 0), (1, .bipush 47, 2, 0), (3, .iload_n 1, 1, 0), (4, .iadd, 1, 0), (5, .iload_n 2, 1, 0), (6, .aload_n 0, 1, 0),
  (7, .iload_n 1, 1, 0), (8, .invokevirtual 266, 3, 131), (11, .ifCond .eq 16, 3, 0), (14, .iload_n 2, 1, 0), (15, .iconst 1, 1, 0), (16, .iconst 4, 1, 0),
  (17, .invokestatic 151, 3, 101), (20, .ifCond .eq 7, 3, 0), (23, .iconst 1, 1, 0), (24, .goto 4, 3, 0), (27, .iconst 0, 1, 0), (28, .invokevirtual 330, 3, 181),
  (31, .ireturn, 1, 0)]
def kd186 : List (Nat × Instr × Nat × Nat) := [
  (0, .aload_n 0, 1, 0), (1, .iconst 2, 1, 0), (2, .iload_n 1, 1, 0), (3, .iadd, 1, 0), (4, .iconst 0, 1, 0), (5, .aload_n 0, 1, 0),
  (6, .iload_n 1, 1, 0), (7, .invokevirtual 243, 3, 130), (10, .invokevirtual 330, 3, 181), (13, .ireturn, 1, 0)]
def kd187 : List (Nat × Instr × Nat × Nat) := [
  (0, .aload_n 0, 1, 0), (1, .iconst 0, 1, 0), (2, .putfield 1, 3, 512), (5, .aload_n 0, 1, 0), (6, .iload_n 1, 1, 0), (7, .invokevirtual 243, 3, 130),
  (10, .ifCond .eq 14, 3, 0), (13, .iload_n 2, 1, 0), (14, .bipush (-99), 2, 0), (16, .bipush 99, 2, 0), (18, .invokestatic 151, 3, 101), (21, .ifCond .ne 5, 3, 0),
  (24, .iconst (-1), 1, 0), (25, .ireturn, 1, 0), (26, .aload_n 0, 1, 0), (27, .iload_n 1, 1, 0), (28, .invokevirtual 184, 3, 132), (31, .ifCond .eq 18, 3, 0),
  (34, .aload_n 0, 1, 0), (35, .getfield 91, 3, 525), (38, .bipush 8, 2, 0), (40, .iload_n 1, 1, 0), (41, .iadd, 1, 0), (42, .iaload, 1, 0),
  (43, .iload_n 2, 1, 0), (44, .if_icmp .ne 5, 3, 0), (47, .iconst 1, 1, 0), (48, .ireturn, 1, 0), (49, .aload_n 0, 1, 0), (50, .invokevirtual 327, 3, 179),
  (53, .aload_n 0, 1, 0), (54, .getfield 91, 3, 525), (57, .iconst 2, 1, 0), (58, .iload_n 1, 1, 0), (59, .iadd, 1, 0), (60, .iconst 1, 1, 0),
  (61, .iastore, 1, 0), (62, .aload_n 0, 1, 0), (63, .getfield 91, 3, 525), (66, .bipush 8, 2, 0), (68, .iload_n 1, 1, 0), (69, .iadd, 1, 0),
  (70, .iload_n 2, 1, 0), (71, .iastore, 1, 0), (72, .iconst 0, 1, 0), (73, .ireturn, 1, 0)]
def kd188 : List (Nat × Instr × Nat × Nat) := [
  (0, .aload_n 0, 1, 0), (1, .iconst 0, 1, 0), (2, .putfield 1, 3, 512), (5, .aload_n 0, 1, 0), (6, .invokevirtual 178, 3, 129), (9, .bipush 11, 2, 0),
  (11, .if_icmp .eq 45, 3, 0), (14, .aload_n 0, 1, 0), (15, .iload_n 1, 1, 0), (16, .invokevirtual 243, 3, 130), (19, .ifCond .eq 37, 3, 0), (22, .aload_n 0, 1, 0),
  (23, .iload_n 2, 1, 0), (24, .invokevirtual 243, 3, 130), (27, .ifCond .eq 29, 3, 0), (30, .iload_n 1, 1, 0), (31, .iload_n 2, 1, 0), (32, .if_icmp .eq 24, 3, 0),
  (35, .iload_n 3, 1, 0), (36, .bipush (-99), 2, 0), (38, .bipush 99, 2, 0), (40, .invokestatic 151, 3, 101), (43, .ifCond .eq 13, 3, 0), (46, .iload 4, 2, 0),
  (48, .iconst 1, 1, 0), (49, .iconst 4, 1, 0), (50, .invokestatic 151, 3, 101), (53, .ifCond .ne 5, 3, 0), (56, .iconst (-1), 1, 0), (57, .ireturn, 1, 0),
  (58, .aload_n 0, 1, 0), (59, .invokevirtual 327, 3, 179), (62, .aload_n 0, 1, 0), (63, .getfield 91, 3, 525), (66, .iload_n 1, 1, 0), (67, .iload_n 2, 1, 0),
  (68, .iload_n 3, 1, 0), (69, .iload 4, 2, 0), (71, .invokestatic 155, 3, 124), (74, .aload_n 0, 1, 0), (75, .invokevirtual 178, 3, 129), (78, .iconst 1, 1, 0),
  (79, .isub, 1, 0), (80, .ireturn, 1, 0)]
def kd189 : List (Nat × Instr × Nat × Nat) := [
  (0, .aload_n 0, 1, 0), (1, .iconst 0, 1, 0), (2, .putfield 1, 3, 512), (5, .iload_n 1, 1, 0), (6, .iconst 0, 1, 0), (7, .sipush 9999, 3, 0),
  (10, .invokestatic 151, 3, 101), (13, .ifCond .ne 5, 3, 0), (16, .iconst (-1), 1, 0), (17, .ireturn, 1, 0), (18, .aload_n 0, 1, 0), (19, .getfield 91, 3, 525),
  (22, .iconst 0, 1, 0), (23, .aload_n 0, 1, 0), (24, .getfield 103, 3, 529), (27, .iconst 0, 1, 0), (28, .invokestatic 168, 3, 119), (31, .iconst 0, 1, 0),
  (32, .istore_n 2, 1, 0), (33, .aload_n 0, 1, 0), (34, .invokevirtual 324, 3, 177), (37, .istore_n 3, 1, 0), (38, .iload_n 3, 1, 0), (39, .iconst (-1), 1, 0),
  (40, .if_icmp .eq 41, 3, 0), (43, .aload_n 0, 1, 0), (44, .getfield 318, 3, 544), (47, .aload_n 0, 1, 0), (48, .getfield 321, 3, 545), (51, .iload_n 1, 1, 0),
  (52, .i2l, 1, 0), (53, .lconst 1, 1, 0), (54, .invokestatic 314, 3, 176), (57, .ifCond .eq 24, 3, 0), (60, .aload_n 0, 1, 0), (61, .getfield 91, 3, 525),
  (64, .bipush 58, 2, 0), (66, .iload_n 3, 1, 0), (67, .iadd, 1, 0), (68, .iconst 0, 1, 0), (69, .iastore, 1, 0), (70, .iinc 2 1, 3, 0),
  (73, .aload_n 0, 1, 0), (74, .invokevirtual 324, 3, 177), (77, .istore_n 3, 1, 0), (78, .goto (-40), 3, 0), (81, .iload_n 2, 1, 0), (82, .ifCond .le 7, 3, 0),
  (85, .aload_n 0, 1, 0), (86, .invokevirtual 334, 3, 180), (89, .iload_n 2, 1, 0), (90, .ireturn, 1, 0)]
def kd190 : List (Nat × Instr × Nat × Nat) := [
  (0, .aload_n 0, 1, 0), (1, .aload_n 0, 1, 0), (2, .getfield 337, 3, 546), (5, .ldc_w 340, 3, 1), (8, .imul, 1, 0), (9, .sipush 12345, 3, 0),
  (12, .iadd, 1, 0), (13, .putfield 337, 3, 546), (16, .aload_n 0, 1, 0), (17, .getfield 337, 3, 546), (20, .bipush 8, 2, 0), (22, .iushr, 1, 0),
  (23, .iload_n 1, 1, 0), (24, .irem, 1, 0), (25, .ireturn, 1, 0)]
def kd191 : List (Nat × Instr × Nat × Nat) := [
  (0, .aload_n 0, 1, 0), (1, .aload_n 0, 1, 0), (2, .invokevirtual 178, 3, 129), (5, .invokevirtual 341, 3, 190), (8, .istore_n 1, 1, 0), (9, .aload_n 0, 1, 0),
  (10, .bipush 9, 2, 0), (12, .invokevirtual 341, 3, 190), (15, .iconst 4, 1, 0), (16, .isub, 1, 0), (17, .istore_n 2, 1, 0), (18, .aload_n 0, 1, 0),
  (19, .getfield 91, 3, 525), (22, .bipush 36, 2, 0), (24, .iload_n 1, 1, 0), (25, .iadd, 1, 0), (26, .iaload, 1, 0), (27, .iload_n 2, 1, 0),
  (28, .iadd, 1, 0), (29, .istore_n 3, 1, 0), (30, .iload_n 2, 1, 0), (31, .ifCond .eq 14, 3, 0), (34, .iload_n 3, 1, 0), (35, .bipush (-99), 2, 0),
  (37, .bipush 99, 2, 0), (39, .invokestatic 151, 3, 101), (42, .ifCond .ne 5, 3, 0), (45, .iconst 0, 1, 0), (46, .ireturn, 1, 0), (47, .aload_n 0, 1, 0),
  (48, .getfield 91, 3, 525), (51, .bipush 36, 2, 0), (53, .iload_n 1, 1, 0), (54, .iadd, 1, 0), (55, .iload_n 3, 1, 0), (56, .iastore, 1, 0),
  (57, .iconst 1, 1, 0), (58, .ireturn, 1, 0)]
def kd192 : List (Nat × Instr × Nat × Nat) := [
  (0, .aload_n 0, 1, 0), (1, .iconst 0, 1, 0), (2, .putfield 1, 3, 512), (5, .iload_n 1, 1, 0), (6, .iconst 1, 1, 0), (7, .bipush 60, 2, 0),
  (9, .invokestatic 151, 3, 101), (12, .ifCond .ne 5, 3, 0), (15, .iconst (-1), 1, 0), (16, .ireturn, 1, 0), (17, .aload_n 0, 1, 0), (18, .getfield 91, 3, 525),
  (21, .iconst 0, 1, 0), (22, .aload_n 0, 1, 0), (23, .getfield 103, 3, 529), (26, .iconst 0, 1, 0), (27, .invokestatic 168, 3, 119), (30, .aload_n 0, 1, 0),
  (31, .iload_n 2, 1, 0), (32, .putfield 337, 3, 546), (35, .iconst 0, 1, 0), (36, .istore_n 3, 1, 0), (37, .iconst 0, 1, 0), (38, .istore 4, 2, 0),
  (40, .iload 4, 2, 0), (42, .iload_n 1, 1, 0), (43, .if_icmp .ge 26, 3, 0), (46, .aload_n 0, 1, 0), (47, .invokevirtual 178, 3, 129), (50, .ifCond .le 19, 3, 0),
  (53, .aload_n 0, 1, 0), (54, .invokevirtual 344, 3, 191), (57, .ifCond .eq 6, 3, 0), (60, .iinc 3 1, 3, 0), (63, .iinc 4 1, 3, 0), (66, .goto (-26), 3, 0),
  (69, .iload_n 3, 1, 0), (70, .ifCond .le 7, 3, 0), (73, .aload_n 0, 1, 0), (74, .invokevirtual 334, 3, 180), (77, .iload_n 3, 1, 0), (78, .ireturn, 1, 0)]
def kd193 : List (Nat × Instr × Nat × Nat) := [
  (0, .aload_n 0, 1, 0), (1, .iconst 0, 1, 0), (2, .putfield 1, 3, 512), (5, .aload_n 0, 1, 0), (6, .getfield 172, 3, 533), (9, .ifCond .ne 5, 3, 0),
  (12, .iconst (-1), 1, 0), (13, .ireturn, 1, 0), (14, .aload_n 0, 1, 0), (15, .dup, 1, 0), (16, .getfield 172, 3, 533), (19, .iconst 1, 1, 0),
  (20, .isub, 1, 0), (21, .putfield 172, 3, 533), (24, .aload_n 0, 1, 0), (25, .getfield 100, 3, 528), (28, .bipush 69, 2, 0), (30, .aload_n 0, 1, 0),
  (31, .getfield 172, 3, 533), (34, .imul, 1, 0), (35, .aload_n 0, 1, 0), (36, .getfield 91, 3, 525), (39, .iconst 0, 1, 0), (40, .invokestatic 168, 3, 119),
  (43, .aload_n 0, 1, 0), (44, .getfield 172, 3, 533), (47, .ireturn, 1, 0)]
def kd194 : List (Nat × Instr × Nat × Nat) := [
  (0, .aload_n 0, 1, 0), (1, .iconst 0, 1, 0), (2, .putfield 1, 3, 512), (5, .iload_n 1, 1, 0), (6, .iconst 0, 1, 0), (7, .iconst 1, 1, 0),
  (8, .invokestatic 151, 3, 101), (11, .ifCond .ne 5, 3, 0), (14, .iconst 0, 1, 0), (15, .ireturn, 1, 0), (16, .aload_n 0, 1, 0), (17, .getfield 91, 3, 525),
  (20, .iconst 0, 1, 0), (21, .aload_n 0, 1, 0), (22, .getfield 97, 3, 527), (25, .bipush 69, 2, 0), (27, .iload_n 1, 1, 0), (28, .imul, 1, 0),
  (29, .invokestatic 168, 3, 119), (32, .aload_n 0, 1, 0), (33, .getfield 113, 3, 532), (36, .iload_n 1, 1, 0), (37, .iconst 1, 1, 0), (38, .bastore, 1, 0),
  (39, .iconst 1, 1, 0), (40, .ireturn, 1, 0)]
def kd195 : List (Nat × Instr × Nat × Nat) := [
  (0, .aload_n 0, 1, 0), (1, .iconst 0, 1, 0), (2, .putfield 1, 3, 512), (5, .iload_n 1, 1, 0), (6, .iconst 0, 1, 0), (7, .iconst 1, 1, 0),
  (8, .invokestatic 151, 3, 101), (11, .ifCond .eq 12, 3, 0), (14, .aload_n 0, 1, 0), (15, .getfield 113, 3, 532), (18, .iload_n 1, 1, 0), (19, .baload, 1, 0),
  (20, .ifCond .ne 5, 3, 0), (23, .iconst 0, 1, 0), (24, .ireturn, 1, 0), (25, .aload_n 0, 1, 0), (26, .getfield 97, 3, 527), (29, .bipush 69, 2, 0),
  (31, .iload_n 1, 1, 0), (32, .imul, 1, 0), (33, .aload_n 0, 1, 0), (34, .getfield 91, 3, 525), (37, .iconst 0, 1, 0), (38, .invokestatic 168, 3, 119),
  (41, .aload_n 0, 1, 0), (42, .iconst 0, 1, 0), (43, .putfield 172, 3, 533), (46, .iconst 1, 1, 0), (47, .ireturn, 1, 0)]
def kd196 : List (Nat × Instr × Nat × Nat) := [
  (0, .aload_n 0, 1, 0), (1, .iconst 0, 1, 0), (2, .putfield 1, 3, 512), (5, .aload_n 0, 1, 0), (6, .iload_n 1, 1, 0), (7, .invokevirtual 243, 3, 130),
  (10, .ifCond .ne 8, 3, 0), (13, .aload_n 0, 1, 0), (14, .invokevirtual 249, 3, 100), (17, .ireturn, 1, 0), (18, .iload_n 2, 1, 0), (19, .tableswitch 140 0 4 #[33, 42, 66, 72, 86], 33, 0),
  (52, .aload_n 0, 1, 0), (53, .getfield 91, 3, 525), (56, .iconst 2, 1, 0), (57, .iload_n 1, 1, 0), (58, .iadd, 1, 0), (59, .iaload, 1, 0),
  (60, .ireturn, 1, 0), (61, .aload_n 0, 1, 0), (62, .iload_n 1, 1, 0), (63, .invokevirtual 184, 3, 132), (66, .ifCond .eq 15, 3, 0), (69, .aload_n 0, 1, 0),
  (70, .getfield 91, 3, 525), (73, .bipush 8, 2, 0), (75, .iload_n 1, 1, 0), (76, .iadd, 1, 0), (77, .iaload, 1, 0), (78, .goto 6, 3, 0),
  (81, .ldc_w 263, 3, 0), (84, .ireturn, 1, 0), (85, .aload_n 0, 1, 0), (86, .iload_n 1, 1, 0), (87, .invokevirtual 207, 3, 140), (90, .ireturn, 1, 0),
  (91, .aload_n 0, 1, 0), (92, .iload_n 1, 1, 0), (93, .invokevirtual 216, 3, 141), (96, .ifCond .eq 7, 3, 0), (99, .iconst 1, 1, 0), (100, .goto 4, 3, 0),
  (103, .iconst 0, 1, 0), (104, .ireturn, 1, 0), (105, .iconst 0, 1, 0), (106, .istore_n 3, 1, 0), (107, .iconst 0, 1, 0), (108, .istore 4, 2, 0),
  (110, .iload 4, 2, 0), (112, .aload_n 0, 1, 0), (113, .invokevirtual 178, 3, 129), (116, .if_icmp .ge 41, 3, 0), (119, .aload_n 0, 1, 0), (120, .iload 4, 2, 0),
  (122, .invokevirtual 181, 3, 133), (125, .ifCond .eq 26, 3, 0), (128, .aload_n 0, 1, 0), (129, .iload 4, 2, 0), (131, .invokevirtual 190, 3, 134), (134, .iload_n 1, 1, 0),
  (135, .if_icmp .eq 13, 3, 0), (138, .aload_n 0, 1, 0), (139, .iload 4, 2, 0), (141, .invokevirtual 193, 3, 135), (144, .iload_n 1, 1, 0), (145, .if_icmp .ne 6, 3, 0),
  (148, .iinc 3 1, 3, 0), (151, .iinc 4 1, 3, 0), (154, .goto (-44), 3, 0), (157, .iload_n 3, 1, 0), (158, .ireturn, 1, 0), (159, .aload_n 0, 1, 0),
  (160, .invokevirtual 249, 3, 100), (163, .ireturn, 1, 0)]
def kd197 : List (Nat × Instr × Nat × Nat) := [
  (0, .aload_n 0, 1, 0), (1, .iconst 0, 1, 0), (2, .putfield 1, 3, 512), (5, .aload_n 0, 1, 0), (6, .iload_n 1, 1, 0), (7, .invokevirtual 266, 3, 131),
  (10, .ifCond .ne 8, 3, 0), (13, .aload_n 0, 1, 0), (14, .invokevirtual 249, 3, 100), (17, .ireturn, 1, 0), (18, .iload_n 2, 1, 0), (19, .tableswitch 114 0 6 #[41, 47, 53, 63, 73, 83, 100], 41, 0),
  (60, .aload_n 0, 1, 0), (61, .iload_n 1, 1, 0), (62, .invokevirtual 190, 3, 134), (65, .ireturn, 1, 0), (66, .aload_n 0, 1, 0), (67, .iload_n 1, 1, 0),
  (68, .invokevirtual 193, 3, 135), (71, .ireturn, 1, 0), (72, .aload_n 0, 1, 0), (73, .getfield 91, 3, 525), (76, .bipush 36, 2, 0), (78, .iload_n 1, 1, 0),
  (79, .iadd, 1, 0), (80, .iaload, 1, 0), (81, .ireturn, 1, 0), (82, .aload_n 0, 1, 0), (83, .getfield 91, 3, 525), (86, .bipush 47, 2, 0),
  (88, .iload_n 1, 1, 0), (89, .iadd, 1, 0), (90, .iaload, 1, 0), (91, .ireturn, 1, 0), (92, .aload_n 0, 1, 0), (93, .getfield 91, 3, 525),
  (96, .bipush 58, 2, 0), (98, .iload_n 1, 1, 0), (99, .iadd, 1, 0), (100, .iaload, 1, 0), (101, .ireturn, 1, 0), (102, .aload_n 0, 1, 0),
  (103, .invokevirtual 275, 3, 142), (106, .iload_n 1, 1, 0), (107, .invokestatic 196, 3, 102), (110, .ifCond .eq 7, 3, 0), (113, .iconst 1, 1, 0), (114, .goto 4, 3, 0),
  (117, .iconst 0, 1, 0), (118, .ireturn, 1, 0), (119, .aload_n 0, 1, 0), (120, .iload_n 1, 1, 0), (121, .invokevirtual 305, 3, 143), (124, .ifCond .eq 7, 3, 0),
  (127, .iconst 1, 1, 0), (128, .goto 4, 3, 0), (131, .iconst 0, 1, 0), (132, .ireturn, 1, 0), (133, .aload_n 0, 1, 0), (134, .invokevirtual 249, 3, 100),
  (137, .ireturn, 1, 0)]
def kd198 : List (Nat × Instr × Nat × Nat) := [
  (0, .aload_n 0, 1, 0), (1, .iconst 0, 1, 0), (2, .putfield 1, 3, 512), (5, .iload_n 1, 1, 0), (6, .tableswitch 145 0 7 #[46, 51, 56, 64, 96, 130, 135, 140], 46, 0), (52, .aload_n 0, 1, 0),
  (53, .invokevirtual 175, 3, 128), (56, .ireturn, 1, 0), (57, .aload_n 0, 1, 0), (58, .invokevirtual 178, 3, 129), (61, .ireturn, 1, 0), (62, .aload_n 0, 1, 0),
  (63, .invokevirtual 204, 3, 136), (66, .invokestatic 278, 3, 103), (69, .ireturn, 1, 0), (70, .iconst 0, 1, 0), (71, .istore_n 2, 1, 0), (72, .iconst 0, 1, 0),
  (73, .istore_n 3, 1, 0), (74, .iload_n 3, 1, 0), (75, .aload_n 0, 1, 0), (76, .invokevirtual 175, 3, 128), (79, .if_icmp .ge 21, 3, 0), (82, .aload_n 0, 1, 0),
  (83, .iload_n 3, 1, 0), (84, .invokevirtual 207, 3, 140), (87, .iload_n 3, 1, 0), (88, .if_icmp .ne 6, 3, 0), (91, .iinc 2 1, 3, 0), (94, .iinc 3 1, 3, 0),
  (97, .goto (-23), 3, 0), (100, .iload_n 2, 1, 0), (101, .ireturn, 1, 0), (102, .iconst 0, 1, 0), (103, .istore_n 2, 1, 0), (104, .iconst 0, 1, 0),
  (105, .istore_n 3, 1, 0), (106, .iload_n 3, 1, 0), (107, .aload_n 0, 1, 0), (108, .invokevirtual 178, 3, 129), (111, .if_icmp .ge 23, 3, 0), (114, .aload_n 0, 1, 0),
  (115, .iload_n 3, 1, 0), (116, .invokevirtual 305, 3, 143), (119, .ifCond .eq 9, 3, 0), (122, .iload_n 2, 1, 0), (123, .iconst 1, 1, 0), (124, .iload_n 3, 1, 0),
  (125, .ishl, 1, 0), (126, .ior, 1, 0), (127, .istore_n 2, 1, 0), (128, .iinc 3 1, 3, 0), (131, .goto (-25), 3, 0), (134, .iload_n 2, 1, 0),
  (135, .ireturn, 1, 0), (136, .aload_n 0, 1, 0), (137, .invokevirtual 275, 3, 142), (140, .ireturn, 1, 0), (141, .aload_n 0, 1, 0), (142, .getfield 172, 3, 533),
  (145, .ireturn, 1, 0), (146, .aload_n 0, 1, 0), (147, .getfield 11, 3, 514), (150, .ireturn, 1, 0), (151, .iconst (-1), 1, 0), (152, .ireturn, 1, 0)]
def kd199 : List (Nat × Instr × Nat × Nat) := [
  (0, .iload_n 0, 1, 0), (1, .iload_n 0, 1, 0), (2, .iconst 1, 1, 0), (3, .iushr, 1, 0), (4, .ldc_w 265, 3, 2), (7, .iand, 1, 0),
  (8, .isub, 1, 0), (9, .istore_n 0, 1, 0), (10, .iload_n 0, 1, 0), (11, .ldc_w 266, 3, 3), (14, .iand, 1, 0), (15, .iload_n 0, 1, 0),
  (16, .iconst 2, 1, 0), (17, .iushr, 1, 0), (18, .ldc_w 266, 3, 3), (21, .iand, 1, 0), (22, .iadd, 1, 0), (23, .istore_n 0, 1, 0),
  (24, .iload_n 0, 1, 0), (25, .iload_n 0, 1, 0), (26, .iconst 4, 1, 0), (27, .iushr, 1, 0), (28, .iadd, 1, 0), (29, .ldc_w 267, 3, 4),
  (32, .iand, 1, 0), (33, .istore_n 0, 1, 0), (34, .iload_n 0, 1, 0), (35, .iload_n 0, 1, 0), (36, .bipush 8, 2, 0), (38, .iushr, 1, 0),
  (39, .iadd, 1, 0), (40, .istore_n 0, 1, 0), (41, .iload_n 0, 1, 0), (42, .iload_n 0, 1, 0), (43, .bipush 16, 2, 0), (45, .iushr, 1, 0),
  (46, .iadd, 1, 0), (47, .istore_n 0, 1, 0), (48, .iload_n 0, 1, 0), (49, .bipush 63, 2, 0), (51, .iand, 1, 0), (52, .ireturn, 1, 0)]
def kd200 : List (Nat × Instr × Nat × Nat) := [
  (0, .lload_n 0, 1, 0), (1, .lload_n 2, 1, 0), (2, .ldiv, 1, 0), (3, .lstore 4, 2, 0), (5, .lload_n 0, 1, 0), (6, .lload_n 2, 1, 0),
  (7, .lxor, 1, 0), (8, .lconst 0, 1, 0), (9, .lcmp, 1, 0), (10, .ifCond .ge 17, 3, 0), (13, .lload 4, 2, 0), (15, .lload_n 2, 1, 0),
  (16, .lmul, 1, 0), (17, .lload_n 0, 1, 0), (18, .lcmp, 1, 0), (19, .ifCond .eq 8, 3, 0), (22, .lload 4, 2, 0), (24, .lconst 1, 1, 0),
  (25, .lsub, 1, 0), (26, .lreturn, 1, 0), (27, .lload 4, 2, 0), (29, .lreturn, 1, 0)]
def kd201 : List (Nat × Instr × Nat × Nat) := [
  (0, .iload_n 0, 1, 0), (1, .ifCond .ge 8, 3, 0), (4, .iload_n 0, 1, 0), (5, .ineg, 1, 0), (6, .goto 4, 3, 0), (9, .iload_n 0, 1, 0),
  (10, .ireturn, 1, 0)]
def kd202 : List (Nat × Instr × Nat × Nat) := [
  (0, .lload_n 0, 1, 0), (1, .lconst 0, 1, 0), (2, .lcmp, 1, 0), (3, .ifCond .ge 8, 3, 0), (6, .lload_n 0, 1, 0), (7, .lneg, 1, 0),
  (8, .goto 4, 3, 0), (11, .lload_n 0, 1, 0), (12, .lreturn, 1, 0)]
def kd203 : List (Nat × Instr × Nat × Nat) := [
  (0, .iload_n 0, 1, 0), (1, .iload_n 1, 1, 0), (2, .if_icmp .lt 7, 3, 0), (5, .iload_n 0, 1, 0), (6, .goto 4, 3, 0), (9, .iload_n 1, 1, 0),
  (10, .ireturn, 1, 0)]
def kd204 : List (Nat × Instr × Nat × Nat) := [
  (0, .iload_n 0, 1, 0), (1, .iload_n 1, 1, 0), (2, .if_icmp .gt 7, 3, 0), (5, .iload_n 0, 1, 0), (6, .goto 4, 3, 0), (9, .iload_n 1, 1, 0),
  (10, .ireturn, 1, 0)]
def kd205 : List (Nat × Instr × Nat × Nat) := [
  ]
def kd206 : List (Nat × Instr × Nat × Nat) := [
  ]
def kd207 : List (Nat × Instr × Nat × Nat) := [
  ]
def kd208 : List (Nat × Instr × Nat × Nat) := [
  ]
def kd209 : List (Nat × Instr × Nat × Nat) := [
  ]
def kd210 : List (Nat × Instr × Nat × Nat) := [
  ]
def kd211 : List (Nat × Instr × Nat × Nat) := [
  ]
def kd212 : List (Nat × Instr × Nat × Nat) := [
  ]
def kd213 : List (Nat × Instr × Nat × Nat) := [
  ]
def kd214 : List (Nat × Instr × Nat × Nat) := [
  (0, .new 8, 3, 1), (3, .dup, 1, 0), (4, .invokespecial 42, 3, 0), (7, .astore_n 1, 1, 0), (8, .new 43, 3, 1), (11, .dup, 1, 0),
  (12, .invokespecial 45, 3, 0), (15, .astore_n 2, 1, 0), (16, .iconst 1, 1, 0), (17, .newarray .long, 2, 0), (19, .astore_n 3, 1, 0), (20, .iconst 0, 1, 0),
  (21, .istore 4, 2, 0), (23, .iload 4, 2, 0), (25, .aload_n 0, 1, 0), (26, .arraylength, 1, 0), (27, .bipush 6, 2, 0), (29, .isub, 1, 0),
  (30, .if_icmp .gt 1441, 3, 0), (33, .aload_n 0, 1, 0), (34, .iload 4, 2, 0), (36, .iaload, 1, 0), (37, .bipush 63, 2, 0), (39, .iand, 1, 0),
  (40, .tableswitch 1425 0 32 #[148, 221, 246, 259, 284, 352, 420, 487, 512, 579, 634, 647, 672, 697, 710, 777, 844, 911, 924, 1003, 1028, 1053, 1078, 1103, 1140, 1177, 1238, 1275, 1300, 1337, 1350, 1375, 1400], 148, 0), (188, .aload_n 1, 1, 0), (189, .aload_n 0, 1, 0), (190, .iload 4, 2, 0), (192, .iconst 1, 1, 0), (193, .iadd, 1, 0),
  (194, .iaload, 1, 0), (195, .aload_n 0, 1, 0), (196, .iload 4, 2, 0), (198, .iconst 2, 1, 0), (199, .iadd, 1, 0), (200, .iaload, 1, 0),
  (201, .aload_n 0, 1, 0), (202, .iload 4, 2, 0), (204, .iconst 3, 1, 0), (205, .iadd, 1, 0), (206, .iaload, 1, 0), (207, .aload_n 0, 1, 0),
  (208, .iload 4, 2, 0), (210, .iconst 4, 1, 0), (211, .iadd, 1, 0), (212, .iaload, 1, 0), (213, .aload_n 0, 1, 0), (214, .iload 4, 2, 0),
  (216, .iconst 5, 1, 0), (217, .iadd, 1, 0), (218, .iaload, 1, 0), (219, .invokevirtual 46, 3, 54), (222, .aload_n 2, 1, 0), (223, .aload_n 0, 1, 0),
  (224, .iload 4, 2, 0), (226, .iconst 1, 1, 0), (227, .iadd, 1, 0), (228, .iaload, 1, 0), (229, .aload_n 0, 1, 0), (230, .iload 4, 2, 0),
  (232, .iconst 2, 1, 0), (233, .iadd, 1, 0), (234, .iaload, 1, 0), (235, .aload_n 0, 1, 0), (236, .iload 4, 2, 0), (238, .iconst 3, 1, 0),
  (239, .iadd, 1, 0), (240, .iaload, 1, 0), (241, .aload_n 0, 1, 0), (242, .iload 4, 2, 0), (244, .iconst 4, 1, 0), (245, .iadd, 1, 0),
  (246, .iaload, 1, 0), (247, .aload_n 0, 1, 0), (248, .iload 4, 2, 0), (250, .iconst 5, 1, 0), (251, .iadd, 1, 0), (252, .iaload, 1, 0),
  (253, .invokevirtual 50, 3, 105), (256, .if_icmp .eq 1209, 3, 0), (259, .iconst 0, 1, 0), (260, .ireturn, 1, 0), (261, .aload_n 1, 1, 0), (262, .aload_n 0, 1, 0),
  (263, .iload 4, 2, 0), (265, .iconst 1, 1, 0), (266, .iadd, 1, 0), (267, .iaload, 1, 0), (268, .invokevirtual 51, 3, 55), (271, .aload_n 2, 1, 0),
  (272, .aload_n 0, 1, 0), (273, .iload 4, 2, 0), (275, .iconst 1, 1, 0), (276, .iadd, 1, 0), (277, .iaload, 1, 0), (278, .invokevirtual 55, 3, 106),
  (281, .if_icmp .eq 1184, 3, 0), (284, .iconst 0, 1, 0), (285, .ireturn, 1, 0), (286, .aload_n 1, 1, 0), (287, .invokevirtual 56, 3, 56), (290, .aload_n 2, 1, 0),
  (291, .invokevirtual 60, 3, 126), (294, .if_icmp .eq 1171, 3, 0), (297, .iconst 0, 1, 0), (298, .ireturn, 1, 0), (299, .aload_n 1, 1, 0), (300, .aload_n 0, 1, 0),
  (301, .iload 4, 2, 0), (303, .iconst 1, 1, 0), (304, .iadd, 1, 0), (305, .iaload, 1, 0), (306, .invokevirtual 61, 3, 57), (309, .aload_n 2, 1, 0),
  (310, .aload_n 0, 1, 0), (311, .iload 4, 2, 0), (313, .iconst 1, 1, 0), (314, .iadd, 1, 0), (315, .iaload, 1, 0), (316, .invokevirtual 65, 3, 127),
  (319, .if_icmp .eq 1146, 3, 0), (322, .iconst 0, 1, 0), (323, .ireturn, 1, 0), (324, .aload_n 1, 1, 0), (325, .aload_n 0, 1, 0), (326, .iload 4, 2, 0),
  (328, .iconst 1, 1, 0), (329, .iadd, 1, 0), (330, .iaload, 1, 0), (331, .aload_n 0, 1, 0), (332, .iload 4, 2, 0), (334, .iconst 2, 1, 0),
  (335, .iadd, 1, 0), (336, .iaload, 1, 0), (337, .aload_n 3, 1, 0), (338, .invokestatic 66, 3, 205), (341, .istore 5, 2, 0), (343, .aload_n 2, 1, 0),
  (344, .aload_n 0, 1, 0), (345, .iload 4, 2, 0), (347, .iconst 1, 1, 0), (348, .iadd, 1, 0), (349, .iaload, 1, 0), (350, .aload_n 0, 1, 0),
  (351, .iload 4, 2, 0), (353, .iconst 2, 1, 0), (354, .iadd, 1, 0), (355, .iaload, 1, 0), (356, .invokevirtual 71, 3, 196), (359, .istore 6, 2, 0),
  (361, .aload_n 2, 1, 0), (362, .invokevirtual 72, 3, 99), (365, .iload 5, 2, 0), (367, .if_icmp .eq 5, 3, 0), (370, .iconst 0, 1, 0), (371, .ireturn, 1, 0),
  (372, .iload 5, 2, 0), (374, .ifCond .ne 15, 3, 0), (377, .aload_n 3, 1, 0), (378, .iconst 0, 1, 0), (379, .laload, 1, 0), (380, .iload 6, 2, 0),
  (382, .i2l, 1, 0), (383, .lcmp, 1, 0), (384, .ifCond .eq 5, 3, 0), (387, .iconst 0, 1, 0), (388, .ireturn, 1, 0), (389, .goto 1076, 3, 0),
  (392, .aload_n 1, 1, 0), (393, .aload_n 0, 1, 0), (394, .iload 4, 2, 0), (396, .iconst 1, 1, 0), (397, .iadd, 1, 0), (398, .iaload, 1, 0),
  (399, .aload_n 0, 1, 0), (400, .iload 4, 2, 0), (402, .iconst 2, 1, 0), (403, .iadd, 1, 0), (404, .iaload, 1, 0), (405, .aload_n 3, 1, 0),
  (406, .invokestatic 75, 3, 206), (409, .istore 5, 2, 0), (411, .aload_n 2, 1, 0), (412, .aload_n 0, 1, 0), (413, .iload 4, 2, 0), (415, .iconst 1, 1, 0),
  (416, .iadd, 1, 0), (417, .iaload, 1, 0), (418, .aload_n 0, 1, 0), (419, .iload 4, 2, 0), (421, .iconst 2, 1, 0), (422, .iadd, 1, 0),
  (423, .iaload, 1, 0), (424, .invokevirtual 77, 3, 197), (427, .istore 6, 2, 0), (429, .aload_n 2, 1, 0), (430, .invokevirtual 72, 3, 99), (433, .iload 5, 2, 0),
  (435, .if_icmp .eq 5, 3, 0), (438, .iconst 0, 1, 0), (439, .ireturn, 1, 0), (440, .iload 5, 2, 0), (442, .ifCond .ne 15, 3, 0), (445, .aload_n 3, 1, 0),
  (446, .iconst 0, 1, 0), (447, .laload, 1, 0), (448, .iload 6, 2, 0), (450, .i2l, 1, 0), (451, .lcmp, 1, 0), (452, .ifCond .eq 5, 3, 0),
  (455, .iconst 0, 1, 0), (456, .ireturn, 1, 0), (457, .goto 1008, 3, 0), (460, .aload_n 1, 1, 0), (461, .aload_n 0, 1, 0), (462, .iload 4, 2, 0),
  (464, .iconst 1, 1, 0), (465, .iadd, 1, 0), (466, .iaload, 1, 0), (467, .aload_n 0, 1, 0), (468, .iload 4, 2, 0), (470, .iconst 2, 1, 0),
  (471, .iadd, 1, 0), (472, .iaload, 1, 0), (473, .aload_n 3, 1, 0), (474, .invokestatic 78, 3, 207), (477, .istore 5, 2, 0), (479, .aload_n 2, 1, 0),
  (480, .aload_n 0, 1, 0), (481, .iload 4, 2, 0), (483, .iconst 1, 1, 0), (484, .iadd, 1, 0), (485, .iaload, 1, 0), (486, .aload_n 0, 1, 0),
  (487, .iload 4, 2, 0), (489, .iconst 2, 1, 0), (490, .iadd, 1, 0), (491, .iaload, 1, 0), (492, .invokevirtual 80, 3, 154), (495, .lstore 6, 2, 0),
  (497, .aload_n 2, 1, 0), (498, .invokevirtual 72, 3, 99), (501, .iload 5, 2, 0), (503, .if_icmp .eq 5, 3, 0), (506, .iconst 0, 1, 0), (507, .ireturn, 1, 0),
  (508, .iload 5, 2, 0), (510, .ifCond .ne 14, 3, 0), (513, .aload_n 3, 1, 0), (514, .iconst 0, 1, 0), (515, .laload, 1, 0), (516, .lload 6, 2, 0),
  (518, .lcmp, 1, 0), (519, .ifCond .eq 5, 3, 0), (522, .iconst 0, 1, 0), (523, .ireturn, 1, 0), (524, .goto 941, 3, 0), (527, .aload_n 1, 1, 0),
  (528, .aload_n 0, 1, 0), (529, .iload 4, 2, 0), (531, .iconst 1, 1, 0), (532, .iadd, 1, 0), (533, .iaload, 1, 0), (534, .invokevirtual 81, 3, 61),
  (537, .aload_n 2, 1, 0), (538, .aload_n 0, 1, 0), (539, .iload 4, 2, 0), (541, .iconst 1, 1, 0), (542, .iadd, 1, 0), (543, .iaload, 1, 0),
  (544, .invokevirtual 84, 3, 155), (547, .if_icmp .eq 918, 3, 0), (550, .iconst 0, 1, 0), (551, .ireturn, 1, 0), (552, .aload_n 1, 1, 0), (553, .aload_n 0, 1, 0),
  (554, .iload 4, 2, 0), (556, .iconst 1, 1, 0), (557, .iadd, 1, 0), (558, .iaload, 1, 0), (559, .aload_n 0, 1, 0), (560, .iload 4, 2, 0),
  (562, .iconst 2, 1, 0), (563, .iadd, 1, 0), (564, .iaload, 1, 0), (565, .aload_n 3, 1, 0), (566, .invokestatic 85, 3, 208), (569, .istore 5, 2, 0),
  (571, .aload_n 2, 1, 0), (572, .aload_n 0, 1, 0), (573, .iload 4, 2, 0), (575, .iconst 1, 1, 0), (576, .iadd, 1, 0), (577, .iaload, 1, 0),
  (578, .aload_n 0, 1, 0), (579, .iload 4, 2, 0), (581, .iconst 2, 1, 0), (582, .iadd, 1, 0), (583, .iaload, 1, 0), (584, .invokevirtual 87, 3, 157),
  (587, .lstore 6, 2, 0), (589, .aload_n 2, 1, 0), (590, .invokevirtual 72, 3, 99), (593, .iload 5, 2, 0), (595, .if_icmp .eq 5, 3, 0), (598, .iconst 0, 1, 0),
  (599, .ireturn, 1, 0), (600, .iload 5, 2, 0), (602, .ifCond .ne 14, 3, 0), (605, .aload_n 3, 1, 0), (606, .iconst 0, 1, 0), (607, .laload, 1, 0),
  (608, .lload 6, 2, 0), (610, .lcmp, 1, 0), (611, .ifCond .eq 5, 3, 0), (614, .iconst 0, 1, 0), (615, .ireturn, 1, 0), (616, .goto 849, 3, 0),
  (619, .aload_n 1, 1, 0), (620, .aload_n 0, 1, 0), (621, .iload 4, 2, 0), (623, .iconst 1, 1, 0), (624, .iadd, 1, 0), (625, .iaload, 1, 0),
  (626, .aload_n 3, 1, 0), (627, .invokestatic 88, 3, 209), (630, .istore 5, 2, 0), (632, .aload_n 2, 1, 0), (633, .aload_n 0, 1, 0), (634, .iload 4, 2, 0),
  (636, .iconst 1, 1, 0), (637, .iadd, 1, 0), (638, .iaload, 1, 0), (639, .invokevirtual 91, 3, 159), (642, .lstore 6, 2, 0), (644, .aload_n 2, 1, 0),
  (645, .invokevirtual 72, 3, 99), (648, .iload 5, 2, 0), (650, .if_icmp .eq 5, 3, 0), (653, .iconst 0, 1, 0), (654, .ireturn, 1, 0), (655, .iload 5, 2, 0),
  (657, .ifCond .ne 14, 3, 0), (660, .aload_n 3, 1, 0), (661, .iconst 0, 1, 0), (662, .laload, 1, 0), (663, .lload 6, 2, 0), (665, .lcmp, 1, 0),
  (666, .ifCond .eq 5, 3, 0), (669, .iconst 0, 1, 0), (670, .ireturn, 1, 0), (671, .goto 794, 3, 0), (674, .aload_n 1, 1, 0), (675, .invokevirtual 92, 3, 64),
  (678, .aload_n 2, 1, 0), (679, .invokevirtual 95, 3, 161), (682, .if_icmp .eq 783, 3, 0), (685, .iconst 0, 1, 0), (686, .ireturn, 1, 0), (687, .aload_n 1, 1, 0),
  (688, .aload_n 0, 1, 0), (689, .iload 4, 2, 0), (691, .iconst 1, 1, 0), (692, .iadd, 1, 0), (693, .iaload, 1, 0), (694, .invokevirtual 96, 3, 65),
  (697, .aload_n 2, 1, 0), (698, .aload_n 0, 1, 0), (699, .iload 4, 2, 0), (701, .iconst 1, 1, 0), (702, .iadd, 1, 0), (703, .iaload, 1, 0),
  (704, .invokevirtual 99, 3, 162), (707, .if_icmp .eq 758, 3, 0), (710, .iconst 0, 1, 0), (711, .ireturn, 1, 0), (712, .aload_n 1, 1, 0), (713, .aload_n 0, 1, 0),
  (714, .iload 4, 2, 0), (716, .iconst 1, 1, 0), (717, .iadd, 1, 0), (718, .iaload, 1, 0), (719, .invokevirtual 100, 3, 66), (722, .aload_n 2, 1, 0),
  (723, .aload_n 0, 1, 0), (724, .iload 4, 2, 0), (726, .iconst 1, 1, 0), (727, .iadd, 1, 0), (728, .iaload, 1, 0), (729, .invokevirtual 103, 3, 165),
  (732, .if_icmp .eq 733, 3, 0), (735, .iconst 0, 1, 0), (736, .ireturn, 1, 0), (737, .aload_n 1, 1, 0), (738, .invokevirtual 104, 3, 67), (741, .aload_n 2, 1, 0),
  (742, .invokevirtual 107, 3, 167), (745, .if_icmp .eq 720, 3, 0), (748, .iconst 0, 1, 0), (749, .ireturn, 1, 0), (750, .aload_n 1, 1, 0), (751, .aload_n 0, 1, 0),
  (752, .iload 4, 2, 0), (754, .iconst 1, 1, 0), (755, .iadd, 1, 0), (756, .iaload, 1, 0), (757, .aload_n 0, 1, 0), (758, .iload 4, 2, 0),
  (760, .iconst 2, 1, 0), (761, .iadd, 1, 0), (762, .iaload, 1, 0), (763, .aload_n 3, 1, 0), (764, .invokestatic 108, 3, 210), (767, .istore 5, 2, 0),
  (769, .aload_n 2, 1, 0), (770, .aload_n 0, 1, 0), (771, .iload 4, 2, 0), (773, .iconst 1, 1, 0), (774, .iadd, 1, 0), (775, .iaload, 1, 0),
  (776, .aload_n 0, 1, 0), (777, .iload 4, 2, 0), (779, .iconst 2, 1, 0), (780, .iadd, 1, 0), (781, .iaload, 1, 0), (782, .invokevirtual 110, 3, 171),
  (785, .lstore 6, 2, 0), (787, .aload_n 2, 1, 0), (788, .invokevirtual 72, 3, 99), (791, .iload 5, 2, 0), (793, .if_icmp .eq 5, 3, 0), (796, .iconst 0, 1, 0),
  (797, .ireturn, 1, 0), (798, .iload 5, 2, 0), (800, .ifCond .ne 14, 3, 0), (803, .aload_n 3, 1, 0), (804, .iconst 0, 1, 0), (805, .laload, 1, 0),
  (806, .lload 6, 2, 0), (808, .lcmp, 1, 0), (809, .ifCond .eq 5, 3, 0), (812, .iconst 0, 1, 0), (813, .ireturn, 1, 0), (814, .goto 651, 3, 0),
  (817, .aload_n 1, 1, 0), (818, .aload_n 0, 1, 0), (819, .iload 4, 2, 0), (821, .iconst 1, 1, 0), (822, .iadd, 1, 0), (823, .iaload, 1, 0),
  (824, .aload_n 0, 1, 0), (825, .iload 4, 2, 0), (827, .iconst 2, 1, 0), (828, .iadd, 1, 0), (829, .iaload, 1, 0), (830, .aload_n 3, 1, 0),
  (831, .invokestatic 111, 3, 211), (834, .istore 5, 2, 0), (836, .aload_n 2, 1, 0), (837, .aload_n 0, 1, 0), (838, .iload 4, 2, 0), (840, .iconst 1, 1, 0),
  (841, .iadd, 1, 0), (842, .iaload, 1, 0), (843, .aload_n 0, 1, 0), (844, .iload 4, 2, 0), (846, .iconst 2, 1, 0), (847, .iadd, 1, 0),
  (848, .iaload, 1, 0), (849, .invokevirtual 113, 3, 175), (852, .lstore 6, 2, 0), (854, .aload_n 2, 1, 0), (855, .invokevirtual 72, 3, 99), (858, .iload 5, 2, 0),
  (860, .if_icmp .eq 5, 3, 0), (863, .iconst 0, 1, 0), (864, .ireturn, 1, 0), (865, .iload 5, 2, 0), (867, .ifCond .ne 14, 3, 0), (870, .aload_n 3, 1, 0),
  (871, .iconst 0, 1, 0), (872, .laload, 1, 0), (873, .lload 6, 2, 0), (875, .lcmp, 1, 0), (876, .ifCond .eq 5, 3, 0), (879, .iconst 0, 1, 0),
  (880, .ireturn, 1, 0), (881, .goto 584, 3, 0), (884, .aload_n 1, 1, 0), (885, .aload_n 0, 1, 0), (886, .iload 4, 2, 0), (888, .iconst 1, 1, 0),
  (889, .iadd, 1, 0), (890, .iaload, 1, 0), (891, .aload_n 0, 1, 0), (892, .iload 4, 2, 0), (894, .iconst 2, 1, 0), (895, .iadd, 1, 0),
  (896, .iaload, 1, 0), (897, .aload_n 3, 1, 0), (898, .invokestatic 114, 3, 212), (901, .istore 5, 2, 0), (903, .aload_n 2, 1, 0), (904, .aload_n 0, 1, 0),
  (905, .iload 4, 2, 0), (907, .iconst 1, 1, 0), (908, .iadd, 1, 0), (909, .iaload, 1, 0), (910, .aload_n 0, 1, 0), (911, .iload 4, 2, 0),
  (913, .iconst 2, 1, 0), (914, .iadd, 1, 0), (915, .iaload, 1, 0), (916, .invokevirtual 116, 3, 173), (919, .lstore 6, 2, 0), (921, .aload_n 2, 1, 0),
  (922, .invokevirtual 72, 3, 99), (925, .iload 5, 2, 0), (927, .if_icmp .eq 5, 3, 0), (930, .iconst 0, 1, 0), (931, .ireturn, 1, 0), (932, .iload 5, 2, 0),
  (934, .ifCond .ne 14, 3, 0), (937, .aload_n 3, 1, 0), (938, .iconst 0, 1, 0), (939, .laload, 1, 0), (940, .lload 6, 2, 0), (942, .lcmp, 1, 0),
  (943, .ifCond .eq 5, 3, 0), (946, .iconst 0, 1, 0), (947, .ireturn, 1, 0), (948, .goto 517, 3, 0), (951, .aload_n 1, 1, 0), (952, .invokevirtual 117, 3, 71),
  (955, .aload_n 2, 1, 0), (956, .invokevirtual 120, 3, 178), (959, .if_icmp .eq 506, 3, 0), (962, .iconst 0, 1, 0), (963, .ireturn, 1, 0), (964, .aload_n 1, 1, 0),
  (965, .aload_n 0, 1, 0), (966, .iload 4, 2, 0), (968, .iconst 1, 1, 0), (969, .iadd, 1, 0), (970, .iaload, 1, 0), (971, .aload_n 0, 1, 0),
  (972, .iload 4, 2, 0), (974, .iconst 2, 1, 0), (975, .iadd, 1, 0), (976, .iaload, 1, 0), (977, .aload_n 0, 1, 0), (978, .iload 4, 2, 0),
  (980, .iconst 3, 1, 0), (981, .iadd, 1, 0), (982, .iaload, 1, 0), (983, .aload_n 3, 1, 0), (984, .invokestatic 121, 3, 213), (987, .istore 5, 2, 0),
  (989, .aload_n 2, 1, 0), (990, .aload_n 0, 1, 0), (991, .iload 4, 2, 0), (993, .iconst 1, 1, 0), (994, .iadd, 1, 0), (995, .iaload, 1, 0),
  (996, .aload_n 0, 1, 0), (997, .iload 4, 2, 0), (999, .iconst 2, 1, 0), (1000, .iadd, 1, 0), (1001, .iaload, 1, 0), (1002, .aload_n 0, 1, 0),
  (1003, .iload 4, 2, 0), (1005, .iconst 3, 1, 0), (1006, .iadd, 1, 0), (1007, .iaload, 1, 0), (1008, .invokevirtual 124, 3, 169), (1011, .lstore 6, 2, 0),
  (1013, .aload_n 2, 1, 0), (1014, .invokevirtual 72, 3, 99), (1017, .iload 5, 2, 0), (1019, .if_icmp .eq 5, 3, 0), (1022, .iconst 0, 1, 0), (1023, .ireturn, 1, 0),
  (1024, .iload 5, 2, 0), (1026, .ifCond .ne 14, 3, 0), (1029, .aload_n 3, 1, 0), (1030, .iconst 0, 1, 0), (1031, .laload, 1, 0), (1032, .lload 6, 2, 0),
  (1034, .lcmp, 1, 0), (1035, .ifCond .eq 5, 3, 0), (1038, .iconst 0, 1, 0), (1039, .ireturn, 1, 0), (1040, .goto 425, 3, 0), (1043, .aload_n 1, 1, 0),
  (1044, .aload_n 0, 1, 0), (1045, .iload 4, 2, 0), (1047, .iconst 1, 1, 0), (1048, .iadd, 1, 0), (1049, .iaload, 1, 0), (1050, .invokevirtual 125, 3, 73),
  (1053, .aload_n 2, 1, 0), (1054, .aload_n 0, 1, 0), (1055, .iload 4, 2, 0), (1057, .iconst 1, 1, 0), (1058, .iadd, 1, 0), (1059, .iaload, 1, 0),
  (1060, .invokevirtual 128, 3, 170), (1063, .if_icmp .eq 402, 3, 0), (1066, .iconst 0, 1, 0), (1067, .ireturn, 1, 0), (1068, .aload_n 1, 1, 0), (1069, .aload_n 0, 1, 0),
  (1070, .iload 4, 2, 0), (1072, .iconst 1, 1, 0), (1073, .iadd, 1, 0), (1074, .iaload, 1, 0), (1075, .invokevirtual 129, 3, 74), (1078, .aload_n 2, 1, 0),
  (1079, .aload_n 0, 1, 0), (1080, .iload 4, 2, 0), (1082, .iconst 1, 1, 0), (1083, .iadd, 1, 0), (1084, .iaload, 1, 0), (1085, .invokevirtual 132, 3, 182),
  (1088, .if_icmp .eq 377, 3, 0), (1091, .iconst 0, 1, 0), (1092, .ireturn, 1, 0), (1093, .aload_n 1, 1, 0), (1094, .aload_n 0, 1, 0), (1095, .iload 4, 2, 0),
  (1097, .iconst 1, 1, 0), (1098, .iadd, 1, 0), (1099, .iaload, 1, 0), (1100, .invokevirtual 133, 3, 75), (1103, .aload_n 2, 1, 0), (1104, .aload_n 0, 1, 0),
  (1105, .iload 4, 2, 0), (1107, .iconst 1, 1, 0), (1108, .iadd, 1, 0), (1109, .iaload, 1, 0), (1110, .invokevirtual 136, 3, 183), (1113, .if_icmp .eq 352, 3, 0),
  (1116, .iconst 0, 1, 0), (1117, .ireturn, 1, 0), (1118, .aload_n 1, 1, 0), (1119, .aload_n 0, 1, 0), (1120, .iload 4, 2, 0), (1122, .iconst 1, 1, 0),
  (1123, .iadd, 1, 0), (1124, .iaload, 1, 0), (1125, .invokevirtual 137, 3, 76), (1128, .aload_n 2, 1, 0), (1129, .aload_n 0, 1, 0), (1130, .iload 4, 2, 0),
  (1132, .iconst 1, 1, 0), (1133, .iadd, 1, 0), (1134, .iaload, 1, 0), (1135, .invokevirtual 140, 3, 189), (1138, .if_icmp .eq 327, 3, 0), (1141, .iconst 0, 1, 0),
  (1142, .ireturn, 1, 0), (1143, .aload_n 1, 1, 0), (1144, .aload_n 0, 1, 0), (1145, .iload 4, 2, 0), (1147, .iconst 1, 1, 0), (1148, .iadd, 1, 0),
  (1149, .iaload, 1, 0), (1150, .aload_n 0, 1, 0), (1151, .iload 4, 2, 0), (1153, .iconst 2, 1, 0), (1154, .iadd, 1, 0), (1155, .iaload, 1, 0),
  (1156, .invokevirtual 141, 3, 77), (1159, .aload_n 2, 1, 0), (1160, .aload_n 0, 1, 0), (1161, .iload 4, 2, 0), (1163, .iconst 1, 1, 0), (1164, .iadd, 1, 0),
  (1165, .iaload, 1, 0), (1166, .aload_n 0, 1, 0), (1167, .iload 4, 2, 0), (1169, .iconst 2, 1, 0), (1170, .iadd, 1, 0), (1171, .iaload, 1, 0),
  (1172, .invokevirtual 144, 3, 184), (1175, .if_icmp .eq 290, 3, 0), (1178, .iconst 0, 1, 0), (1179, .ireturn, 1, 0), (1180, .aload_n 1, 1, 0), (1181, .aload_n 0, 1, 0),
  (1182, .iload 4, 2, 0), (1184, .iconst 1, 1, 0), (1185, .iadd, 1, 0), (1186, .iaload, 1, 0), (1187, .aload_n 0, 1, 0), (1188, .iload 4, 2, 0),
  (1190, .iconst 2, 1, 0), (1191, .iadd, 1, 0), (1192, .iaload, 1, 0), (1193, .invokevirtual 145, 3, 78), (1196, .aload_n 2, 1, 0), (1197, .aload_n 0, 1, 0),
  (1198, .iload 4, 2, 0), (1200, .iconst 1, 1, 0), (1201, .iadd, 1, 0), (1202, .iaload, 1, 0), (1203, .aload_n 0, 1, 0), (1204, .iload 4, 2, 0),
  (1206, .iconst 2, 1, 0), (1207, .iadd, 1, 0), (1208, .iaload, 1, 0), (1209, .invokevirtual 148, 3, 185), (1212, .if_icmp .eq 253, 3, 0), (1215, .iconst 0, 1, 0),
  (1216, .ireturn, 1, 0), (1217, .aload_n 1, 1, 0), (1218, .aload_n 0, 1, 0), (1219, .iload 4, 2, 0), (1221, .iconst 1, 1, 0), (1222, .iadd, 1, 0),
  (1223, .iaload, 1, 0), (1224, .aload_n 0, 1, 0), (1225, .iload 4, 2, 0), (1227, .iconst 2, 1, 0), (1228, .iadd, 1, 0), (1229, .iaload, 1, 0),
  (1230, .aload_n 0, 1, 0), (1231, .iload 4, 2, 0), (1233, .iconst 3, 1, 0), (1234, .iadd, 1, 0), (1235, .iaload, 1, 0), (1236, .aload_n 0, 1, 0),
  (1237, .iload 4, 2, 0), (1239, .iconst 4, 1, 0), (1240, .iadd, 1, 0), (1241, .iaload, 1, 0), (1242, .invokevirtual 149, 3, 79), (1245, .aload_n 2, 1, 0),
  (1246, .aload_n 0, 1, 0), (1247, .iload 4, 2, 0), (1249, .iconst 1, 1, 0), (1250, .iadd, 1, 0), (1251, .iaload, 1, 0), (1252, .aload_n 0, 1, 0),
  (1253, .iload 4, 2, 0), (1255, .iconst 2, 1, 0), (1256, .iadd, 1, 0), (1257, .iaload, 1, 0), (1258, .aload_n 0, 1, 0), (1259, .iload 4, 2, 0),
  (1261, .iconst 3, 1, 0), (1262, .iadd, 1, 0), (1263, .iaload, 1, 0), (1264, .aload_n 0, 1, 0), (1265, .iload 4, 2, 0), (1267, .iconst 4, 1, 0),
  (1268, .iadd, 1, 0), (1269, .iaload, 1, 0), (1270, .invokevirtual 153, 3, 188), (1273, .if_icmp .eq 192, 3, 0), (1276, .iconst 0, 1, 0), (1277, .ireturn, 1, 0),
  (1278, .aload_n 1, 1, 0), (1279, .aload_n 0, 1, 0), (1280, .iload 4, 2, 0), (1282, .iconst 1, 1, 0), (1283, .iadd, 1, 0), (1284, .iaload, 1, 0),
  (1285, .aload_n 0, 1, 0), (1286, .iload 4, 2, 0), (1288, .iconst 2, 1, 0), (1289, .iadd, 1, 0), (1290, .iaload, 1, 0), (1291, .invokevirtual 154, 3, 80),
  (1294, .aload_n 2, 1, 0), (1295, .aload_n 0, 1, 0), (1296, .iload 4, 2, 0), (1298, .iconst 1, 1, 0), (1299, .iadd, 1, 0), (1300, .iaload, 1, 0),
  (1301, .aload_n 0, 1, 0), (1302, .iload 4, 2, 0), (1304, .iconst 2, 1, 0), (1305, .iadd, 1, 0), (1306, .iaload, 1, 0), (1307, .invokevirtual 157, 3, 187),
  (1310, .if_icmp .eq 155, 3, 0), (1313, .iconst 0, 1, 0), (1314, .ireturn, 1, 0), (1315, .aload_n 1, 1, 0), (1316, .aload_n 0, 1, 0), (1317, .iload 4, 2, 0),
  (1319, .iconst 1, 1, 0), (1320, .iadd, 1, 0), (1321, .iaload, 1, 0), (1322, .invokevirtual 158, 3, 81), (1325, .aload_n 2, 1, 0), (1326, .aload_n 0, 1, 0),
  (1327, .iload 4, 2, 0), (1329, .iconst 1, 1, 0), (1330, .iadd, 1, 0), (1331, .iaload, 1, 0), (1332, .invokevirtual 161, 3, 186), (1335, .if_icmp .eq 130, 3, 0),
  (1338, .iconst 0, 1, 0), (1339, .ireturn, 1, 0), (1340, .aload_n 1, 1, 0), (1341, .aload_n 0, 1, 0), (1342, .iload 4, 2, 0), (1344, .iconst 1, 1, 0),
  (1345, .iadd, 1, 0), (1346, .iaload, 1, 0), (1347, .aload_n 0, 1, 0), (1348, .iload 4, 2, 0), (1350, .iconst 2, 1, 0), (1351, .iadd, 1, 0),
  (1352, .iaload, 1, 0), (1353, .invokevirtual 162, 3, 82), (1356, .aload_n 2, 1, 0), (1357, .aload_n 0, 1, 0), (1358, .iload 4, 2, 0), (1360, .iconst 1, 1, 0),
  (1361, .iadd, 1, 0), (1362, .iaload, 1, 0), (1363, .aload_n 0, 1, 0), (1364, .iload 4, 2, 0), (1366, .iconst 2, 1, 0), (1367, .iadd, 1, 0),
  (1368, .iaload, 1, 0), (1369, .invokevirtual 165, 3, 192), (1372, .if_icmp .eq 93, 3, 0), (1375, .iconst 0, 1, 0), (1376, .ireturn, 1, 0), (1377, .aload_n 1, 1, 0),
  (1378, .invokevirtual 166, 3, 83), (1381, .aload_n 2, 1, 0), (1382, .invokevirtual 169, 3, 193), (1385, .if_icmp .eq 80, 3, 0), (1388, .iconst 0, 1, 0), (1389, .ireturn, 1, 0),
  (1390, .aload_n 1, 1, 0), (1391, .aload_n 0, 1, 0), (1392, .iload 4, 2, 0), (1394, .iconst 1, 1, 0), (1395, .iadd, 1, 0), (1396, .iaload, 1, 0),
  (1397, .invokevirtual 170, 3, 84), (1400, .aload_n 2, 1, 0), (1401, .aload_n 0, 1, 0), (1402, .iload 4, 2, 0), (1404, .iconst 1, 1, 0), (1405, .iadd, 1, 0),
  (1406, .iaload, 1, 0), (1407, .invokevirtual 173, 3, 194), (1410, .if_icmp .eq 55, 3, 0), (1413, .iconst 0, 1, 0), (1414, .ireturn, 1, 0), (1415, .aload_n 1, 1, 0),
  (1416, .aload_n 0, 1, 0), (1417, .iload 4, 2, 0), (1419, .iconst 1, 1, 0), (1420, .iadd, 1, 0), (1421, .iaload, 1, 0), (1422, .invokevirtual 174, 3, 85),
  (1425, .aload_n 2, 1, 0), (1426, .aload_n 0, 1, 0), (1427, .iload 4, 2, 0), (1429, .iconst 1, 1, 0), (1430, .iadd, 1, 0), (1431, .iaload, 1, 0),
  (1432, .invokevirtual 177, 3, 195), (1435, .if_icmp .eq 30, 3, 0), (1438, .iconst 0, 1, 0), (1439, .ireturn, 1, 0), (1440, .aload_n 1, 1, 0), (1441, .aload_n 0, 1, 0),
  (1442, .iload 4, 2, 0), (1444, .iconst 1, 1, 0), (1445, .iadd, 1, 0), (1446, .iaload, 1, 0), (1447, .invokevirtual 178, 3, 86), (1450, .aload_n 2, 1, 0),
  (1451, .aload_n 0, 1, 0), (1452, .iload 4, 2, 0), (1454, .iconst 1, 1, 0), (1455, .iadd, 1, 0), (1456, .iaload, 1, 0), (1457, .invokevirtual 181, 3, 198),
  (1460, .if_icmp .eq 5, 3, 0), (1463, .iconst 0, 1, 0), (1464, .ireturn, 1, 0), (1465, .iinc 4 6, 3, 0), (1468, .goto (-1445), 3, 0), (1471, .iconst 1, 1, 0),
  (1472, .ireturn, 1, 0)]
def mCdL : List (List (Nat × Instr × Nat × Nat)) := [
  kd0, kd1, kd2, kd3, kd4, kd5, kd6, kd7, kd8, kd9, kd10, kd11, kd12, kd13, kd14,
  kd15, kd16, kd17, kd18, kd19, kd20, kd21, kd22, kd23, kd24, kd25, kd26, kd27, kd28, kd29,
  kd30, kd31, kd32, kd33, kd34, kd35, kd36, kd37, kd38, kd39, kd40, kd41, kd42, kd43, kd44,
  kd45, kd46, kd47, kd48, kd49, kd50, kd51, kd52, kd53, kd54, kd55, kd56, kd57, kd58, kd59,
  kd60, kd61, kd62, kd63, kd64, kd65, kd66, kd67, kd68, kd69, kd70, kd71, kd72, kd73, kd74,
  kd75, kd76, kd77, kd78, kd79, kd80, kd81, kd82, kd83, kd84, kd85, kd86, kd87, kd88, kd89,
  kd90, kd91, kd92, kd93, kd94, kd95, kd96, kd97, kd98, kd99, kd100, kd101, kd102, kd103, kd104,
  kd105, kd106, kd107, kd108, kd109, kd110, kd111, kd112, kd113, kd114, kd115, kd116, kd117, kd118, kd119,
  kd120, kd121, kd122, kd123, kd124, kd125, kd126, kd127, kd128, kd129, kd130, kd131, kd132, kd133, kd134,
  kd135, kd136, kd137, kd138, kd139, kd140, kd141, kd142, kd143, kd144, kd145, kd146, kd147, kd148, kd149,
  kd150, kd151, kd152, kd153, kd154, kd155, kd156, kd157, kd158, kd159, kd160, kd161, kd162, kd163, kd164,
  kd165, kd166, kd167, kd168, kd169, kd170, kd171, kd172, kd173, kd174, kd175, kd176, kd177, kd178, kd179,
  kd180, kd181, kd182, kd183, kd184, kd185, kd186, kd187, kd188, kd189, kd190, kd191, kd192, kd193, kd194,
  kd195, kd196, kd197, kd198, kd199, kd200, kd201, kd202, kd203, kd204, kd205, kd206, kd207, kd208, kd209,
  kd210, kd211, kd212, kd213, kd214]
def wrL : List (Option Nat) := [
  none, none, none, none, none, none, none, none, none, none, none, none, none, none, none,
  none, none, none, none, none, none, none, none, none, none, none, none, none, none, none,
  none, none, none, none, none, none, none, none, none, none, none, none, none, none, none,
  none, none, none, none, none, none, none, none, none, none, none, none, none, none, none,
  none, none, none, none, none, none, none, none, none, none, none, none, none, none, none,
  none, none, none, none, none, none, none, none, none, none, none, none, none, none, none,
  none, none, none, none, none, none, none, none, none, none, none, none, none, none, none,
  none, none, none, none, none, none, none, none, none, none, none, none, none, none, none,
  none, none, none, none, none, none, none, none, none, none, none, none, none, none, none,
  none, none, none, none, none, none, none, none, none, none, none, none, none, none, none,
  none, none, none, none, none, none, none, none, none, none, none, none, none, none, none,
  none, none, none, none, none, none, none, none, none, none, none, none, none, none, none,
  none, none, none, none, none, none, none, none, none, none, none, none, none, none, none,
  none, none, none, none, none, none, none, none, none, none, some 58, some 59, some 60, some 62, some 63,
  some 68, some 69, some 70, some 72, none]
def fLk : List (String × Nat × Nat × Nat × Nat) := [
  (RX5, 9, 5, 0, 124), (RX4, 138, 5, 0, 125), (RX5, 15, 5, 1, 126), (RX7, 70, 5, 1, 127),
  (RX4, 80, 5, 1, 128), (RX4, 12, 4, 0, 194), (RX7, 16, 4, 0, 195), (RX4, 18, 4, 1, 196),
  (RX4, 28, 4, 2, 197), (RX4, 34, 4, 3, 198), (RX4, 39, 4, 4, 199), (RX4, 44, 4, 5, 200),
  (RX4, 47, 4, 6, 201), (RX4, 51, 4, 7, 202), (RX4, 54, 4, 8, 203), (RX4, 57, 4, 9, 204),
  (RX4, 60, 4, 10, 205), (RX4, 63, 4, 11, 206), (RX7, 84, 4, 11, 207), (RX4, 66, 4, 12, 208),
  (RX7, 83, 4, 12, 209), (RX4, 69, 4, 13, 210), (RX7, 87, 4, 13, 211), (RX3, 9, 3, 0, 248),
  (RX1, 67, 3, 0, 249), (RX4, 98, 3, 0, 250), (RX6, 61, 3, 0, 251), (RX7, 232, 3, 0, 252),
  (RX3, 15, 3, 1, 253), (RX7, 254, 3, 1, 254), (RX3, 18, 3, 2, 255), (RX7, 110, 3, 2, 256),
  (RX6, 89, 3, 2, 257), (RX1, 113, 3, 2, 258), (RX3, 22, 3, 3, 259), (RX1, 36, 3, 3, 260),
  (RX6, 50, 3, 3, 261), (RX4, 119, 3, 3, 262), (RX7, 205, 3, 3, 263), (RX3, 25, 3, 4, 264),
  (RX1, 41, 3, 4, 265), (RX6, 45, 3, 4, 266), (RX7, 140, 3, 4, 267), (RX3, 28, 3, 5, 268),
  (RX1, 54, 3, 5, 269), (RX6, 64, 3, 5, 270), (RX7, 128, 3, 5, 271), (RX3, 31, 3, 6, 272),
  (RX1, 57, 3, 6, 273), (RX6, 67, 3, 6, 274), (RX7, 131, 3, 6, 275), (RX3, 34, 3, 7, 276),
  (RX1, 51, 3, 7, 277), (RX6, 70, 3, 7, 278), (RX7, 134, 3, 7, 279), (RX3, 37, 3, 8, 280),
  (RX1, 48, 3, 8, 281), (RX7, 137, 3, 8, 282), (RX0, 11, 0, 0, 312), (RX0, 17, 0, 1, 313),
  (RX0, 21, 0, 2, 314), (RX7, 260, 0, 2, 315), (RX6, 9, 6, 0, 329), (RX7, 115, 6, 0, 330),
  (RX6, 15, 6, 1, 331), (RX7, 147, 6, 1, 332), (RX6, 19, 6, 2, 333), (RX7, 187, 6, 2, 334),
  (RX6, 22, 6, 3, 335), (RX7, 150, 6, 3, 336), (RX6, 25, 6, 4, 337), (RX6, 28, 6, 5, 338),
  (RX6, 31, 6, 6, 339), (RX1, 11, 1, 0, 363), (RX1, 15, 1, 1, 364), (RX1, 21, 1, 2, 365),
  (RX1, 24, 1, 3, 366), (RX7, 156, 1, 3, 367), (RX1, 28, 1, 4, 368), (RX7, 160, 1, 4, 369),
  (RX7, 10, 7, 0, 381), (RX7, 20, 7, 1, 382), (RX7, 24, 7, 2, 383), (RX7, 28, 7, 3, 384),
  (RX7, 34, 7, 4, 385), (RX7, 38, 7, 5, 386), (RX7, 42, 7, 6, 387), (RX7, 46, 7, 7, 388),
  (RX7, 49, 7, 8, 389), (RX7, 55, 7, 9, 390), (RX7, 62, 7, 10, 391), (RX7, 66, 7, 11, 392),
  (RX8, 1, 8, 0, 955), (RX8, 7, 8, 1, 956), (RX8, 11, 8, 2, 957), (RX8, 18, 8, 3, 958),
  (RX8, 21, 8, 4, 959), (RX8, 24, 8, 5, 960), (RX8, 27, 8, 6, 961), (RX8, 41, 8, 7, 962),
  (RX8, 73, 8, 8, 963), (RX8, 82, 8, 9, 964), (RX8, 76, 8, 10, 965), (RX8, 79, 8, 11, 966),
  (RX8, 37, 8, 12, 967), (RX8, 91, 8, 13, 968), (RX8, 94, 8, 14, 969), (RX8, 97, 8, 15, 970),
  (RX8, 100, 8, 16, 971), (RX8, 103, 8, 17, 972), (RX8, 106, 8, 18, 973), (RX8, 109, 8, 19, 974),
  (RX8, 113, 8, 20, 975), (RX8, 172, 8, 21, 976), (RX8, 138, 8, 22, 977), (RX8, 117, 8, 23, 978),
  (RX8, 120, 8, 24, 979), (RX8, 213, 8, 25, 980), (RX8, 230, 8, 26, 981), (RX8, 123, 8, 27, 982),
  (RX8, 126, 8, 28, 983), (RX8, 129, 8, 29, 984), (RX8, 299, 8, 30, 985), (RX8, 302, 8, 31, 986),
  (RX8, 318, 8, 32, 987), (RX8, 321, 8, 33, 988), (RX8, 337, 8, 34, 989)]
def cLk : List (String × Nat × Nat × Nat) := [
  (RX4, 145, 42, 187), (RL, 46, 54, 418), (RX7, 75, 43, 422), (RL, 51, 55, 426), (RL, 56, 56, 430),
  (RX7, 79, 30, 434), (RX4, 72, 24, 438), (RX4, 77, 40, 442), (RX4, 132, 204, 446), (RX4, 142, 41, 449),
  (RX4, 83, 39, 454), (RX4, 87, 36, 458), (RX4, 91, 31, 462), (RX4, 101, 37, 466), (RX4, 105, 38, 470),
  (RX4, 109, 26, 474), (RX4, 113, 34, 478), (RX4, 116, 35, 482), (RX4, 95, 32, 486), (RX4, 122, 33, 490),
  (RX4, 128, 27, 497), (RX7, 90, 25, 501), (RX7, 94, 2, 505), (RL, 61, 57, 509), (RL, 81, 61, 513),
  (RX7, 97, 89, 517), (RX7, 104, 87, 522), (RX7, 272, 44, 526), (RX6, 34, 49, 530), (RX6, 73, 28, 534),
  (RX6, 38, 50, 541), (RX6, 77, 204, 546), (RX6, 82, 203, 547), (RX6, 85, 51, 550), (RX6, 42, 52, 554),
  (RX6, 92, 45, 558), (RX6, 95, 53, 562), (RX6, 57, 47, 566), (RX7, 274, 3, 570), (RX1, 32, 14, 574),
  (RX1, 104, 28, 578), (RX1, 108, 45, 579), (RX1, 60, 16, 581), (RX1, 70, 15, 585), (RX1, 64, 17, 588),
  (RX1, 116, 18, 592), (RX1, 120, 20, 596), (RX7, 172, 21, 600), (RX2, 22, 200, 603), (RL, 92, 64, 606),
  (RX7, 190, 199, 610), (RL, 96, 65, 616), (RX7, 195, 92, 620), (RX7, 125, 90, 624), (RX7, 143, 97, 628),
  (RX7, 198, 47, 629), (RL, 100, 66, 630), (RX7, 202, 48, 634), (RL, 104, 67, 638), (RX7, 208, 201, 642),
  (RL, 117, 71, 645), (RX7, 222, 10, 649), (RX1, 84, 7, 653), (RX1, 81, 6, 657), (RX1, 77, 11, 661),
  (RX1, 96, 12, 665), (RX1, 74, 13, 670), (RX1, 101, 4, 674), (RX1, 87, 8, 678), (RX1, 90, 23, 682),
  (RL, 125, 73, 685), (RX7, 226, 11, 690), (RL, 129, 74, 691), (RX7, 176, 91, 695), (RX7, 235, 88, 699),
  (RX7, 242, 0, 703), (RX0, 25, 25, 707), (RX0, 29, 204, 708), (RL, 133, 75, 709), (RL, 137, 76, 713),
  (RX7, 238, 9, 717), (RL, 141, 77, 721), (RX7, 244, 94, 725), (RL, 145, 78, 728), (RX7, 247, 95, 732),
  (RL, 149, 79, 733), (RX7, 250, 27, 737), (RL, 154, 80, 738), (RX7, 107, 28, 742), (RL, 158, 81, 743),
  (RL, 162, 82, 747), (RX7, 257, 98, 751), (RL, 166, 83, 755), (RX7, 263, 1, 759), (RL, 170, 84, 763),
  (RX7, 266, 96, 767), (RL, 174, 85, 770), (RL, 178, 86, 774), (RX7, 269, 46, 778), (RL, 66, 205, 782),
  (RL, 7, 58, 786), (RX7, 118, 45, 851), (RX7, 121, 29, 852), (RL, 75, 206, 856), (RL, 15, 59, 859),
  (RL, 78, 207, 863), (RL, 18, 60, 866), (RX7, 153, 93, 870), (RX7, 164, 19, 873), (RX2, 7, 202, 876),
  (RX2, 13, 22, 879), (RX2, 19, 20, 882), (RL, 85, 208, 883), (RL, 22, 62, 886), (RX7, 179, 4, 890),
  (RL, 88, 209, 891), (RL, 25, 63, 894), (RX7, 183, 5, 898), (RL, 108, 210, 902), (RL, 29, 68, 905),
  (RX7, 213, 6, 909), (RL, 111, 211, 910), (RL, 32, 69, 913), (RX7, 216, 7, 917), (RX7, 219, 8, 918),
  (RL, 114, 212, 919), (RL, 35, 70, 922), (RL, 121, 213, 926), (RL, 38, 72, 929), (RL, 72, 99, 933),
  (RL, 50, 105, 937), (RX8, 14, 104, 941), (RL, 55, 106, 946), (RL, 60, 126, 1062), (RX8, 135, 110, 1066),
  (RX8, 30, 109, 1070), (RX8, 34, 108, 1073), (RX8, 44, 107, 1076), (RX8, 60, 113, 1082), (RX8, 52, 111, 1086),
  (RX8, 56, 112, 1089), (RX8, 159, 122, 1093), (RX8, 132, 118, 1097), (RX8, 141, 117, 1101), (RX8, 64, 114, 1105),
  (RX8, 67, 115, 1109), (RX8, 70, 116, 1113), (RX8, 144, 120, 1117), (RX8, 148, 121, 1121), (RX8, 162, 123, 1125),
  (RX8, 151, 101, 1129), (RX8, 155, 124, 1132), (RX8, 165, 125, 1135), (RX8, 168, 119, 1139), (RL, 65, 127, 1142),
  (RL, 80, 154, 1146), (RX8, 243, 130, 1150), (RX8, 175, 128, 1154), (RX8, 246, 153, 1158), (RX8, 249, 100, 1161),
  (RX8, 252, 150, 1165), (RX8, 236, 147, 1169), (RX8, 223, 144, 1173), (RX8, 184, 132, 1177), (RX8, 216, 141, 1181),
  (RX8, 207, 140, 1185), (RX8, 204, 136, 1189), (RX8, 178, 129, 1193), (RX8, 181, 133, 1197), (RX8, 200, 138, 1201),
  (RX8, 187, 137, 1205), (RX8, 190, 134, 1209), (RX8, 193, 135, 1213), (RX8, 196, 102, 1217), (RX8, 226, 146, 1220),
  (RX8, 219, 145, 1224), (RX8, 240, 149, 1228), (RX8, 233, 148, 1232), (RX8, 255, 151, 1236), (RX8, 259, 152, 1240),
  (RL, 84, 155, 1244), (RL, 87, 157, 1250), (RX8, 266, 131, 1254), (RX8, 269, 156, 1258), (RL, 91, 159, 1262),
  (RX8, 272, 158, 1266), (RL, 95, 161, 1270), (RX8, 278, 103, 1274), (RX8, 275, 142, 1277), (RX8, 210, 139, 1281),
  (RL, 99, 162, 1285), (RX8, 281, 160, 1289), (RL, 103, 165, 1293), (RX8, 284, 163, 1297), (RX8, 287, 164, 1301),
  (RL, 107, 167, 1305), (RX8, 290, 166, 1309), (RL, 124, 169, 1312), (RX8, 295, 168, 1316), (RL, 128, 170, 1321),
  (RL, 110, 171, 1325), (RL, 116, 173, 1329), (RX8, 305, 143, 1333), (RX8, 308, 172, 1337), (RL, 113, 175, 1341),
  (RX8, 311, 174, 1345), (RL, 120, 178, 1349), (RX8, 324, 177, 1353), (RX8, 314, 176, 1357), (RL, 132, 182, 1360),
  (RX8, 330, 181, 1364), (RX8, 327, 179, 1368), (RL, 136, 183, 1372), (RL, 144, 184, 1376), (RL, 148, 185, 1380),
  (RL, 161, 186, 1384), (RL, 157, 187, 1388), (RL, 153, 188, 1392), (RL, 140, 189, 1396), (RX8, 334, 180, 1400),
  (RL, 165, 192, 1404), (RX8, 344, 191, 1408), (RX8, 341, 190, 1412), (RL, 169, 193, 1417), (RL, 173, 194, 1421),
  (RL, 177, 195, 1425), (RL, 71, 196, 1429), (RL, 77, 197, 1433), (RL, 181, 198, 1437)]
def nLk : List (String × Nat × Nat × Nat) := [
  (RX4, 125, 95, 494), (RX3, 40, 97, 538), (RX6, 53, 97, 545), (RX1, 44, 97, 580)]
def kLk : List (String × Nat × Nat × Nat) := [
  (RX7, 114, 0, 521), (RJ6, 265, 2, 613), (RJ6, 266, 3, 614), (RJ6, 267, 4, 615), (RX7, 277, 1, 754),
  (RX8, 263, 0, 1248), (RX8, 340, 1, 1416)]
def jLk : List (String × Nat × Nat × Nat) := [
  (RX4, 151, 2, 190), (RX4, 149, 1, 453), (RX7, 170, 0, 599), (RX1, 99, 0, 669), (RX7, 230, 3, 689),
  (RX8, 48, 2, 1080), (RX8, 50, 4, 1081), (RX8, 264, 0, 1249), (RX8, 293, 3, 1320)]
def cdP : List (Nat) := [
  706, 762, 508, 573, 677, 901, 660, 656, 681, 720, 652, 664, 668, 673, 577, 587, 584, 591, 595, 875,
  598, 602, 881, 684, 441, 504, 477, 500, 537, 855, 437, 465, 489, 493, 481, 485, 461, 469, 473, 457,
  445, 452, 189, 425, 529, 561, 781, 569, 637, 533, 544, 553, 557, 565, 421, 429, 433, 512, 789, 862,
  869, 516, 889, 897, 609, 619, 633, 641, 908, 916, 925, 648, 932, 688, 694, 712, 716, 724, 731, 736,
  741, 746, 750, 758, 766, 773, 777, 525, 702, 520, 627, 698, 623, 872, 727, 496, 769, 540, 753, 936,
  1164, 1131, 1219, 1276, 945, 940, 949, 1079, 1075, 1072, 1069, 1088, 1092, 1085, 1108, 1112, 1116, 1104, 1100, 1141,
  1120, 1124, 1096, 1128, 1134, 1138, 1065, 1145, 1157, 1196, 1153, 1257, 1180, 1200, 1212, 1216, 1192, 1208, 1204, 1284,
  1188, 1184, 1280, 1336, 1176, 1227, 1223, 1172, 1235, 1231, 1168, 1239, 1243, 1160, 1149, 1247, 1261, 1253, 1269, 1265,
  1292, 1273, 1288, 1300, 1304, 1296, 1311, 1308, 1319, 1315, 1324, 1328, 1340, 1332, 1348, 1344, 1359, 1356, 1352, 1371,
  1403, 1367, 1363, 1375, 1379, 1383, 1387, 1391, 1395, 1399, 1415, 1411, 1407, 1420, 1424, 1428, 1432, 1436, 1440, 612,
  605, 644, 878, 549, 448, 784, 858, 865, 885, 893, 904, 912, 921, 928, 0]
def stP : List (Nat) := [
  704, 760, 506, 571, 675, 899, 658, 654, 679, 718, 650, 662, 667, 672, 576, 586, 583, 590, 594, 874,
  597, 601, 880, 683, 439, 502, 475, 498, 535, 853, 435, 464, 488, 492, 480, 484, 460, 468, 472, 456,
  444, 451, 188, 423, 527, 559, 779, 567, 635, 532, 543, 552, 556, 564, 419, 427, 431, 510, 787, 860,
  867, 514, 887, 895, 607, 617, 631, 639, 906, 914, 923, 646, 930, 686, 692, 710, 714, 722, 729, 734,
  739, 744, 748, 756, 764, 771, 775, 524, 701, 519, 626, 697, 622, 871, 726, 495, 768, 539, 752, 934,
  1163, 1130, 1218, 1275, 943, 938, 947, 1078, 1074, 1071, 1068, 1087, 1091, 1084, 1107, 1111, 1115, 1103, 1099, 1140,
  1119, 1123, 1095, 1127, 1133, 1137, 1063, 1143, 1156, 1195, 1152, 1256, 1179, 1199, 1211, 1215, 1191, 1207, 1203, 1283,
  1187, 1183, 1279, 1335, 1175, 1226, 1222, 1171, 1234, 1230, 1167, 1238, 1242, 1159, 1147, 1245, 1260, 1251, 1268, 1263,
  1291, 1271, 1286, 1299, 1303, 1294, 1310, 1306, 1318, 1313, 1322, 1326, 1339, 1330, 1347, 1342, 1358, 1355, 1350, 1370,
  1402, 1366, 1361, 1373, 1377, 1381, 1385, 1389, 1393, 1397, 1414, 1410, 1405, 1418, 1422, 1426, 1430, 1434, 1438, 611,
  604, 643, 877, 548, 447, 783, 857, 864, 884, 892, 903, 911, 920, 927, 0]
def seP : List (Nat) := [
  705, 761, 507, 572, 676, 900, 659, 655, 680, 719, 651, 663, 24, 25, 18, 0, 19, 20, 21, 0,
  0, 0, 0, 0, 440, 503, 476, 499, 536, 854, 436, 4, 9, 10, 7, 8, 3, 5, 6, 2,
  0, 1, 0, 424, 528, 560, 780, 568, 636, 13, 14, 15, 16, 17, 420, 428, 432, 511, 788, 861,
  868, 515, 888, 896, 608, 618, 632, 640, 907, 915, 924, 647, 931, 687, 693, 711, 715, 723, 730, 735,
  740, 745, 749, 757, 765, 772, 776, 12, 27, 11, 23, 26, 22, 0, 0, 0, 0, 0, 0, 935,
  46, 0, 0, 0, 29, 939, 948, 31, 0, 0, 30, 0, 33, 32, 37, 38, 39, 36, 35, 0,
  40, 41, 34, 42, 0, 43, 1064, 1144, 45, 54, 44, 66, 50, 55, 58, 59, 53, 57, 56, 70,
  52, 51, 69, 75, 49, 61, 60, 48, 63, 62, 47, 64, 65, 0, 1148, 1246, 67, 1252, 68, 1264,
  71, 1272, 1287, 72, 73, 1295, 0, 1307, 74, 1314, 1323, 1327, 76, 1331, 77, 1343, 0, 78, 1351, 80,
  81, 79, 1362, 1374, 1378, 1382, 1386, 1390, 1394, 1398, 83, 82, 1406, 1419, 1423, 1427, 1431, 1435, 1439, 0,
  0, 0, 0, 0, 0, 0, 0, 0, 0, 0, 0, 0, 0, 0, 0]
def iiP : List (Nat) := [
  93, 93, 93, 95, 95, 95, 95, 95, 95, 95, 95, 95, 95, 95, 95, 95, 95, 95, 95, 102,
  102, 102, 102, 102, 92, 92, 92, 92, 92, 92, 86, 86, 86, 86, 86, 86, 86, 86, 86, 86,
  86, 86, 86, 87, 94, 94, 94, 94, 94, 94, 94, 94, 94, 94, 85, 85, 85, 85, 85, 85,
  85, 85, 85, 85, 85, 85, 85, 85, 85, 85, 85, 85, 85, 85, 85, 85, 85, 85, 85, 85,
  85, 85, 85, 85, 85, 85, 85, 85, 85, 85, 85, 85, 85, 85, 85, 85, 85, 85, 85, 96,
  96, 96, 96, 96, 96, 96, 96, 96, 96, 96, 96, 96, 96, 96, 96, 96, 96, 96, 96, 96,
  96, 96, 96, 96, 96, 96, 96, 96, 96, 96, 96, 96, 96, 96, 96, 96, 96, 96, 96, 96,
  96, 96, 96, 96, 96, 96, 96, 96, 96, 96, 96, 96, 96, 96, 96, 96, 96, 96, 96, 96,
  96, 96, 96, 96, 96, 96, 96, 96, 96, 96, 96, 96, 96, 96, 96, 96, 96, 96, 96, 96,
  96, 96, 96, 96, 96, 96, 96, 96, 96, 96, 96, 96, 96, 96, 96, 96, 96, 96, 96, 103,
  97, 97, 97, 97, 97, 84, 84, 84, 84, 84, 84, 84, 84, 84, 84]
def shpL : List (Nat × Nat) := [
  (0, 7), (0, 5), (2, 540), (0, 4), (4, 6), (0, 0), (5, 8), (5, 2), (0, 6), (1, 6), (1, 6), (1, 6),
  (0, 1), (1, 6), (6, 5), (4, 11), (4, 11), (4, 11), (4, 11), (4, 11), (4, 6), (0, 3), (1, 6), (1, 11),
  (1, 11), (1, 11), (1, 11), (0, 3), (1, 6), (1, 11), (1, 11), (1, 11), (1, 11), (0, 3), (1, 6), (1, 11),
  (1, 11), (1, 11), (1, 11), (0, 3), (1, 6), (1, 11), (1, 11), (1, 11), (1, 11), (0, 3), (1, 6), (1, 11),
  (1, 11), (1, 11), (1, 11), (0, 3), (1, 6), (1, 11), (1, 11), (1, 11), (1, 11), (0, 3), (1, 6), (1, 11),
  (1, 11), (1, 11), (1, 11), (0, 3), (1, 6), (1, 11), (1, 11), (1, 11), (1, 11), (0, 3), (1, 6), (1, 11),
  (1, 11), (1, 11), (1, 11), (0, 3), (1, 6), (1, 11), (1, 11), (1, 11), (1, 11), (0, 3), (1, 6), (1, 11),
  (1, 11), (1, 11), (1, 11), (0, 3), (1, 6), (1, 11), (1, 11), (1, 11), (1, 11), (0, 8), (1, 540), (1, 69),
  (1, 69), (1, 138), (1, 552), (1, 69), (1, 69), (4, 6), (3, 2), (4, 36), (1, 6), (4, 6), (4, 2), (1, 6),
  (4, 1)]
def rtL : List (List (Option Nat)) := [
  [some 3, some 1, some 21, some 27, some 5, some 7, none, none, none, some 8, some 12], [some 2], [], [some 1, some 4],
  [], [some 6], [some 33, some 39, some 45, some 51, some 57, some 63, some 69, some 75], [some 81, some 87],
  [some 9, none, none, none, none, some 10, some 11], [], [], [],
  [none, some 13, some 14, some 20], [], [some 15, some 16, some 17, some 18, some 19], [],
  [], [], [], [],
  [], [none, none, some 22, none, none, some 23, some 24, some 25, some 26], [], [],
  [], [], [], [none, none, some 28, none, none, some 29, some 30, some 31, some 32],
  [], [], [], [],
  [], [none, none, some 34, none, none, some 35, some 36, some 37, some 38], [], [],
  [], [], [], [none, none, some 40, none, none, some 41, some 42, some 43, some 44],
  [], [], [], [],
  [], [none, none, some 46, none, none, some 47, some 48, some 49, some 50], [], [],
  [], [], [], [none, none, some 52, none, none, some 53, some 54, some 55, some 56],
  [], [], [], [],
  [], [none, none, some 58, none, none, some 59, some 60, some 61, some 62], [], [],
  [], [], [], [none, none, some 64, none, none, some 65, some 66, some 67, some 68],
  [], [], [], [],
  [], [none, none, some 70, none, none, some 71, some 72, some 73, some 74], [], [],
  [], [], [], [none, none, some 76, none, none, some 77, some 78, some 79, some 80],
  [], [], [], [],
  [], [none, none, some 82, none, none, some 83, some 84, some 85, some 86], [], [],
  [], [], [], [none, none, some 88, none, none, some 89, some 90, some 91, some 92],
  [], [], [], [],
  [], [none, some 94, none, none, none, none, none, none, none, none, none, none, none, some 95, some 96, some 97, some 98, some 99, some 100, some 101, some 102, none, none, some 103, some 104, none, none, some 105, some 106, some 107], [], [],
  [], [], [], [],
  [], [], [], [],
  [], [], [], [],
  []]
