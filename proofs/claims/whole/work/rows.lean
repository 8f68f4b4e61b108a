section
-- ===== PART A: goes FIRST, ahead of the names: the tables' words, and 'selects' of the private methods out of them =====
/-- a private method of a class that the tables say can be made, by its rows of tables_1 -/
def lw_okq (q : MethodName × Nat) : Prop := (q.1.cls ≠ "java/lang/invoke/MethodHandle" ∧ q.1.cls ≠ "java/lang/invoke/VarHandle") ∧ Cond.instantiable q.1.cls q.2 ∈ tables_1 ∧ Cond.privateMethod q.1 ∈ tables_1 ∧ Cond.instanceMethod q.1 ∈ tables_1
theorem lw_p0 : lw_okq (⟨"LevelRings$Reader", "step", "()V"⟩, 14) := ⟨⟨by decide +kernel, by decide +kernel⟩, List.mem_of_getElem? (i := 46) (by decide +kernel), List.mem_of_getElem? (i := 358) (by decide +kernel), List.mem_of_getElem? (i := 359) (by decide +kernel)⟩
theorem lw_p1 : lw_okq (⟨"LevelRings$Reader", "takeWordOrNumber", "()V"⟩, 14) := ⟨⟨by decide +kernel, by decide +kernel⟩, List.mem_of_getElem? (i := 46) (by decide +kernel), List.mem_of_getElem? (i := 365) (by decide +kernel), List.mem_of_getElem? (i := 366) (by decide +kernel)⟩
theorem lw_p2 : lw_okq (⟨"LevelRings$Reader", "fails", "(I)Z"⟩, 14) := ⟨⟨by decide +kernel, by decide +kernel⟩, List.mem_of_getElem? (i := 46) (by decide +kernel), List.mem_of_getElem? (i := 370) (by decide +kernel), List.mem_of_getElem? (i := 371) (by decide +kernel)⟩
theorem lw_p3 : lw_okq (⟨"LevelRings$Reader", "isWord", "(J)Z"⟩, 14) := ⟨⟨by decide +kernel, by decide +kernel⟩, List.mem_of_getElem? (i := 46) (by decide +kernel), List.mem_of_getElem? (i := 374) (by decide +kernel), List.mem_of_getElem? (i := 375) (by decide +kernel)⟩
theorem lw_p4 : lw_okq (⟨"LevelRings$Reader", "readsPoint", "(LLevelRings$Net;)Z"⟩, 14) := ⟨⟨by decide +kernel, by decide +kernel⟩, List.mem_of_getElem? (i := 46) (by decide +kernel), List.mem_of_getElem? (i := 378) (by decide +kernel), List.mem_of_getElem? (i := 379) (by decide +kernel)⟩
theorem lw_p5 : lw_okq (⟨"LevelRings$Reader", "isName", "()Z"⟩, 14) := ⟨⟨by decide +kernel, by decide +kernel⟩, List.mem_of_getElem? (i := 46) (by decide +kernel), List.mem_of_getElem? (i := 382) (by decide +kernel), List.mem_of_getElem? (i := 383) (by decide +kernel)⟩
theorem lw_p6 : lw_okq (⟨"LevelRings$Reader", "named", "(I)I"⟩, 14) := ⟨⟨by decide +kernel, by decide +kernel⟩, List.mem_of_getElem? (i := 46) (by decide +kernel), List.mem_of_getElem? (i := 386) (by decide +kernel), List.mem_of_getElem? (i := 387) (by decide +kernel)⟩
theorem lw_p7 : lw_okq (⟨"LevelRings$Reader", "readsHeight", "()Z"⟩, 14) := ⟨⟨by decide +kernel, by decide +kernel⟩, List.mem_of_getElem? (i := 46) (by decide +kernel), List.mem_of_getElem? (i := 394) (by decide +kernel), List.mem_of_getElem? (i := 395) (by decide +kernel)⟩
theorem lw_p8 : lw_okq (⟨"LevelRings$Reader", "readsSemicolon", "()Z"⟩, 14) := ⟨⟨by decide +kernel, by decide +kernel⟩, List.mem_of_getElem? (i := 46) (by decide +kernel), List.mem_of_getElem? (i := 398) (by decide +kernel), List.mem_of_getElem? (i := 399) (by decide +kernel)⟩
theorem lw_p9 : lw_okq (⟨"LevelRings$Reader", "readsLine", "(LLevelRings$Net;)Z"⟩, 14) := ⟨⟨by decide +kernel, by decide +kernel⟩, List.mem_of_getElem? (i := 46) (by decide +kernel), List.mem_of_getElem? (i := 402) (by decide +kernel), List.mem_of_getElem? (i := 403) (by decide +kernel)⟩
theorem lw_p10 : lw_okq (⟨"LevelRings$Reader", "readsTold", "(I)I"⟩, 14) := ⟨⟨by decide +kernel, by decide +kernel⟩, List.mem_of_getElem? (i := 46) (by decide +kernel), List.mem_of_getElem? (i := 406) (by decide +kernel), List.mem_of_getElem? (i := 407) (by decide +kernel)⟩
theorem lw_p11 : lw_okq (⟨"LevelRings", "isPoint", "(I)Z"⟩, 12) := ⟨⟨by decide +kernel, by decide +kernel⟩, List.mem_of_getElem? (i := 21) (by decide +kernel), List.mem_of_getElem? (i := 433) (by decide +kernel), List.mem_of_getElem? (i := 434) (by decide +kernel)⟩
theorem lw_p12 : lw_okq (⟨"LevelRings", "settle", "()V"⟩, 12) := ⟨⟨by decide +kernel, by decide +kernel⟩, List.mem_of_getElem? (i := 21) (by decide +kernel), List.mem_of_getElem? (i := 438) (by decide +kernel), List.mem_of_getElem? (i := 439) (by decide +kernel)⟩
theorem lw_p13 : lw_okq (⟨"LevelRings$Ties", "tieFixed", "(LLevelRings$Net;)I"⟩, 7) := ⟨⟨by decide +kernel, by decide +kernel⟩, List.mem_of_getElem? (i := 239) (by decide +kernel), List.mem_of_getElem? (i := 446) (by decide +kernel), List.mem_of_getElem? (i := 447) (by decide +kernel)⟩
theorem lw_p14 : lw_okq (⟨"LevelRings$Ties", "growTree", "(LLevelRings$Net;)V"⟩, 7) := ⟨⟨by decide +kernel, by decide +kernel⟩, List.mem_of_getElem? (i := 239) (by decide +kernel), List.mem_of_getElem? (i := 457) (by decide +kernel), List.mem_of_getElem? (i := 458) (by decide +kernel)⟩
theorem lw_p15 : lw_okq (⟨"LevelRings$Ties", "merge", "(II)V"⟩, 7) := ⟨⟨by decide +kernel, by decide +kernel⟩, List.mem_of_getElem? (i := 239) (by decide +kernel), List.mem_of_getElem? (i := 466) (by decide +kernel), List.mem_of_getElem? (i := 467) (by decide +kernel)⟩
def lw_privs_1 : List (MethodName × Nat) := [(⟨"LevelRings$Reader", "step", "()V"⟩, 14), (⟨"LevelRings$Reader", "takeWordOrNumber", "()V"⟩, 14), (⟨"LevelRings$Reader", "fails", "(I)Z"⟩, 14), (⟨"LevelRings$Reader", "isWord", "(J)Z"⟩, 14), (⟨"LevelRings$Reader", "readsPoint", "(LLevelRings$Net;)Z"⟩, 14), (⟨"LevelRings$Reader", "isName", "()Z"⟩, 14), (⟨"LevelRings$Reader", "named", "(I)I"⟩, 14), (⟨"LevelRings$Reader", "readsHeight", "()Z"⟩, 14), (⟨"LevelRings$Reader", "readsSemicolon", "()Z"⟩, 14), (⟨"LevelRings$Reader", "readsLine", "(LLevelRings$Net;)Z"⟩, 14), (⟨"LevelRings$Reader", "readsTold", "(I)I"⟩, 14), (⟨"LevelRings", "isPoint", "(I)Z"⟩, 12), (⟨"LevelRings", "settle", "()V"⟩, 12), (⟨"LevelRings$Ties", "tieFixed", "(LLevelRings$Net;)I"⟩, 7), (⟨"LevelRings$Ties", "growTree", "(LLevelRings$Net;)V"⟩, 7), (⟨"LevelRings$Ties", "merge", "(II)V"⟩, 7)]
theorem lw_r1 : ∀ q ∈ lw_privs_1, lw_okq q := List.forall_mem_cons.mpr ⟨lw_p0, List.forall_mem_cons.mpr ⟨lw_p1, List.forall_mem_cons.mpr ⟨lw_p2, List.forall_mem_cons.mpr ⟨lw_p3, List.forall_mem_cons.mpr ⟨lw_p4, List.forall_mem_cons.mpr ⟨lw_p5, List.forall_mem_cons.mpr ⟨lw_p6, List.forall_mem_cons.mpr ⟨lw_p7, List.forall_mem_cons.mpr ⟨lw_p8, List.forall_mem_cons.mpr ⟨lw_p9, List.forall_mem_cons.mpr ⟨lw_p10, List.forall_mem_cons.mpr ⟨lw_p11, List.forall_mem_cons.mpr ⟨lw_p12, List.forall_mem_cons.mpr ⟨lw_p13, List.forall_mem_cons.mpr ⟨lw_p14, List.forall_mem_cons.mpr ⟨lw_p15, fun _ h => absurd h List.not_mem_nil⟩⟩⟩⟩⟩⟩⟩⟩⟩⟩⟩⟩⟩⟩⟩⟩
theorem lw_p16 : lw_okq (⟨"LevelRings$Ties", "walkTree", "(LLevelRings$Net;)V"⟩, 7) := ⟨⟨by decide +kernel, by decide +kernel⟩, List.mem_of_getElem? (i := 239) (by decide +kernel), List.mem_of_getElem? (i := 470) (by decide +kernel), List.mem_of_getElem? (i := 471) (by decide +kernel)⟩
theorem lw_p17 : lw_okq (⟨"LevelRings$Ties", "walkLine", "(LLevelRings$Net;II)I"⟩, 7) := ⟨⟨by decide +kernel, by decide +kernel⟩, List.mem_of_getElem? (i := 239) (by decide +kernel), List.mem_of_getElem? (i := 478) (by decide +kernel), List.mem_of_getElem? (i := 479) (by decide +kernel)⟩
theorem lw_p18 : lw_okq (⟨"LevelRings$Balance", "chooseSought", "(LLevelRings$Net;LLevelRings$Ties;)V"⟩, 5) := ⟨⟨by decide +kernel, by decide +kernel⟩, List.mem_of_getElem? (i := 271) (by decide +kernel), List.mem_of_getElem? (i := 490) (by decide +kernel), List.mem_of_getElem? (i := 491) (by decide +kernel)⟩
theorem lw_p19 : lw_okq (⟨"LevelRings$Balance", "pull", "(LLevelRings$Net;IIJJ)V"⟩, 5) := ⟨⟨by decide +kernel, by decide +kernel⟩, List.mem_of_getElem? (i := 271) (by decide +kernel), List.mem_of_getElem? (i := 497) (by decide +kernel), List.mem_of_getElem? (i := 498) (by decide +kernel)⟩
theorem lw_p20 : lw_okq (⟨"LevelRings$Balance", "eliminate", "()V"⟩, 5) := ⟨⟨by decide +kernel, by decide +kernel⟩, List.mem_of_getElem? (i := 271) (by decide +kernel), List.mem_of_getElem? (i := 504) (by decide +kernel), List.mem_of_getElem? (i := 505) (by decide +kernel)⟩
theorem lw_p21 : lw_okq (⟨"LevelRings$Balance", "clearColumn", "(IIJ)V"⟩, 5) := ⟨⟨by decide +kernel, by decide +kernel⟩, List.mem_of_getElem? (i := 271) (by decide +kernel), List.mem_of_getElem? (i := 508) (by decide +kernel), List.mem_of_getElem? (i := 509) (by decide +kernel)⟩
theorem lw_p22 : lw_okq (⟨"LevelRings", "hasRing", "(I)Z"⟩, 12) := ⟨⟨by decide +kernel, by decide +kernel⟩, List.mem_of_getElem? (i := 21) (by decide +kernel), List.mem_of_getElem? (i := 536) (by decide +kernel), List.mem_of_getElem? (i := 537) (by decide +kernel)⟩
theorem lw_p23 : lw_okq (⟨"LevelRings", "isLine", "(I)Z"⟩, 12) := ⟨⟨by decide +kernel, by decide +kernel⟩, List.mem_of_getElem? (i := 21) (by decide +kernel), List.mem_of_getElem? (i := 540) (by decide +kernel), List.mem_of_getElem? (i := 541) (by decide +kernel)⟩
theorem lw_p24 : lw_okq (⟨"LevelRings$Balance", "inverse", "(II)J"⟩, 5) := ⟨⟨by decide +kernel, by decide +kernel⟩, List.mem_of_getElem? (i := 271) (by decide +kernel), List.mem_of_getElem? (i := 581) (by decide +kernel), List.mem_of_getElem? (i := 582) (by decide +kernel)⟩
theorem lw_p25 : lw_okq (⟨"LevelRings$Balance", "weightedSquare", "(LLevelRings$Net;I)J"⟩, 5) := ⟨⟨by decide +kernel, by decide +kernel⟩, List.mem_of_getElem? (i := 271) (by decide +kernel), List.mem_of_getElem? (i := 586) (by decide +kernel), List.mem_of_getElem? (i := 587) (by decide +kernel)⟩
theorem lw_p26 : lw_okq (⟨"LevelRings", "isSoundLine", "(I)Z"⟩, 12) := ⟨⟨by decide +kernel, by decide +kernel⟩, List.mem_of_getElem? (i := 21) (by decide +kernel), List.mem_of_getElem? (i := 611) (by decide +kernel), List.mem_of_getElem? (i := 612) (by decide +kernel)⟩
theorem lw_p27 : lw_okq (⟨"LevelRings", "beginAct", "()V"⟩, 12) := ⟨⟨by decide +kernel, by decide +kernel⟩, List.mem_of_getElem? (i := 21) (by decide +kernel), List.mem_of_getElem? (i := 615) (by decide +kernel), List.mem_of_getElem? (i := 616) (by decide +kernel)⟩
theorem lw_p28 : lw_okq (⟨"java/lang/Throwable", "fillInStackTrace", "(I)Ljava/lang/Throwable;"⟩, 6) := ⟨⟨by decide +kernel, by decide +kernel⟩, List.mem_of_getElem? (i := 742) (by decide +kernel), List.mem_of_getElem? (i := 740) (by decide +kernel), List.mem_of_getElem? (i := 741) (by decide +kernel)⟩
theorem lw_p29 : lw_okq (⟨"LevelRingsModel", "come", "(I)V"⟩, 35) := ⟨⟨by decide +kernel, by decide +kernel⟩, List.mem_of_getElem? (i := 859) (by decide +kernel), List.mem_of_getElem? (i := 857) (by decide +kernel), List.mem_of_getElem? (i := 858) (by decide +kernel)⟩
theorem lw_p30 : lw_okq (⟨"LevelRingsModel", "go", "()V"⟩, 35) := ⟨⟨by decide +kernel, by decide +kernel⟩, List.mem_of_getElem? (i := 859) (by decide +kernel), List.mem_of_getElem? (i := 982) (by decide +kernel), List.mem_of_getElem? (i := 983) (by decide +kernel)⟩
theorem lw_p31 : lw_okq (⟨"LevelRingsModel", "tapeAt", "(I)I"⟩, 35) := ⟨⟨by decide +kernel, by decide +kernel⟩, List.mem_of_getElem? (i := 859) (by decide +kernel), List.mem_of_getElem? (i := 992) (by decide +kernel), List.mem_of_getElem? (i := 993) (by decide +kernel)⟩
def lw_privs_2 : List (MethodName × Nat) := [(⟨"LevelRings$Ties", "walkTree", "(LLevelRings$Net;)V"⟩, 7), (⟨"LevelRings$Ties", "walkLine", "(LLevelRings$Net;II)I"⟩, 7), (⟨"LevelRings$Balance", "chooseSought", "(LLevelRings$Net;LLevelRings$Ties;)V"⟩, 5), (⟨"LevelRings$Balance", "pull", "(LLevelRings$Net;IIJJ)V"⟩, 5), (⟨"LevelRings$Balance", "eliminate", "()V"⟩, 5), (⟨"LevelRings$Balance", "clearColumn", "(IIJ)V"⟩, 5), (⟨"LevelRings", "hasRing", "(I)Z"⟩, 12), (⟨"LevelRings", "isLine", "(I)Z"⟩, 12), (⟨"LevelRings$Balance", "inverse", "(II)J"⟩, 5), (⟨"LevelRings$Balance", "weightedSquare", "(LLevelRings$Net;I)J"⟩, 5), (⟨"LevelRings", "isSoundLine", "(I)Z"⟩, 12), (⟨"LevelRings", "beginAct", "()V"⟩, 12), (⟨"java/lang/Throwable", "fillInStackTrace", "(I)Ljava/lang/Throwable;"⟩, 6), (⟨"LevelRingsModel", "come", "(I)V"⟩, 35), (⟨"LevelRingsModel", "go", "()V"⟩, 35), (⟨"LevelRingsModel", "tapeAt", "(I)I"⟩, 35)]
theorem lw_r2 : ∀ q ∈ lw_privs_2, lw_okq q := List.forall_mem_cons.mpr ⟨lw_p16, List.forall_mem_cons.mpr ⟨lw_p17, List.forall_mem_cons.mpr ⟨lw_p18, List.forall_mem_cons.mpr ⟨lw_p19, List.forall_mem_cons.mpr ⟨lw_p20, List.forall_mem_cons.mpr ⟨lw_p21, List.forall_mem_cons.mpr ⟨lw_p22, List.forall_mem_cons.mpr ⟨lw_p23, List.forall_mem_cons.mpr ⟨lw_p24, List.forall_mem_cons.mpr ⟨lw_p25, List.forall_mem_cons.mpr ⟨lw_p26, List.forall_mem_cons.mpr ⟨lw_p27, List.forall_mem_cons.mpr ⟨lw_p28, List.forall_mem_cons.mpr ⟨lw_p29, List.forall_mem_cons.mpr ⟨lw_p30, List.forall_mem_cons.mpr ⟨lw_p31, fun _ h => absurd h List.not_mem_nil⟩⟩⟩⟩⟩⟩⟩⟩⟩⟩⟩⟩⟩⟩⟩⟩
theorem lw_p32 : lw_okq (⟨"LevelRingsModel", "isPointWord", "()Z"⟩, 35) := ⟨⟨by decide +kernel, by decide +kernel⟩, List.mem_of_getElem? (i := 859) (by decide +kernel), List.mem_of_getElem? (i := 998) (by decide +kernel), List.mem_of_getElem? (i := 999) (by decide +kernel)⟩
theorem lw_p33 : lw_okq (⟨"LevelRingsModel", "isWord", "(J)Z"⟩, 35) := ⟨⟨by decide +kernel, by decide +kernel⟩, List.mem_of_getElem? (i := 859) (by decide +kernel), List.mem_of_getElem? (i := 1005) (by decide +kernel), List.mem_of_getElem? (i := 1006) (by decide +kernel)⟩
theorem lw_p34 : lw_okq (⟨"LevelRingsModel", "readPoint", "()Z"⟩, 35) := ⟨⟨by decide +kernel, by decide +kernel⟩, List.mem_of_getElem? (i := 859) (by decide +kernel), List.mem_of_getElem? (i := 1009) (by decide +kernel), List.mem_of_getElem? (i := 1010) (by decide +kernel)⟩
theorem lw_p35 : lw_okq (⟨"LevelRingsModel", "bad", "(I)Z"⟩, 35) := ⟨⟨by decide +kernel, by decide +kernel⟩, List.mem_of_getElem? (i := 859) (by decide +kernel), List.mem_of_getElem? (i := 1013) (by decide +kernel), List.mem_of_getElem? (i := 1014) (by decide +kernel)⟩
theorem lw_p36 : lw_okq (⟨"LevelRingsModel", "isName", "()Z"⟩, 35) := ⟨⟨by decide +kernel, by decide +kernel⟩, List.mem_of_getElem? (i := 859) (by decide +kernel), List.mem_of_getElem? (i := 1017) (by decide +kernel), List.mem_of_getElem? (i := 1018) (by decide +kernel)⟩
theorem lw_p37 : lw_okq (⟨"LevelRingsModel", "isLineWord", "()Z"⟩, 35) := ⟨⟨by decide +kernel, by decide +kernel⟩, List.mem_of_getElem? (i := 859) (by decide +kernel), List.mem_of_getElem? (i := 1021) (by decide +kernel), List.mem_of_getElem? (i := 1022) (by decide +kernel)⟩
theorem lw_p38 : lw_okq (⟨"LevelRingsModel", "isUp", "()Z"⟩, 35) := ⟨⟨by decide +kernel, by decide +kernel⟩, List.mem_of_getElem? (i := 859) (by decide +kernel), List.mem_of_getElem? (i := 1025) (by decide +kernel), List.mem_of_getElem? (i := 1026) (by decide +kernel)⟩
theorem lw_p39 : lw_okq (⟨"LevelRingsModel", "isDown", "()Z"⟩, 35) := ⟨⟨by decide +kernel, by decide +kernel⟩, List.mem_of_getElem? (i := 859) (by decide +kernel), List.mem_of_getElem? (i := 1029) (by decide +kernel), List.mem_of_getElem? (i := 1030) (by decide +kernel)⟩
theorem lw_p40 : lw_okq (⟨"LevelRingsModel", "named", "()I"⟩, 35) := ⟨⟨by decide +kernel, by decide +kernel⟩, List.mem_of_getElem? (i := 859) (by decide +kernel), List.mem_of_getElem? (i := 1033) (by decide +kernel), List.mem_of_getElem? (i := 1034) (by decide +kernel)⟩
theorem lw_p41 : lw_okq (⟨"LevelRingsModel", "readHeight", "()Z"⟩, 35) := ⟨⟨by decide +kernel, by decide +kernel⟩, List.mem_of_getElem? (i := 859) (by decide +kernel), List.mem_of_getElem? (i := 1037) (by decide +kernel), List.mem_of_getElem? (i := 1038) (by decide +kernel)⟩
theorem lw_p42 : lw_okq (⟨"LevelRingsModel", "readLine", "()Z"⟩, 35) := ⟨⟨by decide +kernel, by decide +kernel⟩, List.mem_of_getElem? (i := 859) (by decide +kernel), List.mem_of_getElem? (i := 1041) (by decide +kernel), List.mem_of_getElem? (i := 1042) (by decide +kernel)⟩
theorem lw_p43 : lw_okq (⟨"LevelRingsModel", "readEnd", "()Z"⟩, 35) := ⟨⟨by decide +kernel, by decide +kernel⟩, List.mem_of_getElem? (i := 859) (by decide +kernel), List.mem_of_getElem? (i := 1051) (by decide +kernel), List.mem_of_getElem? (i := 1052) (by decide +kernel)⟩
theorem lw_p44 : lw_okq (⟨"LevelRingsModel", "isPoint", "(I)Z"⟩, 35) := ⟨⟨by decide +kernel, by decide +kernel⟩, List.mem_of_getElem? (i := 859) (by decide +kernel), List.mem_of_getElem? (i := 1066) (by decide +kernel), List.mem_of_getElem? (i := 1067) (by decide +kernel)⟩
theorem lw_p45 : lw_okq (⟨"LevelRingsModel", "points", "()I"⟩, 35) := ⟨⟨by decide +kernel, by decide +kernel⟩, List.mem_of_getElem? (i := 859) (by decide +kernel), List.mem_of_getElem? (i := 1070) (by decide +kernel), List.mem_of_getElem? (i := 1071) (by decide +kernel)⟩
theorem lw_p46 : lw_okq (⟨"LevelRingsModel", "refuse", "()I"⟩, 35) := ⟨⟨by decide +kernel, by decide +kernel⟩, List.mem_of_getElem? (i := 859) (by decide +kernel), List.mem_of_getElem? (i := 1077) (by decide +kernel), List.mem_of_getElem? (i := 1078) (by decide +kernel)⟩
theorem lw_p47 : lw_okq (⟨"LevelRingsModel", "solveNow", "()V"⟩, 35) := ⟨⟨by decide +kernel, by decide +kernel⟩, List.mem_of_getElem? (i := 859) (by decide +kernel), List.mem_of_getElem? (i := 1081) (by decide +kernel), List.mem_of_getElem? (i := 1082) (by decide +kernel)⟩
def lw_privs_3 : List (MethodName × Nat) := [(⟨"LevelRingsModel", "isPointWord", "()Z"⟩, 35), (⟨"LevelRingsModel", "isWord", "(J)Z"⟩, 35), (⟨"LevelRingsModel", "readPoint", "()Z"⟩, 35), (⟨"LevelRingsModel", "bad", "(I)Z"⟩, 35), (⟨"LevelRingsModel", "isName", "()Z"⟩, 35), (⟨"LevelRingsModel", "isLineWord", "()Z"⟩, 35), (⟨"LevelRingsModel", "isUp", "()Z"⟩, 35), (⟨"LevelRingsModel", "isDown", "()Z"⟩, 35), (⟨"LevelRingsModel", "named", "()I"⟩, 35), (⟨"LevelRingsModel", "readHeight", "()Z"⟩, 35), (⟨"LevelRingsModel", "readLine", "()Z"⟩, 35), (⟨"LevelRingsModel", "readEnd", "()Z"⟩, 35), (⟨"LevelRingsModel", "isPoint", "(I)Z"⟩, 35), (⟨"LevelRingsModel", "points", "()I"⟩, 35), (⟨"LevelRingsModel", "refuse", "()I"⟩, 35), (⟨"LevelRingsModel", "solveNow", "()V"⟩, 35)]
theorem lw_r3 : ∀ q ∈ lw_privs_3, lw_okq q := List.forall_mem_cons.mpr ⟨lw_p32, List.forall_mem_cons.mpr ⟨lw_p33, List.forall_mem_cons.mpr ⟨lw_p34, List.forall_mem_cons.mpr ⟨lw_p35, List.forall_mem_cons.mpr ⟨lw_p36, List.forall_mem_cons.mpr ⟨lw_p37, List.forall_mem_cons.mpr ⟨lw_p38, List.forall_mem_cons.mpr ⟨lw_p39, List.forall_mem_cons.mpr ⟨lw_p40, List.forall_mem_cons.mpr ⟨lw_p41, List.forall_mem_cons.mpr ⟨lw_p42, List.forall_mem_cons.mpr ⟨lw_p43, List.forall_mem_cons.mpr ⟨lw_p44, List.forall_mem_cons.mpr ⟨lw_p45, List.forall_mem_cons.mpr ⟨lw_p46, List.forall_mem_cons.mpr ⟨lw_p47, fun _ h => absurd h List.not_mem_nil⟩⟩⟩⟩⟩⟩⟩⟩⟩⟩⟩⟩⟩⟩⟩⟩
theorem lw_p48 : lw_okq (⟨"LevelRingsModel", "laysAll", "(Z)V"⟩, 35) := ⟨⟨by decide +kernel, by decide +kernel⟩, List.mem_of_getElem? (i := 859) (by decide +kernel), List.mem_of_getElem? (i := 1085) (by decide +kernel), List.mem_of_getElem? (i := 1086) (by decide +kernel)⟩
theorem lw_p49 : lw_okq (⟨"LevelRingsModel", "laysRows", "()V"⟩, 35) := ⟨⟨by decide +kernel, by decide +kernel⟩, List.mem_of_getElem? (i := 859) (by decide +kernel), List.mem_of_getElem? (i := 1089) (by decide +kernel), List.mem_of_getElem? (i := 1090) (by decide +kernel)⟩
theorem lw_p50 : lw_okq (⟨"LevelRingsModel", "isFixed", "(I)Z"⟩, 35) := ⟨⟨by decide +kernel, by decide +kernel⟩, List.mem_of_getElem? (i := 859) (by decide +kernel), List.mem_of_getElem? (i := 1093) (by decide +kernel), List.mem_of_getElem? (i := 1094) (by decide +kernel)⟩
theorem lw_p51 : lw_okq (⟨"LevelRingsModel", "isRoot", "(I)Z"⟩, 35) := ⟨⟨by decide +kernel, by decide +kernel⟩, List.mem_of_getElem? (i := 859) (by decide +kernel), List.mem_of_getElem? (i := 1097) (by decide +kernel), List.mem_of_getElem? (i := 1098) (by decide +kernel)⟩
theorem lw_p52 : lw_okq (⟨"LevelRingsModel", "partOf", "(I)I"⟩, 35) := ⟨⟨by decide +kernel, by decide +kernel⟩, List.mem_of_getElem? (i := 859) (by decide +kernel), List.mem_of_getElem? (i := 1101) (by decide +kernel), List.mem_of_getElem? (i := 1102) (by decide +kernel)⟩
theorem lw_p53 : lw_okq (⟨"LevelRingsModel", "sound", "()I"⟩, 35) := ⟨⟨by decide +kernel, by decide +kernel⟩, List.mem_of_getElem? (i := 859) (by decide +kernel), List.mem_of_getElem? (i := 1105) (by decide +kernel), List.mem_of_getElem? (i := 1106) (by decide +kernel)⟩
theorem lw_p54 : lw_okq (⟨"LevelRingsModel", "lines", "()I"⟩, 35) := ⟨⟨by decide +kernel, by decide +kernel⟩, List.mem_of_getElem? (i := 859) (by decide +kernel), List.mem_of_getElem? (i := 1109) (by decide +kernel), List.mem_of_getElem? (i := 1110) (by decide +kernel)⟩
theorem lw_p55 : lw_okq (⟨"LevelRingsModel", "isSound", "(I)Z"⟩, 35) := ⟨⟨by decide +kernel, by decide +kernel⟩, List.mem_of_getElem? (i := 859) (by decide +kernel), List.mem_of_getElem? (i := 1113) (by decide +kernel), List.mem_of_getElem? (i := 1114) (by decide +kernel)⟩
theorem lw_p56 : lw_okq (⟨"LevelRingsModel", "tied", "(II)I"⟩, 35) := ⟨⟨by decide +kernel, by decide +kernel⟩, List.mem_of_getElem? (i := 859) (by decide +kernel), List.mem_of_getElem? (i := 1117) (by decide +kernel), List.mem_of_getElem? (i := 1118) (by decide +kernel)⟩
theorem lw_p57 : lw_okq (⟨"LevelRingsModel", "fixed", "()I"⟩, 35) := ⟨⟨by decide +kernel, by decide +kernel⟩, List.mem_of_getElem? (i := 859) (by decide +kernel), List.mem_of_getElem? (i := 1121) (by decide +kernel), List.mem_of_getElem? (i := 1122) (by decide +kernel)⟩
theorem lw_p58 : lw_okq (⟨"LevelRingsModel", "first", "(I)I"⟩, 35) := ⟨⟨by decide +kernel, by decide +kernel⟩, List.mem_of_getElem? (i := 859) (by decide +kernel), List.mem_of_getElem? (i := 1125) (by decide +kernel), List.mem_of_getElem? (i := 1126) (by decide +kernel)⟩
theorem lw_p59 : lw_okq (⟨"LevelRingsModel", "second", "(I)I"⟩, 35) := ⟨⟨by decide +kernel, by decide +kernel⟩, List.mem_of_getElem? (i := 859) (by decide +kernel), List.mem_of_getElem? (i := 1129) (by decide +kernel), List.mem_of_getElem? (i := 1130) (by decide +kernel)⟩
theorem lw_p60 : lw_okq (⟨"LevelRingsModel", "ties", "(IIJJZ)V"⟩, 35) := ⟨⟨by decide +kernel, by decide +kernel⟩, List.mem_of_getElem? (i := 859) (by decide +kernel), List.mem_of_getElem? (i := 1136) (by decide +kernel), List.mem_of_getElem? (i := 1137) (by decide +kernel)⟩
theorem lw_p61 : lw_okq (⟨"LevelRingsModel", "adds", "(IIJ)V"⟩, 35) := ⟨⟨by decide +kernel, by decide +kernel⟩, List.mem_of_getElem? (i := 859) (by decide +kernel), List.mem_of_getElem? (i := 1140) (by decide +kernel), List.mem_of_getElem? (i := 1141) (by decide +kernel)⟩
theorem lw_p62 : lw_okq (⟨"LevelRingsModel", "solve", "(Z)V"⟩, 35) := ⟨⟨by decide +kernel, by decide +kernel⟩, List.mem_of_getElem? (i := 859) (by decide +kernel), List.mem_of_getElem? (i := 1144) (by decide +kernel), List.mem_of_getElem? (i := 1145) (by decide +kernel)⟩
theorem lw_p63 : lw_okq (⟨"LevelRingsModel", "frees", "()V"⟩, 35) := ⟨⟨by decide +kernel, by decide +kernel⟩, List.mem_of_getElem? (i := 859) (by decide +kernel), List.mem_of_getElem? (i := 1148) (by decide +kernel), List.mem_of_getElem? (i := 1149) (by decide +kernel)⟩
def lw_privs_4 : List (MethodName × Nat) := [(⟨"LevelRingsModel", "laysAll", "(Z)V"⟩, 35), (⟨"LevelRingsModel", "laysRows", "()V"⟩, 35), (⟨"LevelRingsModel", "isFixed", "(I)Z"⟩, 35), (⟨"LevelRingsModel", "isRoot", "(I)Z"⟩, 35), (⟨"LevelRingsModel", "partOf", "(I)I"⟩, 35), (⟨"LevelRingsModel", "sound", "()I"⟩, 35), (⟨"LevelRingsModel", "lines", "()I"⟩, 35), (⟨"LevelRingsModel", "isSound", "(I)Z"⟩, 35), (⟨"LevelRingsModel", "tied", "(II)I"⟩, 35), (⟨"LevelRingsModel", "fixed", "()I"⟩, 35), (⟨"LevelRingsModel", "first", "(I)I"⟩, 35), (⟨"LevelRingsModel", "second", "(I)I"⟩, 35), (⟨"LevelRingsModel", "ties", "(IIJJZ)V"⟩, 35), (⟨"LevelRingsModel", "adds", "(IIJ)V"⟩, 35), (⟨"LevelRingsModel", "solve", "(Z)V"⟩, 35), (⟨"LevelRingsModel", "frees", "()V"⟩, 35)]
theorem lw_r4 : ∀ q ∈ lw_privs_4, lw_okq q := List.forall_mem_cons.mpr ⟨lw_p48, List.forall_mem_cons.mpr ⟨lw_p49, List.forall_mem_cons.mpr ⟨lw_p50, List.forall_mem_cons.mpr ⟨lw_p51, List.forall_mem_cons.mpr ⟨lw_p52, List.forall_mem_cons.mpr ⟨lw_p53, List.forall_mem_cons.mpr ⟨lw_p54, List.forall_mem_cons.mpr ⟨lw_p55, List.forall_mem_cons.mpr ⟨lw_p56, List.forall_mem_cons.mpr ⟨lw_p57, List.forall_mem_cons.mpr ⟨lw_p58, List.forall_mem_cons.mpr ⟨lw_p59, List.forall_mem_cons.mpr ⟨lw_p60, List.forall_mem_cons.mpr ⟨lw_p61, List.forall_mem_cons.mpr ⟨lw_p62, List.forall_mem_cons.mpr ⟨lw_p63, fun _ h => absurd h List.not_mem_nil⟩⟩⟩⟩⟩⟩⟩⟩⟩⟩⟩⟩⟩⟩⟩⟩
theorem lw_p64 : lw_okq (⟨"LevelRingsModel", "tells", "(JJ)V"⟩, 35) := ⟨⟨by decide +kernel, by decide +kernel⟩, List.mem_of_getElem? (i := 859) (by decide +kernel), List.mem_of_getElem? (i := 1152) (by decide +kernel), List.mem_of_getElem? (i := 1153) (by decide +kernel)⟩
theorem lw_p65 : lw_okq (⟨"LevelRingsModel", "said", "(I)J"⟩, 35) := ⟨⟨by decide +kernel, by decide +kernel⟩, List.mem_of_getElem? (i := 859) (by decide +kernel), List.mem_of_getElem? (i := 1156) (by decide +kernel), List.mem_of_getElem? (i := 1157) (by decide +kernel)⟩
theorem lw_p66 : lw_okq (⟨"LevelRingsModel", "isLine", "(I)Z"⟩, 35) := ⟨⟨by decide +kernel, by decide +kernel⟩, List.mem_of_getElem? (i := 859) (by decide +kernel), List.mem_of_getElem? (i := 1170) (by decide +kernel), List.mem_of_getElem? (i := 1171) (by decide +kernel)⟩
theorem lw_p67 : lw_okq (⟨"LevelRingsModel", "offOf", "(I)J"⟩, 35) := ⟨⟨by decide +kernel, by decide +kernel⟩, List.mem_of_getElem? (i := 859) (by decide +kernel), List.mem_of_getElem? (i := 1174) (by decide +kernel), List.mem_of_getElem? (i := 1175) (by decide +kernel)⟩
theorem lw_p68 : lw_okq (⟨"LevelRingsModel", "heldBy", "(I)J"⟩, 35) := ⟨⟨by decide +kernel, by decide +kernel⟩, List.mem_of_getElem? (i := 859) (by decide +kernel), List.mem_of_getElem? (i := 1182) (by decide +kernel), List.mem_of_getElem? (i := 1183) (by decide +kernel)⟩
theorem lw_p69 : lw_okq (⟨"LevelRingsModel", "tree", "()I"⟩, 35) := ⟨⟨by decide +kernel, by decide +kernel⟩, List.mem_of_getElem? (i := 859) (by decide +kernel), List.mem_of_getElem? (i := 1193) (by decide +kernel), List.mem_of_getElem? (i := 1194) (by decide +kernel)⟩
theorem lw_p70 : lw_okq (⟨"LevelRingsModel", "areTied", "(III)Z"⟩, 35) := ⟨⟨by decide +kernel, by decide +kernel⟩, List.mem_of_getElem? (i := 859) (by decide +kernel), List.mem_of_getElem? (i := 1197) (by decide +kernel), List.mem_of_getElem? (i := 1198) (by decide +kernel)⟩
theorem lw_p71 : lw_okq (⟨"LevelRingsModel", "isClosed", "(I)Z"⟩, 35) := ⟨⟨by decide +kernel, by decide +kernel⟩, List.mem_of_getElem? (i := 859) (by decide +kernel), List.mem_of_getElem? (i := 1205) (by decide +kernel), List.mem_of_getElem? (i := 1206) (by decide +kernel)⟩
theorem lw_p72 : lw_okq (⟨"LevelRingsModel", "laysAlong", "()V"⟩, 35) := ⟨⟨by decide +kernel, by decide +kernel⟩, List.mem_of_getElem? (i := 859) (by decide +kernel), List.mem_of_getElem? (i := 1213) (by decide +kernel), List.mem_of_getElem? (i := 1214) (by decide +kernel)⟩
theorem lw_p73 : lw_okq (⟨"LevelRingsModel", "closing", "(I)I"⟩, 35) := ⟨⟨by decide +kernel, by decide +kernel⟩, List.mem_of_getElem? (i := 859) (by decide +kernel), List.mem_of_getElem? (i := 1217) (by decide +kernel), List.mem_of_getElem? (i := 1218) (by decide +kernel)⟩
theorem lw_p74 : lw_okq (⟨"LevelRingsModel", "doubtOf", "(II)J"⟩, 35) := ⟨⟨by decide +kernel, by decide +kernel⟩, List.mem_of_getElem? (i := 859) (by decide +kernel), List.mem_of_getElem? (i := 1232) (by decide +kernel), List.mem_of_getElem? (i := 1233) (by decide +kernel)⟩
theorem lw_p75 : lw_okq (⟨"LevelRingsModel", "isBridge", "(I)Z"⟩, 35) := ⟨⟨by decide +kernel, by decide +kernel⟩, List.mem_of_getElem? (i := 859) (by decide +kernel), List.mem_of_getElem? (i := 1249) (by decide +kernel), List.mem_of_getElem? (i := 1250) (by decide +kernel)⟩
theorem lw_p76 : lw_okq (⟨"LevelRingsModel", "laysWanted", "(I)V"⟩, 35) := ⟨⟨by decide +kernel, by decide +kernel⟩, List.mem_of_getElem? (i := 859) (by decide +kernel), List.mem_of_getElem? (i := 1253) (by decide +kernel), List.mem_of_getElem? (i := 1254) (by decide +kernel)⟩
theorem lw_p77 : lw_okq (⟨"LevelRingsModel", "laysFall", "(I)V"⟩, 35) := ⟨⟨by decide +kernel, by decide +kernel⟩, List.mem_of_getElem? (i := 859) (by decide +kernel), List.mem_of_getElem? (i := 1261) (by decide +kernel), List.mem_of_getElem? (i := 1262) (by decide +kernel)⟩
theorem lw_p78 : lw_okq (⟨"LevelRingsModel", "laysBlunder", "()I"⟩, 35) := ⟨⟨by decide +kernel, by decide +kernel⟩, List.mem_of_getElem? (i := 859) (by decide +kernel), List.mem_of_getElem? (i := 1269) (by decide +kernel), List.mem_of_getElem? (i := 1270) (by decide +kernel)⟩
theorem lw_p79 : lw_okq (⟨"LevelRingsModel", "becomes", "(IIZ)I"⟩, 35) := ⟨⟨by decide +kernel, by decide +kernel⟩, List.mem_of_getElem? (i := 859) (by decide +kernel), List.mem_of_getElem? (i := 1280) (by decide +kernel), List.mem_of_getElem? (i := 1281) (by decide +kernel)⟩
def lw_privs_5 : List (MethodName × Nat) := [(⟨"LevelRingsModel", "tells", "(JJ)V"⟩, 35), (⟨"LevelRingsModel", "said", "(I)J"⟩, 35), (⟨"LevelRingsModel", "isLine", "(I)Z"⟩, 35), (⟨"LevelRingsModel", "offOf", "(I)J"⟩, 35), (⟨"LevelRingsModel", "heldBy", "(I)J"⟩, 35), (⟨"LevelRingsModel", "tree", "()I"⟩, 35), (⟨"LevelRingsModel", "areTied", "(III)Z"⟩, 35), (⟨"LevelRingsModel", "isClosed", "(I)Z"⟩, 35), (⟨"LevelRingsModel", "laysAlong", "()V"⟩, 35), (⟨"LevelRingsModel", "closing", "(I)I"⟩, 35), (⟨"LevelRingsModel", "doubtOf", "(II)J"⟩, 35), (⟨"LevelRingsModel", "isBridge", "(I)Z"⟩, 35), (⟨"LevelRingsModel", "laysWanted", "(I)V"⟩, 35), (⟨"LevelRingsModel", "laysFall", "(I)V"⟩, 35), (⟨"LevelRingsModel", "laysBlunder", "()I"⟩, 35), (⟨"LevelRingsModel", "becomes", "(IIZ)I"⟩, 35)]
theorem lw_r5 : ∀ q ∈ lw_privs_5, lw_okq q := List.forall_mem_cons.mpr ⟨lw_p64, List.forall_mem_cons.mpr ⟨lw_p65, List.forall_mem_cons.mpr ⟨lw_p66, List.forall_mem_cons.mpr ⟨lw_p67, List.forall_mem_cons.mpr ⟨lw_p68, List.forall_mem_cons.mpr ⟨lw_p69, List.forall_mem_cons.mpr ⟨lw_p70, List.forall_mem_cons.mpr ⟨lw_p71, List.forall_mem_cons.mpr ⟨lw_p72, List.forall_mem_cons.mpr ⟨lw_p73, List.forall_mem_cons.mpr ⟨lw_p74, List.forall_mem_cons.mpr ⟨lw_p75, List.forall_mem_cons.mpr ⟨lw_p76, List.forall_mem_cons.mpr ⟨lw_p77, List.forall_mem_cons.mpr ⟨lw_p78, List.forall_mem_cons.mpr ⟨lw_p79, fun _ h => absurd h List.not_mem_nil⟩⟩⟩⟩⟩⟩⟩⟩⟩⟩⟩⟩⟩⟩⟩⟩
theorem lw_p80 : lw_okq (⟨"LevelRingsModel", "snap", "()V"⟩, 35) := ⟨⟨by decide +kernel, by decide +kernel⟩, List.mem_of_getElem? (i := 859) (by decide +kernel), List.mem_of_getElem? (i := 1284) (by decide +kernel), List.mem_of_getElem? (i := 1285) (by decide +kernel)⟩
theorem lw_p81 : lw_okq (⟨"LevelRingsModel", "stay", "()V"⟩, 35) := ⟨⟨by decide +kernel, by decide +kernel⟩, List.mem_of_getElem? (i := 859) (by decide +kernel), List.mem_of_getElem? (i := 1316) (by decide +kernel), List.mem_of_getElem? (i := 1317) (by decide +kernel)⟩
theorem lw_p82 : lw_okq (⟨"LevelRingsModel", "slips", "()Z"⟩, 35) := ⟨⟨by decide +kernel, by decide +kernel⟩, List.mem_of_getElem? (i := 859) (by decide +kernel), List.mem_of_getElem? (i := 1324) (by decide +kernel), List.mem_of_getElem? (i := 1325) (by decide +kernel)⟩
theorem lw_p83 : lw_okq (⟨"LevelRingsModel", "draw", "(I)I"⟩, 35) := ⟨⟨by decide +kernel, by decide +kernel⟩, List.mem_of_getElem? (i := 859) (by decide +kernel), List.mem_of_getElem? (i := 1328) (by decide +kernel), List.mem_of_getElem? (i := 1329) (by decide +kernel)⟩
def lw_privs_6 : List (MethodName × Nat) := [(⟨"LevelRingsModel", "snap", "()V"⟩, 35), (⟨"LevelRingsModel", "stay", "()V"⟩, 35), (⟨"LevelRingsModel", "slips", "()Z"⟩, 35), (⟨"LevelRingsModel", "draw", "(I)I"⟩, 35)]
theorem lw_r6 : ∀ q ∈ lw_privs_6, lw_okq q := List.forall_mem_cons.mpr ⟨lw_p80, List.forall_mem_cons.mpr ⟨lw_p81, List.forall_mem_cons.mpr ⟨lw_p82, List.forall_mem_cons.mpr ⟨lw_p83, fun _ h => absurd h List.not_mem_nil⟩⟩⟩⟩
def lw_privs : List (MethodName × Nat) := lw_privs_1 ++ (lw_privs_2 ++ (lw_privs_3 ++ (lw_privs_4 ++ (lw_privs_5 ++ (lw_privs_6)))))
def lw_tbl : List Cond := k2_sels lw_privs ++ tables_1
theorem lw_privs_ok : ∀ q ∈ lw_privs, lw_okq q := by
  show ∀ q ∈ lw_privs_1 ++ (lw_privs_2 ++ (lw_privs_3 ++ (lw_privs_4 ++ (lw_privs_5 ++ (lw_privs_6))))), lw_okq q
  exact List.forall_mem_append.mpr ⟨lw_r1, List.forall_mem_append.mpr ⟨lw_r2, List.forall_mem_append.mpr ⟨lw_r3, List.forall_mem_append.mpr ⟨lw_r4, List.forall_mem_append.mpr ⟨lw_r5, lw_r6⟩⟩⟩⟩⟩
end
section
/-! ===== BEGIN words of one list among another's, by their places ===== -/
theorem goodIn_r {big : List Cond} (ws : List Cond) (ps : List Nat) (hp : ws = ps.filterMap (fun i => big[i]?)) (h : ws.all goodWord = true) : GoodIn big ws := by
  intro w hw
  have h1 := List.all_eq_true.mp h w hw
  rw [hp] at hw
  obtain ⟨i, -, hi⟩ := List.mem_filterMap.mp hw
  have hm : w ∈ big := by first | exact List.mem_of_getElem? hi | exact List.getElem?_mem hi
  exact ⟨hm, good_of_word h1⟩
theorem goodIn_app {big a b : List Cond} (ha : GoodIn big a) (hb : GoodIn big b) : GoodIn big (a ++ b) := fun w h => (List.mem_append.mp h).elim (ha w) (hb w)
theorem goodIn_ca {big a b : List Cond} {c : Cond} (ha : GoodIn big (c :: a)) (hb : GoodIn big b) : GoodIn big (c :: (a ++ b)) := fun w h => (List.mem_cons.mp h).elim (fun e => ha w (List.mem_cons.mpr (Or.inl e))) (fun h => (List.mem_append.mp h).elim (fun h => ha w (List.mem_cons.mpr (Or.inr h))) (hb w))
theorem goodIn_sub {big ws : List Cond} (hm : ∀ w ∈ ws, w ∈ big) (h : ws.all goodWord = true) : GoodIn big ws := fun w hw => ⟨hm w hw, good_of_word (List.all_eq_true.mp h w hw)⟩
/-! ===== END ===== -/

/-! ===== BEGIN new T[n][m]: the outer array a place, the inner ones among the pooled ===== -/
/-- f, but v at every address of l -/
def vr_up {α : Type} (f : Nat → α) (l : List Nat) (v : α) : Nat → α := fun a => if a ∈ l then v else f a
theorem vr_up_in {α : Type} {f : Nat → α} {l : List Nat} {v : α} {a : Nat} (h : a ∈ l) : vr_up f l v a = v := if_pos h
theorem vr_up_ne {α : Type} {f : Nat → α} {l : List Nat} {v : α} {a : Nat} (h : a ∉ l) : vr_up f l v a = f a := if_neg h
theorem vr_rows {L l : List Nat} {f : Nat → va_E} {e : va_E} (h : ∀ a, a ∈ l → a ∉ L) : va_pl L f ++ l.map (fun a => (a, e)) = va_pl (L ++ l) (vr_up f l e) := by
  unfold va_pl
  rw [List.map_append]
  congr 1
  · apply List.map_congr_left
    intro a ha
    rw [vr_up_ne (fun q => h a q ha)]
  · apply List.map_congr_left
    intro a ha
    rw [vr_up_in ha]
theorem vr_lay {X rows : va_W} {x : Nat × va_E} {pl : va_W} {D : va_G} {cl : List vw_C} {H : Heap} (hP : va_P D cl (((X ++ pl) ++ [x]) ++ rows) H) : va_P D cl ((X ++ [x]) ++ (pl ++ rows)) H := by
  rw [List.append_assoc (X ++ pl)] at hP
  have h := va_P.swap hP
  rw [← List.append_assoc X] at h
  have h2 := va_P.swap h
  rw [List.append_assoc (X ++ [x])] at h2
  exact h2
theorem vr_layD {X rows : va_W} {x : Nat × va_E} {pl : va_W} {A : Nat → Prop} (hD : va_D A (((X ++ pl) ++ [x]) ++ rows)) : va_D A ((X ++ [x]) ++ (pl ++ rows)) := by
  rw [List.append_assoc (X ++ pl)] at hD
  have h := va_D.swap hD
  rw [← List.append_assoc X] at h
  have h2 := va_D.swap h
  rw [List.append_assoc (X ++ [x])] at h2
  exact h2
theorem vr_outer (c : ClassId) (N h0 : Nat) : ∀ i : Nat, Jvm.Free.Multi.outerC c N h0 i = arrV c N (fun j => va_rf (if j < i then some (h0 + 1 + j) else none))
  | 0 => by
    show ({ cls := c, slots := Array.replicate N .null, vm := .none } : Cell) = _
    rw [arrV_new]
    refine congrArg (arrV c N) (funext fun j => ?_)
    simp [va_rf]
  | i + 1 => by
    show (Jvm.Free.Multi.outerC c N h0 i).setSlot i (.ref (h0 + 1 + i)) = _
    rw [vr_outer c N h0 i, arrV_store]
    refine congrArg (arrV c N) (funext fun j => ?_)
    by_cases e : j = i
    · subst e
      simp [updV, va_rf]
    · by_cases h : j < i
      · simp [updV, e, h, Nat.lt_succ_of_lt h]
      · simp [updV, e, h, show ¬ j < i + 1 by omega]
/-- what the tables say of an array of arrays (own row: the printed text names it and nothing lays it) -/
def va_AOA (ty : FieldType) (U : State) : Prop := (Cond.arrayOver (.array ty)).before #[] U = true
theorem va_AOA.use {ty : FieldType} {A : Array Value} {U : State} (h : va_AOA ty U) : (Cond.arrayOver (.array ty)).before A U = true := h
section VGM
variable {p : Program} {l : Launch} {e : Env} {R : Room} {s : State} {m : MethodId} {args : Array Value} {below : List Frame} {meth : Method} {c : Code} {H : Heap} {locs : List Loc} {cells slots : Nat} {Q : State → Prop}
variable {cc : ByteArray} {pc : Nat} {ls : Array Slot} {rest : List Value} {D : va_G} {cl : List vw_C} {A : Nat → Prop} {a : Nat} {tys : List (ClassId × FieldType)} {ws : va_W} {H0 : Heap}
theorem va_mna {X : va_W} {L : List Nat} {f : Nat → va_E} {cc : ByteArray} (hexec : p.tables.exec = Jvm.exec) (hb : c.code = cc) {own : String} {index : Nat} {ty : FieldType} {cy : ClassId} (hown : s.vm.findClass own = some m.cls) (hclink : (Cond.classLink own index ("[" ++ (FieldType.array ty).toString)).before args s = true) (hover : va_AOA ty s) (harr : (Cond.arrayClass ty).before args s = true) (hcy : s.vm.findClass (FieldType.array ty).toString = some cy)
    (hK : va_K D cl tys s) (hP : va_P D cl (X ++ va_pl L f) H) (hD : va_D A (X ++ va_pl L f)) (hS : va_S A H0 H locs) (hA : ∀ q, H0.size ≤ q → A q) {n k : Int32} {N' K' : Nat} {z : vp_A} (hn : ¬ n < 0) (hk : ¬ k < 0) (hN : n.toNatClampNeg = N') (hM : k.toNatClampNeg = K')
    (hb1 : N' * 4 ≤ 536870912) (hb2 : K' * componentBytes ty ≤ 536870912) (hb3 : K' ≤ 536870912) (hdf : fits ty (defaultValue ty) = true) (hdd : (defaultValue ty).isDefault = true) (hcells : cells + (1 + N') ≤ R.cells) (hslots : slots + (N' + N' * K') ≤ R.slots) (hz : ∀ c : ClassId, Jvm.Free.Multi.innerC c K' (defaultValue ty) = vp_cell c z) (hdg : decode cc pc = .ok (.multianewarray index 2, 4))
    (kk : ∀ (q : Nat) (r : Nat → Nat) (cA : ClassId) (H1 : Heap), (∀ i j : Nat, i < N' → j < N' → r i = r j → i = j) → (∀ i : Nat, i < N' → r i ∉ L) → va_K D cl (tys ++ [(cA, .array ty)]) s →
      va_P D cl ((X ++ [(q, .inl (cA, N', .inr (.inr (.inr (.inr (fun i => if i < N' then some (r i) else none))))))]) ++ va_pl (L ++ (List.range N').map r) (vr_up f ((List.range N').map r) (.inl (cy, z)))) H1 → va_D A ((X ++ [(q, .inl (cA, N', .inr (.inr (.inr (.inr (fun i => if i < N' then some (r i) else none))))))]) ++ va_pl (L ++ (List.range N').map r) (vr_up f ((List.range N').map r) (.inl (cy, z)))) → va_S A H0 H1 locs →
      W p l e R s m args below meth c H1 locs (cells + 1 + N') (slots + N' + N' * K') Q (F0 m (pc + 4) ls (.ref q :: rest))) : W p l e R s m args below meth c H locs cells slots Q (F0 m pc ls (.int k :: .int n :: rest)) := by
  subst hN
  subst hM
  intro T hT Xs
  obtain ⟨vm₁, cA, comp, -, fA, fC, hO, -, X', step⟩ := Xs.multianewarray2F hexec hown hclink (va_AOA.use hover) harr (g := F0 m pc ls (.int k :: .int n :: rest)) rfl (by rw [hb]; exact hdg) rfl hn hk hb1 hb2 hb3 hdf hdd hcells hslots
  have ec : some cy = some comp := hcy.symm.trans fC
  cases ec
  generalize hF : Jvm.Free.Multi.fill (T.setVm vm₁) cA cy n.toNatClampNeg k.toNatClampNeg (defaultValue ty) n.toNatClampNeg = F at X' step
  have hTh : (T.setVm vm₁).heap = H := hT
  obtain ⟨f1, f2, -, -⟩ := Jvm.Free.Multi.fill_facts (T.setVm vm₁) cA cy n.toNatClampNeg k.toNatClampNeg (defaultValue ty) n.toNatClampNeg
  rw [hF, hTh] at f1 f2
  have hold : ∀ x : Nat, x < H.size → F.heap[x]? = H[x]? := fun x hx => by
    have := Jvm.Free.Multi.fill_old (T.setVm vm₁) cA cy n.toNatClampNeg k.toNatClampNeg (defaultValue ty) (a := x) (by rw [hTh]; exact hx) n.toNatClampNeg
    rw [hF, hTh] at this
    exact this
  have hrow : ∀ j : Nat, j < n.toNatClampNeg → F.heap[H.size + 1 + j]? = some (vp_cell cy z) := fun j hj => by
    have := Jvm.Free.Multi.fill_inner (T.setVm vm₁) cA cy n.toNatClampNeg k.toNatClampNeg (defaultValue ty) n.toNatClampNeg j hj
    rw [hF, hTh, hz] at this
    exact this
  have hout : Jvm.Free.Multi.outerC cA n.toNatClampNeg H.size n.toNatClampNeg = vp_cell cA (n.toNatClampNeg, .inr (.inr (.inr (.inr (fun i => if i < n.toNatClampNeg then some (H.size + 1 + i) else none))))) := by
    rw [vp_cell_q]
    exact vr_outer cA n.toNatClampNeg H.size n.toNatClampNeg
  rw [hout] at f2
  have hlt : ∀ a, a ∈ L → a < H.size := fun a ha => by
    obtain ⟨k9, hk9⟩ := va_pl_get (X := X) (f := f) ha
    exact (hP k9 _ hk9).lt
  have hnl : ∀ i : Nat, i < n.toNatClampNeg → H.size + 1 + i ∉ L := fun i _ h => by
    have := hlt _ h
    omega
  have hnm : ∀ a, a ∈ (List.range n.toNatClampNeg).map (fun i => H.size + 1 + i) → a ∉ L := fun a ha h => by
    obtain ⟨i, -, rfl⟩ := List.mem_map.mp ha
    have := hlt _ h
    omega
  have hP0 : va_P D cl (X ++ va_pl L f) F.heap := hP.kept (fun k9 x hx => hold x.1 ((hP k9 x hx).lt))
  have hP1 : va_P D cl ((X ++ va_pl L f) ++ [(H.size, .inl (cA, n.toNatClampNeg, .inr (.inr (.inr (.inr (fun i => if i < n.toNatClampNeg then some (H.size + 1 + i) else none))))))]) F.heap := hP0.app (fun k9 x hx => by
    have h0 : k9 < 1 := (List.getElem?_eq_some_iff.mp hx).1
    rw [show k9 = 0 by omega] at hx
    cases hx
    exact f2)
  have hP2 : va_P D cl (((X ++ va_pl L f) ++ [(H.size, .inl (cA, n.toNatClampNeg, .inr (.inr (.inr (.inr (fun i => if i < n.toNatClampNeg then some (H.size + 1 + i) else none))))))]) ++ ((List.range n.toNatClampNeg).map (fun i => H.size + 1 + i)).map (fun a => (a, .inl (cy, z)))) F.heap := hP1.app (fun k9 x hx => by
    obtain ⟨a, ha, rfl⟩ := List.mem_map.mp (List.mem_of_getElem? hx)
    obtain ⟨i, hi, rfl⟩ := List.mem_map.mp ha
    exact hrow i (List.mem_range.mp hi))
  have hD2 : va_D A (((X ++ va_pl L f) ++ [(H.size, .inl (cA, n.toNatClampNeg, .inr (.inr (.inr (.inr (fun i => if i < n.toNatClampNeg then some (H.size + 1 + i) else none))))))]) ++ ((List.range n.toNatClampNeg).map (fun i => H.size + 1 + i)).map (fun a => (a, .inl (cy, z)))) := by
    have hD1 := hD.push (e := .inl (cA, n.toNatClampNeg, .inr (.inr (.inr (.inr (fun i => if i < n.toNatClampNeg then some (H.size + 1 + i) else none)))))) hP rfl (hA _ hS.1)
    generalize hW1 : (X ++ va_pl L f) ++ [(H.size, .inl (cA, n.toNatClampNeg, .inr (.inr (.inr (.inr (fun i => if i < n.toNatClampNeg then some (H.size + 1 + i) else none))))))] = W1 at hD1 hP1 ⊢
    have hle : ∀ (k9 : Nat) (x : Nat × va_E), W1[k9]? = some x → x.1 ≤ H.size := fun k9 x hx => by
      rw [← hW1] at hx
      by_cases hl : k9 < (X ++ va_pl L f).length
      · rw [List.getElem?_append_left hl] at hx
        exact Nat.le_of_lt ((hP k9 x hx).lt)
      · rw [List.getElem?_append_right (by omega)] at hx
        have h0 : k9 - (X ++ va_pl L f).length < 1 := (List.getElem?_eq_some_iff.mp hx).1
        rw [show k9 - (X ++ va_pl L f).length = 0 by omega] at hx
        cases hx
        exact Nat.le_refl _
    have hr : ∀ (k9 : Nat) (x : Nat × va_E), (((List.range n.toNatClampNeg).map (fun i => H.size + 1 + i)).map (fun a => ((a, .inl (cy, z)) : Nat × va_E)))[k9]? = some x → x.1 = H.size + 1 + k9 := fun k9 x hx => by
      rw [List.getElem?_map, List.getElem?_map] at hx
      by_cases h9 : k9 < n.toNatClampNeg
      · rw [List.getElem?_range h9] at hx
        cases hx
        rfl
      · have hn0 : (List.range n.toNatClampNeg)[k9]? = none := List.getElem?_eq_none (by rw [List.length_range]; omega)
        rw [hn0] at hx
        cases hx
    refine ⟨fun i j x y hi hj hxy => ?_, fun k9 x hx => ?_⟩
    · by_cases h1 : i < W1.length <;> by_cases h2 : j < W1.length
      · rw [List.getElem?_append_left h1] at hi
        rw [List.getElem?_append_left h2] at hj
        exact hD1.1 i j x y hi hj hxy
      · rw [List.getElem?_append_left h1] at hi
        rw [List.getElem?_append_right (by omega)] at hj
        have := hle _ _ hi
        have := hr _ _ hj
        omega
      · rw [List.getElem?_append_right (by omega)] at hi
        rw [List.getElem?_append_left h2] at hj
        have := hle _ _ hj
        have := hr _ _ hi
        omega
      · rw [List.getElem?_append_right (by omega)] at hi hj
        have := hr _ _ hi
        have := hr _ _ hj
        omega
    · by_cases h1 : k9 < W1.length
      · rw [List.getElem?_append_left h1] at hx
        exact hD1.2 k9 x hx
      · rw [List.getElem?_append_right (by omega)] at hx
        have := hr _ _ hx
        exact hA _ (by have := hS.1; omega)
  have hAr : ArrOfT s cA (.array ty) := fun N9 z9 => by
    obtain ⟨-, k9, hk9, cm9, hkk9⟩ := (hO 0 0 0).1
    exact ⟨(fun q hq => by cases hq), k9, hk9, cm9, hkk9⟩
  have hK2 : va_K D cl (tys ++ [(cA, .array ty)]) s := ⟨hK.1, fun k9 x hx => by
    by_cases hl : k9 < tys.length
    · rw [List.getElem?_append_left hl] at hx
      exact hK.2 k9 x hx
    · rw [List.getElem?_append_right (by omega)] at hx
      have h0 : k9 - tys.length < 1 := (List.getElem?_eq_some_iff.mp hx).1
      rw [show k9 - tys.length = 0 by omega] at hx
      cases hx
      exact ⟨hAr, fA⟩⟩
  obtain ⟨t, a1, b1⟩ := kk H.size (fun i => H.size + 1 + i) cA F.heap (fun i j _ _ h => by have h9 : H.size + 1 + i = H.size + 1 + j := h; omega) hnl hK2 (by rw [← vr_rows hnm]; exact vr_lay hP2) (by rw [← vr_rows hnm]; exact vr_layD hD2) ⟨by rw [f1]; have := hS.1; omega, fun x h1 h2 => (hold x (Nat.lt_of_lt_of_le h1 hS.1)).trans (hS.2.1 x h1 h2), hS.2.2⟩ F rfl X'
  refine ⟨t, step t ?_, b1⟩
  have e : T.heap.size = H.size := by rw [hT]
  rw [e]
  exact a1
end VGM
/-! ===== END ===== -/

/-! ===== BEGIN exceptions that leave a method, and their catching by the caller (launches without stack traces) ===== -/
section VXA
/-! The laws vx_back, vx_callV, vx_callS, vx_callSW, vx_throw0, vx_throwS follow proofs of the library, with one case more: JvmDerived/Free/Laws.lean (Back.of_free), Shelf42/LK1.lean (callV, callS), Shelf/KitTraced.lean (throwNew0V, throwNewS). -/
/-- where a method has thrown q: the class by its name, the cell, what was written, the world -/
def vx_T (XC : String → State → State → Prop) (st : State) (q : Addr) (t : State) (mc ms : Nat) (free : Addr → Prop) : Prop :=
  ∃ (E : String) (ce : Cell) (L : List Loc), XC E st t ∧ t.heap[q]? = some ce ∧ ce.vm = .none ∧ st.vm.findClass E = some ce.cls ∧ st.WarmedH t.vm ∧ st.sameButNew ({ t with vm := st.vm } : State) L mc ms ∧ ∀ z ∈ L, free z.base
def vx_Q (Qc : Array Value → State → Outcome → State → Prop) (XC : String → State → State → Prop) (mc ms : Nat) (free : Addr → Prop) : Array Value → State → Outcome → State → Prop := fun a st o t =>
  (Qc a st o t ∧ ∃ L, FrameEnd st o t L mc ms ∧ ∀ q ∈ L, free q.base) ∨ ∃ q, o = .threw q ∧ vx_T XC st q t mc ms free
/-- a callee that returns or throws -/
def vx_Met (l : Launch) (y : MethodName) (ws : List Cond) (rm : Room) (Pc : Array Value → State → Prop) (Qc : Array Value → State → Outcome → State → Prop) (XC : String → State → State → Prop) (mc ms : Nat) (free : Addr → Prop) : Prop :=
  MetFree l y (headSpec ws rm) Pc (fun _ _ _ _ _ => True) (vx_Q Qc XC mc ms free)
def vx_Post (XC : String → State → State → Prop) (mc ms : Nat) (free : Addr → Prop) : Pt → Array Value → Addr → Pt → Prop := fun A a q B =>
  ∃ (g : JFrame) (mk : MethodId) (t : State) (L : List Loc) (E : String) (ce : Cell), B.U.heap = t.heap ∧ B.U.vm = t.vm ∧ XC E (A.U.calling g mk a) t ∧ t.heap[q]? = some ce ∧ ce.vm = .none ∧ A.U.vm.findClass E = some ce.cls ∧ B.locs = A.locs ++ L ∧ (∀ z ∈ L, free z.base) ∧ B.cells = A.cells + mc ∧ B.slots = A.slots + ms
def vx_Back (l : Launch) (R : Room) (p : Program) (e : Env) (below : List Frame) (s : State) (sargs : Array Value) (y : MethodName) (len W9 : Nat)
    (Pre : Pt → Array Value → Prop) (Post : Pt → Array Value → Option Value → Pt → Prop) (PostX : Pt → Array Value → Addr → Pt → Prop) : Prop :=
  ∀ (m : MethodId) (meth : Method) (c : Code) (A : Pt) (g : JFrame) (ig : Instr) (mk : MethodId) (a : Array Value),
    Stand p l e R s m sargs below meth c A.U A.locs A.cells A.slots → g.method = m → g.locals.size = c.maxLocals → decode c.code g.pc = .ok (ig, len) →
    2 * g.monitorRoom + (g.stack.map fun v => v.category).sum ≤ W9 → A.U.methodNamed? y = some mk → Pre A a →
    (∃ (v : Option Value) (B : Pt), Stand p l e R s m sargs below meth c B.U B.locs B.cells B.slots ∧ Post A a v B ∧
      Steps p.tables e below (doInvoke e (A.U.setTop g) [] mk a).1 (B.U.setTop { g with pc := g.pc + len, stack := v.toList ++ g.stack })) ∨
    (∃ (q : Addr) (B : Pt), Stand p l e R s m sargs below meth c B.U B.locs B.cells B.slots ∧ PostX A a q B ∧
      Steps p.tables e below (doInvoke e (A.U.setTop g) [] mk a).1 ((B.U.setTop g).pushFrame (.throwing q)))
section Payer
variable {l : Launch} {R : Room} {p : Program} {e : Env} {below : List Frame} {s : State} {sargs : Array Value} {y : MethodName} {len W9 : Nat}
theorem vx_back {ws : List Cond} {rm : Room} {Pc : Array Value → State → Prop} {Qc : Array Value → State → Outcome → State → Prop} {XC : String → State → State → Prop} {mc ms : Nat} {free : Addr → Prop} {bytes : ByteArray} {maxL : Nat} {ret : Option FieldType}
    (hM : vx_Met l y ws rm Pc Qc XC mc ms free) (hblind : FrameBlind Pc) (hrc : rm.cells = mc) (hrs : rm.slots = ms)
    (hframes : rm.frames + 1 ≤ R.frames) (hlocals : W9 + (maxL + 11) + rm.locals ≤ R.locals)
    (hws : ∀ w ∈ ws, ∀ a' U, s.WarmedH U.vm → w.before a' U = true) (hcode : Cond.code y bytes maxL ret ∈ ws) (hinit : ∀ a' U, s.WarmedH U.vm → (Cond.initialized y.cls).before a' U = true) :
    vx_Back l R p e below s sargs y len W9 (PreOf R mc ms Pc) (PostOf Qc mc ms free) (vx_Post XC mc ms free) := by
  intro m meth c A g ig mk a X hg hsize hdg hW hn hp
  have h1 : (headSpec ws rm).pre.before a A.U = true := atoms_intro fun w hw => hws w hw _ _ X.warmed
  have h2 : (Cond.code y bytes maxL ret).before a A.U = true := hws _ hcode _ _ X.warmed
  have h3 : (Cond.initialized y.cls).before a A.U = true := hinit _ _ X.warmed
  have h4 : A.cells + (headSpec ws rm).room.cells ≤ R.cells := by rw [show (headSpec ws rm).room.cells = mc from hrc]; exact hp.1
  have h5 : A.slots + (headSpec ws rm).room.slots ≤ R.slots := by rw [show (headSpec ws rm).room.slots = ms from hrs]; exact hp.2.1
  have hPc : Pc a (A.U.calling g mk a) := hblind _ _ _ _ hp.2.2
  obtain ⟨U, Ls, c0, s0⟩ := A
  dsimp only [Pt.U, Pt.locs, Pt.cells, Pt.slots] at h1 h2 h3 h4 h5 X hn hPc ⊢
  obtain ⟨methY, cY, hmY, hcY, -, hlY, -, -, -, -⟩ := Cond.code_spec hn h2
  obtain ⟨kY, hkY, -⟩ := className_of_methodNamed hn
  have hinitY : kY.init = .initialized := Cond.initialized_spec (findClass_of_methodNamed hn) hkY h3
  have h : At U g.method c below := by rw [hg]; exact X.here
  have hlocals9 : W9 + (maxL + 11) + (headSpec ws rm).room.locals ≤ R.locals := hlocals
  have happ : (headSpec ws rm).appliesLoose y e.platform (U.calling g mk a) = true :=
    Spec.appliesLoose_calling (g := g) h hdg hn hkY hinitY
      (X.room_calling (g := g) (R' := (headSpec ws rm).room) hsize hmY hcY hframes (by rw [hlY]; omega) h4 h5) h1
  obtain ⟨mid, hmid⟩ := h.above
  have hfr : (U.setTop g).frames = (.java g :: mid) ++ below := by rw [State.frames_setTop' g h.top, hmid]; rfl
  obtain ⟨o, s₂, hsteps, -, hend, hq⟩ := Steps.callFree hM p X.admits X.cas X.clock (acts := []) hfr happ hPc trivial
  have hq' : vx_Q Qc XC mc ms free a (U.calling g mk a) o s₂ := hq
  rw [State.frames_setTop' g h.top] at hend
  obtain ⟨g₀, hg0⟩ := Option.isSome_iff_exists.mp h.top
  obtain ⟨r, hr⟩ := State.topJava?_eq_some.mp hg0
  have hr' : (({ U with heap := s₂.heap, slotsUsed := s₂.slotsUsed } : State).setVm s₂.vm).frames = .java g₀ :: r := hr
  rcases hq' with ⟨hqc, L, hfe, hL⟩ | ⟨q, rfl, E, ce, L, hx, hce, hcv, hcl, hW₂, hsm, hL⟩
  · obtain ⟨⟨v, rfl⟩, hW₂, e2, q2, q3, q4, q5, q6⟩ := id hfe
    have e3 : s₂ = ({ (U.calling g mk a).setFrames s₂.frames with heap := s₂.heap, slotsUsed := s₂.slotsUsed } : State).setVm s₂.vm := by
      have : s₂ = ({ s₂ with vm := (U.calling g mk a).vm } : State).setVm s₂.vm := rfl
      rw [e2] at this
      exact this
    obtain ⟨c₂, i₂, len₂, hc₂, hd₂, hf₂⟩ := hend
    have hW' : U.WarmedH s₂.vm := hW₂
    have hcc : c₂ = c := by
      have h1 : s₂.code? g.method = U.code? g.method := by
        rw [State.code?_eq, State.code?_eq, hW'.alike.method?]
      exact Option.some.inj (hc₂.symm.trans (h1.trans h.code))
    subst hcc
    have hlen : len₂ = len := by rw [hdg] at hd₂; cases hd₂; rfl
    subst hlen
    have hs₂ : s₂ = (({ U with heap := s₂.heap, slotsUsed := s₂.slotsUsed } : State).setVm s₂.vm).setTop { g with pc := g.pc + len₂, stack := v.toList ++ g.stack } := by
      refine e3.trans ?_
      rw [hf₂, State.calling_eq h.top, State.setFrames_setFrames, State.setTop_of_frames _ hr', hr]
      rfl
    have hsame : U.sameButNew ({ U with heap := s₂.heap, slotsUsed := s₂.slotsUsed } : State) L mc ms := by
      refine ⟨?_, q2, q3, q4, q5, q6⟩
      obtain ⟨t, ht, -⟩ := State.frames_cons hr
      show ({ U with heap := s₂.heap, slotsUsed := s₂.slotsUsed } : State) = { U.setFrames U.frames with heap := s₂.heap, slotsUsed := s₂.slotsUsed }
      rw [State.setFrames_self ht]
    subst hg
    refine Or.inl ⟨v, ⟨(({ U with heap := s₂.heap, slotsUsed := s₂.slotsUsed } : State).setVm s₂.vm), Ls ++ L, c0 + mc, s0 + ms⟩,
      ⟨X.admits, X.cas, X.clock, X.frames, X.room, X.hears, X.method, X.code, (X.here.setHeapUsed s₂.heap s₂.slotsUsed).setVm hW'.alike, X.tail, State.WarmedH.trans X.warmed hW', X.limits, X.bytes, X.same.trans (hsame.setVm s.vm)⟩,
      ⟨g, mk, s₂, L, rfl, rfl, hqc, rfl, hL, rfl, rfl⟩, ?_⟩
    show Steps p.tables e below _ ((({ U with heap := s₂.heap, slotsUsed := s₂.slotsUsed } : State).setVm s₂.vm).setTop { g with pc := g.pc + len₂, stack := v.toList ++ g.stack })
    rw [← hs₂]
    exact hsteps
  · obtain ⟨e2, q2, q3, q4, q5, q6⟩ := id hsm
    have e3 : s₂ = ({ (U.calling g mk a).setFrames s₂.frames with heap := s₂.heap, slotsUsed := s₂.slotsUsed } : State).setVm s₂.vm := by
      have : s₂ = ({ s₂ with vm := (U.calling g mk a).vm } : State).setVm s₂.vm := rfl
      rw [e2] at this
      exact this
    have hf₂ : s₂.frames = .throwing q :: .java g :: U.frames.tail := hend
    have hW' : U.WarmedH s₂.vm := hW₂
    have hs₂ : s₂ = ((({ U with heap := s₂.heap, slotsUsed := s₂.slotsUsed } : State).setVm s₂.vm).setTop g).pushFrame (.throwing q) := by
      refine e3.trans ?_
      rw [hf₂, State.calling_eq h.top, State.setFrames_setFrames, State.pushFrame, State.frames_setTop _ hr', State.setTop_of_frames _ hr', State.setFrames_setFrames, hr]
      rfl
    have hsame : U.sameButNew ({ U with heap := s₂.heap, slotsUsed := s₂.slotsUsed } : State) L mc ms := by
      refine ⟨?_, q2, q3, q4, q5, q6⟩
      obtain ⟨t, ht, -⟩ := State.frames_cons hr
      show ({ U with heap := s₂.heap, slotsUsed := s₂.slotsUsed } : State) = { U.setFrames U.frames with heap := s₂.heap, slotsUsed := s₂.slotsUsed }
      rw [State.setFrames_self ht]
    subst hg
    refine Or.inr ⟨q, ⟨(({ U with heap := s₂.heap, slotsUsed := s₂.slotsUsed } : State).setVm s₂.vm), Ls ++ L, c0 + mc, s0 + ms⟩,
      ⟨X.admits, X.cas, X.clock, X.frames, X.room, X.hears, X.method, X.code, (X.here.setHeapUsed s₂.heap s₂.slotsUsed).setVm hW'.alike, X.tail, State.WarmedH.trans X.warmed hW', X.limits, X.bytes, X.same.trans (hsame.setVm s.vm)⟩,
      ⟨g, mk, s₂, L, E, ce, rfl, rfl, hx, hce, hcv, hcl, rfl, hL, rfl, rfl⟩, ?_⟩
    show Steps p.tables e below _ (((({ U with heap := s₂.heap, slotsUsed := s₂.slotsUsed } : State).setVm s₂.vm).setTop g).pushFrame (.throwing q))
    rw [← hs₂]
    exact hsteps
end Payer
section Calls
variable {p : Program} {l : Launch} {e : Env} {R : Room} {s : State} {m : MethodId} {args : Array Value} {below : List Frame} {meth : Method} {c : Code} {T : State} {locs : List Loc} {cells slots : Nat}
theorem vx_callV (X : Stand p l e R s m args below meth c T locs cells slots) (hexec : p.tables.exec = Jvm.exec) {own C : String} {index : Nat} {y : MethodName} {bytes : ByteArray} {maxL : Nat} {ret : Option FieldType}
    (hown : s.vm.findClass own = some m.cls) (hlink : (Cond.methodLink own index y).before args s = true) (hinst : (Cond.instanceMethod y).before args s = true) (hsel : (Cond.selects C y y).before args s = true)
    (hcode : (Cond.code y bytes maxL ret).before args s = true) (hy : y.cls ≠ "java/lang/invoke/MethodHandle" ∧ y.cls ≠ "java/lang/invoke/VarHandle")
    {W9 : Nat} {Pre : Pt → Array Value → Prop} {Post : Pt → Array Value → Option Value → Pt → Prop} {PostX : Pt → Array Value → Addr → Pt → Prop} (hK : vx_Back l R p e below s args y 3 W9 Pre Post PostX)
    {b : Addr} {cellB : Cell} (hcell : T.heap[b]? = some cellB) (hobj : cellB.vm.isStatics = false) (hcls : s.vm.findClass C = some cellB.cls)
    {g : JFrame} (hg : g.method = m) (hsize : g.locals.size = c.maxLocals) {argsL rest : List Value} (hlen : ∀ sig, parseMethodDescriptor y.desc = some sig → argsL.length = sig.parameters.length)
    (hstack : g.stack = argsL.reverse ++ .ref b :: rest) (hW : 2 * g.monitorRoom + (rest.map fun v => v.category).sum ≤ W9) (hdg : decode c.code g.pc = .ok (.invokevirtual index, 3))
    (hpre : ∀ vm₁, s.WarmedH vm₁ → Pre ⟨T.setVm vm₁, locs, cells, slots⟩ (Value.ref b :: argsL).toArray) :
    (∃ (v : Option Value) (vm₁ : Vm) (B : Pt), s.WarmedH vm₁ ∧ Stand p l e R s m args below meth c B.U B.locs B.cells B.slots ∧ Post ⟨T.setVm vm₁, locs, cells, slots⟩ (Value.ref b :: argsL).toArray v B ∧
      ∀ target, Steps p.tables e below (B.U.setTop { g with pc := g.pc + 3, stack := v.toList ++ rest }) target → Steps p.tables e below (T.setTop g) target) ∨
    (∃ (q : Addr) (vm₁ : Vm) (B : Pt), s.WarmedH vm₁ ∧ Stand p l e R s m args below meth c B.U B.locs B.cells B.slots ∧ PostX ⟨T.setVm vm₁, locs, cells, slots⟩ (Value.ref b :: argsL).toArray q B ∧
      Steps p.tables e below (T.setTop g) ((B.U.setTop { g with stack := rest }).pushFrame (.throwing q))) := by
  obtain ⟨mk, methM, hnamed, hmethM, hstM, habM⟩ := Cond.instanceMethod_spec hinst
  obtain ⟨methM', cM, hmethM', -, -, -, -, -, -, hsigM⟩ := Cond.code_spec hnamed hcode
  cases hmethM.symm.trans hmethM'
  obtain ⟨c2, r2, m2, q1, q2, q3, q4, kP, hkP, hkPi⟩ := Cond.selects_spec hsel
  cases hcls.symm.trans q1
  cases (State.methodFound?_of_named hnamed hy).symm.trans q2
  cases hnamed.symm.trans q3
  have hselP : selectMethod e.platform s.vm cellB.cls mk = .method mk := by rw [Launch.admits_selectMethod X.admits]; exact q4
  obtain ⟨vm₁, X₁, hstep₁⟩ := X.invokevirtual hexec hown hlink hnamed hmethM hstM hkP hkPi hy (a := b) (cell := cellB) hcell
    (fun z h => by rw [h] at hobj; cases hobj) hselP hmethM habM hkP hkPi (g := g) hg (argsL := argsL) (rest := rest) (hlen _ hsigM) hstack hdg
  rcases hK m meth c ⟨T.setVm vm₁, locs, cells, slots⟩ { g with stack := rest } (.invokevirtual index) mk (Value.ref b :: argsL).toArray X₁ hg hsize hdg hW (X₁.named hnamed) (hpre vm₁ X₁.warmed) with ⟨v, B, X', hpost, hsteps⟩ | ⟨q, B, X', hpost, hsteps⟩
  · exact Or.inl ⟨v, vm₁, B, X₁.warmed, X', hpost, fun target h => hstep₁ _ fun acts => by rw [doInvoke_state]; exact hsteps.trans h⟩
  · exact Or.inr ⟨q, vm₁, B, X₁.warmed, X', hpost, hstep₁ _ fun acts => by rw [doInvoke_state]; exact hsteps⟩
theorem vx_callS (X : Stand p l e R s m args below meth c T locs cells slots) (hexec : p.tables.exec = Jvm.exec) {own : String} {index : Nat} {y : MethodName} {bytes : ByteArray} {maxL : Nat} {ret : Option FieldType}
    (hown : s.vm.findClass own = some m.cls) (hlink : (Cond.methodLink own index y).before args s = true) (hstat : (Cond.static y).before args s = true) (hinit : (Cond.initialized y.cls).before args s = true)
    (hcode : (Cond.code y bytes maxL ret).before args s = true) (hy : y.cls ≠ "java/lang/invoke/MethodHandle" ∧ y.cls ≠ "java/lang/invoke/VarHandle")
    {W9 : Nat} {Pre : Pt → Array Value → Prop} {Post : Pt → Array Value → Option Value → Pt → Prop} {PostX : Pt → Array Value → Addr → Pt → Prop} (hK : vx_Back l R p e below s args y 3 W9 Pre Post PostX)
    {g : JFrame} (hg : g.method = m) (hsize : g.locals.size = c.maxLocals) {argsL rest : List Value} (hlen : ∀ sig, parseMethodDescriptor y.desc = some sig → argsL.length = sig.parameters.length)
    (hstack : g.stack = argsL.reverse ++ rest) (hW : 2 * g.monitorRoom + (rest.map fun v => v.category).sum ≤ W9) (hdg : decode c.code g.pc = .ok (.invokestatic index, 3))
    (hpre : ∀ vm₁, s.WarmedH vm₁ → Pre ⟨T.setVm vm₁, locs, cells, slots⟩ argsL.toArray) :
    (∃ (v : Option Value) (vm₁ : Vm) (B : Pt), s.WarmedH vm₁ ∧ Stand p l e R s m args below meth c B.U B.locs B.cells B.slots ∧ Post ⟨T.setVm vm₁, locs, cells, slots⟩ argsL.toArray v B ∧
      ∀ target, Steps p.tables e below (B.U.setTop { g with pc := g.pc + 3, stack := v.toList ++ rest }) target → Steps p.tables e below (T.setTop g) target) ∨
    (∃ (q : Addr) (vm₁ : Vm) (B : Pt), s.WarmedH vm₁ ∧ Stand p l e R s m args below meth c B.U B.locs B.cells B.slots ∧ PostX ⟨T.setVm vm₁, locs, cells, slots⟩ argsL.toArray q B ∧
      Steps p.tables e below (T.setTop g) ((B.U.setTop { g with stack := rest }).pushFrame (.throwing q))) := by
  obtain ⟨mk, hnamed⟩ := Cond.code_named hcode
  obtain ⟨methM, cM, hmethM, -, -, -, -, -, -, hsigM⟩ := Cond.code_spec hnamed hcode
  have hstatic : methM.isStatic = true := Cond.static_spec hnamed hmethM hstat
  obtain ⟨kP, hkP, -⟩ := className_of_methodNamed hnamed
  have hinitP : kP.init = .initialized := Cond.initialized_spec (findClass_of_methodNamed hnamed) hkP hinit
  obtain ⟨vm₁, X₁, hstep₁⟩ := X.invokestatic hexec hown hlink hnamed hmethM hstatic hkP hinitP hy (g := g) hg (argsL := argsL) (rest := rest) (hlen _ hsigM) hstack hdg
  rcases hK m meth c ⟨T.setVm vm₁, locs, cells, slots⟩ { g with stack := rest } (.invokestatic index) mk argsL.toArray X₁ hg hsize hdg hW (X₁.named hnamed) (hpre vm₁ X₁.warmed) with ⟨v, B, X', hpost, hsteps⟩ | ⟨q, B, X', hpost, hsteps⟩
  · exact Or.inl ⟨v, vm₁, B, X₁.warmed, X', hpost, fun target h => hstep₁ _ fun acts => by rw [doInvoke_state]; exact hsteps.trans h⟩
  · exact Or.inr ⟨q, vm₁, B, X₁.warmed, X', hpost, hstep₁ _ fun acts => by rw [doInvoke_state]; exact hsteps⟩
end Calls
theorem vx_cls {s : State} {T : State} {vm₁ : Vm} {E : String} {k : ClassId} (hW : s.WarmedH vm₁) (h : (T.setVm vm₁).vm.findClass E = some k) : s.vm.findClass E = some k := by
  have h1 : vm₁.findClass E = some k := h
  rw [hW.alike.findClass] at h1
  exact h1
/-- the method's frame g, with q thrown over it -/
def vx_W (p : Program) (l : Launch) (e : Env) (R : Room) (s : State) (m : MethodId) (args : Array Value) (below : List Frame) (meth : Method) (c : Code) (H : Heap) (locs : List Loc) (cells slots : Nat) (Q : State → Prop) (g : JFrame) (q : Addr) : Prop :=
  ∀ T : State, T.heap = H → Stand p l e R s m args below meth c T locs cells slots → ∃ t, Steps p.tables e below ((T.setTop g).pushFrame (.throwing q)) t ∧ Q t
def vx_Run (p : Program) (l : Launch) (e : Env) (R : Room) (s : State) (m : MethodId) (args : Array Value) (below : List Frame) (meth : Method) (c : Code) (H : Heap) (locs : List Loc) (cells slots mc ms : Nat) (g : JFrame) (rest : List Value) (Qa : State → Outcome → State → Prop) (XC : String → State → State → Prop) (free : Addr → Prop) : Prop :=
  ∀ T : State, T.heap = H → Stand p l e R s m args below meth c T locs cells slots →
    (∃ (v : Option Value) (st₀ t T' : State) (L : List Loc), st₀.heap = H ∧ Stand p l e R s m args below meth c T' (locs ++ L) (cells + mc) (slots + ms) ∧ (∀ q ∈ L, free q.base) ∧ T'.heap = t.heap ∧ T'.vm = t.vm ∧ Qa st₀ (.returned v) t ∧
      Goes p e below T g T' { g with pc := g.pc + 3, stack := v.toList ++ rest }) ∨
    (∃ (q : Addr) (st₀ t T' : State) (L : List Loc) (E : String) (ce : Cell), st₀.heap = H ∧ Stand p l e R s m args below meth c T' (locs ++ L) (cells + mc) (slots + ms) ∧ (∀ z ∈ L, free z.base) ∧ T'.heap = t.heap ∧ T'.vm = t.vm ∧ XC E st₀ t ∧ t.heap[q]? = some ce ∧ ce.vm = .none ∧ s.vm.findClass E = some ce.cls ∧
      Steps p.tables e below (T.setTop g) ((T'.setTop { g with stack := rest }).pushFrame (.throwing q)))
def vx_X {S : Type} (px : S → Prop) (B : String → S → State → Prop) (A : Nat → Prop) : String → State → State → Prop := fun E st t => ∃ u : S, px u ∧ B E u t ∧ va_F A st t
section Runs
variable {p : Program} {l : Launch} {e : Env} {R : Room} {s : State} {m : MethodId} {args : Array Value} {below : List Frame} {meth : Method} {c : Code} {H : Heap} {locs : List Loc} {cells slots : Nat}
variable {y : MethodName} {bytes cc : ByteArray} {maxL nL mc ms n index : Nat} {ret : Option FieldType} {ws : List Cond} {rm : Room} {Pc : Array Value → State → Prop} {Qc : Array Value → State → Outcome → State → Prop} {XC : String → State → State → Prop} {free : Addr → Prop} {Ts : List Cond} {own C : String} {b : Addr} {As rest : List Value} {g : JFrame}
theorem vx_callBack (cb : CallB R s args own index y bytes maxL ret ws rm mc ms n) (hM : vx_Met l y ws rm Pc Qc XC mc ms free) (hbl : FrameBlind Pc) : vx_Back l R p e below s args y 3 8 (PreOf R mc ms Pc) (PostOf Qc mc ms free) (vx_Post XC mc ms free) := by
  obtain ⟨hrc, hrs, hfr, hlo, hws, hcw, -, hini, -⟩ := cb
  exact vx_back (bytes := bytes) (maxL := maxL) (ret := ret) hM hbl hrc hrs hfr hlo hws hcw (fun a' U hW => word_at hW (Or.inl (by first | rfl | simp [Cond.onTables, Cond.keeps, Cond.steady])) hini)
theorem vx_runV (S : CallFix p m c cc nL s args Ts own) (hM : vx_Met l y ws rm Pc Qc XC mc ms free) (cw : CallW R s args own C index y bytes maxL ret ws rm mc ms n) (hp : PreV s H C b Pc As)
    (hg : g.method = m) (hn : As.length = n) (hsize : g.locals.size = nL) (hstack : g.stack = As.reverse ++ .ref b :: rest) (hW : 2 * g.monitorRoom + (rest.map fun v => v.category).sum ≤ 8) (hdg : decode cc g.pc = .ok (.invokevirtual index, 3)) (hf : cells + mc ≤ R.cells ∧ slots + ms ≤ R.slots) :
    vx_Run p l e R s m args below meth c H locs cells slots mc ms g rest (Qc (Value.ref b :: As).toArray) XC free := by
  have hK : vx_Back l R p e below s args y 3 8 (PreOf R mc ms Pc) (PostOf Qc mc ms free) (vx_Post XC mc ms free) := vx_callBack cw.1 hM hp.1
  obtain ⟨⟨-, -, -, -, -, -, hcode, -, hy, hlen, hl⟩, hin, hse⟩ := cw
  obtain ⟨hx, hb, hml, ho, -⟩ := S
  obtain ⟨-, ⟨cellB, hcB, hoB, hclB⟩, hPc⟩ := hp
  intro T hT X
  rcases vx_callV X hx (C := C) (bytes := bytes) (maxL := maxL) (ret := ret) ho hl hin hse hcode hy hK (by rw [hT]; exact hcB) hoB hclB hg (hsize.trans hml.symm) (argsL := As) (rest := rest) (fun sig h => hn.trans (hlen sig h)) hstack hW (by rw [hb]; exact hdg)
    (fun vm₁ hW₁ => ⟨hf.1, hf.2, hPc (T.setVm vm₁) hT hW₁⟩) with ⟨v, vm₁, ⟨U', l2, c2, s2⟩, hW₁, X', ⟨g', mk, t, L, e1, e2, hq, h1, hL, h2, h3⟩, st⟩ | ⟨q, vm₁, ⟨U', l2, c2, s2⟩, hW₁, X', ⟨g', mk, t, L, E, ce, e1, e2, hq, hce, hcv, hcl, h1, hL, h2, h3⟩, st⟩
  · dsimp only [Pt.U, Pt.locs, Pt.cells, Pt.slots] at X' e1 e2 h1 h2 h3 st
    subst h1; subst h2; subst h3
    exact Or.inl ⟨v, (T.setVm vm₁).calling g' mk (Value.ref b :: As).toArray, t, U', L, hT, X', hL, e1, e2, hq, st⟩
  · dsimp only [Pt.U, Pt.locs, Pt.cells, Pt.slots] at X' e1 e2 h1 h2 h3 st hcl
    subst h1; subst h2; subst h3
    exact Or.inr ⟨q, (T.setVm vm₁).calling g' mk (Value.ref b :: As).toArray, t, U', L, E, ce, hT, X', hL, e1, e2, hq, hce, hcv, vx_cls hW₁ hcl, st⟩
theorem vx_runS (S : CallFix p m c cc nL s args Ts own) (hM : vx_Met l y ws rm Pc Qc XC mc ms free) (cw : CallB R s args own index y bytes maxL ret ws rm mc ms n ∧ (Cond.static y).before args s = true) (hp : PreS s H Pc As)
    (hg : g.method = m) (hn : As.length = n) (hsize : g.locals.size = nL) (hstack : g.stack = As.reverse ++ rest) (hW : 2 * g.monitorRoom + (rest.map fun v => v.category).sum ≤ 8) (hdg : decode cc g.pc = .ok (.invokestatic index, 3)) (hf : cells + mc ≤ R.cells ∧ slots + ms ≤ R.slots) :
    vx_Run p l e R s m args below meth c H locs cells slots mc ms g rest (Qc As.toArray) XC free := by
  have hK : vx_Back l R p e below s args y 3 8 (PreOf R mc ms Pc) (PostOf Qc mc ms free) (vx_Post XC mc ms free) := vx_callBack cw.1 hM hp.1
  obtain ⟨⟨-, -, -, -, -, -, hcode, hini, hy, hlen, hl⟩, hstt⟩ := cw
  obtain ⟨hx, hb, hml, ho, -⟩ := S
  intro T hT X
  rcases vx_callS X hx (bytes := bytes) (maxL := maxL) (ret := ret) ho hl hstt hini hcode hy hK hg (hsize.trans hml.symm) (argsL := As) (rest := rest) (fun sig h => hn.trans (hlen sig h)) hstack hW (by rw [hb]; exact hdg)
    (fun vm₁ hW₁ => ⟨hf.1, hf.2, hp.2 (T.setVm vm₁) hT hW₁⟩) with ⟨v, vm₁, ⟨U', l2, c2, s2⟩, hW₁, X', ⟨g', mk, t, L, e1, e2, hq, h1, hL, h2, h3⟩, st⟩ | ⟨q, vm₁, ⟨U', l2, c2, s2⟩, hW₁, X', ⟨g', mk, t, L, E, ce, e1, e2, hq, hce, hcv, hcl, h1, hL, h2, h3⟩, st⟩
  · dsimp only [Pt.U, Pt.locs, Pt.cells, Pt.slots] at X' e1 e2 h1 h2 h3 st
    subst h1; subst h2; subst h3
    exact Or.inl ⟨v, (T.setVm vm₁).calling g' mk As.toArray, t, U', L, hT, X', hL, e1, e2, hq, st⟩
  · dsimp only [Pt.U, Pt.locs, Pt.cells, Pt.slots] at X' e1 e2 h1 h2 h3 st hcl
    subst h1; subst h2; subst h3
    exact Or.inr ⟨q, (T.setVm vm₁).calling g' mk As.toArray, t, U', L, E, ce, hT, X', hL, e1, e2, hq, hce, hcv, vx_cls hW₁ hcl, st⟩
end Runs
section Rows
variable {p : Program} {l : Launch} {e : Env} {R : Room} {s : State} {m : MethodId} {args : Array Value} {below : List Frame} {meth : Method} {c : Code} {H : Heap} {locs : List Loc} {cells slots : Nat} {Q : State → Prop}
variable {mc ms : Nat} {free : Addr → Prop} {A0 A1 : Nat → Prop} {H0 : Heap} {a : Array Value} {pc : Nat} {ls : Array Slot} {st0 rest : List Value}
theorem vx_keep {st₀ t T' : State} {L : List Loc} (h0 : st₀.heap = H) (e1 : T'.heap = t.heap) (hS : va_S A0 H0 H locs) (hA : ∀ q, q < H.size → A1 q → A0 q) (hf : ∀ q, free q → A0 q) (hL : ∀ q ∈ L, free q.base) (hF : va_F A1 st₀ t) :
    H.size ≤ T'.heap.size ∧ (∀ q : Nat, q < H.size → ¬ A1 q → T'.heap[q]? = H[q]?) ∧ va_S A0 H0 T'.heap (locs ++ L) := by
  obtain ⟨hz, hk⟩ := hF
  rw [h0] at hz hk
  exact ⟨by rw [e1]; exact hz, fun q h1 h2 => by rw [e1]; exact hk q h1 h2,
    ⟨Nat.le_trans hS.1 (by rw [e1]; exact hz), fun q h1 h2 => by rw [e1, hk q (Nat.lt_of_lt_of_le h1 hS.1) (fun z => h2 (hA q (Nat.lt_of_lt_of_le h1 hS.1) z))]; exact hS.2.1 q h1 h2, fun q hq => by
      rcases List.mem_append.mp hq with h | h
      · exact hS.2.2 q h
      · exact hf _ (hL q h)⟩⟩
theorem vx_calli {S SX : Type} {post : Int32 → S → Prop} {px : SX → Prop} {B : S → State → Prop} {BX : String → SX → State → Prop} {AX : Nat → Prop} (hr : vx_Run p l e R s m args below meth c H locs cells slots mc ms (F0 m pc ls st0) rest (va_Qi post B A1 a) (vx_X px BX AX) free) (hS : va_S A0 H0 H locs) (hA : ∀ q, q < H.size → A1 q → A0 q) (hf : ∀ q, free q → A0 q) (hAX : ∀ q, q < H.size → AX q → A0 q)
    (kx : ∀ (E : String) (ce : Cell) (q9 : Addr) (u : SX) (t : State) (H1 : Heap) (locs1 : List Loc), t.heap = H1 → s.vm.Alike t.vm → px u → BX E u t → H.size ≤ H1.size → (∀ q : Nat, q < H.size → ¬ AX q → H1[q]? = H[q]?) → va_S A0 H0 H1 locs1 → H1[q9]? = some ce → ce.vm = .none → s.vm.findClass E = some ce.cls → vx_W p l e R s m args below meth c H1 locs1 (cells + mc) (slots + ms) Q (F0 m pc ls rest) q9)
    (kk : ∀ (r : Int32) (u : S) (t : State) (H1 : Heap) (locs1 : List Loc), t.heap = H1 → s.vm.Alike t.vm → post r u → B u t → H.size ≤ H1.size → (∀ q : Nat, q < H.size → ¬ A1 q → H1[q]? = H[q]?) → va_S A0 H0 H1 locs1 → W p l e R s m args below meth c H1 locs1 (cells + mc) (slots + ms) Q (F0 m (pc + 3) ls (.int r :: rest))) : W p l e R s m args below meth c H locs cells slots Q (F0 m pc ls st0) := by
  intro T hT X
  rcases hr T hT X with ⟨v, st₀, t, T', L, h0, X', hL, e1, e2, ⟨⟨r, u, hv, hp, hb⟩, hF⟩, st⟩ | ⟨q, st₀, t, T', L, E, ce, h0, X', hL, e1, e2, ⟨u, hp, hb, hF⟩, hce, hcv, hcl, st⟩
  · cases hv
    obtain ⟨k1, k2, k3⟩ := vx_keep h0 e1 hS hA hf hL hF
    obtain ⟨t2, a1, b1⟩ := kk r u t T'.heap (locs ++ L) e1.symm (by rw [← e2]; exact X'.warmed.alike) hp hb k1 k2 k3 T' rfl X'
    exact ⟨t2, st t2 a1, b1⟩
  · obtain ⟨k1, k2, k3⟩ := vx_keep h0 e1 hS hAX hf hL hF
    obtain ⟨t2, a1, b1⟩ := kx E ce q u t T'.heap (locs ++ L) e1.symm (by rw [← e2]; exact X'.warmed.alike) hp hb k1 k2 k3 (by rw [e1]; exact hce) hcv hcl T' rfl X'
    exact ⟨t2, st.trans a1, b1⟩
theorem vx_calll {S SX : Type} {post : Int64 → S → Prop} {px : SX → Prop} {B : S → State → Prop} {BX : String → SX → State → Prop} {AX : Nat → Prop} (hr : vx_Run p l e R s m args below meth c H locs cells slots mc ms (F0 m pc ls st0) rest (va_Ql post B A1 a) (vx_X px BX AX) free) (hS : va_S A0 H0 H locs) (hA : ∀ q, q < H.size → A1 q → A0 q) (hf : ∀ q, free q → A0 q) (hAX : ∀ q, q < H.size → AX q → A0 q)
    (kx : ∀ (E : String) (ce : Cell) (q9 : Addr) (u : SX) (t : State) (H1 : Heap) (locs1 : List Loc), t.heap = H1 → s.vm.Alike t.vm → px u → BX E u t → H.size ≤ H1.size → (∀ q : Nat, q < H.size → ¬ AX q → H1[q]? = H[q]?) → va_S A0 H0 H1 locs1 → H1[q9]? = some ce → ce.vm = .none → s.vm.findClass E = some ce.cls → vx_W p l e R s m args below meth c H1 locs1 (cells + mc) (slots + ms) Q (F0 m pc ls rest) q9)
    (kk : ∀ (r : Int64) (u : S) (t : State) (H1 : Heap) (locs1 : List Loc), t.heap = H1 → s.vm.Alike t.vm → post r u → B u t → H.size ≤ H1.size → (∀ q : Nat, q < H.size → ¬ A1 q → H1[q]? = H[q]?) → va_S A0 H0 H1 locs1 → W p l e R s m args below meth c H1 locs1 (cells + mc) (slots + ms) Q (F0 m (pc + 3) ls (.long r :: rest))) : W p l e R s m args below meth c H locs cells slots Q (F0 m pc ls st0) := by
  intro T hT X
  rcases hr T hT X with ⟨v, st₀, t, T', L, h0, X', hL, e1, e2, ⟨⟨r, u, hv, hp, hb⟩, hF⟩, st⟩ | ⟨q, st₀, t, T', L, E, ce, h0, X', hL, e1, e2, ⟨u, hp, hb, hF⟩, hce, hcv, hcl, st⟩
  · cases hv
    obtain ⟨k1, k2, k3⟩ := vx_keep h0 e1 hS hA hf hL hF
    obtain ⟨t2, a1, b1⟩ := kk r u t T'.heap (locs ++ L) e1.symm (by rw [← e2]; exact X'.warmed.alike) hp hb k1 k2 k3 T' rfl X'
    exact ⟨t2, st t2 a1, b1⟩
  · obtain ⟨k1, k2, k3⟩ := vx_keep h0 e1 hS hAX hf hL hF
    obtain ⟨t2, a1, b1⟩ := kx E ce q u t T'.heap (locs ++ L) e1.symm (by rw [← e2]; exact X'.warmed.alike) hp hb k1 k2 k3 (by rw [e1]; exact hce) hcv hcl T' rfl X'
    exact ⟨t2, st.trans a1, b1⟩
theorem vx_callf {S SX : Type} {post : UInt32 → S → Prop} {px : SX → Prop} {B : S → State → Prop} {BX : String → SX → State → Prop} {AX : Nat → Prop} (hr : vx_Run p l e R s m args below meth c H locs cells slots mc ms (F0 m pc ls st0) rest (va_Qf post B A1 a) (vx_X px BX AX) free) (hS : va_S A0 H0 H locs) (hA : ∀ q, q < H.size → A1 q → A0 q) (hf : ∀ q, free q → A0 q) (hAX : ∀ q, q < H.size → AX q → A0 q)
    (kx : ∀ (E : String) (ce : Cell) (q9 : Addr) (u : SX) (t : State) (H1 : Heap) (locs1 : List Loc), t.heap = H1 → s.vm.Alike t.vm → px u → BX E u t → H.size ≤ H1.size → (∀ q : Nat, q < H.size → ¬ AX q → H1[q]? = H[q]?) → va_S A0 H0 H1 locs1 → H1[q9]? = some ce → ce.vm = .none → s.vm.findClass E = some ce.cls → vx_W p l e R s m args below meth c H1 locs1 (cells + mc) (slots + ms) Q (F0 m pc ls rest) q9)
    (kk : ∀ (r : UInt32) (u : S) (t : State) (H1 : Heap) (locs1 : List Loc), t.heap = H1 → s.vm.Alike t.vm → post r u → B u t → H.size ≤ H1.size → (∀ q : Nat, q < H.size → ¬ A1 q → H1[q]? = H[q]?) → va_S A0 H0 H1 locs1 → W p l e R s m args below meth c H1 locs1 (cells + mc) (slots + ms) Q (F0 m (pc + 3) ls (.float r :: rest))) : W p l e R s m args below meth c H locs cells slots Q (F0 m pc ls st0) := by
  intro T hT X
  rcases hr T hT X with ⟨v, st₀, t, T', L, h0, X', hL, e1, e2, ⟨⟨r, u, hv, hp, hb⟩, hF⟩, st⟩ | ⟨q, st₀, t, T', L, E, ce, h0, X', hL, e1, e2, ⟨u, hp, hb, hF⟩, hce, hcv, hcl, st⟩
  · cases hv
    obtain ⟨k1, k2, k3⟩ := vx_keep h0 e1 hS hA hf hL hF
    obtain ⟨t2, a1, b1⟩ := kk r u t T'.heap (locs ++ L) e1.symm (by rw [← e2]; exact X'.warmed.alike) hp hb k1 k2 k3 T' rfl X'
    exact ⟨t2, st t2 a1, b1⟩
  · obtain ⟨k1, k2, k3⟩ := vx_keep h0 e1 hS hAX hf hL hF
    obtain ⟨t2, a1, b1⟩ := kx E ce q u t T'.heap (locs ++ L) e1.symm (by rw [← e2]; exact X'.warmed.alike) hp hb k1 k2 k3 (by rw [e1]; exact hce) hcv hcl T' rfl X'
    exact ⟨t2, st.trans a1, b1⟩
theorem vx_calld {S SX : Type} {post : UInt64 → S → Prop} {px : SX → Prop} {B : S → State → Prop} {BX : String → SX → State → Prop} {AX : Nat → Prop} (hr : vx_Run p l e R s m args below meth c H locs cells slots mc ms (F0 m pc ls st0) rest (va_Qd post B A1 a) (vx_X px BX AX) free) (hS : va_S A0 H0 H locs) (hA : ∀ q, q < H.size → A1 q → A0 q) (hf : ∀ q, free q → A0 q) (hAX : ∀ q, q < H.size → AX q → A0 q)
    (kx : ∀ (E : String) (ce : Cell) (q9 : Addr) (u : SX) (t : State) (H1 : Heap) (locs1 : List Loc), t.heap = H1 → s.vm.Alike t.vm → px u → BX E u t → H.size ≤ H1.size → (∀ q : Nat, q < H.size → ¬ AX q → H1[q]? = H[q]?) → va_S A0 H0 H1 locs1 → H1[q9]? = some ce → ce.vm = .none → s.vm.findClass E = some ce.cls → vx_W p l e R s m args below meth c H1 locs1 (cells + mc) (slots + ms) Q (F0 m pc ls rest) q9)
    (kk : ∀ (r : UInt64) (u : S) (t : State) (H1 : Heap) (locs1 : List Loc), t.heap = H1 → s.vm.Alike t.vm → post r u → B u t → H.size ≤ H1.size → (∀ q : Nat, q < H.size → ¬ A1 q → H1[q]? = H[q]?) → va_S A0 H0 H1 locs1 → W p l e R s m args below meth c H1 locs1 (cells + mc) (slots + ms) Q (F0 m (pc + 3) ls (.double r :: rest))) : W p l e R s m args below meth c H locs cells slots Q (F0 m pc ls st0) := by
  intro T hT X
  rcases hr T hT X with ⟨v, st₀, t, T', L, h0, X', hL, e1, e2, ⟨⟨r, u, hv, hp, hb⟩, hF⟩, st⟩ | ⟨q, st₀, t, T', L, E, ce, h0, X', hL, e1, e2, ⟨u, hp, hb, hF⟩, hce, hcv, hcl, st⟩
  · cases hv
    obtain ⟨k1, k2, k3⟩ := vx_keep h0 e1 hS hA hf hL hF
    obtain ⟨t2, a1, b1⟩ := kk r u t T'.heap (locs ++ L) e1.symm (by rw [← e2]; exact X'.warmed.alike) hp hb k1 k2 k3 T' rfl X'
    exact ⟨t2, st t2 a1, b1⟩
  · obtain ⟨k1, k2, k3⟩ := vx_keep h0 e1 hS hAX hf hL hF
    obtain ⟨t2, a1, b1⟩ := kx E ce q u t T'.heap (locs ++ L) e1.symm (by rw [← e2]; exact X'.warmed.alike) hp hb k1 k2 k3 (by rw [e1]; exact hce) hcv hcl T' rfl X'
    exact ⟨t2, st.trans a1, b1⟩
theorem vx_callv {S SX : Type} {post : S → Prop} {px : SX → Prop} {B : S → State → Prop} {BX : String → SX → State → Prop} {AX : Nat → Prop} (hr : vx_Run p l e R s m args below meth c H locs cells slots mc ms (F0 m pc ls st0) rest (va_Qv post B A1 a) (vx_X px BX AX) free) (hS : va_S A0 H0 H locs) (hA : ∀ q, q < H.size → A1 q → A0 q) (hf : ∀ q, free q → A0 q) (hAX : ∀ q, q < H.size → AX q → A0 q)
    (kx : ∀ (E : String) (ce : Cell) (q9 : Addr) (u : SX) (t : State) (H1 : Heap) (locs1 : List Loc), t.heap = H1 → s.vm.Alike t.vm → px u → BX E u t → H.size ≤ H1.size → (∀ q : Nat, q < H.size → ¬ AX q → H1[q]? = H[q]?) → va_S A0 H0 H1 locs1 → H1[q9]? = some ce → ce.vm = .none → s.vm.findClass E = some ce.cls → vx_W p l e R s m args below meth c H1 locs1 (cells + mc) (slots + ms) Q (F0 m pc ls rest) q9)
    (kk : ∀ (u : S) (t : State) (H1 : Heap) (locs1 : List Loc), t.heap = H1 → s.vm.Alike t.vm → post u → B u t → H.size ≤ H1.size → (∀ q : Nat, q < H.size → ¬ A1 q → H1[q]? = H[q]?) → va_S A0 H0 H1 locs1 → W p l e R s m args below meth c H1 locs1 (cells + mc) (slots + ms) Q (F0 m (pc + 3) ls (rest))) : W p l e R s m args below meth c H locs cells slots Q (F0 m pc ls st0) := by
  intro T hT X
  rcases hr T hT X with ⟨v, st₀, t, T', L, h0, X', hL, e1, e2, ⟨⟨u, hv, hp, hb⟩, hF⟩, st⟩ | ⟨q, st₀, t, T', L, E, ce, h0, X', hL, e1, e2, ⟨u, hp, hb, hF⟩, hce, hcv, hcl, st⟩
  · cases hv
    obtain ⟨k1, k2, k3⟩ := vx_keep h0 e1 hS hA hf hL hF
    obtain ⟨t2, a1, b1⟩ := kk u t T'.heap (locs ++ L) e1.symm (by rw [← e2]; exact X'.warmed.alike) hp hb k1 k2 k3 T' rfl X'
    exact ⟨t2, st t2 a1, b1⟩
  · obtain ⟨k1, k2, k3⟩ := vx_keep h0 e1 hS hAX hf hL hF
    obtain ⟨t2, a1, b1⟩ := kx E ce q u t T'.heap (locs ++ L) e1.symm (by rw [← e2]; exact X'.warmed.alike) hp hb k1 k2 k3 (by rw [e1]; exact hce) hcv hcl T' rfl X'
    exact ⟨t2, st.trans a1, b1⟩
/-- caught by the row x of this method's table; the rows ahead don't take it -/
theorem vx_catch {own name : String} {E : String} {ce : Cell} {q : Addr} (hown : s.vm.findClass own = some m.cls) (pre : List ExceptionTableEntry) (x : ExceptionTableEntry) (suf : List ExceptionTableEntry) (hsplit : c.exceptionTable.toList = pre ++ x :: suf)
    (hpass : ∀ z ∈ pre, covers z pc = false ∨ (z.catchType ≠ 0 ∧ ∃ nm : String, (Cond.classLink own z.catchType nm).before args s = true ∧ va_Nc E nm s)) (hx : covers x pc = true) (h0 : x.catchType ≠ 0)
    (hlink : (Cond.classLink own x.catchType name).before args s = true) (hcast : (Cond.castable E name).before args s = true) (hcell : H[q]? = some ce) (hv : ce.vm = .none) (hcl : s.vm.findClass E = some ce.cls)
    (kk : W p l e R s m args below meth c H locs cells slots Q (F0 m x.handlerPc ls [.ref q])) : vx_W p l e R s m args below meth c H locs cells slots Q (F0 m pc ls rest) q := by
  intro T hT X
  have hpl : e.platform.magicAccessors = ({} : Platform).magicAccessors := by rw [X.admits.platform]
  obtain ⟨c3, c4, hc3, hc4, hasg⟩ := Cond.castable_spec hcast
  cases Option.some.inj (hc3.symm.trans hcl)
  obtain ⟨c5, hc5, hcl5⟩ := Cond.classLink_spec hown hlink e.platform hpl
  cases Option.some.inj (hc4.symm.trans hc5)
  obtain ⟨vm', X', st⟩ := X.thenCaughtThrough q (g := F0 m pc ls rest) rfl (Steps.refl _) (by rw [hT]; exact hcell) (by rw [hv]; rfl) (by obtain ⟨k9, h9, -⟩ := Vm.findClass_spec hcl; exact ⟨k9, h9⟩) pre x suf hsplit
    (fun z hz => by
      rcases hpass z hz with h | ⟨hz0, nm, hl1, hn1⟩
      · exact Or.inl h
      · obtain ⟨c6, hc6, hcl6⟩ := Cond.classLink_spec hown hl1 e.platform hpl
        obtain ⟨a8, b8, h1, h2, h3⟩ := hn1
        cases Option.some.inj (h1.symm.trans hcl)
        cases Option.some.inj (h2.symm.trans hc6)
        exact Or.inr ⟨hz0, _, hcl6, h3⟩) hx (Or.inr ⟨h0, c4, hcl5, hasg⟩)
  obtain ⟨t, a1, b1⟩ := kk (T.setVm vm') hT X'
  exact ⟨t, st.trans a1, b1⟩
end Rows
section Ends
variable {p : Program} {l : Launch} {e : Env} {R : Room} {s : State} {m : MethodId} {args : Array Value} {below : List Frame} {meth : Method} {c : Code} {H : Heap} {locs : List Loc} {cells slots : Nat} {Q : State → Prop}
variable {mc ms : Nat} {free : Addr → Prop} {A0 A1 : Nat → Prop} {H0 : Heap} {a : Array Value} {ls : Array Slot} {st0 rest : List Value}
variable {Qc : Array Value → State → Outcome → State → Prop} {XC : String → State → State → Prop}
/-- what a body that may throw owes at its end -/
def vx_MQ (below : List Frame) (Qc : Array Value → State → Outcome → State → Prop) (XC : String → State → State → Prop) (a : Array Value) (s : State) (mc ms : Nat) (free : Addr → Prop) : State → Prop := fun t =>
  ∃ o, t.status = .running ∧ Ended t below o ∧ vx_Q Qc XC mc ms free a s o t
theorem vx_ret {g : JFrame} {mc ms : Nat} (k : W p l e R s m args below meth c H locs cells slots (MQ below Qc args s mc ms free) g) : W p l e R s m args below meth c H locs cells slots (vx_MQ below Qc XC args s mc ms free) g := by
  intro T hT X
  obtain ⟨t, a1, o, b1, b2, b3, b4⟩ := k T hT X
  exact ⟨t, a1, o, b1, b2, Or.inl ⟨b3, b4⟩⟩
/-- not caught here: it goes on to the caller -/
theorem vx_widen {g : JFrame} {q : Addr} {k n : Nat} (h1 : cells ≤ k) (h2 : slots ≤ n) (kk : vx_W p l e R s m args below meth c H locs k n Q g q) : vx_W p l e R s m args below meth c H locs cells slots Q g q := fun T hT X => kk T hT (stand_widen X h1 h2)
theorem vx_out {pc : Nat} {E : String} {ce : Cell} {q : Addr} {mc ms : Nat} (hout : ∀ x ∈ c.exceptionTable.toList, covers x pc = false) (hlocks : meth.locks = false) (hcell : H[q]? = some ce) (hv : ce.vm = .none) (hcl : s.vm.findClass E = some ce.cls)
    (hx : ∀ t : State, t.heap = H → s.vm.Alike t.vm → XC E s t) (hf : ∀ z ∈ locs, free z.base) (hc : cells ≤ mc) (hs : slots ≤ ms) :
    vx_W p l e R s m args below meth c H locs cells slots (vx_MQ below Qc XC args s mc ms free) (F0 m pc ls rest) q := by
  intro T hT X
  obtain ⟨st1, hrun, hend, hW, hsm⟩ := X.leaveThrown q (g := F0 m pc ls rest) rfl rfl rfl hout hlocks
  have hcell9 : (T.setFrames (.throwing q :: below)).heap[q]? = some ce := by
    show T.heap[q]? = some ce
    rw [hT]; exact hcell
  exact ⟨_, st1, .threw q, hrun, hend, Or.inr ⟨q, rfl, E, ce, locs, hx _ hT hW.alike, hcell9, hv, hcl, hW, hsm.mono hc hs, hf⟩⟩
theorem vx_frame {U : State} {k n : Nat} (h : s.sameButNew ({ U with vm := s.vm } : State) locs k n) : s.heap.size ≤ U.heap.size ∧ ∀ q : Nat, q < s.heap.size → (∀ z ∈ locs, z.base ≠ q) → U.heap[q]? = s.heap[q]? := by
  obtain ⟨-, h2, -, -, -, h6⟩ := h
  refine ⟨h2, fun q hq hz => ?_⟩
  obtain ⟨c9, e1, e2, e3, e4⟩ := h6 q _ (Array.getElem?_eq_getElem hq)
  have hs : c9.slots = (s.heap[q]).slots := Array.ext_getElem? fun i => e4 i fun hm => hz _ hm rfl
  have h9 : c9 = s.heap[q] := by
    rw [hs] at e2
    exact e2
  have e5 : U.heap[q]? = some c9 := e1
  rw [e5, h9, Array.getElem?_eq_getElem hq]
/-- the words of a throw but the four that speak of the heap -/
def vx_no (w : Cond) : Bool := decide (w ≠ .isRef (.static Bundle.tN "UNASSIGNED_STACK" Bundle.steD)) && decide (w ≠ .isRef (.static Bundle.tN "SUPPRESSED_SENTINEL" Bundle.listD)) && decide (w ≠ .laysStatic Bundle.tN "UNASSIGNED_STACK" Bundle.steD) && decide (w ≠ .laysStatic Bundle.tN "SUPPRESSED_SENTINEL" Bundle.listD)
def vx_at0 (own : String) (ic : Nat) (X : String) (names : List String) : List Cond := (Bundle.ownAtoms0 own ic X names).filter vx_no
def vx_atS (own : String) (ic : Nat) (X : String) (names : List String) : List Cond := (Bundle.ownAtoms own ic X names).filter vx_no
/-- a word that the tables alone decide, or a good one -/
def vx_ot (w : Cond) : Bool := w.onTables || goodWord w
theorem vx_ot_at {args a' : Array Value} {s U : State} {w : Cond} (hW : s.WarmedH U.vm) (hvm : s.vm = U.vm) (hg : vx_ot w = true) (h : w.before args s = true) : w.before a' U = true := by
  simp only [vx_ot, Bool.or_eq_true] at hg
  rcases hg with hg | hg
  · exact va_tabs hg hvm h
  · exact word_at hW (good_of_word hg) h
/-- a list's words: the good ones out of the method's own list, the others by premises of their own -/
theorem vx_hat {args : Array Value} {s : State} {L B : List Cond} (h1 : ∀ w ∈ L.filter goodWord, w.before args s = true) (h2 : ∀ w ∈ L.filter (fun w => !goodWord w), w ∈ B) (h3 : ∀ w ∈ B, w.before args s = true) : ∀ w ∈ L, w.before args s = true := by
  intro w hw
  by_cases g : goodWord w = true
  · exact h1 w (List.mem_filter.mpr ⟨hw, g⟩)
  · refine h3 w (h2 w (List.mem_filter.mpr ⟨hw, ?_⟩))
    show (!goodWord w) = true
    cases hgw : goodWord w
    · rfl
    · exact absurd hgw g
theorem vx_c {args : Array Value} {s : State} {w : Cond} {B : List Cond} (h : w.before args s = true) (t : ∀ w ∈ B, w.before args s = true) : ∀ w' ∈ w :: B, w'.before args s = true := fun w' h' => (List.mem_cons.mp h').elim (fun e => by rw [e]; exact h) (t w')
theorem vx_n {args : Array Value} {s : State} : ∀ w ∈ ([] : List Cond), w.before args s = true := fun _ h => nomatch h
theorem vx_own {args : Array Value} {s : State} {L : List Cond} (h1 : ∀ w ∈ L.filter vx_no, w.before args s = true)
    (hU : (Cond.isRef (.static Bundle.tN "UNASSIGNED_STACK" Bundle.steD)).before args s = true) (hN : (Cond.isRef (.static Bundle.tN "SUPPRESSED_SENTINEL" Bundle.listD)).before args s = true)
    (lU : (Cond.laysStatic Bundle.tN "UNASSIGNED_STACK" Bundle.steD).before args s = true) (lN : (Cond.laysStatic Bundle.tN "SUPPRESSED_SENTINEL" Bundle.listD).before args s = true) : ∀ w ∈ L, w.before args s = true := by
  intro w hw
  by_cases e1 : w = .isRef (.static Bundle.tN "UNASSIGNED_STACK" Bundle.steD)
  · rw [e1]; exact hU
  · by_cases e2 : w = .isRef (.static Bundle.tN "SUPPRESSED_SENTINEL" Bundle.listD)
    · rw [e2]; exact hN
    · by_cases e3 : w = .laysStatic Bundle.tN "UNASSIGNED_STACK" Bundle.steD
      · rw [e3]; exact lU
      · by_cases e4 : w = .laysStatic Bundle.tN "SUPPRESSED_SENTINEL" Bundle.listD
        · rw [e4]; exact lN
        · exact h1 w (List.mem_filter.mpr ⟨hw, by unfold vx_no; rw [decide_eq_true e1, decide_eq_true e2, decide_eq_true e3, decide_eq_true e4]; rfl⟩)
/-- where a static field lies, its class's statics cell in H -/
def vx_L (C n d : String) (A : Nat → Prop) (U : State) (H : Heap) : Prop := ∃ (c : ClassId) (k : Class) (i : Nat) (f : Field) (a : Nat) (cell : Cell), U.vm.findClass C = some c ∧ U.fieldFound? C n d = some (c, k, i, f) ∧ f.isStatic = true ∧ k.statics = some a ∧ H[a]? = some cell ∧ cell.vm.isStatics = true ∧ cell.cls = c ∧ f.slot < cell.slots.size ∧ k.staticTypes[f.slot]? = some f.type ∧ ¬ A a
theorem vx_L.moved {C n d : String} {A : Nat → Prop} {u U : State} {H : Heap} (hvm : u.vm.Alike U.vm) (h : vx_L C n d A u H) : vx_L C n d A U H := by
  obtain ⟨c, k, i, f, a, cell, h1, h2, h3, h4, h5, h6, h7, h8, h9, h10⟩ := h
  obtain ⟨k', hi', he⟩ := State.fieldFound?_setVm hvm h2
  exact ⟨c, k', i, f, a, cell, by rw [hvm.findClass]; exact h1, hi', h3, by rw [he]; exact h4, h5, h6, h7, h8, by rw [he]; exact h9, h10⟩
theorem vx_L.kept {C n d : String} {A : Nat → Prop} {U : State} {H H1 : Heap} (h : vx_L C n d A U H) (hq : ∀ a : Nat, a < H.size → ¬ A a → H1[a]? = H[a]?) : vx_L C n d A U H1 := by
  obtain ⟨c, k, i, f, a, cell, h1, h2, h3, h4, h5, h6, h7, h8, h9, h10⟩ := h
  exact ⟨c, k, i, f, a, cell, h1, h2, h3, h4, by rw [hq a (Array.getElem?_eq_some_iff.mp h5).1 h10]; exact h5, h6, h7, h8, h9, h10⟩
theorem vx_L.narrow {C n d : String} {A B : Nat → Prop} {U : State} {H : Heap} (h : vx_L C n d A U H) (hAB : ∀ q, B q → A q) : vx_L C n d B U H := by
  obtain ⟨c, k, i, f, a, cell, h1, h2, h3, h4, h5, h6, h7, h8, h9, h10⟩ := h
  exact ⟨c, k, i, f, a, cell, h1, h2, h3, h4, h5, h6, h7, h8, h9, fun z => h10 (hAB _ z)⟩
theorem vx_L.word {C n d : String} {A : Nat → Prop} {s : State} {args : Array Value} (h : vx_L C n d A s s.heap) : (Cond.laysStatic C n d).before args s = true := by
  obtain ⟨c, k, i, f, a, cell, h1, h2, h3, h4, h5, h6, h7, h8, h9, -⟩ := h
  show (Cond.laysStatic C n d).holds args s none s [] = true
  exact Cond.laysStatic_of h1 h2 h3 h4 h5 h6 h7 h8 h9
/-- .. and what it holds: null or some reference -/
def vx_Zq (C n d : String) (A : Nat → Prop) (U : State) (H : Heap) : Prop := va_Zq C n d A U H ∧ vx_L C n d A U H
theorem vx_Zq.moved {C n d : String} {A : Nat → Prop} {u U : State} {H : Heap} (hvm : u.vm.Alike U.vm) (h : vx_Zq C n d A u H) : vx_Zq C n d A U H := ⟨va_Zq.moved hvm h.1, vx_L.moved hvm h.2⟩
theorem vx_Zq.kept {C n d : String} {A : Nat → Prop} {U : State} {H H1 : Heap} (h : vx_Zq C n d A U H) (hq : ∀ a : Nat, a < H.size → ¬ A a → H1[a]? = H[a]?) : vx_Zq C n d A U H1 := ⟨va_Zq.kept h.1 hq, vx_L.kept h.2 hq⟩
theorem vx_Zq.narrow {C n d : String} {A B : Nat → Prop} {U : State} {H : Heap} (h : vx_Zq C n d A U H) (hAB : ∀ q, B q → A q) : vx_Zq C n d B U H := ⟨va_Zq.narrow h.1 hAB, vx_L.narrow h.2 hAB⟩
theorem vx_Zqof {args : Array Value} {s : State} {C n d : String} {A : Nat → Prop} (hl : (Cond.laysStatic C n d).before args s = true) (hini : (Cond.initialized C).before args s = true) (h : (Cond.isRef (.static C n d)).before args s = true) (hA : ∀ a : Nat, a < s.heap.size → ¬ A a) : vx_Zq C n d A s s.heap := by
  refine ⟨va_Zqof hl hini h hA, ?_⟩
  obtain ⟨c, k, i, f, a, cell, h1, h2, h3, h4, h5, h6, h7, h8, h9⟩ := Cond.laysStatic_spec hl
  exact ⟨c, k, i, f, a, cell, h1, h2, h3, h4, h5, h6, h7, h8, h9, hA a (Array.getElem?_eq_some_iff.mp h5).1⟩
theorem vx_isRef {C n d : String} {v : Value} {A : Nat → Prop} {s : State} {args : Array Value} (h : va_Z C n d v A s s.heap) (hv : v.isRef = true) : (Cond.isRef (.static C n d)).before args s = true := by
  obtain ⟨cf, kf, fi, f, a, cell, h1, h2, h3, h4, h5, h6, h7, -⟩ := h
  have he : (Term.static C n d).eval args s none [] s = some v := by
    simp [Term.eval, State.fieldNamed?, h1, h2, h4, h5, h6, h7]
  simp only [Cond.before, Cond.holds, Cond.value, he]
  cases v <;> simp_all [Value.isRef]
theorem vx_isRefq {C n d : String} {A : Nat → Prop} {s : State} {args : Array Value} (h : va_Zq C n d A s s.heap) : (Cond.isRef (.static C n d)).before args s = true := by
  rcases h with h | ⟨t, h⟩
  · exact vx_isRef h rfl
  · exact vx_isRef h rfl
/-- the same frame, seen from here: as if the method were called anew in this heap -/
theorem vx_rebase {T : State} (X : Stand p l e R s m args below meth c T locs cells slots) {R' : Room} (hf : R'.frames ≤ R.frames) (hl : R'.locals ≤ R.locals) (hc : cells + R'.cells ≤ R.cells) (hs : slots + R'.slots ≤ R.slots) :
    Stand p l e R' ((T.setVm s.vm).setFrames (.invoking m args :: below)) m args below meth c T [] 0 0 := by
  have htop : (T.setVm s.vm).topJava?.isSome := X.here.top
  have hF : ((T.setVm s.vm).setFrames (.invoking m args :: below)).frames = .invoking m args :: below := State.frames_setFrames _ (State.cur_lt_of_top htop)
  obtain ⟨g₀, hg0⟩ := Option.isSome_iff_exists.mp htop
  obtain ⟨r, hr⟩ := State.topJava?_eq_some.mp hg0
  have hl9 : e.platform.stackLimits (T.setVm s.vm).me = e.platform.stackLimits s.me := X.limits
  have hb9 : (T.setVm s.vm).me.stackBytes = s.me.stackBytes := X.bytes
  refine ⟨X.admits, X.cas, X.clock, hF, ?_, X.hears, X.method, X.code, X.here, X.tail, X.warmed, ?_, ?_, ?_⟩
  · have h := X.room
    have hU : ((T.setVm s.vm).setFrames (.invoking m args :: below)).localsInUse = s.localsInUse := by
      rw [State.localsInUse_invoking hF (meth := meth) (c := c) X.method X.code, State.localsInUse_invoking X.frames X.method X.code]
    simp only [State.hasRoom, Bool.and_eq_true, decide_eq_true_eq] at h ⊢
    obtain ⟨⟨⟨⟨h1, h2, h3, h4, h5, h6⟩, h7⟩, h8⟩, h9⟩ := h
    rw [X.frames, List.length_cons] at h2 h3
    have q1 := X.heapSize
    have q2 := X.used
    simp only [hF, hU, List.length_cons, State.stackLimits_setFrames, State.stackBytes_setFrames, hl9, hb9]
    refine ⟨⟨⟨⟨by omega, by omega, by omega, by omega, by omega, h6⟩, ?_⟩, ?_⟩, X.book⟩
    · show T.heap.size + R'.cells ≤ e.platform.maxCells
      omega
    · show T.slotsUsed + R'.slots ≤ e.platform.maxSlots
      omega
  · rw [State.stackLimits_setFrames]; rfl
  · rw [State.stackBytes_setFrames]; rfl
  · refine ⟨?_, Nat.le_refl _, Nat.le_refl _, ?_, ?_, fun a c9 h9 => ⟨c9, h9, rfl, rfl, fun _ _ => rfl⟩⟩
    · obtain ⟨t, ht, -⟩ := State.frames_cons hr
      show T.setVm s.vm = { ((T.setVm s.vm).setFrames (.invoking m args :: below)).setFrames (T.setVm s.vm).frames with heap := T.heap, slotsUsed := T.slotsUsed }
      rw [State.setFrames_setFrames, State.setFrames_self ht]
      rfl
    · show T.slotsUsed = T.slotsUsed + ((T.heap.toList.drop T.heap.size).map (·.slots.size)).sum
      rw [List.drop_eq_nil_of_le (Nat.le_of_eq Array.length_toList)]
      rfl
    · show ((T.heap.toList.drop T.heap.size).map (·.slots.size)).sum ≤ 0
      rw [List.drop_eq_nil_of_le (Nat.le_of_eq Array.length_toList)]
      exact Nat.le_refl _
/-- 'throw new E()': new; dup; invokespecial; athrow -/
theorem vx_throw0 {cc : ByteArray} {pc : Nat} (hexec : p.tables.exec = Jvm.exec) (hb : c.code = cc) (hl : l.stackTraces = false) {own cls : String} {names : List String} {ik ic mc ms : Nat} {A : Nat → Prop}
    (hown : s.vm.findClass own = some m.cls) (hcls : Bundle.fit cls = true) (hnames : ∀ n ∈ names, Bundle.fit n = true)
    (hk : (Cond.classLink own ik cls).before args s = true) (hini : (Cond.initialized cls).before args s = true) (hat : ∀ w ∈ vx_at0 own ic cls names, w.before args s = true)
    (hgood : ∀ w ∈ Cond.classLink own ik cls :: Cond.initialized cls :: vx_at0 own ic cls names, vx_ot w = true)
    (hU : vx_Zq Bundle.tN "UNASSIGNED_STACK" Bundle.steD A s s.heap) (hN : vx_Zq Bundle.tN "SUPPRESSED_SENTINEL" Bundle.listD A s s.heap) (hS : va_S A s.heap H locs) (hsize : ls.size = c.maxLocals)
    (d0 : decode cc pc = .ok (.new ik, 3)) (d3 : decode cc (pc + 3) = .ok (.dup, 1)) (d4 : decode cc (pc + 4) = .ok (.invokespecial ic, 3)) (d7 : decode cc (pc + 7) = .ok (.athrow, 1))
    (hout : ∀ x ∈ c.exceptionTable.toList, covers x (pc + 7) = false)
    (hRframes : names.length + 3 < R.frames) (hRlocals : (rest.map fun v => v.category).sum + (13 * (names.length + 1) + 42) ≤ R.locals) (hRcells : cells + 1 ≤ R.cells) (hRslots : slots + 6 ≤ R.slots) (hlocks : meth.locks = false)
    (hx : ∀ t : State, s.vm.Alike t.vm → H.size ≤ t.heap.size → (∀ q : Nat, q < H.size → t.heap[q]? = H[q]?) → XC cls s t)
    (hf : ∀ z ∈ locs, free z.base) (hc : cells + 1 ≤ mc) (hs : slots + 6 ≤ ms) :
    W p l e R s m args below meth c H locs cells slots (vx_MQ below Qc XC args s mc ms free) (F0 m pc ls rest) := by
  intro T hT X
  have htr : e.platform.stackTraces = false := (show e.platform.stackTraces = l.stackTraces by rw [X.admits.platform]).trans hl
  have Y := vx_rebase X (R' := { frames := R.frames, locals := R.locals, cells := 1, slots := 6 }) (Nat.le_refl _) (Nat.le_refl _) hRcells hRslots
  obtain ⟨s', hA⟩ : ∃ z, z = (T.setVm s.vm).setFrames (.invoking m args :: below) := ⟨_, rfl⟩
  rw [← hA] at Y
  have hvm : s'.vm = s.vm := by rw [hA]; rfl
  have hhp : s'.heap = H := by rw [hA]; exact hT
  have hW0 : s.WarmedH s'.vm := by rw [hvm]; exact State.WarmedH.refl s
  have hat' : ∀ w ∈ vx_at0 own ic cls names, w.before args s' = true := fun w hw => vx_ot_at hW0 hvm.symm (hgood w (List.mem_cons_of_mem _ (List.mem_cons_of_mem _ hw))) (hat w hw)
  have hk' : (Cond.classLink own ik cls).before args s' = true := vx_ot_at hW0 hvm.symm (hgood _ List.mem_cons_self) hk
  have hini' : (Cond.initialized cls).before args s' = true := vx_ot_at hW0 hvm.symm (hgood _ (List.mem_cons_of_mem _ List.mem_cons_self)) hini
  have hU' : vx_Zq Bundle.tN "UNASSIGNED_STACK" Bundle.steD A s' s'.heap := by rw [hhp]; exact vx_Zq.moved hW0.alike (hU.kept hS.2.1)
  have hN' : vx_Zq Bundle.tN "SUPPRESSED_SENTINEL" Bundle.listD A s' s'.heap := by rw [hhp]; exact vx_Zq.moved hW0.alike (hN.kept hS.2.1)
  have h : ∀ w ∈ Bundle.ownAtoms0 own ic cls names, w.before args s' = true := vx_own hat' (vx_isRefq hU'.1) (vx_isRefq hN'.1) hU'.2.word hN'.2.word
  have hown' : s'.vm.findClass own = some m.cls := by rw [hvm]; exact hown
  have hins : (Cond.instantiable cls 6).before args s' = true := h _ (by simp [Bundle.ownAtoms0])
  obtain ⟨vm₁, cX, kX, hfX, hkX, -, -, X₁, st1⟩ := Y.newCold hexec (own := own) (C := cls) (index := ik) (n := 6) hown' hk' hins hini'
    (g := F0 m pc ls rest) rfl (by rw [hb]; exact d0) (Nat.le_refl _) (Nat.le_refl _)
  generalize hT1 : (T.setVm vm₁).pushCell { cls := cX, slots := kX.instanceTypes.map defaultValue, vm := .none } = T1 at X₁ st1
  have hcat : (Value.ref T.heap.size).category = 1 := rfl
  have hcellA : T1.heap[T.heap.size]? = some (freshCell cX kX) := by rw [← hT1]; exact State.heap_pushCell_size _ _
  have d3' : decode c.code (pc + 3) = .ok (.dup, 1) := by rw [hb]; exact d3
  obtain ⟨U, hsteps, hrun, hend, hW, hsame, ce, hce, hO⟩ := X₁.ctorThrow0 hexec htr (own := own) (cls := cls) (names := names) (ic := ic) hown' hcls hnames h (fun x hx => nomatch hx) hfX hkX hcellA (by rw [hhp, hT]; exact Nat.le_refl _)
    (g := { method := m, pc := pc + 4, locals := ls, stack := .ref T.heap.size :: .ref T.heap.size :: rest, locked := none }) rfl hsize rfl rfl (rest := rest) rfl
    (by rw [hb]; exact d4) (by rw [hb]; exact d7) hout hRframes (by simp only [List.map_cons, List.sum_cons, hcat]; omega) hlocks
  obtain ⟨f1, f2⟩ := vx_frame hsame
  rw [hhp] at f1 f2
  have hWs : s.WarmedH U.vm := State.WarmedH.trans hW0 hW
  have hcl : s.vm.findClass cls = some ce.cls := by
    have h9 := hO.cls
    rw [hvm] at h9
    exact h9
  have hall : s.sameButNew ({ U with vm := s.vm } : State) locs mc ms := by
    subst hA
    obtain ⟨e1, e2⟩ := hsame
    rw [State.setFrames_setFrames] at e1
    have h2 : (T.setVm s.vm).sameButNew ({ U with vm := s.vm } : State) [] (0 + 1) (0 + 6) := ⟨e1, e2⟩
    have h3 := X.same.trans h2
    rw [List.append_nil] at h3
    exact h3.mono hc hs
  refine ⟨U, ?_, .threw T.heap.size, hrun, hend, Or.inr ⟨T.heap.size, rfl, cls, ce, locs, hx U hWs.alike f1 (fun q hq => f2 q hq (fun z hz => nomatch hz)), hce, hO.vm, hcl, hWs, hall, hf⟩⟩
  refine st1 _ ?_
  show Steps p.tables e below (T1.setTop { method := m, pc := pc + 3, locals := ls, stack := .ref T.heap.size :: rest, locked := none }) _
  jvm_step X₁.here [X₁.here.top, hexec, d3', Value.category]
  exact hsteps
/-- 'throw new E("text")': new; dup; ldc; invokespecial; athrow -/
theorem vx_throwS {cc : ByteArray} {pc : Nat} (hexec : p.tables.exec = Jvm.exec) (hb : c.code = cc) (hl : l.stackTraces = false) {own cls text : String} {names : List String} {ik is ic mc ms sa : Nat} {A : Nat → Prop}
    (hown : s.vm.findClass own = some m.cls) (hcls : Bundle.fit cls = true) (hnames : ∀ n ∈ names, Bundle.fit n = true)
    (hk : (Cond.classLink own ik cls).before args s = true) (hini : (Cond.initialized cls).before args s = true) (hstr : vk_R own is text sa s) (hat : ∀ w ∈ vx_atS own ic cls names, w.before args s = true)
    (hgood : ∀ w ∈ Cond.classLink own ik cls :: Cond.initialized cls :: vx_atS own ic cls names, vx_ot w = true)
    (hU : vx_Zq Bundle.tN "UNASSIGNED_STACK" Bundle.steD A s s.heap) (hN : vx_Zq Bundle.tN "SUPPRESSED_SENTINEL" Bundle.listD A s s.heap) (hS : va_S A s.heap H locs) (hsize : ls.size = c.maxLocals)
    (d0 : decode cc pc = .ok (.new ik, 3)) (d3 : decode cc (pc + 3) = .ok (.dup, 1)) (d4 : decode cc (pc + 4) = .ok (.ldc is, 2)) (d6 : decode cc (pc + 6) = .ok (.invokespecial ic, 3)) (d9 : decode cc (pc + 9) = .ok (.athrow, 1))
    (hout : ∀ x ∈ c.exceptionTable.toList, covers x (pc + 9) = false)
    (hRframes : names.length + 3 < R.frames) (hRlocals : (rest.map fun v => v.category).sum + (13 * (names.length + 1) + 43) ≤ R.locals) (hRcells : cells + 1 ≤ R.cells) (hRslots : slots + 6 ≤ R.slots) (hlocks : meth.locks = false)
    (hx : ∀ t : State, s.vm.Alike t.vm → H.size ≤ t.heap.size → (∀ q : Nat, q < H.size → t.heap[q]? = H[q]?) → XC cls s t)
    (hf : ∀ z ∈ locs, free z.base) (hc : cells + 1 ≤ mc) (hs : slots + 6 ≤ ms) :
    W p l e R s m args below meth c H locs cells slots (vx_MQ below Qc XC args s mc ms free) (F0 m pc ls rest) := by
  intro T hT X
  have htr : e.platform.stackTraces = false := (show e.platform.stackTraces = l.stackTraces by rw [X.admits.platform]).trans hl
  have Y := vx_rebase X (R' := { frames := R.frames, locals := R.locals, cells := 1, slots := 6 }) (Nat.le_refl _) (Nat.le_refl _) hRcells hRslots
  obtain ⟨s', hA⟩ : ∃ z, z = (T.setVm s.vm).setFrames (.invoking m args :: below) := ⟨_, rfl⟩
  rw [← hA] at Y
  have hvm : s'.vm = s.vm := by rw [hA]; rfl
  have hhp : s'.heap = H := by rw [hA]; exact hT
  have hW0 : s.WarmedH s'.vm := by rw [hvm]; exact State.WarmedH.refl s
  have hat' : ∀ w ∈ vx_atS own ic cls names, w.before args s' = true := fun w hw => vx_ot_at hW0 hvm.symm (hgood w (List.mem_cons_of_mem _ (List.mem_cons_of_mem _ hw))) (hat w hw)
  have hk' : (Cond.classLink own ik cls).before args s' = true := vx_ot_at hW0 hvm.symm (hgood _ List.mem_cons_self) hk
  have hini' : (Cond.initialized cls).before args s' = true := vx_ot_at hW0 hvm.symm (hgood _ (List.mem_cons_of_mem _ List.mem_cons_self)) hini
  have hU' : vx_Zq Bundle.tN "UNASSIGNED_STACK" Bundle.steD A s' s'.heap := by rw [hhp]; exact vx_Zq.moved hW0.alike (hU.kept hS.2.1)
  have hN' : vx_Zq Bundle.tN "SUPPRESSED_SENTINEL" Bundle.listD A s' s'.heap := by rw [hhp]; exact vx_Zq.moved hW0.alike (hN.kept hS.2.1)
  have h : ∀ w ∈ Bundle.ownAtoms own ic cls names, w.before args s' = true := vx_own hat' (vx_isRefq hU'.1) (vx_isRefq hN'.1) hU'.2.word hN'.2.word
  have hown' : s'.vm.findClass own = some m.cls := by rw [hvm]; exact hown
  have hins : (Cond.instantiable cls 6).before args s' = true := h _ (by simp [Bundle.ownAtoms])
  obtain ⟨vm₁, cX, kX, hfX, hkX, -, -, X₁, st1⟩ := Y.newCold hexec (own := own) (C := cls) (index := ik) (n := 6) hown' hk' hins hini'
    (g := F0 m pc ls rest) rfl (by rw [hb]; exact d0) (Nat.le_refl _) (Nat.le_refl _)
  generalize hT1 : (T.setVm vm₁).pushCell { cls := cX, slots := kX.instanceTypes.map defaultValue, vm := .none } = T1 at X₁ st1
  have hcat : (Value.ref T.heap.size).category = 1 := rfl
  have hcellA : T1.heap[T.heap.size]? = some (freshCell cX kX) := by rw [← hT1]; exact State.heap_pushCell_size _ _
  have d3' : decode c.code (pc + 3) = .ok (.dup, 1) := by rw [hb]; exact d3
  have d4' : decode c.code (pc + 4) = .ok (.ldc is, 2) := by rw [hb]; exact d4
  have hstr' : vk_R own is text sa s' := vk_R.warm hW0 hstr
  obtain ⟨U, hsteps, hrun, hend, hW, hsame, ce, hce, hO⟩ := X₁.ctorThrowS hexec htr (own := own) (cls := cls) (names := names) (ic := ic) hown' hcls hnames h (fun x hx => nomatch hx) hfX hkX hcellA (by rw [hhp, hT]; exact Nat.le_refl _) (msg := .ref sa) rfl
    (g := { method := m, pc := pc + 6, locals := ls, stack := .ref sa :: .ref T.heap.size :: .ref T.heap.size :: rest, locked := none }) rfl hsize rfl rfl (rest := rest) rfl
    (by rw [hb]; exact d6) (by rw [hb]; exact d9) hout hRframes (by simp only [List.map_cons, List.sum_cons, hcat]; omega) hlocks
  obtain ⟨f1, f2⟩ := vx_frame hsame
  rw [hhp] at f1 f2
  have hWs : s.WarmedH U.vm := State.WarmedH.trans hW0 hW
  have hcl : s.vm.findClass cls = some ce.cls := by
    have h9 := hO.cls
    rw [hvm] at h9
    exact h9
  have hall : s.sameButNew ({ U with vm := s.vm } : State) locs mc ms := by
    subst hA
    obtain ⟨e1, e2⟩ := hsame
    rw [State.setFrames_setFrames] at e1
    have h2 : (T.setVm s.vm).sameButNew ({ U with vm := s.vm } : State) [] (0 + 1) (0 + 6) := ⟨e1, e2⟩
    have h3 := X.same.trans h2
    rw [List.append_nil] at h3
    exact h3.mono hc hs
  refine ⟨U, ?_, .threw T.heap.size, hrun, hend, Or.inr ⟨T.heap.size, rfl, cls, ce, locs, hx U hWs.alike f1 (fun q hq => f2 q hq (fun z hz => nomatch hz)), hce, hO.vm, hcl, hWs, hall, hf⟩⟩
  refine st1 _ ?_
  show Steps p.tables e below (T1.setTop { method := m, pc := pc + 3, locals := ls, stack := .ref T.heap.size :: rest, locked := none }) _
  jvm_step X₁.here [X₁.here.top, hexec, d3', Value.category]
  exact X₁.ldcString hexec (own := own) (text := text) (index := is) (a := sa) hown' hstr'.1 hstr'.2
    (g := { method := m, pc := pc + 4, locals := ls, stack := .ref T.heap.size :: .ref T.heap.size :: rest, locked := none }) rfl d4' _ hsteps
/-- 'throw new E("text")', the text by a wide index -/
theorem vx_throwSW {cc : ByteArray} {pc : Nat} (hexec : p.tables.exec = Jvm.exec) (hb : c.code = cc) (hl : l.stackTraces = false) {own cls text : String} {names : List String} {ik is ic mc ms sa : Nat} {A : Nat → Prop}
    (hown : s.vm.findClass own = some m.cls) (hcls : Bundle.fit cls = true) (hnames : ∀ n ∈ names, Bundle.fit n = true)
    (hk : (Cond.classLink own ik cls).before args s = true) (hini : (Cond.initialized cls).before args s = true) (hstr : vk_R own is text sa s) (hat : ∀ w ∈ vx_atS own ic cls names, w.before args s = true)
    (hgood : ∀ w ∈ Cond.classLink own ik cls :: Cond.initialized cls :: vx_atS own ic cls names, vx_ot w = true)
    (hU : vx_Zq Bundle.tN "UNASSIGNED_STACK" Bundle.steD A s s.heap) (hN : vx_Zq Bundle.tN "SUPPRESSED_SENTINEL" Bundle.listD A s s.heap) (hS : va_S A s.heap H locs) (hsize : ls.size = c.maxLocals)
    (d0 : decode cc pc = .ok (.new ik, 3)) (d3 : decode cc (pc + 3) = .ok (.dup, 1)) (d4 : decode cc (pc + 4) = .ok (.ldc_w is, 3)) (d7 : decode cc (pc + 7) = .ok (.invokespecial ic, 3)) (d10 : decode cc (pc + 10) = .ok (.athrow, 1))
    (hout : ∀ x ∈ c.exceptionTable.toList, covers x (pc + 10) = false)
    (hRframes : names.length + 3 < R.frames) (hRlocals : (rest.map fun v => v.category).sum + (13 * (names.length + 1) + 43) ≤ R.locals) (hRcells : cells + 1 ≤ R.cells) (hRslots : slots + 6 ≤ R.slots) (hlocks : meth.locks = false)
    (hx : ∀ t : State, s.vm.Alike t.vm → H.size ≤ t.heap.size → (∀ q : Nat, q < H.size → t.heap[q]? = H[q]?) → XC cls s t)
    (hf : ∀ z ∈ locs, free z.base) (hc : cells + 1 ≤ mc) (hs : slots + 6 ≤ ms) :
    W p l e R s m args below meth c H locs cells slots (vx_MQ below Qc XC args s mc ms free) (F0 m pc ls rest) := by
  intro T hT X
  have htr : e.platform.stackTraces = false := (show e.platform.stackTraces = l.stackTraces by rw [X.admits.platform]).trans hl
  have Y := vx_rebase X (R' := { frames := R.frames, locals := R.locals, cells := 1, slots := 6 }) (Nat.le_refl _) (Nat.le_refl _) hRcells hRslots
  obtain ⟨s', hA⟩ : ∃ z, z = (T.setVm s.vm).setFrames (.invoking m args :: below) := ⟨_, rfl⟩
  rw [← hA] at Y
  have hvm : s'.vm = s.vm := by rw [hA]; rfl
  have hhp : s'.heap = H := by rw [hA]; exact hT
  have hW0 : s.WarmedH s'.vm := by rw [hvm]; exact State.WarmedH.refl s
  have hat' : ∀ w ∈ vx_atS own ic cls names, w.before args s' = true := fun w hw => vx_ot_at hW0 hvm.symm (hgood w (List.mem_cons_of_mem _ (List.mem_cons_of_mem _ hw))) (hat w hw)
  have hk' : (Cond.classLink own ik cls).before args s' = true := vx_ot_at hW0 hvm.symm (hgood _ List.mem_cons_self) hk
  have hini' : (Cond.initialized cls).before args s' = true := vx_ot_at hW0 hvm.symm (hgood _ (List.mem_cons_of_mem _ List.mem_cons_self)) hini
  have hU' : vx_Zq Bundle.tN "UNASSIGNED_STACK" Bundle.steD A s' s'.heap := by rw [hhp]; exact vx_Zq.moved hW0.alike (hU.kept hS.2.1)
  have hN' : vx_Zq Bundle.tN "SUPPRESSED_SENTINEL" Bundle.listD A s' s'.heap := by rw [hhp]; exact vx_Zq.moved hW0.alike (hN.kept hS.2.1)
  have h : ∀ w ∈ Bundle.ownAtoms own ic cls names, w.before args s' = true := vx_own hat' (vx_isRefq hU'.1) (vx_isRefq hN'.1) hU'.2.word hN'.2.word
  have hown' : s'.vm.findClass own = some m.cls := by rw [hvm]; exact hown
  have hins : (Cond.instantiable cls 6).before args s' = true := h _ (by simp [Bundle.ownAtoms])
  obtain ⟨vm₁, cX, kX, hfX, hkX, -, -, X₁, st1⟩ := Y.newCold hexec (own := own) (C := cls) (index := ik) (n := 6) hown' hk' hins hini'
    (g := F0 m pc ls rest) rfl (by rw [hb]; exact d0) (Nat.le_refl _) (Nat.le_refl _)
  generalize hT1 : (T.setVm vm₁).pushCell { cls := cX, slots := kX.instanceTypes.map defaultValue, vm := .none } = T1 at X₁ st1
  have hcat : (Value.ref T.heap.size).category = 1 := rfl
  have hcellA : T1.heap[T.heap.size]? = some (freshCell cX kX) := by rw [← hT1]; exact State.heap_pushCell_size _ _
  have d3' : decode c.code (pc + 3) = .ok (.dup, 1) := by rw [hb]; exact d3
  have d4' : decode c.code (pc + 4) = .ok (.ldc_w is, 3) := by rw [hb]; exact d4
  have hstr' : vk_R own is text sa s' := vk_R.warm hW0 hstr
  obtain ⟨U, hsteps, hrun, hend, hW, hsame, ce, hce, hO⟩ := X₁.ctorThrowS hexec htr (own := own) (cls := cls) (names := names) (ic := ic) hown' hcls hnames h (fun x hx => nomatch hx) hfX hkX hcellA (by rw [hhp, hT]; exact Nat.le_refl _) (msg := .ref sa) rfl
    (g := { method := m, pc := pc + 7, locals := ls, stack := .ref sa :: .ref T.heap.size :: .ref T.heap.size :: rest, locked := none }) rfl hsize rfl rfl (rest := rest) rfl
    (by rw [hb]; exact d7) (by rw [hb]; exact d10) hout hRframes (by simp only [List.map_cons, List.sum_cons, hcat]; omega) hlocks
  obtain ⟨f1, f2⟩ := vx_frame hsame
  rw [hhp] at f1 f2
  have hWs : s.WarmedH U.vm := State.WarmedH.trans hW0 hW
  have hcl : s.vm.findClass cls = some ce.cls := by
    have h9 := hO.cls
    rw [hvm] at h9
    exact h9
  have hall : s.sameButNew ({ U with vm := s.vm } : State) locs mc ms := by
    subst hA
    obtain ⟨e1, e2⟩ := hsame
    rw [State.setFrames_setFrames] at e1
    have h2 : (T.setVm s.vm).sameButNew ({ U with vm := s.vm } : State) [] (0 + 1) (0 + 6) := ⟨e1, e2⟩
    have h3 := X.same.trans h2
    rw [List.append_nil] at h3
    exact h3.mono hc hs
  refine ⟨U, ?_, .threw T.heap.size, hrun, hend, Or.inr ⟨T.heap.size, rfl, cls, ce, locs, hx U hWs.alike f1 (fun q hq => f2 q hq (fun z hz => nomatch hz)), hce, hO.vm, hcl, hWs, hall, hf⟩⟩
  refine st1 _ ?_
  show Steps p.tables e below (T1.setTop { method := m, pc := pc + 3, locals := ls, stack := .ref T.heap.size :: rest, locked := none }) _
  jvm_step X₁.here [X₁.here.top, hexec, d3', Value.category]
  exact X₁.ldcStringW hexec (own := own) (text := text) (index := is) (a := sa) hown' hstr'.1 hstr'.2
    (g := { method := m, pc := pc + 4, locals := ls, stack := .ref T.heap.size :: .ref T.heap.size :: rest, locked := none }) rfl d4' _ hsteps
end Ends
section Bodies
variable {l : Launch}
theorem vx_ofW {y : MethodName} {ws ws' : List Cond} {rm : Room} {Pc : Array Value → State → Prop} {Qc : Array Value → State → Outcome → State → Prop} {XC : String → State → State → Prop} {mc ms : Nat} {free : Addr → Prop} {cc : ByteArray} {maxL : Nat} {ret : Option FieldType}
    (hy : plainName y.cls = true) (hw : ws = Cond.code y cc maxL ret :: ws')
    (body : ∀ p e s m args below meth c s₁, BodyLoose p l y (headSpec ws rm) cc maxL ret e s m args below meth c s₁ → c.maxLocals = maxL → (∀ x ∈ c.exceptionTable.toList, False) → Pc args s →
      W p l e (headSpec ws rm).room s m args below meth c s.heap [] 0 0 (vx_MQ below Qc XC args s mc ms free) (entryFrame m args maxL)) : vx_Met l y ws rm Pc Qc XC mc ms free := by
  refine MetFree.of_bodyS (code := cc) (maxLocals := maxL) (ret := ret) hy ?_ ?_
  · intro args s m h hn
    obtain ⟨meth, c, h1, h2, h3, h4, h5, h6, -, -⟩ := Cond.code_spec hn (atoms_spec (ws := ws) h _ (by rw [hw]; exact List.mem_cons_self))
    exact ⟨meth, c, h1, h2, h3, h4, h5, h6⟩
  · intro p e s m args below meth c s₁ B hml hP _
    have hh0 : s₁.heap = s.heap := by rw [B.state]; rfl
    have ht : ∀ x ∈ c.exceptionTable.toList, False := by
      obtain ⟨meth9, c9, h1, h2, -, -, -, -, h7, -⟩ := Cond.code_spec B.named (atoms_spec (ws := ws) B.pre _ (by rw [hw]; exact List.mem_cons_self))
      cases Option.some.inj (h1.symm.trans B.method)
      cases Option.some.inj (h2.symm.trans (Stand.of_body B).code)
      intro x hx
      rw [Array.isEmpty_iff.mp h7] at hx
      cases hx
    obtain ⟨t, a1, o, b1, b2, b3⟩ := body p e s m args below meth c s₁ B hml ht hP s₁ hh0 (Stand.of_body B)
    exact ⟨t, o, a1, b1, b2, b3⟩
/-- the table of a body with handlers -/
theorem vx_table {p : Program} {x y : MethodName} {S : Spec} {cc bytes : ByteArray} {maxL maxL' : Nat} {ret ret' : Option FieldType} {e : Env} {s s₁ : State} {m : MethodId} {args : Array Value} {below : List Frame} {meth : Method} {c : Code} {hh : List (Nat × Nat × Nat × Nat)}
    (B : BodyLoose p l y S cc maxL ret e s m args below meth c s₁) (h : (Cond.codeWith y bytes maxL' ret' hh).before args s = true) : c.exceptionTable.toList = tableOf hh := by
  obtain ⟨m9, meth9, c9, hn9, h1, h2, -, -, h6, -⟩ := Cond.codeWith_spec h
  cases Option.some.inj (hn9.symm.trans B.named)
  cases Option.some.inj (h1.symm.trans B.method)
  cases Option.some.inj (h2.symm.trans (Stand.of_body B).code)
  rw [← h6, table_eq]
end Bodies
end VXA
/-! ===== END ===== -/
/-! ===== BEGIN a static call of a method with an exception table ===== -/
section VXS
variable {p : Program} {l : Launch} {e : Env} {R : Room} {s : State} {m : MethodId} {args : Array Value} {below : List Frame} {meth : Method} {c : Code} {T : State} {H : Heap} {locs : List Loc} {cells slots : Nat}
abbrev vx_CSW (R : Room) (s : State) (args : Array Value) (own : String) (index : Nat) (y : MethodName) (bytes : ByteArray) (maxL : Nat) (ret : Option FieldType) (hh : List (Nat × Nat × Nat × Nat)) (ws : List Cond) (rm : Room) (mc ms n : Nat) : Prop :=
  (rm.cells = mc ∧ rm.slots = ms ∧ rm.frames + 1 ≤ R.frames ∧ 8 + (maxL + 11) + rm.locals ≤ R.locals ∧ (∀ w ∈ ws, ∀ (a' : Array Value) (U : State), s.WarmedH U.vm → w.before a' U = true) ∧ Cond.codeWith y bytes maxL ret hh ∈ ws) ∧
  (Cond.codeWith y bytes maxL ret hh).before args s = true ∧ (Cond.initialized y.cls).before args s = true ∧ (y.cls ≠ "java/lang/invoke/MethodHandle" ∧ y.cls ≠ "java/lang/invoke/VarHandle") ∧
  (∀ sig, parseMethodDescriptor y.desc = some sig → n = sig.parameters.length) ∧ (Cond.methodLink own index y).before args s = true ∧ (Cond.static y).before args s = true
theorem vx_cwSW {own : String} {index maxL mc ms : Nat} {y : MethodName} {bytes : ByteArray} {ret : Option FieldType} {hh : List (Nat × Nat × Nat × Nat)} {Ts ws ws' : List Cond} {rm : Room} (n : Nat) (ht : ∀ w ∈ Ts, w.before args s = true) (hT : GoodIn Ts (va_wsS own index y ws)) (hw : ws = Cond.codeWith y bytes maxL ret hh :: ws') (hrc : rm.cells = mc) (hrs : rm.slots = ms)
    (hd : y.cls ≠ "java/lang/invoke/MethodHandle" ∧ y.cls ≠ "java/lang/invoke/VarHandle" ∧ (parseMethodDescriptor y.desc).map (fun d => d.parameters.length) = some n) (hR : rm.frames + 1 ≤ R.frames ∧ 8 + (maxL + 11) + rm.locals ≤ R.locals) :
    vx_CSW R s args own index y bytes maxL ret hh ws rm mc ms n := by
  have ok : ∀ w ∈ va_wsS own index y ws, w.before args s = true := fun w h => ht w (hT w h).1
  have hG : GoodIn Ts ws := fun w h => hT w (by unfold va_wsS; exact List.mem_append_right _ h)
  have hc : Cond.codeWith y bytes maxL ret hh ∈ ws := by rw [hw]; exact List.mem_cons_self
  refine ⟨⟨hrc, hrs, hR.1, hR.2, pay_in ht hG, hc⟩, ht _ (hG _ hc).1, ok _ (by simp [va_wsS]), ⟨hd.1, hd.2.1⟩, fun sig h => ?_, ok _ (by simp [va_wsS]), ok _ (by simp [va_wsS])⟩
  have h2 := hd.2.2
  rw [h] at h2
  exact (Option.some.inj h2).symm
theorem vx_callSW (X : Stand p l e R s m args below meth c T locs cells slots) (hexec : p.tables.exec = Jvm.exec) {own : String} {index : Nat} {y : MethodName} {bytes : ByteArray} {maxL : Nat} {ret : Option FieldType} {hh : List (Nat × Nat × Nat × Nat)}
    (hown : s.vm.findClass own = some m.cls) (hlink : (Cond.methodLink own index y).before args s = true) (hstat : (Cond.static y).before args s = true) (hinit : (Cond.initialized y.cls).before args s = true)
    (hcode : (Cond.codeWith y bytes maxL ret hh).before args s = true) (hy : y.cls ≠ "java/lang/invoke/MethodHandle" ∧ y.cls ≠ "java/lang/invoke/VarHandle")
    {W9 : Nat} {Pre : Pt → Array Value → Prop} {Post : Pt → Array Value → Option Value → Pt → Prop} (hK : Back l R p e below s args y 3 W9 Pre Post)
    {g : JFrame} (hg : g.method = m) (hsize : g.locals.size = c.maxLocals) {argsL rest : List Value} (hlen : ∀ sig, parseMethodDescriptor y.desc = some sig → argsL.length = sig.parameters.length)
    (hstack : g.stack = argsL.reverse ++ rest) (hW : 2 * g.monitorRoom + (rest.map fun v => v.category).sum ≤ W9) (hdg : decode c.code g.pc = .ok (.invokestatic index, 3))
    (hpre : ∀ vm₁, s.WarmedH vm₁ → Pre ⟨T.setVm vm₁, locs, cells, slots⟩ argsL.toArray) :
    ∃ (v : Option Value) (vm₁ : Vm) (B : Pt), s.WarmedH vm₁ ∧ Stand p l e R s m args below meth c B.U B.locs B.cells B.slots ∧ Post ⟨T.setVm vm₁, locs, cells, slots⟩ argsL.toArray v B ∧
      ∀ target, Steps p.tables e below (B.U.setTop { g with pc := g.pc + 3, stack := v.toList ++ rest }) target → Steps p.tables e below (T.setTop g) target := by
  obtain ⟨mk, methM, cM, hnamed, hmethM, -, -, -, -, -, -, hsigM⟩ := Cond.codeWith_spec hcode
  have hstatic : methM.isStatic = true := Cond.static_spec hnamed hmethM hstat
  obtain ⟨kP, hkP, -⟩ := className_of_methodNamed hnamed
  have hinitP : kP.init = .initialized := Cond.initialized_spec (findClass_of_methodNamed hnamed) hkP hinit
  obtain ⟨vm₁, X₁, hstep₁⟩ := X.invokestatic hexec hown hlink hnamed hmethM hstatic hkP hinitP hy (g := g) hg (argsL := argsL) (rest := rest) (hlen _ hsigM) hstack hdg
  obtain ⟨v, B, X', hpost, hsteps⟩ := hK m meth c ⟨T.setVm vm₁, locs, cells, slots⟩ { g with stack := rest } (.invokestatic index) mk argsL.toArray X₁ hg hsize hdg hW (X₁.named hnamed) (hpre vm₁ X₁.warmed)
  exact ⟨v, vm₁, B, X₁.warmed, X', hpost, fun target h => hstep₁ _ fun acts => by rw [doInvoke_state]; exact hsteps.trans h⟩
theorem vx_runSW {y : MethodName} {bytes cc : ByteArray} {maxL nL mc ms n index : Nat} {ret : Option FieldType} {hh : List (Nat × Nat × Nat × Nat)} {ws : List Cond} {rm : Room} {Pc : Array Value → State → Prop} {Qc : Array Value → State → Outcome → State → Prop} {free : Addr → Prop} {Ts : List Cond} {own : String} {As rest : List Value} {g : JFrame}
    (S : CallFix p m c cc nL s args Ts own) (hM : Met l y ws rm Pc Qc mc ms free) (cw : vx_CSW R s args own index y bytes maxL ret hh ws rm mc ms n) (hp : PreS s H Pc As)
    (hg : g.method = m) (hn : As.length = n) (hsize : g.locals.size = nL) (hstack : g.stack = As.reverse ++ rest) (hW : 2 * g.monitorRoom + (rest.map fun v => v.category).sum ≤ 8) (hdg : decode cc g.pc = .ok (.invokestatic index, 3)) (hf : cells + mc ≤ R.cells ∧ slots + ms ≤ R.slots) :
    va_Run p l e R s m args below meth c H locs cells slots mc ms g rest (Qc As.toArray) (free) := by
  obtain ⟨⟨hrc, hrs, hfr, hlo, hws, hcw⟩, hcode, hini, hy, hlen, hl, hstt⟩ := cw
  have hK : Back l R p e below s args y 3 8 (PreOf R mc ms Pc) (PostOf Qc mc ms free) := va_backW (hh := hh) (bytes := bytes) (maxL := maxL) (ret := ret) hM hp.1 hrc hrs hfr hlo hws hcw (fun a' U hW => word_at hW (Or.inl (by first | rfl | simp [Cond.onTables, Cond.keeps, Cond.steady])) hini)
  obtain ⟨hx, hb, hml, ho, -⟩ := S
  intro T hT X
  obtain ⟨v, vm₁, ⟨U', l2, c2, s2⟩, hW₁, X', ⟨g', mk, t, L, e1, e2, hq, h1, hL, h2, h3⟩, st⟩ := vx_callSW X hx (hh := hh) (bytes := bytes) (maxL := maxL) (ret := ret) ho hl hstt hini hcode hy hK hg (hsize.trans hml.symm) (argsL := As) (rest := rest) (fun sig h => hn.trans (hlen sig h)) hstack hW (by rw [hb]; exact hdg)
    (fun vm₁ hW₁ => ⟨hf.1, hf.2, hp.2 (T.setVm vm₁) hT hW₁⟩)
  dsimp only [Pt.U, Pt.locs, Pt.cells, Pt.slots] at X' e1 e2 h1 h2 h3 st
  subst h1; subst h2; subst h3
  exact ⟨v, (T.setVm vm₁).calling g' mk As.toArray, t, U', L, hT, X', hL, e1, e2, hq, st⟩
/-- not caught here, past rows that name other classes: it goes on to the caller -/
theorem vx_outP {p : Program} {l : Launch} {e : Env} {R : Room} {s : State} {m : MethodId} {args : Array Value} {below : List Frame} {meth : Method} {c : Code} {H : Heap} {locs : List Loc} {cells slots : Nat} {free : Addr → Prop} {ls : Array Slot} {rest : List Value} {Qc : Array Value → State → Outcome → State → Prop} {XC : String → State → State → Prop}
    {pc : Nat} {own E : String} {ce : Cell} {q : Addr} {mc ms : Nat} (hown : s.vm.findClass own = some m.cls) (hlocks : meth.locks = false)
    (hpass : ∀ z ∈ c.exceptionTable.toList, covers z pc = false ∨ (z.catchType ≠ 0 ∧ ∃ nm : String, (Cond.classLink own z.catchType nm).before args s = true ∧ va_Nc E nm s)) (hcell : H[q]? = some ce) (hv : ce.vm = .none) (hcl : s.vm.findClass E = some ce.cls)
    (hx : ∀ t : State, t.heap = H → s.vm.Alike t.vm → XC E s t) (hf : ∀ z ∈ locs, free z.base) (hc : cells ≤ mc) (hs : slots ≤ ms) :
    vx_W p l e R s m args below meth c H locs cells slots (vx_MQ below Qc XC args s mc ms free) (F0 m pc ls rest) q := by
  intro T hT X
  have hpl : e.platform.magicAccessors = ({} : Platform).magicAccessors := by rw [X.admits.platform]
  obtain ⟨vm', hW', X', st⟩ := X.outThrough hlocks q (g := F0 m pc ls rest) rfl rfl rfl (cell := ce) (by rw [hT]; exact hcell) (by rw [hv]; rfl)
    (by obtain ⟨k9, h9, -⟩ := Vm.findClass_spec hcl; exact ⟨k9, h9⟩) (fun z hz => by
      rcases hpass z hz with h | ⟨hz0, nm, hl1, hn1⟩
      · exact Or.inl h
      · obtain ⟨c6, hc6, hcl6⟩ := Cond.classLink_spec hown hl1 e.platform hpl
        obtain ⟨a8, b8, h1, h2, h3⟩ := hn1
        cases Option.some.inj (h1.symm.trans hcl)
        cases Option.some.inj (h2.symm.trans hc6)
        exact Or.inr ⟨hz0, _, hcl6, h3⟩)
  obtain ⟨g₀, hfr⟩ := X'.frames_eq
  have hcell9 : ((T.setVm vm').setFrames (.throwing q :: below)).heap[q]? = some ce := by
    show T.heap[q]? = some ce
    rw [hT]; exact hcell
  have hend : Ended ((T.setVm vm').setFrames (.throwing q :: below)) below (.threw q) := State.frames_setFrames _ (State.cur_lt_of_frames hfr)
  refine ⟨(T.setVm vm').setFrames (.throwing q :: below), ?_, .threw q, X'.here.running, hend, Or.inr ⟨q, rfl, E, ce, locs, hx _ hT (X'.ends _).1.alike, hcell9, hv, hcl, (X'.ends _).1, (X'.ends _).2.mono hc hs, hf⟩⟩
  rw [X.pushThrowing_eq]
  exact st
/-- a thing of a world lies in the heap -/
theorem vx_lt {D : va_G} {cl : List vw_C} {ws : va_W} {H1 : Heap} (h : va_P D cl ws H1) {k : Nat} {q : Nat × va_E} (hk : ws[k]? = some q) : q.1 < H1.size := (h k q hk).lt
end VXS
/-! ===== END ===== -/
/-! ===== BEGIN methods with a table of their own: called by a name, returning or throwing ===== -/
section VXH
/-! vx_backW, vx_callVX, vx_callSX, vx_callVW, vx_runVW, vx_runVX, vx_runSX, vx_ofWH follow the same proofs as their sisters above (Free/Laws.lean, Shelf42/LK1.lean); vx_outP calls Shelf42/NT130.lean (outThrough). -/
section
variable {l : Launch} {R : Room} {p : Program} {e : Env} {below : List Frame} {s : State} {sargs : Array Value} {y : MethodName} {len W9 : Nat}
theorem vx_backW {ws : List Cond} {rm : Room} {Pc : Array Value → State → Prop} {Qc : Array Value → State → Outcome → State → Prop} {XC : String → State → State → Prop} {mc ms : Nat} {free : Addr → Prop} {bytes : ByteArray} {maxL : Nat} {ret : Option FieldType} {hh : List (Nat × Nat × Nat × Nat)}
    (hM : vx_Met l y ws rm Pc Qc XC mc ms free) (hblind : FrameBlind Pc) (hrc : rm.cells = mc) (hrs : rm.slots = ms)
    (hframes : rm.frames + 1 ≤ R.frames) (hlocals : W9 + (maxL + 11) + rm.locals ≤ R.locals)
    (hws : ∀ w ∈ ws, ∀ a' U, s.WarmedH U.vm → w.before a' U = true) (hcode : Cond.codeWith y bytes maxL ret hh ∈ ws) (hinit : ∀ a' U, s.WarmedH U.vm → (Cond.initialized y.cls).before a' U = true) :
    vx_Back l R p e below s sargs y len W9 (PreOf R mc ms Pc) (PostOf Qc mc ms free) (vx_Post XC mc ms free) := by
  intro m meth c A g ig mk a X hg hsize hdg hW hn hp
  have h1 : (headSpec ws rm).pre.before a A.U = true := atoms_intro fun w hw => hws w hw _ _ X.warmed
  have h2 : (Cond.codeWith y bytes maxL ret hh).before a A.U = true := hws _ hcode _ _ X.warmed
  have h3 : (Cond.initialized y.cls).before a A.U = true := hinit _ _ X.warmed
  have h4 : A.cells + (headSpec ws rm).room.cells ≤ R.cells := by rw [show (headSpec ws rm).room.cells = mc from hrc]; exact hp.1
  have h5 : A.slots + (headSpec ws rm).room.slots ≤ R.slots := by rw [show (headSpec ws rm).room.slots = ms from hrs]; exact hp.2.1
  have hPc : Pc a (A.U.calling g mk a) := hblind _ _ _ _ hp.2.2
  obtain ⟨U, Ls, c0, s0⟩ := A
  dsimp only [Pt.U, Pt.locs, Pt.cells, Pt.slots] at h1 h2 h3 h4 h5 X hn hPc ⊢
  obtain ⟨m9, methY, cY, hn9, hmY, hcY, -, hlY, -⟩ := Cond.codeWith_spec h2
  cases Option.some.inj (hn9.symm.trans hn)
  obtain ⟨kY, hkY, -⟩ := className_of_methodNamed hn
  have hinitY : kY.init = .initialized := Cond.initialized_spec (findClass_of_methodNamed hn) hkY h3
  have h : At U g.method c below := by rw [hg]; exact X.here
  have hlocals9 : W9 + (maxL + 11) + (headSpec ws rm).room.locals ≤ R.locals := hlocals
  have happ : (headSpec ws rm).appliesLoose y e.platform (U.calling g mk a) = true :=
    Spec.appliesLoose_calling (g := g) h hdg hn hkY hinitY
      (X.room_calling (g := g) (R' := (headSpec ws rm).room) hsize hmY hcY hframes (by rw [hlY]; omega) h4 h5) h1
  obtain ⟨mid, hmid⟩ := h.above
  have hfr : (U.setTop g).frames = (.java g :: mid) ++ below := by rw [State.frames_setTop' g h.top, hmid]; rfl
  obtain ⟨o, s₂, hsteps, -, hend, hq⟩ := Steps.callFree hM p X.admits X.cas X.clock (acts := []) hfr happ hPc trivial
  have hq' : vx_Q Qc XC mc ms free a (U.calling g mk a) o s₂ := hq
  rw [State.frames_setTop' g h.top] at hend
  obtain ⟨g₀, hg0⟩ := Option.isSome_iff_exists.mp h.top
  obtain ⟨r, hr⟩ := State.topJava?_eq_some.mp hg0
  have hr' : (({ U with heap := s₂.heap, slotsUsed := s₂.slotsUsed } : State).setVm s₂.vm).frames = .java g₀ :: r := hr
  rcases hq' with ⟨hqc, L, hfe, hL⟩ | ⟨q, rfl, E, ce, L, hx, hce, hcv, hcl, hW₂, hsm, hL⟩
  · obtain ⟨⟨v, rfl⟩, hW₂, e2, q2, q3, q4, q5, q6⟩ := id hfe
    have e3 : s₂ = ({ (U.calling g mk a).setFrames s₂.frames with heap := s₂.heap, slotsUsed := s₂.slotsUsed } : State).setVm s₂.vm := by
      have : s₂ = ({ s₂ with vm := (U.calling g mk a).vm } : State).setVm s₂.vm := rfl
      rw [e2] at this
      exact this
    obtain ⟨c₂, i₂, len₂, hc₂, hd₂, hf₂⟩ := hend
    have hW' : U.WarmedH s₂.vm := hW₂
    have hcc : c₂ = c := by
      have h1 : s₂.code? g.method = U.code? g.method := by
        rw [State.code?_eq, State.code?_eq, hW'.alike.method?]
      exact Option.some.inj (hc₂.symm.trans (h1.trans h.code))
    subst hcc
    have hlen : len₂ = len := by rw [hdg] at hd₂; cases hd₂; rfl
    subst hlen
    have hs₂ : s₂ = (({ U with heap := s₂.heap, slotsUsed := s₂.slotsUsed } : State).setVm s₂.vm).setTop { g with pc := g.pc + len₂, stack := v.toList ++ g.stack } := by
      refine e3.trans ?_
      rw [hf₂, State.calling_eq h.top, State.setFrames_setFrames, State.setTop_of_frames _ hr', hr]
      rfl
    have hsame : U.sameButNew ({ U with heap := s₂.heap, slotsUsed := s₂.slotsUsed } : State) L mc ms := by
      refine ⟨?_, q2, q3, q4, q5, q6⟩
      obtain ⟨t, ht, -⟩ := State.frames_cons hr
      show ({ U with heap := s₂.heap, slotsUsed := s₂.slotsUsed } : State) = { U.setFrames U.frames with heap := s₂.heap, slotsUsed := s₂.slotsUsed }
      rw [State.setFrames_self ht]
    subst hg
    refine Or.inl ⟨v, ⟨(({ U with heap := s₂.heap, slotsUsed := s₂.slotsUsed } : State).setVm s₂.vm), Ls ++ L, c0 + mc, s0 + ms⟩,
      ⟨X.admits, X.cas, X.clock, X.frames, X.room, X.hears, X.method, X.code, (X.here.setHeapUsed s₂.heap s₂.slotsUsed).setVm hW'.alike, X.tail, State.WarmedH.trans X.warmed hW', X.limits, X.bytes, X.same.trans (hsame.setVm s.vm)⟩,
      ⟨g, mk, s₂, L, rfl, rfl, hqc, rfl, hL, rfl, rfl⟩, ?_⟩
    show Steps p.tables e below _ ((({ U with heap := s₂.heap, slotsUsed := s₂.slotsUsed } : State).setVm s₂.vm).setTop { g with pc := g.pc + len₂, stack := v.toList ++ g.stack })
    rw [← hs₂]
    exact hsteps
  · obtain ⟨e2, q2, q3, q4, q5, q6⟩ := id hsm
    have e3 : s₂ = ({ (U.calling g mk a).setFrames s₂.frames with heap := s₂.heap, slotsUsed := s₂.slotsUsed } : State).setVm s₂.vm := by
      have : s₂ = ({ s₂ with vm := (U.calling g mk a).vm } : State).setVm s₂.vm := rfl
      rw [e2] at this
      exact this
    have hf₂ : s₂.frames = .throwing q :: .java g :: U.frames.tail := hend
    have hW' : U.WarmedH s₂.vm := hW₂
    have hs₂ : s₂ = ((({ U with heap := s₂.heap, slotsUsed := s₂.slotsUsed } : State).setVm s₂.vm).setTop g).pushFrame (.throwing q) := by
      refine e3.trans ?_
      rw [hf₂, State.calling_eq h.top, State.setFrames_setFrames, State.pushFrame, State.frames_setTop _ hr', State.setTop_of_frames _ hr', State.setFrames_setFrames, hr]
      rfl
    have hsame : U.sameButNew ({ U with heap := s₂.heap, slotsUsed := s₂.slotsUsed } : State) L mc ms := by
      refine ⟨?_, q2, q3, q4, q5, q6⟩
      obtain ⟨t, ht, -⟩ := State.frames_cons hr
      show ({ U with heap := s₂.heap, slotsUsed := s₂.slotsUsed } : State) = { U.setFrames U.frames with heap := s₂.heap, slotsUsed := s₂.slotsUsed }
      rw [State.setFrames_self ht]
    subst hg
    refine Or.inr ⟨q, ⟨(({ U with heap := s₂.heap, slotsUsed := s₂.slotsUsed } : State).setVm s₂.vm), Ls ++ L, c0 + mc, s0 + ms⟩,
      ⟨X.admits, X.cas, X.clock, X.frames, X.room, X.hears, X.method, X.code, (X.here.setHeapUsed s₂.heap s₂.slotsUsed).setVm hW'.alike, X.tail, State.WarmedH.trans X.warmed hW', X.limits, X.bytes, X.same.trans (hsame.setVm s.vm)⟩,
      ⟨g, mk, s₂, L, E, ce, rfl, rfl, hx, hce, hcv, hcl, rfl, hL, rfl, rfl⟩, ?_⟩
    show Steps p.tables e below _ (((({ U with heap := s₂.heap, slotsUsed := s₂.slotsUsed } : State).setVm s₂.vm).setTop g).pushFrame (.throwing q))
    rw [← hs₂]
    exact hsteps
end
variable {p : Program} {l : Launch} {e : Env} {R : Room} {s : State} {m : MethodId} {args : Array Value} {below : List Frame} {meth : Method} {c : Code} {T : State} {H : Heap} {locs : List Loc} {cells slots : Nat}
theorem vx_callVX (X : Stand p l e R s m args below meth c T locs cells slots) (hexec : p.tables.exec = Jvm.exec) {own C : String} {index : Nat} {y : MethodName} {bytes : ByteArray} {maxL : Nat} {ret : Option FieldType} {hh : List (Nat × Nat × Nat × Nat)}
    (hown : s.vm.findClass own = some m.cls) (hlink : (Cond.methodLink own index y).before args s = true) (hinst : (Cond.instanceMethod y).before args s = true) (hsel : (Cond.selects C y y).before args s = true)
    (hcode : (Cond.codeWith y bytes maxL ret hh).before args s = true) (hy : y.cls ≠ "java/lang/invoke/MethodHandle" ∧ y.cls ≠ "java/lang/invoke/VarHandle")
    {W9 : Nat} {Pre : Pt → Array Value → Prop} {Post : Pt → Array Value → Option Value → Pt → Prop} {PostX : Pt → Array Value → Addr → Pt → Prop} (hK : vx_Back l R p e below s args y 3 W9 Pre Post PostX)
    {b : Addr} {cellB : Cell} (hcell : T.heap[b]? = some cellB) (hobj : cellB.vm.isStatics = false) (hcls : s.vm.findClass C = some cellB.cls)
    {g : JFrame} (hg : g.method = m) (hsize : g.locals.size = c.maxLocals) {argsL rest : List Value} (hlen : ∀ sig, parseMethodDescriptor y.desc = some sig → argsL.length = sig.parameters.length)
    (hstack : g.stack = argsL.reverse ++ .ref b :: rest) (hW : 2 * g.monitorRoom + (rest.map fun v => v.category).sum ≤ W9) (hdg : decode c.code g.pc = .ok (.invokevirtual index, 3))
    (hpre : ∀ vm₁, s.WarmedH vm₁ → Pre ⟨T.setVm vm₁, locs, cells, slots⟩ (Value.ref b :: argsL).toArray) :
    (∃ (v : Option Value) (vm₁ : Vm) (B : Pt), s.WarmedH vm₁ ∧ Stand p l e R s m args below meth c B.U B.locs B.cells B.slots ∧ Post ⟨T.setVm vm₁, locs, cells, slots⟩ (Value.ref b :: argsL).toArray v B ∧
      ∀ target, Steps p.tables e below (B.U.setTop { g with pc := g.pc + 3, stack := v.toList ++ rest }) target → Steps p.tables e below (T.setTop g) target) ∨
    (∃ (q : Addr) (vm₁ : Vm) (B : Pt), s.WarmedH vm₁ ∧ Stand p l e R s m args below meth c B.U B.locs B.cells B.slots ∧ PostX ⟨T.setVm vm₁, locs, cells, slots⟩ (Value.ref b :: argsL).toArray q B ∧
      Steps p.tables e below (T.setTop g) ((B.U.setTop { g with stack := rest }).pushFrame (.throwing q))) := by
  obtain ⟨mk, methM, hnamed, hmethM, hstM, habM⟩ := Cond.instanceMethod_spec hinst
  obtain ⟨m8, methM', cM, hn8, hmethM', -, -, -, -, -, -, hsigM⟩ := Cond.codeWith_spec hcode
  cases Option.some.inj (hn8.symm.trans hnamed)
  cases hmethM.symm.trans hmethM'
  obtain ⟨c2, r2, m2, q1, q2, q3, q4, kP, hkP, hkPi⟩ := Cond.selects_spec hsel
  cases hcls.symm.trans q1
  cases (State.methodFound?_of_named hnamed hy).symm.trans q2
  cases hnamed.symm.trans q3
  have hselP : selectMethod e.platform s.vm cellB.cls mk = .method mk := by rw [Launch.admits_selectMethod X.admits]; exact q4
  obtain ⟨vm₁, X₁, hstep₁⟩ := X.invokevirtual hexec hown hlink hnamed hmethM hstM hkP hkPi hy (a := b) (cell := cellB) hcell
    (fun z h => by rw [h] at hobj; cases hobj) hselP hmethM habM hkP hkPi (g := g) hg (argsL := argsL) (rest := rest) (hlen _ hsigM) hstack hdg
  rcases hK m meth c ⟨T.setVm vm₁, locs, cells, slots⟩ { g with stack := rest } (.invokevirtual index) mk (Value.ref b :: argsL).toArray X₁ hg hsize hdg hW (X₁.named hnamed) (hpre vm₁ X₁.warmed) with ⟨v, B, X', hpost, hsteps⟩ | ⟨q, B, X', hpost, hsteps⟩
  · exact Or.inl ⟨v, vm₁, B, X₁.warmed, X', hpost, fun target h => hstep₁ _ fun acts => by rw [doInvoke_state]; exact hsteps.trans h⟩
  · exact Or.inr ⟨q, vm₁, B, X₁.warmed, X', hpost, hstep₁ _ fun acts => by rw [doInvoke_state]; exact hsteps⟩
theorem vx_callSX (X : Stand p l e R s m args below meth c T locs cells slots) (hexec : p.tables.exec = Jvm.exec) {own : String} {index : Nat} {y : MethodName} {bytes : ByteArray} {maxL : Nat} {ret : Option FieldType} {hh : List (Nat × Nat × Nat × Nat)}
    (hown : s.vm.findClass own = some m.cls) (hlink : (Cond.methodLink own index y).before args s = true) (hstat : (Cond.static y).before args s = true) (hinit : (Cond.initialized y.cls).before args s = true)
    (hcode : (Cond.codeWith y bytes maxL ret hh).before args s = true) (hy : y.cls ≠ "java/lang/invoke/MethodHandle" ∧ y.cls ≠ "java/lang/invoke/VarHandle")
    {W9 : Nat} {Pre : Pt → Array Value → Prop} {Post : Pt → Array Value → Option Value → Pt → Prop} {PostX : Pt → Array Value → Addr → Pt → Prop} (hK : vx_Back l R p e below s args y 3 W9 Pre Post PostX)
    {g : JFrame} (hg : g.method = m) (hsize : g.locals.size = c.maxLocals) {argsL rest : List Value} (hlen : ∀ sig, parseMethodDescriptor y.desc = some sig → argsL.length = sig.parameters.length)
    (hstack : g.stack = argsL.reverse ++ rest) (hW : 2 * g.monitorRoom + (rest.map fun v => v.category).sum ≤ W9) (hdg : decode c.code g.pc = .ok (.invokestatic index, 3))
    (hpre : ∀ vm₁, s.WarmedH vm₁ → Pre ⟨T.setVm vm₁, locs, cells, slots⟩ argsL.toArray) :
    (∃ (v : Option Value) (vm₁ : Vm) (B : Pt), s.WarmedH vm₁ ∧ Stand p l e R s m args below meth c B.U B.locs B.cells B.slots ∧ Post ⟨T.setVm vm₁, locs, cells, slots⟩ argsL.toArray v B ∧
      ∀ target, Steps p.tables e below (B.U.setTop { g with pc := g.pc + 3, stack := v.toList ++ rest }) target → Steps p.tables e below (T.setTop g) target) ∨
    (∃ (q : Addr) (vm₁ : Vm) (B : Pt), s.WarmedH vm₁ ∧ Stand p l e R s m args below meth c B.U B.locs B.cells B.slots ∧ PostX ⟨T.setVm vm₁, locs, cells, slots⟩ argsL.toArray q B ∧
      Steps p.tables e below (T.setTop g) ((B.U.setTop { g with stack := rest }).pushFrame (.throwing q))) := by
  obtain ⟨mk, methM, cM, hnamed, hmethM, -, -, -, -, -, -, hsigM⟩ := Cond.codeWith_spec hcode
  have hstatic : methM.isStatic = true := Cond.static_spec hnamed hmethM hstat
  obtain ⟨kP, hkP, -⟩ := className_of_methodNamed hnamed
  have hinitP : kP.init = .initialized := Cond.initialized_spec (findClass_of_methodNamed hnamed) hkP hinit
  obtain ⟨vm₁, X₁, hstep₁⟩ := X.invokestatic hexec hown hlink hnamed hmethM hstatic hkP hinitP hy (g := g) hg (argsL := argsL) (rest := rest) (hlen _ hsigM) hstack hdg
  rcases hK m meth c ⟨T.setVm vm₁, locs, cells, slots⟩ { g with stack := rest } (.invokestatic index) mk argsL.toArray X₁ hg hsize hdg hW (X₁.named hnamed) (hpre vm₁ X₁.warmed) with ⟨v, B, X', hpost, hsteps⟩ | ⟨q, B, X', hpost, hsteps⟩
  · exact Or.inl ⟨v, vm₁, B, X₁.warmed, X', hpost, fun target h => hstep₁ _ fun acts => by rw [doInvoke_state]; exact hsteps.trans h⟩
  · exact Or.inr ⟨q, vm₁, B, X₁.warmed, X', hpost, hstep₁ _ fun acts => by rw [doInvoke_state]; exact hsteps⟩
theorem vx_callVW (X : Stand p l e R s m args below meth c T locs cells slots) (hexec : p.tables.exec = Jvm.exec) {own C : String} {index : Nat} {y : MethodName} {bytes : ByteArray} {maxL : Nat} {ret : Option FieldType} {hh : List (Nat × Nat × Nat × Nat)}
    (hown : s.vm.findClass own = some m.cls) (hlink : (Cond.methodLink own index y).before args s = true) (hinst : (Cond.instanceMethod y).before args s = true) (hsel : (Cond.selects C y y).before args s = true)
    (hcode : (Cond.codeWith y bytes maxL ret hh).before args s = true) (hy : y.cls ≠ "java/lang/invoke/MethodHandle" ∧ y.cls ≠ "java/lang/invoke/VarHandle")
    {W9 : Nat} {Pre : Pt → Array Value → Prop} {Post : Pt → Array Value → Option Value → Pt → Prop} (hK : Back l R p e below s args y 3 W9 Pre Post)
    {b : Addr} {cellB : Cell} (hcell : T.heap[b]? = some cellB) (hobj : cellB.vm.isStatics = false) (hcls : s.vm.findClass C = some cellB.cls)
    {g : JFrame} (hg : g.method = m) (hsize : g.locals.size = c.maxLocals) {argsL rest : List Value} (hlen : ∀ sig, parseMethodDescriptor y.desc = some sig → argsL.length = sig.parameters.length)
    (hstack : g.stack = argsL.reverse ++ .ref b :: rest) (hW : 2 * g.monitorRoom + (rest.map fun v => v.category).sum ≤ W9) (hdg : decode c.code g.pc = .ok (.invokevirtual index, 3))
    (hpre : ∀ vm₁, s.WarmedH vm₁ → Pre ⟨T.setVm vm₁, locs, cells, slots⟩ (Value.ref b :: argsL).toArray) :
    ∃ (v : Option Value) (vm₁ : Vm) (B : Pt), s.WarmedH vm₁ ∧ Stand p l e R s m args below meth c B.U B.locs B.cells B.slots ∧ Post ⟨T.setVm vm₁, locs, cells, slots⟩ (Value.ref b :: argsL).toArray v B ∧
      ∀ target, Steps p.tables e below (B.U.setTop { g with pc := g.pc + 3, stack := v.toList ++ rest }) target → Steps p.tables e below (T.setTop g) target := by
  obtain ⟨mk, methM, hnamed, hmethM, hstM, habM⟩ := Cond.instanceMethod_spec hinst
  obtain ⟨m8, methM', cM, hn8, hmethM', -, -, -, -, -, -, hsigM⟩ := Cond.codeWith_spec hcode
  cases Option.some.inj (hn8.symm.trans hnamed)
  cases hmethM.symm.trans hmethM'
  obtain ⟨c2, r2, m2, q1, q2, q3, q4, kP, hkP, hkPi⟩ := Cond.selects_spec hsel
  cases hcls.symm.trans q1
  cases (State.methodFound?_of_named hnamed hy).symm.trans q2
  cases hnamed.symm.trans q3
  have hselP : selectMethod e.platform s.vm cellB.cls mk = .method mk := by rw [Launch.admits_selectMethod X.admits]; exact q4
  obtain ⟨vm₁, X₁, hstep₁⟩ := X.invokevirtual hexec hown hlink hnamed hmethM hstM hkP hkPi hy (a := b) (cell := cellB) hcell
    (fun z h => by rw [h] at hobj; cases hobj) hselP hmethM habM hkP hkPi (g := g) hg (argsL := argsL) (rest := rest) (hlen _ hsigM) hstack hdg
  obtain ⟨v, B, X', hpost, hsteps⟩ := hK m meth c ⟨T.setVm vm₁, locs, cells, slots⟩ { g with stack := rest } (.invokevirtual index) mk (Value.ref b :: argsL).toArray X₁ hg hsize hdg hW (X₁.named hnamed) (hpre vm₁ X₁.warmed)
  exact ⟨v, vm₁, B, X₁.warmed, X', hpost, fun target h => hstep₁ _ fun acts => by rw [doInvoke_state]; exact hsteps.trans h⟩
abbrev vx_CVW (R : Room) (s : State) (args : Array Value) (own C : String) (index : Nat) (y : MethodName) (bytes : ByteArray) (maxL : Nat) (ret : Option FieldType) (hh : List (Nat × Nat × Nat × Nat)) (ws : List Cond) (rm : Room) (mc ms n : Nat) : Prop :=
  (rm.cells = mc ∧ rm.slots = ms ∧ rm.frames + 1 ≤ R.frames ∧ 8 + (maxL + 11) + rm.locals ≤ R.locals ∧ (∀ w ∈ ws, ∀ (a' : Array Value) (U : State), s.WarmedH U.vm → w.before a' U = true) ∧ Cond.codeWith y bytes maxL ret hh ∈ ws) ∧
  (Cond.codeWith y bytes maxL ret hh).before args s = true ∧ (Cond.initialized y.cls).before args s = true ∧ (y.cls ≠ "java/lang/invoke/MethodHandle" ∧ y.cls ≠ "java/lang/invoke/VarHandle") ∧
  (∀ sig, parseMethodDescriptor y.desc = some sig → n = sig.parameters.length) ∧ (Cond.methodLink own index y).before args s = true ∧ (Cond.instanceMethod y).before args s = true ∧ (Cond.selects C y y).before args s = true
theorem vx_cwVW {own C : String} {index maxL mc ms : Nat} {y : MethodName} {bytes : ByteArray} {ret : Option FieldType} {hh : List (Nat × Nat × Nat × Nat)} {Ts ws ws' : List Cond} {rm : Room} (n : Nat) (ht : ∀ w ∈ Ts, w.before args s = true) (hT : GoodIn Ts (wsV own index C y ws)) (hw : ws = Cond.codeWith y bytes maxL ret hh :: ws') (hrc : rm.cells = mc) (hrs : rm.slots = ms)
    (hd : y.cls = C ∧ y.cls ≠ "java/lang/invoke/MethodHandle" ∧ y.cls ≠ "java/lang/invoke/VarHandle" ∧ (parseMethodDescriptor y.desc).map (fun d => d.parameters.length) = some n) (hR : rm.frames + 1 ≤ R.frames ∧ 8 + (maxL + 11) + rm.locals ≤ R.locals) :
    vx_CVW R s args own C index y bytes maxL ret hh ws rm mc ms n := by
  obtain ⟨hC, hd⟩ := hd
  subst hC
  have ok : ∀ w ∈ wsV own index y.cls y ws, w.before args s = true := fun w h => ht w (hT w h).1
  have hG : GoodIn Ts ws := fun w h => hT w (by unfold wsV; exact List.mem_append_right _ h)
  have hc : Cond.codeWith y bytes maxL ret hh ∈ ws := by rw [hw]; exact List.mem_cons_self
  refine ⟨⟨hrc, hrs, hR.1, hR.2, pay_in ht hG, hc⟩, ht _ (hG _ hc).1, ok _ (by simp [wsV]), ⟨hd.1, hd.2.1⟩, fun sig h => ?_, ok _ (by simp [wsV]), ok _ (by simp [wsV]), ok _ (by simp [wsV])⟩
  have h2 := hd.2.2
  rw [h] at h2
  exact (Option.some.inj h2).symm
theorem vx_runVW {y : MethodName} {bytes cc : ByteArray} {maxL nL mc ms n index : Nat} {ret : Option FieldType} {hh : List (Nat × Nat × Nat × Nat)} {ws : List Cond} {rm : Room} {Pc : Array Value → State → Prop} {Qc : Array Value → State → Outcome → State → Prop} {free : Addr → Prop} {Ts : List Cond} {own C : String} {b : Addr} {As rest : List Value} {g : JFrame}
    (S : CallFix p m c cc nL s args Ts own) (hM : Met l y ws rm Pc Qc mc ms free) (cw : vx_CVW R s args own C index y bytes maxL ret hh ws rm mc ms n) (hp : PreV s H C b Pc As)
    (hg : g.method = m) (hn : As.length = n) (hsize : g.locals.size = nL) (hstack : g.stack = As.reverse ++ .ref b :: rest) (hW : 2 * g.monitorRoom + (rest.map fun v => v.category).sum ≤ 8) (hdg : decode cc g.pc = .ok (.invokevirtual index, 3)) (hf : cells + mc ≤ R.cells ∧ slots + ms ≤ R.slots) :
    va_Run p l e R s m args below meth c H locs cells slots mc ms g rest (Qc (Value.ref b :: As).toArray) free := by
  obtain ⟨⟨hrc, hrs, hfr, hlo, hws, hcw⟩, hcode, hini, hy, hlen, hl, hin, hse⟩ := cw
  have hK : Back l R p e below s args y 3 8 (PreOf R mc ms Pc) (PostOf Qc mc ms free) := va_backW (hh := hh) (bytes := bytes) (maxL := maxL) (ret := ret) hM hp.1 hrc hrs hfr hlo hws hcw (fun a' U hW => word_at hW (Or.inl (by first | rfl | simp [Cond.onTables, Cond.keeps, Cond.steady])) hini)
  obtain ⟨hx, hb, hml, ho, -⟩ := S
  obtain ⟨-, ⟨cellB, hcB, hoB, hclB⟩, hPc⟩ := hp
  intro T hT X
  obtain ⟨v, vm₁, ⟨U', l2, c2, s2⟩, hW₁, X', ⟨g', mk, t, L, e1, e2, hq, h1, hL, h2, h3⟩, st⟩ := vx_callVW X hx (C := C) (hh := hh) (bytes := bytes) (maxL := maxL) (ret := ret) ho hl hin hse hcode hy hK (by rw [hT]; exact hcB) hoB hclB hg (hsize.trans hml.symm) (argsL := As) (rest := rest) (fun sig h => hn.trans (hlen sig h)) hstack hW (by rw [hb]; exact hdg)
    (fun vm₁ hW₁ => ⟨hf.1, hf.2, hPc (T.setVm vm₁) hT hW₁⟩)
  dsimp only [Pt.U, Pt.locs, Pt.cells, Pt.slots] at X' e1 e2 h1 h2 h3 st
  subst h1; subst h2; subst h3
  exact ⟨v, (T.setVm vm₁).calling g' mk (Value.ref b :: As).toArray, t, U', L, hT, X', hL, e1, e2, hq, st⟩
section
variable {y : MethodName} {bytes cc : ByteArray} {maxL nL mc ms n index : Nat} {ret : Option FieldType} {ws : List Cond} {rm : Room} {Pc : Array Value → State → Prop} {Qc : Array Value → State → Outcome → State → Prop} {XC : String → State → State → Prop} {free : Addr → Prop} {Ts : List Cond} {own C : String} {b : Addr} {As rest : List Value} {g : JFrame}
theorem vx_runVX {hh : List (Nat × Nat × Nat × Nat)} (S : CallFix p m c cc nL s args Ts own) (hM : vx_Met l y ws rm Pc Qc XC mc ms free) (cw : vx_CVW R s args own C index y bytes maxL ret hh ws rm mc ms n) (hp : PreV s H C b Pc As)
    (hg : g.method = m) (hn : As.length = n) (hsize : g.locals.size = nL) (hstack : g.stack = As.reverse ++ .ref b :: rest) (hW : 2 * g.monitorRoom + (rest.map fun v => v.category).sum ≤ 8) (hdg : decode cc g.pc = .ok (.invokevirtual index, 3)) (hf : cells + mc ≤ R.cells ∧ slots + ms ≤ R.slots) :
    vx_Run p l e R s m args below meth c H locs cells slots mc ms g rest (Qc (Value.ref b :: As).toArray) XC free := by
  obtain ⟨⟨hrc, hrs, hfr, hlo, hws, hcw⟩, hcode, hini, hy, hlen, hl, hin, hse⟩ := cw
  have hK : vx_Back l R p e below s args y 3 8 (PreOf R mc ms Pc) (PostOf Qc mc ms free) (vx_Post XC mc ms free) := vx_backW (hh := hh) (bytes := bytes) (maxL := maxL) (ret := ret) hM hp.1 hrc hrs hfr hlo hws hcw (fun a' U hW => word_at hW (Or.inl (by first | rfl | simp [Cond.onTables, Cond.keeps, Cond.steady])) hini)
  obtain ⟨hx, hb, hml, ho, -⟩ := S
  obtain ⟨-, ⟨cellB, hcB, hoB, hclB⟩, hPc⟩ := hp
  intro T hT X
  rcases vx_callVX X hx (C := C) (hh := hh) (bytes := bytes) (maxL := maxL) (ret := ret) ho hl hin hse hcode hy hK (by rw [hT]; exact hcB) hoB hclB hg (hsize.trans hml.symm) (argsL := As) (rest := rest) (fun sig h => hn.trans (hlen sig h)) hstack hW (by rw [hb]; exact hdg)
    (fun vm₁ hW₁ => ⟨hf.1, hf.2, hPc (T.setVm vm₁) hT hW₁⟩) with ⟨v, vm₁, ⟨U', l2, c2, s2⟩, hW₁, X', ⟨g', mk, t, L, e1, e2, hq, h1, hL, h2, h3⟩, st⟩ | ⟨q, vm₁, ⟨U', l2, c2, s2⟩, hW₁, X', ⟨g', mk, t, L, E, ce, e1, e2, hq, hce, hcv, hcl, h1, hL, h2, h3⟩, st⟩
  · dsimp only [Pt.U, Pt.locs, Pt.cells, Pt.slots] at X' e1 e2 h1 h2 h3 st
    subst h1; subst h2; subst h3
    exact Or.inl ⟨v, (T.setVm vm₁).calling g' mk (Value.ref b :: As).toArray, t, U', L, hT, X', hL, e1, e2, hq, st⟩
  · dsimp only [Pt.U, Pt.locs, Pt.cells, Pt.slots] at X' e1 e2 h1 h2 h3 st hcl
    subst h1; subst h2; subst h3
    exact Or.inr ⟨q, (T.setVm vm₁).calling g' mk (Value.ref b :: As).toArray, t, U', L, E, ce, hT, X', hL, e1, e2, hq, hce, hcv, vx_cls hW₁ hcl, st⟩
theorem vx_runSX {hh : List (Nat × Nat × Nat × Nat)} (S : CallFix p m c cc nL s args Ts own) (hM : vx_Met l y ws rm Pc Qc XC mc ms free) (cw : vx_CSW R s args own index y bytes maxL ret hh ws rm mc ms n) (hp : PreS s H Pc As)
    (hg : g.method = m) (hn : As.length = n) (hsize : g.locals.size = nL) (hstack : g.stack = As.reverse ++ rest) (hW : 2 * g.monitorRoom + (rest.map fun v => v.category).sum ≤ 8) (hdg : decode cc g.pc = .ok (.invokestatic index, 3)) (hf : cells + mc ≤ R.cells ∧ slots + ms ≤ R.slots) :
    vx_Run p l e R s m args below meth c H locs cells slots mc ms g rest (Qc As.toArray) XC free := by
  obtain ⟨⟨hrc, hrs, hfr, hlo, hws, hcw⟩, hcode, hini, hy, hlen, hl, hstt⟩ := cw
  have hK : vx_Back l R p e below s args y 3 8 (PreOf R mc ms Pc) (PostOf Qc mc ms free) (vx_Post XC mc ms free) := vx_backW (hh := hh) (bytes := bytes) (maxL := maxL) (ret := ret) hM hp.1 hrc hrs hfr hlo hws hcw (fun a' U hW => word_at hW (Or.inl (by first | rfl | simp [Cond.onTables, Cond.keeps, Cond.steady])) hini)
  obtain ⟨hx, hb, hml, ho, -⟩ := S
  intro T hT X
  rcases vx_callSX X hx (hh := hh) (bytes := bytes) (maxL := maxL) (ret := ret) ho hl hstt hini hcode hy hK hg (hsize.trans hml.symm) (argsL := As) (rest := rest) (fun sig h => hn.trans (hlen sig h)) hstack hW (by rw [hb]; exact hdg)
    (fun vm₁ hW₁ => ⟨hf.1, hf.2, hp.2 (T.setVm vm₁) hT hW₁⟩) with ⟨v, vm₁, ⟨U', l2, c2, s2⟩, hW₁, X', ⟨g', mk, t, L, e1, e2, hq, h1, hL, h2, h3⟩, st⟩ | ⟨q, vm₁, ⟨U', l2, c2, s2⟩, hW₁, X', ⟨g', mk, t, L, E, ce, e1, e2, hq, hce, hcv, hcl, h1, hL, h2, h3⟩, st⟩
  · dsimp only [Pt.U, Pt.locs, Pt.cells, Pt.slots] at X' e1 e2 h1 h2 h3 st
    subst h1; subst h2; subst h3
    exact Or.inl ⟨v, (T.setVm vm₁).calling g' mk As.toArray, t, U', L, hT, X', hL, e1, e2, hq, st⟩
  · dsimp only [Pt.U, Pt.locs, Pt.cells, Pt.slots] at X' e1 e2 h1 h2 h3 st hcl
    subst h1; subst h2; subst h3
    exact Or.inr ⟨q, (T.setVm vm₁).calling g' mk As.toArray, t, U', L, E, ce, hT, X', hL, e1, e2, hq, hce, hcv, vx_cls hW₁ hcl, st⟩
end
end VXH
theorem vx_ofWH {l : Launch} {y : MethodName} {ws ws' : List Cond} {rm : Room} {Pc : Array Value → State → Prop} {Qc : Array Value → State → Outcome → State → Prop} {XC : String → State → State → Prop} {mc ms : Nat} {free : Addr → Prop} {cc : ByteArray} {maxL : Nat} {ret : Option FieldType} {hh : List (Nat × Nat × Nat × Nat)}
    (hy : plainName y.cls = true) (hw : ws = Cond.codeWith y cc maxL ret hh :: ws')
    (body : ∀ p e s m args below meth c s₁, BodyLoose p l y (headSpec ws rm) cc maxL ret e s m args below meth c s₁ → c.maxLocals = maxL → Pc args s →
      W p l e (headSpec ws rm).room s m args below meth c s.heap [] 0 0 (vx_MQ below Qc XC args s mc ms free) (entryFrame m args maxL)) : vx_Met l y ws rm Pc Qc XC mc ms free := by
  refine MetFree.of_bodyS (code := cc) (maxLocals := maxL) (ret := ret) hy ?_ ?_
  · intro args s m h hn
    obtain ⟨m9, meth, c, hn9, h1, h2, h3, h4, -, h5, h6, -⟩ := Cond.codeWith_spec (atoms_spec (ws := ws) h _ (by rw [hw]; exact List.mem_cons_self))
    cases hn.symm.trans hn9
    exact ⟨meth, c, h1, h2, h3, h4, h5, h6⟩
  · intro p e s m args below meth c s₁ B hml hP _
    have hh0 : s₁.heap = s.heap := by rw [B.state]; rfl
    obtain ⟨t, a1, o, b1, b2, b3⟩ := body p e s m args below meth c s₁ B hml hP s₁ hh0 (Stand.of_body B)
    exact ⟨t, o, a1, b1, b2, b3⟩
/-! ===== END ===== -/

/-! ===== BEGIN printed: names, fields, word lists, decode rows ===== -/
def RX0 : String := "LevelRings$Acts"
def TX0 : u_T := fun k => match k with
  | 0 => ("LevelRings$Acts", "nets", "[LLevelRings$Net;", true)
  | 1 => ("LevelRings$Acts", "top", "I", false)
  | _ => ("LevelRings$Acts", "size", "I", false)
def tyX0 : Nat → FieldType := fun k => match k with
  | 0 => .array (.object "LevelRings$Net")
  | 1 => .int
  | _ => .int
abbrev wsX00 : List Cond := u_ws RX0 TX0 3
theorem nmX0 : ∀ a, a < 3 → ∀ b, b < 3 → a ≠ b → (TX0 a).2.1 ≠ (TX0 b).2.1 := by decide +kernel
theorem tyX0_ok : ∀ k, k < 3 → parseFieldDescriptor (TX0 k).2.2.1 = some (tyX0 k) := by decide +kernel
abbrev cX0_init : ByteArray := prog_2_method_1_code
def yX0_init : MethodName := ⟨RX0, "<init>", "()V"⟩
abbrev cX0_push : ByteArray := prog_2_method_2_code
def yX0_push : MethodName := ⟨RX0, "push", "(LLevelRings$Net;)V"⟩
abbrev cX0_popInto : ByteArray := prog_2_method_3_code
def yX0_popInto : MethodName := ⟨RX0, "popInto", "(LLevelRings$Net;)V"⟩
abbrev cX0_forget : ByteArray := prog_2_method_4_code
def yX0_forget : MethodName := ⟨RX0, "forget", "()V"⟩
def RX1 : String := "LevelRings$Balance"
def TX1 : u_T := fun k => match k with
  | 0 => ("LevelRings$Balance", "sought", "I", false)
  | 1 => ("LevelRings$Balance", "rowOf", "[I", true)
  | 2 => ("LevelRings$Balance", "rows", "[[J", true)
  | 3 => ("LevelRings$Balance", "above", "[J", true)
  | _ => ("LevelRings$Balance", "below", "J", false)
def tyX1 : Nat → FieldType := fun k => match k with
  | 0 => .int
  | 1 => .array .int
  | 2 => .array (.array .long)
  | 3 => .array .long
  | _ => .long
abbrev wsX10 : List Cond := u_ws RX1 TX1 5
theorem nmX1 : ∀ a, a < 5 → ∀ b, b < 5 → a ≠ b → (TX1 a).2.1 ≠ (TX1 b).2.1 := by decide +kernel
theorem tyX1_ok : ∀ k, k < 5 → parseFieldDescriptor (TX1 k).2.2.1 = some (tyX1 k) := by decide +kernel
abbrev cX1_init : ByteArray := prog_3_method_1_code
def yX1_init : MethodName := ⟨RX1, "<init>", "()V"⟩
abbrev cX1_settle : ByteArray := prog_3_method_2_code
def yX1_settle : MethodName := ⟨RX1, "settle", "(LLevelRings$Net;LLevelRings$Ties;)V"⟩
abbrev cX1_offAbove : ByteArray := prog_3_method_3_code
def yX1_offAbove : MethodName := ⟨RX1, "offAbove", "(LLevelRings$Net;I)J"⟩
abbrev cX1_sumAbove : ByteArray := prog_3_method_4_code
def yX1_sumAbove : MethodName := ⟨RX1, "sumAbove", "(LLevelRings$Net;)J"⟩
abbrev cX1_checkAbove : ByteArray := prog_3_method_5_code
def yX1_checkAbove : MethodName := ⟨RX1, "checkAbove", "(LLevelRings$Net;I)J"⟩
abbrev cX1_fallAbove : ByteArray := prog_3_method_6_code
def yX1_fallAbove : MethodName := ⟨RX1, "fallAbove", "(LLevelRings$Net;I)J"⟩
abbrev cX1_fallBelow : ByteArray := prog_3_method_7_code
def yX1_fallBelow : MethodName := ⟨RX1, "fallBelow", "(LLevelRings$Net;I)J"⟩
abbrev cX1_fallsAbove : ByteArray := prog_3_method_8_code
def yX1_fallsAbove : MethodName := ⟨RX1, "fallsAbove", "(LLevelRings$Net;II)Z"⟩
abbrev cX1_greatestFall : ByteArray := prog_3_method_9_code
def yX1_greatestFall : MethodName := ⟨RX1, "greatestFall", "(LLevelRings$Net;)I"⟩
abbrev cX1_doubtAbove : ByteArray := prog_3_method_10_code
def yX1_doubtAbove : MethodName := ⟨RX1, "doubtAbove", "(II)J"⟩
abbrev cX1_inverse : ByteArray := prog_3_method_11_code
def yX1_inverse : MethodName := ⟨RX1, "inverse", "(II)J"⟩
abbrev cX1_weightedSquare : ByteArray := prog_3_method_12_code
def yX1_weightedSquare : MethodName := ⟨RX1, "weightedSquare", "(LLevelRings$Net;I)J"⟩
abbrev cX1_chooseSought : ByteArray := prog_3_method_13_code
def yX1_chooseSought : MethodName := ⟨RX1, "chooseSought", "(LLevelRings$Net;LLevelRings$Ties;)V"⟩
abbrev cX1_knownHeight : ByteArray := prog_3_method_14_code
def yX1_knownHeight : MethodName := ⟨RX1, "knownHeight", "(LLevelRings$Net;I)J"⟩
abbrev cX1_pull : ByteArray := prog_3_method_15_code
def yX1_pull : MethodName := ⟨RX1, "pull", "(LLevelRings$Net;IIJJ)V"⟩
abbrev cX1_eliminate : ByteArray := prog_3_method_16_code
def yX1_eliminate : MethodName := ⟨RX1, "eliminate", "()V"⟩
abbrev cX1_clearColumn : ByteArray := prog_3_method_17_code
def yX1_clearColumn : MethodName := ⟨RX1, "clearColumn", "(IIJ)V"⟩
def RX2 : String := "LevelRings$Fractions"
def TX2 : u_T := fun k => match k with
  | _ => ("", "", "", false)
def tyX2 : Nat → FieldType := fun k => match k with
  | _ => .int
abbrev wsX20 : List Cond := u_ws RX2 TX2 0
theorem nmX2 : ∀ a, a < 0 → ∀ b, b < 0 → a ≠ b → (TX2 a).2.1 ≠ (TX2 b).2.1 := by decide +kernel
theorem tyX2_ok : ∀ k, k < 0 → parseFieldDescriptor (TX2 k).2.2.1 = some (tyX2 k) := by decide +kernel
abbrev cX2_half : ByteArray := prog_4_method_2_code
def yX2_half : MethodName := ⟨RX2, "half", "(JJI)J"⟩
abbrev cX2_quotient : ByteArray := prog_4_method_3_code
def yX2_quotient : MethodName := ⟨RX2, "quotient", "(JJ)J"⟩
abbrev cX2_floor : ByteArray := prog_4_method_4_code
def yX2_floor : MethodName := ⟨RX2, "floor", "(JJ)J"⟩
abbrev cX2_divisor : ByteArray := prog_4_method_5_code
def yX2_divisor : MethodName := ⟨RX2, "divisor", "(JJ)J"⟩
abbrev cX2_isGreater : ByteArray := prog_4_method_6_code
def yX2_isGreater : MethodName := ⟨RX2, "isGreater", "(JJJJ)Z"⟩
def RX3 : String := "LevelRings$Net"
def TX3 : u_T := fun k => match k with
  | 0 => ("LevelRings$Net", "points", "I", false)
  | 1 => ("LevelRings$Net", "fixed", "I", false)
  | 2 => ("LevelRings$Net", "heights", "[I", true)
  | 3 => ("LevelRings$Net", "lines", "I", false)
  | 4 => ("LevelRings$Net", "sound", "I", false)
  | 5 => ("LevelRings$Net", "first", "[I", true)
  | 6 => ("LevelRings$Net", "second", "[I", true)
  | 7 => ("LevelRings$Net", "rise", "[I", true)
  | _ => ("LevelRings$Net", "weight", "[I", true)
def tyX3 : Nat → FieldType := fun k => match k with
  | 0 => .int
  | 1 => .int
  | 2 => .array .int
  | 3 => .int
  | 4 => .int
  | 5 => .array .int
  | 6 => .array .int
  | 7 => .array .int
  | _ => .array .int
abbrev wsX30 : List Cond := u_ws RX3 TX3 9
theorem nmX3 : ∀ a, a < 9 → ∀ b, b < 9 → a ≠ b → (TX3 a).2.1 ≠ (TX3 b).2.1 := by decide +kernel
theorem tyX3_ok : ∀ k, k < 9 → parseFieldDescriptor (TX3 k).2.2.1 = some (tyX3 k) := by decide +kernel
abbrev cX3_init : ByteArray := prog_5_method_1_code
def yX3_init : MethodName := ⟨RX3, "<init>", "()V"⟩
abbrev cX3_clear : ByteArray := prog_5_method_2_code
def yX3_clear : MethodName := ⟨RX3, "clear", "()V"⟩
abbrev cX3_copyFrom : ByteArray := prog_5_method_3_code
def yX3_copyFrom : MethodName := ⟨RX3, "copyFrom", "(LLevelRings$Net;)V"⟩
abbrev cX3_putPoint : ByteArray := prog_5_method_4_code
def yX3_putPoint : MethodName := ⟨RX3, "putPoint", "(ZI)V"⟩
abbrev cX3_putLine : ByteArray := prog_5_method_5_code
def yX3_putLine : MethodName := ⟨RX3, "putLine", "(IIII)I"⟩
abbrev cX3_isFixed : ByteArray := prog_5_method_6_code
def yX3_isFixed : MethodName := ⟨RX3, "isFixed", "(I)Z"⟩
abbrev cX3_soundLinesAt : ByteArray := prog_5_method_7_code
def yX3_soundLinesAt : MethodName := ⟨RX3, "soundLinesAt", "(I)I"⟩
def RX4 : String := "LevelRings$Reader"
def TX4 : u_T := fun k => match k with
  | 0 => ("LevelRings$Reader", "tape", "LLevelRings$Tape;", true)
  | 1 => ("LevelRings$Reader", "names", "[J", true)
  | 2 => ("LevelRings$Reader", "pointWord", "J", true)
  | 3 => ("LevelRings$Reader", "lineWord", "J", true)
  | 4 => ("LevelRings$Reader", "upWord", "J", true)
  | 5 => ("LevelRings$Reader", "downWord", "J", true)
  | 6 => ("LevelRings$Reader", "at", "I", false)
  | 7 => ("LevelRings$Reader", "kind", "I", false)
  | 8 => ("LevelRings$Reader", "place", "I", false)
  | 9 => ("LevelRings$Reader", "value", "J", false)
  | 10 => ("LevelRings$Reader", "height", "I", false)
  | 11 => ("LevelRings$Reader", "rows", "I", false)
  | 12 => ("LevelRings$Reader", "faultKind", "I", false)
  | _ => ("LevelRings$Reader", "faultPlace", "I", false)
def tyX4 : Nat → FieldType := fun k => match k with
  | 0 => .object "LevelRings$Tape"
  | 1 => .array .long
  | 2 => .long
  | 3 => .long
  | 4 => .long
  | 5 => .long
  | 6 => .int
  | 7 => .int
  | 8 => .int
  | 9 => .long
  | 10 => .int
  | 11 => .int
  | 12 => .int
  | _ => .int
abbrev wsX40 : List Cond := u_ws RX4 TX4 14
theorem nmX4 : ∀ a, a < 14 → ∀ b, b < 14 → a ≠ b → (TX4 a).2.1 ≠ (TX4 b).2.1 := by decide +kernel
theorem tyX4_ok : ∀ k, k < 14 → parseFieldDescriptor (TX4 k).2.2.1 = some (tyX4 k) := by decide +kernel
abbrev cX4_init : ByteArray := prog_6_method_1_code
def yX4_init : MethodName := ⟨RX4, "<init>", "(LLevelRings$Tape;)V"⟩
abbrev cX4_readsInto : ByteArray := prog_6_method_2_code
def yX4_readsInto : MethodName := ⟨RX4, "readsInto", "(LLevelRings$Net;)Z"⟩
abbrev cX4_readsPoint : ByteArray := prog_6_method_3_code
def yX4_readsPoint : MethodName := ⟨RX4, "readsPoint", "(LLevelRings$Net;)Z"⟩
abbrev cX4_readsLine : ByteArray := prog_6_method_4_code
def yX4_readsLine : MethodName := ⟨RX4, "readsLine", "(LLevelRings$Net;)Z"⟩
abbrev cX4_readsTold : ByteArray := prog_6_method_5_code
def yX4_readsTold : MethodName := ⟨RX4, "readsTold", "(I)I"⟩
abbrev cX4_readsHeight : ByteArray := prog_6_method_6_code
def yX4_readsHeight : MethodName := ⟨RX4, "readsHeight", "()Z"⟩
abbrev cX4_readsSemicolon : ByteArray := prog_6_method_7_code
def yX4_readsSemicolon : MethodName := ⟨RX4, "readsSemicolon", "()Z"⟩
abbrev cX4_isWord : ByteArray := prog_6_method_8_code
def yX4_isWord : MethodName := ⟨RX4, "isWord", "(J)Z"⟩
abbrev cX4_isName : ByteArray := prog_6_method_9_code
def yX4_isName : MethodName := ⟨RX4, "isName", "()Z"⟩
abbrev cX4_named : ByteArray := prog_6_method_10_code
def yX4_named : MethodName := ⟨RX4, "named", "(I)I"⟩
abbrev cX4_fails : ByteArray := prog_6_method_11_code
def yX4_fails : MethodName := ⟨RX4, "fails", "(I)Z"⟩
abbrev cX4_step : ByteArray := prog_6_method_12_code
def yX4_step : MethodName := ⟨RX4, "step", "()V"⟩
abbrev cX4_takeWordOrNumber : ByteArray := prog_6_method_13_code
def yX4_takeWordOrNumber : MethodName := ⟨RX4, "takeWordOrNumber", "()V"⟩
abbrev cX4_withLetter : ByteArray := prog_6_method_14_code
def yX4_withLetter : MethodName := ⟨RX4, "withLetter", "(JI)J"⟩
abbrev cX4_packed : ByteArray := prog_6_method_15_code
def yX4_packed : MethodName := ⟨RX4, "packed", "(Ljava/lang/String;)J"⟩
def RX5 : String := "LevelRings$Tape"
def TX5 : u_T := fun k => match k with
  | 0 => ("LevelRings$Tape", "bytes", "[B", true)
  | _ => ("LevelRings$Tape", "length", "I", false)
def tyX5 : Nat → FieldType := fun k => match k with
  | 0 => .array .byte
  | _ => .int
abbrev wsX50 : List Cond := u_ws RX5 TX5 2
theorem nmX5 : ∀ a, a < 2 → ∀ b, b < 2 → a ≠ b → (TX5 a).2.1 ≠ (TX5 b).2.1 := by decide +kernel
theorem tyX5_ok : ∀ k, k < 2 → parseFieldDescriptor (TX5 k).2.2.1 = some (tyX5 k) := by decide +kernel
abbrev cX5_init : ByteArray := prog_7_method_1_code
def yX5_init : MethodName := ⟨RX5, "<init>", "()V"⟩
abbrev cX5_push : ByteArray := prog_7_method_2_code
def yX5_push : MethodName := ⟨RX5, "push", "(I)V"⟩
def RX6 : String := "LevelRings$Ties"
def TX6 : u_T := fun k => match k with
  | 0 => ("LevelRings$Ties", "part", "[I", true)
  | 1 => ("LevelRings$Ties", "tree", "I", false)
  | 2 => ("LevelRings$Ties", "ringLines", "I", false)
  | 3 => ("LevelRings$Ties", "bridges", "I", false)
  | 4 => ("LevelRings$Ties", "fixedPart", "I", false)
  | 5 => ("LevelRings$Ties", "way", "[I", true)
  | _ => ("LevelRings$Ties", "climb", "[I", true)
def tyX6 : Nat → FieldType := fun k => match k with
  | 0 => .array .int
  | 1 => .int
  | 2 => .int
  | 3 => .int
  | 4 => .int
  | 5 => .array .int
  | _ => .array .int
abbrev wsX60 : List Cond := u_ws RX6 TX6 7
theorem nmX6 : ∀ a, a < 7 → ∀ b, b < 7 → a ≠ b → (TX6 a).2.1 ≠ (TX6 b).2.1 := by decide +kernel
theorem tyX6_ok : ∀ k, k < 7 → parseFieldDescriptor (TX6 k).2.2.1 = some (tyX6 k) := by decide +kernel
abbrev cX6_init : ByteArray := prog_8_method_1_code
def yX6_init : MethodName := ⟨RX6, "<init>", "()V"⟩
abbrev cX6_settle : ByteArray := prog_8_method_2_code
def yX6_settle : MethodName := ⟨RX6, "settle", "(LLevelRings$Net;)V"⟩
abbrev cX6_isRoot : ByteArray := prog_8_method_3_code
def yX6_isRoot : MethodName := ⟨RX6, "isRoot", "(I)Z"⟩
abbrev cX6_parts : ByteArray := prog_8_method_4_code
def yX6_parts : MethodName := ⟨RX6, "parts", "(LLevelRings$Net;)I"⟩
abbrev cX6_ringOf : ByteArray := prog_8_method_5_code
def yX6_ringOf : MethodName := ⟨RX6, "ringOf", "(LLevelRings$Net;I)I"⟩
abbrev cX6_closingOf : ByteArray := prog_8_method_6_code
def yX6_closingOf : MethodName := ⟨RX6, "closingOf", "(LLevelRings$Net;I)I"⟩
abbrev cX6_tieFixed : ByteArray := prog_8_method_7_code
def yX6_tieFixed : MethodName := ⟨RX6, "tieFixed", "(LLevelRings$Net;)I"⟩
abbrev cX6_growTree : ByteArray := prog_8_method_8_code
def yX6_growTree : MethodName := ⟨RX6, "growTree", "(LLevelRings$Net;)V"⟩
abbrev cX6_merge : ByteArray := prog_8_method_9_code
def yX6_merge : MethodName := ⟨RX6, "merge", "(II)V"⟩
abbrev cX6_walkTree : ByteArray := prog_8_method_10_code
def yX6_walkTree : MethodName := ⟨RX6, "walkTree", "(LLevelRings$Net;)V"⟩
abbrev cX6_walkLine : ByteArray := prog_8_method_11_code
def yX6_walkLine : MethodName := ⟨RX6, "walkLine", "(LLevelRings$Net;II)I"⟩
def RX7 : String := "LevelRings"
def TX7 : u_T := fun k => match k with
  | 0 => ("LevelRings", "tape", "LLevelRings$Tape;", true)
  | 1 => ("LevelRings", "reader", "LLevelRings$Reader;", true)
  | 2 => ("LevelRings", "now", "LLevelRings$Net;", true)
  | 3 => ("LevelRings", "spare", "LLevelRings$Net;", true)
  | 4 => ("LevelRings", "acts", "LLevelRings$Acts;", true)
  | 5 => ("LevelRings", "images", "[LLevelRings$Net;", true)
  | 6 => ("LevelRings", "imagesKept", "I", false)
  | 7 => ("LevelRings", "faultKind", "I", false)
  | 8 => ("LevelRings", "faultRow", "I", false)
  | 9 => ("LevelRings", "ties", "LLevelRings$Ties;", true)
  | 10 => ("LevelRings", "balance", "LLevelRings$Balance;", true)
  | _ => ("LevelRings", "stale", "Z", false)
def tyX7 : Nat → FieldType := fun k => match k with
  | 0 => .object "LevelRings$Tape"
  | 1 => .object "LevelRings$Reader"
  | 2 => .object "LevelRings$Net"
  | 3 => .object "LevelRings$Net"
  | 4 => .object "LevelRings$Acts"
  | 5 => .array (.object "LevelRings$Net")
  | 6 => .int
  | 7 => .int
  | 8 => .int
  | 9 => .object "LevelRings$Ties"
  | 10 => .object "LevelRings$Balance"
  | _ => .boolean
abbrev wsX70 : List Cond := u_ws RX7 TX7 12
theorem nmX7 : ∀ a, a < 12 → ∀ b, b < 12 → a ≠ b → (TX7 a).2.1 ≠ (TX7 b).2.1 := by decide +kernel
theorem tyX7_ok : ∀ k, k < 12 → parseFieldDescriptor (TX7 k).2.2.1 = some (tyX7 k) := by decide +kernel
abbrev cX7_init : ByteArray := prog_1_method_1_code
def yX7_init : MethodName := ⟨RX7, "<init>", "()V"⟩
abbrev cX7_feed : ByteArray := prog_1_method_2_code
def yX7_feed : MethodName := ⟨RX7, "feed", "(IIIII)I"⟩
abbrev cX7_end : ByteArray := prog_1_method_3_code
def yX7_end : MethodName := ⟨RX7, "end", "(I)Z"⟩
abbrev cX7_net : ByteArray := prog_1_method_4_code
def yX7_net : MethodName := ⟨RX7, "net", "()I"⟩
abbrev cX7_fault : ByteArray := prog_1_method_5_code
def yX7_fault : MethodName := ⟨RX7, "fault", "(I)I"⟩
abbrev cX7_point : ByteArray := prog_1_method_6_code
def yX7_point : MethodName := ⟨RX7, "point", "(II)I"⟩
abbrev cX7_line : ByteArray := prog_1_method_7_code
def yX7_line : MethodName := ⟨RX7, "line", "(II)I"⟩
abbrev cX7_height : ByteArray := prog_1_method_8_code
def yX7_height : MethodName := ⟨RX7, "height", "(II)J"⟩
abbrev cX7_rounded : ByteArray := prog_1_method_9_code
def yX7_rounded : MethodName := ⟨RX7, "rounded", "(I)I"⟩
abbrev cX7_off : ByteArray := prog_1_method_10_code
def yX7_off : MethodName := ⟨RX7, "off", "(II)J"⟩
abbrev cX7_sum : ByteArray := prog_1_method_11_code
def yX7_sum : MethodName := ⟨RX7, "sum", "(I)J"⟩
abbrev cX7_rings : ByteArray := prog_1_method_12_code
def yX7_rings : MethodName := ⟨RX7, "rings", "()I"⟩
abbrev cX7_ring : ByteArray := prog_1_method_13_code
def yX7_ring : MethodName := ⟨RX7, "ring", "(I)I"⟩
abbrev cX7_closes : ByteArray := prog_1_method_14_code
def yX7_closes : MethodName := ⟨RX7, "closes", "(I)I"⟩
abbrev cX7_worst : ByteArray := prog_1_method_15_code
def yX7_worst : MethodName := ⟨RX7, "worst", "()I"⟩
abbrev cX7_check : ByteArray := prog_1_method_16_code
def yX7_check : MethodName := ⟨RX7, "check", "(II)J"⟩
abbrev cX7_fall : ByteArray := prog_1_method_17_code
def yX7_fall : MethodName := ⟨RX7, "fall", "(II)J"⟩
abbrev cX7_wanted : ByteArray := prog_1_method_18_code
def yX7_wanted : MethodName := ⟨RX7, "wanted", "(II)J"⟩
abbrev cX7_blunder : ByteArray := prog_1_method_19_code
def yX7_blunder : MethodName := ⟨RX7, "blunder", "()I"⟩
abbrev cX7_doubt : ByteArray := prog_1_method_20_code
def yX7_doubt : MethodName := ⟨RX7, "doubt", "(III)J"⟩
abbrev cX7_next : ByteArray := prog_1_method_21_code
def yX7_next : MethodName := ⟨RX7, "next", "(I)I"⟩
abbrev cX7_strike : ByteArray := prog_1_method_22_code
def yX7_strike : MethodName := ⟨RX7, "strike", "(I)I"⟩
abbrev cX7_mend : ByteArray := prog_1_method_23_code
def yX7_mend : MethodName := ⟨RX7, "mend", "(I)I"⟩
abbrev cX7_snoop : ByteArray := prog_1_method_24_code
def yX7_snoop : MethodName := ⟨RX7, "snoop", "(I)I"⟩
abbrev cX7_read : ByteArray := prog_1_method_25_code
def yX7_read : MethodName := ⟨RX7, "read", "(II)I"⟩
abbrev cX7_weigh : ByteArray := prog_1_method_26_code
def yX7_weigh : MethodName := ⟨RX7, "weigh", "(II)I"⟩
abbrev cX7_add : ByteArray := prog_1_method_27_code
def yX7_add : MethodName := ⟨RX7, "add", "(IIII)I"⟩
abbrev cX7_fix : ByteArray := prog_1_method_28_code
def yX7_fix : MethodName := ⟨RX7, "fix", "(II)I"⟩
abbrev cX7_free : ByteArray := prog_1_method_29_code
def yX7_free : MethodName := ⟨RX7, "free", "(I)I"⟩
abbrev cX7_drawn : ByteArray := prog_1_method_30_code
def yX7_drawn : MethodName := ⟨RX7, "drawn", "(II)I"⟩
abbrev cX7_undo : ByteArray := prog_1_method_31_code
def yX7_undo : MethodName := ⟨RX7, "undo", "()I"⟩
abbrev cX7_image : ByteArray := prog_1_method_32_code
def yX7_image : MethodName := ⟨RX7, "image", "(I)Z"⟩
abbrev cX7_restore : ByteArray := prog_1_method_33_code
def yX7_restore : MethodName := ⟨RX7, "restore", "(I)Z"⟩
abbrev cX7_count : ByteArray := prog_1_method_34_code
def yX7_count : MethodName := ⟨RX7, "count", "(I)I"⟩
abbrev cX7_settle : ByteArray := prog_1_method_35_code
def yX7_settle : MethodName := ⟨RX7, "settle", "()V"⟩
abbrev cX7_beginAct : ByteArray := prog_1_method_36_code
def yX7_beginAct : MethodName := ⟨RX7, "beginAct", "()V"⟩
abbrev cX7_isPoint : ByteArray := prog_1_method_37_code
def yX7_isPoint : MethodName := ⟨RX7, "isPoint", "(I)Z"⟩
abbrev cX7_isLine : ByteArray := prog_1_method_38_code
def yX7_isLine : MethodName := ⟨RX7, "isLine", "(I)Z"⟩
abbrev cX7_isSoundLine : ByteArray := prog_1_method_39_code
def yX7_isSoundLine : MethodName := ⟨RX7, "isSoundLine", "(I)Z"⟩
abbrev cX7_hasRing : ByteArray := prog_1_method_40_code
def yX7_hasRing : MethodName := ⟨RX7, "hasRing", "(I)Z"⟩
abbrev cX7_isHalf : ByteArray := prog_1_method_41_code
def yX7_isHalf : MethodName := ⟨RX7, "isHalf", "(I)Z"⟩
abbrev cX7_isHeight : ByteArray := prog_1_method_42_code
def yX7_isHeight : MethodName := ⟨RX7, "isHeight", "(I)Z"⟩
abbrev cX7_isWeight : ByteArray := prog_1_method_43_code
def yX7_isWeight : MethodName := ⟨RX7, "isWeight", "(I)Z"⟩
abbrev cX7_isImage : ByteArray := prog_1_method_44_code
def yX7_isImage : MethodName := ⟨RX7, "isImage", "(I)Z"⟩
abbrev cX7_bit : ByteArray := prog_1_method_45_code
def yX7_bit : MethodName := ⟨RX7, "bit", "(II)I"⟩
abbrev cX7_seedBehind : ByteArray := prog_1_method_46_code
def yX7_seedBehind : MethodName := ⟨RX7, "seedBehind", "(I)I"⟩
def RX8 : String := "LevelRingsModel"
def TX8 : u_T := fun k => match k with
  | 0 => ("LevelRingsModel", "thrown", "I", false)
  | 1 => ("LevelRingsModel", "tape", "[I", true)
  | 2 => ("LevelRingsModel", "taped", "I", false)
  | 3 => ("LevelRingsModel", "size", "I", false)
  | 4 => ("LevelRingsModel", "to", "I", false)
  | 5 => ("LevelRingsModel", "from", "I", false)
  | 6 => ("LevelRingsModel", "kind", "I", false)
  | 7 => ("LevelRingsModel", "number", "I", false)
  | 8 => ("LevelRingsModel", "fault", "I", false)
  | 9 => ("LevelRingsModel", "faultRow", "I", false)
  | 10 => ("LevelRingsModel", "place", "I", false)
  | 11 => ("LevelRingsModel", "rows", "I", false)
  | 12 => ("LevelRingsModel", "word", "J", false)
  | 13 => ("LevelRingsModel", "now", "[I", true)
  | 14 => ("LevelRingsModel", "read", "[I", true)
  | 15 => ("LevelRingsModel", "kept", "[I", true)
  | 16 => ("LevelRingsModel", "snaps", "[I", true)
  | 17 => ("LevelRingsModel", "before", "[I", true)
  | 18 => ("LevelRingsModel", "live", "[I", true)
  | 19 => ("LevelRingsModel", "names", "[J", true)
  | 20 => ("LevelRingsModel", "isKept", "[Z", true)
  | 21 => ("LevelRingsModel", "snapMany", "I", false)
  | 22 => ("LevelRingsModel", "told", "I", false)
  | 23 => ("LevelRingsModel", "cells", "[J", true)
  | 24 => ("LevelRingsModel", "rowOf", "[I", true)
  | 25 => ("LevelRingsModel", "wide", "I", false)
  | 26 => ("LevelRingsModel", "head", "J", false)
  | 27 => ("LevelRingsModel", "heightOf", "[J", true)
  | 28 => ("LevelRingsModel", "part", "[J", true)
  | 29 => ("LevelRingsModel", "along", "[I", true)
  | 30 => ("LevelRingsModel", "wantedAbove", "J", false)
  | 31 => ("LevelRingsModel", "wantedBelow", "J", false)
  | 32 => ("LevelRingsModel", "fallAbove", "J", false)
  | 33 => ("LevelRingsModel", "fallBelow", "J", false)
  | _ => ("LevelRingsModel", "seed", "I", false)
def tyX8 : Nat → FieldType := fun k => match k with
  | 0 => .int
  | 1 => .array .int
  | 2 => .int
  | 3 => .int
  | 4 => .int
  | 5 => .int
  | 6 => .int
  | 7 => .int
  | 8 => .int
  | 9 => .int
  | 10 => .int
  | 11 => .int
  | 12 => .long
  | 13 => .array .int
  | 14 => .array .int
  | 15 => .array .int
  | 16 => .array .int
  | 17 => .array .int
  | 18 => .array .int
  | 19 => .array .long
  | 20 => .array .boolean
  | 21 => .int
  | 22 => .int
  | 23 => .array .long
  | 24 => .array .int
  | 25 => .int
  | 26 => .long
  | 27 => .array .long
  | 28 => .array .long
  | 29 => .array .int
  | 30 => .long
  | 31 => .long
  | 32 => .long
  | 33 => .long
  | _ => .int
abbrev wsX80 : List Cond := u_ws RX8 TX8 35
theorem nmX8 : ∀ a, a < 35 → ∀ b, b < 35 → a ≠ b → (TX8 a).2.1 ≠ (TX8 b).2.1 := by decide +kernel
theorem tyX8_ok : ∀ k, k < 35 → parseFieldDescriptor (TX8 k).2.2.1 = some (tyX8 k) := by decide +kernel
abbrev cX8_thrown : ByteArray := prog_10_method_1_code
def yX8_thrown : MethodName := ⟨RX8, "thrown", "()I"⟩
abbrev cX8_refuse : ByteArray := prog_10_method_2_code
def yX8_refuse : MethodName := ⟨RX8, "refuse", "()I"⟩
abbrev cX8_isIn : ByteArray := prog_10_method_3_code
def yX8_isIn : MethodName := ⟨RX8, "isIn", "(III)Z"⟩
abbrev cX8_has : ByteArray := prog_10_method_4_code
def yX8_has : MethodName := ⟨RX8, "has", "(II)Z"⟩
abbrev cX8_bits : ByteArray := prog_10_method_5_code
def yX8_bits : MethodName := ⟨RX8, "bits", "(I)I"⟩
abbrev cX8_come : ByteArray := prog_10_method_6_code
def yX8_come : MethodName := ⟨RX8, "come", "(I)V"⟩
abbrev cX8_feed : ByteArray := prog_10_method_7_code
def yX8_feed : MethodName := ⟨RX8, "feed", "(IIIII)I"⟩
abbrev cX8_end : ByteArray := prog_10_method_8_code
def yX8_end : MethodName := ⟨RX8, "end", "(I)Z"⟩
abbrev cX8_tapeAt : ByteArray := prog_10_method_9_code
def yX8_tapeAt : MethodName := ⟨RX8, "tapeAt", "(I)I"⟩
abbrev cX8_isDigit : ByteArray := prog_10_method_10_code
def yX8_isDigit : MethodName := ⟨RX8, "isDigit", "(I)Z"⟩
abbrev cX8_isLetter : ByteArray := prog_10_method_11_code
def yX8_isLetter : MethodName := ⟨RX8, "isLetter", "(I)Z"⟩
abbrev cX8_go : ByteArray := prog_10_method_12_code
def yX8_go : MethodName := ⟨RX8, "go", "()V"⟩
abbrev cX8_spelt : ByteArray := prog_10_method_13_code
def yX8_spelt : MethodName := ⟨RX8, "spelt", "(IIIII)J"⟩
abbrev cX8_isWord : ByteArray := prog_10_method_14_code
def yX8_isWord : MethodName := ⟨RX8, "isWord", "(J)Z"⟩
abbrev cX8_isPointWord : ByteArray := prog_10_method_15_code
def yX8_isPointWord : MethodName := ⟨RX8, "isPointWord", "()Z"⟩
abbrev cX8_isLineWord : ByteArray := prog_10_method_16_code
def yX8_isLineWord : MethodName := ⟨RX8, "isLineWord", "()Z"⟩
abbrev cX8_isUp : ByteArray := prog_10_method_17_code
def yX8_isUp : MethodName := ⟨RX8, "isUp", "()Z"⟩
abbrev cX8_isDown : ByteArray := prog_10_method_18_code
def yX8_isDown : MethodName := ⟨RX8, "isDown", "()Z"⟩
abbrev cX8_isName : ByteArray := prog_10_method_19_code
def yX8_isName : MethodName := ⟨RX8, "isName", "()Z"⟩
abbrev cX8_bad : ByteArray := prog_10_method_20_code
def yX8_bad : MethodName := ⟨RX8, "bad", "(I)Z"⟩
abbrev cX8_init : ByteArray := prog_10_method_21_code
def yX8_init : MethodName := ⟨RX8, "<init>", "()V"⟩
abbrev cX8_copy : ByteArray := prog_10_method_22_code
def yX8_copy : MethodName := ⟨RX8, "copy", "([II[II)V"⟩
abbrev cX8_named : ByteArray := prog_10_method_23_code
def yX8_named : MethodName := ⟨RX8, "named", "()I"⟩
abbrev cX8_readHeight : ByteArray := prog_10_method_24_code
def yX8_readHeight : MethodName := ⟨RX8, "readHeight", "()Z"⟩
abbrev cX8_readPoint : ByteArray := prog_10_method_25_code
def yX8_readPoint : MethodName := ⟨RX8, "readPoint", "()Z"⟩
abbrev cX8_readLine : ByteArray := prog_10_method_26_code
def yX8_readLine : MethodName := ⟨RX8, "readLine", "()Z"⟩
abbrev cX8_lays : ByteArray := prog_10_method_27_code
def yX8_lays : MethodName := ⟨RX8, "lays", "([IIIII)V"⟩
abbrev cX8_readEnd : ByteArray := prog_10_method_28_code
def yX8_readEnd : MethodName := ⟨RX8, "readEnd", "()Z"⟩
abbrev cX8_net : ByteArray := prog_10_method_29_code
def yX8_net : MethodName := ⟨RX8, "net", "()I"⟩
abbrev cX8_fault : ByteArray := prog_10_method_30_code
def yX8_fault : MethodName := ⟨RX8, "fault", "(I)I"⟩
abbrev cX8_points : ByteArray := prog_10_method_31_code
def yX8_points : MethodName := ⟨RX8, "points", "()I"⟩
abbrev cX8_lines : ByteArray := prog_10_method_32_code
def yX8_lines : MethodName := ⟨RX8, "lines", "()I"⟩
abbrev cX8_isPoint : ByteArray := prog_10_method_33_code
def yX8_isPoint : MethodName := ⟨RX8, "isPoint", "(I)Z"⟩
abbrev cX8_isLine : ByteArray := prog_10_method_34_code
def yX8_isLine : MethodName := ⟨RX8, "isLine", "(I)Z"⟩
abbrev cX8_isFixed : ByteArray := prog_10_method_35_code
def yX8_isFixed : MethodName := ⟨RX8, "isFixed", "(I)Z"⟩
abbrev cX8_isSound : ByteArray := prog_10_method_36_code
def yX8_isSound : MethodName := ⟨RX8, "isSound", "(I)Z"⟩
abbrev cX8_first : ByteArray := prog_10_method_37_code
def yX8_first : MethodName := ⟨RX8, "first", "(I)I"⟩
abbrev cX8_second : ByteArray := prog_10_method_38_code
def yX8_second : MethodName := ⟨RX8, "second", "(I)I"⟩
abbrev cX8_sound : ByteArray := prog_10_method_39_code
def yX8_sound : MethodName := ⟨RX8, "sound", "()I"⟩
abbrev cX8_fixed : ByteArray := prog_10_method_40_code
def yX8_fixed : MethodName := ⟨RX8, "fixed", "()I"⟩
abbrev cX8_tied : ByteArray := prog_10_method_41_code
def yX8_tied : MethodName := ⟨RX8, "tied", "(II)I"⟩
abbrev cX8_areTied : ByteArray := prog_10_method_42_code
def yX8_areTied : MethodName := ⟨RX8, "areTied", "(III)Z"⟩
abbrev cX8_partOf : ByteArray := prog_10_method_43_code
def yX8_partOf : MethodName := ⟨RX8, "partOf", "(I)I"⟩
abbrev cX8_isRoot : ByteArray := prog_10_method_44_code
def yX8_isRoot : MethodName := ⟨RX8, "isRoot", "(I)Z"⟩
abbrev cX8_tree : ByteArray := prog_10_method_45_code
def yX8_tree : MethodName := ⟨RX8, "tree", "()I"⟩
abbrev cX8_isBridge : ByteArray := prog_10_method_46_code
def yX8_isBridge : MethodName := ⟨RX8, "isBridge", "(I)Z"⟩
abbrev cX8_laysRows : ByteArray := prog_10_method_47_code
def yX8_laysRows : MethodName := ⟨RX8, "laysRows", "()V"⟩
abbrev cX8_adds : ByteArray := prog_10_method_48_code
def yX8_adds : MethodName := ⟨RX8, "adds", "(IIJ)V"⟩
abbrev cX8_ties : ByteArray := prog_10_method_49_code
def yX8_ties : MethodName := ⟨RX8, "ties", "(IIJJZ)V"⟩
abbrev cX8_laysAll : ByteArray := prog_10_method_50_code
def yX8_laysAll : MethodName := ⟨RX8, "laysAll", "(Z)V"⟩
abbrev cX8_frees : ByteArray := prog_10_method_51_code
def yX8_frees : MethodName := ⟨RX8, "frees", "()V"⟩
abbrev cX8_solve : ByteArray := prog_10_method_52_code
def yX8_solve : MethodName := ⟨RX8, "solve", "(Z)V"⟩
abbrev cX8_solveNow : ByteArray := prog_10_method_53_code
def yX8_solveNow : MethodName := ⟨RX8, "solveNow", "()V"⟩
abbrev cX8_tells : ByteArray := prog_10_method_54_code
def yX8_tells : MethodName := ⟨RX8, "tells", "(JJ)V"⟩
abbrev cX8_said : ByteArray := prog_10_method_55_code
def yX8_said : MethodName := ⟨RX8, "said", "(I)J"⟩
abbrev cX8_isPart : ByteArray := prog_10_method_56_code
def yX8_isPart : MethodName := ⟨RX8, "isPart", "(I)Z"⟩
abbrev cX8_height : ByteArray := prog_10_method_57_code
def yX8_height : MethodName := ⟨RX8, "height", "(II)J"⟩
abbrev cX8_rounded : ByteArray := prog_10_method_58_code
def yX8_rounded : MethodName := ⟨RX8, "rounded", "(I)I"⟩
abbrev cX8_offOf : ByteArray := prog_10_method_59_code
def yX8_offOf : MethodName := ⟨RX8, "offOf", "(I)J"⟩
abbrev cX8_off : ByteArray := prog_10_method_60_code
def yX8_off : MethodName := ⟨RX8, "off", "(II)J"⟩
abbrev cX8_heldBy : ByteArray := prog_10_method_61_code
def yX8_heldBy : MethodName := ⟨RX8, "heldBy", "(I)J"⟩
abbrev cX8_sum : ByteArray := prog_10_method_62_code
def yX8_sum : MethodName := ⟨RX8, "sum", "(I)J"⟩
abbrev cX8_isClosed : ByteArray := prog_10_method_63_code
def yX8_isClosed : MethodName := ⟨RX8, "isClosed", "(I)Z"⟩
abbrev cX8_rings : ByteArray := prog_10_method_64_code
def yX8_rings : MethodName := ⟨RX8, "rings", "()I"⟩
abbrev cX8_ring : ByteArray := prog_10_method_65_code
def yX8_ring : MethodName := ⟨RX8, "ring", "(I)I"⟩
abbrev cX8_laysAlong : ByteArray := prog_10_method_66_code
def yX8_laysAlong : MethodName := ⟨RX8, "laysAlong", "()V"⟩
abbrev cX8_closing : ByteArray := prog_10_method_67_code
def yX8_closing : MethodName := ⟨RX8, "closing", "(I)I"⟩
abbrev cX8_closes : ByteArray := prog_10_method_68_code
def yX8_closes : MethodName := ⟨RX8, "closes", "(I)I"⟩
abbrev cX8_amount : ByteArray := prog_10_method_69_code
def yX8_amount : MethodName := ⟨RX8, "amount", "(I)I"⟩
abbrev cX8_worst : ByteArray := prog_10_method_70_code
def yX8_worst : MethodName := ⟨RX8, "worst", "()I"⟩
abbrev cX8_doubtOf : ByteArray := prog_10_method_71_code
def yX8_doubtOf : MethodName := ⟨RX8, "doubtOf", "(II)J"⟩
abbrev cX8_doubt : ByteArray := prog_10_method_72_code
def yX8_doubt : MethodName := ⟨RX8, "doubt", "(III)J"⟩
abbrev cX8_next : ByteArray := prog_10_method_73_code
def yX8_next : MethodName := ⟨RX8, "next", "(I)I"⟩
abbrev cX8_check : ByteArray := prog_10_method_74_code
def yX8_check : MethodName := ⟨RX8, "check", "(II)J"⟩
abbrev cX8_laysWanted : ByteArray := prog_10_method_75_code
def yX8_laysWanted : MethodName := ⟨RX8, "laysWanted", "(I)V"⟩
abbrev cX8_wanted : ByteArray := prog_10_method_76_code
def yX8_wanted : MethodName := ⟨RX8, "wanted", "(II)J"⟩
abbrev cX8_laysFall : ByteArray := prog_10_method_77_code
def yX8_laysFall : MethodName := ⟨RX8, "laysFall", "(I)V"⟩
abbrev cX8_fall : ByteArray := prog_10_method_78_code
def yX8_fall : MethodName := ⟨RX8, "fall", "(II)J"⟩
abbrev cX8_isMore : ByteArray := prog_10_method_79_code
def yX8_isMore : MethodName := ⟨RX8, "isMore", "(JJJJ)Z"⟩
abbrev cX8_laysBlunder : ByteArray := prog_10_method_80_code
def yX8_laysBlunder : MethodName := ⟨RX8, "laysBlunder", "()I"⟩
abbrev cX8_blunder : ByteArray := prog_10_method_81_code
def yX8_blunder : MethodName := ⟨RX8, "blunder", "()I"⟩
abbrev cX8_snap : ByteArray := prog_10_method_82_code
def yX8_snap : MethodName := ⟨RX8, "snap", "()V"⟩
abbrev cX8_stay : ByteArray := prog_10_method_83_code
def yX8_stay : MethodName := ⟨RX8, "stay", "()V"⟩
abbrev cX8_becomes : ByteArray := prog_10_method_84_code
def yX8_becomes : MethodName := ⟨RX8, "becomes", "(IIZ)I"⟩
abbrev cX8_strike : ByteArray := prog_10_method_85_code
def yX8_strike : MethodName := ⟨RX8, "strike", "(I)I"⟩
abbrev cX8_mend : ByteArray := prog_10_method_86_code
def yX8_mend : MethodName := ⟨RX8, "mend", "(I)I"⟩
abbrev cX8_read : ByteArray := prog_10_method_87_code
def yX8_read : MethodName := ⟨RX8, "read", "(II)I"⟩
abbrev cX8_weigh : ByteArray := prog_10_method_88_code
def yX8_weigh : MethodName := ⟨RX8, "weigh", "(II)I"⟩
abbrev cX8_free : ByteArray := prog_10_method_89_code
def yX8_free : MethodName := ⟨RX8, "free", "(I)I"⟩
abbrev cX8_fix : ByteArray := prog_10_method_90_code
def yX8_fix : MethodName := ⟨RX8, "fix", "(II)I"⟩
abbrev cX8_add : ByteArray := prog_10_method_91_code
def yX8_add : MethodName := ⟨RX8, "add", "(IIII)I"⟩
abbrev cX8_snoop : ByteArray := prog_10_method_92_code
def yX8_snoop : MethodName := ⟨RX8, "snoop", "(I)I"⟩
abbrev cX8_draw : ByteArray := prog_10_method_93_code
def yX8_draw : MethodName := ⟨RX8, "draw", "(I)I"⟩
abbrev cX8_slips : ByteArray := prog_10_method_94_code
def yX8_slips : MethodName := ⟨RX8, "slips", "()Z"⟩
abbrev cX8_drawn : ByteArray := prog_10_method_95_code
def yX8_drawn : MethodName := ⟨RX8, "drawn", "(II)I"⟩
abbrev cX8_undo : ByteArray := prog_10_method_96_code
def yX8_undo : MethodName := ⟨RX8, "undo", "()I"⟩
abbrev cX8_image : ByteArray := prog_10_method_97_code
def yX8_image : MethodName := ⟨RX8, "image", "(I)Z"⟩
abbrev cX8_restore : ByteArray := prog_10_method_98_code
def yX8_restore : MethodName := ⟨RX8, "restore", "(I)Z"⟩
abbrev cX8_point : ByteArray := prog_10_method_99_code
def yX8_point : MethodName := ⟨RX8, "point", "(II)I"⟩
abbrev cX8_line : ByteArray := prog_10_method_100_code
def yX8_line : MethodName := ⟨RX8, "line", "(II)I"⟩
abbrev cX8_count : ByteArray := prog_10_method_101_code
def yX8_count : MethodName := ⟨RX8, "count", "(I)I"⟩
def RJx145de : String := "java/io/Serializable"
def TJx145de : u_T := fun k => match k with
  | _ => ("", "", "", false)
def tyJx145de : Nat → FieldType := fun k => match k with
  | _ => .int
abbrev wsJx145de0 : List Cond := u_ws RJx145de TJx145de 0
theorem nmJx145de : ∀ a, a < 0 → ∀ b, b < 0 → a ≠ b → (TJx145de a).2.1 ≠ (TJx145de b).2.1 := by decide +kernel
theorem tyJx145de_ok : ∀ k, k < 0 → parseFieldDescriptor (TJx145de k).2.2.1 = some (tyJx145de k) := by decide +kernel
def RJx9f9b0 : String := "java/lang/CharSequence"
def TJx9f9b0 : u_T := fun k => match k with
  | _ => ("", "", "", false)
def tyJx9f9b0 : Nat → FieldType := fun k => match k with
  | _ => .int
abbrev wsJx9f9b00 : List Cond := u_ws RJx9f9b0 TJx9f9b0 0
theorem nmJx9f9b0 : ∀ a, a < 0 → ∀ b, b < 0 → a ≠ b → (TJx9f9b0 a).2.1 ≠ (TJx9f9b0 b).2.1 := by decide +kernel
theorem tyJx9f9b0_ok : ∀ k, k < 0 → parseFieldDescriptor (TJx9f9b0 k).2.2.1 = some (tyJx9f9b0 k) := by decide +kernel
def RJxb160c : String := "java/lang/Comparable"
def TJxb160c : u_T := fun k => match k with
  | _ => ("", "", "", false)
def tyJxb160c : Nat → FieldType := fun k => match k with
  | _ => .int
abbrev wsJxb160c0 : List Cond := u_ws RJxb160c TJxb160c 0
theorem nmJxb160c : ∀ a, a < 0 → ∀ b, b < 0 → a ≠ b → (TJxb160c a).2.1 ≠ (TJxb160c b).2.1 := by decide +kernel
theorem tyJxb160c_ok : ∀ k, k < 0 → parseFieldDescriptor (TJxb160c k).2.2.1 = some (tyJxb160c k) := by decide +kernel
def RJ6 : String := "java/lang/Integer"
def TJ6 : u_T := fun k => match k with
  | _ => ("", "", "", false)
def tyJ6 : Nat → FieldType := fun k => match k with
  | _ => .int
abbrev wsJ60 : List Cond := u_ws RJ6 TJ6 0
theorem nmJ6 : ∀ a, a < 0 → ∀ b, b < 0 → a ≠ b → (TJ6 a).2.1 ≠ (TJ6 b).2.1 := by decide +kernel
theorem tyJ6_ok : ∀ k, k < 0 → parseFieldDescriptor (TJ6 k).2.2.1 = some (tyJ6 k) := by decide +kernel
abbrev cJ6_bitCount_0f7a4 : ByteArray := prog_15_method_49_code
def yJ6_bitCount_0f7a4 : MethodName := ⟨RJ6, "bitCount", "(I)I"⟩
def RJ9 : String := "java/lang/Math"
def TJ9 : u_T := fun k => match k with
  | _ => ("", "", "", false)
def tyJ9 : Nat → FieldType := fun k => match k with
  | _ => .int
abbrev wsJ90 : List Cond := u_ws RJ9 TJ9 0
theorem nmJ9 : ∀ a, a < 0 → ∀ b, b < 0 → a ≠ b → (TJ9 a).2.1 ≠ (TJ9 b).2.1 := by decide +kernel
theorem tyJ9_ok : ∀ k, k < 0 → parseFieldDescriptor (TJ9 k).2.2.1 = some (tyJ9 k) := by decide +kernel
abbrev cJ9_floorDiv_f86c9 : ByteArray := prog_16_method_49_code
def yJ9_floorDiv_f86c9 : MethodName := ⟨RJ9, "floorDiv", "(JJ)J"⟩
abbrev cJ9_abs_0f7a4 : ByteArray := prog_16_method_59_code
def yJ9_abs_0f7a4 : MethodName := ⟨RJ9, "abs", "(I)I"⟩
abbrev cJ9_abs_067f4 : ByteArray := prog_16_method_61_code
def yJ9_abs_067f4 : MethodName := ⟨RJ9, "abs", "(J)J"⟩
abbrev cJ9_max_7cf53 : ByteArray := prog_16_method_65_code
def yJ9_max_7cf53 : MethodName := ⟨RJ9, "max", "(II)I"⟩
abbrev cJ9_min_7cf53 : ByteArray := prog_16_method_69_code
def yJ9_min_7cf53 : MethodName := ⟨RJ9, "min", "(II)I"⟩
def RJ0 : String := "java/lang/String"
def TJ0 : u_T := fun k => match k with
  | _ => ("", "", "", false)
def tyJ0 : Nat → FieldType := fun k => match k with
  | _ => .int
abbrev wsJ00 : List Cond := u_ws RJ0 TJ0 0
theorem nmJ0 : ∀ a, a < 0 → ∀ b, b < 0 → a ≠ b → (TJ0 a).2.1 ≠ (TJ0 b).2.1 := by decide +kernel
theorem tyJ0_ok : ∀ k, k < 0 → parseFieldDescriptor (TJ0 k).2.2.1 = some (tyJ0 k) := by decide +kernel
abbrev cJ0_length_8abf5 : ByteArray := prog_18_method_54_code
def yJ0_length_8abf5 : MethodName := ⟨RJ0, "length", "()I"⟩
abbrev cJ0_charAt_5068e : ByteArray := prog_18_method_56_code
def yJ0_charAt_5068e : MethodName := ⟨RJ0, "charAt", "(I)C"⟩
abbrev cJ0_coder_7d493 : ByteArray := prog_18_method_152_code
def yJ0_coder_7d493 : MethodName := ⟨RJ0, "coder", "()B"⟩
abbrev cJ0_isLatin1_aae02 : ByteArray := prog_18_method_154_code
def yJ0_isLatin1_aae02 : MethodName := ⟨RJ0, "isLatin1", "()Z"⟩
abbrev cJ0_checkIndex_df160 : ByteArray := prog_18_method_155_code
def yJ0_checkIndex_df160 : MethodName := ⟨RJ0, "checkIndex", "(II)V"⟩
def RJ1 : String := "java/lang/StringLatin1"
def TJ1 : u_T := fun k => match k with
  | _ => ("", "", "", false)
def tyJ1 : Nat → FieldType := fun k => match k with
  | _ => .int
abbrev wsJ10 : List Cond := u_ws RJ1 TJ1 0
theorem nmJ1 : ∀ a, a < 0 → ∀ b, b < 0 → a ≠ b → (TJ1 a).2.1 ≠ (TJ1 b).2.1 := by decide +kernel
theorem tyJ1_ok : ∀ k, k < 0 → parseFieldDescriptor (TJ1 k).2.2.1 = some (tyJ1 k) := by decide +kernel
abbrev cJ1_charAt_3b067 : ByteArray := prog_19_method_2_code
def yJ1_charAt_3b067 : MethodName := ⟨RJ1, "charAt", "([BI)C"⟩
def RJ2 : String := "java/lang/StringUTF16"
def TJ2 : u_T := fun k => match k with
  | _ => ("", "", "", false)
def tyJ2 : Nat → FieldType := fun k => match k with
  | _ => .int
abbrev wsJ20 : List Cond := u_ws RJ2 TJ2 0
theorem nmJ2 : ∀ a, a < 0 → ∀ b, b < 0 → a ≠ b → (TJ2 a).2.1 ≠ (TJ2 b).2.1 := by decide +kernel
theorem tyJ2_ok : ∀ k, k < 0 → parseFieldDescriptor (TJ2 k).2.2.1 = some (tyJ2 k) := by decide +kernel
abbrev cJ2_getChar_3b067 : ByteArray := prog_20_method_5_code
def yJ2_getChar_3b067 : MethodName := ⟨RJ2, "getChar", "([BI)C"⟩
abbrev cJ2_length_9d52b : ByteArray := prog_20_method_6_code
def yJ2_length_9d52b : MethodName := ⟨RJ2, "length", "([B)I"⟩
abbrev cJ2_charAt_3b067 : ByteArray := prog_20_method_83_code
def yJ2_charAt_3b067 : MethodName := ⟨RJ2, "charAt", "([BI)C"⟩
abbrev cJ2_checkIndex_2214a : ByteArray := prog_20_method_91_code
def yJ2_checkIndex_2214a : MethodName := ⟨RJ2, "checkIndex", "(I[B)V"⟩
def RJxfd54e : String := "java/lang/constant/Constable"
def TJxfd54e : u_T := fun k => match k with
  | _ => ("", "", "", false)
def tyJxfd54e : Nat → FieldType := fun k => match k with
  | _ => .int
abbrev wsJxfd54e0 : List Cond := u_ws RJxfd54e TJxfd54e 0
theorem nmJxfd54e : ∀ a, a < 0 → ∀ b, b < 0 → a ≠ b → (TJxfd54e a).2.1 ≠ (TJxfd54e b).2.1 := by decide +kernel
theorem tyJxfd54e_ok : ∀ k, k < 0 → parseFieldDescriptor (TJxfd54e k).2.2.1 = some (tyJxfd54e k) := by decide +kernel
def RJx3cf43 : String := "java/lang/constant/ConstantDesc"
def TJx3cf43 : u_T := fun k => match k with
  | _ => ("", "", "", false)
def tyJx3cf43 : Nat → FieldType := fun k => match k with
  | _ => .int
abbrev wsJx3cf430 : List Cond := u_ws RJx3cf43 TJx3cf43 0
theorem nmJx3cf43 : ∀ a, a < 0 → ∀ b, b < 0 → a ≠ b → (TJx3cf43 a).2.1 ≠ (TJx3cf43 b).2.1 := by decide +kernel
theorem tyJx3cf43_ok : ∀ k, k < 0 → parseFieldDescriptor (TJx3cf43 k).2.2.1 = some (tyJx3cf43 k) := by decide +kernel
def RJ3 : String := "jdk/internal/util/Preconditions"
def TJ3 : u_T := fun k => match k with
  | _ => ("", "", "", false)
def tyJ3 : Nat → FieldType := fun k => match k with
  | _ => .int
abbrev wsJ30 : List Cond := u_ws RJ3 TJ3 0
theorem nmJ3 : ∀ a, a < 0 → ∀ b, b < 0 → a ≠ b → (TJ3 a).2.1 ≠ (TJ3 b).2.1 := by decide +kernel
theorem tyJ3_ok : ∀ k, k < 0 → parseFieldDescriptor (TJ3 k).2.2.1 = some (tyJ3 k) := by decide +kernel
abbrev cJ3_checkIndex_8e157 : ByteArray := prog_25_method_11_code
def yJ3_checkIndex_8e157 : MethodName := ⟨RJ3, "checkIndex", "(IILjava/util/function/BiFunction;)I"⟩
def RL : String := "LevelRingsLaw"
abbrev cL_point : ByteArray := method_3_code
def yL_point : MethodName := ⟨RL, "point", "(LLevelRings;II[J)I"⟩
abbrev cL_line : ByteArray := method_4_code
def yL_line : MethodName := ⟨RL, "line", "(LLevelRings;II[J)I"⟩
abbrev cL_height : ByteArray := method_5_code
def yL_height : MethodName := ⟨RL, "height", "(LLevelRings;II[J)I"⟩
abbrev cL_off : ByteArray := method_6_code
def yL_off : MethodName := ⟨RL, "off", "(LLevelRings;II[J)I"⟩
abbrev cL_sum : ByteArray := method_7_code
def yL_sum : MethodName := ⟨RL, "sum", "(LLevelRings;I[J)I"⟩
abbrev cL_check : ByteArray := method_8_code
def yL_check : MethodName := ⟨RL, "check", "(LLevelRings;II[J)I"⟩
abbrev cL_fall : ByteArray := method_9_code
def yL_fall : MethodName := ⟨RL, "fall", "(LLevelRings;II[J)I"⟩
abbrev cL_wanted : ByteArray := method_10_code
def yL_wanted : MethodName := ⟨RL, "wanted", "(LLevelRings;II[J)I"⟩
abbrev cL_doubt : ByteArray := method_11_code
def yL_doubt : MethodName := ⟨RL, "doubt", "(LLevelRings;III[J)I"⟩
abbrev cL_law : ByteArray := code
def yL_law : MethodName := ⟨RL, "law", "([I)Z"⟩
end
section
/-! The program as data: methods by number (laid by wip/whole/gen02.py). -/
def mNmL : List (MethodName) := [
  yX0_push, yX0_popInto, yX0_forget, yX1_settle, yX1_offAbove, yX1_sumAbove, yX1_checkAbove, yX1_fallAbove,
  yX1_fallBelow, yX1_fallsAbove, yX1_greatestFall, yX1_doubtAbove, yX1_inverse, yX1_weightedSquare, yX1_chooseSought, yX1_knownHeight,
  yX1_pull, yX1_eliminate, yX1_clearColumn, yX2_half, yX2_quotient, yX2_floor, yX2_divisor, yX2_isGreater,
  yX3_clear, yX3_copyFrom, yX3_putPoint, yX3_putLine, yX3_isFixed, yX3_soundLinesAt, yX4_readsInto, yX4_readsPoint,
  yX4_readsLine, yX4_readsTold, yX4_readsHeight, yX4_readsSemicolon, yX4_isWord, yX4_isName, yX4_named, yX4_fails,
  yX4_step, yX4_takeWordOrNumber, yX4_withLetter, yX5_push, yX6_settle, yX6_isRoot, yX6_parts, yX6_ringOf,
  yX6_closingOf, yX6_tieFixed, yX6_growTree, yX6_merge, yX6_walkTree, yX6_walkLine, yX7_feed, yX7_end,
  yX7_net, yX7_fault, yX7_point, yX7_line, yX7_height, yX7_rounded, yX7_off, yX7_sum,
  yX7_rings, yX7_ring, yX7_closes, yX7_worst, yX7_check, yX7_fall, yX7_wanted, yX7_blunder,
  yX7_doubt, yX7_next, yX7_strike, yX7_mend, yX7_snoop, yX7_read, yX7_weigh, yX7_add,
  yX7_fix, yX7_free, yX7_drawn, yX7_undo, yX7_image, yX7_restore, yX7_count, yX7_settle,
  yX7_beginAct, yX7_isPoint, yX7_isLine, yX7_isSoundLine, yX7_hasRing, yX7_isHalf, yX7_isHeight, yX7_isWeight,
  yX7_isImage, yX7_bit, yX7_seedBehind, yX8_thrown, yX8_refuse, yX8_isIn, yX8_has, yX8_bits,
  yX8_come, yX8_feed, yX8_end, yX8_tapeAt, yX8_isDigit, yX8_isLetter, yX8_go, yX8_spelt,
  yX8_isWord, yX8_isPointWord, yX8_isLineWord, yX8_isUp, yX8_isDown, yX8_isName, yX8_bad, yX8_copy,
  yX8_named, yX8_readHeight, yX8_readPoint, yX8_readLine, yX8_lays, yX8_readEnd, yX8_net, yX8_fault,
  yX8_points, yX8_lines, yX8_isPoint, yX8_isLine, yX8_isFixed, yX8_isSound, yX8_first, yX8_second,
  yX8_sound, yX8_fixed, yX8_tied, yX8_areTied, yX8_partOf, yX8_isRoot, yX8_tree, yX8_isBridge,
  yX8_laysRows, yX8_adds, yX8_ties, yX8_laysAll, yX8_frees, yX8_solve, yX8_solveNow, yX8_tells,
  yX8_said, yX8_isPart, yX8_height, yX8_rounded, yX8_offOf, yX8_off, yX8_heldBy, yX8_sum,
  yX8_isClosed, yX8_rings, yX8_ring, yX8_laysAlong, yX8_closing, yX8_closes, yX8_amount, yX8_worst,
  yX8_doubtOf, yX8_doubt, yX8_next, yX8_check, yX8_laysWanted, yX8_wanted, yX8_laysFall, yX8_fall,
  yX8_isMore, yX8_laysBlunder, yX8_blunder, yX8_snap, yX8_stay, yX8_becomes, yX8_strike, yX8_mend,
  yX8_read, yX8_weigh, yX8_free, yX8_fix, yX8_add, yX8_snoop, yX8_draw, yX8_slips,
  yX8_drawn, yX8_undo, yX8_image, yX8_restore, yX8_point, yX8_line, yX8_count, yJ6_bitCount_0f7a4,
  yJ9_floorDiv_f86c9, yJ9_abs_0f7a4, yJ9_abs_067f4, yJ9_max_7cf53, yJ9_min_7cf53, yL_point, yL_line, yL_height,
  yL_off, yL_sum, yL_check, yL_fall, yL_wanted, yL_doubt, yL_law]
def mByL : List (ByteArray) := [
  cX0_push, cX0_popInto, cX0_forget, cX1_settle, cX1_offAbove, cX1_sumAbove, cX1_checkAbove, cX1_fallAbove,
  cX1_fallBelow, cX1_fallsAbove, cX1_greatestFall, cX1_doubtAbove, cX1_inverse, cX1_weightedSquare, cX1_chooseSought, cX1_knownHeight,
  cX1_pull, cX1_eliminate, cX1_clearColumn, cX2_half, cX2_quotient, cX2_floor, cX2_divisor, cX2_isGreater,
  cX3_clear, cX3_copyFrom, cX3_putPoint, cX3_putLine, cX3_isFixed, cX3_soundLinesAt, cX4_readsInto, cX4_readsPoint,
  cX4_readsLine, cX4_readsTold, cX4_readsHeight, cX4_readsSemicolon, cX4_isWord, cX4_isName, cX4_named, cX4_fails,
  cX4_step, cX4_takeWordOrNumber, cX4_withLetter, cX5_push, cX6_settle, cX6_isRoot, cX6_parts, cX6_ringOf,
  cX6_closingOf, cX6_tieFixed, cX6_growTree, cX6_merge, cX6_walkTree, cX6_walkLine, cX7_feed, cX7_end,
  cX7_net, cX7_fault, cX7_point, cX7_line, cX7_height, cX7_rounded, cX7_off, cX7_sum,
  cX7_rings, cX7_ring, cX7_closes, cX7_worst, cX7_check, cX7_fall, cX7_wanted, cX7_blunder,
  cX7_doubt, cX7_next, cX7_strike, cX7_mend, cX7_snoop, cX7_read, cX7_weigh, cX7_add,
  cX7_fix, cX7_free, cX7_drawn, cX7_undo, cX7_image, cX7_restore, cX7_count, cX7_settle,
  cX7_beginAct, cX7_isPoint, cX7_isLine, cX7_isSoundLine, cX7_hasRing, cX7_isHalf, cX7_isHeight, cX7_isWeight,
  cX7_isImage, cX7_bit, cX7_seedBehind, cX8_thrown, cX8_refuse, cX8_isIn, cX8_has, cX8_bits,
  cX8_come, cX8_feed, cX8_end, cX8_tapeAt, cX8_isDigit, cX8_isLetter, cX8_go, cX8_spelt,
  cX8_isWord, cX8_isPointWord, cX8_isLineWord, cX8_isUp, cX8_isDown, cX8_isName, cX8_bad, cX8_copy,
  cX8_named, cX8_readHeight, cX8_readPoint, cX8_readLine, cX8_lays, cX8_readEnd, cX8_net, cX8_fault,
  cX8_points, cX8_lines, cX8_isPoint, cX8_isLine, cX8_isFixed, cX8_isSound, cX8_first, cX8_second,
  cX8_sound, cX8_fixed, cX8_tied, cX8_areTied, cX8_partOf, cX8_isRoot, cX8_tree, cX8_isBridge,
  cX8_laysRows, cX8_adds, cX8_ties, cX8_laysAll, cX8_frees, cX8_solve, cX8_solveNow, cX8_tells,
  cX8_said, cX8_isPart, cX8_height, cX8_rounded, cX8_offOf, cX8_off, cX8_heldBy, cX8_sum,
  cX8_isClosed, cX8_rings, cX8_ring, cX8_laysAlong, cX8_closing, cX8_closes, cX8_amount, cX8_worst,
  cX8_doubtOf, cX8_doubt, cX8_next, cX8_check, cX8_laysWanted, cX8_wanted, cX8_laysFall, cX8_fall,
  cX8_isMore, cX8_laysBlunder, cX8_blunder, cX8_snap, cX8_stay, cX8_becomes, cX8_strike, cX8_mend,
  cX8_read, cX8_weigh, cX8_free, cX8_fix, cX8_add, cX8_snoop, cX8_draw, cX8_slips,
  cX8_drawn, cX8_undo, cX8_image, cX8_restore, cX8_point, cX8_line, cX8_count, cJ6_bitCount_0f7a4,
  cJ9_floorDiv_f86c9, cJ9_abs_0f7a4, cJ9_abs_067f4, cJ9_max_7cf53, cJ9_min_7cf53, cL_point, cL_line, cL_height,
  cL_off, cL_sum, cL_check, cL_fall, cL_wanted, cL_doubt, cL_law]
def mMxL : List (Nat) := [
  2, 2, 1, 6, 3, 5, 3, 3, 5, 4, 12, 3, 3, 5, 5, 2, 9, 5, 8, 5, 4, 4, 11, 17, 1, 3, 3, 6, 2, 4,
  3, 3, 5, 3, 2, 1, 3, 1, 3, 2, 2, 4, 3, 3, 5, 2, 4, 3, 3, 4, 5, 4, 5, 9, 6, 2, 2, 2, 3, 3,
  3, 2, 3, 2, 1, 2, 2, 5, 3, 3, 5, 1, 4, 7, 2, 2, 5, 3, 3, 6, 3, 2, 8, 1, 2, 2, 2, 1, 1, 2,
  2, 2, 2, 1, 1, 1, 1, 2, 1, 1, 1, 3, 2, 3, 3, 6, 2, 2, 1, 1, 5, 7, 3, 1, 1, 1, 1, 1, 2, 5,
  2, 2, 2, 4, 6, 1, 2, 2, 1, 1, 2, 2, 2, 2, 2, 2, 3, 3, 7, 4, 4, 2, 3, 2, 2, 5, 8, 5, 8, 3,
  1, 11, 2, 1, 3, 8, 2, 3, 2, 5, 2, 1, 5, 5, 2, 2, 1, 3, 3, 6, 10, 5, 2, 3, 8, 3, 8, 3, 1, 2,
  1, 4, 2, 2, 3, 3, 2, 3, 5, 4, 2, 4, 5, 1, 2, 2, 5, 3, 4, 1, 6, 1, 2, 2, 2, 5, 5, 5, 5, 4,
  5, 5, 5, 6, 8]
def mRtL : List (Option FieldType) := [
  none, none, none, none, some .long, some .long, some .long, some .long,
  some .long, some .boolean, some .int, some .long, some .long, some .long, none, some .long,
  none, none, none, some .long, some .long, some .long, some .long, some .boolean,
  none, none, none, some .int, some .boolean, some .int, some .boolean, some .boolean,
  some .boolean, some .int, some .boolean, some .boolean, some .boolean, some .boolean, some .int, some .boolean,
  none, none, some .long, none, none, some .boolean, some .int, some .int,
  some .int, some .int, none, none, none, some .int, some .int, some .boolean,
  some .int, some .int, some .int, some .int, some .long, some .int, some .long, some .long,
  some .int, some .int, some .int, some .int, some .long, some .long, some .long, some .int,
  some .long, some .int, some .int, some .int, some .int, some .int, some .int, some .int,
  some .int, some .int, some .int, some .int, some .boolean, some .boolean, some .int, none,
  none, some .boolean, some .boolean, some .boolean, some .boolean, some .boolean, some .boolean, some .boolean,
  some .boolean, some .int, some .int, some .int, some .int, some .boolean, some .boolean, some .int,
  none, some .int, some .boolean, some .int, some .boolean, some .boolean, none, some .long,
  some .boolean, some .boolean, some .boolean, some .boolean, some .boolean, some .boolean, some .boolean, none,
  some .int, some .boolean, some .boolean, some .boolean, none, some .boolean, some .int, some .int,
  some .int, some .int, some .boolean, some .boolean, some .boolean, some .boolean, some .int, some .int,
  some .int, some .int, some .int, some .boolean, some .int, some .boolean, some .int, some .boolean,
  none, none, none, none, none, none, none, none,
  some .long, some .boolean, some .long, some .int, some .long, some .long, some .long, some .long,
  some .boolean, some .int, some .int, none, some .int, some .int, some .int, some .int,
  some .long, some .long, some .int, some .long, none, some .long, none, some .long,
  some .boolean, some .int, some .int, none, none, some .int, some .int, some .int,
  some .int, some .int, some .int, some .int, some .int, some .int, some .int, some .boolean,
  some .int, some .int, some .boolean, some .boolean, some .int, some .int, some .int, some .int,
  some .long, some .int, some .long, some .int, some .int, some .int, some .int, some .int,
  some .int, some .int, some .int, some .int, some .int, some .int, some .boolean]
def mStL : List (Bool) := [
  false, false, false, false, false, false, false, false, false, false, false, false, false, false, false, true, false, false, false, true,
  true, true, true, true, false, false, false, false, false, false, false, false, false, false, false, false, false, false, false, false,
  false, false, true, false, false, false, false, false, false, false, false, false, false, false, false, false, false, false, false, false,
  false, false, false, false, false, false, false, false, false, false, false, false, false, false, false, false, false, false, false, false,
  false, false, false, false, false, false, false, false, false, false, false, false, false, true, true, true, true, true, true, false,
  false, true, true, true, false, false, false, false, true, true, false, true, false, false, false, false, false, false, false, true,
  false, false, false, false, true, false, false, false, false, false, false, false, false, false, false, false, false, false, false, false,
  false, false, false, false, false, false, false, false, false, false, false, false, false, true, false, false, false, false, false, false,
  false, false, false, false, false, false, true, false, false, false, false, false, false, false, false, false, true, false, false, false,
  false, false, false, false, false, false, false, false, false, false, false, false, false, false, false, false, false, false, false, true,
  true, true, true, true, true, true, true, true, true, true, true, true, true, true, false]
def mNpL : List (Nat) := [
  1, 1, 0, 2, 2, 1, 2, 2, 2, 3, 1, 2, 2, 2, 2, 2, 5, 0, 3, 3, 2, 2, 2, 4, 0, 1, 2, 4, 1, 1,
  1, 1, 1, 1, 0, 0, 1, 0, 1, 1, 0, 0, 2, 1, 1, 1, 1, 2, 2, 1, 1, 2, 1, 3, 5, 1, 0, 1, 2, 2,
  2, 1, 2, 1, 0, 1, 1, 0, 2, 2, 2, 0, 3, 1, 1, 1, 1, 2, 2, 4, 2, 1, 2, 0, 1, 1, 1, 0, 0, 1,
  1, 1, 1, 1, 1, 1, 1, 2, 1, 0, 0, 3, 2, 1, 1, 5, 1, 1, 1, 1, 0, 5, 1, 0, 0, 0, 0, 0, 1, 4,
  0, 0, 0, 0, 5, 0, 0, 1, 0, 0, 1, 1, 1, 1, 1, 1, 0, 0, 2, 3, 1, 1, 0, 1, 0, 3, 5, 1, 0, 1,
  0, 2, 1, 1, 2, 1, 1, 2, 1, 1, 1, 0, 1, 0, 1, 1, 1, 0, 2, 3, 1, 2, 1, 2, 1, 2, 4, 0, 0, 0,
  0, 3, 1, 1, 2, 2, 1, 2, 4, 1, 1, 0, 2, 0, 1, 1, 2, 2, 1, 1, 2, 1, 1, 2, 2, 4, 4, 4, 4, 3,
  4, 4, 4, 5, 1]
def mClL : List (Nat) := [
  0, 0, 0, 1, 1, 1, 1, 1, 1, 1, 1, 1, 1, 1, 1, 1, 1, 1, 1, 2, 2, 2, 2, 2, 3, 3, 3, 3, 3, 3,
  4, 4, 4, 4, 4, 4, 4, 4, 4, 4, 4, 4, 4, 5, 6, 6, 6, 6, 6, 6, 6, 6, 6, 6, 7, 7, 7, 7, 7, 7,
  7, 7, 7, 7, 7, 7, 7, 7, 7, 7, 7, 7, 7, 7, 7, 7, 7, 7, 7, 7, 7, 7, 7, 7, 7, 7, 7, 7, 7, 7,
  7, 7, 7, 7, 7, 7, 7, 7, 7, 8, 8, 8, 8, 8, 8, 8, 8, 8, 8, 8, 8, 8, 8, 8, 8, 8, 8, 8, 8, 8,
  8, 8, 8, 8, 8, 8, 8, 8, 8, 8, 8, 8, 8, 8, 8, 8, 8, 8, 8, 8, 8, 8, 8, 8, 8, 8, 8, 8, 8, 8,
  8, 8, 8, 8, 8, 8, 8, 8, 8, 8, 8, 8, 8, 8, 8, 8, 8, 8, 8, 8, 8, 8, 8, 8, 8, 8, 8, 8, 8, 8,
  8, 8, 8, 8, 8, 8, 8, 8, 8, 8, 8, 8, 8, 8, 8, 8, 8, 8, 8, 99, 99, 99, 99, 99, 99, 99, 99, 99, 99, 99,
  99, 99, 99, 99, 99]
def kIL : List (Int32) := [
  -1000000, 1103515245, 1431655765, 858993459, 252645135]
def kLL : List (Int64) := [
  2, 10, 27, -1, 96]
def fKL : List (List Nat) := [
  [2, 0, 0], [0, 2, 2, 2, 1], [],
  [0, 0, 2, 0, 0, 2, 2, 2, 2], [2, 2, 1, 1, 1, 1, 0, 0, 0, 1, 0, 0, 0, 0], [2, 0],
  [2, 0, 0, 0, 0, 2, 2], [2, 2, 2, 2, 2, 2, 0, 0, 0, 2, 2, 3], [0, 2, 0, 0, 0, 0, 0, 0, 0, 0, 0, 0, 1, 2, 2, 2, 2, 2, 2, 2, 2, 0, 0, 2, 2, 0, 1, 2, 2, 2, 1, 1, 1, 1, 0]]
def kd0 : List (Nat × Instr × Nat × Nat) := [
  (0, .aload_n 0, 1, 0), (1, .getfield 11, 3, 0), (4, .aload_n 0, 1, 0), (5, .getfield 17, 3, 1), (8, .aaload, 1, 0), (9, .aload_n 1, 1, 0),
  (10, .invokevirtual 25, 3, 25), (13, .aload_n 0, 1, 0), (14, .aload_n 0, 1, 0), (15, .getfield 17, 3, 1), (18, .iconst 1, 1, 0), (19, .iadd, 1, 0),
  (20, .bipush 8, 2, 0), (22, .irem, 1, 0), (23, .putfield 17, 3, 1), (26, .aload_n 0, 1, 0), (27, .aload_n 0, 1, 0), (28, .getfield 21, 3, 2),
  (31, .iconst 1, 1, 0), (32, .iadd, 1, 0), (33, .bipush 8, 2, 0), (35, .invokestatic 29, 3, 204), (38, .putfield 21, 3, 2), (41, .return_, 1, 0)]
def kd1 : List (Nat × Instr × Nat × Nat) := [
  (0, .aload_n 0, 1, 0), (1, .getfield 21, 3, 2), (4, .ifCond .gt 4, 3, 0), (7, .return_, 1, 0), (8, .aload_n 0, 1, 0), (9, .aload_n 0, 1, 0),
  (10, .getfield 17, 3, 1), (13, .bipush 8, 2, 0), (15, .iadd, 1, 0), (16, .iconst 1, 1, 0), (17, .isub, 1, 0), (18, .bipush 8, 2, 0),
  (20, .irem, 1, 0), (21, .putfield 17, 3, 1), (24, .aload_n 0, 1, 0), (25, .dup, 1, 0), (26, .getfield 21, 3, 2), (29, .iconst 1, 1, 0),
  (30, .isub, 1, 0), (31, .putfield 21, 3, 2), (34, .aload_n 1, 1, 0), (35, .aload_n 0, 1, 0), (36, .getfield 11, 3, 0), (39, .aload_n 0, 1, 0),
  (40, .getfield 17, 3, 1), (43, .aaload, 1, 0), (44, .invokevirtual 25, 3, 25), (47, .return_, 1, 0)]
def kd2 : List (Nat × Instr × Nat × Nat) := [
  (0, .aload_n 0, 1, 0), (1, .iconst 0, 1, 0), (2, .putfield 21, 3, 2), (5, .return_, 1, 0)]
def kd3 : List (Nat × Instr × Nat × Nat) := [
  (0, .aload_n 0, 1, 0), (1, .aload_n 1, 1, 0), (2, .aload_n 2, 1, 0), (3, .invokevirtual 32, 3, 14), (6, .iconst 0, 1, 0), (7, .istore_n 3, 1, 0),
  (8, .iload_n 3, 1, 0), (9, .iconst 5, 1, 0), (10, .if_icmp .ge 46, 3, 0), (13, .iconst 0, 1, 0), (14, .istore 4, 2, 0), (16, .iload 4, 2, 0),
  (18, .bipush 11, 2, 0), (20, .if_icmp .ge 19, 3, 0), (23, .aload_n 0, 1, 0), (24, .getfield 21, 3, 66), (27, .iload_n 3, 1, 0), (28, .aaload, 1, 0),
  (29, .iload 4, 2, 0), (31, .lconst 0, 1, 0), (32, .lastore, 1, 0), (33, .iinc 4 1, 3, 0), (36, .goto (-20), 3, 0), (39, .aload_n 0, 1, 0),
  (40, .getfield 21, 3, 66), (43, .iload_n 3, 1, 0), (44, .aaload, 1, 0), (45, .iconst 5, 1, 0), (46, .iload_n 3, 1, 0), (47, .iadd, 1, 0),
  (48, .lconst 1, 1, 0), (49, .lastore, 1, 0), (50, .iinc 3 1, 3, 0), (53, .goto (-45), 3, 0), (56, .iconst 0, 1, 0), (57, .istore_n 3, 1, 0),
  (58, .iload_n 3, 1, 0), (59, .aload_n 1, 1, 0), (60, .getfield 36, 3, 195), (63, .if_icmp .ge 91, 3, 0), (66, .aload_n 1, 1, 0), (67, .getfield 41, 3, 196),
  (70, .iload_n 3, 1, 0), (71, .invokestatic 44, 3, 97), (74, .iconst 1, 1, 0), (75, .if_icmp .ne 73, 3, 0), (78, .aload_n 1, 1, 0), (79, .getfield 48, 3, 200),
  (82, .iload_n 3, 1, 0), (83, .iaload, 1, 0), (84, .i2l, 1, 0), (85, .aload_n 1, 1, 0), (86, .getfield 51, 3, 199), (89, .iload_n 3, 1, 0),
  (90, .iaload, 1, 0), (91, .i2l, 1, 0), (92, .lmul, 1, 0), (93, .lstore 4, 2, 0), (95, .aload_n 0, 1, 0), (96, .aload_n 1, 1, 0),
  (97, .aload_n 1, 1, 0), (98, .getfield 54, 3, 197), (101, .iload_n 3, 1, 0), (102, .iaload, 1, 0), (103, .aload_n 1, 1, 0), (104, .getfield 57, 3, 198),
  (107, .iload_n 3, 1, 0), (108, .iaload, 1, 0), (109, .aload_n 1, 1, 0), (110, .getfield 48, 3, 200), (113, .iload_n 3, 1, 0), (114, .iaload, 1, 0),
  (115, .i2l, 1, 0), (116, .lload 4, 2, 0), (118, .lneg, 1, 0), (119, .invokevirtual 60, 3, 16), (122, .aload_n 0, 1, 0), (123, .aload_n 1, 1, 0),
  (124, .aload_n 1, 1, 0), (125, .getfield 57, 3, 198), (128, .iload_n 3, 1, 0), (129, .iaload, 1, 0), (130, .aload_n 1, 1, 0), (131, .getfield 54, 3, 197),
  (134, .iload_n 3, 1, 0), (135, .iaload, 1, 0), (136, .aload_n 1, 1, 0), (137, .getfield 48, 3, 200), (140, .iload_n 3, 1, 0), (141, .iaload, 1, 0),
  (142, .i2l, 1, 0), (143, .lload 4, 2, 0), (145, .invokevirtual 60, 3, 16), (148, .iinc 3 1, 3, 0), (151, .goto (-93), 3, 0), (154, .aload_n 0, 1, 0),
  (155, .invokevirtual 64, 3, 17), (158, .iconst 0, 1, 0), (159, .istore_n 3, 1, 0), (160, .iload_n 3, 1, 0), (161, .aload_n 1, 1, 0), (162, .getfield 67, 3, 192),
  (165, .if_icmp .ge 52, 3, 0), (168, .aload_n 0, 1, 0), (169, .getfield 24, 3, 67), (172, .iload_n 3, 1, 0), (173, .aload_n 0, 1, 0), (174, .getfield 15, 3, 65),
  (177, .iload_n 3, 1, 0), (178, .iaload, 1, 0), (179, .iconst (-1), 1, 0), (180, .if_icmp .ne 16, 3, 0), (183, .aload_n 1, 1, 0), (184, .iload_n 3, 1, 0),
  (185, .invokestatic 70, 3, 15), (188, .aload_n 0, 1, 0), (189, .getfield 28, 3, 68), (192, .lmul, 1, 0), (193, .goto 17, 3, 0), (196, .aload_n 0, 1, 0),
  (197, .getfield 21, 3, 66), (200, .aload_n 0, 1, 0), (201, .getfield 15, 3, 65), (204, .iload_n 3, 1, 0), (205, .iaload, 1, 0), (206, .aaload, 1, 0),
  (207, .bipush 10, 2, 0), (209, .laload, 1, 0), (210, .lastore, 1, 0), (211, .iinc 3 1, 3, 0), (214, .goto (-54), 3, 0), (217, .return_, 1, 0)]
def kd4 : List (Nat × Instr × Nat × Nat) := [
  (0, .aload_n 0, 1, 0), (1, .getfield 24, 3, 67), (4, .aload_n 1, 1, 0), (5, .getfield 57, 3, 198), (8, .iload_n 2, 1, 0), (9, .iaload, 1, 0),
  (10, .laload, 1, 0), (11, .aload_n 0, 1, 0), (12, .getfield 24, 3, 67), (15, .aload_n 1, 1, 0), (16, .getfield 54, 3, 197), (19, .iload_n 2, 1, 0),
  (20, .iaload, 1, 0), (21, .laload, 1, 0), (22, .lsub, 1, 0), (23, .aload_n 1, 1, 0), (24, .getfield 51, 3, 199), (27, .iload_n 2, 1, 0),
  (28, .iaload, 1, 0), (29, .i2l, 1, 0), (30, .aload_n 0, 1, 0), (31, .getfield 28, 3, 68), (34, .lmul, 1, 0), (35, .lsub, 1, 0),
  (36, .lreturn, 1, 0)]
def kd5 : List (Nat × Instr × Nat × Nat) := [
  (0, .lconst 0, 1, 0), (1, .lstore_n 2, 1, 0), (2, .iconst 0, 1, 0), (3, .istore 4, 2, 0), (5, .iload 4, 2, 0), (7, .aload_n 1, 1, 0),
  (8, .getfield 36, 3, 195), (11, .if_icmp .ge 32, 3, 0), (14, .aload_n 1, 1, 0), (15, .getfield 41, 3, 196), (18, .iload 4, 2, 0), (20, .invokestatic 44, 3, 97),
  (23, .iconst 1, 1, 0), (24, .if_icmp .ne 13, 3, 0), (27, .lload_n 2, 1, 0), (28, .aload_n 0, 1, 0), (29, .aload_n 1, 1, 0), (30, .iload 4, 2, 0),
  (32, .invokevirtual 74, 3, 13), (35, .ladd, 1, 0), (36, .lstore_n 2, 1, 0), (37, .iinc 4 1, 3, 0), (40, .goto (-35), 3, 0), (43, .lload_n 2, 1, 0),
  (44, .lreturn, 1, 0)]
def kd6 : List (Nat × Instr × Nat × Nat) := [
  (0, .aload_n 0, 1, 0), (1, .getfield 28, 3, 68), (4, .aload_n 1, 1, 0), (5, .getfield 48, 3, 200), (8, .iload_n 2, 1, 0), (9, .iaload, 1, 0),
  (10, .i2l, 1, 0), (11, .aload_n 0, 1, 0), (12, .aload_n 1, 1, 0), (13, .getfield 54, 3, 197), (16, .iload_n 2, 1, 0), (17, .iaload, 1, 0),
  (18, .aload_n 1, 1, 0), (19, .getfield 57, 3, 198), (22, .iload_n 2, 1, 0), (23, .iaload, 1, 0), (24, .invokevirtual 77, 3, 11), (27, .lmul, 1, 0),
  (28, .lsub, 1, 0), (29, .lreturn, 1, 0)]
def kd7 : List (Nat × Instr × Nat × Nat) := [
  (0, .aload_n 0, 1, 0), (1, .aload_n 1, 1, 0), (2, .iload_n 2, 1, 0), (3, .invokevirtual 81, 3, 6), (6, .lconst 0, 1, 0), (7, .lcmp, 1, 0),
  (8, .ifCond .ne 7, 3, 0), (11, .lconst 0, 1, 0), (12, .goto 9, 3, 0), (15, .aload_n 0, 1, 0), (16, .aload_n 1, 1, 0), (17, .iload_n 2, 1, 0),
  (18, .invokevirtual 74, 3, 13), (21, .lreturn, 1, 0)]
def kd8 : List (Nat × Instr × Nat × Nat) := [
  (0, .aload_n 0, 1, 0), (1, .aload_n 1, 1, 0), (2, .iload_n 2, 1, 0), (3, .invokevirtual 81, 3, 6), (6, .lstore_n 3, 1, 0), (7, .lload_n 3, 1, 0),
  (8, .lconst 0, 1, 0), (9, .lcmp, 1, 0), (10, .ifCond .ne 7, 3, 0), (13, .lconst 1, 1, 0), (14, .goto 9, 3, 0), (17, .lload_n 3, 1, 0),
  (18, .aload_n 0, 1, 0), (19, .getfield 28, 3, 68), (22, .lmul, 1, 0), (23, .lreturn, 1, 0)]
def kd9 : List (Nat × Instr × Nat × Nat) := [
  (0, .aload_n 0, 1, 0), (1, .aload_n 1, 1, 0), (2, .iload_n 2, 1, 0), (3, .invokevirtual 84, 3, 7), (6, .iload_n 3, 1, 0), (7, .i2l, 1, 0),
  (8, .aload_n 0, 1, 0), (9, .aload_n 1, 1, 0), (10, .iload_n 2, 1, 0), (11, .invokevirtual 87, 3, 8), (14, .lmul, 1, 0), (15, .lcmp, 1, 0),
  (16, .ifCond .le 7, 3, 0), (19, .iconst 1, 1, 0), (20, .goto 4, 3, 0), (23, .iconst 0, 1, 0), (24, .ireturn, 1, 0)]
def kd10 : List (Nat × Instr × Nat × Nat) := [
  (0, .iconst (-1), 1, 0), (1, .istore_n 2, 1, 0), (2, .lconst 0, 1, 0), (3, .lstore_n 3, 1, 0), (4, .lconst 1, 1, 0), (5, .lstore 5, 2, 0),
  (7, .iconst 0, 1, 0), (8, .istore 7, 2, 0), (10, .iload 7, 2, 0), (12, .aload_n 1, 1, 0), (13, .getfield 36, 3, 195), (16, .if_icmp .ge 65, 3, 0),
  (19, .aload_n 1, 1, 0), (20, .getfield 41, 3, 196), (23, .iload 7, 2, 0), (25, .invokestatic 44, 3, 97), (28, .ifCond .ne 6, 3, 0), (31, .goto 44, 3, 0),
  (34, .aload_n 0, 1, 0), (35, .aload_n 1, 1, 0), (36, .iload 7, 2, 0), (38, .invokevirtual 84, 3, 7), (41, .lstore 8, 2, 0), (43, .aload_n 0, 1, 0),
  (44, .aload_n 1, 1, 0), (45, .iload 7, 2, 0), (47, .invokevirtual 87, 3, 8), (50, .lstore 10, 2, 0), (52, .lload 8, 2, 0), (54, .lload 10, 2, 0),
  (56, .lload_n 3, 1, 0), (57, .lload 5, 2, 0), (59, .invokestatic 90, 3, 23), (62, .ifCond .eq 13, 3, 0), (65, .iload 7, 2, 0), (67, .istore_n 2, 1, 0),
  (68, .lload 8, 2, 0), (70, .lstore_n 3, 1, 0), (71, .lload 10, 2, 0), (73, .lstore 5, 2, 0), (75, .iinc 7 1, 3, 0), (78, .goto (-68), 3, 0),
  (81, .iload_n 2, 1, 0), (82, .ireturn, 1, 0)]
def kd11 : List (Nat × Instr × Nat × Nat) := [
  (0, .aload_n 0, 1, 0), (1, .iload_n 1, 1, 0), (2, .iload_n 1, 1, 0), (3, .invokevirtual 96, 3, 12), (6, .aload_n 0, 1, 0), (7, .iload_n 2, 1, 0),
  (8, .iload_n 2, 1, 0), (9, .invokevirtual 96, 3, 12), (12, .ladd, 1, 0), (13, .ldc2_w 99, 3, 0), (16, .aload_n 0, 1, 0), (17, .iload_n 1, 1, 0),
  (18, .iload_n 2, 1, 0), (19, .invokevirtual 96, 3, 12), (22, .lmul, 1, 0), (23, .lsub, 1, 0), (24, .lreturn, 1, 0)]
def kd12 : List (Nat × Instr × Nat × Nat) := [
  (0, .aload_n 0, 1, 0), (1, .getfield 15, 3, 65), (4, .iload_n 1, 1, 0), (5, .iaload, 1, 0), (6, .iconst (-1), 1, 0), (7, .if_icmp .eq 13, 3, 0),
  (10, .aload_n 0, 1, 0), (11, .getfield 15, 3, 65), (14, .iload_n 2, 1, 0), (15, .iaload, 1, 0), (16, .iconst (-1), 1, 0), (17, .if_icmp .ne 7, 3, 0),
  (20, .lconst 0, 1, 0), (21, .goto 23, 3, 0), (24, .aload_n 0, 1, 0), (25, .getfield 21, 3, 66), (28, .aload_n 0, 1, 0), (29, .getfield 15, 3, 65),
  (32, .iload_n 1, 1, 0), (33, .iaload, 1, 0), (34, .aaload, 1, 0), (35, .iconst 5, 1, 0), (36, .aload_n 0, 1, 0), (37, .getfield 15, 3, 65),
  (40, .iload_n 2, 1, 0), (41, .iaload, 1, 0), (42, .iadd, 1, 0), (43, .laload, 1, 0), (44, .lreturn, 1, 0)]
def kd13 : List (Nat × Instr × Nat × Nat) := [
  (0, .aload_n 0, 1, 0), (1, .aload_n 1, 1, 0), (2, .iload_n 2, 1, 0), (3, .invokevirtual 101, 3, 4), (6, .lstore_n 3, 1, 0), (7, .aload_n 1, 1, 0),
  (8, .getfield 48, 3, 200), (11, .iload_n 2, 1, 0), (12, .iaload, 1, 0), (13, .i2l, 1, 0), (14, .lload_n 3, 1, 0), (15, .lmul, 1, 0),
  (16, .lload_n 3, 1, 0), (17, .lmul, 1, 0), (18, .lreturn, 1, 0)]
def kd14 : List (Nat × Instr × Nat × Nat) := [
  (0, .aload_n 0, 1, 0), (1, .iconst 0, 1, 0), (2, .putfield 11, 3, 64), (5, .iconst 0, 1, 0), (6, .istore_n 3, 1, 0), (7, .iload_n 3, 1, 0),
  (8, .bipush 6, 2, 0), (10, .if_icmp .ge 80, 3, 0), (13, .aload_n 0, 1, 0), (14, .getfield 15, 3, 65), (17, .iload_n 3, 1, 0), (18, .iconst (-1), 1, 0),
  (19, .iastore, 1, 0), (20, .iload_n 3, 1, 0), (21, .aload_n 1, 1, 0), (22, .getfield 67, 3, 192), (25, .if_icmp .ge 23, 3, 0), (28, .aload_n 1, 1, 0),
  (29, .iload_n 3, 1, 0), (30, .invokevirtual 104, 3, 28), (33, .ifCond .ne 15, 3, 0), (36, .aload_n 2, 1, 0), (37, .iload_n 3, 1, 0), (38, .invokevirtual 108, 3, 45),
  (41, .ifCond .ne 7, 3, 0), (44, .iconst 1, 1, 0), (45, .goto 4, 3, 0), (48, .iconst 0, 1, 0), (49, .istore 4, 2, 0), (51, .iload 4, 2, 0),
  (53, .ifCond .eq 31, 3, 0), (56, .aload_n 0, 1, 0), (57, .getfield 11, 3, 64), (60, .iconst 5, 1, 0), (61, .if_icmp .ge 23, 3, 0), (64, .aload_n 0, 1, 0),
  (65, .getfield 15, 3, 65), (68, .iload_n 3, 1, 0), (69, .aload_n 0, 1, 0), (70, .getfield 11, 3, 64), (73, .iastore, 1, 0), (74, .aload_n 0, 1, 0),
  (75, .dup, 1, 0), (76, .getfield 11, 3, 64), (79, .iconst 1, 1, 0), (80, .iadd, 1, 0), (81, .putfield 11, 3, 64), (84, .iinc 3 1, 3, 0),
  (87, .goto (-80), 3, 0), (90, .return_, 1, 0)]
def kd15 : List (Nat × Instr × Nat × Nat) := [
  (0, .aload_n 0, 1, 0), (1, .iload_n 1, 1, 0), (2, .invokevirtual 104, 3, 28), (5, .ifCond .eq 13, 3, 0), (8, .aload_n 0, 1, 0), (9, .getfield 113, 3, 194),
  (12, .iload_n 1, 1, 0), (13, .iaload, 1, 0), (14, .i2l, 1, 0), (15, .goto 4, 3, 0), (18, .lconst 0, 1, 0), (19, .lreturn, 1, 0)]
def kd16 : List (Nat × Instr × Nat × Nat) := [
  (0, .aload_n 0, 1, 0), (1, .getfield 15, 3, 65), (4, .iload_n 2, 1, 0), (5, .iaload, 1, 0), (6, .istore 8, 2, 0), (8, .iload 8, 2, 0),
  (10, .iconst (-1), 1, 0), (11, .if_icmp .ne 4, 3, 0), (14, .return_, 1, 0), (15, .aload_n 0, 1, 0), (16, .getfield 21, 3, 66), (19, .iload 8, 2, 0),
  (21, .aaload, 1, 0), (22, .iload 8, 2, 0), (24, .dup2, 1, 0), (25, .laload, 1, 0), (26, .lload 4, 2, 0), (28, .ladd, 1, 0),
  (29, .lastore, 1, 0), (30, .aload_n 0, 1, 0), (31, .getfield 21, 3, 66), (34, .iload 8, 2, 0), (36, .aaload, 1, 0), (37, .bipush 10, 2, 0),
  (39, .dup2, 1, 0), (40, .laload, 1, 0), (41, .lload 6, 2, 0), (43, .ladd, 1, 0), (44, .lastore, 1, 0), (45, .aload_n 0, 1, 0),
  (46, .getfield 15, 3, 65), (49, .iload_n 3, 1, 0), (50, .iaload, 1, 0), (51, .iconst (-1), 1, 0), (52, .if_icmp .ne 27, 3, 0), (55, .aload_n 0, 1, 0),
  (56, .getfield 21, 3, 66), (59, .iload 8, 2, 0), (61, .aaload, 1, 0), (62, .bipush 10, 2, 0), (64, .dup2, 1, 0), (65, .laload, 1, 0),
  (66, .lload 4, 2, 0), (68, .aload_n 1, 1, 0), (69, .iload_n 3, 1, 0), (70, .invokestatic 70, 3, 15), (73, .lmul, 1, 0), (74, .ladd, 1, 0),
  (75, .lastore, 1, 0), (76, .goto 22, 3, 0), (79, .aload_n 0, 1, 0), (80, .getfield 21, 3, 66), (83, .iload 8, 2, 0), (85, .aaload, 1, 0),
  (86, .aload_n 0, 1, 0), (87, .getfield 15, 3, 65), (90, .iload_n 3, 1, 0), (91, .iaload, 1, 0), (92, .dup2, 1, 0), (93, .laload, 1, 0),
  (94, .lload 4, 2, 0), (96, .lsub, 1, 0), (97, .lastore, 1, 0), (98, .return_, 1, 0)]
def kd17 : List (Nat × Instr × Nat × Nat) := [
  (0, .aload_n 0, 1, 0), (1, .lconst 1, 1, 0), (2, .putfield 28, 3, 68), (5, .iconst 0, 1, 0), (6, .istore_n 1, 1, 0), (7, .iload_n 1, 1, 0),
  (8, .aload_n 0, 1, 0), (9, .getfield 11, 3, 64), (12, .if_icmp .ge 55, 3, 0), (15, .aload_n 0, 1, 0), (16, .getfield 21, 3, 66), (19, .iload_n 1, 1, 0),
  (20, .aaload, 1, 0), (21, .iload_n 1, 1, 0), (22, .laload, 1, 0), (23, .lstore_n 2, 1, 0), (24, .iconst 0, 1, 0), (25, .istore 4, 2, 0),
  (27, .iload 4, 2, 0), (29, .aload_n 0, 1, 0), (30, .getfield 11, 3, 64), (33, .if_icmp .ge 23, 3, 0), (36, .iload 4, 2, 0), (38, .iload_n 1, 1, 0),
  (39, .if_icmp .eq 11, 3, 0), (42, .aload_n 0, 1, 0), (43, .iload 4, 2, 0), (45, .iload_n 1, 1, 0), (46, .lload_n 2, 1, 0), (47, .invokevirtual 116, 3, 18),
  (50, .iinc 4 1, 3, 0), (53, .goto (-26), 3, 0), (56, .aload_n 0, 1, 0), (57, .lload_n 2, 1, 0), (58, .putfield 28, 3, 68), (61, .iinc 1 1, 3, 0),
  (64, .goto (-57), 3, 0), (67, .return_, 1, 0)]
def kd18 : List (Nat × Instr × Nat × Nat) := [
  (0, .aload_n 0, 1, 0), (1, .getfield 21, 3, 66), (4, .iload_n 1, 1, 0), (5, .aaload, 1, 0), (6, .iload_n 2, 1, 0), (7, .laload, 1, 0),
  (8, .lstore 5, 2, 0), (10, .iconst 0, 1, 0), (11, .istore 7, 2, 0), (13, .iload 7, 2, 0), (15, .bipush 11, 2, 0), (17, .if_icmp .ge 49, 3, 0),
  (20, .aload_n 0, 1, 0), (21, .getfield 21, 3, 66), (24, .iload_n 1, 1, 0), (25, .aaload, 1, 0), (26, .iload 7, 2, 0), (28, .lload_n 3, 1, 0),
  (29, .aload_n 0, 1, 0), (30, .getfield 21, 3, 66), (33, .iload_n 1, 1, 0), (34, .aaload, 1, 0), (35, .iload 7, 2, 0), (37, .laload, 1, 0),
  (38, .lmul, 1, 0), (39, .lload 5, 2, 0), (41, .aload_n 0, 1, 0), (42, .getfield 21, 3, 66), (45, .iload_n 2, 1, 0), (46, .aaload, 1, 0),
  (47, .iload 7, 2, 0), (49, .laload, 1, 0), (50, .lmul, 1, 0), (51, .lsub, 1, 0), (52, .aload_n 0, 1, 0), (53, .getfield 28, 3, 68),
  (56, .invokestatic 120, 3, 20), (59, .lastore, 1, 0), (60, .iinc 7 1, 3, 0), (63, .goto (-50), 3, 0), (66, .return_, 1, 0)]
def kd19 : List (Nat × Instr × Nat × Nat) := [
  (0, .iload 4, 2, 0), (2, .ifCond .ne 7, 3, 0), (5, .lload_n 0, 1, 0), (6, .goto 4, 3, 0), (9, .lload_n 2, 1, 0), (10, .lload_n 0, 1, 0),
  (11, .invokestatic 7, 3, 202), (14, .lload_n 2, 1, 0), (15, .invokestatic 13, 3, 22), (18, .invokestatic 19, 3, 20), (21, .lreturn, 1, 0)]
def kd20 : List (Nat × Instr × Nat × Nat) := [
  (0, .lload_n 2, 1, 0), (1, .lconst 0, 1, 0), (2, .lcmp, 1, 0), (3, .ifCond .ne 7, 3, 0), (6, .lconst 0, 1, 0), (7, .goto 6, 3, 0),
  (10, .lload_n 0, 1, 0), (11, .lload_n 2, 1, 0), (12, .ldiv, 1, 0), (13, .lreturn, 1, 0)]
def kd21 : List (Nat × Instr × Nat × Nat) := [
  (0, .lload_n 2, 1, 0), (1, .lconst 0, 1, 0), (2, .lcmp, 1, 0), (3, .ifCond .ne 7, 3, 0), (6, .lconst 0, 1, 0), (7, .goto 8, 3, 0),
  (10, .lload_n 0, 1, 0), (11, .lload_n 2, 1, 0), (12, .invokestatic 22, 3, 200), (15, .lreturn, 1, 0)]
def kd22 : List (Nat × Instr × Nat × Nat) := [
  (0, .lload_n 0, 1, 0), (1, .lstore 4, 2, 0), (3, .lload_n 2, 1, 0), (4, .lstore 6, 2, 0), (6, .iconst 0, 1, 0), (7, .istore 8, 2, 0),
  (9, .iload 8, 2, 0), (11, .sipush 200, 3, 0), (14, .if_icmp .ge 31, 3, 0), (17, .lload 6, 2, 0), (19, .lconst 0, 1, 0), (20, .lcmp, 1, 0),
  (21, .ifCond .eq 24, 3, 0), (24, .lload 4, 2, 0), (26, .lload 6, 2, 0), (28, .lrem, 1, 0), (29, .lstore 9, 2, 0), (31, .lload 6, 2, 0),
  (33, .lstore 4, 2, 0), (35, .lload 9, 2, 0), (37, .lstore 6, 2, 0), (39, .iinc 8 1, 3, 0), (42, .goto (-33), 3, 0), (45, .lload 4, 2, 0),
  (47, .lreturn, 1, 0)]
def kd23 : List (Nat × Instr × Nat × Nat) := [
  (0, .iconst 0, 1, 0), (1, .istore 8, 2, 0), (3, .iload 8, 2, 0), (5, .sipush 200, 3, 0), (8, .if_icmp .ge 115, 3, 0), (11, .lload_n 2, 1, 0),
  (12, .lconst 0, 1, 0), (13, .lcmp, 1, 0), (14, .ifCond .le 109, 3, 0), (17, .lload 6, 2, 0), (19, .lconst 0, 1, 0), (20, .lcmp, 1, 0),
  (21, .ifCond .le 102, 3, 0), (24, .lload_n 0, 1, 0), (25, .lload_n 2, 1, 0), (26, .ldiv, 1, 0), (27, .lstore 9, 2, 0), (29, .lload 4, 2, 0),
  (31, .lload 6, 2, 0), (33, .ldiv, 1, 0), (34, .lstore 11, 2, 0), (36, .lload 9, 2, 0), (38, .lload 11, 2, 0), (40, .lcmp, 1, 0),
  (41, .ifCond .eq 17, 3, 0), (44, .lload 9, 2, 0), (46, .lload 11, 2, 0), (48, .lcmp, 1, 0), (49, .ifCond .le 7, 3, 0), (52, .iconst 1, 1, 0),
  (53, .goto 4, 3, 0), (56, .iconst 0, 1, 0), (57, .ireturn, 1, 0), (58, .lload_n 0, 1, 0), (59, .lload 9, 2, 0), (61, .lload_n 2, 1, 0),
  (62, .lmul, 1, 0), (63, .lsub, 1, 0), (64, .lstore 13, 2, 0), (66, .lload 4, 2, 0), (68, .lload 11, 2, 0), (70, .lload 6, 2, 0),
  (72, .lmul, 1, 0), (73, .lsub, 1, 0), (74, .lstore 15, 2, 0), (76, .lload 13, 2, 0), (78, .lconst 0, 1, 0), (79, .lcmp, 1, 0),
  (80, .ifCond .eq 10, 3, 0), (83, .lload 15, 2, 0), (85, .lconst 0, 1, 0), (86, .lcmp, 1, 0), (87, .ifCond .ne 17, 3, 0), (90, .lload 13, 2, 0),
  (92, .lload 15, 2, 0), (94, .lcmp, 1, 0), (95, .ifCond .le 7, 3, 0), (98, .iconst 1, 1, 0), (99, .goto 4, 3, 0), (102, .iconst 0, 1, 0),
  (103, .ireturn, 1, 0), (104, .lload 6, 2, 0), (106, .lstore_n 0, 1, 0), (107, .lload_n 2, 1, 0), (108, .lstore 4, 2, 0), (110, .lload 15, 2, 0),
  (112, .lstore_n 2, 1, 0), (113, .lload 13, 2, 0), (115, .lstore 6, 2, 0), (117, .iinc 8 1, 3, 0), (120, .goto (-117), 3, 0), (123, .iconst 0, 1, 0),
  (124, .ireturn, 1, 0)]
def kd24 : List (Nat × Instr × Nat × Nat) := [
  (0, .aload_n 0, 1, 0), (1, .iconst 0, 1, 0), (2, .putfield 9, 3, 192), (5, .aload_n 0, 1, 0), (6, .iconst 0, 1, 0), (7, .putfield 15, 3, 193),
  (10, .aload_n 0, 1, 0), (11, .iconst 0, 1, 0), (12, .putfield 22, 3, 195), (15, .aload_n 0, 1, 0), (16, .iconst 0, 1, 0), (17, .putfield 25, 3, 196),
  (20, .return_, 1, 0)]
def kd25 : List (Nat × Instr × Nat × Nat) := [
  (0, .aload_n 0, 1, 0), (1, .aload_n 1, 1, 0), (2, .getfield 9, 3, 192), (5, .putfield 9, 3, 192), (8, .aload_n 0, 1, 0), (9, .aload_n 1, 1, 0),
  (10, .getfield 15, 3, 193), (13, .putfield 15, 3, 193), (16, .aload_n 0, 1, 0), (17, .aload_n 1, 1, 0), (18, .getfield 22, 3, 195), (21, .putfield 22, 3, 195),
  (24, .aload_n 0, 1, 0), (25, .aload_n 1, 1, 0), (26, .getfield 25, 3, 196), (29, .putfield 25, 3, 196), (32, .iconst 0, 1, 0), (33, .istore_n 2, 1, 0),
  (34, .iload_n 2, 1, 0), (35, .aload_n 0, 1, 0), (36, .getfield 9, 3, 192), (39, .if_icmp .ge 21, 3, 0), (42, .aload_n 0, 1, 0), (43, .getfield 18, 3, 194),
  (46, .iload_n 2, 1, 0), (47, .aload_n 1, 1, 0), (48, .getfield 18, 3, 194), (51, .iload_n 2, 1, 0), (52, .iaload, 1, 0), (53, .iastore, 1, 0),
  (54, .iinc 2 1, 3, 0), (57, .goto (-23), 3, 0), (60, .iconst 0, 1, 0), (61, .istore_n 2, 1, 0), (62, .iload_n 2, 1, 0), (63, .aload_n 0, 1, 0),
  (64, .getfield 22, 3, 195), (67, .if_icmp .ge 57, 3, 0), (70, .aload_n 0, 1, 0), (71, .getfield 28, 3, 197), (74, .iload_n 2, 1, 0), (75, .aload_n 1, 1, 0),
  (76, .getfield 28, 3, 197), (79, .iload_n 2, 1, 0), (80, .iaload, 1, 0), (81, .iastore, 1, 0), (82, .aload_n 0, 1, 0), (83, .getfield 31, 3, 198),
  (86, .iload_n 2, 1, 0), (87, .aload_n 1, 1, 0), (88, .getfield 31, 3, 198), (91, .iload_n 2, 1, 0), (92, .iaload, 1, 0), (93, .iastore, 1, 0),
  (94, .aload_n 0, 1, 0), (95, .getfield 34, 3, 199), (98, .iload_n 2, 1, 0), (99, .aload_n 1, 1, 0), (100, .getfield 34, 3, 199), (103, .iload_n 2, 1, 0),
  (104, .iaload, 1, 0), (105, .iastore, 1, 0), (106, .aload_n 0, 1, 0), (107, .getfield 37, 3, 200), (110, .iload_n 2, 1, 0), (111, .aload_n 1, 1, 0),
  (112, .getfield 37, 3, 200), (115, .iload_n 2, 1, 0), (116, .iaload, 1, 0), (117, .iastore, 1, 0), (118, .iinc 2 1, 3, 0), (121, .goto (-59), 3, 0),
  (124, .return_, 1, 0)]
def kd26 : List (Nat × Instr × Nat × Nat) := [
  (0, .aload_n 0, 1, 0), (1, .getfield 9, 3, 192), (4, .bipush 6, 2, 0), (6, .if_icmp .lt 4, 3, 0), (9, .return_, 1, 0), (10, .iload_n 1, 1, 0),
  (11, .ifCond .eq 18, 3, 0), (14, .aload_n 0, 1, 0), (15, .dup, 1, 0), (16, .getfield 15, 3, 193), (19, .iconst 1, 1, 0), (20, .aload_n 0, 1, 0),
  (21, .getfield 9, 3, 192), (24, .ishl, 1, 0), (25, .ior, 1, 0), (26, .putfield 15, 3, 193), (29, .aload_n 0, 1, 0), (30, .getfield 18, 3, 194),
  (33, .aload_n 0, 1, 0), (34, .getfield 9, 3, 192), (37, .iload_n 2, 1, 0), (38, .iastore, 1, 0), (39, .aload_n 0, 1, 0), (40, .dup, 1, 0),
  (41, .getfield 9, 3, 192), (44, .iconst 1, 1, 0), (45, .iadd, 1, 0), (46, .putfield 9, 3, 192), (49, .return_, 1, 0)]
def kd27 : List (Nat × Instr × Nat × Nat) := [
  (0, .aload_n 0, 1, 0), (1, .getfield 22, 3, 195), (4, .bipush 11, 2, 0), (6, .if_icmp .lt 5, 3, 0), (9, .iconst (-1), 1, 0), (10, .ireturn, 1, 0),
  (11, .aload_n 0, 1, 0), (12, .getfield 22, 3, 195), (15, .istore 5, 2, 0), (17, .aload_n 0, 1, 0), (18, .getfield 28, 3, 197), (21, .iload 5, 2, 0),
  (23, .iload_n 1, 1, 0), (24, .iastore, 1, 0), (25, .aload_n 0, 1, 0), (26, .getfield 31, 3, 198), (29, .iload 5, 2, 0), (31, .iload_n 2, 1, 0),
  (32, .iastore, 1, 0), (33, .aload_n 0, 1, 0), (34, .getfield 34, 3, 199), (37, .iload 5, 2, 0), (39, .iload_n 3, 1, 0), (40, .iastore, 1, 0),
  (41, .aload_n 0, 1, 0), (42, .getfield 37, 3, 200), (45, .iload 5, 2, 0), (47, .iload 4, 2, 0), (49, .iastore, 1, 0), (50, .aload_n 0, 1, 0),
  (51, .dup, 1, 0), (52, .getfield 25, 3, 196), (55, .iconst 1, 1, 0), (56, .iload 5, 2, 0), (58, .ishl, 1, 0), (59, .ior, 1, 0),
  (60, .putfield 25, 3, 196), (63, .aload_n 0, 1, 0), (64, .dup, 1, 0), (65, .getfield 22, 3, 195), (68, .iconst 1, 1, 0), (69, .iadd, 1, 0),
  (70, .putfield 22, 3, 195), (73, .iload 5, 2, 0), (75, .ireturn, 1, 0)]
def kd28 : List (Nat × Instr × Nat × Nat) := [
  (0, .aload_n 0, 1, 0), (1, .getfield 15, 3, 193), (4, .iload_n 1, 1, 0), (5, .invokestatic 40, 3, 97), (8, .iconst 1, 1, 0), (9, .if_icmp .ne 7, 3, 0),
  (12, .iconst 1, 1, 0), (13, .goto 4, 3, 0), (16, .iconst 0, 1, 0), (17, .ireturn, 1, 0)]
def kd29 : List (Nat × Instr × Nat × Nat) := [
  (0, .iconst 0, 1, 0), (1, .istore_n 2, 1, 0), (2, .iconst 0, 1, 0), (3, .istore_n 3, 1, 0), (4, .iload_n 3, 1, 0), (5, .aload_n 0, 1, 0),
  (6, .getfield 22, 3, 195), (9, .if_icmp .ge 44, 3, 0), (12, .aload_n 0, 1, 0), (13, .getfield 25, 3, 196), (16, .iload_n 3, 1, 0), (17, .invokestatic 40, 3, 97),
  (20, .iconst 1, 1, 0), (21, .if_icmp .ne 26, 3, 0), (24, .aload_n 0, 1, 0), (25, .getfield 28, 3, 197), (28, .iload_n 3, 1, 0), (29, .iaload, 1, 0),
  (30, .iload_n 1, 1, 0), (31, .if_icmp .eq 13, 3, 0), (34, .aload_n 0, 1, 0), (35, .getfield 31, 3, 198), (38, .iload_n 3, 1, 0), (39, .iaload, 1, 0),
  (40, .iload_n 1, 1, 0), (41, .if_icmp .ne 6, 3, 0), (44, .iinc 2 1, 3, 0), (47, .iinc 3 1, 3, 0), (50, .goto (-46), 3, 0), (53, .iload_n 2, 1, 0),
  (54, .ireturn, 1, 0)]
def kd30 : List (Nat × Instr × Nat × Nat) := [
  (0, .aload_n 1, 1, 0), (1, .invokevirtual 69, 3, 24), (4, .aload_n 0, 1, 0), (5, .iconst 0, 1, 0), (6, .putfield 40, 3, 262), (9, .aload_n 0, 1, 0),
  (10, .iconst 0, 1, 0), (11, .putfield 56, 3, 267), (14, .iconst 0, 1, 0), (15, .istore_n 2, 1, 0), (16, .iload_n 2, 1, 0), (17, .bipush 17, 2, 0),
  (19, .if_icmp .gt 117, 3, 0), (22, .aload_n 0, 1, 0), (23, .invokevirtual 74, 3, 40), (26, .aload_n 0, 1, 0), (27, .getfield 44, 3, 263), (30, .ifCond .ne 30, 3, 0),
  (33, .aload_n 0, 1, 0), (34, .getfield 65, 3, 256), (37, .getfield 77, 3, 321), (40, .sipush 500, 3, 0), (43, .if_icmp .le 11, 3, 0), (46, .aload_n 0, 1, 0),
  (47, .iconst 1, 1, 0), (48, .invokevirtual 82, 3, 39), (51, .ifCond .eq 7, 3, 0), (54, .iconst 1, 1, 0), (55, .goto 4, 3, 0), (58, .iconst 0, 1, 0),
  (59, .ireturn, 1, 0), (60, .aload_n 0, 1, 0), (61, .aload_n 0, 1, 0), (62, .getfield 21, 3, 258), (65, .invokevirtual 86, 3, 36), (68, .ifCond .ne 20, 3, 0),
  (71, .aload_n 0, 1, 0), (72, .aload_n 0, 1, 0), (73, .getfield 27, 3, 259), (76, .invokevirtual 86, 3, 36), (79, .ifCond .ne 9, 3, 0), (82, .aload_n 0, 1, 0),
  (83, .iconst 1, 1, 0), (84, .invokevirtual 82, 3, 39), (87, .ireturn, 1, 0), (88, .aload_n 0, 1, 0), (89, .aload_n 0, 1, 0), (90, .getfield 21, 3, 258),
  (93, .invokevirtual 86, 3, 36), (96, .ifCond .eq 14, 3, 0), (99, .aload_n 0, 1, 0), (100, .aload_n 1, 1, 0), (101, .invokevirtual 90, 3, 31), (104, .ifCond .eq 14, 3, 0),
  (107, .goto 13, 3, 0), (110, .aload_n 0, 1, 0), (111, .aload_n 1, 1, 0), (112, .invokevirtual 94, 3, 32), (115, .ifCond .ne 5, 3, 0), (118, .iconst 0, 1, 0),
  (119, .ireturn, 1, 0), (120, .aload_n 0, 1, 0), (121, .dup, 1, 0), (122, .getfield 56, 3, 267), (125, .iconst 1, 1, 0), (126, .iadd, 1, 0),
  (127, .putfield 56, 3, 267), (130, .iinc 2 1, 3, 0), (133, .goto (-117), 3, 0), (136, .aload_n 0, 1, 0), (137, .iconst 4, 1, 0), (138, .invokevirtual 82, 3, 39),
  (141, .ireturn, 1, 0)]
def kd31 : List (Nat × Instr × Nat × Nat) := [
  (0, .aload_n 1, 1, 0), (1, .getfield 97, 3, 192), (4, .istore_n 2, 1, 0), (5, .iload_n 2, 1, 0), (6, .bipush 6, 2, 0), (8, .if_icmp .lt 9, 3, 0),
  (11, .aload_n 0, 1, 0), (12, .iconst 4, 1, 0), (13, .invokevirtual 82, 3, 39), (16, .ireturn, 1, 0), (17, .aload_n 0, 1, 0), (18, .invokevirtual 74, 3, 40),
  (21, .aload_n 0, 1, 0), (22, .invokevirtual 100, 3, 37), (25, .ifCond .ne 9, 3, 0), (28, .aload_n 0, 1, 0), (29, .iconst 1, 1, 0), (30, .invokevirtual 82, 3, 39),
  (33, .ireturn, 1, 0), (34, .aload_n 0, 1, 0), (35, .iload_n 2, 1, 0), (36, .invokevirtual 104, 3, 38), (39, .iconst (-1), 1, 0), (40, .if_icmp .eq 9, 3, 0),
  (43, .aload_n 0, 1, 0), (44, .iconst 3, 1, 0), (45, .invokevirtual 82, 3, 39), (48, .ireturn, 1, 0), (49, .aload_n 0, 1, 0), (50, .getfield 9, 3, 257),
  (53, .iload_n 2, 1, 0), (54, .aload_n 0, 1, 0), (55, .getfield 50, 3, 265), (58, .lastore, 1, 0), (59, .aload_n 0, 1, 0), (60, .invokevirtual 74, 3, 40),
  (63, .aload_n 0, 1, 0), (64, .getfield 44, 3, 263), (67, .iconst 3, 1, 0), (68, .if_icmp .ne 11, 3, 0), (71, .aload_n 1, 1, 0), (72, .iconst 0, 1, 0),
  (73, .iconst 0, 1, 0), (74, .invokevirtual 108, 3, 26), (77, .iconst 1, 1, 0), (78, .ireturn, 1, 0), (79, .aload_n 0, 1, 0), (80, .invokevirtual 112, 3, 34),
  (83, .ifCond .eq 10, 3, 0), (86, .aload_n 0, 1, 0), (87, .invokevirtual 115, 3, 35), (90, .ifCond .ne 5, 3, 0), (93, .iconst 0, 1, 0), (94, .ireturn, 1, 0),
  (95, .aload_n 1, 1, 0), (96, .iconst 1, 1, 0), (97, .aload_n 0, 1, 0), (98, .getfield 53, 3, 266), (101, .invokevirtual 108, 3, 26), (104, .iconst 1, 1, 0),
  (105, .ireturn, 1, 0)]
def kd32 : List (Nat × Instr × Nat × Nat) := [
  (0, .aload_n 1, 1, 0), (1, .getfield 118, 3, 195), (4, .bipush 11, 2, 0), (6, .if_icmp .lt 9, 3, 0), (9, .aload_n 0, 1, 0), (10, .iconst 4, 1, 0),
  (11, .invokevirtual 82, 3, 39), (14, .ireturn, 1, 0), (15, .aload_n 0, 1, 0), (16, .invokevirtual 74, 3, 40), (19, .aload_n 0, 1, 0), (20, .aload_n 1, 1, 0),
  (21, .getfield 97, 3, 192), (24, .invokevirtual 121, 3, 33), (27, .istore_n 2, 1, 0), (28, .iload_n 2, 1, 0), (29, .iconst (-1), 1, 0), (30, .if_icmp .ne 5, 3, 0),
  (33, .iconst 0, 1, 0), (34, .ireturn, 1, 0), (35, .aload_n 0, 1, 0), (36, .invokevirtual 74, 3, 40), (39, .aload_n 0, 1, 0), (40, .aload_n 1, 1, 0),
  (41, .getfield 97, 3, 192), (44, .invokevirtual 121, 3, 33), (47, .istore_n 3, 1, 0), (48, .iload_n 3, 1, 0), (49, .iconst (-1), 1, 0), (50, .if_icmp .ne 5, 3, 0),
  (53, .iconst 0, 1, 0), (54, .ireturn, 1, 0), (55, .iload_n 3, 1, 0), (56, .iload_n 2, 1, 0), (57, .if_icmp .ne 9, 3, 0), (60, .aload_n 0, 1, 0),
  (61, .iconst 3, 1, 0), (62, .invokevirtual 82, 3, 39), (65, .ireturn, 1, 0), (66, .aload_n 0, 1, 0), (67, .invokevirtual 74, 3, 40), (70, .aload_n 0, 1, 0),
  (71, .invokevirtual 112, 3, 34), (74, .ifCond .ne 5, 3, 0), (77, .iconst 0, 1, 0), (78, .ireturn, 1, 0), (79, .aload_n 0, 1, 0), (80, .invokevirtual 74, 3, 40),
  (83, .aload_n 0, 1, 0), (84, .getfield 44, 3, 263), (87, .iconst 2, 1, 0), (88, .if_icmp .eq 9, 3, 0), (91, .aload_n 0, 1, 0), (92, .iconst 1, 1, 0),
  (93, .invokevirtual 82, 3, 39), (96, .ireturn, 1, 0), (97, .aload_n 0, 1, 0), (98, .getfield 50, 3, 265), (101, .l2i, 1, 0), (102, .istore 4, 2, 0),
  (104, .iload 4, 2, 0), (106, .invokestatic 124, 3, 95), (109, .ifCond .ne 9, 3, 0), (112, .aload_n 0, 1, 0), (113, .iconst 2, 1, 0), (114, .invokevirtual 82, 3, 39),
  (117, .ireturn, 1, 0), (118, .aload_n 0, 1, 0), (119, .invokevirtual 115, 3, 35), (122, .ifCond .ne 5, 3, 0), (125, .iconst 0, 1, 0), (126, .ireturn, 1, 0),
  (127, .aload_n 1, 1, 0), (128, .iload_n 2, 1, 0), (129, .iload_n 3, 1, 0), (130, .aload_n 0, 1, 0), (131, .getfield 53, 3, 266), (134, .iload 4, 2, 0),
  (136, .invokevirtual 127, 3, 27), (139, .pop, 1, 0), (140, .iconst 1, 1, 0), (141, .ireturn, 1, 0)]
def kd33 : List (Nat × Instr × Nat × Nat) := [
  (0, .aload_n 0, 1, 0), (1, .invokevirtual 100, 3, 37), (4, .ifCond .ne 11, 3, 0), (7, .aload_n 0, 1, 0), (8, .iconst 1, 1, 0), (9, .invokevirtual 82, 3, 39),
  (12, .pop, 1, 0), (13, .iconst (-1), 1, 0), (14, .ireturn, 1, 0), (15, .aload_n 0, 1, 0), (16, .iload_n 1, 1, 0), (17, .invokevirtual 104, 3, 38),
  (20, .istore_n 2, 1, 0), (21, .iload_n 2, 1, 0), (22, .iconst (-1), 1, 0), (23, .if_icmp .ne 9, 3, 0), (26, .aload_n 0, 1, 0), (27, .iconst 3, 1, 0),
  (28, .invokevirtual 82, 3, 39), (31, .pop, 1, 0), (32, .iload_n 2, 1, 0), (33, .ireturn, 1, 0)]
def kd34 : List (Nat × Instr × Nat × Nat) := [
  (0, .aload_n 0, 1, 0), (1, .aload_n 0, 1, 0), (2, .getfield 32, 3, 260), (5, .invokevirtual 86, 3, 36), (8, .istore_n 1, 1, 0), (9, .iload_n 1, 1, 0),
  (10, .ifCond .ne 20, 3, 0), (13, .aload_n 0, 1, 0), (14, .aload_n 0, 1, 0), (15, .getfield 37, 3, 261), (18, .invokevirtual 86, 3, 36), (21, .ifCond .ne 9, 3, 0),
  (24, .aload_n 0, 1, 0), (25, .iconst 1, 1, 0), (26, .invokevirtual 82, 3, 39), (29, .ireturn, 1, 0), (30, .aload_n 0, 1, 0), (31, .invokevirtual 74, 3, 40),
  (34, .aload_n 0, 1, 0), (35, .getfield 44, 3, 263), (38, .iconst 2, 1, 0), (39, .if_icmp .eq 9, 3, 0), (42, .aload_n 0, 1, 0), (43, .iconst 1, 1, 0),
  (44, .invokevirtual 82, 3, 39), (47, .ireturn, 1, 0), (48, .aload_n 0, 1, 0), (49, .iload_n 1, 1, 0), (50, .ifCond .eq 11, 3, 0), (53, .aload_n 0, 1, 0),
  (54, .getfield 50, 3, 265), (57, .l2i, 1, 0), (58, .goto 9, 3, 0), (61, .aload_n 0, 1, 0), (62, .getfield 50, 3, 265), (65, .lneg, 1, 0),
  (66, .l2i, 1, 0), (67, .putfield 53, 3, 266), (70, .iconst 1, 1, 0), (71, .ireturn, 1, 0)]
def kd35 : List (Nat × Instr × Nat × Nat) := [
  (0, .aload_n 0, 1, 0), (1, .invokevirtual 74, 3, 40), (4, .aload_n 0, 1, 0), (5, .getfield 44, 3, 263), (8, .iconst 3, 1, 0), (9, .if_icmp .eq 11, 3, 0),
  (12, .aload_n 0, 1, 0), (13, .iconst 1, 1, 0), (14, .invokevirtual 82, 3, 39), (17, .ifCond .eq 7, 3, 0), (20, .iconst 1, 1, 0), (21, .goto 4, 3, 0),
  (24, .iconst 0, 1, 0), (25, .ireturn, 1, 0)]
def kd36 : List (Nat × Instr × Nat × Nat) := [
  (0, .aload_n 0, 1, 0), (1, .getfield 44, 3, 263), (4, .iconst 1, 1, 0), (5, .if_icmp .ne 16, 3, 0), (8, .aload_n 0, 1, 0), (9, .getfield 50, 3, 265),
  (12, .lload_n 1, 1, 0), (13, .lcmp, 1, 0), (14, .ifCond .ne 7, 3, 0), (17, .iconst 1, 1, 0), (18, .goto 4, 3, 0), (21, .iconst 0, 1, 0),
  (22, .ireturn, 1, 0)]
def kd37 : List (Nat × Instr × Nat × Nat) := [
  (0, .aload_n 0, 1, 0), (1, .getfield 44, 3, 263), (4, .iconst 1, 1, 0), (5, .if_icmp .ne 55, 3, 0), (8, .aload_n 0, 1, 0), (9, .getfield 50, 3, 265),
  (12, .aload_n 0, 1, 0), (13, .getfield 21, 3, 258), (16, .lcmp, 1, 0), (17, .ifCond .eq 43, 3, 0), (20, .aload_n 0, 1, 0), (21, .getfield 50, 3, 265),
  (24, .aload_n 0, 1, 0), (25, .getfield 27, 3, 259), (28, .lcmp, 1, 0), (29, .ifCond .eq 31, 3, 0), (32, .aload_n 0, 1, 0), (33, .getfield 50, 3, 265),
  (36, .aload_n 0, 1, 0), (37, .getfield 32, 3, 260), (40, .lcmp, 1, 0), (41, .ifCond .eq 19, 3, 0), (44, .aload_n 0, 1, 0), (45, .getfield 50, 3, 265),
  (48, .aload_n 0, 1, 0), (49, .getfield 37, 3, 261), (52, .lcmp, 1, 0), (53, .ifCond .eq 7, 3, 0), (56, .iconst 1, 1, 0), (57, .goto 4, 3, 0),
  (60, .iconst 0, 1, 0), (61, .ireturn, 1, 0)]
def kd38 : List (Nat × Instr × Nat × Nat) := [
  (0, .iconst 0, 1, 0), (1, .istore_n 2, 1, 0), (2, .iload_n 2, 1, 0), (3, .iload_n 1, 1, 0), (4, .if_icmp .ge 31, 3, 0), (7, .iload_n 2, 1, 0),
  (8, .bipush 6, 2, 0), (10, .if_icmp .ge 25, 3, 0), (13, .aload_n 0, 1, 0), (14, .getfield 9, 3, 257), (17, .iload_n 2, 1, 0), (18, .laload, 1, 0),
  (19, .aload_n 0, 1, 0), (20, .getfield 50, 3, 265), (23, .lcmp, 1, 0), (24, .ifCond .ne 5, 3, 0), (27, .iload_n 2, 1, 0), (28, .ireturn, 1, 0),
  (29, .iinc 2 1, 3, 0), (32, .goto (-30), 3, 0), (35, .iconst (-1), 1, 0), (36, .ireturn, 1, 0)]
def kd39 : List (Nat × Instr × Nat × Nat) := [
  (0, .aload_n 0, 1, 0), (1, .iload_n 1, 1, 0), (2, .putfield 59, 3, 268), (5, .aload_n 0, 1, 0), (6, .aload_n 0, 1, 0), (7, .getfield 47, 3, 264),
  (10, .putfield 62, 3, 269), (13, .iconst 0, 1, 0), (14, .ireturn, 1, 0)]
def kd40 : List (Nat × Instr × Nat × Nat) := [
  (0, .aload_n 0, 1, 0), (1, .getfield 65, 3, 256), (4, .getfield 77, 3, 321), (7, .sipush 500, 3, 0), (10, .invokestatic 131, 3, 204), (13, .istore_n 1, 1, 0),
  (14, .aload_n 0, 1, 0), (15, .getfield 40, 3, 262), (18, .iload_n 1, 1, 0), (19, .if_icmp .ge 50, 3, 0), (22, .aload_n 0, 1, 0), (23, .getfield 65, 3, 256),
  (26, .getfield 137, 3, 320), (29, .aload_n 0, 1, 0), (30, .getfield 40, 3, 262), (33, .baload, 1, 0), (34, .bipush 32, 2, 0), (36, .if_icmp .eq 20, 3, 0),
  (39, .aload_n 0, 1, 0), (40, .getfield 65, 3, 256), (43, .getfield 137, 3, 320), (46, .aload_n 0, 1, 0), (47, .getfield 40, 3, 262), (50, .baload, 1, 0),
  (51, .bipush 10, 2, 0), (53, .if_icmp .ne 16, 3, 0), (56, .aload_n 0, 1, 0), (57, .dup, 1, 0), (58, .getfield 40, 3, 262), (61, .iconst 1, 1, 0),
  (62, .iadd, 1, 0), (63, .putfield 40, 3, 262), (66, .goto (-52), 3, 0), (69, .aload_n 0, 1, 0), (70, .getfield 40, 3, 262), (73, .iload_n 1, 1, 0),
  (74, .if_icmp .lt 14, 3, 0), (77, .aload_n 0, 1, 0), (78, .iconst 0, 1, 0), (79, .putfield 44, 3, 263), (82, .aload_n 0, 1, 0), (83, .iload_n 1, 1, 0),
  (84, .putfield 47, 3, 264), (87, .return_, 1, 0), (88, .aload_n 0, 1, 0), (89, .aload_n 0, 1, 0), (90, .getfield 40, 3, 262), (93, .putfield 47, 3, 264),
  (96, .aload_n 0, 1, 0), (97, .getfield 65, 3, 256), (100, .getfield 137, 3, 320), (103, .aload_n 0, 1, 0), (104, .getfield 40, 3, 262), (107, .baload, 1, 0),
  (108, .bipush 59, 2, 0), (110, .if_icmp .ne 19, 3, 0), (113, .aload_n 0, 1, 0), (114, .iconst 3, 1, 0), (115, .putfield 44, 3, 263), (118, .aload_n 0, 1, 0),
  (119, .dup, 1, 0), (120, .getfield 40, 3, 262), (123, .iconst 1, 1, 0), (124, .iadd, 1, 0), (125, .putfield 40, 3, 262), (128, .return_, 1, 0),
  (129, .aload_n 0, 1, 0), (130, .invokevirtual 141, 3, 41), (133, .return_, 1, 0)]
def kd41 : List (Nat × Instr × Nat × Nat) := [
  (0, .iconst 0, 1, 0), (1, .istore_n 1, 1, 0), (2, .iconst 0, 1, 0), (3, .istore_n 2, 1, 0), (4, .aload_n 0, 1, 0), (5, .lconst 0, 1, 0),
  (6, .putfield 50, 3, 265), (9, .aload_n 0, 1, 0), (10, .getfield 40, 3, 262), (13, .aload_n 0, 1, 0), (14, .getfield 65, 3, 256), (17, .getfield 77, 3, 321),
  (20, .if_icmp .ge 92, 3, 0), (23, .aload_n 0, 1, 0), (24, .getfield 65, 3, 256), (27, .getfield 137, 3, 320), (30, .aload_n 0, 1, 0), (31, .getfield 40, 3, 262),
  (34, .baload, 1, 0), (35, .istore_n 3, 1, 0), (36, .iload_n 3, 1, 0), (37, .bipush 97, 2, 0), (39, .if_icmp .lt 27, 3, 0), (42, .iload_n 3, 1, 0),
  (43, .bipush 122, 2, 0), (45, .if_icmp .gt 21, 3, 0), (48, .iinc 1 1, 3, 0), (51, .aload_n 0, 1, 0), (52, .aload_n 0, 1, 0), (53, .getfield 50, 3, 265),
  (56, .iload_n 3, 1, 0), (57, .invokestatic 144, 3, 42), (60, .putfield 50, 3, 265), (63, .goto 36, 3, 0), (66, .iload_n 3, 1, 0), (67, .bipush 48, 2, 0),
  (69, .if_icmp .lt 43, 3, 0), (72, .iload_n 3, 1, 0), (73, .bipush 57, 2, 0), (75, .if_icmp .gt 37, 3, 0), (78, .iinc 2 1, 3, 0), (81, .aload_n 0, 1, 0),
  (82, .aload_n 0, 1, 0), (83, .getfield 50, 3, 265), (86, .ldc2_w 148, 3, 1), (89, .lmul, 1, 0), (90, .iload_n 3, 1, 0), (91, .bipush 48, 2, 0),
  (93, .isub, 1, 0), (94, .i2l, 1, 0), (95, .ladd, 1, 0), (96, .putfield 50, 3, 265), (99, .aload_n 0, 1, 0), (100, .dup, 1, 0),
  (101, .getfield 40, 3, 262), (104, .iconst 1, 1, 0), (105, .iadd, 1, 0), (106, .putfield 40, 3, 262), (109, .goto (-100), 3, 0), (112, .iload_n 2, 1, 0),
  (113, .ifCond .ne 22, 3, 0), (116, .iload_n 1, 1, 0), (117, .iconst 1, 1, 0), (118, .if_icmp .lt 17, 3, 0), (121, .iload_n 1, 1, 0), (122, .bipush 7, 2, 0),
  (124, .if_icmp .gt 11, 3, 0), (127, .aload_n 0, 1, 0), (128, .iconst 1, 1, 0), (129, .putfield 44, 3, 263), (132, .goto 30, 3, 0), (135, .iload_n 1, 1, 0),
  (136, .ifCond .ne 21, 3, 0), (139, .iload_n 2, 1, 0), (140, .iconst 1, 1, 0), (141, .if_icmp .lt 16, 3, 0), (144, .iload_n 2, 1, 0), (145, .iconst 2, 1, 0),
  (146, .if_icmp .gt 11, 3, 0), (149, .aload_n 0, 1, 0), (150, .iconst 2, 1, 0), (151, .putfield 44, 3, 263), (154, .goto 8, 3, 0), (157, .aload_n 0, 1, 0),
  (158, .iconst 4, 1, 0), (159, .putfield 44, 3, 263), (162, .return_, 1, 0)]
def kd42 : List (Nat × Instr × Nat × Nat) := [
  (0, .lload_n 0, 1, 0), (1, .ldc2_w 150, 3, 2), (4, .lmul, 1, 0), (5, .iload_n 2, 1, 0), (6, .bipush 97, 2, 0), (8, .isub, 1, 0),
  (9, .iconst 1, 1, 0), (10, .iadd, 1, 0), (11, .i2l, 1, 0), (12, .ladd, 1, 0), (13, .lreturn, 1, 0)]
def kd43 : List (Nat × Instr × Nat × Nat) := [
  (0, .bipush 24, 2, 0), (2, .istore_n 2, 1, 0), (3, .iload_n 2, 1, 0), (4, .ifCond .lt 42, 3, 0), (7, .aload_n 0, 1, 0), (8, .getfield 15, 3, 321),
  (11, .sipush 540, 3, 0), (14, .if_icmp .ge 32, 3, 0), (17, .aload_n 0, 1, 0), (18, .getfield 9, 3, 320), (21, .aload_n 0, 1, 0), (22, .getfield 15, 3, 321),
  (25, .iload_n 1, 1, 0), (26, .iload_n 2, 1, 0), (27, .iushr, 1, 0), (28, .i2b, 1, 0), (29, .bastore, 1, 0), (30, .aload_n 0, 1, 0),
  (31, .dup, 1, 0), (32, .getfield 15, 3, 321), (35, .iconst 1, 1, 0), (36, .iadd, 1, 0), (37, .putfield 15, 3, 321), (40, .iinc 2 (-8), 3, 0),
  (43, .goto (-40), 3, 0), (46, .return_, 1, 0)]
def kd44 : List (Nat × Instr × Nat × Nat) := [
  (0, .iconst 0, 1, 0), (1, .istore_n 2, 1, 0), (2, .iload_n 2, 1, 0), (3, .bipush 6, 2, 0), (5, .if_icmp .ge 30, 3, 0), (8, .aload_n 0, 1, 0),
  (9, .getfield 9, 3, 384), (12, .iload_n 2, 1, 0), (13, .iload_n 2, 1, 0), (14, .iastore, 1, 0), (15, .aload_n 0, 1, 0), (16, .getfield 28, 3, 389),
  (19, .iload_n 2, 1, 0), (20, .iconst 0, 1, 0), (21, .iastore, 1, 0), (22, .aload_n 0, 1, 0), (23, .getfield 31, 3, 390), (26, .iload_n 2, 1, 0),
  (27, .iconst 0, 1, 0), (28, .iastore, 1, 0), (29, .iinc 2 1, 3, 0), (32, .goto (-30), 3, 0), (35, .aload_n 0, 1, 0), (36, .aload_n 1, 1, 0),
  (37, .invokevirtual 34, 3, 49), (40, .istore_n 2, 1, 0), (41, .aload_n 0, 1, 0), (42, .aload_n 1, 1, 0), (43, .invokevirtual 38, 3, 50), (46, .aload_n 0, 1, 0),
  (47, .iload_n 2, 1, 0), (48, .iconst (-1), 1, 0), (49, .if_icmp .ne 7, 3, 0), (52, .iconst (-1), 1, 0), (53, .goto 9, 3, 0), (56, .aload_n 0, 1, 0),
  (57, .getfield 9, 3, 384), (60, .iload_n 2, 1, 0), (61, .iaload, 1, 0), (62, .putfield 25, 3, 388), (65, .aload_n 0, 1, 0), (66, .aload_n 1, 1, 0),
  (67, .invokevirtual 42, 3, 52), (70, .aload_n 0, 1, 0), (71, .aload_n 1, 1, 0), (72, .getfield 45, 3, 196), (75, .aload_n 0, 1, 0), (76, .getfield 15, 3, 385),
  (79, .iconst (-1), 1, 0), (80, .ixor, 1, 0), (81, .iand, 1, 0), (82, .putfield 19, 3, 386), (85, .iconst 0, 1, 0), (86, .istore_n 3, 1, 0),
  (87, .iconst 0, 1, 0), (88, .istore 4, 2, 0), (90, .iload 4, 2, 0), (92, .aload_n 1, 1, 0), (93, .getfield 50, 3, 195), (96, .if_icmp .ge 32, 3, 0),
  (99, .aload_n 0, 1, 0), (100, .getfield 19, 3, 386), (103, .iload 4, 2, 0), (105, .invokestatic 53, 3, 97), (108, .iconst 1, 1, 0), (109, .if_icmp .ne 13, 3, 0),
  (112, .iload_n 3, 1, 0), (113, .aload_n 0, 1, 0), (114, .aload_n 1, 1, 0), (115, .iload 4, 2, 0), (117, .invokevirtual 57, 3, 47), (120, .ior, 1, 0),
  (121, .istore_n 3, 1, 0), (122, .iinc 4 1, 3, 0), (125, .goto (-35), 3, 0), (128, .aload_n 0, 1, 0), (129, .aload_n 0, 1, 0), (130, .getfield 15, 3, 385),
  (133, .iload_n 3, 1, 0), (134, .iconst (-1), 1, 0), (135, .ixor, 1, 0), (136, .iand, 1, 0), (137, .putfield 22, 3, 387), (140, .return_, 1, 0)]
def kd45 : List (Nat × Instr × Nat × Nat) := [
  (0, .aload_n 0, 1, 0), (1, .getfield 9, 3, 384), (4, .iload_n 1, 1, 0), (5, .iaload, 1, 0), (6, .iload_n 1, 1, 0), (7, .if_icmp .ne 15, 3, 0),
  (10, .iload_n 1, 1, 0), (11, .aload_n 0, 1, 0), (12, .getfield 25, 3, 388), (15, .if_icmp .eq 7, 3, 0), (18, .iconst 1, 1, 0), (19, .goto 4, 3, 0),
  (22, .iconst 0, 1, 0), (23, .ireturn, 1, 0)]
def kd46 : List (Nat × Instr × Nat × Nat) := [
  (0, .iconst 0, 1, 0), (1, .istore_n 2, 1, 0), (2, .iconst 0, 1, 0), (3, .istore_n 3, 1, 0), (4, .iload_n 3, 1, 0), (5, .aload_n 1, 1, 0),
  (6, .getfield 61, 3, 192), (9, .if_icmp .ge 22, 3, 0), (12, .aload_n 0, 1, 0), (13, .getfield 9, 3, 384), (16, .iload_n 3, 1, 0), (17, .iaload, 1, 0),
  (18, .iload_n 3, 1, 0), (19, .if_icmp .ne 6, 3, 0), (22, .iinc 2 1, 3, 0), (25, .iinc 3 1, 3, 0), (28, .goto (-24), 3, 0), (31, .iload_n 2, 1, 0),
  (32, .ireturn, 1, 0)]
def kd47 : List (Nat × Instr × Nat × Nat) := [
  (0, .aload_n 0, 1, 0), (1, .getfield 28, 3, 389), (4, .aload_n 1, 1, 0), (5, .getfield 64, 3, 197), (8, .iload_n 2, 1, 0), (9, .iaload, 1, 0),
  (10, .iaload, 1, 0), (11, .aload_n 0, 1, 0), (12, .getfield 28, 3, 389), (15, .aload_n 1, 1, 0), (16, .getfield 67, 3, 198), (19, .iload_n 2, 1, 0),
  (20, .iaload, 1, 0), (21, .iaload, 1, 0), (22, .ixor, 1, 0), (23, .ireturn, 1, 0)]
def kd48 : List (Nat × Instr × Nat × Nat) := [
  (0, .aload_n 1, 1, 0), (1, .getfield 70, 3, 199), (4, .iload_n 2, 1, 0), (5, .iaload, 1, 0), (6, .aload_n 0, 1, 0), (7, .getfield 31, 3, 390),
  (10, .aload_n 1, 1, 0), (11, .getfield 67, 3, 198), (14, .iload_n 2, 1, 0), (15, .iaload, 1, 0), (16, .iaload, 1, 0), (17, .aload_n 0, 1, 0),
  (18, .getfield 31, 3, 390), (21, .aload_n 1, 1, 0), (22, .getfield 64, 3, 197), (25, .iload_n 2, 1, 0), (26, .iaload, 1, 0), (27, .iaload, 1, 0),
  (28, .isub, 1, 0), (29, .isub, 1, 0), (30, .ireturn, 1, 0)]
def kd49 : List (Nat × Instr × Nat × Nat) := [
  (0, .iconst (-1), 1, 0), (1, .istore_n 2, 1, 0), (2, .iconst 0, 1, 0), (3, .istore_n 3, 1, 0), (4, .iload_n 3, 1, 0), (5, .aload_n 1, 1, 0),
  (6, .getfield 61, 3, 192), (9, .if_icmp .ge 35, 3, 0), (12, .aload_n 1, 1, 0), (13, .iload_n 3, 1, 0), (14, .invokevirtual 73, 3, 28), (17, .ifCond .eq 21, 3, 0),
  (20, .iload_n 2, 1, 0), (21, .iconst (-1), 1, 0), (22, .if_icmp .ne 7, 3, 0), (25, .iload_n 3, 1, 0), (26, .goto 4, 3, 0), (29, .iload_n 2, 1, 0),
  (30, .istore_n 2, 1, 0), (31, .aload_n 0, 1, 0), (32, .getfield 9, 3, 384), (35, .iload_n 3, 1, 0), (36, .iload_n 2, 1, 0), (37, .iastore, 1, 0),
  (38, .iinc 3 1, 3, 0), (41, .goto (-37), 3, 0), (44, .iload_n 2, 1, 0), (45, .ireturn, 1, 0)]
def kd50 : List (Nat × Instr × Nat × Nat) := [
  (0, .aload_n 0, 1, 0), (1, .iconst 0, 1, 0), (2, .putfield 15, 3, 385), (5, .iconst 0, 1, 0), (6, .istore_n 2, 1, 0), (7, .iload_n 2, 1, 0),
  (8, .aload_n 1, 1, 0), (9, .getfield 50, 3, 195), (12, .if_icmp .ge 80, 3, 0), (15, .aload_n 0, 1, 0), (16, .getfield 9, 3, 384), (19, .aload_n 1, 1, 0),
  (20, .getfield 64, 3, 197), (23, .iload_n 2, 1, 0), (24, .iaload, 1, 0), (25, .iaload, 1, 0), (26, .istore_n 3, 1, 0), (27, .aload_n 0, 1, 0),
  (28, .getfield 9, 3, 384), (31, .aload_n 1, 1, 0), (32, .getfield 67, 3, 198), (35, .iload_n 2, 1, 0), (36, .iaload, 1, 0), (37, .iaload, 1, 0),
  (38, .istore 4, 2, 0), (40, .aload_n 1, 1, 0), (41, .getfield 45, 3, 196), (44, .iload_n 2, 1, 0), (45, .invokestatic 53, 3, 97), (48, .iconst 1, 1, 0),
  (49, .if_icmp .ne 37, 3, 0), (52, .iload_n 3, 1, 0), (53, .iload 4, 2, 0), (55, .if_icmp .eq 31, 3, 0), (58, .aload_n 0, 1, 0), (59, .dup, 1, 0),
  (60, .getfield 15, 3, 385), (63, .iconst 1, 1, 0), (64, .iload_n 2, 1, 0), (65, .ishl, 1, 0), (66, .ior, 1, 0), (67, .putfield 15, 3, 385),
  (70, .aload_n 0, 1, 0), (71, .iload_n 3, 1, 0), (72, .iload 4, 2, 0), (74, .invokestatic 77, 3, 204), (77, .iload_n 3, 1, 0), (78, .iload 4, 2, 0),
  (80, .invokestatic 82, 3, 203), (83, .invokevirtual 85, 3, 51), (86, .iinc 2 1, 3, 0), (89, .goto (-82), 3, 0), (92, .return_, 1, 0)]
def kd51 : List (Nat × Instr × Nat × Nat) := [
  (0, .iconst 0, 1, 0), (1, .istore_n 3, 1, 0), (2, .iload_n 3, 1, 0), (3, .bipush 6, 2, 0), (5, .if_icmp .ge 26, 3, 0), (8, .aload_n 0, 1, 0),
  (9, .getfield 9, 3, 384), (12, .iload_n 3, 1, 0), (13, .iaload, 1, 0), (14, .iload_n 2, 1, 0), (15, .if_icmp .ne 10, 3, 0), (18, .aload_n 0, 1, 0),
  (19, .getfield 9, 3, 384), (22, .iload_n 3, 1, 0), (23, .iload_n 1, 1, 0), (24, .iastore, 1, 0), (25, .iinc 3 1, 3, 0), (28, .goto (-26), 3, 0),
  (31, .return_, 1, 0)]
def kd52 : List (Nat × Instr × Nat × Nat) := [
  (0, .iconst 0, 1, 0), (1, .istore_n 2, 1, 0), (2, .iconst 0, 1, 0), (3, .istore_n 3, 1, 0), (4, .iload_n 3, 1, 0), (5, .aload_n 1, 1, 0),
  (6, .getfield 61, 3, 192), (9, .if_icmp .ge 51, 3, 0), (12, .aload_n 1, 1, 0), (13, .iload_n 3, 1, 0), (14, .invokevirtual 73, 3, 28), (17, .ifCond .eq 15, 3, 0),
  (20, .aload_n 0, 1, 0), (21, .getfield 31, 3, 390), (24, .iload_n 3, 1, 0), (25, .aload_n 1, 1, 0), (26, .getfield 89, 3, 194), (29, .iload_n 3, 1, 0),
  (30, .iaload, 1, 0), (31, .iastore, 1, 0), (32, .aload_n 1, 1, 0), (33, .iload_n 3, 1, 0), (34, .invokevirtual 73, 3, 28), (37, .ifCond .ne 11, 3, 0),
  (40, .aload_n 0, 1, 0), (41, .iload_n 3, 1, 0), (42, .invokevirtual 92, 3, 45), (45, .ifCond .eq 9, 3, 0), (48, .iload_n 2, 1, 0), (49, .iconst 1, 1, 0),
  (50, .iload_n 3, 1, 0), (51, .ishl, 1, 0), (52, .ior, 1, 0), (53, .istore_n 2, 1, 0), (54, .iinc 3 1, 3, 0), (57, .goto (-53), 3, 0),
  (60, .iconst 0, 1, 0), (61, .istore_n 3, 1, 0), (62, .iload_n 3, 1, 0), (63, .aload_n 1, 1, 0), (64, .getfield 61, 3, 192), (67, .if_icmp .ge 49, 3, 0),
  (70, .iconst 0, 1, 0), (71, .istore 4, 2, 0), (73, .iload 4, 2, 0), (75, .aload_n 1, 1, 0), (76, .getfield 50, 3, 195), (79, .if_icmp .ge 31, 3, 0),
  (82, .aload_n 0, 1, 0), (83, .getfield 15, 3, 385), (86, .iload 4, 2, 0), (88, .invokestatic 53, 3, 97), (91, .iconst 1, 1, 0), (92, .if_icmp .ne 12, 3, 0),
  (95, .aload_n 0, 1, 0), (96, .aload_n 1, 1, 0), (97, .iload 4, 2, 0), (99, .iload_n 2, 1, 0), (100, .invokevirtual 95, 3, 53), (103, .istore_n 2, 1, 0),
  (104, .iinc 4 1, 3, 0), (107, .goto (-34), 3, 0), (110, .iinc 3 1, 3, 0), (113, .goto (-51), 3, 0), (116, .return_, 1, 0)]
def kd53 : List (Nat × Instr × Nat × Nat) := [
  (0, .aload_n 1, 1, 0), (1, .getfield 64, 3, 197), (4, .iload_n 2, 1, 0), (5, .iaload, 1, 0), (6, .istore 4, 2, 0), (8, .aload_n 1, 1, 0),
  (9, .getfield 67, 3, 198), (12, .iload_n 2, 1, 0), (13, .iaload, 1, 0), (14, .istore 5, 2, 0), (16, .iload_n 3, 1, 0), (17, .iload 4, 2, 0),
  (19, .invokestatic 53, 3, 97), (22, .iload_n 3, 1, 0), (23, .iload 5, 2, 0), (25, .invokestatic 53, 3, 97), (28, .if_icmp .ne 5, 3, 0), (31, .iload_n 3, 1, 0),
  (32, .ireturn, 1, 0), (33, .iload_n 3, 1, 0), (34, .iload 4, 2, 0), (36, .invokestatic 53, 3, 97), (39, .iconst 1, 1, 0), (40, .if_icmp .ne 7, 3, 0),
  (43, .iconst 1, 1, 0), (44, .goto 4, 3, 0), (47, .iconst 0, 1, 0), (48, .istore 6, 2, 0), (50, .iload 6, 2, 0), (52, .ifCond .eq 8, 3, 0),
  (55, .iload 4, 2, 0), (57, .goto 5, 3, 0), (60, .iload 5, 2, 0), (62, .istore 7, 2, 0), (64, .iload 6, 2, 0), (66, .ifCond .eq 8, 3, 0),
  (69, .iload 5, 2, 0), (71, .goto 5, 3, 0), (74, .iload 4, 2, 0), (76, .istore 8, 2, 0), (78, .aload_n 0, 1, 0), (79, .getfield 28, 3, 389),
  (82, .iload 8, 2, 0), (84, .aload_n 0, 1, 0), (85, .getfield 28, 3, 389), (88, .iload 7, 2, 0), (90, .iaload, 1, 0), (91, .iconst 1, 1, 0),
  (92, .iload_n 2, 1, 0), (93, .ishl, 1, 0), (94, .ior, 1, 0), (95, .iastore, 1, 0), (96, .aload_n 0, 1, 0), (97, .getfield 31, 3, 390),
  (100, .iload 8, 2, 0), (102, .aload_n 0, 1, 0), (103, .getfield 31, 3, 390), (106, .iload 7, 2, 0), (108, .iaload, 1, 0), (109, .iload 6, 2, 0),
  (111, .ifCond .eq 12, 3, 0), (114, .aload_n 1, 1, 0), (115, .getfield 70, 3, 199), (118, .iload_n 2, 1, 0), (119, .iaload, 1, 0), (120, .goto 10, 3, 0),
  (123, .aload_n 1, 1, 0), (124, .getfield 70, 3, 199), (127, .iload_n 2, 1, 0), (128, .iaload, 1, 0), (129, .ineg, 1, 0), (130, .iadd, 1, 0),
  (131, .iastore, 1, 0), (132, .iload_n 3, 1, 0), (133, .iconst 1, 1, 0), (134, .iload 8, 2, 0), (136, .ishl, 1, 0), (137, .ior, 1, 0),
  (138, .ireturn, 1, 0)]
def kd54 : List (Nat × Instr × Nat × Nat) := [
  (0, .aload_n 0, 1, 0), (1, .getfield 10, 3, 448), (4, .getfield 74, 3, 321), (7, .bipush 20, 2, 0), (9, .iadd, 1, 0), (10, .sipush 540, 3, 0),
  (13, .if_icmp .le 5, 3, 0), (16, .iconst (-1), 1, 0), (17, .ireturn, 1, 0), (18, .aload_n 0, 1, 0), (19, .getfield 10, 3, 448), (22, .iload_n 1, 1, 0),
  (23, .invokevirtual 77, 3, 43), (26, .aload_n 0, 1, 0), (27, .getfield 10, 3, 448), (30, .iload_n 2, 1, 0), (31, .invokevirtual 77, 3, 43), (34, .aload_n 0, 1, 0),
  (35, .getfield 10, 3, 448), (38, .iload_n 3, 1, 0), (39, .invokevirtual 77, 3, 43), (42, .aload_n 0, 1, 0), (43, .getfield 10, 3, 448), (46, .iload 4, 2, 0),
  (48, .invokevirtual 77, 3, 43), (51, .aload_n 0, 1, 0), (52, .getfield 10, 3, 448), (55, .iload 5, 2, 0), (57, .invokevirtual 77, 3, 43), (60, .aload_n 0, 1, 0),
  (61, .getfield 10, 3, 448), (64, .getfield 74, 3, 321), (67, .ireturn, 1, 0)]
def kd55 : List (Nat × Instr × Nat × Nat) := [
  (0, .iload_n 1, 1, 0), (1, .ifCond .lt 14, 3, 0), (4, .iload_n 1, 1, 0), (5, .aload_n 0, 1, 0), (6, .getfield 10, 3, 448), (9, .getfield 74, 3, 321),
  (12, .if_icmp .le 5, 3, 0), (15, .iconst 0, 1, 0), (16, .ireturn, 1, 0), (17, .aload_n 0, 1, 0), (18, .getfield 10, 3, 448), (21, .iload_n 1, 1, 0),
  (22, .putfield 74, 3, 321), (25, .iconst 1, 1, 0), (26, .ireturn, 1, 0)]
def kd56 : List (Nat × Instr × Nat × Nat) := [
  (0, .aload_n 0, 1, 0), (1, .getfield 21, 3, 449), (4, .aload_n 0, 1, 0), (5, .getfield 32, 3, 451), (8, .invokevirtual 81, 3, 30), (11, .istore_n 1, 1, 0),
  (12, .aload_n 0, 1, 0), (13, .getfield 10, 3, 448), (16, .iconst 0, 1, 0), (17, .putfield 74, 3, 321), (20, .iload_n 1, 1, 0), (21, .ifCond .ne 35, 3, 0),
  (24, .aload_n 0, 1, 0), (25, .aload_n 0, 1, 0), (26, .getfield 21, 3, 449), (29, .getfield 85, 3, 268), (32, .putfield 50, 3, 455), (35, .aload_n 0, 1, 0),
  (36, .aload_n 0, 1, 0), (37, .getfield 21, 3, 449), (40, .getfield 86, 3, 267), (43, .putfield 53, 3, 456), (46, .iconst (-1), 1, 0), (47, .aload_n 0, 1, 0),
  (48, .getfield 21, 3, 449), (51, .getfield 89, 3, 269), (54, .isub, 1, 0), (55, .ireturn, 1, 0), (56, .aload_n 0, 1, 0), (57, .iconst 0, 1, 0),
  (58, .putfield 50, 3, 455), (61, .aload_n 0, 1, 0), (62, .iconst (-1), 1, 0), (63, .putfield 53, 3, 456), (66, .aload_n 0, 1, 0), (67, .getfield 28, 3, 450),
  (70, .aload_n 0, 1, 0), (71, .getfield 32, 3, 451), (74, .invokevirtual 92, 3, 25), (77, .aload_n 0, 1, 0), (78, .getfield 38, 3, 452), (81, .invokevirtual 96, 3, 2),
  (84, .aload_n 0, 1, 0), (85, .iconst 1, 1, 0), (86, .putfield 70, 3, 459), (89, .aload_n 0, 1, 0), (90, .getfield 21, 3, 449), (93, .getfield 86, 3, 267),
  (96, .ireturn, 1, 0)]
def kd57 : List (Nat × Instr × Nat × Nat) := [
  (0, .iload_n 1, 1, 0), (1, .lookupswitch 37 #[(0, 27), (1, 32)], 27, 0), (28, .aload_n 0, 1, 0), (29, .getfield 50, 3, 455), (32, .ireturn, 1, 0), (33, .aload_n 0, 1, 0),
  (34, .getfield 53, 3, 456), (37, .ireturn, 1, 0), (38, .iconst (-1), 1, 0), (39, .ireturn, 1, 0)]
def kd58 : List (Nat × Instr × Nat × Nat) := [
  (0, .aload_n 0, 1, 0), (1, .iload_n 1, 1, 0), (2, .invokevirtual 99, 3, 89), (5, .ifCond .eq 12, 3, 0), (8, .iload_n 2, 1, 0), (9, .ifCond .lt 8, 3, 0),
  (12, .iload_n 2, 1, 0), (13, .iconst 4, 1, 0), (14, .if_icmp .le 11, 3, 0), (17, .new 103, 3, 1), (20, .dup, 1, 0), (21, .invokespecial 105, 3, 0),
  (24, .athrow, 1, 0), (25, .aload_n 0, 1, 0), (26, .invokevirtual 106, 3, 87), (29, .iload_n 2, 1, 0), (30, .tableswitch 100 0 3 #[30, 47, 73, 83], 30, 0), (60, .aload_n 0, 1, 0),
  (61, .getfield 28, 3, 450), (64, .iload_n 1, 1, 0), (65, .invokevirtual 109, 3, 28), (68, .ifCond .eq 7, 3, 0), (71, .iconst 1, 1, 0), (72, .goto 4, 3, 0),
  (75, .iconst 0, 1, 0), (76, .ireturn, 1, 0), (77, .aload_n 0, 1, 0), (78, .getfield 28, 3, 450), (81, .iload_n 1, 1, 0), (82, .invokevirtual 109, 3, 28),
  (85, .ifCond .eq 15, 3, 0), (88, .aload_n 0, 1, 0), (89, .getfield 28, 3, 450), (92, .getfield 112, 3, 194), (95, .iload_n 1, 1, 0), (96, .iaload, 1, 0),
  (97, .goto 5, 3, 0), (100, .ldc 116, 2, 0), (102, .ireturn, 1, 0), (103, .aload_n 0, 1, 0), (104, .getfield 59, 3, 457), (107, .getfield 117, 3, 384),
  (110, .iload_n 1, 1, 0), (111, .iaload, 1, 0), (112, .ireturn, 1, 0), (113, .aload_n 0, 1, 0), (114, .getfield 59, 3, 457), (117, .iload_n 1, 1, 0),
  (118, .invokevirtual 120, 3, 45), (121, .ifCond .eq 7, 3, 0), (124, .iconst 1, 1, 0), (125, .goto 4, 3, 0), (128, .iconst 0, 1, 0), (129, .ireturn, 1, 0),
  (130, .aload_n 0, 1, 0), (131, .getfield 28, 3, 450), (134, .iload_n 1, 1, 0), (135, .invokevirtual 123, 3, 29), (138, .ireturn, 1, 0)]
def kd59 : List (Nat × Instr × Nat × Nat) := [
  (0, .aload_n 0, 1, 0), (1, .iload_n 1, 1, 0), (2, .invokevirtual 127, 3, 90), (5, .ifCond .eq 13, 3, 0), (8, .iload_n 2, 1, 0), (9, .ifCond .lt 9, 3, 0),
  (12, .iload_n 2, 1, 0), (13, .bipush 6, 2, 0), (15, .if_icmp .le 11, 3, 0), (18, .new 103, 3, 1), (21, .dup, 1, 0), (22, .invokespecial 105, 3, 0),
  (25, .athrow, 1, 0), (26, .aload_n 0, 1, 0), (27, .invokevirtual 106, 3, 87), (30, .iload_n 2, 1, 0), (31, .tableswitch 101 0 5 #[37, 47, 57, 67, 77, 89], 37, 0), (68, .aload_n 0, 1, 0),
  (69, .getfield 28, 3, 450), (72, .getfield 130, 3, 197), (75, .iload_n 1, 1, 0), (76, .iaload, 1, 0), (77, .ireturn, 1, 0), (78, .aload_n 0, 1, 0),
  (79, .getfield 28, 3, 450), (82, .getfield 133, 3, 198), (85, .iload_n 1, 1, 0), (86, .iaload, 1, 0), (87, .ireturn, 1, 0), (88, .aload_n 0, 1, 0),
  (89, .getfield 28, 3, 450), (92, .getfield 136, 3, 199), (95, .iload_n 1, 1, 0), (96, .iaload, 1, 0), (97, .ireturn, 1, 0), (98, .aload_n 0, 1, 0),
  (99, .getfield 28, 3, 450), (102, .getfield 139, 3, 200), (105, .iload_n 1, 1, 0), (106, .iaload, 1, 0), (107, .ireturn, 1, 0), (108, .aload_n 0, 1, 0),
  (109, .getfield 28, 3, 450), (112, .getfield 142, 3, 196), (115, .iload_n 1, 1, 0), (116, .invokestatic 145, 3, 97), (119, .ireturn, 1, 0), (120, .aload_n 0, 1, 0),
  (121, .getfield 59, 3, 457), (124, .getfield 149, 3, 385), (127, .iload_n 1, 1, 0), (128, .invokestatic 145, 3, 97), (131, .ireturn, 1, 0), (132, .aload_n 0, 1, 0),
  (133, .getfield 59, 3, 457), (136, .getfield 152, 3, 387), (139, .iload_n 1, 1, 0), (140, .invokestatic 145, 3, 97), (143, .ireturn, 1, 0)]
def kd60 : List (Nat × Instr × Nat × Nat) := [
  (0, .aload_n 0, 1, 0), (1, .iload_n 1, 1, 0), (2, .invokevirtual 99, 3, 89), (5, .ifCond .eq 10, 3, 0), (8, .iload_n 2, 1, 0), (9, .invokestatic 155, 3, 93),
  (12, .ifCond .ne 11, 3, 0), (15, .new 103, 3, 1), (18, .dup, 1, 0), (19, .invokespecial 105, 3, 0), (22, .athrow, 1, 0), (23, .aload_n 0, 1, 0),
  (24, .invokevirtual 106, 3, 87), (27, .aload_n 0, 1, 0), (28, .getfield 66, 3, 458), (31, .getfield 158, 3, 67), (34, .iload_n 1, 1, 0), (35, .laload, 1, 0),
  (36, .aload_n 0, 1, 0), (37, .getfield 66, 3, 458), (40, .getfield 162, 3, 68), (43, .iload_n 2, 1, 0), (44, .invokestatic 166, 3, 19), (47, .lreturn, 1, 0)]
def kd61 : List (Nat × Instr × Nat × Nat) := [
  (0, .aload_n 0, 1, 0), (1, .iload_n 1, 1, 0), (2, .invokevirtual 99, 3, 89), (5, .ifCond .ne 6, 3, 0), (8, .ldc 116, 2, 0), (10, .ireturn, 1, 0),
  (11, .aload_n 0, 1, 0), (12, .invokevirtual 106, 3, 87), (15, .ldc2_w 172, 3, 0), (18, .aload_n 0, 1, 0), (19, .getfield 66, 3, 458), (22, .getfield 158, 3, 67),
  (25, .iload_n 1, 1, 0), (26, .laload, 1, 0), (27, .lmul, 1, 0), (28, .aload_n 0, 1, 0), (29, .getfield 66, 3, 458), (32, .getfield 162, 3, 68),
  (35, .ladd, 1, 0), (36, .ldc2_w 172, 3, 0), (39, .aload_n 0, 1, 0), (40, .getfield 66, 3, 458), (43, .getfield 162, 3, 68), (46, .lmul, 1, 0),
  (47, .invokestatic 174, 3, 21), (50, .l2i, 1, 0), (51, .ireturn, 1, 0)]
def kd62 : List (Nat × Instr × Nat × Nat) := [
  (0, .aload_n 0, 1, 0), (1, .iload_n 1, 1, 0), (2, .invokevirtual 178, 3, 91), (5, .ifCond .eq 10, 3, 0), (8, .iload_n 2, 1, 0), (9, .invokestatic 155, 3, 93),
  (12, .ifCond .ne 11, 3, 0), (15, .new 103, 3, 1), (18, .dup, 1, 0), (19, .invokespecial 105, 3, 0), (22, .athrow, 1, 0), (23, .aload_n 0, 1, 0),
  (24, .invokevirtual 106, 3, 87), (27, .aload_n 0, 1, 0), (28, .getfield 66, 3, 458), (31, .aload_n 0, 1, 0), (32, .getfield 28, 3, 450), (35, .iload_n 1, 1, 0),
  (36, .invokevirtual 181, 3, 4), (39, .aload_n 0, 1, 0), (40, .getfield 66, 3, 458), (43, .getfield 162, 3, 68), (46, .iload_n 2, 1, 0), (47, .invokestatic 166, 3, 19),
  (50, .lreturn, 1, 0)]
def kd63 : List (Nat × Instr × Nat × Nat) := [
  (0, .iload_n 1, 1, 0), (1, .invokestatic 155, 3, 93), (4, .ifCond .ne 11, 3, 0), (7, .new 103, 3, 1), (10, .dup, 1, 0), (11, .invokespecial 105, 3, 0),
  (14, .athrow, 1, 0), (15, .aload_n 0, 1, 0), (16, .invokevirtual 106, 3, 87), (19, .aload_n 0, 1, 0), (20, .getfield 66, 3, 458), (23, .aload_n 0, 1, 0),
  (24, .getfield 28, 3, 450), (27, .invokevirtual 185, 3, 5), (30, .aload_n 0, 1, 0), (31, .getfield 66, 3, 458), (34, .getfield 162, 3, 68), (37, .aload_n 0, 1, 0),
  (38, .getfield 66, 3, 458), (41, .getfield 162, 3, 68), (44, .lmul, 1, 0), (45, .iload_n 1, 1, 0), (46, .invokestatic 166, 3, 19), (49, .lreturn, 1, 0)]
def kd64 : List (Nat × Instr × Nat × Nat) := [
  (0, .aload_n 0, 1, 0), (1, .invokevirtual 106, 3, 87), (4, .aload_n 0, 1, 0), (5, .getfield 59, 3, 457), (8, .getfield 189, 3, 386), (11, .invokestatic 192, 3, 199),
  (14, .ireturn, 1, 0)]
def kd65 : List (Nat × Instr × Nat × Nat) := [
  (0, .aload_n 0, 1, 0), (1, .iload_n 1, 1, 0), (2, .invokevirtual 197, 3, 92), (5, .ifCond .eq 18, 3, 0), (8, .aload_n 0, 1, 0), (9, .getfield 59, 3, 457),
  (12, .aload_n 0, 1, 0), (13, .getfield 28, 3, 450), (16, .iload_n 1, 1, 0), (17, .invokevirtual 200, 3, 47), (20, .goto 4, 3, 0), (23, .iconst (-1), 1, 0),
  (24, .ireturn, 1, 0)]
def kd66 : List (Nat × Instr × Nat × Nat) := [
  (0, .aload_n 0, 1, 0), (1, .iload_n 1, 1, 0), (2, .invokevirtual 197, 3, 92), (5, .ifCond .eq 18, 3, 0), (8, .aload_n 0, 1, 0), (9, .getfield 59, 3, 457),
  (12, .aload_n 0, 1, 0), (13, .getfield 28, 3, 450), (16, .iload_n 1, 1, 0), (17, .invokevirtual 204, 3, 48), (20, .goto 5, 3, 0), (23, .ldc 116, 2, 0),
  (25, .ireturn, 1, 0)]
def kd67 : List (Nat × Instr × Nat × Nat) := [
  (0, .iconst (-1), 1, 0), (1, .istore_n 1, 1, 0), (2, .iconst (-1), 1, 0), (3, .istore_n 2, 1, 0), (4, .iconst 0, 1, 0), (5, .istore_n 3, 1, 0),
  (6, .iload_n 3, 1, 0), (7, .aload_n 0, 1, 0), (8, .getfield 28, 3, 450), (11, .getfield 207, 3, 195), (14, .if_icmp .ge 48, 3, 0), (17, .aload_n 0, 1, 0),
  (18, .iload_n 3, 1, 0), (19, .invokevirtual 197, 3, 92), (22, .ifCond .ne 6, 3, 0), (25, .goto 31, 3, 0), (28, .aload_n 0, 1, 0), (29, .getfield 59, 3, 457),
  (32, .aload_n 0, 1, 0), (33, .getfield 28, 3, 450), (36, .iload_n 3, 1, 0), (37, .invokevirtual 204, 3, 48), (40, .invokestatic 210, 3, 201), (43, .istore 4, 2, 0),
  (45, .iload 4, 2, 0), (47, .iload_n 2, 1, 0), (48, .if_icmp .le 8, 3, 0), (51, .iload_n 3, 1, 0), (52, .istore_n 1, 1, 0), (53, .iload 4, 2, 0),
  (55, .istore_n 2, 1, 0), (56, .iinc 3 1, 3, 0), (59, .goto (-53), 3, 0), (62, .iload_n 1, 1, 0), (63, .ireturn, 1, 0)]
def kd68 : List (Nat × Instr × Nat × Nat) := [
  (0, .aload_n 0, 1, 0), (1, .iload_n 1, 1, 0), (2, .invokevirtual 178, 3, 91), (5, .ifCond .eq 10, 3, 0), (8, .iload_n 2, 1, 0), (9, .invokestatic 155, 3, 93),
  (12, .ifCond .ne 11, 3, 0), (15, .new 103, 3, 1), (18, .dup, 1, 0), (19, .invokespecial 105, 3, 0), (22, .athrow, 1, 0), (23, .aload_n 0, 1, 0),
  (24, .invokevirtual 106, 3, 87), (27, .aload_n 0, 1, 0), (28, .getfield 66, 3, 458), (31, .aload_n 0, 1, 0), (32, .getfield 28, 3, 450), (35, .iload_n 1, 1, 0),
  (36, .invokevirtual 215, 3, 6), (39, .aload_n 0, 1, 0), (40, .getfield 66, 3, 458), (43, .getfield 162, 3, 68), (46, .iload_n 2, 1, 0), (47, .invokestatic 166, 3, 19),
  (50, .lreturn, 1, 0)]
def kd69 : List (Nat × Instr × Nat × Nat) := [
  (0, .aload_n 0, 1, 0), (1, .iload_n 1, 1, 0), (2, .invokevirtual 178, 3, 91), (5, .ifCond .eq 10, 3, 0), (8, .iload_n 2, 1, 0), (9, .invokestatic 155, 3, 93),
  (12, .ifCond .ne 11, 3, 0), (15, .new 103, 3, 1), (18, .dup, 1, 0), (19, .invokespecial 105, 3, 0), (22, .athrow, 1, 0), (23, .aload_n 0, 1, 0),
  (24, .invokevirtual 106, 3, 87), (27, .aload_n 0, 1, 0), (28, .getfield 66, 3, 458), (31, .aload_n 0, 1, 0), (32, .getfield 28, 3, 450), (35, .iload_n 1, 1, 0),
  (36, .invokevirtual 218, 3, 7), (39, .aload_n 0, 1, 0), (40, .getfield 66, 3, 458), (43, .aload_n 0, 1, 0), (44, .getfield 28, 3, 450), (47, .iload_n 1, 1, 0),
  (48, .invokevirtual 221, 3, 8), (51, .iload_n 2, 1, 0), (52, .invokestatic 166, 3, 19), (55, .lreturn, 1, 0)]
def kd70 : List (Nat × Instr × Nat × Nat) := [
  (0, .aload_n 0, 1, 0), (1, .iload_n 1, 1, 0), (2, .invokevirtual 178, 3, 91), (5, .ifCond .eq 10, 3, 0), (8, .iload_n 2, 1, 0), (9, .invokestatic 155, 3, 93),
  (12, .ifCond .ne 11, 3, 0), (15, .new 103, 3, 1), (18, .dup, 1, 0), (19, .invokespecial 105, 3, 0), (22, .athrow, 1, 0), (23, .aload_n 0, 1, 0),
  (24, .invokevirtual 106, 3, 87), (27, .aload_n 0, 1, 0), (28, .getfield 59, 3, 457), (31, .getfield 152, 3, 387), (34, .iload_n 1, 1, 0), (35, .invokestatic 145, 3, 97),
  (38, .iconst 1, 1, 0), (39, .if_icmp .ne 11, 3, 0), (42, .new 103, 3, 1), (45, .dup, 1, 0), (46, .invokespecial 105, 3, 0), (49, .athrow, 1, 0),
  (50, .aload_n 0, 1, 0), (51, .getfield 66, 3, 458), (54, .aload_n 0, 1, 0), (55, .getfield 28, 3, 450), (58, .iload_n 1, 1, 0), (59, .invokevirtual 215, 3, 6),
  (62, .lstore_n 3, 1, 0), (63, .aload_n 0, 1, 0), (64, .getfield 28, 3, 450), (67, .getfield 136, 3, 199), (70, .iload_n 1, 1, 0), (71, .iaload, 1, 0),
  (72, .i2l, 1, 0), (73, .lload_n 3, 1, 0), (74, .lmul, 1, 0), (75, .aload_n 0, 1, 0), (76, .getfield 66, 3, 458), (79, .aload_n 0, 1, 0),
  (80, .getfield 28, 3, 450), (83, .iload_n 1, 1, 0), (84, .invokevirtual 181, 3, 4), (87, .ladd, 1, 0), (88, .lload_n 3, 1, 0), (89, .iload_n 2, 1, 0),
  (90, .invokestatic 166, 3, 19), (93, .lreturn, 1, 0)]
def kd71 : List (Nat × Instr × Nat × Nat) := [
  (0, .aload_n 0, 1, 0), (1, .invokevirtual 106, 3, 87), (4, .aload_n 0, 1, 0), (5, .getfield 66, 3, 458), (8, .aload_n 0, 1, 0), (9, .getfield 28, 3, 450),
  (12, .invokevirtual 224, 3, 10), (15, .ireturn, 1, 0)]
def kd72 : List (Nat × Instr × Nat × Nat) := [
  (0, .aload_n 0, 1, 0), (1, .iload_n 1, 1, 0), (2, .invokevirtual 99, 3, 89), (5, .ifCond .eq 18, 3, 0), (8, .aload_n 0, 1, 0), (9, .iload_n 2, 1, 0),
  (10, .invokevirtual 99, 3, 89), (13, .ifCond .eq 10, 3, 0), (16, .iload_n 3, 1, 0), (17, .invokestatic 155, 3, 93), (20, .ifCond .ne 11, 3, 0), (23, .new 103, 3, 1),
  (26, .dup, 1, 0), (27, .invokespecial 105, 3, 0), (30, .athrow, 1, 0), (31, .aload_n 0, 1, 0), (32, .invokevirtual 106, 3, 87), (35, .aload_n 0, 1, 0),
  (36, .getfield 59, 3, 457), (39, .getfield 117, 3, 384), (42, .iload_n 1, 1, 0), (43, .iaload, 1, 0), (44, .aload_n 0, 1, 0), (45, .getfield 59, 3, 457),
  (48, .getfield 117, 3, 384), (51, .iload_n 2, 1, 0), (52, .iaload, 1, 0), (53, .if_icmp .eq 11, 3, 0), (56, .new 103, 3, 1), (59, .dup, 1, 0),
  (60, .invokespecial 105, 3, 0), (63, .athrow, 1, 0), (64, .aload_n 0, 1, 0), (65, .getfield 66, 3, 458), (68, .iload_n 1, 1, 0), (69, .iload_n 2, 1, 0),
  (70, .invokevirtual 228, 3, 11), (73, .aload_n 0, 1, 0), (74, .getfield 66, 3, 458), (77, .getfield 162, 3, 68), (80, .iload_n 3, 1, 0), (81, .invokestatic 166, 3, 19),
  (84, .lreturn, 1, 0)]
def kd73 : List (Nat × Instr × Nat × Nat) := [
  (0, .iload_n 1, 1, 0), (1, .ifCond .eq 10, 3, 0), (4, .iload_n 1, 1, 0), (5, .iconst 1, 1, 0), (6, .if_icmp .eq 5, 3, 0), (9, .iconst (-1), 1, 0),
  (10, .ireturn, 1, 0), (11, .aload_n 0, 1, 0), (12, .invokevirtual 106, 3, 87), (15, .iconst (-1), 1, 0), (16, .istore_n 2, 1, 0), (17, .ldc2_w 232, 3, 3),
  (20, .lstore_n 3, 1, 0), (21, .iconst 0, 1, 0), (22, .istore 5, 2, 0), (24, .iload 5, 2, 0), (26, .aload_n 0, 1, 0), (27, .getfield 28, 3, 450),
  (30, .getfield 234, 3, 192), (33, .if_icmp .ge 96, 3, 0), (36, .iload 5, 2, 0), (38, .iconst 1, 1, 0), (39, .iadd, 1, 0), (40, .istore 6, 2, 0),
  (42, .iload 6, 2, 0), (44, .aload_n 0, 1, 0), (45, .getfield 28, 3, 450), (48, .getfield 234, 3, 192), (51, .if_icmp .ge 72, 3, 0), (54, .aload_n 0, 1, 0),
  (55, .getfield 59, 3, 457), (58, .getfield 117, 3, 384), (61, .iload 5, 2, 0), (63, .iaload, 1, 0), (64, .aload_n 0, 1, 0), (65, .getfield 59, 3, 457),
  (68, .getfield 117, 3, 384), (71, .iload 6, 2, 0), (73, .iaload, 1, 0), (74, .if_icmp .ne 43, 3, 0), (77, .aload_n 0, 1, 0), (78, .getfield 66, 3, 458),
  (81, .iload 5, 2, 0), (83, .iload 6, 2, 0), (85, .invokevirtual 228, 3, 11), (88, .lload_n 3, 1, 0), (89, .lcmp, 1, 0), (90, .ifCond .le 27, 3, 0),
  (93, .aload_n 0, 1, 0), (94, .getfield 66, 3, 458), (97, .iload 5, 2, 0), (99, .iload 6, 2, 0), (101, .invokevirtual 228, 3, 11), (104, .lstore_n 3, 1, 0),
  (105, .iload_n 1, 1, 0), (106, .ifCond .ne 8, 3, 0), (109, .iload 5, 2, 0), (111, .goto 5, 3, 0), (114, .iload 6, 2, 0), (116, .istore_n 2, 1, 0),
  (117, .iinc 6 1, 3, 0), (120, .goto (-78), 3, 0), (123, .iinc 5 1, 3, 0), (126, .goto (-102), 3, 0), (129, .iload_n 2, 1, 0), (130, .ireturn, 1, 0)]
def kd74 : List (Nat × Instr × Nat × Nat) := [
  (0, .aload_n 0, 1, 0), (1, .iload_n 1, 1, 0), (2, .invokevirtual 127, 3, 90), (5, .ifCond .ne 5, 3, 0), (8, .iconst (-1), 1, 0), (9, .ireturn, 1, 0),
  (10, .aload_n 0, 1, 0), (11, .iload_n 1, 1, 0), (12, .invokevirtual 178, 3, 91), (15, .ifCond .ne 5, 3, 0), (18, .iconst 1, 1, 0), (19, .ireturn, 1, 0),
  (20, .aload_n 0, 1, 0), (21, .invokevirtual 237, 3, 88), (24, .aload_n 0, 1, 0), (25, .getfield 28, 3, 450), (28, .dup, 1, 0), (29, .getfield 142, 3, 196),
  (32, .iconst 1, 1, 0), (33, .iload_n 1, 1, 0), (34, .ishl, 1, 0), (35, .iconst (-1), 1, 0), (36, .ixor, 1, 0), (37, .iand, 1, 0),
  (38, .putfield 142, 3, 196), (41, .iconst 0, 1, 0), (42, .ireturn, 1, 0)]
def kd75 : List (Nat × Instr × Nat × Nat) := [
  (0, .aload_n 0, 1, 0), (1, .iload_n 1, 1, 0), (2, .invokevirtual 127, 3, 90), (5, .ifCond .ne 5, 3, 0), (8, .iconst (-1), 1, 0), (9, .ireturn, 1, 0),
  (10, .aload_n 0, 1, 0), (11, .iload_n 1, 1, 0), (12, .invokevirtual 178, 3, 91), (15, .ifCond .eq 5, 3, 0), (18, .iconst 1, 1, 0), (19, .ireturn, 1, 0),
  (20, .aload_n 0, 1, 0), (21, .invokevirtual 237, 3, 88), (24, .aload_n 0, 1, 0), (25, .getfield 28, 3, 450), (28, .dup, 1, 0), (29, .getfield 142, 3, 196),
  (32, .iconst 1, 1, 0), (33, .iload_n 1, 1, 0), (34, .ishl, 1, 0), (35, .ior, 1, 0), (36, .putfield 142, 3, 196), (39, .iconst 0, 1, 0),
  (40, .ireturn, 1, 0)]
def kd76 : List (Nat × Instr × Nat × Nat) := [
  (0, .iload_n 1, 1, 0), (1, .ifCond .lt 10, 3, 0), (4, .iload_n 1, 1, 0), (5, .sipush 9999, 3, 0), (8, .if_icmp .le 5, 3, 0), (11, .iconst (-1), 1, 0),
  (12, .ireturn, 1, 0), (13, .aload_n 0, 1, 0), (14, .getfield 32, 3, 451), (17, .aload_n 0, 1, 0), (18, .getfield 28, 3, 450), (21, .invokevirtual 92, 3, 25),
  (24, .iconst 0, 1, 0), (25, .istore_n 2, 1, 0), (26, .iconst 0, 1, 0), (27, .istore_n 3, 1, 0), (28, .iload_n 3, 1, 0), (29, .bipush 11, 2, 0),
  (31, .if_icmp .ge 78, 3, 0), (34, .aload_n 0, 1, 0), (35, .invokevirtual 106, 3, 87), (38, .aload_n 0, 1, 0), (39, .getfield 66, 3, 458), (42, .aload_n 0, 1, 0),
  (43, .getfield 28, 3, 450), (46, .invokevirtual 224, 3, 10), (49, .istore 4, 2, 0), (51, .iload 4, 2, 0), (53, .iconst (-1), 1, 0), (54, .if_icmp .eq 55, 3, 0),
  (57, .aload_n 0, 1, 0), (58, .getfield 66, 3, 458), (61, .aload_n 0, 1, 0), (62, .getfield 28, 3, 450), (65, .iload 4, 2, 0), (67, .iload_n 1, 1, 0),
  (68, .invokevirtual 240, 3, 9), (71, .ifCond .ne 6, 3, 0), (74, .goto 35, 3, 0), (77, .aload_n 0, 1, 0), (78, .getfield 28, 3, 450), (81, .dup, 1, 0),
  (82, .getfield 142, 3, 196), (85, .iconst 1, 1, 0), (86, .iload 4, 2, 0), (88, .ishl, 1, 0), (89, .iconst (-1), 1, 0), (90, .ixor, 1, 0),
  (91, .iand, 1, 0), (92, .putfield 142, 3, 196), (95, .aload_n 0, 1, 0), (96, .iconst 1, 1, 0), (97, .putfield 70, 3, 459), (100, .iinc 2 1, 3, 0),
  (103, .iinc 3 1, 3, 0), (106, .goto (-78), 3, 0), (109, .iload_n 2, 1, 0), (110, .ifCond .le 14, 3, 0), (113, .aload_n 0, 1, 0), (114, .getfield 38, 3, 452),
  (117, .aload_n 0, 1, 0), (118, .getfield 32, 3, 451), (121, .invokevirtual 244, 3, 0), (124, .iload_n 2, 1, 0), (125, .ireturn, 1, 0)]
def kd77 : List (Nat × Instr × Nat × Nat) := [
  (0, .aload_n 0, 1, 0), (1, .iload_n 1, 1, 0), (2, .invokevirtual 127, 3, 90), (5, .ifCond .eq 10, 3, 0), (8, .iload_n 2, 1, 0), (9, .invokestatic 246, 3, 94),
  (12, .ifCond .ne 5, 3, 0), (15, .iconst (-1), 1, 0), (16, .ireturn, 1, 0), (17, .aload_n 0, 1, 0), (18, .getfield 28, 3, 450), (21, .getfield 136, 3, 199),
  (24, .iload_n 1, 1, 0), (25, .iaload, 1, 0), (26, .iload_n 2, 1, 0), (27, .if_icmp .ne 5, 3, 0), (30, .iconst 1, 1, 0), (31, .ireturn, 1, 0),
  (32, .aload_n 0, 1, 0), (33, .invokevirtual 237, 3, 88), (36, .aload_n 0, 1, 0), (37, .getfield 28, 3, 450), (40, .getfield 136, 3, 199), (43, .iload_n 1, 1, 0),
  (44, .iload_n 2, 1, 0), (45, .iastore, 1, 0), (46, .iconst 0, 1, 0), (47, .ireturn, 1, 0)]
def kd78 : List (Nat × Instr × Nat × Nat) := [
  (0, .aload_n 0, 1, 0), (1, .iload_n 1, 1, 0), (2, .invokevirtual 127, 3, 90), (5, .ifCond .eq 10, 3, 0), (8, .iload_n 2, 1, 0), (9, .invokestatic 249, 3, 95),
  (12, .ifCond .ne 5, 3, 0), (15, .iconst (-1), 1, 0), (16, .ireturn, 1, 0), (17, .aload_n 0, 1, 0), (18, .getfield 28, 3, 450), (21, .getfield 139, 3, 200),
  (24, .iload_n 1, 1, 0), (25, .iaload, 1, 0), (26, .iload_n 2, 1, 0), (27, .if_icmp .ne 5, 3, 0), (30, .iconst 1, 1, 0), (31, .ireturn, 1, 0),
  (32, .aload_n 0, 1, 0), (33, .invokevirtual 237, 3, 88), (36, .aload_n 0, 1, 0), (37, .getfield 28, 3, 450), (40, .getfield 139, 3, 200), (43, .iload_n 1, 1, 0),
  (44, .iload_n 2, 1, 0), (45, .iastore, 1, 0), (46, .iconst 0, 1, 0), (47, .ireturn, 1, 0)]
def kd79 : List (Nat × Instr × Nat × Nat) := [
  (0, .aload_n 0, 1, 0), (1, .iload_n 1, 1, 0), (2, .invokevirtual 99, 3, 89), (5, .ifCond .eq 20, 3, 0), (8, .aload_n 0, 1, 0), (9, .iload_n 2, 1, 0),
  (10, .invokevirtual 99, 3, 89), (13, .ifCond .eq 12, 3, 0), (16, .iload_n 1, 1, 0), (17, .iload_n 2, 1, 0), (18, .if_icmp .eq 7, 3, 0), (21, .iconst 1, 1, 0),
  (22, .goto 4, 3, 0), (25, .iconst 0, 1, 0), (26, .istore 5, 2, 0), (28, .aload_n 0, 1, 0), (29, .getfield 28, 3, 450), (32, .getfield 207, 3, 195),
  (35, .bipush 11, 2, 0), (37, .if_icmp .ge 23, 3, 0), (40, .iload 5, 2, 0), (42, .ifCond .eq 18, 3, 0), (45, .iload_n 3, 1, 0), (46, .invokestatic 246, 3, 94),
  (49, .ifCond .eq 11, 3, 0), (52, .iload 4, 2, 0), (54, .invokestatic 249, 3, 95), (57, .ifCond .ne 5, 3, 0), (60, .iconst (-1), 1, 0), (61, .ireturn, 1, 0),
  (62, .aload_n 0, 1, 0), (63, .invokevirtual 237, 3, 88), (66, .aload_n 0, 1, 0), (67, .getfield 28, 3, 450), (70, .iload_n 1, 1, 0), (71, .iload_n 2, 1, 0),
  (72, .iload_n 3, 1, 0), (73, .iload 4, 2, 0), (75, .invokevirtual 252, 3, 27), (78, .ireturn, 1, 0)]
def kd80 : List (Nat × Instr × Nat × Nat) := [
  (0, .aload_n 0, 1, 0), (1, .iload_n 1, 1, 0), (2, .invokevirtual 99, 3, 89), (5, .ifCond .eq 10, 3, 0), (8, .iload_n 2, 1, 0), (9, .invokestatic 246, 3, 94),
  (12, .ifCond .ne 5, 3, 0), (15, .iconst (-1), 1, 0), (16, .ireturn, 1, 0), (17, .aload_n 0, 1, 0), (18, .getfield 28, 3, 450), (21, .iload_n 1, 1, 0),
  (22, .invokevirtual 109, 3, 28), (25, .ifCond .eq 18, 3, 0), (28, .aload_n 0, 1, 0), (29, .getfield 28, 3, 450), (32, .getfield 112, 3, 194), (35, .iload_n 1, 1, 0),
  (36, .iaload, 1, 0), (37, .iload_n 2, 1, 0), (38, .if_icmp .ne 5, 3, 0), (41, .iconst 1, 1, 0), (42, .ireturn, 1, 0), (43, .aload_n 0, 1, 0),
  (44, .invokevirtual 237, 3, 88), (47, .aload_n 0, 1, 0), (48, .getfield 28, 3, 450), (51, .dup, 1, 0), (52, .getfield 256, 3, 193), (55, .iconst 1, 1, 0),
  (56, .iload_n 1, 1, 0), (57, .ishl, 1, 0), (58, .ior, 1, 0), (59, .putfield 256, 3, 193), (62, .aload_n 0, 1, 0), (63, .getfield 28, 3, 450),
  (66, .getfield 112, 3, 194), (69, .iload_n 1, 1, 0), (70, .iload_n 2, 1, 0), (71, .iastore, 1, 0), (72, .iconst 0, 1, 0), (73, .ireturn, 1, 0)]
def kd81 : List (Nat × Instr × Nat × Nat) := [
  (0, .aload_n 0, 1, 0), (1, .iload_n 1, 1, 0), (2, .invokevirtual 99, 3, 89), (5, .ifCond .ne 5, 3, 0), (8, .iconst (-1), 1, 0), (9, .ireturn, 1, 0),
  (10, .aload_n 0, 1, 0), (11, .getfield 28, 3, 450), (14, .iload_n 1, 1, 0), (15, .invokevirtual 109, 3, 28), (18, .ifCond .ne 5, 3, 0), (21, .iconst 1, 1, 0),
  (22, .ireturn, 1, 0), (23, .aload_n 0, 1, 0), (24, .invokevirtual 237, 3, 88), (27, .aload_n 0, 1, 0), (28, .getfield 28, 3, 450), (31, .dup, 1, 0),
  (32, .getfield 256, 3, 193), (35, .iconst 1, 1, 0), (36, .iload_n 1, 1, 0), (37, .ishl, 1, 0), (38, .iconst (-1), 1, 0), (39, .ixor, 1, 0),
  (40, .iand, 1, 0), (41, .putfield 256, 3, 193), (44, .iconst 0, 1, 0), (45, .ireturn, 1, 0)]
def kd82 : List (Nat × Instr × Nat × Nat) := [
  (0, .iload_n 1, 1, 0), (1, .iconst 1, 1, 0), (2, .if_icmp .lt 9, 3, 0), (5, .iload_n 1, 1, 0), (6, .bipush 60, 2, 0), (8, .if_icmp .le 5, 3, 0),
  (11, .iconst (-1), 1, 0), (12, .ireturn, 1, 0), (13, .aload_n 0, 1, 0), (14, .getfield 28, 3, 450), (17, .getfield 207, 3, 195), (20, .ifCond .gt 5, 3, 0),
  (23, .iconst 0, 1, 0), (24, .ireturn, 1, 0), (25, .aload_n 0, 1, 0), (26, .getfield 32, 3, 451), (29, .aload_n 0, 1, 0), (30, .getfield 28, 3, 450),
  (33, .invokevirtual 92, 3, 25), (36, .iconst 0, 1, 0), (37, .istore_n 3, 1, 0), (38, .iload_n 2, 1, 0), (39, .istore 4, 2, 0), (41, .iconst 0, 1, 0),
  (42, .istore 5, 2, 0), (44, .iload 5, 2, 0), (46, .iload_n 1, 1, 0), (47, .if_icmp .ge 92, 3, 0), (50, .iload 4, 2, 0), (52, .invokestatic 259, 3, 98),
  (55, .istore 4, 2, 0), (57, .iload 4, 2, 0), (59, .bipush 8, 2, 0), (61, .iushr, 1, 0), (62, .aload_n 0, 1, 0), (63, .getfield 28, 3, 450),
  (66, .getfield 207, 3, 195), (69, .irem, 1, 0), (70, .istore 6, 2, 0), (72, .iload 4, 2, 0), (74, .invokestatic 259, 3, 98), (77, .istore 4, 2, 0),
  (79, .iload 4, 2, 0), (81, .bipush 8, 2, 0), (83, .iushr, 1, 0), (84, .bipush 9, 2, 0), (86, .irem, 1, 0), (87, .iconst 4, 1, 0),
  (88, .isub, 1, 0), (89, .istore 7, 2, 0), (91, .iload 7, 2, 0), (93, .ifCond .eq 40, 3, 0), (96, .aload_n 0, 1, 0), (97, .getfield 28, 3, 450),
  (100, .getfield 136, 3, 199), (103, .iload 6, 2, 0), (105, .iaload, 1, 0), (106, .iload 7, 2, 0), (108, .iadd, 1, 0), (109, .invokestatic 246, 3, 94),
  (112, .ifCond .eq 21, 3, 0), (115, .aload_n 0, 1, 0), (116, .getfield 28, 3, 450), (119, .getfield 136, 3, 199), (122, .iload 6, 2, 0), (124, .dup2, 1, 0),
  (125, .iaload, 1, 0), (126, .iload 7, 2, 0), (128, .iadd, 1, 0), (129, .iastore, 1, 0), (130, .iinc 3 1, 3, 0), (133, .iinc 5 1, 3, 0),
  (136, .goto (-92), 3, 0), (139, .iload_n 3, 1, 0), (140, .ifCond .le 19, 3, 0), (143, .aload_n 0, 1, 0), (144, .getfield 38, 3, 452), (147, .aload_n 0, 1, 0),
  (148, .getfield 32, 3, 451), (151, .invokevirtual 244, 3, 0), (154, .aload_n 0, 1, 0), (155, .iconst 1, 1, 0), (156, .putfield 70, 3, 459), (159, .iload_n 3, 1, 0),
  (160, .ireturn, 1, 0)]
def kd83 : List (Nat × Instr × Nat × Nat) := [
  (0, .aload_n 0, 1, 0), (1, .getfield 38, 3, 452), (4, .getfield 262, 3, 2), (7, .ifCond .gt 5, 3, 0), (10, .iconst (-1), 1, 0), (11, .ireturn, 1, 0),
  (12, .aload_n 0, 1, 0), (13, .getfield 38, 3, 452), (16, .aload_n 0, 1, 0), (17, .getfield 28, 3, 450), (20, .invokevirtual 265, 3, 1), (23, .aload_n 0, 1, 0),
  (24, .iconst 1, 1, 0), (25, .putfield 70, 3, 459), (28, .aload_n 0, 1, 0), (29, .getfield 38, 3, 452), (32, .getfield 262, 3, 2), (35, .ireturn, 1, 0)]
def kd84 : List (Nat × Instr × Nat × Nat) := [
  (0, .iload_n 1, 1, 0), (1, .invokestatic 268, 3, 96), (4, .ifCond .ne 5, 3, 0), (7, .iconst 0, 1, 0), (8, .ireturn, 1, 0), (9, .aload_n 0, 1, 0),
  (10, .getfield 42, 3, 453), (13, .iload_n 1, 1, 0), (14, .aaload, 1, 0), (15, .aload_n 0, 1, 0), (16, .getfield 28, 3, 450), (19, .invokevirtual 92, 3, 25),
  (22, .aload_n 0, 1, 0), (23, .dup, 1, 0), (24, .getfield 46, 3, 454), (27, .iconst 1, 1, 0), (28, .iload_n 1, 1, 0), (29, .ishl, 1, 0),
  (30, .ior, 1, 0), (31, .putfield 46, 3, 454), (34, .iconst 1, 1, 0), (35, .ireturn, 1, 0)]
def kd85 : List (Nat × Instr × Nat × Nat) := [
  (0, .iload_n 1, 1, 0), (1, .invokestatic 268, 3, 96), (4, .ifCond .eq 14, 3, 0), (7, .aload_n 0, 1, 0), (8, .getfield 46, 3, 454), (11, .iload_n 1, 1, 0),
  (12, .invokestatic 145, 3, 97), (15, .ifCond .ne 5, 3, 0), (18, .iconst 0, 1, 0), (19, .ireturn, 1, 0), (20, .aload_n 0, 1, 0), (21, .getfield 28, 3, 450),
  (24, .aload_n 0, 1, 0), (25, .getfield 42, 3, 453), (28, .iload_n 1, 1, 0), (29, .aaload, 1, 0), (30, .invokevirtual 92, 3, 25), (33, .aload_n 0, 1, 0),
  (34, .getfield 38, 3, 452), (37, .invokevirtual 96, 3, 2), (40, .aload_n 0, 1, 0), (41, .iconst 1, 1, 0), (42, .putfield 70, 3, 459), (45, .iconst 1, 1, 0),
  (46, .ireturn, 1, 0)]
def kd86 : List (Nat × Instr × Nat × Nat) := [
  (0, .aload_n 0, 1, 0), (1, .invokevirtual 106, 3, 87), (4, .iload_n 1, 1, 0), (5, .tableswitch 118 0 7 #[47, 55, 63, 74, 86, 94, 102, 110], 47, 0), (52, .aload_n 0, 1, 0), (53, .getfield 28, 3, 450),
  (56, .getfield 234, 3, 192), (59, .ireturn, 1, 0), (60, .aload_n 0, 1, 0), (61, .getfield 28, 3, 450), (64, .getfield 207, 3, 195), (67, .ireturn, 1, 0),
  (68, .aload_n 0, 1, 0), (69, .getfield 28, 3, 450), (72, .getfield 142, 3, 196), (75, .invokestatic 192, 3, 199), (78, .ireturn, 1, 0), (79, .aload_n 0, 1, 0),
  (80, .getfield 59, 3, 457), (83, .aload_n 0, 1, 0), (84, .getfield 28, 3, 450), (87, .invokevirtual 271, 3, 46), (90, .ireturn, 1, 0), (91, .aload_n 0, 1, 0),
  (92, .getfield 59, 3, 457), (95, .getfield 152, 3, 387), (98, .ireturn, 1, 0), (99, .aload_n 0, 1, 0), (100, .getfield 59, 3, 457), (103, .getfield 149, 3, 385),
  (106, .ireturn, 1, 0), (107, .aload_n 0, 1, 0), (108, .getfield 38, 3, 452), (111, .getfield 262, 3, 2), (114, .ireturn, 1, 0), (115, .aload_n 0, 1, 0),
  (116, .getfield 10, 3, 448), (119, .getfield 74, 3, 321), (122, .ireturn, 1, 0), (123, .iconst (-1), 1, 0), (124, .ireturn, 1, 0)]
def kd87 : List (Nat × Instr × Nat × Nat) := [
  (0, .aload_n 0, 1, 0), (1, .getfield 70, 3, 459), (4, .ifCond .eq 34, 3, 0), (7, .aload_n 0, 1, 0), (8, .getfield 59, 3, 457), (11, .aload_n 0, 1, 0),
  (12, .getfield 28, 3, 450), (15, .invokevirtual 274, 3, 44), (18, .aload_n 0, 1, 0), (19, .getfield 66, 3, 458), (22, .aload_n 0, 1, 0), (23, .getfield 28, 3, 450),
  (26, .aload_n 0, 1, 0), (27, .getfield 59, 3, 457), (30, .invokevirtual 276, 3, 3), (33, .aload_n 0, 1, 0), (34, .iconst 0, 1, 0), (35, .putfield 70, 3, 459),
  (38, .return_, 1, 0)]
def kd88 : List (Nat × Instr × Nat × Nat) := [
  (0, .aload_n 0, 1, 0), (1, .getfield 38, 3, 452), (4, .aload_n 0, 1, 0), (5, .getfield 28, 3, 450), (8, .invokevirtual 244, 3, 0), (11, .aload_n 0, 1, 0),
  (12, .iconst 1, 1, 0), (13, .putfield 70, 3, 459), (16, .return_, 1, 0)]
def kd89 : List (Nat × Instr × Nat × Nat) := [
  (0, .iload_n 1, 1, 0), (1, .ifCond .lt 18, 3, 0), (4, .iload_n 1, 1, 0), (5, .aload_n 0, 1, 0), (6, .getfield 28, 3, 450), (9, .getfield 234, 3, 192),
  (12, .if_icmp .ge 7, 3, 0), (15, .iconst 1, 1, 0), (16, .goto 4, 3, 0), (19, .iconst 0, 1, 0), (20, .ireturn, 1, 0)]
def kd90 : List (Nat × Instr × Nat × Nat) := [
  (0, .iload_n 1, 1, 0), (1, .ifCond .lt 18, 3, 0), (4, .iload_n 1, 1, 0), (5, .aload_n 0, 1, 0), (6, .getfield 28, 3, 450), (9, .getfield 207, 3, 195),
  (12, .if_icmp .ge 7, 3, 0), (15, .iconst 1, 1, 0), (16, .goto 4, 3, 0), (19, .iconst 0, 1, 0), (20, .ireturn, 1, 0)]
def kd91 : List (Nat × Instr × Nat × Nat) := [
  (0, .aload_n 0, 1, 0), (1, .iload_n 1, 1, 0), (2, .invokevirtual 127, 3, 90), (5, .ifCond .eq 22, 3, 0), (8, .aload_n 0, 1, 0), (9, .getfield 28, 3, 450),
  (12, .getfield 142, 3, 196), (15, .iload_n 1, 1, 0), (16, .invokestatic 145, 3, 97), (19, .iconst 1, 1, 0), (20, .if_icmp .ne 7, 3, 0), (23, .iconst 1, 1, 0),
  (24, .goto 4, 3, 0), (27, .iconst 0, 1, 0), (28, .ireturn, 1, 0)]
def kd92 : List (Nat × Instr × Nat × Nat) := [
  (0, .aload_n 0, 1, 0), (1, .invokevirtual 106, 3, 87), (4, .aload_n 0, 1, 0), (5, .iload_n 1, 1, 0), (6, .invokevirtual 127, 3, 90), (9, .ifCond .eq 22, 3, 0),
  (12, .aload_n 0, 1, 0), (13, .getfield 59, 3, 457), (16, .getfield 189, 3, 386), (19, .iload_n 1, 1, 0), (20, .invokestatic 145, 3, 97), (23, .iconst 1, 1, 0),
  (24, .if_icmp .ne 7, 3, 0), (27, .iconst 1, 1, 0), (28, .goto 4, 3, 0), (31, .iconst 0, 1, 0), (32, .ireturn, 1, 0)]
def kd93 : List (Nat × Instr × Nat × Nat) := [
  (0, .iload_n 0, 1, 0), (1, .ifCond .eq 8, 3, 0), (4, .iload_n 0, 1, 0), (5, .iconst 1, 1, 0), (6, .if_icmp .ne 7, 3, 0), (9, .iconst 1, 1, 0),
  (10, .goto 4, 3, 0), (13, .iconst 0, 1, 0), (14, .ireturn, 1, 0)]
def kd94 : List (Nat × Instr × Nat × Nat) := [
  (0, .iload_n 0, 1, 0), (1, .bipush (-99), 2, 0), (3, .if_icmp .lt 13, 3, 0), (6, .iload_n 0, 1, 0), (7, .bipush 99, 2, 0), (9, .if_icmp .gt 7, 3, 0),
  (12, .iconst 1, 1, 0), (13, .goto 4, 3, 0), (16, .iconst 0, 1, 0), (17, .ireturn, 1, 0)]
def kd95 : List (Nat × Instr × Nat × Nat) := [
  (0, .iload_n 0, 1, 0), (1, .iconst 1, 1, 0), (2, .if_icmp .lt 12, 3, 0), (5, .iload_n 0, 1, 0), (6, .iconst 4, 1, 0), (7, .if_icmp .gt 7, 3, 0),
  (10, .iconst 1, 1, 0), (11, .goto 4, 3, 0), (14, .iconst 0, 1, 0), (15, .ireturn, 1, 0)]
def kd96 : List (Nat × Instr × Nat × Nat) := [
  (0, .iload_n 0, 1, 0), (1, .ifCond .lt 12, 3, 0), (4, .iload_n 0, 1, 0), (5, .iconst 2, 1, 0), (6, .if_icmp .ge 7, 3, 0), (9, .iconst 1, 1, 0),
  (10, .goto 4, 3, 0), (13, .iconst 0, 1, 0), (14, .ireturn, 1, 0)]
def kd97 : List (Nat × Instr × Nat × Nat) := [
  (0, .iload_n 0, 1, 0), (1, .iload_n 1, 1, 0), (2, .iushr, 1, 0), (3, .iconst 1, 1, 0), (4, .iand, 1, 0), (5, .ireturn, 1, 0)]
def kd98 : List (Nat × Instr × Nat × Nat) := [
  (0, .iload_n 0, 1, 0), (1, .ldc_w 279, 3, 1), (4, .imul, 1, 0), (5, .sipush 12345, 3, 0), (8, .iadd, 1, 0), (9, .ireturn, 1, 0)]
def kd99 : List (Nat × Instr × Nat × Nat) := [
  (0, .aload_n 0, 1, 0), (1, .getfield 1, 3, 512), (4, .ireturn, 1, 0)]
def kd100 : List (Nat × Instr × Nat × Nat) := [
  (0, .aload_n 0, 1, 0), (1, .iconst 1, 1, 0), (2, .putfield 1, 3, 512), (5, .iconst 0, 1, 0), (6, .ireturn, 1, 0)]
def kd101 : List (Nat × Instr × Nat × Nat) := [
  (0, .iload_n 0, 1, 0), (1, .iload_n 1, 1, 0), (2, .if_icmp .lt 12, 3, 0), (5, .iload_n 0, 1, 0), (6, .iload_n 2, 1, 0), (7, .if_icmp .gt 7, 3, 0),
  (10, .iconst 1, 1, 0), (11, .goto 4, 3, 0), (14, .iconst 0, 1, 0), (15, .ireturn, 1, 0)]
def kd102 : List (Nat × Instr × Nat × Nat) := [
  (0, .iload_n 0, 1, 0), (1, .iload_n 1, 1, 0), (2, .ishr, 1, 0), (3, .iconst 1, 1, 0), (4, .iand, 1, 0), (5, .iconst 1, 1, 0),
  (6, .if_icmp .ne 7, 3, 0), (9, .iconst 1, 1, 0), (10, .goto 4, 3, 0), (13, .iconst 0, 1, 0), (14, .ireturn, 1, 0)]
def kd103 : List (Nat × Instr × Nat × Nat) := [
  (0, .iconst 0, 1, 0), (1, .istore_n 1, 1, 0), (2, .iload_n 0, 1, 0), (3, .istore_n 2, 1, 0), (4, .iload_n 2, 1, 0), (5, .ifCond .eq 15, 3, 0),
  (8, .iinc 1 1, 3, 0), (11, .iload_n 2, 1, 0), (12, .iload_n 2, 1, 0), (13, .iconst 1, 1, 0), (14, .isub, 1, 0), (15, .iand, 1, 0),
  (16, .istore_n 2, 1, 0), (17, .goto (-13), 3, 0), (20, .iload_n 1, 1, 0), (21, .ireturn, 1, 0)]
def kd104 : List (Nat × Instr × Nat × Nat) := [
  (0, .bipush 24, 2, 0), (2, .istore_n 2, 1, 0), (3, .iload_n 2, 1, 0), (4, .ifCond .lt 35, 3, 0), (7, .aload_n 0, 1, 0), (8, .getfield 7, 3, 513),
  (11, .aload_n 0, 1, 0), (12, .getfield 11, 3, 514), (15, .iload_n 1, 1, 0), (16, .iload_n 2, 1, 0), (17, .iushr, 1, 0), (18, .sipush 255, 3, 0),
  (21, .iand, 1, 0), (22, .iastore, 1, 0), (23, .aload_n 0, 1, 0), (24, .dup, 1, 0), (25, .getfield 11, 3, 514), (28, .iconst 1, 1, 0),
  (29, .iadd, 1, 0), (30, .putfield 11, 3, 514), (33, .iinc 2 (-8), 3, 0), (36, .goto (-33), 3, 0), (39, .return_, 1, 0)]
def kd105 : List (Nat × Instr × Nat × Nat) := [
  (0, .aload_n 0, 1, 0), (1, .iconst 0, 1, 0), (2, .putfield 1, 3, 512), (5, .aload_n 0, 1, 0), (6, .getfield 11, 3, 514), (9, .bipush 20, 2, 0),
  (11, .iadd, 1, 0), (12, .sipush 540, 3, 0), (15, .if_icmp .le 5, 3, 0), (18, .iconst (-1), 1, 0), (19, .ireturn, 1, 0), (20, .aload_n 0, 1, 0),
  (21, .iload_n 1, 1, 0), (22, .invokevirtual 14, 3, 104), (25, .aload_n 0, 1, 0), (26, .iload_n 2, 1, 0), (27, .invokevirtual 14, 3, 104), (30, .aload_n 0, 1, 0),
  (31, .iload_n 3, 1, 0), (32, .invokevirtual 14, 3, 104), (35, .aload_n 0, 1, 0), (36, .iload 4, 2, 0), (38, .invokevirtual 14, 3, 104), (41, .aload_n 0, 1, 0),
  (42, .iload 5, 2, 0), (44, .invokevirtual 14, 3, 104), (47, .aload_n 0, 1, 0), (48, .getfield 11, 3, 514), (51, .ireturn, 1, 0)]
def kd106 : List (Nat × Instr × Nat × Nat) := [
  (0, .aload_n 0, 1, 0), (1, .iconst 0, 1, 0), (2, .putfield 1, 3, 512), (5, .iload_n 1, 1, 0), (6, .ifCond .lt 11, 3, 0), (9, .iload_n 1, 1, 0),
  (10, .aload_n 0, 1, 0), (11, .getfield 11, 3, 514), (14, .if_icmp .le 5, 3, 0), (17, .iconst 0, 1, 0), (18, .ireturn, 1, 0), (19, .aload_n 0, 1, 0),
  (20, .iload_n 1, 1, 0), (21, .putfield 11, 3, 514), (24, .iconst 1, 1, 0), (25, .ireturn, 1, 0)]
def kd107 : List (Nat × Instr × Nat × Nat) := [
  (0, .iload_n 1, 1, 0), (1, .aload_n 0, 1, 0), (2, .getfield 18, 3, 515), (5, .if_icmp .ge 12, 3, 0), (8, .aload_n 0, 1, 0), (9, .getfield 7, 3, 513),
  (12, .iload_n 1, 1, 0), (13, .iaload, 1, 0), (14, .goto 4, 3, 0), (17, .iconst 0, 1, 0), (18, .ireturn, 1, 0)]
def kd108 : List (Nat × Instr × Nat × Nat) := [
  (0, .iload_n 0, 1, 0), (1, .bipush 48, 2, 0), (3, .if_icmp .lt 13, 3, 0), (6, .iload_n 0, 1, 0), (7, .bipush 57, 2, 0), (9, .if_icmp .gt 7, 3, 0),
  (12, .iconst 1, 1, 0), (13, .goto 4, 3, 0), (16, .iconst 0, 1, 0), (17, .ireturn, 1, 0)]
def kd109 : List (Nat × Instr × Nat × Nat) := [
  (0, .iload_n 0, 1, 0), (1, .bipush 97, 2, 0), (3, .if_icmp .lt 13, 3, 0), (6, .iload_n 0, 1, 0), (7, .bipush 122, 2, 0), (9, .if_icmp .gt 7, 3, 0),
  (12, .iconst 1, 1, 0), (13, .goto 4, 3, 0), (16, .iconst 0, 1, 0), (17, .ireturn, 1, 0)]
def kd110 : List (Nat × Instr × Nat × Nat) := [
  (0, .aload_n 0, 1, 0), (1, .getfield 21, 3, 516), (4, .aload_n 0, 1, 0), (5, .getfield 18, 3, 515), (8, .if_icmp .ge 44, 3, 0), (11, .aload_n 0, 1, 0),
  (12, .getfield 7, 3, 513), (15, .aload_n 0, 1, 0), (16, .getfield 21, 3, 516), (19, .iaload, 1, 0), (20, .bipush 32, 2, 0), (22, .if_icmp .eq 17, 3, 0),
  (25, .aload_n 0, 1, 0), (26, .getfield 7, 3, 513), (29, .aload_n 0, 1, 0), (30, .getfield 21, 3, 516), (33, .iaload, 1, 0), (34, .bipush 10, 2, 0),
  (36, .if_icmp .ne 16, 3, 0), (39, .aload_n 0, 1, 0), (40, .dup, 1, 0), (41, .getfield 21, 3, 516), (44, .iconst 1, 1, 0), (45, .iadd, 1, 0),
  (46, .putfield 21, 3, 516), (49, .goto (-49), 3, 0), (52, .aload_n 0, 1, 0), (53, .aload_n 0, 1, 0), (54, .getfield 21, 3, 516), (57, .putfield 24, 3, 517),
  (60, .aload_n 0, 1, 0), (61, .getfield 18, 3, 515), (64, .sipush 500, 3, 0), (67, .if_icmp .le 26, 3, 0), (70, .aload_n 0, 1, 0), (71, .getfield 24, 3, 517),
  (74, .sipush 500, 3, 0), (77, .if_icmp .lt 16, 3, 0), (80, .aload_n 0, 1, 0), (81, .sipush 500, 3, 0), (84, .putfield 24, 3, 517), (87, .aload_n 0, 1, 0),
  (88, .iconst 1, 1, 0), (89, .putfield 27, 3, 518), (92, .return_, 1, 0), (93, .aload_n 0, 1, 0), (94, .getfield 21, 3, 516), (97, .aload_n 0, 1, 0),
  (98, .getfield 18, 3, 515), (101, .if_icmp .lt 9, 3, 0), (104, .aload_n 0, 1, 0), (105, .iconst 0, 1, 0), (106, .putfield 27, 3, 518), (109, .return_, 1, 0),
  (110, .aload_n 0, 1, 0), (111, .getfield 7, 3, 513), (114, .aload_n 0, 1, 0), (115, .getfield 21, 3, 516), (118, .iaload, 1, 0), (119, .istore_n 1, 1, 0),
  (120, .iload_n 1, 1, 0), (121, .invokestatic 30, 3, 109), (124, .ifCond .ne 36, 3, 0), (127, .iload_n 1, 1, 0), (128, .invokestatic 34, 3, 108), (131, .ifCond .ne 29, 3, 0),
  (134, .aload_n 0, 1, 0), (135, .iload_n 1, 1, 0), (136, .bipush 59, 2, 0), (138, .if_icmp .ne 7, 3, 0), (141, .iconst 4, 1, 0), (142, .goto 4, 3, 0),
  (145, .iconst 1, 1, 0), (146, .putfield 27, 3, 518), (149, .aload_n 0, 1, 0), (150, .dup, 1, 0), (151, .getfield 21, 3, 516), (154, .iconst 1, 1, 0),
  (155, .iadd, 1, 0), (156, .putfield 21, 3, 516), (159, .return_, 1, 0), (160, .iload_n 1, 1, 0), (161, .invokestatic 30, 3, 109), (164, .istore_n 2, 1, 0),
  (165, .iconst 1, 1, 0), (166, .istore_n 3, 1, 0), (167, .aload_n 0, 1, 0), (168, .lconst 0, 1, 0), (169, .putfield 37, 3, 524), (172, .aload_n 0, 1, 0),
  (173, .iconst 0, 1, 0), (174, .putfield 41, 3, 519), (177, .aload_n 0, 1, 0), (178, .aload_n 0, 1, 0), (179, .getfield 21, 3, 516), (182, .invokevirtual 44, 3, 107),
  (185, .invokestatic 30, 3, 109), (188, .ifCond .ne 17, 3, 0), (191, .aload_n 0, 1, 0), (192, .aload_n 0, 1, 0), (193, .getfield 21, 3, 516), (196, .invokevirtual 44, 3, 107),
  (199, .invokestatic 34, 3, 108), (202, .ifCond .eq 110, 3, 0), (205, .aload_n 0, 1, 0), (206, .getfield 7, 3, 513), (209, .aload_n 0, 1, 0), (210, .getfield 21, 3, 516),
  (213, .iaload, 1, 0), (214, .istore 4, 2, 0), (216, .iload_n 3, 1, 0), (217, .ifCond .eq 16, 3, 0), (220, .iload 4, 2, 0), (222, .invokestatic 30, 3, 109),
  (225, .iload_n 2, 1, 0), (226, .if_icmp .ne 7, 3, 0), (229, .iconst 1, 1, 0), (230, .goto 4, 3, 0), (233, .iconst 0, 1, 0), (234, .istore_n 3, 1, 0),
  (235, .aload_n 0, 1, 0), (236, .getfield 21, 3, 516), (239, .aload_n 0, 1, 0), (240, .getfield 24, 3, 517), (243, .isub, 1, 0), (244, .bipush 7, 2, 0),
  (246, .if_icmp .ge 23, 3, 0), (249, .aload_n 0, 1, 0), (250, .ldc2_w 48, 3, 2), (253, .aload_n 0, 1, 0), (254, .getfield 37, 3, 524), (257, .lmul, 1, 0),
  (258, .iload 4, 2, 0), (260, .i2l, 1, 0), (261, .ladd, 1, 0), (262, .ldc2_w 50, 3, 4), (265, .lsub, 1, 0), (266, .putfield 37, 3, 524),
  (269, .aload_n 0, 1, 0), (270, .getfield 21, 3, 516), (273, .aload_n 0, 1, 0), (274, .getfield 24, 3, 517), (277, .isub, 1, 0), (278, .iconst 2, 1, 0),
  (279, .if_icmp .ge 20, 3, 0), (282, .aload_n 0, 1, 0), (283, .bipush 10, 2, 0), (285, .aload_n 0, 1, 0), (286, .getfield 41, 3, 519), (289, .imul, 1, 0),
  (290, .iload 4, 2, 0), (292, .iadd, 1, 0), (293, .bipush 48, 2, 0), (295, .isub, 1, 0), (296, .putfield 41, 3, 519), (299, .aload_n 0, 1, 0),
  (300, .dup, 1, 0), (301, .getfield 21, 3, 516), (304, .iconst 1, 1, 0), (305, .iadd, 1, 0), (306, .putfield 21, 3, 516), (309, .goto (-132), 3, 0),
  (312, .aload_n 0, 1, 0), (313, .iload_n 3, 1, 0), (314, .ifCond .eq 25, 3, 0), (317, .aload_n 0, 1, 0), (318, .getfield 21, 3, 516), (321, .aload_n 0, 1, 0),
  (322, .getfield 24, 3, 517), (325, .isub, 1, 0), (326, .iload_n 2, 1, 0), (327, .ifCond .eq 8, 3, 0), (330, .bipush 7, 2, 0), (332, .goto 4, 3, 0),
  (335, .iconst 2, 1, 0), (336, .if_icmp .le 7, 3, 0), (339, .iconst 1, 1, 0), (340, .goto 12, 3, 0), (343, .iload_n 2, 1, 0), (344, .ifCond .eq 7, 3, 0),
  (347, .iconst 2, 1, 0), (348, .goto 4, 3, 0), (351, .iconst 3, 1, 0), (352, .putfield 27, 3, 518), (355, .return_, 1, 0)]
def kd111 : List (Nat × Instr × Nat × Nat) := [
  (0, .ldc2_w 48, 3, 2), (3, .iload_n 0, 1, 0), (4, .i2l, 1, 0), (5, .ldc2_w 50, 3, 4), (8, .lsub, 1, 0), (9, .lmul, 1, 0),
  (10, .iload_n 1, 1, 0), (11, .i2l, 1, 0), (12, .ladd, 1, 0), (13, .ldc2_w 50, 3, 4), (16, .lsub, 1, 0), (17, .lstore 5, 2, 0),
  (19, .iload_n 2, 1, 0), (20, .ifCond .le 18, 3, 0), (23, .ldc2_w 48, 3, 2), (26, .lload 5, 2, 0), (28, .lmul, 1, 0), (29, .iload_n 2, 1, 0),
  (30, .i2l, 1, 0), (31, .ladd, 1, 0), (32, .ldc2_w 50, 3, 4), (35, .lsub, 1, 0), (36, .lstore 5, 2, 0), (38, .iload_n 3, 1, 0),
  (39, .ifCond .le 18, 3, 0), (42, .ldc2_w 48, 3, 2), (45, .lload 5, 2, 0), (47, .lmul, 1, 0), (48, .iload_n 3, 1, 0), (49, .i2l, 1, 0),
  (50, .ladd, 1, 0), (51, .ldc2_w 50, 3, 4), (54, .lsub, 1, 0), (55, .lstore 5, 2, 0), (57, .iload 4, 2, 0), (59, .ifCond .le 20, 3, 0),
  (62, .ldc2_w 48, 3, 2), (65, .lload 5, 2, 0), (67, .lmul, 1, 0), (68, .iload 4, 2, 0), (70, .i2l, 1, 0), (71, .ladd, 1, 0),
  (72, .ldc2_w 50, 3, 4), (75, .lsub, 1, 0), (76, .goto 5, 3, 0), (79, .lload 5, 2, 0), (81, .lreturn, 1, 0)]
def kd112 : List (Nat × Instr × Nat × Nat) := [
  (0, .aload_n 0, 1, 0), (1, .getfield 27, 3, 518), (4, .iconst 2, 1, 0), (5, .if_icmp .ne 16, 3, 0), (8, .aload_n 0, 1, 0), (9, .getfield 37, 3, 524),
  (12, .lload_n 1, 1, 0), (13, .lcmp, 1, 0), (14, .ifCond .ne 7, 3, 0), (17, .iconst 1, 1, 0), (18, .goto 4, 3, 0), (21, .iconst 0, 1, 0),
  (22, .ireturn, 1, 0)]
def kd113 : List (Nat × Instr × Nat × Nat) := [
  (0, .aload_n 0, 1, 0), (1, .bipush 112, 2, 0), (3, .bipush 111, 2, 0), (5, .bipush 105, 2, 0), (7, .bipush 110, 2, 0), (9, .bipush 116, 2, 0),
  (11, .invokestatic 52, 3, 111), (14, .invokevirtual 56, 3, 112), (17, .ireturn, 1, 0)]
def kd114 : List (Nat × Instr × Nat × Nat) := [
  (0, .aload_n 0, 1, 0), (1, .bipush 108, 2, 0), (3, .bipush 105, 2, 0), (5, .bipush 110, 2, 0), (7, .bipush 101, 2, 0), (9, .iconst 0, 1, 0),
  (10, .invokestatic 52, 3, 111), (13, .invokevirtual 56, 3, 112), (16, .ireturn, 1, 0)]
def kd115 : List (Nat × Instr × Nat × Nat) := [
  (0, .aload_n 0, 1, 0), (1, .bipush 117, 2, 0), (3, .bipush 112, 2, 0), (5, .iconst 0, 1, 0), (6, .iconst 0, 1, 0), (7, .iconst 0, 1, 0),
  (8, .invokestatic 52, 3, 111), (11, .invokevirtual 56, 3, 112), (14, .ireturn, 1, 0)]
def kd116 : List (Nat × Instr × Nat × Nat) := [
  (0, .aload_n 0, 1, 0), (1, .bipush 100, 2, 0), (3, .bipush 111, 2, 0), (5, .bipush 119, 2, 0), (7, .bipush 110, 2, 0), (9, .iconst 0, 1, 0),
  (10, .invokestatic 52, 3, 111), (13, .invokevirtual 56, 3, 112), (16, .ireturn, 1, 0)]
def kd117 : List (Nat × Instr × Nat × Nat) := [
  (0, .aload_n 0, 1, 0), (1, .getfield 27, 3, 518), (4, .iconst 2, 1, 0), (5, .if_icmp .ne 35, 3, 0), (8, .aload_n 0, 1, 0), (9, .invokevirtual 60, 3, 113),
  (12, .ifCond .ne 28, 3, 0), (15, .aload_n 0, 1, 0), (16, .invokevirtual 64, 3, 114), (19, .ifCond .ne 21, 3, 0), (22, .aload_n 0, 1, 0), (23, .invokevirtual 67, 3, 115),
  (26, .ifCond .ne 14, 3, 0), (29, .aload_n 0, 1, 0), (30, .invokevirtual 70, 3, 116), (33, .ifCond .ne 7, 3, 0), (36, .iconst 1, 1, 0), (37, .goto 4, 3, 0),
  (40, .iconst 0, 1, 0), (41, .ireturn, 1, 0)]
def kd118 : List (Nat × Instr × Nat × Nat) := [
  (0, .aload_n 0, 1, 0), (1, .aload_n 0, 1, 0), (2, .getfield 27, 3, 518), (5, .iconst 1, 1, 0), (6, .if_icmp .ne 7, 3, 0), (9, .iconst 1, 1, 0),
  (10, .goto 4, 3, 0), (13, .iload_n 1, 1, 0), (14, .putfield 73, 3, 520), (17, .aload_n 0, 1, 0), (18, .aload_n 0, 1, 0), (19, .getfield 24, 3, 517),
  (22, .putfield 76, 3, 522), (25, .aload_n 0, 1, 0), (26, .aload_n 0, 1, 0), (27, .getfield 79, 3, 523), (30, .putfield 82, 3, 521), (33, .iconst 0, 1, 0),
  (34, .ireturn, 1, 0)]
def kd119 : List (Nat × Instr × Nat × Nat) := [
  (0, .iconst 0, 1, 0), (1, .istore 4, 2, 0), (3, .iload 4, 2, 0), (5, .bipush 69, 2, 0), (7, .if_icmp .ge 21, 3, 0), (10, .aload_n 2, 1, 0),
  (11, .iload_n 3, 1, 0), (12, .iload 4, 2, 0), (14, .iadd, 1, 0), (15, .aload_n 0, 1, 0), (16, .iload_n 1, 1, 0), (17, .iload 4, 2, 0),
  (19, .iadd, 1, 0), (20, .iaload, 1, 0), (21, .iastore, 1, 0), (22, .iinc 4 1, 3, 0), (25, .goto (-22), 3, 0), (28, .return_, 1, 0)]
def kd120 : List (Nat × Instr × Nat × Nat) := [
  (0, .iconst 0, 1, 0), (1, .istore_n 1, 1, 0), (2, .iload_n 1, 1, 0), (3, .aload_n 0, 1, 0), (4, .getfield 94, 3, 526), (7, .iconst 0, 1, 0),
  (8, .iaload, 1, 0), (9, .if_icmp .ge 25, 3, 0), (12, .aload_n 0, 1, 0), (13, .getfield 109, 3, 531), (16, .iload_n 1, 1, 0), (17, .laload, 1, 0),
  (18, .aload_n 0, 1, 0), (19, .getfield 37, 3, 524), (22, .lcmp, 1, 0), (23, .ifCond .ne 5, 3, 0), (26, .iload_n 1, 1, 0), (27, .ireturn, 1, 0),
  (28, .iinc 1 1, 3, 0), (31, .goto (-29), 3, 0), (34, .iconst (-1), 1, 0), (35, .ireturn, 1, 0)]
def kd121 : List (Nat × Instr × Nat × Nat) := [
  (0, .aload_n 0, 1, 0), (1, .invokevirtual 70, 3, 116), (4, .istore_n 1, 1, 0), (5, .iload_n 1, 1, 0), (6, .ifCond .ne 16, 3, 0), (9, .aload_n 0, 1, 0),
  (10, .invokevirtual 67, 3, 115), (13, .ifCond .ne 9, 3, 0), (16, .aload_n 0, 1, 0), (17, .iconst 1, 1, 0), (18, .invokevirtual 132, 3, 118), (21, .ireturn, 1, 0),
  (22, .aload_n 0, 1, 0), (23, .invokevirtual 135, 3, 110), (26, .aload_n 0, 1, 0), (27, .getfield 27, 3, 518), (30, .iconst 3, 1, 0), (31, .if_icmp .eq 9, 3, 0),
  (34, .aload_n 0, 1, 0), (35, .iconst 1, 1, 0), (36, .invokevirtual 132, 3, 118), (39, .ireturn, 1, 0), (40, .aload_n 0, 1, 0), (41, .iload_n 1, 1, 0),
  (42, .ifCond .eq 11, 3, 0), (45, .aload_n 0, 1, 0), (46, .getfield 41, 3, 519), (49, .ineg, 1, 0), (50, .goto 7, 3, 0), (53, .aload_n 0, 1, 0),
  (54, .getfield 41, 3, 519), (57, .putfield 138, 3, 534), (60, .aload_n 0, 1, 0), (61, .invokevirtual 135, 3, 110), (64, .iconst 1, 1, 0), (65, .ireturn, 1, 0)]
def kd122 : List (Nat × Instr × Nat × Nat) := [
  (0, .aload_n 0, 1, 0), (1, .getfield 94, 3, 526), (4, .iconst 0, 1, 0), (5, .iaload, 1, 0), (6, .istore_n 1, 1, 0), (7, .iload_n 1, 1, 0),
  (8, .bipush 6, 2, 0), (10, .if_icmp .ne 9, 3, 0), (13, .aload_n 0, 1, 0), (14, .iconst 4, 1, 0), (15, .invokevirtual 132, 3, 118), (18, .ireturn, 1, 0),
  (19, .aload_n 0, 1, 0), (20, .invokevirtual 135, 3, 110), (23, .aload_n 0, 1, 0), (24, .invokevirtual 141, 3, 117), (27, .ifCond .ne 9, 3, 0), (30, .aload_n 0, 1, 0),
  (31, .iconst 1, 1, 0), (32, .invokevirtual 132, 3, 118), (35, .ireturn, 1, 0), (36, .aload_n 0, 1, 0), (37, .invokevirtual 144, 3, 120), (40, .iconst (-1), 1, 0),
  (41, .if_icmp .eq 9, 3, 0), (44, .aload_n 0, 1, 0), (45, .iconst 3, 1, 0), (46, .invokevirtual 132, 3, 118), (49, .ireturn, 1, 0), (50, .aload_n 0, 1, 0),
  (51, .getfield 109, 3, 531), (54, .iload_n 1, 1, 0), (55, .aload_n 0, 1, 0), (56, .getfield 37, 3, 524), (59, .lastore, 1, 0), (60, .aload_n 0, 1, 0),
  (61, .invokevirtual 135, 3, 110), (64, .aload_n 0, 1, 0), (65, .getfield 27, 3, 518), (68, .iconst 4, 1, 0), (69, .if_icmp .eq 34, 3, 0), (72, .aload_n 0, 1, 0),
  (73, .invokevirtual 148, 3, 121), (76, .ifCond .ne 5, 3, 0), (79, .iconst 0, 1, 0), (80, .ireturn, 1, 0), (81, .aload_n 0, 1, 0), (82, .getfield 94, 3, 526),
  (85, .iconst 2, 1, 0), (86, .iload_n 1, 1, 0), (87, .iadd, 1, 0), (88, .iconst 1, 1, 0), (89, .iastore, 1, 0), (90, .aload_n 0, 1, 0),
  (91, .getfield 94, 3, 526), (94, .bipush 8, 2, 0), (96, .iload_n 1, 1, 0), (97, .iadd, 1, 0), (98, .aload_n 0, 1, 0), (99, .getfield 138, 3, 534),
  (102, .iastore, 1, 0), (103, .aload_n 0, 1, 0), (104, .getfield 94, 3, 526), (107, .iconst 0, 1, 0), (108, .dup2, 1, 0), (109, .iaload, 1, 0),
  (110, .iconst 1, 1, 0), (111, .iadd, 1, 0), (112, .iastore, 1, 0), (113, .iconst 1, 1, 0), (114, .ireturn, 1, 0)]
def kd123 : List (Nat × Instr × Nat × Nat) := [
  (0, .aload_n 0, 1, 0), (1, .getfield 94, 3, 526), (4, .iconst 1, 1, 0), (5, .iaload, 1, 0), (6, .istore_n 1, 1, 0), (7, .iload_n 1, 1, 0),
  (8, .bipush 11, 2, 0), (10, .if_icmp .ne 9, 3, 0), (13, .aload_n 0, 1, 0), (14, .iconst 4, 1, 0), (15, .invokevirtual 132, 3, 118), (18, .ireturn, 1, 0),
  (19, .aload_n 0, 1, 0), (20, .invokevirtual 135, 3, 110), (23, .aload_n 0, 1, 0), (24, .invokevirtual 141, 3, 117), (27, .ifCond .ne 9, 3, 0), (30, .aload_n 0, 1, 0),
  (31, .iconst 1, 1, 0), (32, .invokevirtual 132, 3, 118), (35, .ireturn, 1, 0), (36, .aload_n 0, 1, 0), (37, .invokevirtual 144, 3, 120), (40, .istore_n 2, 1, 0),
  (41, .iload_n 2, 1, 0), (42, .iconst (-1), 1, 0), (43, .if_icmp .ne 9, 3, 0), (46, .aload_n 0, 1, 0), (47, .iconst 3, 1, 0), (48, .invokevirtual 132, 3, 118),
  (51, .ireturn, 1, 0), (52, .aload_n 0, 1, 0), (53, .invokevirtual 135, 3, 110), (56, .aload_n 0, 1, 0), (57, .invokevirtual 141, 3, 117), (60, .ifCond .ne 9, 3, 0),
  (63, .aload_n 0, 1, 0), (64, .iconst 1, 1, 0), (65, .invokevirtual 132, 3, 118), (68, .ireturn, 1, 0), (69, .aload_n 0, 1, 0), (70, .invokevirtual 144, 3, 120),
  (73, .istore_n 3, 1, 0), (74, .iload_n 3, 1, 0), (75, .iconst (-1), 1, 0), (76, .if_icmp .eq 8, 3, 0), (79, .iload_n 3, 1, 0), (80, .iload_n 2, 1, 0),
  (81, .if_icmp .ne 9, 3, 0), (84, .aload_n 0, 1, 0), (85, .iconst 3, 1, 0), (86, .invokevirtual 132, 3, 118), (89, .ireturn, 1, 0), (90, .aload_n 0, 1, 0),
  (91, .invokevirtual 135, 3, 110), (94, .aload_n 0, 1, 0), (95, .invokevirtual 148, 3, 121), (98, .ifCond .ne 5, 3, 0), (101, .iconst 0, 1, 0), (102, .ireturn, 1, 0),
  (103, .aload_n 0, 1, 0), (104, .getfield 27, 3, 518), (107, .iconst 3, 1, 0), (108, .if_icmp .eq 9, 3, 0), (111, .aload_n 0, 1, 0), (112, .iconst 1, 1, 0),
  (113, .invokevirtual 132, 3, 118), (116, .ireturn, 1, 0), (117, .aload_n 0, 1, 0), (118, .getfield 41, 3, 519), (121, .iconst 1, 1, 0), (122, .iconst 4, 1, 0),
  (123, .invokestatic 151, 3, 101), (126, .ifCond .ne 9, 3, 0), (129, .aload_n 0, 1, 0), (130, .iconst 2, 1, 0), (131, .invokevirtual 132, 3, 118), (134, .ireturn, 1, 0),
  (135, .aload_n 0, 1, 0), (136, .getfield 94, 3, 526), (139, .iload_n 2, 1, 0), (140, .iload_n 3, 1, 0), (141, .aload_n 0, 1, 0), (142, .getfield 138, 3, 534),
  (145, .aload_n 0, 1, 0), (146, .getfield 41, 3, 519), (149, .invokestatic 155, 3, 124), (152, .aload_n 0, 1, 0), (153, .invokevirtual 135, 3, 110), (156, .iconst 1, 1, 0),
  (157, .ireturn, 1, 0)]
def kd124 : List (Nat × Instr × Nat × Nat) := [
  (0, .aload_n 0, 1, 0), (1, .iconst 1, 1, 0), (2, .iaload, 1, 0), (3, .istore 5, 2, 0), (5, .aload_n 0, 1, 0), (6, .bipush 14, 2, 0),
  (8, .iload 5, 2, 0), (10, .iadd, 1, 0), (11, .iload_n 1, 1, 0), (12, .iastore, 1, 0), (13, .aload_n 0, 1, 0), (14, .bipush 25, 2, 0),
  (16, .iload 5, 2, 0), (18, .iadd, 1, 0), (19, .iload_n 2, 1, 0), (20, .iastore, 1, 0), (21, .aload_n 0, 1, 0), (22, .bipush 36, 2, 0),
  (24, .iload 5, 2, 0), (26, .iadd, 1, 0), (27, .iload_n 3, 1, 0), (28, .iastore, 1, 0), (29, .aload_n 0, 1, 0), (30, .bipush 47, 2, 0),
  (32, .iload 5, 2, 0), (34, .iadd, 1, 0), (35, .iload 4, 2, 0), (37, .iastore, 1, 0), (38, .aload_n 0, 1, 0), (39, .bipush 58, 2, 0),
  (41, .iload 5, 2, 0), (43, .iadd, 1, 0), (44, .iconst 1, 1, 0), (45, .iastore, 1, 0), (46, .aload_n 0, 1, 0), (47, .iconst 1, 1, 0),
  (48, .dup2, 1, 0), (49, .iaload, 1, 0), (50, .iconst 1, 1, 0), (51, .iadd, 1, 0), (52, .iastore, 1, 0), (53, .return_, 1, 0)]
def kd125 : List (Nat × Instr × Nat × Nat) := [
  (0, .aload_n 0, 1, 0), (1, .getfield 27, 3, 518), (4, .iconst 4, 1, 0), (5, .if_icmp .eq 9, 3, 0), (8, .aload_n 0, 1, 0), (9, .iconst 1, 1, 0),
  (10, .invokevirtual 132, 3, 118), (13, .ireturn, 1, 0), (14, .aload_n 0, 1, 0), (15, .invokevirtual 135, 3, 110), (18, .iconst 1, 1, 0), (19, .ireturn, 1, 0)]
def kd126 : List (Nat × Instr × Nat × Nat) := [
  (0, .aload_n 0, 1, 0), (1, .iconst 0, 1, 0), (2, .putfield 1, 3, 512), (5, .aload_n 0, 1, 0), (6, .aload_n 0, 1, 0), (7, .getfield 11, 3, 514),
  (10, .putfield 18, 3, 515), (13, .aload_n 0, 1, 0), (14, .iconst 0, 1, 0), (15, .putfield 11, 3, 514), (18, .aload_n 0, 1, 0), (19, .iconst 0, 1, 0),
  (20, .putfield 73, 3, 520), (23, .aload_n 0, 1, 0), (24, .iconst (-1), 1, 0), (25, .putfield 82, 3, 521), (28, .aload_n 0, 1, 0), (29, .iconst 0, 1, 0),
  (30, .putfield 21, 3, 516), (33, .aload_n 0, 1, 0), (34, .iconst 0, 1, 0), (35, .putfield 79, 3, 523), (38, .iconst 0, 1, 0), (39, .istore_n 1, 1, 0),
  (40, .iload_n 1, 1, 0), (41, .bipush 69, 2, 0), (43, .if_icmp .ge 16, 3, 0), (46, .aload_n 0, 1, 0), (47, .getfield 94, 3, 526), (50, .iload_n 1, 1, 0),
  (51, .iconst 0, 1, 0), (52, .iastore, 1, 0), (53, .iinc 1 1, 3, 0), (56, .goto (-16), 3, 0), (59, .aload_n 0, 1, 0), (60, .invokevirtual 135, 3, 110),
  (63, .aload_n 0, 1, 0), (64, .getfield 27, 3, 518), (67, .ifCond .eq 68, 3, 0), (70, .aload_n 0, 1, 0), (71, .invokevirtual 60, 3, 113), (74, .ifCond .eq 10, 3, 0),
  (77, .aload_n 0, 1, 0), (78, .invokevirtual 159, 3, 122), (81, .goto 22, 3, 0), (84, .aload_n 0, 1, 0), (85, .invokevirtual 64, 3, 114), (88, .ifCond .eq 10, 3, 0),
  (91, .aload_n 0, 1, 0), (92, .invokevirtual 162, 3, 123), (95, .goto 8, 3, 0), (98, .aload_n 0, 1, 0), (99, .iconst 1, 1, 0), (100, .invokevirtual 132, 3, 118),
  (103, .istore_n 1, 1, 0), (104, .iload_n 1, 1, 0), (105, .ifCond .eq 10, 3, 0), (108, .aload_n 0, 1, 0), (109, .invokevirtual 165, 3, 125), (112, .ifCond .ne 10, 3, 0),
  (115, .iconst (-1), 1, 0), (116, .aload_n 0, 1, 0), (117, .getfield 76, 3, 522), (120, .isub, 1, 0), (121, .ireturn, 1, 0), (122, .aload_n 0, 1, 0),
  (123, .dup, 1, 0), (124, .getfield 79, 3, 523), (127, .iconst 1, 1, 0), (128, .iadd, 1, 0), (129, .putfield 79, 3, 523), (132, .goto (-69), 3, 0),
  (135, .aload_n 0, 1, 0), (136, .getfield 94, 3, 526), (139, .iconst 0, 1, 0), (140, .aload_n 0, 1, 0), (141, .getfield 91, 3, 525), (144, .iconst 0, 1, 0),
  (145, .invokestatic 168, 3, 119), (148, .aload_n 0, 1, 0), (149, .iconst 0, 1, 0), (150, .putfield 172, 3, 533), (153, .aload_n 0, 1, 0), (154, .getfield 79, 3, 523),
  (157, .ireturn, 1, 0)]
def kd127 : List (Nat × Instr × Nat × Nat) := [
  (0, .aload_n 0, 1, 0), (1, .iconst 0, 1, 0), (2, .putfield 1, 3, 512), (5, .iload_n 1, 1, 0), (6, .ifCond .ne 10, 3, 0), (9, .aload_n 0, 1, 0),
  (10, .getfield 73, 3, 520), (13, .goto 16, 3, 0), (16, .iload_n 1, 1, 0), (17, .iconst 1, 1, 0), (18, .if_icmp .ne 10, 3, 0), (21, .aload_n 0, 1, 0),
  (22, .getfield 82, 3, 521), (25, .goto 4, 3, 0), (28, .iconst (-1), 1, 0), (29, .ireturn, 1, 0)]
def kd128 : List (Nat × Instr × Nat × Nat) := [
  (0, .aload_n 0, 1, 0), (1, .getfield 91, 3, 525), (4, .iconst 0, 1, 0), (5, .iaload, 1, 0), (6, .ireturn, 1, 0)]
def kd129 : List (Nat × Instr × Nat × Nat) := [
  (0, .aload_n 0, 1, 0), (1, .getfield 91, 3, 525), (4, .iconst 1, 1, 0), (5, .iaload, 1, 0), (6, .ireturn, 1, 0)]
def kd130 : List (Nat × Instr × Nat × Nat) := [
  (0, .iload_n 1, 1, 0), (1, .iconst 0, 1, 0), (2, .aload_n 0, 1, 0), (3, .invokevirtual 175, 3, 128), (6, .iconst 1, 1, 0), (7, .isub, 1, 0),
  (8, .invokestatic 151, 3, 101), (11, .ireturn, 1, 0)]
def kd131 : List (Nat × Instr × Nat × Nat) := [
  (0, .iload_n 1, 1, 0), (1, .iconst 0, 1, 0), (2, .aload_n 0, 1, 0), (3, .invokevirtual 178, 3, 129), (6, .iconst 1, 1, 0), (7, .isub, 1, 0),
  (8, .invokestatic 151, 3, 101), (11, .ireturn, 1, 0)]
def kd132 : List (Nat × Instr × Nat × Nat) := [
  (0, .aload_n 0, 1, 0), (1, .getfield 91, 3, 525), (4, .iconst 2, 1, 0), (5, .iload_n 1, 1, 0), (6, .iadd, 1, 0), (7, .iaload, 1, 0),
  (8, .iconst 1, 1, 0), (9, .if_icmp .ne 7, 3, 0), (12, .iconst 1, 1, 0), (13, .goto 4, 3, 0), (16, .iconst 0, 1, 0), (17, .ireturn, 1, 0)]
def kd133 : List (Nat × Instr × Nat × Nat) := [
  (0, .aload_n 0, 1, 0), (1, .getfield 91, 3, 525), (4, .bipush 58, 2, 0), (6, .iload_n 1, 1, 0), (7, .iadd, 1, 0), (8, .iaload, 1, 0),
  (9, .iconst 1, 1, 0), (10, .if_icmp .ne 7, 3, 0), (13, .iconst 1, 1, 0), (14, .goto 4, 3, 0), (17, .iconst 0, 1, 0), (18, .ireturn, 1, 0)]
def kd134 : List (Nat × Instr × Nat × Nat) := [
  (0, .aload_n 0, 1, 0), (1, .getfield 91, 3, 525), (4, .bipush 14, 2, 0), (6, .iload_n 1, 1, 0), (7, .iadd, 1, 0), (8, .iaload, 1, 0),
  (9, .ireturn, 1, 0)]
def kd135 : List (Nat × Instr × Nat × Nat) := [
  (0, .aload_n 0, 1, 0), (1, .getfield 91, 3, 525), (4, .bipush 25, 2, 0), (6, .iload_n 1, 1, 0), (7, .iadd, 1, 0), (8, .iaload, 1, 0),
  (9, .ireturn, 1, 0)]
def kd136 : List (Nat × Instr × Nat × Nat) := [
  (0, .iconst 0, 1, 0), (1, .istore_n 1, 1, 0), (2, .iconst 0, 1, 0), (3, .istore_n 2, 1, 0), (4, .iload_n 2, 1, 0), (5, .aload_n 0, 1, 0),
  (6, .invokevirtual 178, 3, 129), (9, .if_icmp .ge 23, 3, 0), (12, .aload_n 0, 1, 0), (13, .iload_n 2, 1, 0), (14, .invokevirtual 181, 3, 133), (17, .ifCond .eq 9, 3, 0),
  (20, .iload_n 1, 1, 0), (21, .iconst 1, 1, 0), (22, .iload_n 2, 1, 0), (23, .ishl, 1, 0), (24, .ior, 1, 0), (25, .istore_n 1, 1, 0),
  (26, .iinc 2 1, 3, 0), (29, .goto (-25), 3, 0), (32, .iload_n 1, 1, 0), (33, .ireturn, 1, 0)]
def kd137 : List (Nat × Instr × Nat × Nat) := [
  (0, .iconst 0, 1, 0), (1, .istore_n 1, 1, 0), (2, .iconst 0, 1, 0), (3, .istore_n 2, 1, 0), (4, .iload_n 2, 1, 0), (5, .aload_n 0, 1, 0),
  (6, .invokevirtual 175, 3, 128), (9, .if_icmp .ge 23, 3, 0), (12, .aload_n 0, 1, 0), (13, .iload_n 2, 1, 0), (14, .invokevirtual 184, 3, 132), (17, .ifCond .eq 9, 3, 0),
  (20, .iload_n 1, 1, 0), (21, .iconst 1, 1, 0), (22, .iload_n 2, 1, 0), (23, .ishl, 1, 0), (24, .ior, 1, 0), (25, .istore_n 1, 1, 0),
  (26, .iinc 2 1, 3, 0), (29, .goto (-25), 3, 0), (32, .iload_n 1, 1, 0), (33, .ireturn, 1, 0)]
def kd138 : List (Nat × Instr × Nat × Nat) := [
  (0, .iconst 1, 1, 0), (1, .iload_n 1, 1, 0), (2, .ishl, 1, 0), (3, .istore_n 3, 1, 0), (4, .iconst 0, 1, 0), (5, .istore 4, 2, 0),
  (7, .iload_n 3, 1, 0), (8, .iload 4, 2, 0), (10, .if_icmp .eq 83, 3, 0), (13, .iload_n 3, 1, 0), (14, .istore 4, 2, 0), (16, .iload_n 3, 1, 0),
  (17, .aload_n 0, 1, 0), (18, .invokevirtual 187, 3, 137), (21, .iand, 1, 0), (22, .ifCond .eq 10, 3, 0), (25, .iload_n 3, 1, 0), (26, .aload_n 0, 1, 0),
  (27, .invokevirtual 187, 3, 137), (30, .ior, 1, 0), (31, .istore_n 3, 1, 0), (32, .iconst 0, 1, 0), (33, .istore 5, 2, 0), (35, .iload 5, 2, 0),
  (37, .aload_n 0, 1, 0), (38, .invokevirtual 178, 3, 129), (41, .if_icmp .ge 49, 3, 0), (44, .iconst 1, 1, 0), (45, .aload_n 0, 1, 0), (46, .iload 5, 2, 0),
  (48, .invokevirtual 190, 3, 134), (51, .ishl, 1, 0), (52, .iconst 1, 1, 0), (53, .aload_n 0, 1, 0), (54, .iload 5, 2, 0), (56, .invokevirtual 193, 3, 135),
  (59, .ishl, 1, 0), (60, .ior, 1, 0), (61, .istore 6, 2, 0), (63, .iload_n 2, 1, 0), (64, .iload 5, 2, 0), (66, .invokestatic 196, 3, 102),
  (69, .ifCond .eq 15, 3, 0), (72, .iload_n 3, 1, 0), (73, .iload 6, 2, 0), (75, .iand, 1, 0), (76, .ifCond .eq 8, 3, 0), (79, .iload_n 3, 1, 0),
  (80, .iload 6, 2, 0), (82, .ior, 1, 0), (83, .istore_n 3, 1, 0), (84, .iinc 5 1, 3, 0), (87, .goto (-52), 3, 0), (90, .goto (-83), 3, 0),
  (93, .iload_n 3, 1, 0), (94, .ireturn, 1, 0)]
def kd139 : List (Nat × Instr × Nat × Nat) := [
  (0, .aload_n 0, 1, 0), (1, .iload_n 1, 1, 0), (2, .iload_n 3, 1, 0), (3, .invokevirtual 200, 3, 138), (6, .iload_n 2, 1, 0), (7, .invokestatic 196, 3, 102),
  (10, .ireturn, 1, 0)]
def kd140 : List (Nat × Instr × Nat × Nat) := [
  (0, .aload_n 0, 1, 0), (1, .iload_n 1, 1, 0), (2, .aload_n 0, 1, 0), (3, .invokevirtual 204, 3, 136), (6, .invokevirtual 200, 3, 138), (9, .istore_n 2, 1, 0),
  (10, .iconst 0, 1, 0), (11, .istore_n 3, 1, 0), (12, .iload_n 2, 1, 0), (13, .iload_n 3, 1, 0), (14, .invokestatic 196, 3, 102), (17, .ifCond .ne 9, 3, 0),
  (20, .iinc 3 1, 3, 0), (23, .goto (-11), 3, 0), (26, .iload_n 3, 1, 0), (27, .ireturn, 1, 0)]
def kd141 : List (Nat × Instr × Nat × Nat) := [
  (0, .aload_n 0, 1, 0), (1, .iload_n 1, 1, 0), (2, .invokevirtual 207, 3, 140), (5, .iload_n 1, 1, 0), (6, .if_icmp .ne 24, 3, 0), (9, .aload_n 0, 1, 0),
  (10, .iload_n 1, 1, 0), (11, .aload_n 0, 1, 0), (12, .invokevirtual 204, 3, 136), (15, .invokevirtual 200, 3, 138), (18, .aload_n 0, 1, 0), (19, .invokevirtual 187, 3, 137),
  (22, .iand, 1, 0), (23, .ifCond .ne 7, 3, 0), (26, .iconst 1, 1, 0), (27, .goto 4, 3, 0), (30, .iconst 0, 1, 0), (31, .ireturn, 1, 0)]
def kd142 : List (Nat × Instr × Nat × Nat) := [
  (0, .iconst 0, 1, 0), (1, .istore_n 1, 1, 0), (2, .iconst 0, 1, 0), (3, .istore_n 2, 1, 0), (4, .iload_n 2, 1, 0), (5, .aload_n 0, 1, 0),
  (6, .invokevirtual 178, 3, 129), (9, .if_icmp .ge 41, 3, 0), (12, .aload_n 0, 1, 0), (13, .iload_n 2, 1, 0), (14, .invokevirtual 181, 3, 133), (17, .ifCond .eq 27, 3, 0),
  (20, .aload_n 0, 1, 0), (21, .aload_n 0, 1, 0), (22, .iload_n 2, 1, 0), (23, .invokevirtual 190, 3, 134), (26, .aload_n 0, 1, 0), (27, .iload_n 2, 1, 0),
  (28, .invokevirtual 193, 3, 135), (31, .iload_n 1, 1, 0), (32, .invokevirtual 210, 3, 139), (35, .ifCond .ne 9, 3, 0), (38, .iload_n 1, 1, 0), (39, .iconst 1, 1, 0),
  (40, .iload_n 2, 1, 0), (41, .ishl, 1, 0), (42, .ior, 1, 0), (43, .istore_n 1, 1, 0), (44, .iinc 2 1, 3, 0), (47, .goto (-43), 3, 0),
  (50, .iload_n 1, 1, 0), (51, .ireturn, 1, 0)]
def kd143 : List (Nat × Instr × Nat × Nat) := [
  (0, .aload_n 0, 1, 0), (1, .iload_n 1, 1, 0), (2, .invokevirtual 181, 3, 133), (5, .ifCond .eq 34, 3, 0), (8, .aload_n 0, 1, 0), (9, .aload_n 0, 1, 0),
  (10, .iload_n 1, 1, 0), (11, .invokevirtual 190, 3, 134), (14, .aload_n 0, 1, 0), (15, .iload_n 1, 1, 0), (16, .invokevirtual 193, 3, 135), (19, .aload_n 0, 1, 0),
  (20, .invokevirtual 204, 3, 136), (23, .iconst 1, 1, 0), (24, .iload_n 1, 1, 0), (25, .ishl, 1, 0), (26, .iconst (-1), 1, 0), (27, .ixor, 1, 0),
  (28, .iand, 1, 0), (29, .invokevirtual 210, 3, 139), (32, .ifCond .ne 7, 3, 0), (35, .iconst 1, 1, 0), (36, .goto 4, 3, 0), (39, .iconst 0, 1, 0),
  (40, .ireturn, 1, 0)]
def kd144 : List (Nat × Instr × Nat × Nat) := [
  (0, .aload_n 0, 1, 0), (1, .iconst 0, 1, 0), (2, .putfield 213, 3, 537), (5, .iconst 0, 1, 0), (6, .istore_n 1, 1, 0), (7, .iload_n 1, 1, 0),
  (8, .aload_n 0, 1, 0), (9, .invokevirtual 175, 3, 128), (12, .if_icmp .ge 55, 3, 0), (15, .aload_n 0, 1, 0), (16, .getfield 120, 3, 536), (19, .iload_n 1, 1, 0),
  (20, .iconst (-1), 1, 0), (21, .iastore, 1, 0), (22, .aload_n 0, 1, 0), (23, .iload_n 1, 1, 0), (24, .invokevirtual 184, 3, 132), (27, .ifCond .ne 34, 3, 0),
  (30, .aload_n 0, 1, 0), (31, .iload_n 1, 1, 0), (32, .invokevirtual 216, 3, 141), (35, .ifCond .eq 6, 3, 0), (38, .goto 23, 3, 0), (41, .aload_n 0, 1, 0),
  (42, .getfield 120, 3, 536), (45, .iload_n 1, 1, 0), (46, .aload_n 0, 1, 0), (47, .getfield 213, 3, 537), (50, .iastore, 1, 0), (51, .aload_n 0, 1, 0),
  (52, .dup, 1, 0), (53, .getfield 213, 3, 537), (56, .iconst 1, 1, 0), (57, .iadd, 1, 0), (58, .putfield 213, 3, 537), (61, .iinc 1 1, 3, 0),
  (64, .goto (-57), 3, 0), (67, .iconst 0, 1, 0), (68, .istore_n 1, 1, 0), (69, .iload_n 1, 1, 0), (70, .bipush 36, 2, 0), (72, .if_icmp .ge 16, 3, 0),
  (75, .aload_n 0, 1, 0), (76, .getfield 117, 3, 535), (79, .iload_n 1, 1, 0), (80, .lconst 0, 1, 0), (81, .lastore, 1, 0), (82, .iinc 1 1, 3, 0),
  (85, .goto (-16), 3, 0), (88, .return_, 1, 0)]
def kd145 : List (Nat × Instr × Nat × Nat) := [
  (0, .aload_n 0, 1, 0), (1, .getfield 120, 3, 536), (4, .iload_n 1, 1, 0), (5, .iaload, 1, 0), (6, .iconst (-1), 1, 0), (7, .if_icmp .eq 23, 3, 0),
  (10, .aload_n 0, 1, 0), (11, .getfield 117, 3, 535), (14, .bipush 6, 2, 0), (16, .aload_n 0, 1, 0), (17, .getfield 120, 3, 536), (20, .iload_n 1, 1, 0),
  (21, .iaload, 1, 0), (22, .imul, 1, 0), (23, .iload_n 2, 1, 0), (24, .iadd, 1, 0), (25, .dup2, 1, 0), (26, .laload, 1, 0),
  (27, .lload_n 3, 1, 0), (28, .ladd, 1, 0), (29, .lastore, 1, 0), (30, .return_, 1, 0)]
def kd146 : List (Nat × Instr × Nat × Nat) := [
  (0, .aload_n 0, 1, 0), (1, .getfield 120, 3, 536), (4, .iload_n 1, 1, 0), (5, .iaload, 1, 0), (6, .iconst (-1), 1, 0), (7, .if_icmp .ne 4, 3, 0),
  (10, .return_, 1, 0), (11, .aload_n 0, 1, 0), (12, .iload_n 1, 1, 0), (13, .aload_n 0, 1, 0), (14, .getfield 120, 3, 536), (17, .iload_n 1, 1, 0),
  (18, .iaload, 1, 0), (19, .lload_n 3, 1, 0), (20, .invokevirtual 219, 3, 145), (23, .aload_n 0, 1, 0), (24, .iload_n 1, 1, 0), (25, .iconst 5, 1, 0),
  (26, .lload_n 3, 1, 0), (27, .lload 5, 2, 0), (29, .lmul, 1, 0), (30, .invokevirtual 219, 3, 145), (33, .aload_n 0, 1, 0), (34, .getfield 120, 3, 536),
  (37, .iload_n 2, 1, 0), (38, .iaload, 1, 0), (39, .iconst (-1), 1, 0), (40, .if_icmp .eq 19, 3, 0), (43, .aload_n 0, 1, 0), (44, .iload_n 1, 1, 0),
  (45, .aload_n 0, 1, 0), (46, .getfield 120, 3, 536), (49, .iload_n 2, 1, 0), (50, .iaload, 1, 0), (51, .lload_n 3, 1, 0), (52, .lneg, 1, 0),
  (53, .invokevirtual 219, 3, 145), (56, .goto 36, 3, 0), (59, .iload 7, 2, 0), (61, .ifCond .eq 31, 3, 0), (64, .aload_n 0, 1, 0), (65, .iload_n 1, 1, 0),
  (66, .iconst 5, 1, 0), (67, .lload_n 3, 1, 0), (68, .aload_n 0, 1, 0), (69, .getfield 91, 3, 525), (72, .bipush 8, 2, 0), (74, .iload_n 2, 1, 0),
  (75, .iadd, 1, 0), (76, .iaload, 1, 0), (77, .i2l, 1, 0), (78, .lmul, 1, 0), (79, .aload_n 0, 1, 0), (80, .getfield 91, 3, 525),
  (83, .iconst 2, 1, 0), (84, .iload_n 2, 1, 0), (85, .iadd, 1, 0), (86, .iaload, 1, 0), (87, .i2l, 1, 0), (88, .lmul, 1, 0),
  (89, .invokevirtual 219, 3, 145), (92, .return_, 1, 0)]
def kd147 : List (Nat × Instr × Nat × Nat) := [
  (0, .aload_n 0, 1, 0), (1, .invokevirtual 223, 3, 144), (4, .iconst 0, 1, 0), (5, .istore_n 2, 1, 0), (6, .iload_n 2, 1, 0), (7, .aload_n 0, 1, 0),
  (8, .invokevirtual 178, 3, 129), (11, .if_icmp .ge 92, 3, 0), (14, .aload_n 0, 1, 0), (15, .iload_n 2, 1, 0), (16, .invokevirtual 181, 3, 133), (19, .ifCond .ne 6, 3, 0),
  (22, .goto 75, 3, 0), (25, .iload_n 1, 1, 0), (26, .ifCond .eq 16, 3, 0), (29, .aload_n 0, 1, 0), (30, .getfield 91, 3, 525), (33, .bipush 36, 2, 0),
  (35, .iload_n 2, 1, 0), (36, .iadd, 1, 0), (37, .iaload, 1, 0), (38, .i2l, 1, 0), (39, .goto 4, 3, 0), (42, .lconst 0, 1, 0),
  (43, .lstore_n 3, 1, 0), (44, .aload_n 0, 1, 0), (45, .aload_n 0, 1, 0), (46, .iload_n 2, 1, 0), (47, .invokevirtual 193, 3, 135), (50, .aload_n 0, 1, 0),
  (51, .iload_n 2, 1, 0), (52, .invokevirtual 190, 3, 134), (55, .aload_n 0, 1, 0), (56, .getfield 91, 3, 525), (59, .bipush 47, 2, 0), (61, .iload_n 2, 1, 0),
  (62, .iadd, 1, 0), (63, .iaload, 1, 0), (64, .i2l, 1, 0), (65, .lload_n 3, 1, 0), (66, .iload_n 1, 1, 0), (67, .invokevirtual 226, 3, 146),
  (70, .aload_n 0, 1, 0), (71, .aload_n 0, 1, 0), (72, .iload_n 2, 1, 0), (73, .invokevirtual 190, 3, 134), (76, .aload_n 0, 1, 0), (77, .iload_n 2, 1, 0),
  (78, .invokevirtual 193, 3, 135), (81, .aload_n 0, 1, 0), (82, .getfield 91, 3, 525), (85, .bipush 47, 2, 0), (87, .iload_n 2, 1, 0), (88, .iadd, 1, 0),
  (89, .iaload, 1, 0), (90, .i2l, 1, 0), (91, .lload_n 3, 1, 0), (92, .lneg, 1, 0), (93, .iload_n 1, 1, 0), (94, .invokevirtual 226, 3, 146),
  (97, .iinc 2 1, 3, 0), (100, .goto (-94), 3, 0), (103, .return_, 1, 0)]
def kd148 : List (Nat × Instr × Nat × Nat) := [
  (0, .aload_n 0, 1, 0), (1, .lconst 1, 1, 0), (2, .putfield 230, 3, 538), (5, .iconst 0, 1, 0), (6, .istore_n 1, 1, 0), (7, .iload_n 1, 1, 0),
  (8, .aload_n 0, 1, 0), (9, .getfield 213, 3, 537), (12, .if_icmp .ge 133, 3, 0), (15, .aload_n 0, 1, 0), (16, .getfield 230, 3, 538), (19, .lstore_n 2, 1, 0),
  (20, .aload_n 0, 1, 0), (21, .aload_n 0, 1, 0), (22, .getfield 117, 3, 535), (25, .bipush 7, 2, 0), (27, .iload_n 1, 1, 0), (28, .imul, 1, 0),
  (29, .laload, 1, 0), (30, .putfield 230, 3, 538), (33, .iconst 0, 1, 0), (34, .istore 4, 2, 0), (36, .iload 4, 2, 0), (38, .aload_n 0, 1, 0),
  (39, .getfield 213, 3, 537), (42, .if_icmp .ge 97, 3, 0), (45, .iload 4, 2, 0), (47, .iload_n 1, 1, 0), (48, .if_icmp .ne 6, 3, 0), (51, .goto 82, 3, 0),
  (54, .aload_n 0, 1, 0), (55, .getfield 117, 3, 535), (58, .bipush 6, 2, 0), (60, .iload 4, 2, 0), (62, .imul, 1, 0), (63, .iload_n 1, 1, 0),
  (64, .iadd, 1, 0), (65, .laload, 1, 0), (66, .lstore 5, 2, 0), (68, .iconst 0, 1, 0), (69, .istore 7, 2, 0), (71, .iload 7, 2, 0),
  (73, .bipush 6, 2, 0), (75, .if_icmp .ge 58, 3, 0), (78, .aload_n 0, 1, 0), (79, .getfield 117, 3, 535), (82, .bipush 6, 2, 0), (84, .iload 4, 2, 0),
  (86, .imul, 1, 0), (87, .iload 7, 2, 0), (89, .iadd, 1, 0), (90, .aload_n 0, 1, 0), (91, .getfield 230, 3, 538), (94, .aload_n 0, 1, 0),
  (95, .getfield 117, 3, 535), (98, .bipush 6, 2, 0), (100, .iload 4, 2, 0), (102, .imul, 1, 0), (103, .iload 7, 2, 0), (105, .iadd, 1, 0),
  (106, .laload, 1, 0), (107, .lmul, 1, 0), (108, .lload 5, 2, 0), (110, .aload_n 0, 1, 0), (111, .getfield 117, 3, 535), (114, .bipush 6, 2, 0),
  (116, .iload_n 1, 1, 0), (117, .imul, 1, 0), (118, .iload 7, 2, 0), (120, .iadd, 1, 0), (121, .laload, 1, 0), (122, .lmul, 1, 0),
  (123, .lsub, 1, 0), (124, .lload_n 2, 1, 0), (125, .ldiv, 1, 0), (126, .lastore, 1, 0), (127, .iinc 7 1, 3, 0), (130, .goto (-59), 3, 0),
  (133, .iinc 4 1, 3, 0), (136, .goto (-100), 3, 0), (139, .iinc 1 1, 3, 0), (142, .goto (-135), 3, 0), (145, .return_, 1, 0)]
def kd149 : List (Nat × Instr × Nat × Nat) := [
  (0, .aload_n 0, 1, 0), (1, .invokevirtual 233, 3, 148), (4, .iconst 0, 1, 0), (5, .istore_n 2, 1, 0), (6, .iload_n 2, 1, 0), (7, .aload_n 0, 1, 0),
  (8, .invokevirtual 175, 3, 128), (11, .if_icmp .ge 75, 3, 0), (14, .aload_n 0, 1, 0), (15, .getfield 123, 3, 539), (18, .iload_n 2, 1, 0), (19, .aload_n 0, 1, 0),
  (20, .getfield 120, 3, 536), (23, .iload_n 2, 1, 0), (24, .iaload, 1, 0), (25, .iconst (-1), 1, 0), (26, .if_icmp .eq 22, 3, 0), (29, .aload_n 0, 1, 0),
  (30, .getfield 117, 3, 535), (33, .bipush 6, 2, 0), (35, .aload_n 0, 1, 0), (36, .getfield 120, 3, 536), (39, .iload_n 2, 1, 0), (40, .iaload, 1, 0),
  (41, .imul, 1, 0), (42, .iconst 5, 1, 0), (43, .iadd, 1, 0), (44, .laload, 1, 0), (45, .goto 34, 3, 0), (48, .iload_n 1, 1, 0),
  (49, .ifCond .eq 29, 3, 0), (52, .aload_n 0, 1, 0), (53, .iload_n 2, 1, 0), (54, .invokevirtual 184, 3, 132), (57, .ifCond .eq 21, 3, 0), (60, .aload_n 0, 1, 0),
  (61, .getfield 91, 3, 525), (64, .bipush 8, 2, 0), (66, .iload_n 2, 1, 0), (67, .iadd, 1, 0), (68, .iaload, 1, 0), (69, .i2l, 1, 0),
  (70, .aload_n 0, 1, 0), (71, .getfield 230, 3, 538), (74, .lmul, 1, 0), (75, .goto 4, 3, 0), (78, .lconst 0, 1, 0), (79, .lastore, 1, 0),
  (80, .iinc 2 1, 3, 0), (83, .goto (-77), 3, 0), (86, .return_, 1, 0)]
def kd150 : List (Nat × Instr × Nat × Nat) := [
  (0, .aload_n 0, 1, 0), (1, .iconst 1, 1, 0), (2, .invokevirtual 236, 3, 147), (5, .aload_n 0, 1, 0), (6, .iconst 1, 1, 0), (7, .invokevirtual 240, 3, 149),
  (10, .return_, 1, 0)]
def kd151 : List (Nat × Instr × Nat × Nat) := [
  (0, .lload_n 1, 1, 0), (1, .lconst 0, 1, 0), (2, .lcmp, 1, 0), (3, .ifCond .ge 8, 3, 0), (6, .lload_n 1, 1, 0), (7, .lneg, 1, 0),
  (8, .goto 4, 3, 0), (11, .lload_n 1, 1, 0), (12, .lstore 5, 2, 0), (14, .lload_n 3, 1, 0), (15, .lstore 7, 2, 0), (17, .lload 7, 2, 0),
  (19, .lconst 0, 1, 0), (20, .lcmp, 1, 0), (21, .ifCond .eq 21, 3, 0), (24, .lload 5, 2, 0), (26, .lload 7, 2, 0), (28, .lrem, 1, 0),
  (29, .lstore 9, 2, 0), (31, .lload 7, 2, 0), (33, .lstore 5, 2, 0), (35, .lload 9, 2, 0), (37, .lstore 7, 2, 0), (39, .goto (-22), 3, 0),
  (42, .aload_n 0, 1, 0), (43, .getfield 126, 3, 540), (46, .iconst 0, 1, 0), (47, .lload_n 1, 1, 0), (48, .lload 5, 2, 0), (50, .ldiv, 1, 0),
  (51, .lastore, 1, 0), (52, .aload_n 0, 1, 0), (53, .getfield 126, 3, 540), (56, .iconst 1, 1, 0), (57, .lload_n 3, 1, 0), (58, .lload 5, 2, 0),
  (60, .ldiv, 1, 0), (61, .lastore, 1, 0), (62, .return_, 1, 0)]
def kd152 : List (Nat × Instr × Nat × Nat) := [
  (0, .aload_n 0, 1, 0), (1, .getfield 126, 3, 540), (4, .iload_n 1, 1, 0), (5, .laload, 1, 0), (6, .lreturn, 1, 0)]
def kd153 : List (Nat × Instr × Nat × Nat) := [
  (0, .iload_n 0, 1, 0), (1, .iconst 0, 1, 0), (2, .iconst 1, 1, 0), (3, .invokestatic 151, 3, 101), (6, .ireturn, 1, 0)]
def kd154 : List (Nat × Instr × Nat × Nat) := [
  (0, .aload_n 0, 1, 0), (1, .iconst 0, 1, 0), (2, .putfield 1, 3, 512), (5, .aload_n 0, 1, 0), (6, .iload_n 1, 1, 0), (7, .invokevirtual 243, 3, 130),
  (10, .ifCond .eq 10, 3, 0), (13, .iload_n 2, 1, 0), (14, .invokestatic 246, 3, 153), (17, .ifCond .ne 9, 3, 0), (20, .aload_n 0, 1, 0), (21, .invokevirtual 249, 3, 100),
  (24, .i2l, 1, 0), (25, .lreturn, 1, 0), (26, .aload_n 0, 1, 0), (27, .invokevirtual 252, 3, 150), (30, .aload_n 0, 1, 0), (31, .aload_n 0, 1, 0),
  (32, .getfield 123, 3, 539), (35, .iload_n 1, 1, 0), (36, .laload, 1, 0), (37, .aload_n 0, 1, 0), (38, .getfield 230, 3, 538), (41, .invokevirtual 255, 3, 151),
  (44, .aload_n 0, 1, 0), (45, .iload_n 2, 1, 0), (46, .invokevirtual 259, 3, 152), (49, .lreturn, 1, 0)]
def kd155 : List (Nat × Instr × Nat × Nat) := [
  (0, .aload_n 0, 1, 0), (1, .iconst 0, 1, 0), (2, .putfield 1, 3, 512), (5, .aload_n 0, 1, 0), (6, .iload_n 1, 1, 0), (7, .invokevirtual 243, 3, 130),
  (10, .ifCond .ne 7, 3, 0), (13, .ldc_w 263, 3, 0), (16, .ireturn, 1, 0), (17, .aload_n 0, 1, 0), (18, .invokevirtual 252, 3, 150), (21, .ldc2_w 264, 3, 0),
  (24, .aload_n 0, 1, 0), (25, .getfield 123, 3, 539), (28, .iload_n 1, 1, 0), (29, .laload, 1, 0), (30, .lmul, 1, 0), (31, .aload_n 0, 1, 0),
  (32, .getfield 230, 3, 538), (35, .ladd, 1, 0), (36, .lstore_n 2, 1, 0), (37, .ldc2_w 264, 3, 0), (40, .aload_n 0, 1, 0), (41, .getfield 230, 3, 538),
  (44, .lmul, 1, 0), (45, .lstore 4, 2, 0), (47, .lload_n 2, 1, 0), (48, .lload 4, 2, 0), (50, .ldiv, 1, 0), (51, .lstore 6, 2, 0),
  (53, .lload 6, 2, 0), (55, .lload 4, 2, 0), (57, .lmul, 1, 0), (58, .lload_n 2, 1, 0), (59, .lcmp, 1, 0), (60, .ifCond .le 10, 3, 0),
  (63, .lload 6, 2, 0), (65, .lconst 1, 1, 0), (66, .lsub, 1, 0), (67, .goto 5, 3, 0), (70, .lload 6, 2, 0), (72, .l2i, 1, 0),
  (73, .ireturn, 1, 0)]
def kd156 : List (Nat × Instr × Nat × Nat) := [
  (0, .aload_n 0, 1, 0), (1, .getfield 123, 3, 539), (4, .aload_n 0, 1, 0), (5, .iload_n 1, 1, 0), (6, .invokevirtual 193, 3, 135), (9, .laload, 1, 0),
  (10, .aload_n 0, 1, 0), (11, .getfield 123, 3, 539), (14, .aload_n 0, 1, 0), (15, .iload_n 1, 1, 0), (16, .invokevirtual 190, 3, 134), (19, .laload, 1, 0),
  (20, .lsub, 1, 0), (21, .aload_n 0, 1, 0), (22, .getfield 91, 3, 525), (25, .bipush 36, 2, 0), (27, .iload_n 1, 1, 0), (28, .iadd, 1, 0),
  (29, .iaload, 1, 0), (30, .i2l, 1, 0), (31, .aload_n 0, 1, 0), (32, .getfield 230, 3, 538), (35, .lmul, 1, 0), (36, .lsub, 1, 0),
  (37, .lreturn, 1, 0)]
def kd157 : List (Nat × Instr × Nat × Nat) := [
  (0, .aload_n 0, 1, 0), (1, .iconst 0, 1, 0), (2, .putfield 1, 3, 512), (5, .aload_n 0, 1, 0), (6, .iload_n 1, 1, 0), (7, .invokevirtual 266, 3, 131),
  (10, .ifCond .eq 18, 3, 0), (13, .aload_n 0, 1, 0), (14, .iload_n 1, 1, 0), (15, .invokevirtual 181, 3, 133), (18, .ifCond .eq 10, 3, 0), (21, .iload_n 2, 1, 0),
  (22, .invokestatic 246, 3, 153), (25, .ifCond .ne 9, 3, 0), (28, .aload_n 0, 1, 0), (29, .invokevirtual 249, 3, 100), (32, .i2l, 1, 0), (33, .lreturn, 1, 0),
  (34, .aload_n 0, 1, 0), (35, .invokevirtual 252, 3, 150), (38, .aload_n 0, 1, 0), (39, .aload_n 0, 1, 0), (40, .iload_n 1, 1, 0), (41, .invokevirtual 269, 3, 156),
  (44, .aload_n 0, 1, 0), (45, .getfield 230, 3, 538), (48, .invokevirtual 255, 3, 151), (51, .aload_n 0, 1, 0), (52, .iload_n 2, 1, 0), (53, .invokevirtual 259, 3, 152),
  (56, .lreturn, 1, 0)]
def kd158 : List (Nat × Instr × Nat × Nat) := [
  (0, .aload_n 0, 1, 0), (1, .iload_n 1, 1, 0), (2, .invokevirtual 184, 3, 132), (5, .ifCond .eq 16, 3, 0), (8, .aload_n 0, 1, 0), (9, .getfield 91, 3, 525),
  (12, .bipush 8, 2, 0), (14, .iload_n 1, 1, 0), (15, .iadd, 1, 0), (16, .iaload, 1, 0), (17, .i2l, 1, 0), (18, .goto 4, 3, 0),
  (21, .lconst 0, 1, 0), (22, .lreturn, 1, 0)]
def kd159 : List (Nat × Instr × Nat × Nat) := [
  (0, .aload_n 0, 1, 0), (1, .iconst 0, 1, 0), (2, .putfield 1, 3, 512), (5, .iload_n 1, 1, 0), (6, .invokestatic 246, 3, 153), (9, .ifCond .ne 9, 3, 0),
  (12, .aload_n 0, 1, 0), (13, .invokevirtual 249, 3, 100), (16, .i2l, 1, 0), (17, .lreturn, 1, 0), (18, .aload_n 0, 1, 0), (19, .invokevirtual 252, 3, 150),
  (22, .lconst 0, 1, 0), (23, .lstore_n 2, 1, 0), (24, .iconst 0, 1, 0), (25, .istore 4, 2, 0), (27, .iload 4, 2, 0), (29, .aload_n 0, 1, 0),
  (30, .invokevirtual 178, 3, 129), (33, .if_icmp .ge 73, 3, 0), (36, .aload_n 0, 1, 0), (37, .iload 4, 2, 0), (39, .invokevirtual 181, 3, 133), (42, .ifCond .eq 58, 3, 0),
  (45, .lload_n 2, 1, 0), (46, .aload_n 0, 1, 0), (47, .getfield 91, 3, 525), (50, .bipush 47, 2, 0), (52, .iload 4, 2, 0), (54, .iadd, 1, 0),
  (55, .iaload, 1, 0), (56, .i2l, 1, 0), (57, .aload_n 0, 1, 0), (58, .iload 4, 2, 0), (60, .invokevirtual 269, 3, 156), (63, .lmul, 1, 0),
  (64, .aload_n 0, 1, 0), (65, .aload_n 0, 1, 0), (66, .iload 4, 2, 0), (68, .invokevirtual 193, 3, 135), (71, .invokevirtual 272, 3, 158), (74, .aload_n 0, 1, 0),
  (75, .aload_n 0, 1, 0), (76, .iload 4, 2, 0), (78, .invokevirtual 190, 3, 134), (81, .invokevirtual 272, 3, 158), (84, .lsub, 1, 0), (85, .aload_n 0, 1, 0),
  (86, .getfield 91, 3, 525), (89, .bipush 36, 2, 0), (91, .iload 4, 2, 0), (93, .iadd, 1, 0), (94, .iaload, 1, 0), (95, .i2l, 1, 0),
  (96, .lsub, 1, 0), (97, .lmul, 1, 0), (98, .ladd, 1, 0), (99, .lstore_n 2, 1, 0), (100, .iinc 4 1, 3, 0), (103, .goto (-76), 3, 0),
  (106, .aload_n 0, 1, 0), (107, .lload_n 2, 1, 0), (108, .aload_n 0, 1, 0), (109, .getfield 230, 3, 538), (112, .invokevirtual 255, 3, 151), (115, .aload_n 0, 1, 0),
  (116, .iload_n 1, 1, 0), (117, .invokevirtual 259, 3, 152), (120, .lreturn, 1, 0)]
def kd160 : List (Nat × Instr × Nat × Nat) := [
  (0, .aload_n 0, 1, 0), (1, .iload_n 1, 1, 0), (2, .invokevirtual 266, 3, 131), (5, .ifCond .eq 26, 3, 0), (8, .aload_n 0, 1, 0), (9, .iload_n 1, 1, 0),
  (10, .invokevirtual 181, 3, 133), (13, .ifCond .eq 18, 3, 0), (16, .aload_n 0, 1, 0), (17, .invokevirtual 275, 3, 142), (20, .iload_n 1, 1, 0), (21, .invokestatic 196, 3, 102),
  (24, .ifCond .ne 7, 3, 0), (27, .iconst 1, 1, 0), (28, .goto 4, 3, 0), (31, .iconst 0, 1, 0), (32, .ireturn, 1, 0)]
def kd161 : List (Nat × Instr × Nat × Nat) := [
  (0, .aload_n 0, 1, 0), (1, .iconst 0, 1, 0), (2, .putfield 1, 3, 512), (5, .aload_n 0, 1, 0), (6, .invokevirtual 204, 3, 136), (9, .invokestatic 278, 3, 103),
  (12, .aload_n 0, 1, 0), (13, .invokevirtual 275, 3, 142), (16, .invokestatic 278, 3, 103), (19, .isub, 1, 0), (20, .ireturn, 1, 0)]
def kd162 : List (Nat × Instr × Nat × Nat) := [
  (0, .aload_n 0, 1, 0), (1, .iconst 0, 1, 0), (2, .putfield 1, 3, 512), (5, .aload_n 0, 1, 0), (6, .iload_n 1, 1, 0), (7, .invokevirtual 281, 3, 160),
  (10, .ifCond .ne 5, 3, 0), (13, .iconst (-1), 1, 0), (14, .ireturn, 1, 0), (15, .aload_n 0, 1, 0), (16, .invokevirtual 275, 3, 142), (19, .istore_n 2, 1, 0),
  (20, .iconst 0, 1, 0), (21, .istore_n 3, 1, 0), (22, .iconst 0, 1, 0), (23, .istore 4, 2, 0), (25, .iload 4, 2, 0), (27, .aload_n 0, 1, 0),
  (28, .invokevirtual 178, 3, 129), (31, .if_icmp .ge 50, 3, 0), (34, .iload_n 2, 1, 0), (35, .iload 4, 2, 0), (37, .invokestatic 196, 3, 102), (40, .ifCond .eq 35, 3, 0),
  (43, .aload_n 0, 1, 0), (44, .aload_n 0, 1, 0), (45, .iload_n 1, 1, 0), (46, .invokevirtual 190, 3, 134), (49, .aload_n 0, 1, 0), (50, .iload_n 1, 1, 0),
  (51, .invokevirtual 193, 3, 135), (54, .iload_n 2, 1, 0), (55, .iconst 1, 1, 0), (56, .iload 4, 2, 0), (58, .ishl, 1, 0), (59, .iconst (-1), 1, 0),
  (60, .ixor, 1, 0), (61, .iand, 1, 0), (62, .invokevirtual 210, 3, 139), (65, .ifCond .ne 10, 3, 0), (68, .iload_n 3, 1, 0), (69, .iconst 1, 1, 0),
  (70, .iload 4, 2, 0), (72, .ishl, 1, 0), (73, .ior, 1, 0), (74, .istore_n 3, 1, 0), (75, .iinc 4 1, 3, 0), (78, .goto (-53), 3, 0),
  (81, .iload_n 3, 1, 0), (82, .ireturn, 1, 0)]
def kd163 : List (Nat × Instr × Nat × Nat) := [
  (0, .aload_n 0, 1, 0), (1, .invokevirtual 275, 3, 142), (4, .istore_n 1, 1, 0), (5, .aload_n 0, 1, 0), (6, .invokevirtual 187, 3, 137), (9, .istore_n 2, 1, 0),
  (10, .iconst 0, 1, 0), (11, .istore_n 3, 1, 0), (12, .iload_n 3, 1, 0), (13, .aload_n 0, 1, 0), (14, .invokevirtual 175, 3, 128), (17, .if_icmp .ge 50, 3, 0),
  (20, .aload_n 0, 1, 0), (21, .getfield 129, 3, 541), (24, .iload_n 3, 1, 0), (25, .aload_n 0, 1, 0), (26, .iload_n 3, 1, 0), (27, .invokevirtual 184, 3, 132),
  (30, .ifCond .eq 15, 3, 0), (33, .aload_n 0, 1, 0), (34, .getfield 91, 3, 525), (37, .bipush 8, 2, 0), (39, .iload_n 3, 1, 0), (40, .iadd, 1, 0),
  (41, .iaload, 1, 0), (42, .goto 4, 3, 0), (45, .iconst 0, 1, 0), (46, .iastore, 1, 0), (47, .aload_n 0, 1, 0), (48, .iload_n 3, 1, 0),
  (49, .invokevirtual 216, 3, 141), (52, .ifCond .eq 9, 3, 0), (55, .iload_n 2, 1, 0), (56, .iconst 1, 1, 0), (57, .iload_n 3, 1, 0), (58, .ishl, 1, 0),
  (59, .ior, 1, 0), (60, .istore_n 2, 1, 0), (61, .iinc 3 1, 3, 0), (64, .goto (-52), 3, 0), (67, .iconst 0, 1, 0), (68, .istore_n 3, 1, 0),
  (69, .iload_n 3, 1, 0), (70, .aload_n 0, 1, 0), (71, .invokevirtual 175, 3, 128), (74, .if_icmp .ge 164, 3, 0), (77, .iconst 0, 1, 0), (78, .istore 4, 2, 0),
  (80, .iload 4, 2, 0), (82, .aload_n 0, 1, 0), (83, .invokevirtual 178, 3, 129), (86, .if_icmp .ge 146, 3, 0), (89, .iload_n 1, 1, 0), (90, .iload 4, 2, 0),
  (92, .invokestatic 196, 3, 102), (95, .ifCond .eq 131, 3, 0), (98, .iload_n 2, 1, 0), (99, .aload_n 0, 1, 0), (100, .iload 4, 2, 0), (102, .invokevirtual 190, 3, 134),
  (105, .invokestatic 196, 3, 102), (108, .iload_n 2, 1, 0), (109, .aload_n 0, 1, 0), (110, .iload 4, 2, 0), (112, .invokevirtual 193, 3, 135), (115, .invokestatic 196, 3, 102),
  (118, .if_icmp .ne 6, 3, 0), (121, .goto 105, 3, 0), (124, .iload_n 2, 1, 0), (125, .aload_n 0, 1, 0), (126, .iload 4, 2, 0), (128, .invokevirtual 190, 3, 134),
  (131, .invokestatic 196, 3, 102), (134, .ifCond .eq 39, 3, 0), (137, .aload_n 0, 1, 0), (138, .getfield 129, 3, 541), (141, .aload_n 0, 1, 0), (142, .iload 4, 2, 0),
  (144, .invokevirtual 193, 3, 135), (147, .aload_n 0, 1, 0), (148, .getfield 129, 3, 541), (151, .aload_n 0, 1, 0), (152, .iload 4, 2, 0), (154, .invokevirtual 190, 3, 134),
  (157, .iaload, 1, 0), (158, .aload_n 0, 1, 0), (159, .getfield 91, 3, 525), (162, .bipush 36, 2, 0), (164, .iload 4, 2, 0), (166, .iadd, 1, 0),
  (167, .iaload, 1, 0), (168, .iadd, 1, 0), (169, .iastore, 1, 0), (170, .goto 36, 3, 0), (173, .aload_n 0, 1, 0), (174, .getfield 129, 3, 541),
  (177, .aload_n 0, 1, 0), (178, .iload 4, 2, 0), (180, .invokevirtual 190, 3, 134), (183, .aload_n 0, 1, 0), (184, .getfield 129, 3, 541), (187, .aload_n 0, 1, 0),
  (188, .iload 4, 2, 0), (190, .invokevirtual 193, 3, 135), (193, .iaload, 1, 0), (194, .aload_n 0, 1, 0), (195, .getfield 91, 3, 525), (198, .bipush 36, 2, 0),
  (200, .iload 4, 2, 0), (202, .iadd, 1, 0), (203, .iaload, 1, 0), (204, .isub, 1, 0), (205, .iastore, 1, 0), (206, .iload_n 2, 1, 0),
  (207, .iconst 1, 1, 0), (208, .aload_n 0, 1, 0), (209, .iload 4, 2, 0), (211, .invokevirtual 190, 3, 134), (214, .ishl, 1, 0), (215, .iconst 1, 1, 0),
  (216, .aload_n 0, 1, 0), (217, .iload 4, 2, 0), (219, .invokevirtual 193, 3, 135), (222, .ishl, 1, 0), (223, .ior, 1, 0), (224, .ior, 1, 0),
  (225, .istore_n 2, 1, 0), (226, .iinc 4 1, 3, 0), (229, .goto (-149), 3, 0), (232, .iinc 3 1, 3, 0), (235, .goto (-166), 3, 0), (238, .return_, 1, 0)]
def kd164 : List (Nat × Instr × Nat × Nat) := [
  (0, .aload_n 0, 1, 0), (1, .getfield 91, 3, 525), (4, .bipush 36, 2, 0), (6, .iload_n 1, 1, 0), (7, .iadd, 1, 0), (8, .iaload, 1, 0),
  (9, .aload_n 0, 1, 0), (10, .getfield 129, 3, 541), (13, .aload_n 0, 1, 0), (14, .iload_n 1, 1, 0), (15, .invokevirtual 193, 3, 135), (18, .iaload, 1, 0),
  (19, .isub, 1, 0), (20, .aload_n 0, 1, 0), (21, .getfield 129, 3, 541), (24, .aload_n 0, 1, 0), (25, .iload_n 1, 1, 0), (26, .invokevirtual 190, 3, 134),
  (29, .iaload, 1, 0), (30, .iadd, 1, 0), (31, .ireturn, 1, 0)]
def kd165 : List (Nat × Instr × Nat × Nat) := [
  (0, .aload_n 0, 1, 0), (1, .iconst 0, 1, 0), (2, .putfield 1, 3, 512), (5, .aload_n 0, 1, 0), (6, .iload_n 1, 1, 0), (7, .invokevirtual 281, 3, 160),
  (10, .ifCond .ne 7, 3, 0), (13, .ldc_w 263, 3, 0), (16, .ireturn, 1, 0), (17, .aload_n 0, 1, 0), (18, .invokevirtual 284, 3, 163), (21, .aload_n 0, 1, 0),
  (22, .iload_n 1, 1, 0), (23, .invokevirtual 287, 3, 164), (26, .ireturn, 1, 0)]
def kd166 : List (Nat × Instr × Nat × Nat) := [
  (0, .iload_n 0, 1, 0), (1, .ifCond .ge 8, 3, 0), (4, .iload_n 0, 1, 0), (5, .ineg, 1, 0), (6, .goto 4, 3, 0), (9, .iload_n 0, 1, 0),
  (10, .ireturn, 1, 0)]
def kd167 : List (Nat × Instr × Nat × Nat) := [
  (0, .aload_n 0, 1, 0), (1, .iconst 0, 1, 0), (2, .putfield 1, 3, 512), (5, .aload_n 0, 1, 0), (6, .invokevirtual 284, 3, 163), (9, .iconst (-1), 1, 0),
  (10, .istore_n 1, 1, 0), (11, .iconst 0, 1, 0), (12, .istore_n 2, 1, 0), (13, .iload_n 2, 1, 0), (14, .aload_n 0, 1, 0), (15, .invokevirtual 178, 3, 129),
  (18, .if_icmp .ge 43, 3, 0), (21, .aload_n 0, 1, 0), (22, .iload_n 2, 1, 0), (23, .invokevirtual 281, 3, 160), (26, .ifCond .eq 29, 3, 0), (29, .iload_n 1, 1, 0),
  (30, .iconst (-1), 1, 0), (31, .if_icmp .eq 22, 3, 0), (34, .aload_n 0, 1, 0), (35, .iload_n 2, 1, 0), (36, .invokevirtual 287, 3, 164), (39, .invokestatic 290, 3, 166),
  (42, .aload_n 0, 1, 0), (43, .iload_n 1, 1, 0), (44, .invokevirtual 287, 3, 164), (47, .invokestatic 290, 3, 166), (50, .if_icmp .le 5, 3, 0), (53, .iload_n 2, 1, 0),
  (54, .istore_n 1, 1, 0), (55, .iinc 2 1, 3, 0), (58, .goto (-45), 3, 0), (61, .iload_n 1, 1, 0), (62, .ireturn, 1, 0)]
def kd168 : List (Nat × Instr × Nat × Nat) := [
  (0, .aload_n 0, 1, 0), (1, .iconst 0, 1, 0), (2, .invokevirtual 236, 3, 147), (5, .aload_n 0, 1, 0), (6, .iload_n 1, 1, 0), (7, .iconst 5, 1, 0),
  (8, .lconst 1, 1, 0), (9, .invokevirtual 219, 3, 145), (12, .aload_n 0, 1, 0), (13, .iload_n 2, 1, 0), (14, .iconst 5, 1, 0), (15, .ldc2_w 293, 3, 3),
  (18, .invokevirtual 219, 3, 145), (21, .aload_n 0, 1, 0), (22, .iconst 0, 1, 0), (23, .invokevirtual 240, 3, 149), (26, .aload_n 0, 1, 0), (27, .getfield 123, 3, 539),
  (30, .iload_n 1, 1, 0), (31, .laload, 1, 0), (32, .aload_n 0, 1, 0), (33, .getfield 123, 3, 539), (36, .iload_n 2, 1, 0), (37, .laload, 1, 0),
  (38, .lsub, 1, 0), (39, .lreturn, 1, 0)]
def kd169 : List (Nat × Instr × Nat × Nat) := [
  (0, .aload_n 0, 1, 0), (1, .iconst 0, 1, 0), (2, .putfield 1, 3, 512), (5, .aload_n 0, 1, 0), (6, .iload_n 1, 1, 0), (7, .invokevirtual 243, 3, 130),
  (10, .ifCond .eq 31, 3, 0), (13, .aload_n 0, 1, 0), (14, .iload_n 2, 1, 0), (15, .invokevirtual 243, 3, 130), (18, .ifCond .eq 23, 3, 0), (21, .iload_n 3, 1, 0),
  (22, .invokestatic 246, 3, 153), (25, .ifCond .eq 16, 3, 0), (28, .aload_n 0, 1, 0), (29, .iload_n 1, 1, 0), (30, .iload_n 2, 1, 0), (31, .aload_n 0, 1, 0),
  (32, .invokevirtual 204, 3, 136), (35, .invokevirtual 210, 3, 139), (38, .ifCond .ne 9, 3, 0), (41, .aload_n 0, 1, 0), (42, .invokevirtual 249, 3, 100), (45, .i2l, 1, 0),
  (46, .lreturn, 1, 0), (47, .iload_n 1, 1, 0), (48, .iload_n 2, 1, 0), (49, .if_icmp .ne 7, 3, 0), (52, .lconst 0, 1, 0), (53, .goto 9, 3, 0),
  (56, .aload_n 0, 1, 0), (57, .iload_n 1, 1, 0), (58, .iload_n 2, 1, 0), (59, .invokevirtual 295, 3, 168), (62, .lstore 4, 2, 0), (64, .aload_n 0, 1, 0),
  (65, .lload 4, 2, 0), (67, .iload_n 1, 1, 0), (68, .iload_n 2, 1, 0), (69, .if_icmp .ne 7, 3, 0), (72, .lconst 1, 1, 0), (73, .goto 7, 3, 0),
  (76, .aload_n 0, 1, 0), (77, .getfield 230, 3, 538), (80, .invokevirtual 255, 3, 151), (83, .aload_n 0, 1, 0), (84, .iload_n 3, 1, 0), (85, .invokevirtual 259, 3, 152),
  (88, .lreturn, 1, 0)]
def kd170 : List (Nat × Instr × Nat × Nat) := [
  (0, .aload_n 0, 1, 0), (1, .iconst 0, 1, 0), (2, .putfield 1, 3, 512), (5, .iconst (-1), 1, 0), (6, .istore_n 2, 1, 0), (7, .iconst (-1), 1, 0),
  (8, .istore_n 3, 1, 0), (9, .ldc2_w 293, 3, 3), (12, .lstore 4, 2, 0), (14, .iconst 0, 1, 0), (15, .istore 6, 2, 0), (17, .iload 6, 2, 0),
  (19, .aload_n 0, 1, 0), (20, .invokevirtual 175, 3, 128), (23, .if_icmp .ge 79, 3, 0), (26, .iload 6, 2, 0), (28, .iconst 1, 1, 0), (29, .iadd, 1, 0),
  (30, .istore 7, 2, 0), (32, .iload 7, 2, 0), (34, .aload_n 0, 1, 0), (35, .invokevirtual 175, 3, 128), (38, .if_icmp .ge 58, 3, 0), (41, .aload_n 0, 1, 0),
  (42, .iload 6, 2, 0), (44, .iload 7, 2, 0), (46, .aload_n 0, 1, 0), (47, .invokevirtual 204, 3, 136), (50, .invokevirtual 210, 3, 139), (53, .ifCond .ne 6, 3, 0),
  (56, .goto 34, 3, 0), (59, .aload_n 0, 1, 0), (60, .iload 6, 2, 0), (62, .iload 7, 2, 0), (64, .invokevirtual 295, 3, 168), (67, .lstore 8, 2, 0),
  (69, .lload 8, 2, 0), (71, .lload 4, 2, 0), (73, .lcmp, 1, 0), (74, .ifCond .gt 6, 3, 0), (77, .goto 13, 3, 0), (80, .lload 8, 2, 0),
  (82, .lstore 4, 2, 0), (84, .iload 6, 2, 0), (86, .istore_n 2, 1, 0), (87, .iload 7, 2, 0), (89, .istore_n 3, 1, 0), (90, .iinc 7 1, 3, 0),
  (93, .goto (-61), 3, 0), (96, .iinc 6 1, 3, 0), (99, .goto (-82), 3, 0), (102, .iload_n 1, 1, 0), (103, .ifCond .ne 7, 3, 0), (106, .iload_n 2, 1, 0),
  (107, .goto 13, 3, 0), (110, .iload_n 1, 1, 0), (111, .iconst 1, 1, 0), (112, .if_icmp .ne 7, 3, 0), (115, .iload_n 3, 1, 0), (116, .goto 4, 3, 0),
  (119, .iconst (-1), 1, 0), (120, .ireturn, 1, 0)]
def kd171 : List (Nat × Instr × Nat × Nat) := [
  (0, .aload_n 0, 1, 0), (1, .iconst 0, 1, 0), (2, .putfield 1, 3, 512), (5, .aload_n 0, 1, 0), (6, .iload_n 1, 1, 0), (7, .invokevirtual 266, 3, 131),
  (10, .ifCond .eq 18, 3, 0), (13, .aload_n 0, 1, 0), (14, .iload_n 1, 1, 0), (15, .invokevirtual 181, 3, 133), (18, .ifCond .eq 10, 3, 0), (21, .iload_n 2, 1, 0),
  (22, .invokestatic 246, 3, 153), (25, .ifCond .ne 9, 3, 0), (28, .aload_n 0, 1, 0), (29, .invokevirtual 249, 3, 100), (32, .i2l, 1, 0), (33, .lreturn, 1, 0),
  (34, .aload_n 0, 1, 0), (35, .aload_n 0, 1, 0), (36, .iload_n 1, 1, 0), (37, .invokevirtual 190, 3, 134), (40, .aload_n 0, 1, 0), (41, .iload_n 1, 1, 0),
  (42, .invokevirtual 193, 3, 135), (45, .invokevirtual 295, 3, 168), (48, .lstore_n 3, 1, 0), (49, .aload_n 0, 1, 0), (50, .aload_n 0, 1, 0), (51, .getfield 230, 3, 538),
  (54, .aload_n 0, 1, 0), (55, .getfield 91, 3, 525), (58, .bipush 47, 2, 0), (60, .iload_n 1, 1, 0), (61, .iadd, 1, 0), (62, .iaload, 1, 0),
  (63, .i2l, 1, 0), (64, .lload_n 3, 1, 0), (65, .lmul, 1, 0), (66, .lsub, 1, 0), (67, .aload_n 0, 1, 0), (68, .getfield 230, 3, 538),
  (71, .invokevirtual 255, 3, 151), (74, .aload_n 0, 1, 0), (75, .iload_n 2, 1, 0), (76, .invokevirtual 259, 3, 152), (79, .lreturn, 1, 0)]
def kd172 : List (Nat × Instr × Nat × Nat) := [
  (0, .aload_n 0, 1, 0), (1, .getfield 91, 3, 525), (4, .bipush 58, 2, 0), (6, .iload_n 1, 1, 0), (7, .iadd, 1, 0), (8, .iconst 0, 1, 0),
  (9, .iastore, 1, 0), (10, .aload_n 0, 1, 0), (11, .invokevirtual 252, 3, 150), (14, .aload_n 0, 1, 0), (15, .aload_n 0, 1, 0), (16, .getfield 123, 3, 539),
  (19, .aload_n 0, 1, 0), (20, .iload_n 1, 1, 0), (21, .invokevirtual 193, 3, 135), (24, .laload, 1, 0), (25, .aload_n 0, 1, 0), (26, .getfield 123, 3, 539),
  (29, .aload_n 0, 1, 0), (30, .iload_n 1, 1, 0), (31, .invokevirtual 190, 3, 134), (34, .laload, 1, 0), (35, .lsub, 1, 0), (36, .aload_n 0, 1, 0),
  (37, .getfield 230, 3, 538), (40, .invokevirtual 255, 3, 151), (43, .aload_n 0, 1, 0), (44, .aload_n 0, 1, 0), (45, .iconst 0, 1, 0), (46, .invokevirtual 259, 3, 152),
  (49, .putfield 299, 3, 542), (52, .aload_n 0, 1, 0), (53, .aload_n 0, 1, 0), (54, .iconst 1, 1, 0), (55, .invokevirtual 259, 3, 152), (58, .putfield 302, 3, 543),
  (61, .aload_n 0, 1, 0), (62, .getfield 91, 3, 525), (65, .bipush 58, 2, 0), (67, .iload_n 1, 1, 0), (68, .iadd, 1, 0), (69, .iconst 1, 1, 0),
  (70, .iastore, 1, 0), (71, .return_, 1, 0)]
def kd173 : List (Nat × Instr × Nat × Nat) := [
  (0, .aload_n 0, 1, 0), (1, .iconst 0, 1, 0), (2, .putfield 1, 3, 512), (5, .aload_n 0, 1, 0), (6, .iload_n 1, 1, 0), (7, .invokevirtual 266, 3, 131),
  (10, .ifCond .eq 26, 3, 0), (13, .aload_n 0, 1, 0), (14, .iload_n 1, 1, 0), (15, .invokevirtual 181, 3, 133), (18, .ifCond .eq 18, 3, 0), (21, .iload_n 2, 1, 0),
  (22, .invokestatic 246, 3, 153), (25, .ifCond .eq 11, 3, 0), (28, .aload_n 0, 1, 0), (29, .iload_n 1, 1, 0), (30, .invokevirtual 305, 3, 143), (33, .ifCond .eq 9, 3, 0),
  (36, .aload_n 0, 1, 0), (37, .invokevirtual 249, 3, 100), (40, .i2l, 1, 0), (41, .lreturn, 1, 0), (42, .aload_n 0, 1, 0), (43, .iload_n 1, 1, 0),
  (44, .invokevirtual 308, 3, 172), (47, .iload_n 2, 1, 0), (48, .ifCond .ne 10, 3, 0), (51, .aload_n 0, 1, 0), (52, .getfield 299, 3, 542), (55, .goto 7, 3, 0),
  (58, .aload_n 0, 1, 0), (59, .getfield 302, 3, 543), (62, .lreturn, 1, 0)]
def kd174 : List (Nat × Instr × Nat × Nat) := [
  (0, .aload_n 0, 1, 0), (1, .iload_n 1, 1, 0), (2, .invokevirtual 305, 3, 143), (5, .ifCond .eq 10, 3, 0), (8, .aload_n 0, 1, 0), (9, .lconst 0, 1, 0),
  (10, .lconst 1, 1, 0), (11, .invokevirtual 255, 3, 151), (14, .return_, 1, 0), (15, .aload_n 0, 1, 0), (16, .iload_n 1, 1, 0), (17, .invokevirtual 308, 3, 172),
  (20, .aload_n 0, 1, 0), (21, .invokevirtual 252, 3, 150), (24, .aload_n 0, 1, 0), (25, .aload_n 0, 1, 0), (26, .iload_n 1, 1, 0), (27, .invokevirtual 269, 3, 156),
  (30, .aload_n 0, 1, 0), (31, .getfield 230, 3, 538), (34, .invokevirtual 255, 3, 151), (37, .aload_n 0, 1, 0), (38, .iconst 0, 1, 0), (39, .invokevirtual 259, 3, 152),
  (42, .lstore_n 2, 1, 0), (43, .aload_n 0, 1, 0), (44, .iconst 1, 1, 0), (45, .invokevirtual 259, 3, 152), (48, .lstore 4, 2, 0), (50, .aload_n 0, 1, 0),
  (51, .aload_n 0, 1, 0), (52, .getfield 299, 3, 542), (55, .aload_n 0, 1, 0), (56, .getfield 91, 3, 525), (59, .bipush 36, 2, 0), (61, .iload_n 1, 1, 0),
  (62, .iadd, 1, 0), (63, .iaload, 1, 0), (64, .i2l, 1, 0), (65, .aload_n 0, 1, 0), (66, .getfield 302, 3, 543), (69, .lmul, 1, 0),
  (70, .lsub, 1, 0), (71, .aload_n 0, 1, 0), (72, .getfield 302, 3, 543), (75, .invokevirtual 255, 3, 151), (78, .aload_n 0, 1, 0), (79, .iconst 0, 1, 0),
  (80, .invokevirtual 259, 3, 152), (83, .lstore 6, 2, 0), (85, .aload_n 0, 1, 0), (86, .aload_n 0, 1, 0), (87, .getfield 91, 3, 525), (90, .bipush 47, 2, 0),
  (92, .iload_n 1, 1, 0), (93, .iadd, 1, 0), (94, .iaload, 1, 0), (95, .i2l, 1, 0), (96, .lload_n 2, 1, 0), (97, .lmul, 1, 0),
  (98, .lload 6, 2, 0), (100, .lmul, 1, 0), (101, .lload 4, 2, 0), (103, .aload_n 0, 1, 0), (104, .iconst 1, 1, 0), (105, .invokevirtual 259, 3, 152),
  (108, .lmul, 1, 0), (109, .invokevirtual 255, 3, 151), (112, .return_, 1, 0)]
def kd175 : List (Nat × Instr × Nat × Nat) := [
  (0, .aload_n 0, 1, 0), (1, .iconst 0, 1, 0), (2, .putfield 1, 3, 512), (5, .aload_n 0, 1, 0), (6, .iload_n 1, 1, 0), (7, .invokevirtual 266, 3, 131),
  (10, .ifCond .eq 18, 3, 0), (13, .aload_n 0, 1, 0), (14, .iload_n 1, 1, 0), (15, .invokevirtual 181, 3, 133), (18, .ifCond .eq 10, 3, 0), (21, .iload_n 2, 1, 0),
  (22, .invokestatic 246, 3, 153), (25, .ifCond .ne 9, 3, 0), (28, .aload_n 0, 1, 0), (29, .invokevirtual 249, 3, 100), (32, .i2l, 1, 0), (33, .lreturn, 1, 0),
  (34, .aload_n 0, 1, 0), (35, .iload_n 1, 1, 0), (36, .invokevirtual 311, 3, 174), (39, .aload_n 0, 1, 0), (40, .iload_n 2, 1, 0), (41, .invokevirtual 259, 3, 152),
  (44, .lreturn, 1, 0)]
def kd176 : List (Nat × Instr × Nat × Nat) := [
  (0, .lload_n 0, 1, 0), (1, .lload_n 2, 1, 0), (2, .ldiv, 1, 0), (3, .lload 4, 2, 0), (5, .lload 6, 2, 0), (7, .ldiv, 1, 0),
  (8, .lcmp, 1, 0), (9, .ifCond .eq 21, 3, 0), (12, .lload_n 0, 1, 0), (13, .lload_n 2, 1, 0), (14, .ldiv, 1, 0), (15, .lload 4, 2, 0),
  (17, .lload 6, 2, 0), (19, .ldiv, 1, 0), (20, .lcmp, 1, 0), (21, .ifCond .le 7, 3, 0), (24, .iconst 1, 1, 0), (25, .goto 4, 3, 0),
  (28, .iconst 0, 1, 0), (29, .ireturn, 1, 0), (30, .lload_n 0, 1, 0), (31, .lload_n 2, 1, 0), (32, .lrem, 1, 0), (33, .lconst 0, 1, 0),
  (34, .lcmp, 1, 0), (35, .ifCond .eq 13, 3, 0), (38, .lload 4, 2, 0), (40, .lload 6, 2, 0), (42, .lrem, 1, 0), (43, .lconst 0, 1, 0),
  (44, .lcmp, 1, 0), (45, .ifCond .ne 27, 3, 0), (48, .lload_n 0, 1, 0), (49, .lload_n 2, 1, 0), (50, .lrem, 1, 0), (51, .lconst 0, 1, 0),
  (52, .lcmp, 1, 0), (53, .ifCond .eq 17, 3, 0), (56, .lload 4, 2, 0), (58, .lload 6, 2, 0), (60, .lrem, 1, 0), (61, .lconst 0, 1, 0),
  (62, .lcmp, 1, 0), (63, .ifCond .ne 7, 3, 0), (66, .iconst 1, 1, 0), (67, .goto 4, 3, 0), (70, .iconst 0, 1, 0), (71, .ireturn, 1, 0),
  (72, .lload 6, 2, 0), (74, .lload 4, 2, 0), (76, .lload 6, 2, 0), (78, .lrem, 1, 0), (79, .lload_n 2, 1, 0), (80, .lload_n 0, 1, 0),
  (81, .lload_n 2, 1, 0), (82, .lrem, 1, 0), (83, .invokestatic 314, 3, 176), (86, .ireturn, 1, 0)]
def kd177 : List (Nat × Instr × Nat × Nat) := [
  (0, .iconst (-1), 1, 0), (1, .istore_n 1, 1, 0), (2, .aload_n 0, 1, 0), (3, .lconst 0, 1, 0), (4, .putfield 318, 3, 544), (7, .aload_n 0, 1, 0),
  (8, .lconst 1, 1, 0), (9, .putfield 321, 3, 545), (12, .iconst 0, 1, 0), (13, .istore_n 2, 1, 0), (14, .iload_n 2, 1, 0), (15, .aload_n 0, 1, 0),
  (16, .invokevirtual 178, 3, 129), (19, .if_icmp .ge 72, 3, 0), (22, .aload_n 0, 1, 0), (23, .iload_n 2, 1, 0), (24, .invokevirtual 181, 3, 133), (27, .ifCond .ne 6, 3, 0),
  (30, .goto 55, 3, 0), (33, .aload_n 0, 1, 0), (34, .iload_n 2, 1, 0), (35, .invokevirtual 311, 3, 174), (38, .aload_n 0, 1, 0), (39, .iconst 0, 1, 0),
  (40, .invokevirtual 259, 3, 152), (43, .aload_n 0, 1, 0), (44, .iconst 1, 1, 0), (45, .invokevirtual 259, 3, 152), (48, .aload_n 0, 1, 0), (49, .getfield 318, 3, 544),
  (52, .aload_n 0, 1, 0), (53, .getfield 321, 3, 545), (56, .invokestatic 314, 3, 176), (59, .ifCond .ne 6, 3, 0), (62, .goto 23, 3, 0), (65, .iload_n 2, 1, 0),
  (66, .istore_n 1, 1, 0), (67, .aload_n 0, 1, 0), (68, .aload_n 0, 1, 0), (69, .iconst 0, 1, 0), (70, .invokevirtual 259, 3, 152), (73, .putfield 318, 3, 544),
  (76, .aload_n 0, 1, 0), (77, .aload_n 0, 1, 0), (78, .iconst 1, 1, 0), (79, .invokevirtual 259, 3, 152), (82, .putfield 321, 3, 545), (85, .iinc 2 1, 3, 0),
  (88, .goto (-74), 3, 0), (91, .iload_n 1, 1, 0), (92, .ireturn, 1, 0)]
def kd178 : List (Nat × Instr × Nat × Nat) := [
  (0, .aload_n 0, 1, 0), (1, .iconst 0, 1, 0), (2, .putfield 1, 3, 512), (5, .aload_n 0, 1, 0), (6, .invokevirtual 324, 3, 177), (9, .ireturn, 1, 0)]
def kd179 : List (Nat × Instr × Nat × Nat) := [
  (0, .aload_n 0, 1, 0), (1, .getfield 172, 3, 533), (4, .bipush 8, 2, 0), (6, .if_icmp .ne 43, 3, 0), (9, .iconst 0, 1, 0), (10, .istore_n 1, 1, 0),
  (11, .iload_n 1, 1, 0), (12, .sipush 483, 3, 0), (15, .if_icmp .ge 24, 3, 0), (18, .aload_n 0, 1, 0), (19, .getfield 100, 3, 528), (22, .iload_n 1, 1, 0),
  (23, .aload_n 0, 1, 0), (24, .getfield 100, 3, 528), (27, .iload_n 1, 1, 0), (28, .bipush 69, 2, 0), (30, .iadd, 1, 0), (31, .iaload, 1, 0),
  (32, .iastore, 1, 0), (33, .iinc 1 1, 3, 0), (36, .goto (-25), 3, 0), (39, .aload_n 0, 1, 0), (40, .dup, 1, 0), (41, .getfield 172, 3, 533),
  (44, .iconst 1, 1, 0), (45, .isub, 1, 0), (46, .putfield 172, 3, 533), (49, .aload_n 0, 1, 0), (50, .getfield 91, 3, 525), (53, .iconst 0, 1, 0),
  (54, .aload_n 0, 1, 0), (55, .getfield 100, 3, 528), (58, .bipush 69, 2, 0), (60, .aload_n 0, 1, 0), (61, .getfield 172, 3, 533), (64, .imul, 1, 0),
  (65, .invokestatic 168, 3, 119), (68, .aload_n 0, 1, 0), (69, .dup, 1, 0), (70, .getfield 172, 3, 533), (73, .iconst 1, 1, 0), (74, .iadd, 1, 0),
  (75, .putfield 172, 3, 533), (78, .return_, 1, 0)]
def kd180 : List (Nat × Instr × Nat × Nat) := [
  (0, .aload_n 0, 1, 0), (1, .getfield 91, 3, 525), (4, .iconst 0, 1, 0), (5, .aload_n 0, 1, 0), (6, .getfield 106, 3, 530), (9, .iconst 0, 1, 0),
  (10, .invokestatic 168, 3, 119), (13, .aload_n 0, 1, 0), (14, .getfield 103, 3, 529), (17, .iconst 0, 1, 0), (18, .aload_n 0, 1, 0), (19, .getfield 91, 3, 525),
  (22, .iconst 0, 1, 0), (23, .invokestatic 168, 3, 119), (26, .aload_n 0, 1, 0), (27, .invokevirtual 327, 3, 179), (30, .aload_n 0, 1, 0), (31, .getfield 106, 3, 530),
  (34, .iconst 0, 1, 0), (35, .aload_n 0, 1, 0), (36, .getfield 91, 3, 525), (39, .iconst 0, 1, 0), (40, .invokestatic 168, 3, 119), (43, .return_, 1, 0)]
def kd181 : List (Nat × Instr × Nat × Nat) := [
  (0, .aload_n 0, 1, 0), (1, .iconst 0, 1, 0), (2, .putfield 1, 3, 512), (5, .iload_n 3, 1, 0), (6, .ifCond .ne 5, 3, 0), (9, .iconst (-1), 1, 0),
  (10, .ireturn, 1, 0), (11, .aload_n 0, 1, 0), (12, .getfield 91, 3, 525), (15, .iload_n 1, 1, 0), (16, .iaload, 1, 0), (17, .iload_n 2, 1, 0),
  (18, .if_icmp .ne 5, 3, 0), (21, .iconst 1, 1, 0), (22, .ireturn, 1, 0), (23, .aload_n 0, 1, 0), (24, .invokevirtual 327, 3, 179), (27, .aload_n 0, 1, 0),
  (28, .getfield 91, 3, 525), (31, .iload_n 1, 1, 0), (32, .iload_n 2, 1, 0), (33, .iastore, 1, 0), (34, .iconst 0, 1, 0), (35, .ireturn, 1, 0)]
def kd182 : List (Nat × Instr × Nat × Nat) := [
  (0, .aload_n 0, 1, 0), (1, .bipush 58, 2, 0), (3, .iload_n 1, 1, 0), (4, .iadd, 1, 0), (5, .iconst 0, 1, 0), (6, .aload_n 0, 1, 0),
  (7, .iload_n 1, 1, 0), (8, .invokevirtual 266, 3, 131), (11, .invokevirtual 330, 3, 181), (14, .ireturn, 1, 0)]
def kd183 : List (Nat × Instr × Nat × Nat) := [
  (0, .aload_n 0, 1, 0), (1, .bipush 58, 2, 0), (3, .iload_n 1, 1, 0), (4, .iadd, 1, 0), (5, .iconst 1, 1, 0), (6, .aload_n 0, 1, 0),
  (7, .iload_n 1, 1, 0), (8, .invokevirtual 266, 3, 131), (11, .invokevirtual 330, 3, 181), (14, .ireturn, 1, 0)]
def kd184 : List (Nat × Instr × Nat × Nat) := [
  (0, .aload_n 0, 1, 0), (1, .bipush 36, 2, 0), (3, .iload_n 1, 1, 0), (4, .iadd, 1, 0), (5, .iload_n 2, 1, 0), (6, .aload_n 0, 1, 0),
  (7, .iload_n 1, 1, 0), (8, .invokevirtual 266, 3, 131), (11, .ifCond .eq 18, 3, 0), (14, .iload_n 2, 1, 0), (15, .bipush (-99), 2, 0), (17, .bipush 99, 2, 0),
  (19, .invokestatic 151, 3, 101), (22, .ifCond .eq 7, 3, 0), (25, .iconst 1, 1, 0), (26, .goto 4, 3, 0), (29, .iconst 0, 1, 0), (30, .invokevirtual 330, 3, 181),
  (33, .ireturn, 1, 0)]
def kd185 : List (Nat × Instr × Nat × Nat) := [
  (0, .aload_n 0, 1, 0), (1, .bipush 47, 2, 0), (3, .iload_n 1, 1, 0), (4, .iadd, 1, 0), (5, .iload_n 2, 1, 0), (6, .aload_n 0, 1, 0),
  (7, .iload_n 1, 1, 0), (8, .invokevirtual 266, 3, 131), (11, .ifCond .eq 16, 3, 0), (14, .iload_n 2, 1, 0), (15, .iconst 1, 1, 0), (16, .iconst 4, 1, 0),
  (17, .invokestatic 151, 3, 101), (20, .ifCond .eq 7, 3, 0), (23, .iconst 1, 1, 0), (24, .goto 4, 3, 0), (27, .iconst 0, 1, 0), (28, .invokevirtual 330, 3, 181),
  (31, .ireturn, 1, 0)]
def kd186 : List (Nat × Instr × Nat × Nat) := [
  (0, .aload_n 0, 1, 0), (1, .iconst 2, 1, 0), (2, .iload_n 1, 1, 0), (3, .iadd, 1, 0), (4, .iconst 0, 1, 0), (5, .aload_n 0, 1, 0),
  (6, .iload_n 1, 1, 0), (7, .invokevirtual 243, 3, 130), (10, .invokevirtual 330, 3, 181), (13, .ireturn, 1, 0)]
def kd187 : List (Nat × Instr × Nat × Nat) := [
  (0, .aload_n 0, 1, 0), (1, .iconst 0, 1, 0), (2, .putfield 1, 3, 512), (5, .aload_n 0, 1, 0), (6, .iload_n 1, 1, 0), (7, .invokevirtual 243, 3, 130),
  (10, .ifCond .eq 14, 3, 0), (13, .iload_n 2, 1, 0), (14, .bipush (-99), 2, 0), (16, .bipush 99, 2, 0), (18, .invokestatic 151, 3, 101), (21, .ifCond .ne 5, 3, 0),
  (24, .iconst (-1), 1, 0), (25, .ireturn, 1, 0), (26, .aload_n 0, 1, 0), (27, .iload_n 1, 1, 0), (28, .invokevirtual 184, 3, 132), (31, .ifCond .eq 18, 3, 0),
  (34, .aload_n 0, 1, 0), (35, .getfield 91, 3, 525), (38, .bipush 8, 2, 0), (40, .iload_n 1, 1, 0), (41, .iadd, 1, 0), (42, .iaload, 1, 0),
  (43, .iload_n 2, 1, 0), (44, .if_icmp .ne 5, 3, 0), (47, .iconst 1, 1, 0), (48, .ireturn, 1, 0), (49, .aload_n 0, 1, 0), (50, .invokevirtual 327, 3, 179),
  (53, .aload_n 0, 1, 0), (54, .getfield 91, 3, 525), (57, .iconst 2, 1, 0), (58, .iload_n 1, 1, 0), (59, .iadd, 1, 0), (60, .iconst 1, 1, 0),
  (61, .iastore, 1, 0), (62, .aload_n 0, 1, 0), (63, .getfield 91, 3, 525), (66, .bipush 8, 2, 0), (68, .iload_n 1, 1, 0), (69, .iadd, 1, 0),
  (70, .iload_n 2, 1, 0), (71, .iastore, 1, 0), (72, .iconst 0, 1, 0), (73, .ireturn, 1, 0)]
def kd188 : List (Nat × Instr × Nat × Nat) := [
  (0, .aload_n 0, 1, 0), (1, .iconst 0, 1, 0), (2, .putfield 1, 3, 512), (5, .aload_n 0, 1, 0), (6, .invokevirtual 178, 3, 129), (9, .bipush 11, 2, 0),
  (11, .if_icmp .eq 45, 3, 0), (14, .aload_n 0, 1, 0), (15, .iload_n 1, 1, 0), (16, .invokevirtual 243, 3, 130), (19, .ifCond .eq 37, 3, 0), (22, .aload_n 0, 1, 0),
  (23, .iload_n 2, 1, 0), (24, .invokevirtual 243, 3, 130), (27, .ifCond .eq 29, 3, 0), (30, .iload_n 1, 1, 0), (31, .iload_n 2, 1, 0), (32, .if_icmp .eq 24, 3, 0),
  (35, .iload_n 3, 1, 0), (36, .bipush (-99), 2, 0), (38, .bipush 99, 2, 0), (40, .invokestatic 151, 3, 101), (43, .ifCond .eq 13, 3, 0), (46, .iload 4, 2, 0),
  (48, .iconst 1, 1, 0), (49, .iconst 4, 1, 0), (50, .invokestatic 151, 3, 101), (53, .ifCond .ne 5, 3, 0), (56, .iconst (-1), 1, 0), (57, .ireturn, 1, 0),
  (58, .aload_n 0, 1, 0), (59, .invokevirtual 327, 3, 179), (62, .aload_n 0, 1, 0), (63, .getfield 91, 3, 525), (66, .iload_n 1, 1, 0), (67, .iload_n 2, 1, 0),
  (68, .iload_n 3, 1, 0), (69, .iload 4, 2, 0), (71, .invokestatic 155, 3, 124), (74, .aload_n 0, 1, 0), (75, .invokevirtual 178, 3, 129), (78, .iconst 1, 1, 0),
  (79, .isub, 1, 0), (80, .ireturn, 1, 0)]
def kd189 : List (Nat × Instr × Nat × Nat) := [
  (0, .aload_n 0, 1, 0), (1, .iconst 0, 1, 0), (2, .putfield 1, 3, 512), (5, .iload_n 1, 1, 0), (6, .iconst 0, 1, 0), (7, .sipush 9999, 3, 0),
  (10, .invokestatic 151, 3, 101), (13, .ifCond .ne 5, 3, 0), (16, .iconst (-1), 1, 0), (17, .ireturn, 1, 0), (18, .aload_n 0, 1, 0), (19, .getfield 91, 3, 525),
  (22, .iconst 0, 1, 0), (23, .aload_n 0, 1, 0), (24, .getfield 103, 3, 529), (27, .iconst 0, 1, 0), (28, .invokestatic 168, 3, 119), (31, .iconst 0, 1, 0),
  (32, .istore_n 2, 1, 0), (33, .aload_n 0, 1, 0), (34, .invokevirtual 324, 3, 177), (37, .istore_n 3, 1, 0), (38, .iload_n 3, 1, 0), (39, .iconst (-1), 1, 0),
  (40, .if_icmp .eq 41, 3, 0), (43, .aload_n 0, 1, 0), (44, .getfield 318, 3, 544), (47, .aload_n 0, 1, 0), (48, .getfield 321, 3, 545), (51, .iload_n 1, 1, 0),
  (52, .i2l, 1, 0), (53, .lconst 1, 1, 0), (54, .invokestatic 314, 3, 176), (57, .ifCond .eq 24, 3, 0), (60, .aload_n 0, 1, 0), (61, .getfield 91, 3, 525),
  (64, .bipush 58, 2, 0), (66, .iload_n 3, 1, 0), (67, .iadd, 1, 0), (68, .iconst 0, 1, 0), (69, .iastore, 1, 0), (70, .iinc 2 1, 3, 0),
  (73, .aload_n 0, 1, 0), (74, .invokevirtual 324, 3, 177), (77, .istore_n 3, 1, 0), (78, .goto (-40), 3, 0), (81, .iload_n 2, 1, 0), (82, .ifCond .le 7, 3, 0),
  (85, .aload_n 0, 1, 0), (86, .invokevirtual 334, 3, 180), (89, .iload_n 2, 1, 0), (90, .ireturn, 1, 0)]
def kd190 : List (Nat × Instr × Nat × Nat) := [
  (0, .aload_n 0, 1, 0), (1, .aload_n 0, 1, 0), (2, .getfield 337, 3, 546), (5, .ldc_w 340, 3, 1), (8, .imul, 1, 0), (9, .sipush 12345, 3, 0),
  (12, .iadd, 1, 0), (13, .putfield 337, 3, 546), (16, .aload_n 0, 1, 0), (17, .getfield 337, 3, 546), (20, .bipush 8, 2, 0), (22, .iushr, 1, 0),
  (23, .iload_n 1, 1, 0), (24, .irem, 1, 0), (25, .ireturn, 1, 0)]
def kd191 : List (Nat × Instr × Nat × Nat) := [
  (0, .aload_n 0, 1, 0), (1, .aload_n 0, 1, 0), (2, .invokevirtual 178, 3, 129), (5, .invokevirtual 341, 3, 190), (8, .istore_n 1, 1, 0), (9, .aload_n 0, 1, 0),
  (10, .bipush 9, 2, 0), (12, .invokevirtual 341, 3, 190), (15, .iconst 4, 1, 0), (16, .isub, 1, 0), (17, .istore_n 2, 1, 0), (18, .aload_n 0, 1, 0),
  (19, .getfield 91, 3, 525), (22, .bipush 36, 2, 0), (24, .iload_n 1, 1, 0), (25, .iadd, 1, 0), (26, .iaload, 1, 0), (27, .iload_n 2, 1, 0),
  (28, .iadd, 1, 0), (29, .istore_n 3, 1, 0), (30, .iload_n 2, 1, 0), (31, .ifCond .eq 14, 3, 0), (34, .iload_n 3, 1, 0), (35, .bipush (-99), 2, 0),
  (37, .bipush 99, 2, 0), (39, .invokestatic 151, 3, 101), (42, .ifCond .ne 5, 3, 0), (45, .iconst 0, 1, 0), (46, .ireturn, 1, 0), (47, .aload_n 0, 1, 0),
  (48, .getfield 91, 3, 525), (51, .bipush 36, 2, 0), (53, .iload_n 1, 1, 0), (54, .iadd, 1, 0), (55, .iload_n 3, 1, 0), (56, .iastore, 1, 0),
  (57, .iconst 1, 1, 0), (58, .ireturn, 1, 0)]
def kd192 : List (Nat × Instr × Nat × Nat) := [
  (0, .aload_n 0, 1, 0), (1, .iconst 0, 1, 0), (2, .putfield 1, 3, 512), (5, .iload_n 1, 1, 0), (6, .iconst 1, 1, 0), (7, .bipush 60, 2, 0),
  (9, .invokestatic 151, 3, 101), (12, .ifCond .ne 5, 3, 0), (15, .iconst (-1), 1, 0), (16, .ireturn, 1, 0), (17, .aload_n 0, 1, 0), (18, .getfield 91, 3, 525),
  (21, .iconst 0, 1, 0), (22, .aload_n 0, 1, 0), (23, .getfield 103, 3, 529), (26, .iconst 0, 1, 0), (27, .invokestatic 168, 3, 119), (30, .aload_n 0, 1, 0),
  (31, .iload_n 2, 1, 0), (32, .putfield 337, 3, 546), (35, .iconst 0, 1, 0), (36, .istore_n 3, 1, 0), (37, .iconst 0, 1, 0), (38, .istore 4, 2, 0),
  (40, .iload 4, 2, 0), (42, .iload_n 1, 1, 0), (43, .if_icmp .ge 26, 3, 0), (46, .aload_n 0, 1, 0), (47, .invokevirtual 178, 3, 129), (50, .ifCond .le 19, 3, 0),
  (53, .aload_n 0, 1, 0), (54, .invokevirtual 344, 3, 191), (57, .ifCond .eq 6, 3, 0), (60, .iinc 3 1, 3, 0), (63, .iinc 4 1, 3, 0), (66, .goto (-26), 3, 0),
  (69, .iload_n 3, 1, 0), (70, .ifCond .le 7, 3, 0), (73, .aload_n 0, 1, 0), (74, .invokevirtual 334, 3, 180), (77, .iload_n 3, 1, 0), (78, .ireturn, 1, 0)]
def kd193 : List (Nat × Instr × Nat × Nat) := [
  (0, .aload_n 0, 1, 0), (1, .iconst 0, 1, 0), (2, .putfield 1, 3, 512), (5, .aload_n 0, 1, 0), (6, .getfield 172, 3, 533), (9, .ifCond .ne 5, 3, 0),
  (12, .iconst (-1), 1, 0), (13, .ireturn, 1, 0), (14, .aload_n 0, 1, 0), (15, .dup, 1, 0), (16, .getfield 172, 3, 533), (19, .iconst 1, 1, 0),
  (20, .isub, 1, 0), (21, .putfield 172, 3, 533), (24, .aload_n 0, 1, 0), (25, .getfield 100, 3, 528), (28, .bipush 69, 2, 0), (30, .aload_n 0, 1, 0),
  (31, .getfield 172, 3, 533), (34, .imul, 1, 0), (35, .aload_n 0, 1, 0), (36, .getfield 91, 3, 525), (39, .iconst 0, 1, 0), (40, .invokestatic 168, 3, 119),
  (43, .aload_n 0, 1, 0), (44, .getfield 172, 3, 533), (47, .ireturn, 1, 0)]
def kd194 : List (Nat × Instr × Nat × Nat) := [
  (0, .aload_n 0, 1, 0), (1, .iconst 0, 1, 0), (2, .putfield 1, 3, 512), (5, .iload_n 1, 1, 0), (6, .iconst 0, 1, 0), (7, .iconst 1, 1, 0),
  (8, .invokestatic 151, 3, 101), (11, .ifCond .ne 5, 3, 0), (14, .iconst 0, 1, 0), (15, .ireturn, 1, 0), (16, .aload_n 0, 1, 0), (17, .getfield 91, 3, 525),
  (20, .iconst 0, 1, 0), (21, .aload_n 0, 1, 0), (22, .getfield 97, 3, 527), (25, .bipush 69, 2, 0), (27, .iload_n 1, 1, 0), (28, .imul, 1, 0),
  (29, .invokestatic 168, 3, 119), (32, .aload_n 0, 1, 0), (33, .getfield 113, 3, 532), (36, .iload_n 1, 1, 0), (37, .iconst 1, 1, 0), (38, .bastore, 1, 0),
  (39, .iconst 1, 1, 0), (40, .ireturn, 1, 0)]
def kd195 : List (Nat × Instr × Nat × Nat) := [
  (0, .aload_n 0, 1, 0), (1, .iconst 0, 1, 0), (2, .putfield 1, 3, 512), (5, .iload_n 1, 1, 0), (6, .iconst 0, 1, 0), (7, .iconst 1, 1, 0),
  (8, .invokestatic 151, 3, 101), (11, .ifCond .eq 12, 3, 0), (14, .aload_n 0, 1, 0), (15, .getfield 113, 3, 532), (18, .iload_n 1, 1, 0), (19, .baload, 1, 0),
  (20, .ifCond .ne 5, 3, 0), (23, .iconst 0, 1, 0), (24, .ireturn, 1, 0), (25, .aload_n 0, 1, 0), (26, .getfield 97, 3, 527), (29, .bipush 69, 2, 0),
  (31, .iload_n 1, 1, 0), (32, .imul, 1, 0), (33, .aload_n 0, 1, 0), (34, .getfield 91, 3, 525), (37, .iconst 0, 1, 0), (38, .invokestatic 168, 3, 119),
  (41, .aload_n 0, 1, 0), (42, .iconst 0, 1, 0), (43, .putfield 172, 3, 533), (46, .iconst 1, 1, 0), (47, .ireturn, 1, 0)]
def kd196 : List (Nat × Instr × Nat × Nat) := [
  (0, .aload_n 0, 1, 0), (1, .iconst 0, 1, 0), (2, .putfield 1, 3, 512), (5, .aload_n 0, 1, 0), (6, .iload_n 1, 1, 0), (7, .invokevirtual 243, 3, 130),
  (10, .ifCond .ne 8, 3, 0), (13, .aload_n 0, 1, 0), (14, .invokevirtual 249, 3, 100), (17, .ireturn, 1, 0), (18, .iload_n 2, 1, 0), (19, .tableswitch 140 0 4 #[33, 42, 66, 72, 86], 33, 0),
  (52, .aload_n 0, 1, 0), (53, .getfield 91, 3, 525), (56, .iconst 2, 1, 0), (57, .iload_n 1, 1, 0), (58, .iadd, 1, 0), (59, .iaload, 1, 0),
  (60, .ireturn, 1, 0), (61, .aload_n 0, 1, 0), (62, .iload_n 1, 1, 0), (63, .invokevirtual 184, 3, 132), (66, .ifCond .eq 15, 3, 0), (69, .aload_n 0, 1, 0),
  (70, .getfield 91, 3, 525), (73, .bipush 8, 2, 0), (75, .iload_n 1, 1, 0), (76, .iadd, 1, 0), (77, .iaload, 1, 0), (78, .goto 6, 3, 0),
  (81, .ldc_w 263, 3, 0), (84, .ireturn, 1, 0), (85, .aload_n 0, 1, 0), (86, .iload_n 1, 1, 0), (87, .invokevirtual 207, 3, 140), (90, .ireturn, 1, 0),
  (91, .aload_n 0, 1, 0), (92, .iload_n 1, 1, 0), (93, .invokevirtual 216, 3, 141), (96, .ifCond .eq 7, 3, 0), (99, .iconst 1, 1, 0), (100, .goto 4, 3, 0),
  (103, .iconst 0, 1, 0), (104, .ireturn, 1, 0), (105, .iconst 0, 1, 0), (106, .istore_n 3, 1, 0), (107, .iconst 0, 1, 0), (108, .istore 4, 2, 0),
  (110, .iload 4, 2, 0), (112, .aload_n 0, 1, 0), (113, .invokevirtual 178, 3, 129), (116, .if_icmp .ge 41, 3, 0), (119, .aload_n 0, 1, 0), (120, .iload 4, 2, 0),
  (122, .invokevirtual 181, 3, 133), (125, .ifCond .eq 26, 3, 0), (128, .aload_n 0, 1, 0), (129, .iload 4, 2, 0), (131, .invokevirtual 190, 3, 134), (134, .iload_n 1, 1, 0),
  (135, .if_icmp .eq 13, 3, 0), (138, .aload_n 0, 1, 0), (139, .iload 4, 2, 0), (141, .invokevirtual 193, 3, 135), (144, .iload_n 1, 1, 0), (145, .if_icmp .ne 6, 3, 0),
  (148, .iinc 3 1, 3, 0), (151, .iinc 4 1, 3, 0), (154, .goto (-44), 3, 0), (157, .iload_n 3, 1, 0), (158, .ireturn, 1, 0), (159, .aload_n 0, 1, 0),
  (160, .invokevirtual 249, 3, 100), (163, .ireturn, 1, 0)]
def kd197 : List (Nat × Instr × Nat × Nat) := [
  (0, .aload_n 0, 1, 0), (1, .iconst 0, 1, 0), (2, .putfield 1, 3, 512), (5, .aload_n 0, 1, 0), (6, .iload_n 1, 1, 0), (7, .invokevirtual 266, 3, 131),
  (10, .ifCond .ne 8, 3, 0), (13, .aload_n 0, 1, 0), (14, .invokevirtual 249, 3, 100), (17, .ireturn, 1, 0), (18, .iload_n 2, 1, 0), (19, .tableswitch 114 0 6 #[41, 47, 53, 63, 73, 83, 100], 41, 0),
  (60, .aload_n 0, 1, 0), (61, .iload_n 1, 1, 0), (62, .invokevirtual 190, 3, 134), (65, .ireturn, 1, 0), (66, .aload_n 0, 1, 0), (67, .iload_n 1, 1, 0),
  (68, .invokevirtual 193, 3, 135), (71, .ireturn, 1, 0), (72, .aload_n 0, 1, 0), (73, .getfield 91, 3, 525), (76, .bipush 36, 2, 0), (78, .iload_n 1, 1, 0),
  (79, .iadd, 1, 0), (80, .iaload, 1, 0), (81, .ireturn, 1, 0), (82, .aload_n 0, 1, 0), (83, .getfield 91, 3, 525), (86, .bipush 47, 2, 0),
  (88, .iload_n 1, 1, 0), (89, .iadd, 1, 0), (90, .iaload, 1, 0), (91, .ireturn, 1, 0), (92, .aload_n 0, 1, 0), (93, .getfield 91, 3, 525),
  (96, .bipush 58, 2, 0), (98, .iload_n 1, 1, 0), (99, .iadd, 1, 0), (100, .iaload, 1, 0), (101, .ireturn, 1, 0), (102, .aload_n 0, 1, 0),
  (103, .invokevirtual 275, 3, 142), (106, .iload_n 1, 1, 0), (107, .invokestatic 196, 3, 102), (110, .ifCond .eq 7, 3, 0), (113, .iconst 1, 1, 0), (114, .goto 4, 3, 0),
  (117, .iconst 0, 1, 0), (118, .ireturn, 1, 0), (119, .aload_n 0, 1, 0), (120, .iload_n 1, 1, 0), (121, .invokevirtual 305, 3, 143), (124, .ifCond .eq 7, 3, 0),
  (127, .iconst 1, 1, 0), (128, .goto 4, 3, 0), (131, .iconst 0, 1, 0), (132, .ireturn, 1, 0), (133, .aload_n 0, 1, 0), (134, .invokevirtual 249, 3, 100),
  (137, .ireturn, 1, 0)]
def kd198 : List (Nat × Instr × Nat × Nat) := [
  (0, .aload_n 0, 1, 0), (1, .iconst 0, 1, 0), (2, .putfield 1, 3, 512), (5, .iload_n 1, 1, 0), (6, .tableswitch 145 0 7 #[46, 51, 56, 64, 96, 130, 135, 140], 46, 0), (52, .aload_n 0, 1, 0),
  (53, .invokevirtual 175, 3, 128), (56, .ireturn, 1, 0), (57, .aload_n 0, 1, 0), (58, .invokevirtual 178, 3, 129), (61, .ireturn, 1, 0), (62, .aload_n 0, 1, 0),
  (63, .invokevirtual 204, 3, 136), (66, .invokestatic 278, 3, 103), (69, .ireturn, 1, 0), (70, .iconst 0, 1, 0), (71, .istore_n 2, 1, 0), (72, .iconst 0, 1, 0),
  (73, .istore_n 3, 1, 0), (74, .iload_n 3, 1, 0), (75, .aload_n 0, 1, 0), (76, .invokevirtual 175, 3, 128), (79, .if_icmp .ge 21, 3, 0), (82, .aload_n 0, 1, 0),
  (83, .iload_n 3, 1, 0), (84, .invokevirtual 207, 3, 140), (87, .iload_n 3, 1, 0), (88, .if_icmp .ne 6, 3, 0), (91, .iinc 2 1, 3, 0), (94, .iinc 3 1, 3, 0),
  (97, .goto (-23), 3, 0), (100, .iload_n 2, 1, 0), (101, .ireturn, 1, 0), (102, .iconst 0, 1, 0), (103, .istore_n 2, 1, 0), (104, .iconst 0, 1, 0),
  (105, .istore_n 3, 1, 0), (106, .iload_n 3, 1, 0), (107, .aload_n 0, 1, 0), (108, .invokevirtual 178, 3, 129), (111, .if_icmp .ge 23, 3, 0), (114, .aload_n 0, 1, 0),
  (115, .iload_n 3, 1, 0), (116, .invokevirtual 305, 3, 143), (119, .ifCond .eq 9, 3, 0), (122, .iload_n 2, 1, 0), (123, .iconst 1, 1, 0), (124, .iload_n 3, 1, 0),
  (125, .ishl, 1, 0), (126, .ior, 1, 0), (127, .istore_n 2, 1, 0), (128, .iinc 3 1, 3, 0), (131, .goto (-25), 3, 0), (134, .iload_n 2, 1, 0),
  (135, .ireturn, 1, 0), (136, .aload_n 0, 1, 0), (137, .invokevirtual 275, 3, 142), (140, .ireturn, 1, 0), (141, .aload_n 0, 1, 0), (142, .getfield 172, 3, 533),
  (145, .ireturn, 1, 0), (146, .aload_n 0, 1, 0), (147, .getfield 11, 3, 514), (150, .ireturn, 1, 0), (151, .iconst (-1), 1, 0), (152, .ireturn, 1, 0)]
def kd199 : List (Nat × Instr × Nat × Nat) := [
  (0, .iload_n 0, 1, 0), (1, .iload_n 0, 1, 0), (2, .iconst 1, 1, 0), (3, .iushr, 1, 0), (4, .ldc_w 265, 3, 2), (7, .iand, 1, 0),
  (8, .isub, 1, 0), (9, .istore_n 0, 1, 0), (10, .iload_n 0, 1, 0), (11, .ldc_w 266, 3, 3), (14, .iand, 1, 0), (15, .iload_n 0, 1, 0),
  (16, .iconst 2, 1, 0), (17, .iushr, 1, 0), (18, .ldc_w 266, 3, 3), (21, .iand, 1, 0), (22, .iadd, 1, 0), (23, .istore_n 0, 1, 0),
  (24, .iload_n 0, 1, 0), (25, .iload_n 0, 1, 0), (26, .iconst 4, 1, 0), (27, .iushr, 1, 0), (28, .iadd, 1, 0), (29, .ldc_w 267, 3, 4),
  (32, .iand, 1, 0), (33, .istore_n 0, 1, 0), (34, .iload_n 0, 1, 0), (35, .iload_n 0, 1, 0), (36, .bipush 8, 2, 0), (38, .iushr, 1, 0),
  (39, .iadd, 1, 0), (40, .istore_n 0, 1, 0), (41, .iload_n 0, 1, 0), (42, .iload_n 0, 1, 0), (43, .bipush 16, 2, 0), (45, .iushr, 1, 0),
  (46, .iadd, 1, 0), (47, .istore_n 0, 1, 0), (48, .iload_n 0, 1, 0), (49, .bipush 63, 2, 0), (51, .iand, 1, 0), (52, .ireturn, 1, 0)]
def kd200 : List (Nat × Instr × Nat × Nat) := [
  (0, .lload_n 0, 1, 0), (1, .lload_n 2, 1, 0), (2, .ldiv, 1, 0), (3, .lstore 4, 2, 0), (5, .lload_n 0, 1, 0), (6, .lload_n 2, 1, 0),
  (7, .lxor, 1, 0), (8, .lconst 0, 1, 0), (9, .lcmp, 1, 0), (10, .ifCond .ge 17, 3, 0), (13, .lload 4, 2, 0), (15, .lload_n 2, 1, 0),
  (16, .lmul, 1, 0), (17, .lload_n 0, 1, 0), (18, .lcmp, 1, 0), (19, .ifCond .eq 8, 3, 0), (22, .lload 4, 2, 0), (24, .lconst 1, 1, 0),
  (25, .lsub, 1, 0), (26, .lreturn, 1, 0), (27, .lload 4, 2, 0), (29, .lreturn, 1, 0)]
def kd201 : List (Nat × Instr × Nat × Nat) := [
  (0, .iload_n 0, 1, 0), (1, .ifCond .ge 8, 3, 0), (4, .iload_n 0, 1, 0), (5, .ineg, 1, 0), (6, .goto 4, 3, 0), (9, .iload_n 0, 1, 0),
  (10, .ireturn, 1, 0)]
def kd202 : List (Nat × Instr × Nat × Nat) := [
  (0, .lload_n 0, 1, 0), (1, .lconst 0, 1, 0), (2, .lcmp, 1, 0), (3, .ifCond .ge 8, 3, 0), (6, .lload_n 0, 1, 0), (7, .lneg, 1, 0),
  (8, .goto 4, 3, 0), (11, .lload_n 0, 1, 0), (12, .lreturn, 1, 0)]
def kd203 : List (Nat × Instr × Nat × Nat) := [
  (0, .iload_n 0, 1, 0), (1, .iload_n 1, 1, 0), (2, .if_icmp .lt 7, 3, 0), (5, .iload_n 0, 1, 0), (6, .goto 4, 3, 0), (9, .iload_n 1, 1, 0),
  (10, .ireturn, 1, 0)]
def kd204 : List (Nat × Instr × Nat × Nat) := [
  (0, .iload_n 0, 1, 0), (1, .iload_n 1, 1, 0), (2, .if_icmp .gt 7, 3, 0), (5, .iload_n 0, 1, 0), (6, .goto 4, 3, 0), (9, .iload_n 1, 1, 0),
  (10, .ireturn, 1, 0)]
def kd205 : List (Nat × Instr × Nat × Nat) := [
  ]
def kd206 : List (Nat × Instr × Nat × Nat) := [
  ]
def kd207 : List (Nat × Instr × Nat × Nat) := [
  ]
def kd208 : List (Nat × Instr × Nat × Nat) := [
  ]
def kd209 : List (Nat × Instr × Nat × Nat) := [
  ]
def kd210 : List (Nat × Instr × Nat × Nat) := [
  ]
def kd211 : List (Nat × Instr × Nat × Nat) := [
  ]
def kd212 : List (Nat × Instr × Nat × Nat) := [
  ]
def kd213 : List (Nat × Instr × Nat × Nat) := [
  ]
def kd214 : List (Nat × Instr × Nat × Nat) := [
  (0, .new 8, 3, 1), (3, .dup, 1, 0), (4, .invokespecial 42, 3, 0), (7, .astore_n 1, 1, 0), (8, .new 43, 3, 1), (11, .dup, 1, 0),
  (12, .invokespecial 45, 3, 0), (15, .astore_n 2, 1, 0), (16, .iconst 1, 1, 0), (17, .newarray .long, 2, 0), (19, .astore_n 3, 1, 0), (20, .iconst 0, 1, 0),
  (21, .istore 4, 2, 0), (23, .iload 4, 2, 0), (25, .aload_n 0, 1, 0), (26, .arraylength, 1, 0), (27, .bipush 6, 2, 0), (29, .isub, 1, 0),
  (30, .if_icmp .gt 1441, 3, 0), (33, .aload_n 0, 1, 0), (34, .iload 4, 2, 0), (36, .iaload, 1, 0), (37, .bipush 63, 2, 0), (39, .iand, 1, 0),
  (40, .tableswitch 1425 0 32 #[148, 221, 246, 259, 284, 352, 420, 487, 512, 579, 634, 647, 672, 697, 710, 777, 844, 911, 924, 1003, 1028, 1053, 1078, 1103, 1140, 1177, 1238, 1275, 1300, 1337, 1350, 1375, 1400], 148, 0), (188, .aload_n 1, 1, 0), (189, .aload_n 0, 1, 0), (190, .iload 4, 2, 0), (192, .iconst 1, 1, 0), (193, .iadd, 1, 0),
  (194, .iaload, 1, 0), (195, .aload_n 0, 1, 0), (196, .iload 4, 2, 0), (198, .iconst 2, 1, 0), (199, .iadd, 1, 0), (200, .iaload, 1, 0),
  (201, .aload_n 0, 1, 0), (202, .iload 4, 2, 0), (204, .iconst 3, 1, 0), (205, .iadd, 1, 0), (206, .iaload, 1, 0), (207, .aload_n 0, 1, 0),
  (208, .iload 4, 2, 0), (210, .iconst 4, 1, 0), (211, .iadd, 1, 0), (212, .iaload, 1, 0), (213, .aload_n 0, 1, 0), (214, .iload 4, 2, 0),
  (216, .iconst 5, 1, 0), (217, .iadd, 1, 0), (218, .iaload, 1, 0), (219, .invokevirtual 46, 3, 54), (222, .aload_n 2, 1, 0), (223, .aload_n 0, 1, 0),
  (224, .iload 4, 2, 0), (226, .iconst 1, 1, 0), (227, .iadd, 1, 0), (228, .iaload, 1, 0), (229, .aload_n 0, 1, 0), (230, .iload 4, 2, 0),
  (232, .iconst 2, 1, 0), (233, .iadd, 1, 0), (234, .iaload, 1, 0), (235, .aload_n 0, 1, 0), (236, .iload 4, 2, 0), (238, .iconst 3, 1, 0),
  (239, .iadd, 1, 0), (240, .iaload, 1, 0), (241, .aload_n 0, 1, 0), (242, .iload 4, 2, 0), (244, .iconst 4, 1, 0), (245, .iadd, 1, 0),
  (246, .iaload, 1, 0), (247, .aload_n 0, 1, 0), (248, .iload 4, 2, 0), (250, .iconst 5, 1, 0), (251, .iadd, 1, 0), (252, .iaload, 1, 0),
  (253, .invokevirtual 50, 3, 105), (256, .if_icmp .eq 1209, 3, 0), (259, .iconst 0, 1, 0), (260, .ireturn, 1, 0), (261, .aload_n 1, 1, 0), (262, .aload_n 0, 1, 0),
  (263, .iload 4, 2, 0), (265, .iconst 1, 1, 0), (266, .iadd, 1, 0), (267, .iaload, 1, 0), (268, .invokevirtual 51, 3, 55), (271, .aload_n 2, 1, 0),
  (272, .aload_n 0, 1, 0), (273, .iload 4, 2, 0), (275, .iconst 1, 1, 0), (276, .iadd, 1, 0), (277, .iaload, 1, 0), (278, .invokevirtual 55, 3, 106),
  (281, .if_icmp .eq 1184, 3, 0), (284, .iconst 0, 1, 0), (285, .ireturn, 1, 0), (286, .aload_n 1, 1, 0), (287, .invokevirtual 56, 3, 56), (290, .aload_n 2, 1, 0),
  (291, .invokevirtual 60, 3, 126), (294, .if_icmp .eq 1171, 3, 0), (297, .iconst 0, 1, 0), (298, .ireturn, 1, 0), (299, .aload_n 1, 1, 0), (300, .aload_n 0, 1, 0),
  (301, .iload 4, 2, 0), (303, .iconst 1, 1, 0), (304, .iadd, 1, 0), (305, .iaload, 1, 0), (306, .invokevirtual 61, 3, 57), (309, .aload_n 2, 1, 0),
  (310, .aload_n 0, 1, 0), (311, .iload 4, 2, 0), (313, .iconst 1, 1, 0), (314, .iadd, 1, 0), (315, .iaload, 1, 0), (316, .invokevirtual 65, 3, 127),
  (319, .if_icmp .eq 1146, 3, 0), (322, .iconst 0, 1, 0), (323, .ireturn, 1, 0), (324, .aload_n 1, 1, 0), (325, .aload_n 0, 1, 0), (326, .iload 4, 2, 0),
  (328, .iconst 1, 1, 0), (329, .iadd, 1, 0), (330, .iaload, 1, 0), (331, .aload_n 0, 1, 0), (332, .iload 4, 2, 0), (334, .iconst 2, 1, 0),
  (335, .iadd, 1, 0), (336, .iaload, 1, 0), (337, .aload_n 3, 1, 0), (338, .invokestatic 66, 3, 205), (341, .istore 5, 2, 0), (343, .aload_n 2, 1, 0),
  (344, .aload_n 0, 1, 0), (345, .iload 4, 2, 0), (347, .iconst 1, 1, 0), (348, .iadd, 1, 0), (349, .iaload, 1, 0), (350, .aload_n 0, 1, 0),
  (351, .iload 4, 2, 0), (353, .iconst 2, 1, 0), (354, .iadd, 1, 0), (355, .iaload, 1, 0), (356, .invokevirtual 71, 3, 196), (359, .istore 6, 2, 0),
  (361, .aload_n 2, 1, 0), (362, .invokevirtual 72, 3, 99), (365, .iload 5, 2, 0), (367, .if_icmp .eq 5, 3, 0), (370, .iconst 0, 1, 0), (371, .ireturn, 1, 0),
  (372, .iload 5, 2, 0), (374, .ifCond .ne 15, 3, 0), (377, .aload_n 3, 1, 0), (378, .iconst 0, 1, 0), (379, .laload, 1, 0), (380, .iload 6, 2, 0),
  (382, .i2l, 1, 0), (383, .lcmp, 1, 0), (384, .ifCond .eq 5, 3, 0), (387, .iconst 0, 1, 0), (388, .ireturn, 1, 0), (389, .goto 1076, 3, 0),
  (392, .aload_n 1, 1, 0), (393, .aload_n 0, 1, 0), (394, .iload 4, 2, 0), (396, .iconst 1, 1, 0), (397, .iadd, 1, 0), (398, .iaload, 1, 0),
  (399, .aload_n 0, 1, 0), (400, .iload 4, 2, 0), (402, .iconst 2, 1, 0), (403, .iadd, 1, 0), (404, .iaload, 1, 0), (405, .aload_n 3, 1, 0),
  (406, .invokestatic 75, 3, 206), (409, .istore 5, 2, 0), (411, .aload_n 2, 1, 0), (412, .aload_n 0, 1, 0), (413, .iload 4, 2, 0), (415, .iconst 1, 1, 0),
  (416, .iadd, 1, 0), (417, .iaload, 1, 0), (418, .aload_n 0, 1, 0), (419, .iload 4, 2, 0), (421, .iconst 2, 1, 0), (422, .iadd, 1, 0),
  (423, .iaload, 1, 0), (424, .invokevirtual 77, 3, 197), (427, .istore 6, 2, 0), (429, .aload_n 2, 1, 0), (430, .invokevirtual 72, 3, 99), (433, .iload 5, 2, 0),
  (435, .if_icmp .eq 5, 3, 0), (438, .iconst 0, 1, 0), (439, .ireturn, 1, 0), (440, .iload 5, 2, 0), (442, .ifCond .ne 15, 3, 0), (445, .aload_n 3, 1, 0),
  (446, .iconst 0, 1, 0), (447, .laload, 1, 0), (448, .iload 6, 2, 0), (450, .i2l, 1, 0), (451, .lcmp, 1, 0), (452, .ifCond .eq 5, 3, 0),
  (455, .iconst 0, 1, 0), (456, .ireturn, 1, 0), (457, .goto 1008, 3, 0), (460, .aload_n 1, 1, 0), (461, .aload_n 0, 1, 0), (462, .iload 4, 2, 0),
  (464, .iconst 1, 1, 0), (465, .iadd, 1, 0), (466, .iaload, 1, 0), (467, .aload_n 0, 1, 0), (468, .iload 4, 2, 0), (470, .iconst 2, 1, 0),
  (471, .iadd, 1, 0), (472, .iaload, 1, 0), (473, .aload_n 3, 1, 0), (474, .invokestatic 78, 3, 207), (477, .istore 5, 2, 0), (479, .aload_n 2, 1, 0),
  (480, .aload_n 0, 1, 0), (481, .iload 4, 2, 0), (483, .iconst 1, 1, 0), (484, .iadd, 1, 0), (485, .iaload, 1, 0), (486, .aload_n 0, 1, 0),
  (487, .iload 4, 2, 0), (489, .iconst 2, 1, 0), (490, .iadd, 1, 0), (491, .iaload, 1, 0), (492, .invokevirtual 80, 3, 154), (495, .lstore 6, 2, 0),
  (497, .aload_n 2, 1, 0), (498, .invokevirtual 72, 3, 99), (501, .iload 5, 2, 0), (503, .if_icmp .eq 5, 3, 0), (506, .iconst 0, 1, 0), (507, .ireturn, 1, 0),
  (508, .iload 5, 2, 0), (510, .ifCond .ne 14, 3, 0), (513, .aload_n 3, 1, 0), (514, .iconst 0, 1, 0), (515, .laload, 1, 0), (516, .lload 6, 2, 0),
  (518, .lcmp, 1, 0), (519, .ifCond .eq 5, 3, 0), (522, .iconst 0, 1, 0), (523, .ireturn, 1, 0), (524, .goto 941, 3, 0), (527, .aload_n 1, 1, 0),
  (528, .aload_n 0, 1, 0), (529, .iload 4, 2, 0), (531, .iconst 1, 1, 0), (532, .iadd, 1, 0), (533, .iaload, 1, 0), (534, .invokevirtual 81, 3, 61),
  (537, .aload_n 2, 1, 0), (538, .aload_n 0, 1, 0), (539, .iload 4, 2, 0), (541, .iconst 1, 1, 0), (542, .iadd, 1, 0), (543, .iaload, 1, 0),
  (544, .invokevirtual 84, 3, 155), (547, .if_icmp .eq 918, 3, 0), (550, .iconst 0, 1, 0), (551, .ireturn, 1, 0), (552, .aload_n 1, 1, 0), (553, .aload_n 0, 1, 0),
  (554, .iload 4, 2, 0), (556, .iconst 1, 1, 0), (557, .iadd, 1, 0), (558, .iaload, 1, 0), (559, .aload_n 0, 1, 0), (560, .iload 4, 2, 0),
  (562, .iconst 2, 1, 0), (563, .iadd, 1, 0), (564, .iaload, 1, 0), (565, .aload_n 3, 1, 0), (566, .invokestatic 85, 3, 208), (569, .istore 5, 2, 0),
  (571, .aload_n 2, 1, 0), (572, .aload_n 0, 1, 0), (573, .iload 4, 2, 0), (575, .iconst 1, 1, 0), (576, .iadd, 1, 0), (577, .iaload, 1, 0),
  (578, .aload_n 0, 1, 0), (579, .iload 4, 2, 0), (581, .iconst 2, 1, 0), (582, .iadd, 1, 0), (583, .iaload, 1, 0), (584, .invokevirtual 87, 3, 157),
  (587, .lstore 6, 2, 0), (589, .aload_n 2, 1, 0), (590, .invokevirtual 72, 3, 99), (593, .iload 5, 2, 0), (595, .if_icmp .eq 5, 3, 0), (598, .iconst 0, 1, 0),
  (599, .ireturn, 1, 0), (600, .iload 5, 2, 0), (602, .ifCond .ne 14, 3, 0), (605, .aload_n 3, 1, 0), (606, .iconst 0, 1, 0), (607, .laload, 1, 0),
  (608, .lload 6, 2, 0), (610, .lcmp, 1, 0), (611, .ifCond .eq 5, 3, 0), (614, .iconst 0, 1, 0), (615, .ireturn, 1, 0), (616, .goto 849, 3, 0),
  (619, .aload_n 1, 1, 0), (620, .aload_n 0, 1, 0), (621, .iload 4, 2, 0), (623, .iconst 1, 1, 0), (624, .iadd, 1, 0), (625, .iaload, 1, 0),
  (626, .aload_n 3, 1, 0), (627, .invokestatic 88, 3, 209), (630, .istore 5, 2, 0), (632, .aload_n 2, 1, 0), (633, .aload_n 0, 1, 0), (634, .iload 4, 2, 0),
  (636, .iconst 1, 1, 0), (637, .iadd, 1, 0), (638, .iaload, 1, 0), (639, .invokevirtual 91, 3, 159), (642, .lstore 6, 2, 0), (644, .aload_n 2, 1, 0),
  (645, .invokevirtual 72, 3, 99), (648, .iload 5, 2, 0), (650, .if_icmp .eq 5, 3, 0), (653, .iconst 0, 1, 0), (654, .ireturn, 1, 0), (655, .iload 5, 2, 0),
  (657, .ifCond .ne 14, 3, 0), (660, .aload_n 3, 1, 0), (661, .iconst 0, 1, 0), (662, .laload, 1, 0), (663, .lload 6, 2, 0), (665, .lcmp, 1, 0),
  (666, .ifCond .eq 5, 3, 0), (669, .iconst 0, 1, 0), (670, .ireturn, 1, 0), (671, .goto 794, 3, 0), (674, .aload_n 1, 1, 0), (675, .invokevirtual 92, 3, 64),
  (678, .aload_n 2, 1, 0), (679, .invokevirtual 95, 3, 161), (682, .if_icmp .eq 783, 3, 0), (685, .iconst 0, 1, 0), (686, .ireturn, 1, 0), (687, .aload_n 1, 1, 0),
  (688, .aload_n 0, 1, 0), (689, .iload 4, 2, 0), (691, .iconst 1, 1, 0), (692, .iadd, 1, 0), (693, .iaload, 1, 0), (694, .invokevirtual 96, 3, 65),
  (697, .aload_n 2, 1, 0), (698, .aload_n 0, 1, 0), (699, .iload 4, 2, 0), (701, .iconst 1, 1, 0), (702, .iadd, 1, 0), (703, .iaload, 1, 0),
  (704, .invokevirtual 99, 3, 162), (707, .if_icmp .eq 758, 3, 0), (710, .iconst 0, 1, 0), (711, .ireturn, 1, 0), (712, .aload_n 1, 1, 0), (713, .aload_n 0, 1, 0),
  (714, .iload 4, 2, 0), (716, .iconst 1, 1, 0), (717, .iadd, 1, 0), (718, .iaload, 1, 0), (719, .invokevirtual 100, 3, 66), (722, .aload_n 2, 1, 0),
  (723, .aload_n 0, 1, 0), (724, .iload 4, 2, 0), (726, .iconst 1, 1, 0), (727, .iadd, 1, 0), (728, .iaload, 1, 0), (729, .invokevirtual 103, 3, 165),
  (732, .if_icmp .eq 733, 3, 0), (735, .iconst 0, 1, 0), (736, .ireturn, 1, 0), (737, .aload_n 1, 1, 0), (738, .invokevirtual 104, 3, 67), (741, .aload_n 2, 1, 0),
  (742, .invokevirtual 107, 3, 167), (745, .if_icmp .eq 720, 3, 0), (748, .iconst 0, 1, 0), (749, .ireturn, 1, 0), (750, .aload_n 1, 1, 0), (751, .aload_n 0, 1, 0),
  (752, .iload 4, 2, 0), (754, .iconst 1, 1, 0), (755, .iadd, 1, 0), (756, .iaload, 1, 0), (757, .aload_n 0, 1, 0), (758, .iload 4, 2, 0),
  (760, .iconst 2, 1, 0), (761, .iadd, 1, 0), (762, .iaload, 1, 0), (763, .aload_n 3, 1, 0), (764, .invokestatic 108, 3, 210), (767, .istore 5, 2, 0),
  (769, .aload_n 2, 1, 0), (770, .aload_n 0, 1, 0), (771, .iload 4, 2, 0), (773, .iconst 1, 1, 0), (774, .iadd, 1, 0), (775, .iaload, 1, 0),
  (776, .aload_n 0, 1, 0), (777, .iload 4, 2, 0), (779, .iconst 2, 1, 0), (780, .iadd, 1, 0), (781, .iaload, 1, 0), (782, .invokevirtual 110, 3, 171),
  (785, .lstore 6, 2, 0), (787, .aload_n 2, 1, 0), (788, .invokevirtual 72, 3, 99), (791, .iload 5, 2, 0), (793, .if_icmp .eq 5, 3, 0), (796, .iconst 0, 1, 0),
  (797, .ireturn, 1, 0), (798, .iload 5, 2, 0), (800, .ifCond .ne 14, 3, 0), (803, .aload_n 3, 1, 0), (804, .iconst 0, 1, 0), (805, .laload, 1, 0),
  (806, .lload 6, 2, 0), (808, .lcmp, 1, 0), (809, .ifCond .eq 5, 3, 0), (812, .iconst 0, 1, 0), (813, .ireturn, 1, 0), (814, .goto 651, 3, 0),
  (817, .aload_n 1, 1, 0), (818, .aload_n 0, 1, 0), (819, .iload 4, 2, 0), (821, .iconst 1, 1, 0), (822, .iadd, 1, 0), (823, .iaload, 1, 0),
  (824, .aload_n 0, 1, 0), (825, .iload 4, 2, 0), (827, .iconst 2, 1, 0), (828, .iadd, 1, 0), (829, .iaload, 1, 0), (830, .aload_n 3, 1, 0),
  (831, .invokestatic 111, 3, 211), (834, .istore 5, 2, 0), (836, .aload_n 2, 1, 0), (837, .aload_n 0, 1, 0), (838, .iload 4, 2, 0), (840, .iconst 1, 1, 0),
  (841, .iadd, 1, 0), (842, .iaload, 1, 0), (843, .aload_n 0, 1, 0), (844, .iload 4, 2, 0), (846, .iconst 2, 1, 0), (847, .iadd, 1, 0),
  (848, .iaload, 1, 0), (849, .invokevirtual 113, 3, 175), (852, .lstore 6, 2, 0), (854, .aload_n 2, 1, 0), (855, .invokevirtual 72, 3, 99), (858, .iload 5, 2, 0),
  (860, .if_icmp .eq 5, 3, 0), (863, .iconst 0, 1, 0), (864, .ireturn, 1, 0), (865, .iload 5, 2, 0), (867, .ifCond .ne 14, 3, 0), (870, .aload_n 3, 1, 0),
  (871, .iconst 0, 1, 0), (872, .laload, 1, 0), (873, .lload 6, 2, 0), (875, .lcmp, 1, 0), (876, .ifCond .eq 5, 3, 0), (879, .iconst 0, 1, 0),
  (880, .ireturn, 1, 0), (881, .goto 584, 3, 0), (884, .aload_n 1, 1, 0), (885, .aload_n 0, 1, 0), (886, .iload 4, 2, 0), (888, .iconst 1, 1, 0),
  (889, .iadd, 1, 0), (890, .iaload, 1, 0), (891, .aload_n 0, 1, 0), (892, .iload 4, 2, 0), (894, .iconst 2, 1, 0), (895, .iadd, 1, 0),
  (896, .iaload, 1, 0), (897, .aload_n 3, 1, 0), (898, .invokestatic 114, 3, 212), (901, .istore 5, 2, 0), (903, .aload_n 2, 1, 0), (904, .aload_n 0, 1, 0),
  (905, .iload 4, 2, 0), (907, .iconst 1, 1, 0), (908, .iadd, 1, 0), (909, .iaload, 1, 0), (910, .aload_n 0, 1, 0), (911, .iload 4, 2, 0),
  (913, .iconst 2, 1, 0), (914, .iadd, 1, 0), (915, .iaload, 1, 0), (916, .invokevirtual 116, 3, 173), (919, .lstore 6, 2, 0), (921, .aload_n 2, 1, 0),
  (922, .invokevirtual 72, 3, 99), (925, .iload 5, 2, 0), (927, .if_icmp .eq 5, 3, 0), (930, .iconst 0, 1, 0), (931, .ireturn, 1, 0), (932, .iload 5, 2, 0),
  (934, .ifCond .ne 14, 3, 0), (937, .aload_n 3, 1, 0), (938, .iconst 0, 1, 0), (939, .laload, 1, 0), (940, .lload 6, 2, 0), (942, .lcmp, 1, 0),
  (943, .ifCond .eq 5, 3, 0), (946, .iconst 0, 1, 0), (947, .ireturn, 1, 0), (948, .goto 517, 3, 0), (951, .aload_n 1, 1, 0), (952, .invokevirtual 117, 3, 71),
  (955, .aload_n 2, 1, 0), (956, .invokevirtual 120, 3, 178), (959, .if_icmp .eq 506, 3, 0), (962, .iconst 0, 1, 0), (963, .ireturn, 1, 0), (964, .aload_n 1, 1, 0),
  (965, .aload_n 0, 1, 0), (966, .iload 4, 2, 0), (968, .iconst 1, 1, 0), (969, .iadd, 1, 0), (970, .iaload, 1, 0), (971, .aload_n 0, 1, 0),
  (972, .iload 4, 2, 0), (974, .iconst 2, 1, 0), (975, .iadd, 1, 0), (976, .iaload, 1, 0), (977, .aload_n 0, 1, 0), (978, .iload 4, 2, 0),
  (980, .iconst 3, 1, 0), (981, .iadd, 1, 0), (982, .iaload, 1, 0), (983, .aload_n 3, 1, 0), (984, .invokestatic 121, 3, 213), (987, .istore 5, 2, 0),
  (989, .aload_n 2, 1, 0), (990, .aload_n 0, 1, 0), (991, .iload 4, 2, 0), (993, .iconst 1, 1, 0), (994, .iadd, 1, 0), (995, .iaload, 1, 0),
  (996, .aload_n 0, 1, 0), (997, .iload 4, 2, 0), (999, .iconst 2, 1, 0), (1000, .iadd, 1, 0), (1001, .iaload, 1, 0), (1002, .aload_n 0, 1, 0),
  (1003, .iload 4, 2, 0), (1005, .iconst 3, 1, 0), (1006, .iadd, 1, 0), (1007, .iaload, 1, 0), (1008, .invokevirtual 124, 3, 169), (1011, .lstore 6, 2, 0),
  (1013, .aload_n 2, 1, 0), (1014, .invokevirtual 72, 3, 99), (1017, .iload 5, 2, 0), (1019, .if_icmp .eq 5, 3, 0), (1022, .iconst 0, 1, 0), (1023, .ireturn, 1, 0),
  (1024, .iload 5, 2, 0), (1026, .ifCond .ne 14, 3, 0), (1029, .aload_n 3, 1, 0), (1030, .iconst 0, 1, 0), (1031, .laload, 1, 0), (1032, .lload 6, 2, 0),
  (1034, .lcmp, 1, 0), (1035, .ifCond .eq 5, 3, 0), (1038, .iconst 0, 1, 0), (1039, .ireturn, 1, 0), (1040, .goto 425, 3, 0), (1043, .aload_n 1, 1, 0),
  (1044, .aload_n 0, 1, 0), (1045, .iload 4, 2, 0), (1047, .iconst 1, 1, 0), (1048, .iadd, 1, 0), (1049, .iaload, 1, 0), (1050, .invokevirtual 125, 3, 73),
  (1053, .aload_n 2, 1, 0), (1054, .aload_n 0, 1, 0), (1055, .iload 4, 2, 0), (1057, .iconst 1, 1, 0), (1058, .iadd, 1, 0), (1059, .iaload, 1, 0),
  (1060, .invokevirtual 128, 3, 170), (1063, .if_icmp .eq 402, 3, 0), (1066, .iconst 0, 1, 0), (1067, .ireturn, 1, 0), (1068, .aload_n 1, 1, 0), (1069, .aload_n 0, 1, 0),
  (1070, .iload 4, 2, 0), (1072, .iconst 1, 1, 0), (1073, .iadd, 1, 0), (1074, .iaload, 1, 0), (1075, .invokevirtual 129, 3, 74), (1078, .aload_n 2, 1, 0),
  (1079, .aload_n 0, 1, 0), (1080, .iload 4, 2, 0), (1082, .iconst 1, 1, 0), (1083, .iadd, 1, 0), (1084, .iaload, 1, 0), (1085, .invokevirtual 132, 3, 182),
  (1088, .if_icmp .eq 377, 3, 0), (1091, .iconst 0, 1, 0), (1092, .ireturn, 1, 0), (1093, .aload_n 1, 1, 0), (1094, .aload_n 0, 1, 0), (1095, .iload 4, 2, 0),
  (1097, .iconst 1, 1, 0), (1098, .iadd, 1, 0), (1099, .iaload, 1, 0), (1100, .invokevirtual 133, 3, 75), (1103, .aload_n 2, 1, 0), (1104, .aload_n 0, 1, 0),
  (1105, .iload 4, 2, 0), (1107, .iconst 1, 1, 0), (1108, .iadd, 1, 0), (1109, .iaload, 1, 0), (1110, .invokevirtual 136, 3, 183), (1113, .if_icmp .eq 352, 3, 0),
  (1116, .iconst 0, 1, 0), (1117, .ireturn, 1, 0), (1118, .aload_n 1, 1, 0), (1119, .aload_n 0, 1, 0), (1120, .iload 4, 2, 0), (1122, .iconst 1, 1, 0),
  (1123, .iadd, 1, 0), (1124, .iaload, 1, 0), (1125, .invokevirtual 137, 3, 76), (1128, .aload_n 2, 1, 0), (1129, .aload_n 0, 1, 0), (1130, .iload 4, 2, 0),
  (1132, .iconst 1, 1, 0), (1133, .iadd, 1, 0), (1134, .iaload, 1, 0), (1135, .invokevirtual 140, 3, 189), (1138, .if_icmp .eq 327, 3, 0), (1141, .iconst 0, 1, 0),
  (1142, .ireturn, 1, 0), (1143, .aload_n 1, 1, 0), (1144, .aload_n 0, 1, 0), (1145, .iload 4, 2, 0), (1147, .iconst 1, 1, 0), (1148, .iadd, 1, 0),
  (1149, .iaload, 1, 0), (1150, .aload_n 0, 1, 0), (1151, .iload 4, 2, 0), (1153, .iconst 2, 1, 0), (1154, .iadd, 1, 0), (1155, .iaload, 1, 0),
  (1156, .invokevirtual 141, 3, 77), (1159, .aload_n 2, 1, 0), (1160, .aload_n 0, 1, 0), (1161, .iload 4, 2, 0), (1163, .iconst 1, 1, 0), (1164, .iadd, 1, 0),
  (1165, .iaload, 1, 0), (1166, .aload_n 0, 1, 0), (1167, .iload 4, 2, 0), (1169, .iconst 2, 1, 0), (1170, .iadd, 1, 0), (1171, .iaload, 1, 0),
  (1172, .invokevirtual 144, 3, 184), (1175, .if_icmp .eq 290, 3, 0), (1178, .iconst 0, 1, 0), (1179, .ireturn, 1, 0), (1180, .aload_n 1, 1, 0), (1181, .aload_n 0, 1, 0),
  (1182, .iload 4, 2, 0), (1184, .iconst 1, 1, 0), (1185, .iadd, 1, 0), (1186, .iaload, 1, 0), (1187, .aload_n 0, 1, 0), (1188, .iload 4, 2, 0),
  (1190, .iconst 2, 1, 0), (1191, .iadd, 1, 0), (1192, .iaload, 1, 0), (1193, .invokevirtual 145, 3, 78), (1196, .aload_n 2, 1, 0), (1197, .aload_n 0, 1, 0),
  (1198, .iload 4, 2, 0), (1200, .iconst 1, 1, 0), (1201, .iadd, 1, 0), (1202, .iaload, 1, 0), (1203, .aload_n 0, 1, 0), (1204, .iload 4, 2, 0),
  (1206, .iconst 2, 1, 0), (1207, .iadd, 1, 0), (1208, .iaload, 1, 0), (1209, .invokevirtual 148, 3, 185), (1212, .if_icmp .eq 253, 3, 0), (1215, .iconst 0, 1, 0),
  (1216, .ireturn, 1, 0), (1217, .aload_n 1, 1, 0), (1218, .aload_n 0, 1, 0), (1219, .iload 4, 2, 0), (1221, .iconst 1, 1, 0), (1222, .iadd, 1, 0),
  (1223, .iaload, 1, 0), (1224, .aload_n 0, 1, 0), (1225, .iload 4, 2, 0), (1227, .iconst 2, 1, 0), (1228, .iadd, 1, 0), (1229, .iaload, 1, 0),
  (1230, .aload_n 0, 1, 0), (1231, .iload 4, 2, 0), (1233, .iconst 3, 1, 0), (1234, .iadd, 1, 0), (1235, .iaload, 1, 0), (1236, .aload_n 0, 1, 0),
  (1237, .iload 4, 2, 0), (1239, .iconst 4, 1, 0), (1240, .iadd, 1, 0), (1241, .iaload, 1, 0), (1242, .invokevirtual 149, 3, 79), (1245, .aload_n 2, 1, 0),
  (1246, .aload_n 0, 1, 0), (1247, .iload 4, 2, 0), (1249, .iconst 1, 1, 0), (1250, .iadd, 1, 0), (1251, .iaload, 1, 0), (1252, .aload_n 0, 1, 0),
  (1253, .iload 4, 2, 0), (1255, .iconst 2, 1, 0), (1256, .iadd, 1, 0), (1257, .iaload, 1, 0), (1258, .aload_n 0, 1, 0), (1259, .iload 4, 2, 0),
  (1261, .iconst 3, 1, 0), (1262, .iadd, 1, 0), (1263, .iaload, 1, 0), (1264, .aload_n 0, 1, 0), (1265, .iload 4, 2, 0), (1267, .iconst 4, 1, 0),
  (1268, .iadd, 1, 0), (1269, .iaload, 1, 0), (1270, .invokevirtual 153, 3, 188), (1273, .if_icmp .eq 192, 3, 0), (1276, .iconst 0, 1, 0), (1277, .ireturn, 1, 0),
  (1278, .aload_n 1, 1, 0), (1279, .aload_n 0, 1, 0), (1280, .iload 4, 2, 0), (1282, .iconst 1, 1, 0), (1283, .iadd, 1, 0), (1284, .iaload, 1, 0),
  (1285, .aload_n 0, 1, 0), (1286, .iload 4, 2, 0), (1288, .iconst 2, 1, 0), (1289, .iadd, 1, 0), (1290, .iaload, 1, 0), (1291, .invokevirtual 154, 3, 80),
  (1294, .aload_n 2, 1, 0), (1295, .aload_n 0, 1, 0), (1296, .iload 4, 2, 0), (1298, .iconst 1, 1, 0), (1299, .iadd, 1, 0), (1300, .iaload, 1, 0),
  (1301, .aload_n 0, 1, 0), (1302, .iload 4, 2, 0), (1304, .iconst 2, 1, 0), (1305, .iadd, 1, 0), (1306, .iaload, 1, 0), (1307, .invokevirtual 157, 3, 187),
  (1310, .if_icmp .eq 155, 3, 0), (1313, .iconst 0, 1, 0), (1314, .ireturn, 1, 0), (1315, .aload_n 1, 1, 0), (1316, .aload_n 0, 1, 0), (1317, .iload 4, 2, 0),
  (1319, .iconst 1, 1, 0), (1320, .iadd, 1, 0), (1321, .iaload, 1, 0), (1322, .invokevirtual 158, 3, 81), (1325, .aload_n 2, 1, 0), (1326, .aload_n 0, 1, 0),
  (1327, .iload 4, 2, 0), (1329, .iconst 1, 1, 0), (1330, .iadd, 1, 0), (1331, .iaload, 1, 0), (1332, .invokevirtual 161, 3, 186), (1335, .if_icmp .eq 130, 3, 0),
  (1338, .iconst 0, 1, 0), (1339, .ireturn, 1, 0), (1340, .aload_n 1, 1, 0), (1341, .aload_n 0, 1, 0), (1342, .iload 4, 2, 0), (1344, .iconst 1, 1, 0),
  (1345, .iadd, 1, 0), (1346, .iaload, 1, 0), (1347, .aload_n 0, 1, 0), (1348, .iload 4, 2, 0), (1350, .iconst 2, 1, 0), (1351, .iadd, 1, 0),
  (1352, .iaload, 1, 0), (1353, .invokevirtual 162, 3, 82), (1356, .aload_n 2, 1, 0), (1357, .aload_n 0, 1, 0), (1358, .iload 4, 2, 0), (1360, .iconst 1, 1, 0),
  (1361, .iadd, 1, 0), (1362, .iaload, 1, 0), (1363, .aload_n 0, 1, 0), (1364, .iload 4, 2, 0), (1366, .iconst 2, 1, 0), (1367, .iadd, 1, 0),
  (1368, .iaload, 1, 0), (1369, .invokevirtual 165, 3, 192), (1372, .if_icmp .eq 93, 3, 0), (1375, .iconst 0, 1, 0), (1376, .ireturn, 1, 0), (1377, .aload_n 1, 1, 0),
  (1378, .invokevirtual 166, 3, 83), (1381, .aload_n 2, 1, 0), (1382, .invokevirtual 169, 3, 193), (1385, .if_icmp .eq 80, 3, 0), (1388, .iconst 0, 1, 0), (1389, .ireturn, 1, 0),
  (1390, .aload_n 1, 1, 0), (1391, .aload_n 0, 1, 0), (1392, .iload 4, 2, 0), (1394, .iconst 1, 1, 0), (1395, .iadd, 1, 0), (1396, .iaload, 1, 0),
  (1397, .invokevirtual 170, 3, 84), (1400, .aload_n 2, 1, 0), (1401, .aload_n 0, 1, 0), (1402, .iload 4, 2, 0), (1404, .iconst 1, 1, 0), (1405, .iadd, 1, 0),
  (1406, .iaload, 1, 0), (1407, .invokevirtual 173, 3, 194), (1410, .if_icmp .eq 55, 3, 0), (1413, .iconst 0, 1, 0), (1414, .ireturn, 1, 0), (1415, .aload_n 1, 1, 0),
  (1416, .aload_n 0, 1, 0), (1417, .iload 4, 2, 0), (1419, .iconst 1, 1, 0), (1420, .iadd, 1, 0), (1421, .iaload, 1, 0), (1422, .invokevirtual 174, 3, 85),
  (1425, .aload_n 2, 1, 0), (1426, .aload_n 0, 1, 0), (1427, .iload 4, 2, 0), (1429, .iconst 1, 1, 0), (1430, .iadd, 1, 0), (1431, .iaload, 1, 0),
  (1432, .invokevirtual 177, 3, 195), (1435, .if_icmp .eq 30, 3, 0), (1438, .iconst 0, 1, 0), (1439, .ireturn, 1, 0), (1440, .aload_n 1, 1, 0), (1441, .aload_n 0, 1, 0),
  (1442, .iload 4, 2, 0), (1444, .iconst 1, 1, 0), (1445, .iadd, 1, 0), (1446, .iaload, 1, 0), (1447, .invokevirtual 178, 3, 86), (1450, .aload_n 2, 1, 0),
  (1451, .aload_n 0, 1, 0), (1452, .iload 4, 2, 0), (1454, .iconst 1, 1, 0), (1455, .iadd, 1, 0), (1456, .iaload, 1, 0), (1457, .invokevirtual 181, 3, 198),
  (1460, .if_icmp .eq 5, 3, 0), (1463, .iconst 0, 1, 0), (1464, .ireturn, 1, 0), (1465, .iinc 4 6, 3, 0), (1468, .goto (-1445), 3, 0), (1471, .iconst 1, 1, 0),
  (1472, .ireturn, 1, 0)]
def mCdL : List (List (Nat × Instr × Nat × Nat)) := [
  kd0, kd1, kd2, kd3, kd4, kd5, kd6, kd7, kd8, kd9, kd10, kd11, kd12, kd13, kd14,
  kd15, kd16, kd17, kd18, kd19, kd20, kd21, kd22, kd23, kd24, kd25, kd26, kd27, kd28, kd29,
  kd30, kd31, kd32, kd33, kd34, kd35, kd36, kd37, kd38, kd39, kd40, kd41, kd42, kd43, kd44,
  kd45, kd46, kd47, kd48, kd49, kd50, kd51, kd52, kd53, kd54, kd55, kd56, kd57, kd58, kd59,
  kd60, kd61, kd62, kd63, kd64, kd65, kd66, kd67, kd68, kd69, kd70, kd71, kd72, kd73, kd74,
  kd75, kd76, kd77, kd78, kd79, kd80, kd81, kd82, kd83, kd84, kd85, kd86, kd87, kd88, kd89,
  kd90, kd91, kd92, kd93, kd94, kd95, kd96, kd97, kd98, kd99, kd100, kd101, kd102, kd103, kd104,
  kd105, kd106, kd107, kd108, kd109, kd110, kd111, kd112, kd113, kd114, kd115, kd116, kd117, kd118, kd119,
  kd120, kd121, kd122, kd123, kd124, kd125, kd126, kd127, kd128, kd129, kd130, kd131, kd132, kd133, kd134,
  kd135, kd136, kd137, kd138, kd139, kd140, kd141, kd142, kd143, kd144, kd145, kd146, kd147, kd148, kd149,
  kd150, kd151, kd152, kd153, kd154, kd155, kd156, kd157, kd158, kd159, kd160, kd161, kd162, kd163, kd164,
  kd165, kd166, kd167, kd168, kd169, kd170, kd171, kd172, kd173, kd174, kd175, kd176, kd177, kd178, kd179,
  kd180, kd181, kd182, kd183, kd184, kd185, kd186, kd187, kd188, kd189, kd190, kd191, kd192, kd193, kd194,
  kd195, kd196, kd197, kd198, kd199, kd200, kd201, kd202, kd203, kd204, kd205, kd206, kd207, kd208, kd209,
  kd210, kd211, kd212, kd213, kd214]
def wrL : List (Option Nat) := [
  none, none, none, none, none, none, none, none, none, none, none, none, none, none, none,
  none, none, none, none, none, none, none, none, none, none, none, none, none, none, none,
  none, none, none, none, none, none, none, none, none, none, none, none, none, none, none,
  none, none, none, none, none, none, none, none, none, none, none, none, none, none, none,
  none, none, none, none, none, none, none, none, none, none, none, none, none, none, none,
  none, none, none, none, none, none, none, none, none, none, none, none, none, none, none,
  none, none, none, none, none, none, none, none, none, none, none, none, none, none, none,
  none, none, none, none, none, none, none, none, none, none, none, none, none, none, none,
  none, none, none, none, none, none, none, none, none, none, none, none, none, none, none,
  none, none, none, none, none, none, none, none, none, none, none, none, none, none, none,
  none, none, none, none, none, none, none, none, none, none, none, none, none, none, none,
  none, none, none, none, none, none, none, none, none, none, none, none, none, none, none,
  none, none, none, none, none, none, none, none, none, none, none, none, none, none, none,
  none, none, none, none, none, none, none, none, none, none, some 58, some 59, some 60, some 62, some 63,
  some 68, some 69, some 70, some 72, none]
def fLk : List (String × Nat × Nat × Nat × Nat) := [
  (RX5, 9, 5, 0, 118), (RX4, 137, 5, 0, 119), (RX5, 15, 5, 1, 120), (RX7, 74, 5, 1, 121),
  (RX4, 77, 5, 1, 122), (RX4, 65, 4, 0, 194), (RX4, 9, 4, 1, 195), (RX4, 21, 4, 2, 196),
  (RX4, 27, 4, 3, 197), (RX4, 32, 4, 4, 198), (RX4, 37, 4, 5, 199), (RX4, 40, 4, 6, 200),
  (RX4, 44, 4, 7, 201), (RX4, 47, 4, 8, 202), (RX4, 50, 4, 9, 203), (RX4, 53, 4, 10, 204),
  (RX4, 56, 4, 11, 205), (RX7, 86, 4, 11, 206), (RX4, 59, 4, 12, 207), (RX7, 85, 4, 12, 208),
  (RX4, 62, 4, 13, 209), (RX7, 89, 4, 13, 210), (RX3, 9, 3, 0, 247), (RX1, 67, 3, 0, 248),
  (RX4, 97, 3, 0, 249), (RX6, 61, 3, 0, 250), (RX7, 234, 3, 0, 251), (RX3, 15, 3, 1, 252),
  (RX7, 256, 3, 1, 253), (RX3, 18, 3, 2, 254), (RX7, 112, 3, 2, 255), (RX6, 89, 3, 2, 256),
  (RX1, 113, 3, 2, 257), (RX3, 22, 3, 3, 258), (RX1, 36, 3, 3, 259), (RX6, 50, 3, 3, 260),
  (RX4, 118, 3, 3, 261), (RX7, 207, 3, 3, 262), (RX3, 25, 3, 4, 263), (RX1, 41, 3, 4, 264),
  (RX6, 45, 3, 4, 265), (RX7, 142, 3, 4, 266), (RX3, 28, 3, 5, 267), (RX1, 54, 3, 5, 268),
  (RX6, 64, 3, 5, 269), (RX7, 130, 3, 5, 270), (RX3, 31, 3, 6, 271), (RX1, 57, 3, 6, 272),
  (RX6, 67, 3, 6, 273), (RX7, 133, 3, 6, 274), (RX3, 34, 3, 7, 275), (RX1, 51, 3, 7, 276),
  (RX6, 70, 3, 7, 277), (RX7, 136, 3, 7, 278), (RX3, 37, 3, 8, 279), (RX1, 48, 3, 8, 280),
  (RX7, 139, 3, 8, 281), (RX0, 11, 0, 0, 311), (RX0, 17, 0, 1, 312), (RX0, 21, 0, 2, 313),
  (RX7, 262, 0, 2, 314), (RX6, 9, 6, 0, 328), (RX7, 117, 6, 0, 329), (RX6, 15, 6, 1, 330),
  (RX7, 149, 6, 1, 331), (RX6, 19, 6, 2, 332), (RX7, 189, 6, 2, 333), (RX6, 22, 6, 3, 334),
  (RX7, 152, 6, 3, 335), (RX6, 25, 6, 4, 336), (RX6, 28, 6, 5, 337), (RX6, 31, 6, 6, 338),
  (RX1, 11, 1, 0, 362), (RX1, 15, 1, 1, 363), (RX1, 21, 1, 2, 364), (RX1, 24, 1, 3, 365),
  (RX7, 158, 1, 3, 366), (RX1, 28, 1, 4, 367), (RX7, 162, 1, 4, 368), (RX7, 10, 7, 0, 380),
  (RX7, 21, 7, 1, 381), (RX7, 28, 7, 2, 382), (RX7, 32, 7, 3, 383), (RX7, 38, 7, 4, 384),
  (RX7, 42, 7, 5, 385), (RX7, 46, 7, 6, 386), (RX7, 50, 7, 7, 387), (RX7, 53, 7, 8, 388),
  (RX7, 59, 7, 9, 389), (RX7, 66, 7, 10, 390), (RX7, 70, 7, 11, 391), (RX8, 1, 8, 0, 954),
  (RX8, 7, 8, 1, 955), (RX8, 11, 8, 2, 956), (RX8, 18, 8, 3, 957), (RX8, 21, 8, 4, 958),
  (RX8, 24, 8, 5, 959), (RX8, 27, 8, 6, 960), (RX8, 41, 8, 7, 961), (RX8, 73, 8, 8, 962),
  (RX8, 82, 8, 9, 963), (RX8, 76, 8, 10, 964), (RX8, 79, 8, 11, 965), (RX8, 37, 8, 12, 966),
  (RX8, 91, 8, 13, 967), (RX8, 94, 8, 14, 968), (RX8, 97, 8, 15, 969), (RX8, 100, 8, 16, 970),
  (RX8, 103, 8, 17, 971), (RX8, 106, 8, 18, 972), (RX8, 109, 8, 19, 973), (RX8, 113, 8, 20, 974),
  (RX8, 172, 8, 21, 975), (RX8, 138, 8, 22, 976), (RX8, 117, 8, 23, 977), (RX8, 120, 8, 24, 978),
  (RX8, 213, 8, 25, 979), (RX8, 230, 8, 26, 980), (RX8, 123, 8, 27, 981), (RX8, 126, 8, 28, 982),
  (RX8, 129, 8, 29, 983), (RX8, 299, 8, 30, 984), (RX8, 302, 8, 31, 985), (RX8, 318, 8, 32, 986),
  (RX8, 321, 8, 33, 987), (RX8, 337, 8, 34, 988)]
def cLk : List (String × Nat × Nat × Nat) := [
  (RX4, 144, 42, 187), (RL, 46, 54, 417), (RX7, 77, 43, 421), (RL, 51, 55, 425), (RL, 56, 56, 429),
  (RX7, 81, 30, 433), (RX4, 69, 24, 437), (RX4, 74, 40, 441), (RX4, 131, 204, 445), (RX4, 141, 41, 448),
  (RX4, 82, 39, 453), (RX4, 86, 36, 457), (RX4, 90, 31, 461), (RX4, 100, 37, 465), (RX4, 104, 38, 469),
  (RX4, 108, 26, 473), (RX4, 112, 34, 477), (RX4, 115, 35, 481), (RX4, 94, 32, 485), (RX4, 121, 33, 489),
  (RX4, 127, 27, 496), (RX7, 92, 25, 500), (RX7, 96, 2, 504), (RL, 61, 57, 508), (RL, 81, 61, 512),
  (RX7, 99, 89, 516), (RX7, 106, 87, 521), (RX7, 274, 44, 525), (RX6, 34, 49, 529), (RX6, 73, 28, 533),
  (RX6, 38, 50, 540), (RX6, 77, 204, 545), (RX6, 82, 203, 546), (RX6, 85, 51, 549), (RX6, 42, 52, 553),
  (RX6, 92, 45, 557), (RX6, 95, 53, 561), (RX6, 57, 47, 565), (RX7, 276, 3, 569), (RX1, 32, 14, 573),
  (RX1, 104, 28, 577), (RX1, 108, 45, 578), (RX1, 60, 16, 580), (RX1, 70, 15, 584), (RX1, 64, 17, 587),
  (RX1, 116, 18, 591), (RX1, 120, 20, 595), (RX7, 174, 21, 599), (RX2, 22, 200, 602), (RL, 92, 64, 605),
  (RX7, 192, 199, 609), (RL, 96, 65, 615), (RX7, 197, 92, 619), (RX7, 127, 90, 623), (RX7, 145, 97, 627),
  (RX7, 200, 47, 628), (RL, 100, 66, 629), (RX7, 204, 48, 633), (RL, 104, 67, 637), (RX7, 210, 201, 641),
  (RL, 117, 71, 644), (RX7, 224, 10, 648), (RX1, 84, 7, 652), (RX1, 81, 6, 656), (RX1, 77, 11, 660),
  (RX1, 96, 12, 664), (RX1, 74, 13, 669), (RX1, 101, 4, 673), (RX1, 87, 8, 677), (RX1, 90, 23, 681),
  (RL, 125, 73, 684), (RX7, 228, 11, 689), (RL, 129, 74, 690), (RX7, 178, 91, 694), (RX7, 237, 88, 698),
  (RX7, 244, 0, 702), (RX0, 25, 25, 706), (RX0, 29, 204, 707), (RL, 133, 75, 708), (RL, 137, 76, 712),
  (RX7, 240, 9, 716), (RL, 141, 77, 720), (RX7, 246, 94, 724), (RL, 145, 78, 727), (RX7, 249, 95, 731),
  (RL, 149, 79, 732), (RX7, 252, 27, 736), (RL, 154, 80, 737), (RX7, 109, 28, 741), (RL, 158, 81, 742),
  (RL, 162, 82, 746), (RX7, 259, 98, 750), (RL, 166, 83, 754), (RX7, 265, 1, 758), (RL, 170, 84, 762),
  (RX7, 268, 96, 766), (RL, 174, 85, 769), (RL, 178, 86, 773), (RX7, 271, 46, 777), (RL, 66, 205, 781),
  (RL, 7, 58, 785), (RX7, 120, 45, 850), (RX7, 123, 29, 851), (RL, 75, 206, 855), (RL, 15, 59, 858),
  (RL, 78, 207, 862), (RL, 18, 60, 865), (RX7, 155, 93, 869), (RX7, 166, 19, 872), (RX2, 7, 202, 875),
  (RX2, 13, 22, 878), (RX2, 19, 20, 881), (RL, 85, 208, 882), (RL, 22, 62, 885), (RX7, 181, 4, 889),
  (RL, 88, 209, 890), (RL, 25, 63, 893), (RX7, 185, 5, 897), (RL, 108, 210, 901), (RL, 29, 68, 904),
  (RX7, 215, 6, 908), (RL, 111, 211, 909), (RL, 32, 69, 912), (RX7, 218, 7, 916), (RX7, 221, 8, 917),
  (RL, 114, 212, 918), (RL, 35, 70, 921), (RL, 121, 213, 925), (RL, 38, 72, 928), (RL, 72, 99, 932),
  (RL, 50, 105, 936), (RX8, 14, 104, 940), (RL, 55, 106, 945), (RL, 60, 126, 1061), (RX8, 135, 110, 1065),
  (RX8, 30, 109, 1069), (RX8, 34, 108, 1072), (RX8, 44, 107, 1075), (RX8, 60, 113, 1081), (RX8, 52, 111, 1085),
  (RX8, 56, 112, 1088), (RX8, 159, 122, 1092), (RX8, 132, 118, 1096), (RX8, 141, 117, 1100), (RX8, 64, 114, 1104),
  (RX8, 67, 115, 1108), (RX8, 70, 116, 1112), (RX8, 144, 120, 1116), (RX8, 148, 121, 1120), (RX8, 162, 123, 1124),
  (RX8, 151, 101, 1128), (RX8, 155, 124, 1131), (RX8, 165, 125, 1134), (RX8, 168, 119, 1138), (RL, 65, 127, 1141),
  (RL, 80, 154, 1145), (RX8, 243, 130, 1149), (RX8, 175, 128, 1153), (RX8, 246, 153, 1157), (RX8, 249, 100, 1160),
  (RX8, 252, 150, 1164), (RX8, 236, 147, 1168), (RX8, 223, 144, 1172), (RX8, 184, 132, 1176), (RX8, 216, 141, 1180),
  (RX8, 207, 140, 1184), (RX8, 204, 136, 1188), (RX8, 178, 129, 1192), (RX8, 181, 133, 1196), (RX8, 200, 138, 1200),
  (RX8, 187, 137, 1204), (RX8, 190, 134, 1208), (RX8, 193, 135, 1212), (RX8, 196, 102, 1216), (RX8, 226, 146, 1219),
  (RX8, 219, 145, 1223), (RX8, 240, 149, 1227), (RX8, 233, 148, 1231), (RX8, 255, 151, 1235), (RX8, 259, 152, 1239),
  (RL, 84, 155, 1243), (RL, 87, 157, 1249), (RX8, 266, 131, 1253), (RX8, 269, 156, 1257), (RL, 91, 159, 1261),
  (RX8, 272, 158, 1265), (RL, 95, 161, 1269), (RX8, 278, 103, 1273), (RX8, 275, 142, 1276), (RX8, 210, 139, 1280),
  (RL, 99, 162, 1284), (RX8, 281, 160, 1288), (RL, 103, 165, 1292), (RX8, 284, 163, 1296), (RX8, 287, 164, 1300),
  (RL, 107, 167, 1304), (RX8, 290, 166, 1308), (RL, 124, 169, 1311), (RX8, 295, 168, 1315), (RL, 128, 170, 1320),
  (RL, 110, 171, 1324), (RL, 116, 173, 1328), (RX8, 305, 143, 1332), (RX8, 308, 172, 1336), (RL, 113, 175, 1340),
  (RX8, 311, 174, 1344), (RL, 120, 178, 1348), (RX8, 324, 177, 1352), (RX8, 314, 176, 1356), (RL, 132, 182, 1359),
  (RX8, 330, 181, 1363), (RX8, 327, 179, 1367), (RL, 136, 183, 1371), (RL, 144, 184, 1375), (RL, 148, 185, 1379),
  (RL, 161, 186, 1383), (RL, 157, 187, 1387), (RL, 153, 188, 1391), (RL, 140, 189, 1395), (RX8, 334, 180, 1399),
  (RL, 165, 192, 1403), (RX8, 344, 191, 1407), (RX8, 341, 190, 1411), (RL, 169, 193, 1416), (RL, 173, 194, 1420),
  (RL, 177, 195, 1424), (RL, 71, 196, 1428), (RL, 77, 197, 1432), (RL, 181, 198, 1436)]
def nLk : List (String × Nat × Nat × Nat) := [
  (RX4, 124, 95, 493), (RX3, 40, 97, 537), (RX6, 53, 97, 544), (RX1, 44, 97, 579)]
def kLk : List (String × Nat × Nat × Nat) := [
  (RX7, 116, 0, 520), (RJ6, 265, 2, 612), (RJ6, 266, 3, 613), (RJ6, 267, 4, 614), (RX7, 279, 1, 753),
  (RX8, 263, 0, 1247), (RX8, 340, 1, 1415)]
def jLk : List (String × Nat × Nat × Nat) := [
  (RX4, 150, 2, 190), (RX4, 148, 1, 452), (RX7, 172, 0, 598), (RX1, 99, 0, 668), (RX7, 232, 3, 688),
  (RX8, 48, 2, 1079), (RX8, 50, 4, 1080), (RX8, 264, 0, 1248), (RX8, 293, 3, 1319)]
def cdP : List (Nat) := [
  705, 761, 507, 572, 676, 900, 659, 655, 680, 719, 651, 663, 667, 672, 576, 586, 583, 590, 594, 874,
  597, 601, 880, 683, 440, 503, 476, 499, 536, 854, 436, 464, 488, 492, 480, 484, 460, 468, 472, 456,
  444, 451, 189, 424, 528, 560, 780, 568, 636, 532, 543, 552, 556, 564, 420, 428, 432, 511, 788, 861,
  868, 515, 888, 896, 608, 618, 632, 640, 907, 915, 924, 647, 931, 687, 693, 711, 715, 723, 730, 735,
  740, 745, 749, 757, 765, 772, 776, 524, 701, 519, 626, 697, 622, 871, 726, 495, 768, 539, 752, 935,
  1163, 1130, 1218, 1275, 944, 939, 948, 1078, 1074, 1071, 1068, 1087, 1091, 1084, 1107, 1111, 1115, 1103, 1099, 1140,
  1119, 1123, 1095, 1127, 1133, 1137, 1064, 1144, 1156, 1195, 1152, 1256, 1179, 1199, 1211, 1215, 1191, 1207, 1203, 1283,
  1187, 1183, 1279, 1335, 1175, 1226, 1222, 1171, 1234, 1230, 1167, 1238, 1242, 1159, 1148, 1246, 1260, 1252, 1268, 1264,
  1291, 1272, 1287, 1299, 1303, 1295, 1310, 1307, 1318, 1314, 1323, 1327, 1339, 1331, 1347, 1343, 1358, 1355, 1351, 1370,
  1402, 1366, 1362, 1374, 1378, 1382, 1386, 1390, 1394, 1398, 1414, 1410, 1406, 1419, 1423, 1427, 1431, 1435, 1439, 611,
  604, 643, 877, 548, 447, 783, 857, 864, 884, 892, 903, 911, 920, 927, 0]
def stP : List (Nat) := [
  703, 759, 505, 570, 674, 898, 657, 653, 678, 717, 649, 661, 666, 671, 575, 585, 582, 589, 593, 873,
  596, 600, 879, 682, 438, 501, 474, 497, 534, 852, 434, 463, 487, 491, 479, 483, 459, 467, 471, 455,
  443, 450, 188, 422, 526, 558, 778, 566, 634, 531, 542, 551, 555, 563, 418, 426, 430, 509, 786, 859,
  866, 513, 886, 894, 606, 616, 630, 638, 905, 913, 922, 645, 929, 685, 691, 709, 713, 721, 728, 733,
  738, 743, 747, 755, 763, 770, 774, 523, 700, 518, 625, 696, 621, 870, 725, 494, 767, 538, 751, 933,
  1162, 1129, 1217, 1274, 942, 937, 946, 1077, 1073, 1070, 1067, 1086, 1090, 1083, 1106, 1110, 1114, 1102, 1098, 1139,
  1118, 1122, 1094, 1126, 1132, 1136, 1062, 1142, 1155, 1194, 1151, 1255, 1178, 1198, 1210, 1214, 1190, 1206, 1202, 1282,
  1186, 1182, 1278, 1334, 1174, 1225, 1221, 1170, 1233, 1229, 1166, 1237, 1241, 1158, 1146, 1244, 1259, 1250, 1267, 1262,
  1290, 1270, 1285, 1298, 1302, 1293, 1309, 1305, 1317, 1312, 1321, 1325, 1338, 1329, 1346, 1341, 1357, 1354, 1349, 1369,
  1401, 1365, 1360, 1372, 1376, 1380, 1384, 1388, 1392, 1396, 1413, 1409, 1404, 1417, 1421, 1425, 1429, 1433, 1437, 610,
  603, 642, 876, 547, 446, 782, 856, 863, 883, 891, 902, 910, 919, 926, 0]
def seP : List (Nat) := [
  704, 760, 506, 571, 675, 899, 658, 654, 679, 718, 650, 662, 24, 25, 18, 0, 19, 20, 21, 0,
  0, 0, 0, 0, 439, 502, 475, 498, 535, 853, 435, 4, 9, 10, 7, 8, 3, 5, 6, 2,
  0, 1, 0, 423, 527, 559, 779, 567, 635, 13, 14, 15, 16, 17, 419, 427, 431, 510, 787, 860,
  867, 514, 887, 895, 607, 617, 631, 639, 906, 914, 923, 646, 930, 686, 692, 710, 714, 722, 729, 734,
  739, 744, 748, 756, 764, 771, 775, 12, 27, 11, 23, 26, 22, 0, 0, 0, 0, 0, 0, 934,
  46, 0, 0, 0, 29, 938, 947, 31, 0, 0, 30, 0, 33, 32, 37, 38, 39, 36, 35, 0,
  40, 41, 34, 42, 0, 43, 1063, 1143, 45, 54, 44, 66, 50, 55, 58, 59, 53, 57, 56, 70,
  52, 51, 69, 75, 49, 61, 60, 48, 63, 62, 47, 64, 65, 0, 1147, 1245, 67, 1251, 68, 1263,
  71, 1271, 1286, 72, 73, 1294, 0, 1306, 74, 1313, 1322, 1326, 76, 1330, 77, 1342, 0, 78, 1350, 80,
  81, 79, 1361, 1373, 1377, 1381, 1385, 1389, 1393, 1397, 83, 82, 1405, 1418, 1422, 1426, 1430, 1434, 1438, 0,
  0, 0, 0, 0, 0, 0, 0, 0, 0, 0, 0, 0, 0, 0, 0]
def iiP : List (Nat) := [
  93, 93, 93, 95, 95, 95, 95, 95, 95, 95, 95, 95, 95, 95, 95, 95, 95, 95, 95, 102,
  102, 102, 102, 102, 92, 92, 92, 92, 92, 92, 87, 87, 87, 87, 87, 87, 87, 87, 87, 87,
  87, 87, 87, 86, 94, 94, 94, 94, 94, 94, 94, 94, 94, 94, 85, 85, 85, 85, 85, 85,
  85, 85, 85, 85, 85, 85, 85, 85, 85, 85, 85, 85, 85, 85, 85, 85, 85, 85, 85, 85,
  85, 85, 85, 85, 85, 85, 85, 85, 85, 85, 85, 85, 85, 85, 85, 85, 85, 85, 85, 96,
  96, 96, 96, 96, 96, 96, 96, 96, 96, 96, 96, 96, 96, 96, 96, 96, 96, 96, 96, 96,
  96, 96, 96, 96, 96, 96, 96, 96, 96, 96, 96, 96, 96, 96, 96, 96, 96, 96, 96, 96,
  96, 96, 96, 96, 96, 96, 96, 96, 96, 96, 96, 96, 96, 96, 96, 96, 96, 96, 96, 96,
  96, 96, 96, 96, 96, 96, 96, 96, 96, 96, 96, 96, 96, 96, 96, 96, 96, 96, 96, 96,
  96, 96, 96, 96, 96, 96, 96, 96, 96, 96, 96, 96, 96, 96, 96, 96, 96, 96, 96, 103,
  97, 97, 97, 97, 97, 84, 84, 84, 84, 84, 84, 84, 84, 84, 84]
def shpL : List (Nat × Nat) := [
  (0, 7), (0, 5), (2, 540), (0, 4), (4, 6), (0, 0), (5, 8), (5, 2), (0, 6), (1, 6), (1, 6), (1, 6),
  (0, 1), (1, 6), (6, 5), (4, 11), (4, 11), (4, 11), (4, 11), (4, 11), (4, 6), (0, 3), (1, 6), (1, 11),
  (1, 11), (1, 11), (1, 11), (0, 3), (1, 6), (1, 11), (1, 11), (1, 11), (1, 11), (0, 3), (1, 6), (1, 11),
  (1, 11), (1, 11), (1, 11), (0, 3), (1, 6), (1, 11), (1, 11), (1, 11), (1, 11), (0, 3), (1, 6), (1, 11),
  (1, 11), (1, 11), (1, 11), (0, 3), (1, 6), (1, 11), (1, 11), (1, 11), (1, 11), (0, 3), (1, 6), (1, 11),
  (1, 11), (1, 11), (1, 11), (0, 3), (1, 6), (1, 11), (1, 11), (1, 11), (1, 11), (0, 3), (1, 6), (1, 11),
  (1, 11), (1, 11), (1, 11), (0, 3), (1, 6), (1, 11), (1, 11), (1, 11), (1, 11), (0, 3), (1, 6), (1, 11),
  (1, 11), (1, 11), (1, 11), (0, 3), (1, 6), (1, 11), (1, 11), (1, 11), (1, 11), (0, 8), (1, 540), (1, 69),
  (1, 69), (1, 138), (1, 552), (1, 69), (1, 69), (4, 6), (3, 2), (4, 36), (1, 6), (4, 6), (4, 2), (1, 6),
  (4, 1)]
def rtL : List (List (Option Nat)) := [
  [some 1, some 3, some 21, some 27, some 5, some 7, none, none, none, some 8, some 12], [some 2], [], [some 1, some 4],
  [], [some 6], [some 33, some 39, some 45, some 51, some 57, some 63, some 69, some 75], [some 81, some 87],
  [some 9, none, none, none, none, some 10, some 11], [], [], [],
  [none, some 13, some 14, some 20], [], [some 15, some 16, some 17, some 18, some 19], [],
  [], [], [], [],
  [], [none, none, some 22, none, none, some 23, some 24, some 25, some 26], [], [],
  [], [], [], [none, none, some 28, none, none, some 29, some 30, some 31, some 32],
  [], [], [], [],
  [], [none, none, some 34, none, none, some 35, some 36, some 37, some 38], [], [],
  [], [], [], [none, none, some 40, none, none, some 41, some 42, some 43, some 44],
  [], [], [], [],
  [], [none, none, some 46, none, none, some 47, some 48, some 49, some 50], [], [],
  [], [], [], [none, none, some 52, none, none, some 53, some 54, some 55, some 56],
  [], [], [], [],
  [], [none, none, some 58, none, none, some 59, some 60, some 61, some 62], [], [],
  [], [], [], [none, none, some 64, none, none, some 65, some 66, some 67, some 68],
  [], [], [], [],
  [], [none, none, some 70, none, none, some 71, some 72, some 73, some 74], [], [],
  [], [], [], [none, none, some 76, none, none, some 77, some 78, some 79, some 80],
  [], [], [], [],
  [], [none, none, some 82, none, none, some 83, some 84, some 85, some 86], [], [],
  [], [], [], [none, none, some 88, none, none, some 89, some 90, some 91, some 92],
  [], [], [], [],
  [], [none, some 94, none, none, none, none, none, none, none, none, none, none, none, some 95, some 96, some 97, some 98, some 99, some 100, some 101, some 102, none, none, some 103, some 104, none, none, some 105, some 106, some 107], [], [],
  [], [], [], [],
  [], [], [], [],
  [], [], [], [],
  []]
end
section
/-! The tables by number. -/
def mNm (i : Nat) : MethodName := mNmL.getD i ⟨"", "", ""⟩
def mBy (i : Nat) : ByteArray := mByL.getD i ⟨#[]⟩
def mMx (i : Nat) : Nat := mMxL.getD i 0
def mRt (i : Nat) : Option FieldType := mRtL.getD i none
def mSt (i : Nat) : Bool := mStL.getD i false
def mNp (i : Nat) : Nat := mNpL.getD i 0
def mCl (i : Nat) : Nat := mClL.getD i 0
def wrp (i : Nat) : Option Nat := wrL.getD i none
def kI (i : Nat) : Int32 := kIL.getD i 0
def kL (i : Nat) : Int64 := kLL.getD i 0
def fK (c k : Nat) : Nat := (fKL.getD c []).getD k 9
def shp (k : Nat) : Option (Nat × Nat) := shpL[k]?
def RT (k j : Nat) : Option Nat := (rtL.getD k []).getD j none
def lk : Nat → List (Nat × Instr × Nat × Nat) → Option (Instr × Nat × Nat)
  | _, [] => none
  | pc, e :: l => if e.1 = pc then some e.2 else lk pc l
def mCd (i pc : Nat) : Option (Instr × Nat × Nat) := lk pc (mCdL.getD i [])
end
section
/-! The program's data held against the Statement: every entry decodes so, every link stands in the tables. -/
def TS : List Cond := lw_tbl.filter goodWord
abbrev cls9 : List vw_C := [(RX0, TX0, 3), (RX1, TX1, 5), (RX2, TX2, 0), (RX3, TX3, 9), (RX4, TX4, 14), (RX5, TX5, 2), (RX6, TX6, 7), (RX7, TX7, 12), (RX8, TX8, 35)]
def clT (c k : Nat) : String × String × String × Bool := (cls9.getD c ("", TX2, 0)).2.1 k
def clR (c : Nat) : String := (cls9.getD c ("", TX2, 0)).1
def clN (c : Nat) : Nat := (cls9.getD c ("", TX2, 0)).2.2
theorem TS_mem {w : Cond} {i : Nat} (h : lw_tbl[i]? = some w) (hg : goodWord w = true) : w ∈ TS := List.mem_filter.mpr ⟨List.mem_of_getElem? h, hg⟩
/-- a table's words stand where they are told to stand, and are good ones -/
def atP (w : Cond) (i : Nat) : Bool := decide (lw_tbl[i]? = some w) && goodWord w
theorem atP_mem {w : Cond} {i : Nat} (h : atP w i = true) : w ∈ TS := by
  unfold atP at h
  rw [Bool.and_eq_true, decide_eq_true_eq] at h
  exact TS_mem h.1 h.2
set_option maxRecDepth 20000 in
theorem fLk_ok : fLk.all (fun q => atP (.fieldLink q.1 q.2.1 (clT q.2.2.1 q.2.2.2.1).1 (clT q.2.2.1 q.2.2.2.1).2.1 (clT q.2.2.1 q.2.2.2.1).2.2.1) q.2.2.2.2 && decide (q.2.2.1 < 9) && decide (q.2.2.2.1 < clN q.2.2.1)) = true := by decide +kernel
set_option maxRecDepth 20000 in
theorem cLk_ok : cLk.all (fun q => atP (.methodLink q.1 q.2.1 (mNm q.2.2.1)) q.2.2.2) = true := by decide +kernel
set_option maxRecDepth 20000 in
theorem kLk_ok : kLk.all (fun q => atP (.constant q.1 q.2.1 (kI q.2.2.1)) q.2.2.2) = true := by decide +kernel
set_option maxRecDepth 20000 in
theorem jLk_ok : jLk.all (fun q => atP (.constantLong q.1 q.2.1 (kL q.2.2.1)) q.2.2.2) = true := by decide +kernel
/-- the nest mates' calls -/
def nW : List Cond := nLk.map (fun q => .methodLinkNest q.1 q.2.1 (mNm q.2.2.1) "LevelRings")
set_option maxRecDepth 20000 in
theorem nLk_ok : nLk.all (fun q => decide (lw_tbl[q.2.2.2]? = some (.methodLinkNest q.1 q.2.1 (mNm q.2.2.1) "LevelRings"))) = true := by decide +kernel
set_option maxRecDepth 20000 in
theorem lay_ok : (List.range 9).all (fun c => (u_ws (clR c) (fun k => clT c k) (clN c)).all (fun w => decide (w ∈ lw_tbl) && goodWord w)) = true := by decide +kernel
end
section
/-- a method that may be called: its words -/
def mthOk (i : Nat) : Bool := atP (.code (mNm i) (mBy i) (mMx i) (mRt i)) (cdP.getD i 0) && atP (if mSt i then .static (mNm i) else .instanceMethod (mNm i)) (stP.getD i 0) && (mSt i || atP (.selects (mNm i).cls (mNm i) (mNm i)) (seP.getD i 0)) && atP (.initialized (mNm i).cls) (iiP.getD i 0) && decide ((parseMethodDescriptor (mNm i).desc).map (fun d => d.parameters.length) = some (mNp i)) && decide ((mNm i).cls ≠ "java/lang/invoke/MethodHandle") && decide ((mNm i).cls ≠ "java/lang/invoke/VarHandle") && decide (mMx i ≤ 41) && plainFor (mNm i) && (mSt i || decide (clR (mCl i) = (mNm i).cls ∧ mCl i < 9))

set_option maxRecDepth 20000 in
theorem mth_0 : ((List.range 30).drop 0).all mthOk = true := by decide +kernel
set_option maxRecDepth 20000 in
theorem mth_30 : ((List.range 60).drop 30).all mthOk = true := by decide +kernel
set_option maxRecDepth 20000 in
theorem mth_60 : ((List.range 90).drop 60).all mthOk = true := by decide +kernel
set_option maxRecDepth 20000 in
theorem mth_90 : ((List.range 120).drop 90).all mthOk = true := by decide +kernel
set_option maxRecDepth 20000 in
theorem mth_120 : ((List.range 150).drop 120).all mthOk = true := by decide +kernel
set_option maxRecDepth 20000 in
theorem mth_150 : ((List.range 180).drop 150).all mthOk = true := by decide +kernel
set_option maxRecDepth 20000 in
theorem mth_180 : ((List.range 205).drop 180).all mthOk = true := by decide +kernel
def ilen : Instr → Nat
  | .bipush _ => 2
  | .sipush _ => 3
  | .ldc _ => 2
  | .ldc_w _ => 3
  | .ldc2_w _ => 3
  | .goto _ => 3
  | .ifCond _ _ => 3
  | .if_icmp _ _ => 3
  | .getfield _ => 3
  | .putfield _ => 3
  | .invokestatic _ => 3
  | .invokevirtual _ => 3
  | .iinc _ _ => 3
  | .new _ => 3
  | .invokespecial _ => 3
  | .newarray _ => 2
  | .iload _ => 2
  | .lload _ => 2
  | .aload _ => 2
  | .istore _ => 2
  | .lstore _ => 2
  | .tableswitch _ _ _ _ => 0
  | .lookupswitch _ _ => 0
  | _ => 1
def lkOk (i : Nat) (ins : Instr) (r : Nat) : Bool := match ins with
  | .getfield x => fLk.any (fun q => decide (q.1 = (mNm i).cls ∧ q.2.1 = x ∧ r = q.2.2.1 * 64 + q.2.2.2.1 ∧ q.2.2.2.1 < 64))
  | .putfield x => fLk.any (fun q => decide (q.1 = (mNm i).cls ∧ q.2.1 = x ∧ r = q.2.2.1 * 64 + q.2.2.2.1 ∧ q.2.2.2.1 < 64 ∧ ((clT q.2.2.1 q.2.2.2.1).2.2.2 = false)))
  | .ldc x => kLk.any (fun q => decide (q.1 = (mNm i).cls ∧ q.2.1 = x ∧ r = q.2.2.1))
  | .ldc_w x => kLk.any (fun q => decide (q.1 = (mNm i).cls ∧ q.2.1 = x ∧ r = q.2.2.1))
  | .ldc2_w x => jLk.any (fun q => decide (q.1 = (mNm i).cls ∧ q.2.1 = x ∧ r = q.2.2.1))
  | .invokevirtual x => cLk.any (fun q => decide (q.1 = (mNm i).cls ∧ q.2.1 = x ∧ r = q.2.2.1 ∧ (r < 205)))
  | .invokestatic x => cLk.any (fun q => decide (q.1 = (mNm i).cls ∧ q.2.1 = x ∧ r = q.2.2.1 ∧ (r < 214))) || nLk.any (fun q => decide (q.1 = (mNm i).cls ∧ q.2.1 = x ∧ r = q.2.2.1 ∧ (r < 205)))
  | _ => true
def okE (i : Nat) (e : Nat × Instr × Nat × Nat) : Bool := decide (decode (mBy i) e.1 = .ok (e.2.1, e.2.2.1)) && (decide (ilen e.2.1 = 0) || decide (e.2.2.1 = ilen e.2.1)) && lkOk i e.2.1 e.2.2.2
theorem all_dt {α : Type} {f : α → Bool} {l : List α} {j : Nat} (k : Nat) (h1 : ((l.drop j).take k).all f = true) (h2 : (l.drop (j + k)).all f = true) : (l.drop j).all f = true := by
  have h : l.drop j = (l.drop j).take k ++ l.drop (j + k) := by
    rw [← List.drop_drop]
    exact (List.take_append_drop k (l.drop j)).symm
  rw [h, List.all_append, h1, h2]
  rfl
theorem all_dl {α : Type} {f : α → Bool} {l : List α} {j k : Nat} (h1 : ((l.drop j).take k).all f = true) (hk : l.length ≤ j + k := by decide) : (l.drop j).all f = true := by
  have h : (l.drop j).take k = l.drop j := List.take_of_length_le (by rw [List.length_drop]; omega)
  rw [h] at h1
  exact h1
end
section
theorem all_d0 {α : Type} {f : α → Bool} {l : List α} (h : (l.drop 0).all f = true) : l.all f = true := h
set_option maxRecDepth 20000 in
theorem okM_0 : kd0.all (okE 0) = true := by decide +kernel
set_option maxRecDepth 20000 in
theorem okM_1 : kd1.all (okE 1) = true := by decide +kernel
set_option maxRecDepth 20000 in
theorem okM_2 : kd2.all (okE 2) = true := by decide +kernel
set_option maxRecDepth 20000 in
theorem okM_3_0 : ((kd3.drop 0).take 60).all (okE 3) = true := by decide +kernel
set_option maxRecDepth 20000 in
theorem okM_3_60 : ((kd3.drop 60).take 60).all (okE 3) = true := by decide +kernel
set_option maxRecDepth 20000 in
theorem okM_3_120 : ((kd3.drop 120).take 60).all (okE 3) = true := by decide +kernel
theorem okM_3 : kd3.all (okE 3) = true := all_d0 (all_dt (l := kd3) (j := 0) 60 okM_3_0 (all_dt (l := kd3) (j := 60) 60 okM_3_60 (all_dl (l := kd3) (j := 120) (k := 60) okM_3_120 (by decide +kernel))))
set_option maxRecDepth 20000 in
theorem okM_4 : kd4.all (okE 4) = true := by decide +kernel
set_option maxRecDepth 20000 in
theorem okM_5 : kd5.all (okE 5) = true := by decide +kernel
set_option maxRecDepth 20000 in
theorem okM_6 : kd6.all (okE 6) = true := by decide +kernel
set_option maxRecDepth 20000 in
theorem okM_7 : kd7.all (okE 7) = true := by decide +kernel
set_option maxRecDepth 20000 in
theorem okM_8 : kd8.all (okE 8) = true := by decide +kernel
set_option maxRecDepth 20000 in
theorem okM_9 : kd9.all (okE 9) = true := by decide +kernel
set_option maxRecDepth 20000 in
theorem okM_10 : kd10.all (okE 10) = true := by decide +kernel
set_option maxRecDepth 20000 in
theorem okM_11 : kd11.all (okE 11) = true := by decide +kernel
set_option maxRecDepth 20000 in
theorem okM_12 : kd12.all (okE 12) = true := by decide +kernel
set_option maxRecDepth 20000 in
theorem okM_13 : kd13.all (okE 13) = true := by decide +kernel
set_option maxRecDepth 20000 in
theorem okM_14 : kd14.all (okE 14) = true := by decide +kernel
set_option maxRecDepth 20000 in
theorem okM_15 : kd15.all (okE 15) = true := by decide +kernel
set_option maxRecDepth 20000 in
theorem okM_16_0 : ((kd16.drop 0).take 60).all (okE 16) = true := by decide +kernel
set_option maxRecDepth 20000 in
theorem okM_16_60 : ((kd16.drop 60).take 60).all (okE 16) = true := by decide +kernel
theorem okM_16 : kd16.all (okE 16) = true := all_d0 (all_dt (l := kd16) (j := 0) 60 okM_16_0 (all_dl (l := kd16) (j := 60) (k := 60) okM_16_60 (by decide +kernel)))
set_option maxRecDepth 20000 in
theorem okM_17 : kd17.all (okE 17) = true := by decide +kernel
set_option maxRecDepth 20000 in
theorem okM_18 : kd18.all (okE 18) = true := by decide +kernel
set_option maxRecDepth 20000 in
theorem okM_19 : kd19.all (okE 19) = true := by decide +kernel
set_option maxRecDepth 20000 in
theorem okM_20 : kd20.all (okE 20) = true := by decide +kernel
set_option maxRecDepth 20000 in
theorem okM_21 : kd21.all (okE 21) = true := by decide +kernel
set_option maxRecDepth 20000 in
theorem okM_22 : kd22.all (okE 22) = true := by decide +kernel
set_option maxRecDepth 20000 in
theorem okM_23_0 : ((kd23.drop 0).take 60).all (okE 23) = true := by decide +kernel
set_option maxRecDepth 20000 in
theorem okM_23_60 : ((kd23.drop 60).take 60).all (okE 23) = true := by decide +kernel
theorem okM_23 : kd23.all (okE 23) = true := all_d0 (all_dt (l := kd23) (j := 0) 60 okM_23_0 (all_dl (l := kd23) (j := 60) (k := 60) okM_23_60 (by decide +kernel)))
set_option maxRecDepth 20000 in
theorem okM_24 : kd24.all (okE 24) = true := by decide +kernel
set_option maxRecDepth 20000 in
theorem okM_25_0 : ((kd25.drop 0).take 60).all (okE 25) = true := by decide +kernel
set_option maxRecDepth 20000 in
theorem okM_25_60 : ((kd25.drop 60).take 60).all (okE 25) = true := by decide +kernel
theorem okM_25 : kd25.all (okE 25) = true := all_d0 (all_dt (l := kd25) (j := 0) 60 okM_25_0 (all_dl (l := kd25) (j := 60) (k := 60) okM_25_60 (by decide +kernel)))
set_option maxRecDepth 20000 in
theorem okM_26 : kd26.all (okE 26) = true := by decide +kernel
set_option maxRecDepth 20000 in
theorem okM_27 : kd27.all (okE 27) = true := by decide +kernel
set_option maxRecDepth 20000 in
theorem okM_28 : kd28.all (okE 28) = true := by decide +kernel
set_option maxRecDepth 20000 in
theorem okM_29 : kd29.all (okE 29) = true := by decide +kernel
set_option maxRecDepth 20000 in
theorem okM_30_0 : ((kd30.drop 0).take 60).all (okE 30) = true := by decide +kernel
set_option maxRecDepth 20000 in
theorem okM_30_60 : ((kd30.drop 60).take 60).all (okE 30) = true := by decide +kernel
theorem okM_30 : kd30.all (okE 30) = true := all_d0 (all_dt (l := kd30) (j := 0) 60 okM_30_0 (all_dl (l := kd30) (j := 60) (k := 60) okM_30_60 (by decide +kernel)))
set_option maxRecDepth 20000 in
theorem okM_31_0 : ((kd31.drop 0).take 60).all (okE 31) = true := by decide +kernel
set_option maxRecDepth 20000 in
theorem okM_31_60 : ((kd31.drop 60).take 60).all (okE 31) = true := by decide +kernel
theorem okM_31 : kd31.all (okE 31) = true := all_d0 (all_dt (l := kd31) (j := 0) 60 okM_31_0 (all_dl (l := kd31) (j := 60) (k := 60) okM_31_60 (by decide +kernel)))
set_option maxRecDepth 20000 in
theorem okM_32_0 : ((kd32.drop 0).take 60).all (okE 32) = true := by decide +kernel
set_option maxRecDepth 20000 in
theorem okM_32_60 : ((kd32.drop 60).take 60).all (okE 32) = true := by decide +kernel
theorem okM_32 : kd32.all (okE 32) = true := all_d0 (all_dt (l := kd32) (j := 0) 60 okM_32_0 (all_dl (l := kd32) (j := 60) (k := 60) okM_32_60 (by decide +kernel)))
set_option maxRecDepth 20000 in
theorem okM_33 : kd33.all (okE 33) = true := by decide +kernel
set_option maxRecDepth 20000 in
theorem okM_34 : kd34.all (okE 34) = true := by decide +kernel
set_option maxRecDepth 20000 in
theorem okM_35 : kd35.all (okE 35) = true := by decide +kernel
set_option maxRecDepth 20000 in
theorem okM_36 : kd36.all (okE 36) = true := by decide +kernel
set_option maxRecDepth 20000 in
theorem okM_37 : kd37.all (okE 37) = true := by decide +kernel
set_option maxRecDepth 20000 in
theorem okM_38 : kd38.all (okE 38) = true := by decide +kernel
set_option maxRecDepth 20000 in
theorem okM_39 : kd39.all (okE 39) = true := by decide +kernel
set_option maxRecDepth 20000 in
theorem okM_40_0 : ((kd40.drop 0).take 60).all (okE 40) = true := by decide +kernel
set_option maxRecDepth 20000 in
theorem okM_40_60 : ((kd40.drop 60).take 60).all (okE 40) = true := by decide +kernel
theorem okM_40 : kd40.all (okE 40) = true := all_d0 (all_dt (l := kd40) (j := 0) 60 okM_40_0 (all_dl (l := kd40) (j := 60) (k := 60) okM_40_60 (by decide +kernel)))
set_option maxRecDepth 20000 in
theorem okM_41_0 : ((kd41.drop 0).take 60).all (okE 41) = true := by decide +kernel
set_option maxRecDepth 20000 in
theorem okM_41_60 : ((kd41.drop 60).take 60).all (okE 41) = true := by decide +kernel
theorem okM_41 : kd41.all (okE 41) = true := all_d0 (all_dt (l := kd41) (j := 0) 60 okM_41_0 (all_dl (l := kd41) (j := 60) (k := 60) okM_41_60 (by decide +kernel)))
set_option maxRecDepth 20000 in
theorem okM_42 : kd42.all (okE 42) = true := by decide +kernel
set_option maxRecDepth 20000 in
theorem okM_43 : kd43.all (okE 43) = true := by decide +kernel
end
section
set_option maxRecDepth 20000 in
theorem okM_44_0 : ((kd44.drop 0).take 60).all (okE 44) = true := by decide +kernel
set_option maxRecDepth 20000 in
theorem okM_44_60 : ((kd44.drop 60).take 60).all (okE 44) = true := by decide +kernel
theorem okM_44 : kd44.all (okE 44) = true := all_d0 (all_dt (l := kd44) (j := 0) 60 okM_44_0 (all_dl (l := kd44) (j := 60) (k := 60) okM_44_60 (by decide +kernel)))
set_option maxRecDepth 20000 in
theorem okM_45 : kd45.all (okE 45) = true := by decide +kernel
set_option maxRecDepth 20000 in
theorem okM_46 : kd46.all (okE 46) = true := by decide +kernel
set_option maxRecDepth 20000 in
theorem okM_47 : kd47.all (okE 47) = true := by decide +kernel
set_option maxRecDepth 20000 in
theorem okM_48 : kd48.all (okE 48) = true := by decide +kernel
set_option maxRecDepth 20000 in
theorem okM_49 : kd49.all (okE 49) = true := by decide +kernel
set_option maxRecDepth 20000 in
theorem okM_50 : kd50.all (okE 50) = true := by decide +kernel
set_option maxRecDepth 20000 in
theorem okM_51 : kd51.all (okE 51) = true := by decide +kernel
set_option maxRecDepth 20000 in
theorem okM_52_0 : ((kd52.drop 0).take 60).all (okE 52) = true := by decide +kernel
set_option maxRecDepth 20000 in
theorem okM_52_60 : ((kd52.drop 60).take 60).all (okE 52) = true := by decide +kernel
theorem okM_52 : kd52.all (okE 52) = true := all_d0 (all_dt (l := kd52) (j := 0) 60 okM_52_0 (all_dl (l := kd52) (j := 60) (k := 60) okM_52_60 (by decide +kernel)))
set_option maxRecDepth 20000 in
theorem okM_53_0 : ((kd53.drop 0).take 60).all (okE 53) = true := by decide +kernel
set_option maxRecDepth 20000 in
theorem okM_53_60 : ((kd53.drop 60).take 60).all (okE 53) = true := by decide +kernel
theorem okM_53 : kd53.all (okE 53) = true := all_d0 (all_dt (l := kd53) (j := 0) 60 okM_53_0 (all_dl (l := kd53) (j := 60) (k := 60) okM_53_60 (by decide +kernel)))
set_option maxRecDepth 20000 in
theorem okM_54 : kd54.all (okE 54) = true := by decide +kernel
set_option maxRecDepth 20000 in
theorem okM_55 : kd55.all (okE 55) = true := by decide +kernel
set_option maxRecDepth 20000 in
theorem okM_56 : kd56.all (okE 56) = true := by decide +kernel
set_option maxRecDepth 20000 in
theorem okM_57 : kd57.all (okE 57) = true := by decide +kernel
set_option maxRecDepth 20000 in
theorem okM_58 : kd58.all (okE 58) = true := by decide +kernel
set_option maxRecDepth 20000 in
theorem okM_59 : kd59.all (okE 59) = true := by decide +kernel
set_option maxRecDepth 20000 in
theorem okM_60 : kd60.all (okE 60) = true := by decide +kernel
set_option maxRecDepth 20000 in
theorem okM_61 : kd61.all (okE 61) = true := by decide +kernel
set_option maxRecDepth 20000 in
theorem okM_62 : kd62.all (okE 62) = true := by decide +kernel
set_option maxRecDepth 20000 in
theorem okM_63 : kd63.all (okE 63) = true := by decide +kernel
set_option maxRecDepth 20000 in
theorem okM_64 : kd64.all (okE 64) = true := by decide +kernel
set_option maxRecDepth 20000 in
theorem okM_65 : kd65.all (okE 65) = true := by decide +kernel
set_option maxRecDepth 20000 in
theorem okM_66 : kd66.all (okE 66) = true := by decide +kernel
set_option maxRecDepth 20000 in
theorem okM_67 : kd67.all (okE 67) = true := by decide +kernel
set_option maxRecDepth 20000 in
theorem okM_68 : kd68.all (okE 68) = true := by decide +kernel
set_option maxRecDepth 20000 in
theorem okM_69 : kd69.all (okE 69) = true := by decide +kernel
set_option maxRecDepth 20000 in
theorem okM_70 : kd70.all (okE 70) = true := by decide +kernel
set_option maxRecDepth 20000 in
theorem okM_71 : kd71.all (okE 71) = true := by decide +kernel
set_option maxRecDepth 20000 in
theorem okM_72 : kd72.all (okE 72) = true := by decide +kernel
set_option maxRecDepth 20000 in
theorem okM_73_0 : ((kd73.drop 0).take 60).all (okE 73) = true := by decide +kernel
set_option maxRecDepth 20000 in
theorem okM_73_60 : ((kd73.drop 60).take 60).all (okE 73) = true := by decide +kernel
theorem okM_73 : kd73.all (okE 73) = true := all_d0 (all_dt (l := kd73) (j := 0) 60 okM_73_0 (all_dl (l := kd73) (j := 60) (k := 60) okM_73_60 (by decide +kernel)))
set_option maxRecDepth 20000 in
theorem okM_74 : kd74.all (okE 74) = true := by decide +kernel
set_option maxRecDepth 20000 in
theorem okM_75 : kd75.all (okE 75) = true := by decide +kernel
set_option maxRecDepth 20000 in
theorem okM_76_0 : ((kd76.drop 0).take 60).all (okE 76) = true := by decide +kernel
set_option maxRecDepth 20000 in
theorem okM_76_60 : ((kd76.drop 60).take 60).all (okE 76) = true := by decide +kernel
theorem okM_76 : kd76.all (okE 76) = true := all_d0 (all_dt (l := kd76) (j := 0) 60 okM_76_0 (all_dl (l := kd76) (j := 60) (k := 60) okM_76_60 (by decide +kernel)))
set_option maxRecDepth 20000 in
theorem okM_77 : kd77.all (okE 77) = true := by decide +kernel
set_option maxRecDepth 20000 in
theorem okM_78 : kd78.all (okE 78) = true := by decide +kernel
set_option maxRecDepth 20000 in
theorem okM_79 : kd79.all (okE 79) = true := by decide +kernel
set_option maxRecDepth 20000 in
theorem okM_80 : kd80.all (okE 80) = true := by decide +kernel
set_option maxRecDepth 20000 in
theorem okM_81 : kd81.all (okE 81) = true := by decide +kernel
set_option maxRecDepth 20000 in
theorem okM_82_0 : ((kd82.drop 0).take 60).all (okE 82) = true := by decide +kernel
set_option maxRecDepth 20000 in
theorem okM_82_60 : ((kd82.drop 60).take 60).all (okE 82) = true := by decide +kernel
theorem okM_82 : kd82.all (okE 82) = true := all_d0 (all_dt (l := kd82) (j := 0) 60 okM_82_0 (all_dl (l := kd82) (j := 60) (k := 60) okM_82_60 (by decide +kernel)))
set_option maxRecDepth 20000 in
theorem okM_83 : kd83.all (okE 83) = true := by decide +kernel
set_option maxRecDepth 20000 in
theorem okM_84 : kd84.all (okE 84) = true := by decide +kernel
set_option maxRecDepth 20000 in
theorem okM_85 : kd85.all (okE 85) = true := by decide +kernel
set_option maxRecDepth 20000 in
theorem okM_86 : kd86.all (okE 86) = true := by decide +kernel
set_option maxRecDepth 20000 in
theorem okM_87 : kd87.all (okE 87) = true := by decide +kernel
end
section
set_option maxRecDepth 20000 in
theorem okM_88 : kd88.all (okE 88) = true := by decide +kernel
set_option maxRecDepth 20000 in
theorem okM_89 : kd89.all (okE 89) = true := by decide +kernel
set_option maxRecDepth 20000 in
theorem okM_90 : kd90.all (okE 90) = true := by decide +kernel
set_option maxRecDepth 20000 in
theorem okM_91 : kd91.all (okE 91) = true := by decide +kernel
set_option maxRecDepth 20000 in
theorem okM_92 : kd92.all (okE 92) = true := by decide +kernel
set_option maxRecDepth 20000 in
theorem okM_93 : kd93.all (okE 93) = true := by decide +kernel
set_option maxRecDepth 20000 in
theorem okM_94 : kd94.all (okE 94) = true := by decide +kernel
set_option maxRecDepth 20000 in
theorem okM_95 : kd95.all (okE 95) = true := by decide +kernel
set_option maxRecDepth 20000 in
theorem okM_96 : kd96.all (okE 96) = true := by decide +kernel
set_option maxRecDepth 20000 in
theorem okM_97 : kd97.all (okE 97) = true := by decide +kernel
set_option maxRecDepth 20000 in
theorem okM_98 : kd98.all (okE 98) = true := by decide +kernel
set_option maxRecDepth 20000 in
theorem okM_99 : kd99.all (okE 99) = true := by decide +kernel
set_option maxRecDepth 20000 in
theorem okM_100 : kd100.all (okE 100) = true := by decide +kernel
set_option maxRecDepth 20000 in
theorem okM_101 : kd101.all (okE 101) = true := by decide +kernel
set_option maxRecDepth 20000 in
theorem okM_102 : kd102.all (okE 102) = true := by decide +kernel
set_option maxRecDepth 20000 in
theorem okM_103 : kd103.all (okE 103) = true := by decide +kernel
set_option maxRecDepth 20000 in
theorem okM_104 : kd104.all (okE 104) = true := by decide +kernel
set_option maxRecDepth 20000 in
theorem okM_105 : kd105.all (okE 105) = true := by decide +kernel
set_option maxRecDepth 20000 in
theorem okM_106 : kd106.all (okE 106) = true := by decide +kernel
set_option maxRecDepth 20000 in
theorem okM_107 : kd107.all (okE 107) = true := by decide +kernel
set_option maxRecDepth 20000 in
theorem okM_108 : kd108.all (okE 108) = true := by decide +kernel
set_option maxRecDepth 20000 in
theorem okM_109 : kd109.all (okE 109) = true := by decide +kernel
set_option maxRecDepth 20000 in
theorem okM_110_0 : ((kd110.drop 0).take 60).all (okE 110) = true := by decide +kernel
set_option maxRecDepth 20000 in
theorem okM_110_60 : ((kd110.drop 60).take 60).all (okE 110) = true := by decide +kernel
set_option maxRecDepth 20000 in
theorem okM_110_120 : ((kd110.drop 120).take 60).all (okE 110) = true := by decide +kernel
set_option maxRecDepth 20000 in
theorem okM_110_180 : ((kd110.drop 180).take 60).all (okE 110) = true := by decide +kernel
theorem okM_110 : kd110.all (okE 110) = true := all_d0 (all_dt (l := kd110) (j := 0) 60 okM_110_0 (all_dt (l := kd110) (j := 60) 60 okM_110_60 (all_dt (l := kd110) (j := 120) 60 okM_110_120 (all_dl (l := kd110) (j := 180) (k := 60) okM_110_180 (by decide +kernel)))))
set_option maxRecDepth 20000 in
theorem okM_111 : kd111.all (okE 111) = true := by decide +kernel
set_option maxRecDepth 20000 in
theorem okM_112 : kd112.all (okE 112) = true := by decide +kernel
set_option maxRecDepth 20000 in
theorem okM_113 : kd113.all (okE 113) = true := by decide +kernel
set_option maxRecDepth 20000 in
theorem okM_114 : kd114.all (okE 114) = true := by decide +kernel
set_option maxRecDepth 20000 in
theorem okM_115 : kd115.all (okE 115) = true := by decide +kernel
set_option maxRecDepth 20000 in
theorem okM_116 : kd116.all (okE 116) = true := by decide +kernel
set_option maxRecDepth 20000 in
theorem okM_117 : kd117.all (okE 117) = true := by decide +kernel
set_option maxRecDepth 20000 in
theorem okM_118 : kd118.all (okE 118) = true := by decide +kernel
set_option maxRecDepth 20000 in
theorem okM_119 : kd119.all (okE 119) = true := by decide +kernel
set_option maxRecDepth 20000 in
theorem okM_120 : kd120.all (okE 120) = true := by decide +kernel
set_option maxRecDepth 20000 in
theorem okM_121 : kd121.all (okE 121) = true := by decide +kernel
set_option maxRecDepth 20000 in
theorem okM_122_0 : ((kd122.drop 0).take 60).all (okE 122) = true := by decide +kernel
set_option maxRecDepth 20000 in
theorem okM_122_60 : ((kd122.drop 60).take 60).all (okE 122) = true := by decide +kernel
theorem okM_122 : kd122.all (okE 122) = true := all_d0 (all_dt (l := kd122) (j := 0) 60 okM_122_0 (all_dl (l := kd122) (j := 60) (k := 60) okM_122_60 (by decide +kernel)))
set_option maxRecDepth 20000 in
theorem okM_123_0 : ((kd123.drop 0).take 60).all (okE 123) = true := by decide +kernel
set_option maxRecDepth 20000 in
theorem okM_123_60 : ((kd123.drop 60).take 60).all (okE 123) = true := by decide +kernel
theorem okM_123 : kd123.all (okE 123) = true := all_d0 (all_dt (l := kd123) (j := 0) 60 okM_123_0 (all_dl (l := kd123) (j := 60) (k := 60) okM_123_60 (by decide +kernel)))
set_option maxRecDepth 20000 in
theorem okM_124 : kd124.all (okE 124) = true := by decide +kernel
set_option maxRecDepth 20000 in
theorem okM_125 : kd125.all (okE 125) = true := by decide +kernel
set_option maxRecDepth 20000 in
theorem okM_126_0 : ((kd126.drop 0).take 60).all (okE 126) = true := by decide +kernel
set_option maxRecDepth 20000 in
theorem okM_126_60 : ((kd126.drop 60).take 60).all (okE 126) = true := by decide +kernel
theorem okM_126 : kd126.all (okE 126) = true := all_d0 (all_dt (l := kd126) (j := 0) 60 okM_126_0 (all_dl (l := kd126) (j := 60) (k := 60) okM_126_60 (by decide +kernel)))
set_option maxRecDepth 20000 in
theorem okM_127 : kd127.all (okE 127) = true := by decide +kernel
set_option maxRecDepth 20000 in
theorem okM_128 : kd128.all (okE 128) = true := by decide +kernel
set_option maxRecDepth 20000 in
theorem okM_129 : kd129.all (okE 129) = true := by decide +kernel
set_option maxRecDepth 20000 in
theorem okM_130 : kd130.all (okE 130) = true := by decide +kernel
set_option maxRecDepth 20000 in
theorem okM_131 : kd131.all (okE 131) = true := by decide +kernel
set_option maxRecDepth 20000 in
theorem okM_132 : kd132.all (okE 132) = true := by decide +kernel
set_option maxRecDepth 20000 in
theorem okM_133 : kd133.all (okE 133) = true := by decide +kernel
set_option maxRecDepth 20000 in
theorem okM_134 : kd134.all (okE 134) = true := by decide +kernel
set_option maxRecDepth 20000 in
theorem okM_135 : kd135.all (okE 135) = true := by decide +kernel
set_option maxRecDepth 20000 in
theorem okM_136 : kd136.all (okE 136) = true := by decide +kernel
set_option maxRecDepth 20000 in
theorem okM_137 : kd137.all (okE 137) = true := by decide +kernel
set_option maxRecDepth 20000 in
theorem okM_138 : kd138.all (okE 138) = true := by decide +kernel
set_option maxRecDepth 20000 in
theorem okM_139 : kd139.all (okE 139) = true := by decide +kernel
set_option maxRecDepth 20000 in
theorem okM_140 : kd140.all (okE 140) = true := by decide +kernel
set_option maxRecDepth 20000 in
theorem okM_141 : kd141.all (okE 141) = true := by decide +kernel
set_option maxRecDepth 20000 in
theorem okM_142 : kd142.all (okE 142) = true := by decide +kernel
set_option maxRecDepth 20000 in
theorem okM_143 : kd143.all (okE 143) = true := by decide +kernel
set_option maxRecDepth 20000 in
theorem okM_144 : kd144.all (okE 144) = true := by decide +kernel
set_option maxRecDepth 20000 in
theorem okM_145 : kd145.all (okE 145) = true := by decide +kernel
set_option maxRecDepth 20000 in
theorem okM_146_0 : ((kd146.drop 0).take 60).all (okE 146) = true := by decide +kernel
set_option maxRecDepth 20000 in
theorem okM_146_60 : ((kd146.drop 60).take 60).all (okE 146) = true := by decide +kernel
theorem okM_146 : kd146.all (okE 146) = true := all_d0 (all_dt (l := kd146) (j := 0) 60 okM_146_0 (all_dl (l := kd146) (j := 60) (k := 60) okM_146_60 (by decide +kernel)))
set_option maxRecDepth 20000 in
theorem okM_147_0 : ((kd147.drop 0).take 60).all (okE 147) = true := by decide +kernel
set_option maxRecDepth 20000 in
theorem okM_147_60 : ((kd147.drop 60).take 60).all (okE 147) = true := by decide +kernel
theorem okM_147 : kd147.all (okE 147) = true := all_d0 (all_dt (l := kd147) (j := 0) 60 okM_147_0 (all_dl (l := kd147) (j := 60) (k := 60) okM_147_60 (by decide +kernel)))
set_option maxRecDepth 20000 in
theorem okM_148_0 : ((kd148.drop 0).take 60).all (okE 148) = true := by decide +kernel
set_option maxRecDepth 20000 in
theorem okM_148_60 : ((kd148.drop 60).take 60).all (okE 148) = true := by decide +kernel
theorem okM_148 : kd148.all (okE 148) = true := all_d0 (all_dt (l := kd148) (j := 0) 60 okM_148_0 (all_dl (l := kd148) (j := 60) (k := 60) okM_148_60 (by decide +kernel)))
end
section
set_option maxRecDepth 20000 in
theorem okM_149 : kd149.all (okE 149) = true := by decide +kernel
set_option maxRecDepth 20000 in
theorem okM_150 : kd150.all (okE 150) = true := by decide +kernel
set_option maxRecDepth 20000 in
theorem okM_151 : kd151.all (okE 151) = true := by decide +kernel
set_option maxRecDepth 20000 in
theorem okM_152 : kd152.all (okE 152) = true := by decide +kernel
set_option maxRecDepth 20000 in
theorem okM_153 : kd153.all (okE 153) = true := by decide +kernel
set_option maxRecDepth 20000 in
theorem okM_154 : kd154.all (okE 154) = true := by decide +kernel
set_option maxRecDepth 20000 in
theorem okM_155 : kd155.all (okE 155) = true := by decide +kernel
set_option maxRecDepth 20000 in
theorem okM_156 : kd156.all (okE 156) = true := by decide +kernel
set_option maxRecDepth 20000 in
theorem okM_157 : kd157.all (okE 157) = true := by decide +kernel
set_option maxRecDepth 20000 in
theorem okM_158 : kd158.all (okE 158) = true := by decide +kernel
set_option maxRecDepth 20000 in
theorem okM_159_0 : ((kd159.drop 0).take 60).all (okE 159) = true := by decide +kernel
set_option maxRecDepth 20000 in
theorem okM_159_60 : ((kd159.drop 60).take 60).all (okE 159) = true := by decide +kernel
theorem okM_159 : kd159.all (okE 159) = true := all_d0 (all_dt (l := kd159) (j := 0) 60 okM_159_0 (all_dl (l := kd159) (j := 60) (k := 60) okM_159_60 (by decide +kernel)))
set_option maxRecDepth 20000 in
theorem okM_160 : kd160.all (okE 160) = true := by decide +kernel
set_option maxRecDepth 20000 in
theorem okM_161 : kd161.all (okE 161) = true := by decide +kernel
set_option maxRecDepth 20000 in
theorem okM_162 : kd162.all (okE 162) = true := by decide +kernel
set_option maxRecDepth 20000 in
theorem okM_163_0 : ((kd163.drop 0).take 60).all (okE 163) = true := by decide +kernel
set_option maxRecDepth 20000 in
theorem okM_163_60 : ((kd163.drop 60).take 60).all (okE 163) = true := by decide +kernel
set_option maxRecDepth 20000 in
theorem okM_163_120 : ((kd163.drop 120).take 60).all (okE 163) = true := by decide +kernel
theorem okM_163 : kd163.all (okE 163) = true := all_d0 (all_dt (l := kd163) (j := 0) 60 okM_163_0 (all_dt (l := kd163) (j := 60) 60 okM_163_60 (all_dl (l := kd163) (j := 120) (k := 60) okM_163_120 (by decide +kernel))))
set_option maxRecDepth 20000 in
theorem okM_164 : kd164.all (okE 164) = true := by decide +kernel
set_option maxRecDepth 20000 in
theorem okM_165 : kd165.all (okE 165) = true := by decide +kernel
set_option maxRecDepth 20000 in
theorem okM_166 : kd166.all (okE 166) = true := by decide +kernel
set_option maxRecDepth 20000 in
theorem okM_167 : kd167.all (okE 167) = true := by decide +kernel
set_option maxRecDepth 20000 in
theorem okM_168 : kd168.all (okE 168) = true := by decide +kernel
set_option maxRecDepth 20000 in
theorem okM_169 : kd169.all (okE 169) = true := by decide +kernel
set_option maxRecDepth 20000 in
theorem okM_170_0 : ((kd170.drop 0).take 60).all (okE 170) = true := by decide +kernel
set_option maxRecDepth 20000 in
theorem okM_170_60 : ((kd170.drop 60).take 60).all (okE 170) = true := by decide +kernel
theorem okM_170 : kd170.all (okE 170) = true := all_d0 (all_dt (l := kd170) (j := 0) 60 okM_170_0 (all_dl (l := kd170) (j := 60) (k := 60) okM_170_60 (by decide +kernel)))
set_option maxRecDepth 20000 in
theorem okM_171 : kd171.all (okE 171) = true := by decide +kernel
set_option maxRecDepth 20000 in
theorem okM_172 : kd172.all (okE 172) = true := by decide +kernel
set_option maxRecDepth 20000 in
theorem okM_173 : kd173.all (okE 173) = true := by decide +kernel
set_option maxRecDepth 20000 in
theorem okM_174_0 : ((kd174.drop 0).take 60).all (okE 174) = true := by decide +kernel
set_option maxRecDepth 20000 in
theorem okM_174_60 : ((kd174.drop 60).take 60).all (okE 174) = true := by decide +kernel
theorem okM_174 : kd174.all (okE 174) = true := all_d0 (all_dt (l := kd174) (j := 0) 60 okM_174_0 (all_dl (l := kd174) (j := 60) (k := 60) okM_174_60 (by decide +kernel)))
set_option maxRecDepth 20000 in
theorem okM_175 : kd175.all (okE 175) = true := by decide +kernel
set_option maxRecDepth 20000 in
theorem okM_176 : kd176.all (okE 176) = true := by decide +kernel
set_option maxRecDepth 20000 in
theorem okM_177 : kd177.all (okE 177) = true := by decide +kernel
set_option maxRecDepth 20000 in
theorem okM_178 : kd178.all (okE 178) = true := by decide +kernel
set_option maxRecDepth 20000 in
theorem okM_179 : kd179.all (okE 179) = true := by decide +kernel
set_option maxRecDepth 20000 in
theorem okM_180 : kd180.all (okE 180) = true := by decide +kernel
set_option maxRecDepth 20000 in
theorem okM_181 : kd181.all (okE 181) = true := by decide +kernel
set_option maxRecDepth 20000 in
theorem okM_182 : kd182.all (okE 182) = true := by decide +kernel
set_option maxRecDepth 20000 in
theorem okM_183 : kd183.all (okE 183) = true := by decide +kernel
set_option maxRecDepth 20000 in
theorem okM_184 : kd184.all (okE 184) = true := by decide +kernel
set_option maxRecDepth 20000 in
theorem okM_185 : kd185.all (okE 185) = true := by decide +kernel
set_option maxRecDepth 20000 in
theorem okM_186 : kd186.all (okE 186) = true := by decide +kernel
set_option maxRecDepth 20000 in
theorem okM_187 : kd187.all (okE 187) = true := by decide +kernel
set_option maxRecDepth 20000 in
theorem okM_188 : kd188.all (okE 188) = true := by decide +kernel
set_option maxRecDepth 20000 in
theorem okM_189 : kd189.all (okE 189) = true := by decide +kernel
set_option maxRecDepth 20000 in
theorem okM_190 : kd190.all (okE 190) = true := by decide +kernel
set_option maxRecDepth 20000 in
theorem okM_191 : kd191.all (okE 191) = true := by decide +kernel
set_option maxRecDepth 20000 in
theorem okM_192 : kd192.all (okE 192) = true := by decide +kernel
set_option maxRecDepth 20000 in
theorem okM_193 : kd193.all (okE 193) = true := by decide +kernel
set_option maxRecDepth 20000 in
theorem okM_194 : kd194.all (okE 194) = true := by decide +kernel
end
section
set_option maxRecDepth 20000 in
theorem okM_195 : kd195.all (okE 195) = true := by decide +kernel
set_option maxRecDepth 20000 in
theorem okM_196_0 : ((kd196.drop 0).take 60).all (okE 196) = true := by decide +kernel
set_option maxRecDepth 20000 in
theorem okM_196_60 : ((kd196.drop 60).take 60).all (okE 196) = true := by decide +kernel
theorem okM_196 : kd196.all (okE 196) = true := all_d0 (all_dt (l := kd196) (j := 0) 60 okM_196_0 (all_dl (l := kd196) (j := 60) (k := 60) okM_196_60 (by decide +kernel)))
set_option maxRecDepth 20000 in
theorem okM_197_0 : ((kd197.drop 0).take 60).all (okE 197) = true := by decide +kernel
set_option maxRecDepth 20000 in
theorem okM_197_60 : ((kd197.drop 60).take 60).all (okE 197) = true := by decide +kernel
theorem okM_197 : kd197.all (okE 197) = true := all_d0 (all_dt (l := kd197) (j := 0) 60 okM_197_0 (all_dl (l := kd197) (j := 60) (k := 60) okM_197_60 (by decide +kernel)))
set_option maxRecDepth 20000 in
theorem okM_198_0 : ((kd198.drop 0).take 60).all (okE 198) = true := by decide +kernel
set_option maxRecDepth 20000 in
theorem okM_198_60 : ((kd198.drop 60).take 60).all (okE 198) = true := by decide +kernel
theorem okM_198 : kd198.all (okE 198) = true := all_d0 (all_dt (l := kd198) (j := 0) 60 okM_198_0 (all_dl (l := kd198) (j := 60) (k := 60) okM_198_60 (by decide +kernel)))
set_option maxRecDepth 20000 in
theorem okM_199 : kd199.all (okE 199) = true := by decide +kernel
set_option maxRecDepth 20000 in
theorem okM_200 : kd200.all (okE 200) = true := by decide +kernel
set_option maxRecDepth 20000 in
theorem okM_201 : kd201.all (okE 201) = true := by decide +kernel
set_option maxRecDepth 20000 in
theorem okM_202 : kd202.all (okE 202) = true := by decide +kernel
set_option maxRecDepth 20000 in
theorem okM_203 : kd203.all (okE 203) = true := by decide +kernel
set_option maxRecDepth 20000 in
theorem okM_204 : kd204.all (okE 204) = true := by decide +kernel
set_option maxRecDepth 20000 in
theorem okM_205 : kd205.all (okE 205) = true := by decide +kernel
set_option maxRecDepth 20000 in
theorem okM_206 : kd206.all (okE 206) = true := by decide +kernel
set_option maxRecDepth 20000 in
theorem okM_207 : kd207.all (okE 207) = true := by decide +kernel
set_option maxRecDepth 20000 in
theorem okM_208 : kd208.all (okE 208) = true := by decide +kernel
set_option maxRecDepth 20000 in
theorem okM_209 : kd209.all (okE 209) = true := by decide +kernel
set_option maxRecDepth 20000 in
theorem okM_210 : kd210.all (okE 210) = true := by decide +kernel
set_option maxRecDepth 20000 in
theorem okM_211 : kd211.all (okE 211) = true := by decide +kernel
set_option maxRecDepth 20000 in
theorem okM_212 : kd212.all (okE 212) = true := by decide +kernel
set_option maxRecDepth 20000 in
theorem okM_213 : kd213.all (okE 213) = true := by decide +kernel
set_option maxRecDepth 20000 in
theorem okM_214_0 : ((kd214.drop 0).take 60).all (okE 214) = true := by decide +kernel
set_option maxRecDepth 20000 in
theorem okM_214_60 : ((kd214.drop 60).take 60).all (okE 214) = true := by decide +kernel
set_option maxRecDepth 20000 in
theorem okM_214_120 : ((kd214.drop 120).take 60).all (okE 214) = true := by decide +kernel
set_option maxRecDepth 20000 in
theorem okM_214_180 : ((kd214.drop 180).take 60).all (okE 214) = true := by decide +kernel
set_option maxRecDepth 20000 in
theorem okM_214_240 : ((kd214.drop 240).take 60).all (okE 214) = true := by decide +kernel
set_option maxRecDepth 20000 in
theorem okM_214_300 : ((kd214.drop 300).take 60).all (okE 214) = true := by decide +kernel
set_option maxRecDepth 20000 in
theorem okM_214_360 : ((kd214.drop 360).take 60).all (okE 214) = true := by decide +kernel
set_option maxRecDepth 20000 in
theorem okM_214_420 : ((kd214.drop 420).take 60).all (okE 214) = true := by decide +kernel
set_option maxRecDepth 20000 in
theorem okM_214_480 : ((kd214.drop 480).take 60).all (okE 214) = true := by decide +kernel
set_option maxRecDepth 20000 in
theorem okM_214_540 : ((kd214.drop 540).take 60).all (okE 214) = true := by decide +kernel
set_option maxRecDepth 20000 in
theorem okM_214_600 : ((kd214.drop 600).take 60).all (okE 214) = true := by decide +kernel
set_option maxRecDepth 20000 in
theorem okM_214_660 : ((kd214.drop 660).take 60).all (okE 214) = true := by decide +kernel
set_option maxRecDepth 20000 in
theorem okM_214_720 : ((kd214.drop 720).take 60).all (okE 214) = true := by decide +kernel
set_option maxRecDepth 20000 in
theorem okM_214_780 : ((kd214.drop 780).take 60).all (okE 214) = true := by decide +kernel
set_option maxRecDepth 20000 in
theorem okM_214_840 : ((kd214.drop 840).take 60).all (okE 214) = true := by decide +kernel
theorem okM_214 : kd214.all (okE 214) = true := all_d0 (all_dt (l := kd214) (j := 0) 60 okM_214_0 (all_dt (l := kd214) (j := 60) 60 okM_214_60 (all_dt (l := kd214) (j := 120) 60 okM_214_120 (all_dt (l := kd214) (j := 180) 60 okM_214_180 (all_dt (l := kd214) (j := 240) 60 okM_214_240 (all_dt (l := kd214) (j := 300) 60 okM_214_300 (all_dt (l := kd214) (j := 360) 60 okM_214_360 (all_dt (l := kd214) (j := 420) 60 okM_214_420 (all_dt (l := kd214) (j := 480) 60 okM_214_480 (all_dt (l := kd214) (j := 540) 60 okM_214_540 (all_dt (l := kd214) (j := 600) 60 okM_214_600 (all_dt (l := kd214) (j := 660) 60 okM_214_660 (all_dt (l := kd214) (j := 720) 60 okM_214_720 (all_dt (l := kd214) (j := 780) 60 okM_214_780 (all_dl (l := kd214) (j := 840) (k := 60) okM_214_840 (by decide +kernel))))))))))))))))
end
section
/-! THE ABSTRACT MACHINE: the program's methods run over two tables of numbers (ints and longs of every object, by the object's number); references never change once all is made. -/
abbrev LV : Type := List (Option Value)
/-- ints, longs, how many exceptions were made, the script's length -/
abbrev Hp : Type := (Nat → Nat → Int32) × (Nat → Nat → Int64) × Nat × Nat
def setI (h : Hp) (a j : Nat) (x : Int32) : Hp := (fun a' => if a' = a then upd (h.1 a) j x else h.1 a', h.2)
def setL (h : Hp) (a j : Nat) (x : Int64) : Hp := (h.1, fun a' => if a' = a then vp_updL (h.2.1 a) j x else h.2.1 a', h.2.2)
def tick (h : Hp) : Hp := (h.1, h.2.1, h.2.2.1 + 1, h.2.2.2)
def kl : Option Value → Option Value
  | some (.long _) => none
  | some (.double _) => none
  | o => o
def st1 (lv : LV) (i : Nat) (v : Value) : LV := match i with
  | 0 => lv.set 0 (some v)
  | k + 1 => (lv.modify k kl).set (k + 1) (some v)
def st2 (lv : LV) (i : Nat) (v : Value) : LV := (st1 lv i v).set (i + 1) none
def ent (n : Nat) (as : List Value) : LV := (as.flatMap (fun v => if v.category = 2 then [some v, none] else [some v])) ++ List.replicate (n - (as.flatMap (fun v => if v.category = 2 then [some v, none] else [some v])).length) none
/-- a jump's goal -/
def jmp (pc : Nat) (off : Int) : Nat := ((pc : Int) + off).toNat
def jok (pc : Nat) (off : Int) : Bool := decide (0 ≤ (pc : Int) + off)
def ldv (lv : LV) (i : Nat) : Option Value := (lv[i]?).join
/-- where a switch goes -/
def swT (dflt lo hi : Int) (offs : Array Int) (x : Int32) : Int := if x.toInt < lo ∨ hi < x.toInt then dflt else (offs[(x.toInt - lo).toNat]?).getD 0
/-- one instruction that is no call and no end -/
def stp (ins : Instr) (r pc : Nat) (lv : LV) (st : List Value) (h : Hp) : Option (Nat × LV × List Value × Hp) := match ins with
  | .iconst n => some (pc + 1, lv, .int (Int32.ofInt n) :: st, h)
  | .bipush n => some (pc + 2, lv, .int (Int8.ofInt n).toInt32 :: st, h)
  | .sipush n => some (pc + 3, lv, .int (Int16.ofInt n).toInt32 :: st, h)
  | .lconst n => some (pc + 1, lv, .long (Int64.ofNat n.val) :: st, h)
  | .ldc _ => some (pc + 2, lv, .int (kI r) :: st, h)
  | .ldc_w _ => some (pc + 3, lv, .int (kI r) :: st, h)
  | .ldc2_w _ => some (pc + 3, lv, .long (kL r) :: st, h)
  | .iload i => match ldv lv i with
    | some (.int x) => some (pc + 2, lv, .int x :: st, h)
    | _ => none
  | .iload_n i => match ldv lv i.val with
    | some (.int x) => some (pc + 1, lv, .int x :: st, h)
    | _ => none
  | .lload i => match ldv lv i with
    | some (.long x) => some (pc + 2, lv, .long x :: st, h)
    | _ => none
  | .lload_n i => match ldv lv i.val with
    | some (.long x) => some (pc + 1, lv, .long x :: st, h)
    | _ => none
  | .aload i => match ldv lv i with
    | some (.ref x) => some (pc + 2, lv, .ref x :: st, h)
    | _ => none
  | .aload_n i => match ldv lv i.val with
    | some (.ref x) => some (pc + 1, lv, .ref x :: st, h)
    | _ => none
  | .istore i => match st with
    | .int x :: st => if i < lv.length then some (pc + 2, st1 lv i (.int x), st, h) else none
    | _ => none
  | .istore_n i => match st with
    | .int x :: st => if i.val < lv.length then some (pc + 1, st1 lv i.val (.int x), st, h) else none
    | _ => none
  | .lstore i => match st with
    | .long x :: st => if i + 1 < lv.length then some (pc + 2, st2 lv i (.long x), st, h) else none
    | _ => none
  | .lstore_n i => match st with
    | .long x :: st => if i.val + 1 < lv.length then some (pc + 1, st2 lv i.val (.long x), st, h) else none
    | _ => none
  | .astore_n i => match st with
    | .ref x :: st => if i.val < lv.length then some (pc + 1, st1 lv i.val (.ref x), st, h) else none
    | _ => none
  | .iinc i n => match ldv lv i with
    | some (.int x) => if i < lv.length then some (pc + 3, st1 lv i (.int (x + Int32.ofInt n)), st, h) else none
    | _ => none
  | .iadd => match st with
    | .int y :: .int x :: st => some (pc + 1, lv, .int (x + y) :: st, h)
    | _ => none
  | .isub => match st with
    | .int y :: .int x :: st => some (pc + 1, lv, .int (x - y) :: st, h)
    | _ => none
  | .imul => match st with
    | .int y :: .int x :: st => some (pc + 1, lv, .int (x * y) :: st, h)
    | _ => none
  | .irem => match st with
    | .int y :: .int x :: st => if y = 0 then none else some (pc + 1, lv, .int (x - x / y * y) :: st, h)
    | _ => none
  | .iand => match st with
    | .int y :: .int x :: st => some (pc + 1, lv, .int (x &&& y) :: st, h)
    | _ => none
  | .ior => match st with
    | .int y :: .int x :: st => some (pc + 1, lv, .int (x ||| y) :: st, h)
    | _ => none
  | .ixor => match st with
    | .int y :: .int x :: st => some (pc + 1, lv, .int (x ^^^ y) :: st, h)
    | _ => none
  | .ishl => match st with
    | .int y :: .int x :: st => some (pc + 1, lv, .int (x <<< (y &&& 31)) :: st, h)
    | _ => none
  | .ishr => match st with
    | .int y :: .int x :: st => some (pc + 1, lv, .int (x >>> (y &&& 31)) :: st, h)
    | _ => none
  | .iushr => match st with
    | .int y :: .int x :: st => some (pc + 1, lv, .int (x.toUInt32 >>> (y.toUInt32 &&& Int32.toUInt32 31)).toInt32 :: st, h)
    | _ => none
  | .ineg => match st with
    | .int x :: st => some (pc + 1, lv, .int (-x) :: st, h)
    | _ => none
  | .ladd => match st with
    | .long y :: .long x :: st => some (pc + 1, lv, .long (x + y) :: st, h)
    | _ => none
  | .lsub => match st with
    | .long y :: .long x :: st => some (pc + 1, lv, .long (x - y) :: st, h)
    | _ => none
  | .lmul => match st with
    | .long y :: .long x :: st => some (pc + 1, lv, .long (x * y) :: st, h)
    | _ => none
  | .lxor => match st with
    | .long y :: .long x :: st => some (pc + 1, lv, .long (x ^^^ y) :: st, h)
    | _ => none
  | .ldiv => match st with
    | .long y :: .long x :: st => if y = 0 then none else some (pc + 1, lv, .long (x / y) :: st, h)
    | _ => none
  | .lrem => match st with
    | .long y :: .long x :: st => if y = 0 then none else some (pc + 1, lv, .long (x - x / y * y) :: st, h)
    | _ => none
  | .lneg => match st with
    | .long x :: st => some (pc + 1, lv, .long (-x) :: st, h)
    | _ => none
  | .lcmp => match st with
    | .long y :: .long x :: st => some (pc + 1, lv, .int (lg_cmp x y) :: st, h)
    | _ => none
  | .i2l => match st with
    | .int x :: st => some (pc + 1, lv, .long x.toInt64 :: st, h)
    | _ => none
  | .l2i => match st with
    | .long x :: st => some (pc + 1, lv, .int x.toInt32 :: st, h)
    | _ => none
  | .i2b => match st with
    | .int x :: st => some (pc + 1, lv, .int x.toInt8.toInt32 :: st, h)
    | _ => none
  | .dup => match st with
    | .int x :: st => some (pc + 1, lv, .int x :: .int x :: st, h)
    | .ref x :: st => some (pc + 1, lv, .ref x :: .ref x :: st, h)
    | _ => none
  | .dup2 => match st with
    | .int x :: .ref y :: st => some (pc + 1, lv, .int x :: .ref y :: .int x :: .ref y :: st, h)
    | _ => none
  | .pop => match st with
    | .int _ :: st => some (pc + 1, lv, st, h)
    | _ => none
  | .ifCond c off => match st with
    | .int x :: st => if jok pc off then some (match c with
      | .eq => if x = 0 then jmp pc off else pc + 3
      | .ne => if x = 0 then pc + 3 else jmp pc off
      | .lt => if x < 0 then jmp pc off else pc + 3
      | .ge => if 0 ≤ x then jmp pc off else pc + 3
      | .gt => if 0 < x then jmp pc off else pc + 3
      | .le => if x ≤ 0 then jmp pc off else pc + 3, lv, st, h) else none
    | _ => none
  | .if_icmp c off => match st with
    | .int y :: .int x :: st => if jok pc off then some (match c with
      | .eq => if x = y then jmp pc off else pc + 3
      | .ne => if x = y then pc + 3 else jmp pc off
      | .lt => if x < y then jmp pc off else pc + 3
      | .ge => if y ≤ x then jmp pc off else pc + 3
      | .gt => if y < x then jmp pc off else pc + 3
      | .le => if x ≤ y then jmp pc off else pc + 3, lv, st, h) else none
    | _ => none
  | .goto off => if jok pc off then some (jmp pc off, lv, st, h) else none
  | .tableswitch dflt lo hi offs => match st with
    | .int x :: st => if (x.toInt < lo ∨ hi < x.toInt ∨ (x.toInt - lo).toNat < offs.size) ∧ jok pc (swT dflt lo hi offs x) then some (jmp pc (swT dflt lo hi offs x), lv, st, h) else none
    | _ => none
  | .lookupswitch dflt ps => match st with
    | .int x :: st => if (ps.toList.zip (ps.toList.drop 1)).all (fun (a, next) => a.1 < next.1) = true ∧ jok pc (Op.lookupswitch.offset ps.toList dflt x.toInt) then some (jmp pc (Op.lookupswitch.offset ps.toList dflt x.toInt), lv, st, h) else none
    | _ => none
  | .getfield _ => match st with
    | .ref a :: st => if shp a = some (0, r / 64) then (match fK (r / 64) (r % 64) with
      | 0 => some (pc + 3, lv, .int (h.1 a (r % 64)) :: st, h)
      | 3 => some (pc + 3, lv, .int (h.1 a (r % 64)) :: st, h)
      | 1 => some (pc + 3, lv, .long (h.2.1 a (r % 64)) :: st, h)
      | 2 => (match RT a (r % 64) with
        | some k => some (pc + 3, lv, .ref k :: st, h)
        | none => none)
      | _ => none) else none
    | _ => none
  | .putfield _ => match st with
    | .int x :: .ref a :: st => if shp a = some (0, r / 64) ∧ (fK (r / 64) (r % 64) = 0 ∨ (fK (r / 64) (r % 64) = 3 ∧ (x = 0 ∨ x = 1))) then some (pc + 3, lv, st, setI h a (r % 64) x) else none
    | .long x :: .ref a :: st => if shp a = some (0, r / 64) ∧ fK (r / 64) (r % 64) = 1 then some (pc + 3, lv, st, setL h a (r % 64) x) else none
    | _ => none
  | .iaload => match st with
    | .int i :: .ref a :: st => if a = 1000 then (if 0 ≤ i.toInt ∧ i.toInt < h.2.2.2 then some (pc + 1, lv, .int (h.1 1000 i.toNatClampNeg) :: st, h) else none) else (match shp a with
      | some (1, n) => if 0 ≤ i.toInt ∧ i.toInt < n then some (pc + 1, lv, .int (h.1 a i.toNatClampNeg) :: st, h) else none
      | _ => none)
    | _ => none
  | .baload => match st with
    | .int i :: .ref a :: st => match shp a with
      | some (2, n) => if 0 ≤ i.toInt ∧ i.toInt < n then some (pc + 1, lv, .int (h.1 a i.toNatClampNeg) :: st, h) else none
      | some (3, n) => if 0 ≤ i.toInt ∧ i.toInt < n then some (pc + 1, lv, .int (h.1 a i.toNatClampNeg) :: st, h) else none
      | _ => none
    | _ => none
  | .laload => match st with
    | .int i :: .ref a :: st => match shp a with
      | some (4, n) => if 0 ≤ i.toInt ∧ i.toInt < n then some (pc + 1, lv, .long (h.2.1 a i.toNatClampNeg) :: st, h) else none
      | _ => none
    | _ => none
  | .aaload => match st with
    | .int i :: .ref a :: st => match shp a with
      | some (5, n) => if 0 ≤ i.toInt ∧ i.toInt < n then (match RT a i.toNatClampNeg with
        | some k => some (pc + 1, lv, .ref k :: st, h)
        | none => none) else none
      | some (6, n) => if 0 ≤ i.toInt ∧ i.toInt < n then (match RT a i.toNatClampNeg with
        | some k => some (pc + 1, lv, .ref k :: st, h)
        | none => none) else none
      | _ => none
    | _ => none
  | .iastore => match st with
    | .int x :: .int i :: .ref a :: st => match shp a with
      | some (1, n) => if 0 ≤ i.toInt ∧ i.toInt < n then some (pc + 1, lv, st, setI h a i.toNatClampNeg x) else none
      | _ => none
    | _ => none
  | .bastore => match st with
    | .int x :: .int i :: .ref a :: st => match shp a with
      | some (2, n) => if 0 ≤ i.toInt ∧ i.toInt < n then some (pc + 1, lv, st, setI h a i.toNatClampNeg (vp_nar .byte x)) else none
      | some (3, n) => if 0 ≤ i.toInt ∧ i.toInt < n then some (pc + 1, lv, st, setI h a i.toNatClampNeg (vp_nar .boolean x)) else none
      | _ => none
    | _ => none
  | .lastore => match st with
    | .long x :: .int i :: .ref a :: st => match shp a with
      | some (4, n) => if 0 ≤ i.toInt ∧ i.toInt < n then some (pc + 1, lv, st, setL h a i.toNatClampNeg x) else none
      | _ => none
    | _ => none
  | .arraylength => match st with
    | .ref a :: st => if a = 1000 then some (pc + 1, lv, .int (Int32.ofNat h.2.2.2) :: st, h) else none
    | _ => none
  | _ => none
/-- 0: a plain instruction, 1: a call, 2: an end -/
def isC : Instr → Nat
  | .invokestatic _ => 1
  | .invokevirtual _ => 1
  | .ireturn => 2
  | .lreturn => 2
  | .return_ => 2
  | .new _ => 2
  | _ => 0
/-- what a method's end says: an answer, or that it throws -/
def fin (i pc : Nat) (st : List Value) : Option (Option (Option Value)) := match mCd i pc with
  | some (.ireturn, _, _) => match st with
    | [.int v] => match mRt i with
      | some .int => some (some (some (.int v)))
      | some .boolean => if v = 0 ∨ v = 1 then some (some (some (.int v))) else none
      | _ => none
    | _ => none
  | some (.lreturn, _, _) => match st with
    | [.long v] => match mRt i with
      | some .long => some (some (some (.long v)))
      | _ => none
    | _ => none
  | some (.return_, _, _) => match st with
    | [] => match mRt i with
      | none => some (some none)
      | _ => none
    | _ => none
  | some (.new _, _, _) => match st with
    | [] => some none
    | _ => none
  | _ => none
def nAr (r : Nat) : Nat := if mSt r then mNp r else mNp r + 1
def isSt : Instr → Bool
  | .invokestatic _ => true
  | _ => false
/-- a call's arguments, and what stays -/
def cargs (ins : Instr) (r : Nat) (st : List Value) : Option (List Value × List Value) :=
  if isSt ins = mSt r ∧ nAr r ≤ st.length ∧ ((st.drop (nAr r)).map (fun v => v.category)).sum ≤ 8 ∧ ((st.take (nAr r)).map (fun v => v.category)).sum ≤ mMx r then some ((st.take (nAr r)).reverse, st.drop (nAr r)) else none
/-- the receiver is of the callee's class -/
def rcv (r : Nat) (as : List Value) : Bool := match as with
  | .ref b :: _ => mSt r || decide (shp b = some (0, mCl r))
  | _ => mSt r
def toL : Value → Int64
  | .int v => v.toInt64
  | .long v => v
  | _ => 0
/-- a wrapper's last argument: the array that takes the answer -/
def wOut (as : List Value) : Option Nat := match as.getLast? with
  | some (.ref o) => if shp o = some (4, 1) then some o else none
  | _ => none
def exec : Nat → Nat → Nat → Nat → LV → List Value → Hp → Option (Nat × List Value × Hp)
  | 0, _, _, _, _, _, _ => none
  | f + 1, d, mi, pc, lv, st, h => match mCd mi pc with
    | none => none
    | some (ins, _, r) => match isC ins with
      | 0 => match stp ins r pc lv st h with
        | none => none
        | some (pc', lv', st', h') => exec f d mi pc' lv' st' h'
      | 1 => match d with
        | 0 => none
        | d' + 1 => match cargs ins r st with
          | none => none
          | some (as, rest) => match wrp r with
            | none => if rcv r as then (match exec f d' r 0 (ent (mMx r) as) [] h with
              | none => none
              | some (pc', st', h') => match fin r pc' st' with
                | some (some v) => exec f (d' + 1) mi (pc + 3) lv (v.toList ++ rest) h'
                | _ => none) else none
            | some tg => match d' with
              | 0 => none
              | d'' + 1 => match wOut as with
                | none => none
                | some o => if rcv tg as.dropLast = true ∧ 6 ≤ d'' then (match exec f d'' tg 0 (ent (mMx tg) as.dropLast) [] h with
                  | none => none
                  | some (pc', st', h') => match fin tg pc' st' with
                    | some (some (some v)) => exec f (d'' + 1 + 1) mi (pc + 3) lv (.int 0 :: rest) (setL h' o 0 (toL v))
                    | some none => exec f (d'' + 1 + 1) mi (pc + 3) lv (.int 1 :: rest) (tick h')
                    | _ => none) else none
      | _ => some (pc, st, h)
theorem exec_succ : ∀ (f d mi pc : Nat) (lv : LV) (st : List Value) (h : Hp) (x : Nat × List Value × Hp), exec f d mi pc lv st h = some x → exec (f + 1) d mi pc lv st h = some x := by
  intro f
  induction f with
  | zero => intro d mi pc lv st h x hx; simp [exec] at hx
  | succ f ih =>
    intro d mi pc lv st h x hx
    unfold exec at hx ⊢
    split at hx
    · cases hx
    · rename_i ins len r hc
      split at hx
      · split at hx
        · cases hx
        · exact ih _ _ _ _ _ _ _ hx
      · split at hx
        · cases hx
        · split at hx
          · cases hx
          · split at hx
            · rename_i hw
              split at hx
              · rename_i hr
                rw [if_pos hr]
                split at hx
                · cases hx
                · rename_i he
                  rw [ih _ _ _ _ _ _ _ he]
                  dsimp only
                  split at hx
                  · rename_i hfin
                    exact ih _ _ _ _ _ _ _ hx
                  · cases hx
              · cases hx
            · rename_i hw
              split at hx
              · cases hx
              · split at hx
                · cases hx
                · split at hx
                  · rename_i hr
                    rw [if_pos hr]
                    split at hx
                    · cases hx
                    · rename_i he
                      rw [ih _ _ _ _ _ _ _ he]
                      dsimp only
                      split at hx
                      · exact ih _ _ _ _ _ _ _ hx
                      · exact ih _ _ _ _ _ _ _ hx
                      · cases hx
                  · cases hx
      · exact hx
theorem exec_mono {f g d mi pc : Nat} {lv : LV} {st : List Value} {h : Hp} {x : Nat × List Value × Hp} (hfg : f ≤ g) (hx : exec f d mi pc lv st h = some x) : exec g d mi pc lv st h = some x := by
  obtain ⟨k, rfl⟩ := Nat.exists_eq_add_of_le hfg
  induction k with
  | zero => exact hx
  | succ k ih => exact exec_succ _ _ _ _ _ _ _ _ (ih (Nat.le_add_right _ _))
/-- from here the method comes to an end, and of that Q holds -/
def WP (d mi pc : Nat) (lv : LV) (st : List Value) (h : Hp) (Q : Option (Option Value) → Hp → Prop) : Prop :=
  ∃ (f pc' : Nat) (st' : List Value) (h' : Hp) (o : Option (Option Value)), exec f d mi pc lv st h = some (pc', st', h') ∧ fin mi pc' st' = some o ∧ Q o h'
theorem WP.mono {d mi pc : Nat} {lv : LV} {st : List Value} {h : Hp} {Q Q' : Option (Option Value) → Hp → Prop} (hw : WP d mi pc lv st h Q) (hq : ∀ o h', Q o h' → Q' o h') : WP d mi pc lv st h Q' := by
  obtain ⟨f, pc', st', h', o, a, b, c⟩ := hw
  exact ⟨f, pc', st', h', o, a, b, hq _ _ c⟩
def stpAt (mi pc : Nat) (lv : LV) (st : List Value) (h : Hp) : Option (Nat × LV × List Value × Hp) := match mCd mi pc with
  | some (ins, _, r) => if isC ins = 0 then stp ins r pc lv st h else none
  | none => none
/-- a plain instruction -/
theorem WP_st {d mi pc pc' : Nat} {lv lv' : LV} {st st' : List Value} {h h' : Hp} {Q : Option (Option Value) → Hp → Prop} (hs : stpAt mi pc lv st h = some (pc', lv', st', h')) : WP d mi pc lv st h Q ↔ WP d mi pc' lv' st' h' Q := by
  unfold stpAt at hs
  split at hs
  · rename_i ins len r hc
    split at hs
    · rename_i hi
      constructor
      · rintro ⟨f, pE, sE, hE, o, a, b, q⟩
        cases f with
        | zero => simp [exec] at a
        | succ f =>
          unfold exec at a
          rw [hc] at a
          simp only [hi, hs] at a
          exact ⟨f, pE, sE, hE, o, a, b, q⟩
      · rintro ⟨f, pE, sE, hE, o, a, b, q⟩
        refine ⟨f + 1, pE, sE, hE, o, ?_, b, q⟩
        unfold exec
        rw [hc]
        simp only [hi, hs]
        exact a
    · cases hs
  · cases hs
/-- an end -/
theorem WP_end {d mi pc : Nat} {lv : LV} {st : List Value} {h : Hp} {Q : Option (Option Value) → Hp → Prop} {o : Option (Option Value)} {ins : Instr} {n r : Nat} (hc : mCd mi pc = some (ins, n, r)) (hi : isC ins = 2) (hf : fin mi pc st = some o) : WP d mi pc lv st h Q ↔ Q o h := by
  constructor
  · rintro ⟨f, pE, sE, hE, o', a, b, q⟩
    cases f with
    | zero => simp [exec] at a
    | succ f =>
      unfold exec at a
      rw [hc] at a
      simp only [hi] at a
      cases a
      rw [hf] at b
      cases b
      exact q
  · intro q
    refine ⟨1, pc, st, h, o, ?_, hf, q⟩
    unfold exec
    rw [hc]
    simp only [hi]
/-- a call -/
theorem WP_call {d mi pc : Nat} {lv : LV} {st as rest : List Value} {h : Hp} {Q : Option (Option Value) → Hp → Prop} {ins : Instr} {n r : Nat} (hc : mCd mi pc = some (ins, n, r)) (hi : isC ins = 1) (hw : wrp r = none) (ha : cargs ins r st = some (as, rest)) (hr : rcv r as = true) : WP (d + 1) mi pc lv st h Q ↔ WP d r 0 (ent (mMx r) as) [] h (fun o h' => match o with
    | some v => WP (d + 1) mi (pc + 3) lv (v.toList ++ rest) h' Q
    | none => False) := by
  constructor
  · rintro ⟨f, pE, sE, hE, o', a, b, q⟩
    cases f with
    | zero => simp [exec] at a
    | succ f =>
      unfold exec at a
      rw [hc] at a
      simp only [hi, ha, hw, hr, if_true] at a
      split at a
      · cases a
      · rename_i he
        split at a
        · rename_i hfin
          exact ⟨f, _, _, _, _, he, hfin, f, pE, sE, hE, o', a, b, q⟩
        · cases a
  · rintro ⟨f, pE, sE, hE, o', a, b, q⟩
    match o', b, q with
    | some v, b, ⟨g, pE', sE', hE', o'', a', b', q'⟩ =>
      refine ⟨max f g + 1, pE', sE', hE', o'', ?_, b', q'⟩
      unfold exec
      rw [hc]
      simp only [hi, ha, hw, hr, if_true]
      rw [exec_mono (Nat.le_max_left f g) a]
      simp only [b]
      exact exec_mono (Nat.le_max_right f g) a'
end
section
/-! Rules of the abstract machine, an instruction each: what the rows S.. stand on. -/
def isB (x : Int32) : Prop := x = 0 ∨ x = 1
theorem isB_0 : isB 0 := Or.inl rfl
theorem isB_1 : isB 1 := Or.inr rfl
def RV (a k : Nat) : Nat := (RT a k).getD 0
/-- the place i is in the array a, of this kind -/
def okA (kd a : Nat) (i : Int32) : Prop := ∃ n, shp a = some (kd, n) ∧ 0 ≤ i.toInt ∧ i.toInt < (n : Int)
def okB (a : Nat) (i : Int32) : Prop := okA 2 a i ∨ okA 3 a i
def okR (a : Nat) (i : Int32) : Prop := (okA 5 a i ∨ okA 6 a i) ∧ (RT a i.toNatClampNeg).isSome = true
/-- what is done with an answer -/
def kR (d mi pc : Nat) (lv : LV) (rest : List Value) (Q : Option (Option Value) → Hp → Prop) : Option (Option Value) → Hp → Prop := fun o h' => match o with
  | some (some v) => WP d mi pc lv (v :: rest) h' Q
  | _ => False
def kV (d mi pc : Nat) (lv : LV) (rest : List Value) (Q : Option (Option Value) → Hp → Prop) : Option (Option Value) → Hp → Prop := fun o h' => match o with
  | some none => WP d mi pc lv rest h' Q
  | _ => False
section
variable {d mi pc : Nat} {lv : LV} {st : List Value} {h : Hp} {Q : Option (Option Value) → Hp → Prop}
theorem kR_at {rest : List Value} {v : Value} {h' : Hp} : kR d mi pc lv rest Q (some (some v)) h' ↔ WP d mi pc lv (v :: rest) h' Q := Iff.rfl
theorem kV_at {rest : List Value} {h' : Hp} : kV d mi pc lv rest Q (some none) h' ↔ WP d mi pc lv rest h' Q := Iff.rfl
theorem WP_br {c : Prop} [Decidable c] {p1 p2 : Nat} {lv' : LV} {st' : List Value} {h' : Hp} (hs : stpAt mi pc lv st h = some (if c then p1 else p2, lv', st', h')) : WP d mi pc lv st h Q ↔ if c then WP d mi p1 lv' st' h' Q else WP d mi p2 lv' st' h' Q := by
  rw [WP_st hs]
  by_cases hc : c
  · rw [if_pos hc, if_pos hc]
  · rw [if_neg hc, if_neg hc]
theorem stpAt_of {ins : Instr} {n r : Nat} (hc : mCd mi pc = some (ins, n, r)) (hi : isC ins = 0) : stpAt mi pc lv st h = stp ins r pc lv st h := by
  unfold stpAt
  rw [hc]
  simp only [hi, if_true]
theorem WP_irem {n r : Nat} {x y : Int32} (hc : mCd mi pc = some (.irem, n, r)) (hy : y ≠ 0) : WP d mi pc lv (.int y :: .int x :: st) h Q ↔ WP d mi (pc + 1) lv (.int (x - x / y * y) :: st) h Q := WP_st (by rw [stpAt_of hc rfl]; simp only [stp]; rw [if_neg hy])
theorem WP_ldiv {n r : Nat} {x y : Int64} (hc : mCd mi pc = some (.ldiv, n, r)) (hy : y ≠ 0) : WP d mi pc lv (.long y :: .long x :: st) h Q ↔ WP d mi (pc + 1) lv (.long (x / y) :: st) h Q := WP_st (by rw [stpAt_of hc rfl]; simp only [stp]; rw [if_neg hy])
theorem WP_lrem {n r : Nat} {x y : Int64} (hc : mCd mi pc = some (.lrem, n, r)) (hy : y ≠ 0) : WP d mi pc lv (.long y :: .long x :: st) h Q ↔ WP d mi (pc + 1) lv (.long (x - x / y * y) :: st) h Q := WP_st (by rw [stpAt_of hc rfl]; simp only [stp]; rw [if_neg hy])
theorem WP_getI {ix n r a : Nat} (hc : mCd mi pc = some (.getfield ix, n, r)) (hs : shp a = some (0, r / 64)) (hf : fK (r / 64) (r % 64) = 0 ∨ fK (r / 64) (r % 64) = 3) : WP d mi pc lv (.ref a :: st) h Q ↔ WP d mi (pc + 3) lv (.int (h.1 a (r % 64)) :: st) h Q := WP_st (by
  rw [stpAt_of hc rfl]
  rcases hf with hf | hf <;> simp only [stp, hs, hf, if_true])
theorem WP_getL {ix n r a : Nat} (hc : mCd mi pc = some (.getfield ix, n, r)) (hs : shp a = some (0, r / 64)) (hf : fK (r / 64) (r % 64) = 1) : WP d mi pc lv (.ref a :: st) h Q ↔ WP d mi (pc + 3) lv (.long (h.2.1 a (r % 64)) :: st) h Q := WP_st (by
  rw [stpAt_of hc rfl]
  simp only [stp, hs, hf, if_true])
theorem RT_allF : ∀ (a : Fin 109) (c : Fin 9) (k : Fin 40), shp a.val = some (0, c.val) → fK c.val k.val = 2 → (RT a.val k.val).isSome = true := by decide +kernel
theorem RT_all (a : Nat) (ha : a < 109) (c : Nat) (hc : c < 9) (k : Nat) (hk : k < 40) (h1 : shp a = some (0, c)) (h2 : fK c k = 2) : (RT a k).isSome = true := RT_allF ⟨a, ha⟩ ⟨c, hc⟩ ⟨k, hk⟩ h1 h2
theorem fK_lt : ∀ c, c < 9 → ∀ k, fK c k = 2 → k < 40 := by
  intro c hc k hk
  rcases Nat.lt_or_ge k 40 with h | h
  · exact h
  · have hl : ∀ c, c < 9 → (fKL.getD c []).length ≤ 40 := by decide +kernel
    have : fK c k = 9 := by
      unfold fK
      rw [List.getD_eq_getElem?_getD, List.getElem?_eq_none (Nat.le_trans (hl c hc) h)]
      rfl
    omega
theorem shp_lt {a : Nat} {q : Nat × Nat} (h : shp a = some q) : a < 109 := (List.getElem?_eq_some_iff.mp h).1
theorem WP_getR {ix n r a : Nat} (hc : mCd mi pc = some (.getfield ix, n, r)) (hs : shp a = some (0, r / 64)) (hf : fK (r / 64) (r % 64) = 2 ∧ r / 64 < 9) : WP d mi pc lv (.ref a :: st) h Q ↔ WP d mi (pc + 3) lv (.ref (RV a (r % 64)) :: st) h Q := WP_st (by
  rw [stpAt_of hc rfl]
  have h1 := RT_all a (shp_lt hs) _ hf.2 _ (fK_lt _ hf.2 _ hf.1) hs hf.1
  obtain ⟨k, hk⟩ := Option.isSome_iff_exists.mp h1
  simp only [stp, hs, hf.1, if_true, RV, hk, Option.getD_some])
theorem WP_putI {ix n r a : Nat} {x : Int32} (hc : mCd mi pc = some (.putfield ix, n, r)) (hs : shp a = some (0, r / 64)) (hf : fK (r / 64) (r % 64) = 0) : WP d mi pc lv (.int x :: .ref a :: st) h Q ↔ WP d mi (pc + 3) lv st (setI h a (r % 64) x) Q := WP_st (by
  rw [stpAt_of hc rfl]
  simp only [stp]
  rw [if_pos ⟨hs, Or.inl hf⟩])
theorem WP_putZ {ix n r a : Nat} {x : Int32} (hc : mCd mi pc = some (.putfield ix, n, r)) (hs : shp a = some (0, r / 64)) (hf : fK (r / 64) (r % 64) = 3) (hx : isB x) : WP d mi pc lv (.int x :: .ref a :: st) h Q ↔ WP d mi (pc + 3) lv st (setI h a (r % 64) x) Q := WP_st (by
  rw [stpAt_of hc rfl]
  simp only [stp]
  rw [if_pos ⟨hs, Or.inr ⟨hf, hx⟩⟩])
theorem WP_putL {ix n r a : Nat} {x : Int64} (hc : mCd mi pc = some (.putfield ix, n, r)) (hs : shp a = some (0, r / 64)) (hf : fK (r / 64) (r % 64) = 1) : WP d mi pc lv (.long x :: .ref a :: st) h Q ↔ WP d mi (pc + 3) lv st (setL h a (r % 64) x) Q := WP_st (by
  rw [stpAt_of hc rfl]
  simp only [stp]
  rw [if_pos ⟨hs, hf⟩])
theorem WP_iald {n r a : Nat} {i : Int32} (hc : mCd mi pc = some (.iaload, n, r)) (hi : okA 1 a i) : WP d mi pc lv (.int i :: .ref a :: st) h Q ↔ WP d mi (pc + 1) lv (.int (h.1 a i.toNatClampNeg) :: st) h Q := WP_st (by
  obtain ⟨k, h1, h2⟩ := hi
  have ha : ¬ a = 1000 := fun q => by have := shp_lt h1; omega
  rw [stpAt_of hc rfl]
  simp only [stp, h1]
  rw [if_neg ha, if_pos h2])
theorem WP_sld {n r : Nat} {i : Int32} (hc : mCd mi pc = some (.iaload, n, r)) (hi : 0 ≤ i.toInt ∧ i.toInt < h.2.2.2) : WP d mi pc lv (.int i :: .ref 1000 :: st) h Q ↔ WP d mi (pc + 1) lv (.int (h.1 1000 i.toNatClampNeg) :: st) h Q := WP_st (by
  rw [stpAt_of hc rfl]
  simp only [stp]
  rw [if_pos trivial, if_pos hi])
theorem WP_bald {n r a : Nat} {i : Int32} (hc : mCd mi pc = some (.baload, n, r)) (hi : okB a i) : WP d mi pc lv (.int i :: .ref a :: st) h Q ↔ WP d mi (pc + 1) lv (.int (h.1 a i.toNatClampNeg) :: st) h Q := WP_st (by
  rw [stpAt_of hc rfl]
  rcases hi with ⟨k, h1, h2⟩ | ⟨k, h1, h2⟩ <;> simp only [stp, h1] <;> rw [if_pos h2])
theorem WP_lald {n r a : Nat} {i : Int32} (hc : mCd mi pc = some (.laload, n, r)) (hi : okA 4 a i) : WP d mi pc lv (.int i :: .ref a :: st) h Q ↔ WP d mi (pc + 1) lv (.long (h.2.1 a i.toNatClampNeg) :: st) h Q := WP_st (by
  obtain ⟨k, h1, h2⟩ := hi
  rw [stpAt_of hc rfl]
  simp only [stp, h1]
  rw [if_pos h2])
theorem WP_aald {n r a : Nat} {i : Int32} (hc : mCd mi pc = some (.aaload, n, r)) (hi : okR a i) : WP d mi pc lv (.int i :: .ref a :: st) h Q ↔ WP d mi (pc + 1) lv (.ref (RV a i.toNatClampNeg) :: st) h Q := WP_st (by
  obtain ⟨hq, hr⟩ := hi
  obtain ⟨j, hj⟩ := Option.isSome_iff_exists.mp hr
  rw [stpAt_of hc rfl]
  rcases hq with ⟨k, h1, h2⟩ | ⟨k, h1, h2⟩ <;> simp only [stp, h1, RV, hj, Option.getD_some] <;> rw [if_pos h2])
theorem WP_iast {n r a : Nat} {i x : Int32} (hc : mCd mi pc = some (.iastore, n, r)) (hi : okA 1 a i) : WP d mi pc lv (.int x :: .int i :: .ref a :: st) h Q ↔ WP d mi (pc + 1) lv st (setI h a i.toNatClampNeg x) Q := WP_st (by
  obtain ⟨k, h1, h2⟩ := hi
  rw [stpAt_of hc rfl]
  simp only [stp, h1]
  rw [if_pos h2])
theorem WP_bast2 {n r a : Nat} {i x : Int32} (hc : mCd mi pc = some (.bastore, n, r)) (hi : okA 2 a i) : WP d mi pc lv (.int x :: .int i :: .ref a :: st) h Q ↔ WP d mi (pc + 1) lv st (setI h a i.toNatClampNeg (vp_nar .byte x)) Q := WP_st (by
  obtain ⟨k, h1, h2⟩ := hi
  rw [stpAt_of hc rfl]
  simp only [stp, h1]
  rw [if_pos h2])
theorem WP_bast3 {n r a : Nat} {i x : Int32} (hc : mCd mi pc = some (.bastore, n, r)) (hi : okA 3 a i) : WP d mi pc lv (.int x :: .int i :: .ref a :: st) h Q ↔ WP d mi (pc + 1) lv st (setI h a i.toNatClampNeg (vp_nar .boolean x)) Q := WP_st (by
  obtain ⟨k, h1, h2⟩ := hi
  rw [stpAt_of hc rfl]
  simp only [stp, h1]
  rw [if_pos h2])
theorem WP_last {n r a : Nat} {i : Int32} {x : Int64} (hc : mCd mi pc = some (.lastore, n, r)) (hi : okA 4 a i) : WP d mi pc lv (.long x :: .int i :: .ref a :: st) h Q ↔ WP d mi (pc + 1) lv st (setL h a i.toNatClampNeg x) Q := WP_st (by
  obtain ⟨k, h1, h2⟩ := hi
  rw [stpAt_of hc rfl]
  simp only [stp, h1]
  rw [if_pos h2])
theorem WP_endZ {n r : Nat} {x : Int32} (hc : mCd mi pc = some (.ireturn, n, r)) (ht : mRt mi = some .boolean) (hx : isB x) : WP d mi pc lv [.int x] h Q ↔ Q (some (some (.int x))) h := WP_end hc rfl (by
  unfold fin
  rw [hc]
  simp only [ht]
  rw [if_pos (show x = 0 ∨ x = 1 from hx)])
theorem fin_R {i : Nat} {o : Option Value} (hm : (mRt i).isSome = true) (hf : fin i pc st = some (some o)) : ∃ v, o = some v := by
  unfold fin at hf
  split at hf
  · split at hf
    · split at hf
      · exact ⟨_, (Option.some.inj (Option.some.inj hf)).symm⟩
      · split at hf
        · exact ⟨_, (Option.some.inj (Option.some.inj hf)).symm⟩
        · cases hf
      · cases hf
    · cases hf
  · split at hf
    · split at hf
      · exact ⟨_, (Option.some.inj (Option.some.inj hf)).symm⟩
      · cases hf
    · cases hf
  · split at hf
    · split at hf
      · rename_i hn
        rw [hn] at hm
        cases hm
      · cases hf
    · cases hf
  · split at hf <;> cases hf
  · cases hf
theorem fin_V {i : Nat} {o : Option Value} (hm : mRt i = none) (hf : fin i pc st = some (some o)) : o = none := by
  unfold fin at hf
  rw [hm] at hf
  split at hf
  · split at hf <;> cases hf
  · split at hf <;> cases hf
  · split at hf
    · exact (Option.some.inj (Option.some.inj hf)).symm
    · cases hf
  · split at hf <;> cases hf
  · cases hf
theorem WP_retR {r : Nat} {lv0 : LV} {rest : List Value} {d' : Nat} (hm : (mRt r).isSome = true) : WP d r 0 lv0 [] h (fun o h' => match o with
    | some v => WP d' mi pc lv (v.toList ++ rest) h' Q
    | none => False) ↔ WP d r 0 lv0 [] h (kR d' mi pc lv rest Q) := by
  constructor
  · rintro ⟨f, p', s', h', o, a, b, q⟩
    match o, b, q with
    | some o, b, q =>
      obtain ⟨v, rfl⟩ := fin_R hm b
      exact ⟨f, p', s', h', _, a, b, q⟩
  · rintro ⟨f, p', s', h', o, a, b, q⟩
    match o, b, q with
    | some (some v), b, q => exact ⟨f, p', s', h', _, a, b, q⟩
theorem WP_retV {r : Nat} {lv0 : LV} {rest : List Value} {d' : Nat} (hm : mRt r = none) : WP d r 0 lv0 [] h (fun o h' => match o with
    | some v => WP d' mi pc lv (v.toList ++ rest) h' Q
    | none => False) ↔ WP d r 0 lv0 [] h (kV d' mi pc lv rest Q) := by
  constructor
  · rintro ⟨f, p', s', h', o, a, b, q⟩
    match o, b, q with
    | some o, b, q =>
      have e := fin_V hm b
      subst e
      exact ⟨f, p', s', h', _, a, b, q⟩
  · rintro ⟨f, p', s', h', o, a, b, q⟩
    match o, b, q with
    | some none, b, q => exact ⟨f, p', s', h', _, a, b, q⟩
theorem WP_callSR {as rest : List Value} {ins : Instr} {n r : Nat} {lv0 : LV} (hc : mCd mi pc = some (ins, n, r)) (hi : (isC ins, wrp r, mSt r) = (1, none, true)) (ha : cargs ins r st = some (as, rest)) (hm : (mRt r).isSome = true) (he : ent (mMx r) as = lv0) : WP (d + 1) mi pc lv st h Q ↔ WP d r 0 lv0 [] h (kR (d + 1) mi (pc + 3) lv rest Q) := by
  subst he
  have hst : mSt r = true := (Prod.mk.inj (Prod.mk.inj hi).2).2
  rw [WP_call hc (Prod.mk.inj hi).1 (Prod.mk.inj (Prod.mk.inj hi).2).1 ha (by unfold rcv; split <;> simp [hst])]
  exact WP_retR hm
theorem WP_callSV {as rest : List Value} {ins : Instr} {n r : Nat} {lv0 : LV} (hc : mCd mi pc = some (ins, n, r)) (hi : (isC ins, wrp r, mSt r) = (1, none, true)) (ha : cargs ins r st = some (as, rest)) (hm : mRt r = none) (he : ent (mMx r) as = lv0) : WP (d + 1) mi pc lv st h Q ↔ WP d r 0 lv0 [] h (kV (d + 1) mi (pc + 3) lv rest Q) := by
  subst he
  have hst : mSt r = true := (Prod.mk.inj (Prod.mk.inj hi).2).2
  rw [WP_call hc (Prod.mk.inj hi).1 (Prod.mk.inj (Prod.mk.inj hi).2).1 ha (by unfold rcv; split <;> simp [hst])]
  exact WP_retV hm
theorem WP_callVR {as rest : List Value} {ins : Instr} {n r a ci : Nat} {lv0 : LV} (hc : mCd mi pc = some (ins, n, r)) (hi : (isC ins, wrp r, mCl r) = (1, none, ci)) (ha : cargs ins r st = some (.ref a :: as, rest)) (hm : (mRt r).isSome = true) (he : ent (mMx r) (.ref a :: as) = lv0) (hs : shp a = some (0, ci)) : WP (d + 1) mi pc lv st h Q ↔ WP d r 0 lv0 [] h (kR (d + 1) mi (pc + 3) lv rest Q) := by
  subst he
  have hcl : mCl r = ci := (Prod.mk.inj (Prod.mk.inj hi).2).2
  rw [WP_call hc (Prod.mk.inj hi).1 (Prod.mk.inj (Prod.mk.inj hi).2).1 ha (by simp only [rcv]; rw [hs, hcl]; simp)]
  exact WP_retR hm
theorem WP_callVV {as rest : List Value} {ins : Instr} {n r a ci : Nat} {lv0 : LV} (hc : mCd mi pc = some (ins, n, r)) (hi : (isC ins, wrp r, mCl r) = (1, none, ci)) (ha : cargs ins r st = some (.ref a :: as, rest)) (hm : mRt r = none) (he : ent (mMx r) (.ref a :: as) = lv0) (hs : shp a = some (0, ci)) : WP (d + 1) mi pc lv st h Q ↔ WP d r 0 lv0 [] h (kV (d + 1) mi (pc + 3) lv rest Q) := by
  subst he
  have hcl : mCl r = ci := (Prod.mk.inj (Prod.mk.inj hi).2).2
  rw [WP_call hc (Prod.mk.inj hi).1 (Prod.mk.inj (Prod.mk.inj hi).2).1 ha (by simp only [rcv]; rw [hs, hcl]; simp)]
  exact WP_retV hm
end
end
section
/-! The machine's heap and locals beside the abstract ones. -/
def tr (ad : Nat → Nat) : Value → Value
  | .ref k => .ref (ad k)
  | v => v
theorem tr_cat (ad : Nat → Nat) (v : Value) : (tr ad v).category = v.category := by cases v <;> rfl
/-- the locals -/
def LH (ad : Nat → Nat) (ls : Array Slot) (n : Nat) (lv : LV) : Prop := lv.length = n ∧ ls.size = n ∧ lv_wf ls ∧ ∀ (i : Nat) (v : Value), lv[i]? = some (some v) → ls[i]? = some (.val (tr ad v))
def asl (ad : Nat → Nat) (lv : LV) : List (Nat × Value) := (List.range lv.length).filterMap (fun i => (ldv lv i).map (fun v => (i, tr ad v)))
theorem ldv_some {lv : LV} {i : Nat} {v : Value} (h : ldv lv i = some v) : lv[i]? = some (some v) := by
  unfold ldv at h
  cases hq : lv[i]? with
  | none => rw [hq] at h; cases h
  | some o => rw [hq] at h; cases o with
    | none => cases h
    | some w => cases h; rfl
theorem ldv_of {lv : LV} {i : Nat} {v : Value} (h : lv[i]? = some (some v)) : ldv lv i = some v := by
  unfold ldv
  rw [h]
  rfl
theorem asl_mem {ad : Nat → Nat} {lv : LV} {q : Nat × Value} : q ∈ asl ad lv ↔ ∃ v, lv[q.1]? = some (some v) ∧ q.2 = tr ad v := by
  unfold asl
  rw [List.mem_filterMap]
  constructor
  · rintro ⟨i, hi, hq⟩
    cases hv : ldv lv i with
    | none => rw [hv] at hq; cases hq
    | some v =>
      rw [hv] at hq
      cases hq
      exact ⟨v, ldv_some hv, rfl⟩
  · rintro ⟨v, h1, h2⟩
    refine ⟨q.1, List.mem_range.mpr (List.getElem?_eq_some_iff.mp h1).1, ?_⟩
    rw [ldv_of h1]
    show some (q.1, tr ad v) = some q
    rw [← h2]
theorem LH_has {ad : Nat → Nat} {ls : Array Slot} {n : Nat} {lv : LV} (h : LH ad ls n lv) : lv_has ls n (asl ad lv) := by
  refine ⟨h.2.1, h.2.2.1, fun q hq => ?_⟩
  obtain ⟨v, h1, h2⟩ := asl_mem.mp hq
  rw [h2]
  exact h.2.2.2 _ _ h1
theorem LH_at {ad : Nat → Nat} {ls : Array Slot} {n : Nat} {lv : LV} (h : LH ad ls n lv) {i : Nat} {v : Value} (hv : ldv lv i = some v) : ls[i]? = some (.val (tr ad v)) := h.2.2.2 _ _ (ldv_some hv)
theorem st1_len {lv : LV} {i : Nat} {v : Value} : (st1 lv i v).length = lv.length := by
  unfold st1
  split <;> simp
theorem kl_some {o : Option Value} {w : Value} (h : kl o = some w) : o = some w ∧ ¬ w.category = 2 := by
  unfold kl at h
  split at h
  · cases h
  · cases h
  · rename_i h1 h2
    refine ⟨h, ?_⟩
    subst h
    intro hc
    cases w with
    | long x => exact h1 x rfl
    | double x => exact h2 x rfl
    | _ => simp [Value.category] at hc
theorem st1_at {lv : LV} {i j : Nat} {v w : Value} (h : (st1 lv i v)[j]? = some (some w)) : (j = i ∧ w = v) ∨ (j ≠ i ∧ lv[j]? = some (some w) ∧ ¬ (j + 1 = i ∧ w.category = 2)) := by
  unfold st1 at h
  split at h
  · by_cases hj : j = 0
    · subst hj
      rw [List.getElem?_set_self'] at h
      cases hq : lv[0]? with
      | none => rw [hq] at h; cases h
      | some o => rw [hq] at h; cases h; exact Or.inl ⟨rfl, rfl⟩
    · rw [List.getElem?_set_ne (Ne.symm hj)] at h
      exact Or.inr ⟨hj, h, fun q => by omega⟩
  · rename_i k
    by_cases hj : j = k + 1
    · subst hj
      rw [List.getElem?_set_self'] at h
      cases hq : (lv.modify k kl)[k + 1]? with
      | none => rw [hq] at h; cases h
      | some o => rw [hq] at h; cases h; exact Or.inl ⟨rfl, rfl⟩
    · rw [List.getElem?_set_ne (Ne.symm hj), List.getElem?_modify] at h
      by_cases hk : k = j
      · subst hk
        cases hq : lv[k]? with
        | none => rw [hq] at h; cases h
        | some o =>
          rw [hq] at h
          simp only [if_true, Option.map_eq_map, Option.map_some] at h
          obtain ⟨h1, h2⟩ := kl_some (Option.some.inj h)
          exact Or.inr ⟨by omega, by rw [h1], fun q => h2 q.2⟩
      · cases hq : lv[j]? with
        | none => rw [hq] at h; cases h
        | some o =>
          rw [hq] at h
          simp only [hk, if_false, Option.map_eq_map, Option.map_some, id_eq] at h
          exact Or.inr ⟨hj, by rw [← h], fun q => by omega⟩
theorem LH_st1 {ad : Nat → Nat} {ls' : Array Slot} {n i : Nat} {lv : LV} {v : Value} (hn : lv.length = n) (h : lv_has ls' n ((i, tr ad v) :: (asl ad lv).filter (fun q => !(q.1 == i) && !(q.1 + 1 == i && q.2.category == 2)))) : LH ad ls' n (st1 lv i v) := by
  refine ⟨st1_len.trans hn, h.1, h.2.1, fun j w hj => ?_⟩
  rcases st1_at hj with ⟨rfl, rfl⟩ | ⟨h1, h2, h3⟩
  · exact h.2.2 _ List.mem_cons_self
  · refine h.2.2 (j, tr ad w) (List.mem_cons_of_mem _ (List.mem_filter.mpr ⟨asl_mem.mpr ⟨w, h2, rfl⟩, ?_⟩))
    rw [tr_cat]
    simp only [Bool.and_eq_true, Bool.not_eq_true', beq_eq_false_iff_ne, ne_eq, Bool.and_eq_false_iff]
    refine ⟨h1, ?_⟩
    by_cases hq : j + 1 = i
    · exact Or.inr (fun z => h3 ⟨hq, z⟩)
    · exact Or.inl hq
theorem LH_st2 {ad : Nat → Nat} {ls' : Array Slot} {n i : Nat} {lv : LV} {v : Value} (hn : lv.length = n) (h : lv_has ls' n ((i, tr ad v) :: (asl ad lv).filter (fun q => !(q.1 == i) && (!(q.1 == i + 1) && !(q.1 + 1 == i && q.2.category == 2))))) : LH ad ls' n (st2 lv i v) := by
  refine ⟨(by unfold st2; rw [List.length_set, st1_len]; exact hn), h.1, h.2.1, fun j w hj => ?_⟩
  unfold st2 at hj
  by_cases hj1 : j = i + 1
  · subst hj1
    rw [List.getElem?_set_self'] at hj
    cases hq : (st1 lv i v)[i + 1]? with
    | none => rw [hq] at hj; cases hj
    | some o => rw [hq] at hj; cases hj
  · rw [List.getElem?_set_ne (Ne.symm hj1)] at hj
    rcases st1_at hj with ⟨rfl, rfl⟩ | ⟨h1, h2, h3⟩
    · exact h.2.2 _ List.mem_cons_self
    · refine h.2.2 (j, tr ad w) (List.mem_cons_of_mem _ (List.mem_filter.mpr ⟨asl_mem.mpr ⟨w, h2, rfl⟩, ?_⟩))
      rw [tr_cat]
      simp only [Bool.and_eq_true, Bool.not_eq_true', beq_eq_false_iff_ne, ne_eq, Bool.and_eq_false_iff]
      refine ⟨h1, hj1, ?_⟩
      by_cases hq : j + 1 = i
      · exact Or.inr (fun z => h3 ⟨hq, z⟩)
      · exact Or.inl hq
/-- the locals at a method's entry -/
theorem ent_at : ∀ (as : List Value) (k i : Nat) (v : Value), (as.flatMap (fun v => if v.category = 2 then [some v, none] else [some v]))[i]? = some (some v) → (k + i, v) ∈ lv_args k as := by
  intro as
  induction as with
  | nil => intro k i v h; simp at h
  | cons a as ih =>
    intro k i v h
    rw [List.flatMap_cons] at h
    unfold lv_args
    by_cases hc : a.category = 2
    · rw [if_pos hc] at h ⊢
      match i, h with
      | 0, h => cases h; exact List.mem_cons_self
      | 1, h => cases h
      | i + 2, h =>
        have := ih (k + 2) i v h
        rw [show k + (i + 2) = k + 2 + i by omega]
        exact List.mem_cons_of_mem _ this
    · rw [if_neg hc] at h ⊢
      match i, h with
      | 0, h => cases h; exact List.mem_cons_self
      | i + 1, h =>
        have := ih (k + 1) i v h
        rw [show k + (i + 1) = k + 1 + i by omega]
        exact List.mem_cons_of_mem _ this
theorem lv_args_map (ad : Nat → Nat) : ∀ (as : List Value) (k : Nat) (q : Nat × Value), q ∈ lv_args k as → (q.1, tr ad q.2) ∈ lv_args k (as.map (tr ad)) := by
  intro as
  induction as with
  | nil => intro k q h; cases h
  | cons a as ih =>
    intro k q h
    unfold lv_args at h
    show (q.1, tr ad q.2) ∈ lv_args k (tr ad a :: as.map (tr ad))
    unfold lv_args
    rw [tr_cat]
    rcases List.mem_cons.mp h with rfl | h
    · exact List.mem_cons_self
    · exact List.mem_cons_of_mem _ (ih _ q h)
theorem ent_len {as : List Value} : (as.flatMap (fun v => if v.category = 2 then [some v, (none : Option Value)] else [some v])).length = (as.map (fun v => v.category)).sum := by
  induction as with
  | nil => rfl
  | cons a as ih =>
    rw [List.flatMap_cons, List.length_append, ih, List.map_cons, List.sum_cons]
    rcases lv_cat a with h | h <;> simp [h]
theorem sl_len {as : List Value} : (lg_sl as).length = (as.map (fun v => v.category)).sum := by
  unfold lg_sl
  induction as with
  | nil => rfl
  | cons a as ih =>
    rw [List.flatMap_cons, List.length_append, ih, List.map_cons, List.sum_cons]
    rcases lv_cat a with h | h <;> simp [h]
theorem cat_map (ad : Nat → Nat) (as : List Value) : ((as.map (tr ad)).map (fun v => v.category)) = as.map (fun v => v.category) := by
  rw [List.map_map]
  exact List.map_congr_left (fun v _ => tr_cat ad v)
theorem LH_ent {ad : Nat → Nat} {n : Nat} {as : List Value} (h : (as.map (fun v => v.category)).sum ≤ n) : LH ad ((lg_sl (as.map (tr ad)) ++ List.replicate (n - (lg_sl (as.map (tr ad))).length) Slot.unset).toArray) n (ent n as) := by
  have hh := lv_entry (as.map (tr ad)) (n := n) (by rw [sl_len, cat_map]; exact h)
  refine ⟨?_, hh.1, hh.2.1, fun i v hi => ?_⟩
  · unfold ent
    rw [List.length_append, List.length_replicate, ent_len]
    omega
  · unfold ent at hi
    rcases Nat.lt_or_ge i (as.flatMap (fun v : Value => if v.category = 2 then [some v, (none : Option Value)] else [some v])).length with hl | hl
    · rw [List.getElem?_append_left hl] at hi
      have h1 := ent_at as 0 i v hi
      rw [Nat.zero_add] at h1
      exact hh.2.2 (i, tr ad v) (lv_args_map ad as 0 (i, v) h1)
    · rw [List.getElem?_append_right hl] at hi
      have := List.mem_of_getElem? hi
      rw [List.mem_replicate] at this
      cases this.2
/-! the heap -/
def fv (ad : Nat → Nat) (h : Hp) (k c j : Nat) : Value := match fK c j with
  | 1 => .long (h.2.1 k j)
  | 2 => va_rf ((RT k j).map ad)
  | _ => .int (h.1 k j)
def fN (c : Nat) : Nat := (fKL.getD c []).length
def cellE (cs : Nat → ClassId) (ad : Nat → Nat) (h : Hp) (k : Nat) : va_E := match shp k with
  | some (0, c) => .inr (c, (List.range (fN c)).map (fv ad h k c))
  | some (1, n) => .inl (cs 1, n, .inl (h.1 k))
  | some (2, n) => .inl (cs 0, n, .inl (h.1 k))
  | some (3, n) => .inl (cs 3, n, .inl (h.1 k))
  | some (4, n) => .inl (cs 2, n, .inr (.inl (h.2.1 k)))
  | some (5, n) => .inl (cs 4, n, .inr (.inr (.inr (.inr (fun j => (RT k j).map ad)))))
  | some (_, n) => .inl (cs 5, n, .inr (.inr (.inr (.inr (fun j => (RT k j).map ad)))))
  | none => .inr (0, [])
def wsh (cs : Nat → ClassId) (ad : Nat → Nat) (h : Hp) : va_W := (List.range 109).map (fun k => (ad k, cellE cs ad h k))
abbrev tys6 (cs : Nat → ClassId) : List (ClassId × FieldType) := [(cs 0, .byte), (cs 1, .int), (cs 2, .long), (cs 3, .boolean), (cs 4, .object RX3), (cs 5, .array .long)]
theorem wsh_get {cs : Nat → ClassId} {ad : Nat → Nat} {h : Hp} {k : Nat} (hk : k < 109) : (wsh cs ad h)[k]? = some (ad k, cellE cs ad h k) := by
  unfold wsh
  rw [List.getElem?_map, List.getElem?_range hk]
  rfl
theorem cellE_congr {cs : Nat → ClassId} {ad : Nat → Nat} {h h' : Hp} {k : Nat} (h1 : h'.1 k = h.1 k) (h2 : h'.2.1 k = h.2.1 k) : cellE cs ad h' k = cellE cs ad h k := by
  unfold cellE
  have hf : ∀ c j, fv ad h' k c j = fv ad h k c j := fun c j => by unfold fv; rw [h1, h2]
  split
  · simp only [funext (hf _)]
  all_goals (first | rw [h1] | rw [h2] | rfl)
theorem wsh_set {cs : Nat → ClassId} {ad : Nat → Nat} {h h' : Hp} {a : Nat} (h1 : ∀ k, k ≠ a → h'.1 k = h.1 k) (h2 : ∀ k, k ≠ a → h'.2.1 k = h.2.1 k) : wsh cs ad h' = (wsh cs ad h).set a (ad a, cellE cs ad h' a) := by
  apply List.ext_getElem?
  intro k
  by_cases hk : k < 109
  · rw [wsh_get hk]
    by_cases hka : k = a
    · subst hka
      rw [List.getElem?_set_self (by unfold wsh; rw [List.length_map, List.length_range]; exact hk)]
    · rw [List.getElem?_set_ne (Ne.symm hka), wsh_get hk, cellE_congr (h1 k hka) (h2 k hka)]
  · have e : ∀ h : Hp, (wsh cs ad h).length = 109 := fun h => by unfold wsh; rw [List.length_map, List.length_range]
    rw [List.getElem?_eq_none (by rw [e]; omega), List.getElem?_eq_none (by rw [List.length_set, e]; omega)]
theorem setI_1 {h : Hp} {a j k : Nat} {x : Int32} (hk : k ≠ a) : (setI h a j x).1 k = h.1 k := if_neg hk
theorem setI_s {h : Hp} {a j : Nat} {x : Int32} : (setI h a j x).1 a = upd (h.1 a) j x := if_pos rfl
theorem setL_1 {h : Hp} {a j k : Nat} {x : Int64} (hk : k ≠ a) : (setL h a j x).2.1 k = h.2.1 k := if_neg hk
theorem setL_s {h : Hp} {a j : Nat} {x : Int64} : (setL h a j x).2.1 a = vp_updL (h.2.1 a) j x := if_pos rfl
/-- the world: its cells, and the script as it was -/
def Rep (D : va_G) (cs : Nat → ClassId) (ad : Nat → Nat) (xs : Nat → Int32) (L : Nat) (h : Hp) (H : Heap) : Prop := va_P D cls9 (wsh cs ad h) H ∧ h.1 1000 = xs ∧ h.2.2.2 = L
end
section
/-! A step of the abstract machine is a step of the machine. -/
def Ctx (D : va_G) (cs : Nat → ClassId) (ad : Nat → Nat) (xs : Nat → Int32) (L B0 : Nat) (p : Program) (s : State) (m : MethodId) (args : Array Value) (meth : Method) (c : Code) (mi : Nat) : Prop :=
  p.tables.exec = Jvm.exec ∧ c.code = mBy mi ∧ c.maxLocals = mMx mi ∧ s.vm.findClass (mNm mi).cls = some m.cls ∧ (∀ w ∈ TS, w.before args s = true) ∧ va_K D cls9 (tys6 cs) s ∧ (∀ w ∈ nW, va_Nw w s) ∧ va_X (ad 1000) L xs s s.heap ∧ ad 1000 < B0 ∧ B0 ≤ s.heap.size
def WD (cs : Nat → ClassId) (ad : Nat → Nat) (B0 : Nat) : Prop := ∀ h : Hp, va_D (fun q => B0 ≤ q) (wsh cs ad h)
theorem lk_mem {pc : Nat} {l : List (Nat × Instr × Nat × Nat)} {x : Instr × Nat × Nat} (h : lk pc l = some x) : (pc, x) ∈ l := by
  induction l with
  | nil => cases h
  | cons e l ih =>
    unfold lk at h
    split at h
    · rename_i he
      cases h
      rw [← he]
      exact List.mem_cons_self
    · exact List.mem_cons_of_mem _ (ih h)
theorem cls9_at {c : Nat} (hc : c < 9) : cls9[c]? = some (clR c, (cls9.getD c ("", TX2, 0)).2.1, clN c) := by
  match c, hc with
  | 0, _ => rfl
  | 1, _ => rfl
  | 2, _ => rfl
  | 3, _ => rfl
  | 4, _ => rfl
  | 5, _ => rfl
  | 6, _ => rfl
  | 7, _ => rfl
  | 8, _ => rfl
theorem cls9_in {c : Nat} (hc : c < 9) : ∀ w ∈ u_ws (clR c) (cls9.getD c ("", TX2, 0)).2.1 (clN c), w ∈ TS := by
  intro w hw
  have h1 := List.all_eq_true.mp lay_ok c (List.mem_range.mpr hc)
  have h2 := List.all_eq_true.mp h1 w hw
  rw [Bool.and_eq_true, decide_eq_true_eq] at h2
  exact List.mem_filter.mpr h2
def clY (c : Nat) : Nat → FieldType := match c with
  | 0 => tyX0
  | 1 => tyX1
  | 2 => tyX2
  | 3 => tyX3
  | 4 => tyX4
  | 5 => tyX5
  | 6 => tyX6
  | 7 => tyX7
  | _ => tyX8
theorem clY_ok {c : Nat} (hc : c < 9) : ∀ k, k < clN c → parseFieldDescriptor ((cls9.getD c ("", TX2, 0)).2.1 k).2.2.1 = some (clY c k) := by
  match c, hc with
  | 0, _ => exact tyX0_ok
  | 1, _ => exact tyX1_ok
  | 2, _ => exact tyX2_ok
  | 3, _ => exact tyX3_ok
  | 4, _ => exact tyX4_ok
  | 5, _ => exact tyX5_ok
  | 6, _ => exact tyX6_ok
  | 7, _ => exact tyX7_ok
  | 8, _ => exact tyX8_ok
theorem clNm_ok {c : Nat} (hc : c < 9) : ∀ a, a < clN c → ∀ b, b < clN c → a ≠ b → ((cls9.getD c ("", TX2, 0)).2.1 a).2.1 ≠ ((cls9.getD c ("", TX2, 0)).2.1 b).2.1 := by
  match c, hc with
  | 0, _ => exact nmX0
  | 1, _ => exact nmX1
  | 2, _ => exact nmX2
  | 3, _ => exact nmX3
  | 4, _ => exact nmX4
  | 5, _ => exact nmX5
  | 6, _ => exact nmX6
  | 7, _ => exact nmX7
  | 8, _ => exact nmX8
theorem clN_fN : ∀ c, c < 9 → clN c = fN c := by decide +kernel
theorem clY_fK : ∀ (c : Fin 9) (k : Fin 40), k.val < clN c.val → (fK c.val k.val = 0 → clY c.val k.val = .int) ∧ (fK c.val k.val = 1 → clY c.val k.val = .long) ∧ (fK c.val k.val = 3 → clY c.val k.val = .boolean) := by decide +kernel
theorem clN_40 : ∀ c, c < 9 → clN c ≤ 40 := by decide +kernel
theorem cellE_obj {cs : Nat → ClassId} {ad : Nat → Nat} {h : Hp} {a c : Nat} (hs : shp a = some (0, c)) : cellE cs ad h a = .inr (c, (List.range (fN c)).map (fv ad h a c)) := by
  unfold cellE
  rw [hs]
  rfl
theorem obj_set {ad : Nat → Nat} {h h' : Hp} {a c k : Nat} {v : Value} (hk : fv ad h' a c k = v) (ho : ∀ j, j ≠ k → fv ad h' a c j = fv ad h a c j) : (List.range (fN c)).map (fv ad h' a c) = ((List.range (fN c)).map (fv ad h a c)).set k v := by
  apply List.ext_getElem?
  intro j
  rw [List.getElem?_set]
  by_cases hj : k = j
  · subst hj
    rw [if_pos rfl, List.getElem?_map]
    by_cases hl : k < fN c
    · rw [List.getElem?_range hl, if_pos (by rw [List.length_map, List.length_range]; exact hl)]
      simp [hk]
    · rw [if_neg (by rw [List.length_map, List.length_range]; exact hl), List.getElem?_eq_none (by rw [List.length_range]; omega)]
      rfl
  · rw [if_neg hj, List.getElem?_map, List.getElem?_map]
    by_cases hl : j < fN c
    · rw [List.getElem?_range hl]
      show some (fv ad h' a c j) = some (fv ad h a c j)
      rw [ho j (Ne.symm hj)]
    · rw [List.getElem?_eq_none (by rw [List.length_range]; omega)]
      rfl
section
variable {D : va_G} {cs : Nat → ClassId} {ad : Nat → Nat} {xs : Nat → Int32} {L B0 : Nat}
variable {p : Program} {l : Launch} {e : Env} {R : Room} {s : State} {m : MethodId} {args : Array Value} {below : List Frame} {meth : Method} {c : Code} {H : Heap} {locs : List Loc} {cells slots : Nat} {Q : State → Prop} {mi pc n r : Nat} {ls : Array Slot} {lv : LV} {st : List Value} {h : Hp}
/-- a field's link -/
theorem fld_link {ix : Nat} (hts : ∀ w ∈ TS, w.before args s = true) (hk : fLk.any (fun q => decide (q.1 = (mNm mi).cls ∧ q.2.1 = ix ∧ r = q.2.2.1 * 64 + q.2.2.2.1 ∧ q.2.2.2.1 < 64)) = true) : r / 64 < 9 ∧ r % 64 < clN (r / 64) ∧ (Cond.fieldLink (mNm mi).cls ix (clT (r / 64) (r % 64)).1 (clT (r / 64) (r % 64)).2.1 (clT (r / 64) (r % 64)).2.2.1).before args s = true := by
  obtain ⟨q, hq, hd⟩ := List.any_eq_true.mp hk
  rw [decide_eq_true_eq] at hd
  obtain ⟨h1, h2, h3, h4⟩ := hd
  have e1 : r / 64 = q.2.2.1 := by omega
  have e2 : r % 64 = q.2.2.2.1 := by omega
  have hp := List.all_eq_true.mp fLk_ok q hq
  rw [Bool.and_eq_true, Bool.and_eq_true, decide_eq_true_eq, decide_eq_true_eq] at hp
  rw [e1, e2, ← h1, ← h2]
  exact ⟨hp.1.2, hp.2, hts _ (atP_mem hp.1.1)⟩
theorem snd_get {ix a : Nat} (C : Ctx D cs ad xs L B0 p s m args meth c mi) (hd : decode (mBy mi) pc = .ok (.getfield ix, 3)) (hk : lkOk mi (.getfield ix) r = true) (hs : shp a = some (0, r / 64)) (hR : Rep D cs ad xs L h H) (kk : W p l e R s m args below meth c H locs cells slots Q (F0 m (pc + 3) ls (fv ad h a (r / 64) (r % 64) :: st.map (tr ad)))) : W p l e R s m args below meth c H locs cells slots Q (F0 m pc ls (.ref (ad a) :: st.map (tr ad))) := by
  obtain ⟨hx, hb, hml, hown, hts, hK, hN, hX, hbl, hBs⟩ := C
  obtain ⟨h9, hN', hlink⟩ := fld_link (r := r) hts hk
  refine va_get (C := clR (r / 64)) (T := (cls9.getD (r / 64) ("", TX2, 0)).2.1) (N := clN (r / 64)) (ci := r / 64) hx hb hts (cls9_in h9) hown hK hR.1 a (fs := (List.range (fN (r / 64))).map (fv ad h a (r / 64))) ?_ (cls9_at h9) (r % 64) hN' hlink (fun _ z => z) ?_ hd kk
  · rw [wsh_get (shp_lt hs), cellE_obj hs]
  · rw [List.getElem?_map, List.getElem?_range (by rw [← clN_fN _ h9]; exact hN')]
    rfl
theorem snd_put {ix a : Nat} {v : Value} {h' : Hp} (C : Ctx D cs ad xs L B0 p s m args meth c mi) (hW : WD cs ad B0) (hd : decode (mBy mi) pc = .ok (.putfield ix, 3)) (hk : lkOk mi (.putfield ix) r = true) (hs : shp a = some (0, r / 64)) (hR : Rep D cs ad xs L h H) (hS : va_S (fun q => B0 ≤ q) s.heap H locs)
    (hn : narrow (clY (r / 64) (r % 64)) v = v) (hf : fits (clY (r / 64) (r % 64)) v = true) (e1 : fv ad h' a (r / 64) (r % 64) = v) (e2 : ∀ j, j ≠ r % 64 → fv ad h' a (r / 64) j = fv ad h a (r / 64) j) (e3 : ∀ k, k ≠ a → h'.1 k = h.1 k) (e4 : ∀ k, k ≠ a → h'.2.1 k = h.2.1 k) (e5 : h'.2.2 = h.2.2)
    (kk : ∀ (H1 : Heap) (locs1 : List Loc), Rep D cs ad xs L h' H1 → va_S (fun q => B0 ≤ q) s.heap H1 locs1 → W p l e R s m args below meth c H1 locs1 cells slots Q (F0 m (pc + 3) ls (st.map (tr ad)))) : W p l e R s m args below meth c H locs cells slots Q (F0 m pc ls (v :: .ref (ad a) :: st.map (tr ad))) := by
  obtain ⟨hx, hb, hml, hown, hts, hK, hN, hX, hbl, hBs⟩ := C
  have hk1 : fLk.any (fun q => decide (q.1 = (mNm mi).cls ∧ q.2.1 = ix ∧ r = q.2.2.1 * 64 + q.2.2.2.1 ∧ q.2.2.2.1 < 64)) = true := by
    obtain ⟨q, hq, hd⟩ := List.any_eq_true.mp hk
    rw [decide_eq_true_eq] at hd
    exact List.any_eq_true.mpr ⟨q, hq, by rw [decide_eq_true_eq]; exact ⟨hd.1, hd.2.1, hd.2.2.1, hd.2.2.2.1⟩⟩
  have hfin : ((cls9.getD (r / 64) ("", TX2, 0)).2.1 (r % 64)).2.2.2 = false := by
    obtain ⟨q, hq, hd⟩ := List.any_eq_true.mp hk
    rw [decide_eq_true_eq] at hd
    have e1 : r / 64 = q.2.2.1 := by omega
    have e2 : r % 64 = q.2.2.2.1 := by omega
    rw [e1, e2]
    exact hd.2.2.2.2
  obtain ⟨h9, hN', hlink⟩ := fld_link (r := r) hts hk1
  have ha := shp_lt hs
  refine va_put (C := clR (r / 64)) (T := (cls9.getD (r / 64) ("", TX2, 0)).2.1) (N := clN (r / 64)) (ci := r / 64) hx hb hts (cls9_in h9) (clY (r / 64)) (clY_ok h9) (clNm_ok h9) hown hK hR.1 (hW h) hS a (fs := (List.range (fN (r / 64))).map (fv ad h a (r / 64))) ?_ (cls9_at h9) (r % 64) hN' hlink (fun _ z => z) hfin (clY_ok h9 _ hN') hn hf ?_ hd (fun H1 locs1 q1 q2 q3 => ?_)
  · rw [wsh_get ha, cellE_obj hs]
  · rw [List.length_map, List.length_range, ← clN_fN _ h9]
    exact hN'
  · refine kk H1 locs1 ⟨?_, ?_, ?_⟩ q3
    · rw [wsh_set e3 e4, cellE_obj hs, obj_set e1 e2]
      exact q1
    · rw [e3 1000 (by omega)]
      exact hR.2.1
    · rw [e5]
      exact hR.2.2
theorem put_lt {ix : Nat} (C : Ctx D cs ad xs L B0 p s m args meth c mi) (hk : lkOk mi (.putfield ix) r = true) : r / 64 < 9 ∧ r % 64 < clN (r / 64) := by
  obtain ⟨q, hq, hd⟩ := List.any_eq_true.mp hk
  rw [decide_eq_true_eq] at hd
  obtain ⟨h1, h2, h3, h4, -⟩ := hd
  have e1 : r / 64 = q.2.2.1 := by omega
  have e2 : r % 64 = q.2.2.2.1 := by omega
  have hp := List.all_eq_true.mp fLk_ok q hq
  rw [Bool.and_eq_true, Bool.and_eq_true, decide_eq_true_eq, decide_eq_true_eq] at hp
  rw [e1, e2]
  exact ⟨hp.1.2, hp.2⟩
theorem ald_jj {cc : ByteArray} {rest : List Value} {cl : List vw_C} {tys : List (ClassId × FieldType)} {ws : va_W} {a : Nat} (hexec : p.tables.exec = Jvm.exec) (hb : c.code = cc) (hK : va_K D cl tys s) (hP : va_P D cl ws H) (q0 t0 : Nat) {cA : ClassId} {n : Nat} {f : Nat → Option Nat} (ha : ws[q0]? = some (a, .inl (cA, n, .inr (.inr (.inr (.inr f)))))) (ht : tys[t0]? = some (cA, .array .long)) {i : Int32} (hin : vp_in i n) (hdg : decode cc pc = .ok (.aaload, 1))
    (kk : W p l e R s m args below meth c H locs cells slots Q (F0 m (pc + 1) ls (va_rf (f i.toNatClampNeg) :: rest))) : W p l e R s m args below meth c H locs cells slots Q (F0 m pc ls (.int i :: .ref a :: rest)) := by
  have hlt : i.toNatClampNeg < n := Nat.not_le.mp fun q => hin (Or.inr q)
  exact W.aald (v := va_rf (f i.toNatClampNeg)) (ty := .array .long) hexec hb (hP q0 _ ha) ((hK.2 t0 _ ht).1 n (fun j => va_rf (f j))) rfl (fun q => by cases q) (by show ¬ (i < 0 ∨ (arrV _ _ _).slots.size ≤ _); rw [arrV_size]; exact hin) (by show (arrV _ _ _).slots[_]? = _; rw [arrV_read _ _ hlt]) rfl rfl hdg kk
theorem cellE_1 {a n : Nat} (hs : shp a = some (1, n)) : cellE cs ad h a = .inl (cs 1, n, .inl (h.1 a)) := by unfold cellE; rw [hs]; rfl
theorem cellE_2 {a n : Nat} (hs : shp a = some (2, n)) : cellE cs ad h a = .inl (cs 0, n, .inl (h.1 a)) := by unfold cellE; rw [hs]; rfl
theorem cellE_3 {a n : Nat} (hs : shp a = some (3, n)) : cellE cs ad h a = .inl (cs 3, n, .inl (h.1 a)) := by unfold cellE; rw [hs]; rfl
theorem cellE_4 {a n : Nat} (hs : shp a = some (4, n)) : cellE cs ad h a = .inl (cs 2, n, .inr (.inl (h.2.1 a))) := by unfold cellE; rw [hs]; rfl
theorem cellE_5 {a n : Nat} (hs : shp a = some (5, n)) : cellE cs ad h a = .inl (cs 4, n, .inr (.inr (.inr (.inr (fun j => (RT a j).map ad))))) := by unfold cellE; rw [hs]; rfl
theorem cellE_6 {a n : Nat} (hs : shp a = some (6, n)) : cellE cs ad h a = .inl (cs 5, n, .inr (.inr (.inr (.inr (fun j => (RT a j).map ad))))) := by unfold cellE; rw [hs]; rfl
theorem rep_I {a j : Nat} {x : Int32} {H1 : Heap} {e' : va_E} (ha : a < 109) (he : cellE cs ad (setI h a j x) a = e') (hP : va_P D cls9 ((wsh cs ad h).set a (ad a, e')) H1) (hR : Rep D cs ad xs L h H) : Rep D cs ad xs L (setI h a j x) H1 := by
  refine ⟨?_, ?_, hR.2.2⟩
  · rw [wsh_set (h := h) (a := a) (fun k hk => setI_1 hk) (fun k hk => rfl), he]
    exact hP
  · rw [setI_1 (by omega)]
    exact hR.2.1
theorem rep_L {a j : Nat} {x : Int64} {H1 : Heap} {e' : va_E} (ha : a < 109) (he : cellE cs ad (setL h a j x) a = e') (hP : va_P D cls9 ((wsh cs ad h).set a (ad a, e')) H1) (hR : Rep D cs ad xs L h H) : Rep D cs ad xs L (setL h a j x) H1 := by
  refine ⟨?_, hR.2.1, hR.2.2⟩
  rw [wsh_set (h := h) (h' := setL h a j x) (a := a) (fun k hk => rfl) (fun k hk => setL_1 hk), he]
  exact hP
theorem jmp_eq {pc : Nat} {off : Int} (hj : jok pc off = true) : (pc : Int) + off = (jmp pc off : Int) := by
  unfold jok at hj
  rw [decide_eq_true_eq] at hj
  unfold jmp
  omega
set_option maxHeartbeats 4000000 in
set_option maxRecDepth 100000 in
/-- one instruction -/
theorem snd_stp {ins : Instr} {pc' : Nat} {lv' : LV} {st' : List Value} {h' : Hp} (C : Ctx D cs ad xs L B0 p s m args meth c mi) (hW : WD cs ad B0) (hd0 : decode (mBy mi) pc = .ok (ins, n)) (hlen : ilen ins = 0 ∨ n = ilen ins) (hk : lkOk mi ins r = true) (hs : stp ins r pc lv st h = some (pc', lv', st', h')) (hl : LH ad ls (mMx mi) lv) (hR : Rep D cs ad xs L h H) (hS : va_S (fun q => B0 ≤ q) s.heap H locs)
    (kk : ∀ (H1 : Heap) (locs1 : List Loc) (ls1 : Array Slot), LH ad ls1 (mMx mi) lv' → Rep D cs ad xs L h' H1 → va_S (fun q => B0 ≤ q) s.heap H1 locs1 → W p l e R s m args below meth c H1 locs1 cells slots Q (F0 m pc' ls1 (st'.map (tr ad)))) : W p l e R s m args below meth c H locs cells slots Q (F0 m pc ls (st.map (tr ad))) := by
  obtain ⟨hx, hb, hml, hown, hts, hK, hN, hX, hbl, hBs⟩ := id C
  cases ins with
  | iconst k =>
    have hd : decode (mBy mi) pc = .ok (.iconst k, 1) := by rw [hd0, hlen.resolve_left (by simp [ilen])]; rfl
    simp only [stp] at hs
    cases hs
    exact lv_iconst hx hb hd rfl (kk _ _ _ hl hR hS)
  | bipush k =>
    have hd : decode (mBy mi) pc = .ok (.bipush k, 2) := by rw [hd0, hlen.resolve_left (by simp [ilen])]; rfl
    simp only [stp] at hs
    cases hs
    exact lv_bipush hx hb hd rfl (kk _ _ _ hl hR hS)
  | sipush k =>
    have hd : decode (mBy mi) pc = .ok (.sipush k, 3) := by rw [hd0, hlen.resolve_left (by simp [ilen])]; rfl
    simp only [stp] at hs
    cases hs
    exact lv_sipush hx hb hd rfl (kk _ _ _ hl hR hS)
  | lconst k =>
    have hd : decode (mBy mi) pc = .ok (.lconst k, 1) := by rw [hd0, hlen.resolve_left (by simp [ilen])]; rfl
    simp only [stp] at hs
    cases hs
    exact lv_lconst hx hb hd rfl (kk _ _ _ hl hR hS)
  | ldc k =>
    have hd : decode (mBy mi) pc = .ok (.ldc k, 2) := by rw [hd0, hlen.resolve_left (by simp [ilen])]; rfl
    simp only [stp] at hs
    cases hs
    obtain ⟨q, hq, hz⟩ := List.any_eq_true.mp hk
    rw [decide_eq_true_eq] at hz
    obtain ⟨z1, z2, z3⟩ := hz
    subst z3
    have hp := List.all_eq_true.mp kLk_ok q hq
    have hwd := hts _ (atP_mem hp)
    rw [z1, z2] at hwd
    exact lv_ldc hx hb hown hwd hd (kk _ _ _ hl hR hS)
  | ldc_w k =>
    have hd : decode (mBy mi) pc = .ok (.ldc_w k, 3) := by rw [hd0, hlen.resolve_left (by simp [ilen])]; rfl
    simp only [stp] at hs
    cases hs
    obtain ⟨q, hq, hz⟩ := List.any_eq_true.mp hk
    rw [decide_eq_true_eq] at hz
    obtain ⟨z1, z2, z3⟩ := hz
    subst z3
    have hp := List.all_eq_true.mp kLk_ok q hq
    have hwd := hts _ (atP_mem hp)
    rw [z1, z2] at hwd
    exact lv_ldcw hx hb hown hwd hd (kk _ _ _ hl hR hS)
  | ldc2_w k =>
    have hd : decode (mBy mi) pc = .ok (.ldc2_w k, 3) := by rw [hd0, hlen.resolve_left (by simp [ilen])]; rfl
    simp only [stp] at hs
    cases hs
    obtain ⟨q, hq, hz⟩ := List.any_eq_true.mp hk
    rw [decide_eq_true_eq] at hz
    obtain ⟨z1, z2, z3⟩ := hz
    subst z3
    have hp := List.all_eq_true.mp jLk_ok q hq
    have hwd := hts _ (atP_mem hp)
    rw [z1, z2] at hwd
    exact lv_ldc2 hx hb hown hwd hd (kk _ _ _ hl hR hS)
  | iload k =>
    have hd : decode (mBy mi) pc = .ok (.iload k, 2) := by rw [hd0, hlen.resolve_left (by simp [ilen])]; rfl
    simp only [stp] at hs
    split at hs
    · rename_i q
      cases hs
      exact lv_iload hx hb hd (LH_at hl q) (kk _ _ _ hl hR hS)
    · cases hs
  | iload_n k =>
    have hd : decode (mBy mi) pc = .ok (.iload_n k, 1) := by rw [hd0, hlen.resolve_left (by simp [ilen])]; rfl
    simp only [stp] at hs
    split at hs
    · rename_i q
      cases hs
      exact lv_iload_n hx hb hd rfl (LH_at hl q) (kk _ _ _ hl hR hS)
    · cases hs
  | lload k =>
    have hd : decode (mBy mi) pc = .ok (.lload k, 2) := by rw [hd0, hlen.resolve_left (by simp [ilen])]; rfl
    simp only [stp] at hs
    split at hs
    · rename_i q
      cases hs
      exact lv_lload hx hb hd (LH_at hl q) (kk _ _ _ hl hR hS)
    · cases hs
  | lload_n k =>
    have hd : decode (mBy mi) pc = .ok (.lload_n k, 1) := by rw [hd0, hlen.resolve_left (by simp [ilen])]; rfl
    simp only [stp] at hs
    split at hs
    · rename_i q
      cases hs
      exact lv_lload_n hx hb hd rfl (LH_at hl q) (kk _ _ _ hl hR hS)
    · cases hs
  | aload k =>
    have hd : decode (mBy mi) pc = .ok (.aload k, 2) := by rw [hd0, hlen.resolve_left (by simp [ilen])]; rfl
    simp only [stp] at hs
    split at hs
    · rename_i q
      cases hs
      exact lv_aload hx hb hd (LH_at hl q) (kk _ _ _ hl hR hS)
    · cases hs
  | aload_n k =>
    have hd : decode (mBy mi) pc = .ok (.aload_n k, 1) := by rw [hd0, hlen.resolve_left (by simp [ilen])]; rfl
    simp only [stp] at hs
    split at hs
    · rename_i q
      cases hs
      exact lv_aload_n hx hb hd rfl (LH_at hl q) (kk _ _ _ hl hR hS)
    · cases hs
  | istore k =>
    have hd : decode (mBy mi) pc = .ok (.istore k, 2) := by rw [hd0, hlen.resolve_left (by simp [ilen])]; rfl
    simp only [stp] at hs
    split at hs
    · split at hs
      · rename_i q
        cases hs
        exact lv_istore hx hb hd (LH_has hl) (by rw [← hl.1]; exact q) rfl (fun ls1 q1 => kk _ _ _ (LH_st1 hl.1 q1) hR hS)
      · cases hs
    · cases hs
  | istore_n k =>
    have hd : decode (mBy mi) pc = .ok (.istore_n k, 1) := by rw [hd0, hlen.resolve_left (by simp [ilen])]; rfl
    simp only [stp] at hs
    split at hs
    · split at hs
      · rename_i q
        cases hs
        exact lv_istore_n hx hb hd rfl (LH_has hl) (by rw [← hl.1]; exact q) rfl (fun ls1 q1 => kk _ _ _ (LH_st1 hl.1 q1) hR hS)
      · cases hs
    · cases hs
  | lstore k =>
    have hd : decode (mBy mi) pc = .ok (.lstore k, 2) := by rw [hd0, hlen.resolve_left (by simp [ilen])]; rfl
    simp only [stp] at hs
    split at hs
    · split at hs
      · rename_i q
        cases hs
        exact lv_lstore hx hb hd (LH_has hl) (by rw [← hl.1]; exact q) rfl (fun ls1 q1 => kk _ _ _ (LH_st2 hl.1 q1) hR hS)
      · cases hs
    · cases hs
  | lstore_n k =>
    have hd : decode (mBy mi) pc = .ok (.lstore_n k, 1) := by rw [hd0, hlen.resolve_left (by simp [ilen])]; rfl
    simp only [stp] at hs
    split at hs
    · split at hs
      · rename_i q
        cases hs
        exact lv_lstore_n hx hb hd rfl (LH_has hl) (by rw [← hl.1]; exact q) rfl (fun ls1 q1 => kk _ _ _ (LH_st2 hl.1 q1) hR hS)
      · cases hs
    · cases hs
  | astore_n k =>
    have hd : decode (mBy mi) pc = .ok (.astore_n k, 1) := by rw [hd0, hlen.resolve_left (by simp [ilen])]; rfl
    simp only [stp] at hs
    split at hs
    · split at hs
      · rename_i q
        cases hs
        exact lv_astore_n hx hb hd rfl (LH_has hl) (by rw [← hl.1]; exact q) rfl (fun ls1 q1 => kk _ _ _ (LH_st1 hl.1 q1) hR hS)
      · cases hs
    · cases hs
  | iinc k z =>
    have hd : decode (mBy mi) pc = .ok (.iinc k z, 3) := by rw [hd0, hlen.resolve_left (by simp [ilen])]; rfl
    simp only [stp] at hs
    split at hs
    · rename_i x q0
      split at hs
      · rename_i q
        cases hs
        obtain ⟨k1, hk1⟩ := List.getElem?_of_mem (asl_mem.mpr ⟨_, ldv_some q0, rfl⟩ : (k, tr ad (.int x)) ∈ asl ad lv)
        exact lv_iinc hx hb hd (LH_has hl) hk1 rfl (by rw [← hl.1]; exact q) rfl (fun ls1 q1 => kk _ _ _ (LH_st1 hl.1 q1) hR hS)
      · cases hs
    · cases hs
  | iadd =>
    have hd : decode (mBy mi) pc = .ok (.iadd, 1) := by rw [hd0, hlen.resolve_left (by simp [ilen])]; rfl
    simp only [stp] at hs
    split at hs
    · cases hs
      exact lv_iadd hx hb hd (kk _ _ _ hl hR hS)
    · cases hs
  | isub =>
    have hd : decode (mBy mi) pc = .ok (.isub, 1) := by rw [hd0, hlen.resolve_left (by simp [ilen])]; rfl
    simp only [stp] at hs
    split at hs
    · cases hs
      exact lv_isub hx hb hd (kk _ _ _ hl hR hS)
    · cases hs
  | imul =>
    have hd : decode (mBy mi) pc = .ok (.imul, 1) := by rw [hd0, hlen.resolve_left (by simp [ilen])]; rfl
    simp only [stp] at hs
    split at hs
    · cases hs
      exact lv_imul hx hb hd (kk _ _ _ hl hR hS)
    · cases hs
  | iand =>
    have hd : decode (mBy mi) pc = .ok (.iand, 1) := by rw [hd0, hlen.resolve_left (by simp [ilen])]; rfl
    simp only [stp] at hs
    split at hs
    · cases hs
      exact lv_iand hx hb hd (kk _ _ _ hl hR hS)
    · cases hs
  | ior =>
    have hd : decode (mBy mi) pc = .ok (.ior, 1) := by rw [hd0, hlen.resolve_left (by simp [ilen])]; rfl
    simp only [stp] at hs
    split at hs
    · cases hs
      exact lv_ior hx hb hd (kk _ _ _ hl hR hS)
    · cases hs
  | ixor =>
    have hd : decode (mBy mi) pc = .ok (.ixor, 1) := by rw [hd0, hlen.resolve_left (by simp [ilen])]; rfl
    simp only [stp] at hs
    split at hs
    · cases hs
      exact lv_ixor hx hb hd (kk _ _ _ hl hR hS)
    · cases hs
  | ishl =>
    have hd : decode (mBy mi) pc = .ok (.ishl, 1) := by rw [hd0, hlen.resolve_left (by simp [ilen])]; rfl
    simp only [stp] at hs
    split at hs
    · cases hs
      exact lv_ishl hx hb hd (kk _ _ _ hl hR hS)
    · cases hs
  | ishr =>
    have hd : decode (mBy mi) pc = .ok (.ishr, 1) := by rw [hd0, hlen.resolve_left (by simp [ilen])]; rfl
    simp only [stp] at hs
    split at hs
    · cases hs
      exact lv_ishr hx hb hd (kk _ _ _ hl hR hS)
    · cases hs
  | ladd =>
    have hd : decode (mBy mi) pc = .ok (.ladd, 1) := by rw [hd0, hlen.resolve_left (by simp [ilen])]; rfl
    simp only [stp] at hs
    split at hs
    · cases hs
      exact lv_ladd hx hb hd (kk _ _ _ hl hR hS)
    · cases hs
  | lsub =>
    have hd : decode (mBy mi) pc = .ok (.lsub, 1) := by rw [hd0, hlen.resolve_left (by simp [ilen])]; rfl
    simp only [stp] at hs
    split at hs
    · cases hs
      exact lv_lsub hx hb hd (kk _ _ _ hl hR hS)
    · cases hs
  | lmul =>
    have hd : decode (mBy mi) pc = .ok (.lmul, 1) := by rw [hd0, hlen.resolve_left (by simp [ilen])]; rfl
    simp only [stp] at hs
    split at hs
    · cases hs
      exact lv_lmul hx hb hd (kk _ _ _ hl hR hS)
    · cases hs
  | lxor =>
    have hd : decode (mBy mi) pc = .ok (.lxor, 1) := by rw [hd0, hlen.resolve_left (by simp [ilen])]; rfl
    simp only [stp] at hs
    split at hs
    · cases hs
      exact lv_lxor hx hb hd (kk _ _ _ hl hR hS)
    · cases hs
  | ineg =>
    have hd : decode (mBy mi) pc = .ok (.ineg, 1) := by rw [hd0, hlen.resolve_left (by simp [ilen])]; rfl
    simp only [stp] at hs
    split at hs
    · cases hs
      exact lv_ineg hx hb hd (kk _ _ _ hl hR hS)
    · cases hs
  | lneg =>
    have hd : decode (mBy mi) pc = .ok (.lneg, 1) := by rw [hd0, hlen.resolve_left (by simp [ilen])]; rfl
    simp only [stp] at hs
    split at hs
    · cases hs
      exact lv_lneg hx hb hd (kk _ _ _ hl hR hS)
    · cases hs
  | iushr =>
    have hd : decode (mBy mi) pc = .ok (.iushr, 1) := by rw [hd0, hlen.resolve_left (by simp [ilen])]; rfl
    simp only [stp] at hs
    split at hs
    · cases hs
      exact lv_iushr hx hb hd rfl (kk _ _ _ hl hR hS)
    · cases hs
  | i2l =>
    have hd : decode (mBy mi) pc = .ok (.i2l, 1) := by rw [hd0, hlen.resolve_left (by simp [ilen])]; rfl
    simp only [stp] at hs
    split at hs
    · cases hs
      exact lv_i2l hx hb hd rfl (kk _ _ _ hl hR hS)
    · cases hs
  | l2i =>
    have hd : decode (mBy mi) pc = .ok (.l2i, 1) := by rw [hd0, hlen.resolve_left (by simp [ilen])]; rfl
    simp only [stp] at hs
    split at hs
    · cases hs
      exact lv_l2i hx hb hd rfl (kk _ _ _ hl hR hS)
    · cases hs
  | i2b =>
    have hd : decode (mBy mi) pc = .ok (.i2b, 1) := by rw [hd0, hlen.resolve_left (by simp [ilen])]; rfl
    simp only [stp] at hs
    split at hs
    · cases hs
      exact lv_i2b hx hb hd rfl (kk _ _ _ hl hR hS)
    · cases hs
  | irem =>
    have hd : decode (mBy mi) pc = .ok (.irem, 1) := by rw [hd0, hlen.resolve_left (by simp [ilen])]; rfl
    simp only [stp] at hs
    split at hs
    · split at hs
      · cases hs
      · rename_i q
        cases hs
        exact lv_irem hx hb hd q (kk _ _ _ hl hR hS)
    · cases hs
  | ldiv =>
    have hd : decode (mBy mi) pc = .ok (.ldiv, 1) := by rw [hd0, hlen.resolve_left (by simp [ilen])]; rfl
    simp only [stp] at hs
    split at hs
    · split at hs
      · cases hs
      · rename_i q
        cases hs
        exact lv_ldiv hx hb hd q (kk _ _ _ hl hR hS)
    · cases hs
  | lrem =>
    have hd : decode (mBy mi) pc = .ok (.lrem, 1) := by rw [hd0, hlen.resolve_left (by simp [ilen])]; rfl
    simp only [stp] at hs
    split at hs
    · split at hs
      · cases hs
      · rename_i q
        cases hs
        exact lv_lrem hx hb hd q (kk _ _ _ hl hR hS)
    · cases hs
  | lcmp =>
    have hd : decode (mBy mi) pc = .ok (.lcmp, 1) := by rw [hd0, hlen.resolve_left (by simp [ilen])]; rfl
    simp only [stp] at hs
    split at hs
    · cases hs
      exact W.lcmp hx hb hd (kk _ _ _ hl hR hS)
    · cases hs
  | dup =>
    have hd : decode (mBy mi) pc = .ok (.dup, 1) := by rw [hd0, hlen.resolve_left (by simp [ilen])]; rfl
    simp only [stp] at hs
    split at hs
    · cases hs
      exact lv_dup hx hb hd rfl (kk _ _ _ hl hR hS)
    · cases hs
      exact lv_dup hx hb hd rfl (kk _ _ _ hl hR hS)
    · cases hs
  | dup2 =>
    have hd : decode (mBy mi) pc = .ok (.dup2, 1) := by rw [hd0, hlen.resolve_left (by simp [ilen])]; rfl
    simp only [stp] at hs
    split at hs
    · cases hs
      exact lv_dup2_11 hx hb hd rfl rfl (kk _ _ _ hl hR hS)
    · cases hs
  | pop =>
    have hd : decode (mBy mi) pc = .ok (.pop, 1) := by rw [hd0, hlen.resolve_left (by simp [ilen])]; rfl
    simp only [stp] at hs
    split at hs
    · cases hs
      exact lv_pop hx hb hd rfl (kk _ _ _ hl hR hS)
    · cases hs
  | ifCond q o =>
    have hd : decode (mBy mi) pc = .ok (.ifCond q o, 3) := by rw [hd0, hlen.resolve_left (by simp [ilen])]; rfl
    simp only [stp] at hs
    split at hs
    · split at hs
      · rename_i x st0 hj
        have ht := jmp_eq hj
        cases hs
        cases q with
        | eq =>
          refine lv_if_eq hx hb hd ht (fun z => ?_) (fun z => ?_)
          · have k1 := kk H locs ls hl hR hS
            simp only [if_pos z] at k1
            exact k1
          · have k1 := kk H locs ls hl hR hS
            simp only [if_neg z] at k1
            exact k1
        | ne =>
          refine lv_if_ne hx hb hd ht (fun z => ?_) (fun z => ?_)
          · have k1 := kk H locs ls hl hR hS
            simp only [if_neg z] at k1
            exact k1
          · have k1 := kk H locs ls hl hR hS
            simp only [if_pos z] at k1
            exact k1
        | lt =>
          refine lv_if_lt hx hb hd ht (fun z => ?_) (fun z => ?_)
          · have k1 := kk H locs ls hl hR hS
            simp only [if_pos z] at k1
            exact k1
          · have k1 := kk H locs ls hl hR hS
            simp only [if_neg z] at k1
            exact k1
        | ge =>
          refine lv_if_ge hx hb hd ht (fun z => ?_) (fun z => ?_)
          · have k1 := kk H locs ls hl hR hS
            simp only [if_pos z] at k1
            exact k1
          · have k1 := kk H locs ls hl hR hS
            simp only [if_neg z] at k1
            exact k1
        | gt =>
          refine lv_if_gt hx hb hd ht (fun z => ?_) (fun z => ?_)
          · have k1 := kk H locs ls hl hR hS
            simp only [if_pos z] at k1
            exact k1
          · have k1 := kk H locs ls hl hR hS
            simp only [if_neg z] at k1
            exact k1
        | le =>
          refine lv_if_le hx hb hd ht (fun z => ?_) (fun z => ?_)
          · have k1 := kk H locs ls hl hR hS
            simp only [if_pos z] at k1
            exact k1
          · have k1 := kk H locs ls hl hR hS
            simp only [if_neg z] at k1
            exact k1
      · cases hs
    · cases hs
  | if_icmp q o =>
    have hd : decode (mBy mi) pc = .ok (.if_icmp q o, 3) := by rw [hd0, hlen.resolve_left (by simp [ilen])]; rfl
    simp only [stp] at hs
    split at hs
    · split at hs
      · rename_i y x st0 hj
        have ht := jmp_eq hj
        cases hs
        cases q with
        | eq =>
          refine lv_icmp_eq hx hb hd ht (fun z => ?_) (fun z => ?_)
          · have k1 := kk H locs ls hl hR hS
            simp only [if_pos z] at k1
            exact k1
          · have k1 := kk H locs ls hl hR hS
            simp only [if_neg z] at k1
            exact k1
        | ne =>
          refine lv_icmp_ne hx hb hd ht (fun z => ?_) (fun z => ?_)
          · have k1 := kk H locs ls hl hR hS
            simp only [if_neg z] at k1
            exact k1
          · have k1 := kk H locs ls hl hR hS
            simp only [if_pos z] at k1
            exact k1
        | lt =>
          refine lv_icmp_lt hx hb hd ht (fun z => ?_) (fun z => ?_)
          · have k1 := kk H locs ls hl hR hS
            simp only [if_pos z] at k1
            exact k1
          · have k1 := kk H locs ls hl hR hS
            simp only [if_neg z] at k1
            exact k1
        | ge =>
          refine lv_icmp_ge hx hb hd ht (fun z => ?_) (fun z => ?_)
          · have k1 := kk H locs ls hl hR hS
            simp only [if_pos z] at k1
            exact k1
          · have k1 := kk H locs ls hl hR hS
            simp only [if_neg z] at k1
            exact k1
        | gt =>
          refine lv_icmp_gt hx hb hd ht (fun z => ?_) (fun z => ?_)
          · have k1 := kk H locs ls hl hR hS
            simp only [if_pos z] at k1
            exact k1
          · have k1 := kk H locs ls hl hR hS
            simp only [if_neg z] at k1
            exact k1
        | le =>
          refine lv_icmp_le hx hb hd ht (fun z => ?_) (fun z => ?_)
          · have k1 := kk H locs ls hl hR hS
            simp only [if_pos z] at k1
            exact k1
          · have k1 := kk H locs ls hl hR hS
            simp only [if_neg z] at k1
            exact k1
      · cases hs
    · cases hs
  | goto o =>
    have hd : decode (mBy mi) pc = .ok (.goto o, 3) := by rw [hd0, hlen.resolve_left (by simp [ilen])]; rfl
    simp only [stp] at hs
    split at hs
    · rename_i hj
      cases hs
      exact lv_goto hx hb hd (jmp_eq hj) (kk _ _ _ hl hR hS)
    · cases hs
  | tableswitch d1 lo hi offs =>
    simp only [stp] at hs
    split at hs
    · split at hs
      · rename_i x st0 hj
        cases hs
        by_cases z : x.toInt < lo ∨ hi < x.toInt
        · have ht := jmp_eq hj.2
          have k1 := kk H locs ls hl hR hS
          simp only [swT, if_pos z] at ht k1
          exact lv_tableOut hx hb hd0 z ht k1
        · have ht := jmp_eq hj.2
          have k1 := kk H locs ls hl hR hS
          simp only [swT, if_neg z] at ht k1
          have z1 : (x.toInt - lo).toNat < offs.size := by rcases hj.1 with q | q | q
                                                           · exact absurd (Or.inl q) z
                                                           · exact absurd (Or.inr q) z
                                                           · exact q
          have z2 : offs[(x.toInt - lo).toNat]? = some ((offs[(x.toInt - lo).toNat]?).getD 0) := by rw [Array.getElem?_eq_getElem z1]; rfl
          exact lv_tableIn hx hb hd0 (fun q => z (Or.inl q)) (fun q => z (Or.inr q)) z2 ht k1
      · cases hs
    · cases hs
  | lookupswitch d1 ps =>
    simp only [stp] at hs
    split at hs
    · split at hs
      · rename_i x st0 hj
        cases hs
        exact lv_lookup hx hb hd0 hj.1 rfl (jmp_eq hj.2) (kk _ _ _ hl hR hS)
      · cases hs
    · cases hs
  | getfield k =>
    have hd : decode (mBy mi) pc = .ok (.getfield k, 3) := by rw [hd0, hlen.resolve_left (by simp [ilen])]; rfl
    simp only [stp] at hs
    split at hs
    · rename_i a st0
      split at hs
      · rename_i q
        refine snd_get (a := a) C hd hk q hR ?_
        split at hs
        · rename_i f; cases hs; have k1 := kk H locs ls hl hR hS; unfold fv; rw [f]; exact k1
        · rename_i f; cases hs; have k1 := kk H locs ls hl hR hS; unfold fv; rw [f]; exact k1
        · rename_i f; cases hs; have k1 := kk H locs ls hl hR hS; unfold fv; rw [f]; exact k1
        · rename_i f; split at hs
          · rename_i b hb2; cases hs; have k1 := kk H locs ls hl hR hS; unfold fv; rw [f, hb2]; exact k1
          · cases hs
        · cases hs
      · cases hs
    · cases hs
  | putfield k =>
    have hd : decode (mBy mi) pc = .ok (.putfield k, 3) := by rw [hd0, hlen.resolve_left (by simp [ilen])]; rfl
    simp only [stp] at hs
    split at hs
    · rename_i x a st0
      split at hs
      · rename_i q
        cases hs
        have h9 := put_lt C hk
        have hY := clY_fK ⟨r / 64, h9.1⟩ ⟨r % 64, Nat.lt_of_lt_of_le h9.2 (clN_40 _ h9.1)⟩ h9.2
        refine snd_put (a := a) (v := .int x) (h' := setI h a (r % 64) x) C hW hd hk q.1 hR hS ?_ ?_ ?_ ?_ (fun k hk => setI_1 hk) (fun k hk => rfl) rfl (fun H1 locs1 q1 q2 => kk H1 locs1 ls hl q1 q2)
        · rcases q.2 with f | ⟨f, rfl | rfl⟩
          · rw [hY.1 f]; rfl
          · rw [hY.2.2 f]; rfl
          · rw [hY.2.2 f]; rfl
        · rcases q.2 with f | ⟨f, rfl | rfl⟩
          · rw [hY.1 f]; rfl
          · rw [hY.2.2 f]; rfl
          · rw [hY.2.2 f]; rfl
        · rcases q.2 with f | ⟨f, -⟩ <;> (unfold fv; rw [f]; show Value.int ((setI h a (r % 64) x).1 a (r % 64)) = _; rw [setI_s]; simp [upd])
        · intro j hj
          unfold fv
          have e0 : (setI h a (r % 64) x).1 a j = h.1 a j := by rw [setI_s]; simp [upd, hj]
          rw [e0]
          rfl
      · cases hs
    · rename_i x a st0
      split at hs
      · rename_i q
        cases hs
        have h9 := put_lt C hk
        have hY := clY_fK ⟨r / 64, h9.1⟩ ⟨r % 64, Nat.lt_of_lt_of_le h9.2 (clN_40 _ h9.1)⟩ h9.2
        refine snd_put (a := a) (v := .long x) (h' := setL h a (r % 64) x) C hW hd hk q.1 hR hS ?_ ?_ ?_ ?_ (fun k hk => rfl) (fun k hk => setL_1 hk) rfl (fun H1 locs1 q1 q2 => kk H1 locs1 ls hl q1 q2)
        · rw [hY.2.1 q.2]; rfl
        · rw [hY.2.1 q.2]; rfl
        · unfold fv; rw [q.2]; show Value.long ((setL h a (r % 64) x).2.1 a (r % 64)) = _; rw [setL_s]; simp [vp_updL]
        · intro j hj
          unfold fv
          have e0 : (setL h a (r % 64) x).2.1 a j = h.2.1 a j := by rw [setL_s]; simp [vp_updL, hj]
          rw [e0]
          rfl
      · cases hs
    · cases hs
  | iaload =>
    have hd : decode (mBy mi) pc = .ok (.iaload, 1) := by rw [hd0, hlen.resolve_left (by simp [ilen])]; rfl
    simp only [stp] at hs
    split at hs
    · rename_i i a st0
      split at hs
      · rename_i ha
        subst ha
        split at hs
        · rename_i q
          cases hs
          have k1 := kk H locs ls hl hR hS
          rw [hR.2.1] at k1
          rw [hR.2.2] at q
          exact va_sld hx hb hX (Nat.lt_of_lt_of_le hbl hBs) (Nat.not_le.mpr hbl) hS (vp_in_iff.mpr q) hd k1
        · cases hs
      · split at hs
        · rename_i nn hsh
          split at hs
          · rename_i q
            cases hs
            exact va_iald hx hb hK hR.1 a 1 (by rw [wsh_get (shp_lt hsh), cellE_1 hsh]) rfl (vp_in_iff.mpr q) hd (kk _ _ _ hl hR hS)
          · cases hs
        · cases hs
    · cases hs
  | baload =>
    have hd : decode (mBy mi) pc = .ok (.baload, 1) := by rw [hd0, hlen.resolve_left (by simp [ilen])]; rfl
    simp only [stp] at hs
    split at hs
    · rename_i i a st0
      split at hs
      · rename_i nn hsh
        split at hs
        · rename_i q
          cases hs
          exact va_bald hx hb hK hR.1 a 0 (by rw [wsh_get (shp_lt hsh), cellE_2 hsh]) rfl (vp_in_iff.mpr q) hd (kk _ _ _ hl hR hS)
        · cases hs
      · rename_i nn hsh
        split at hs
        · rename_i q
          cases hs
          exact va_zald hx hb hK hR.1 a 3 (by rw [wsh_get (shp_lt hsh), cellE_3 hsh]) rfl (vp_in_iff.mpr q) hd (kk _ _ _ hl hR hS)
        · cases hs
      · cases hs
    · cases hs
  | laload =>
    have hd : decode (mBy mi) pc = .ok (.laload, 1) := by rw [hd0, hlen.resolve_left (by simp [ilen])]; rfl
    simp only [stp] at hs
    split at hs
    · rename_i i a st0
      split at hs
      · rename_i nn hsh
        split at hs
        · rename_i q
          cases hs
          exact va_lald hx hb hK hR.1 a 2 (by rw [wsh_get (shp_lt hsh), cellE_4 hsh]) rfl (vp_in_iff.mpr q) hd (kk _ _ _ hl hR hS)
        · cases hs
      · cases hs
    · cases hs
  | aaload =>
    have hd : decode (mBy mi) pc = .ok (.aaload, 1) := by rw [hd0, hlen.resolve_left (by simp [ilen])]; rfl
    simp only [stp] at hs
    split at hs
    · rename_i i a st0
      split at hs
      · rename_i nn hsh
        split at hs
        · rename_i q
          split at hs
          · rename_i k hrt
            cases hs
            refine va_aldq hx hb hK hR.1 a 4 (by rw [wsh_get (shp_lt hsh), cellE_5 hsh]) rfl (vp_in_iff.mpr q) hd ?_
            rw [hrt]
            exact kk _ _ _ hl hR hS
          · cases hs
        · cases hs
      · rename_i nn hsh
        split at hs
        · rename_i q
          split at hs
          · rename_i k hrt
            cases hs
            refine ald_jj hx hb hK hR.1 a 5 (by rw [wsh_get (shp_lt hsh), cellE_6 hsh]) rfl (vp_in_iff.mpr q) hd ?_
            rw [hrt]
            exact kk _ _ _ hl hR hS
          · cases hs
        · cases hs
      · cases hs
    · cases hs
  | iastore =>
    have hd : decode (mBy mi) pc = .ok (.iastore, 1) := by rw [hd0, hlen.resolve_left (by simp [ilen])]; rfl
    simp only [stp] at hs
    split at hs
    · rename_i x i a st0
      split at hs
      · rename_i nn hsh
        split at hs
        · rename_i q
          cases hs
          exact va_iast hx hb hK hR.1 (hW h) hS a 1 (by rw [wsh_get (shp_lt hsh), cellE_1 hsh]) rfl (vp_in_iff.mpr q) hd (fun H1 locs1 q1 q2 q3 => kk _ _ _ hl (rep_I (shp_lt hsh) (by rw [cellE_1 hsh, setI_s]) q1 hR) q3)
        · cases hs
      · cases hs
    · cases hs
  | bastore =>
    have hd : decode (mBy mi) pc = .ok (.bastore, 1) := by rw [hd0, hlen.resolve_left (by simp [ilen])]; rfl
    simp only [stp] at hs
    split at hs
    · rename_i x i a st0
      split at hs
      · rename_i nn hsh
        split at hs
        · rename_i q
          cases hs
          exact va_bast hx hb hK hR.1 (hW h) hS a 0 (by rw [wsh_get (shp_lt hsh), cellE_2 hsh]) rfl (vp_in_iff.mpr q) hd (fun H1 locs1 q1 q2 q3 => kk _ _ _ hl (rep_I (shp_lt hsh) (by rw [cellE_2 hsh, setI_s]) q1 hR) q3)
        · cases hs
      · rename_i nn hsh
        split at hs
        · rename_i q
          cases hs
          exact va_zast hx hb hK hR.1 (hW h) hS a 3 (by rw [wsh_get (shp_lt hsh), cellE_3 hsh]) rfl (vp_in_iff.mpr q) hd (fun H1 locs1 q1 q2 q3 => kk _ _ _ hl (rep_I (shp_lt hsh) (by rw [cellE_3 hsh, setI_s]) q1 hR) q3)
        · cases hs
      · cases hs
    · cases hs
  | lastore =>
    have hd : decode (mBy mi) pc = .ok (.lastore, 1) := by rw [hd0, hlen.resolve_left (by simp [ilen])]; rfl
    simp only [stp] at hs
    split at hs
    · rename_i x i a st0
      split at hs
      · rename_i nn hsh
        split at hs
        · rename_i q
          cases hs
          exact va_last hx hb hK hR.1 (hW h) hS a 2 (by rw [wsh_get (shp_lt hsh), cellE_4 hsh]) rfl (vp_in_iff.mpr q) hd (fun H1 locs1 q1 q2 q3 => kk _ _ _ hl (rep_L (shp_lt hsh) (by rw [cellE_4 hsh, setL_s]) q1 hR) q3)
        · cases hs
      · cases hs
    · cases hs
  | arraylength =>
    have hd : decode (mBy mi) pc = .ok (.arraylength, 1) := by rw [hd0, hlen.resolve_left (by simp [ilen])]; rfl
    simp only [stp] at hs
    split at hs
    · rename_i a st0
      split at hs
      · rename_i ha
        subst ha
        cases hs
        have k1 := kk H locs ls hl hR hS
        rw [hR.2.2] at k1
        exact va_slen hx hb hX (Nat.lt_of_lt_of_le hbl hBs) (Nat.not_le.mpr hbl) hS hd k1
      · cases hs
    · cases hs
  | _ => simp [stp] at hs
end
end
section
/-! What the abstract machine runs, the machine runs. -/
def rmD (d k : Nat) : Room := { frames := d, cells := k, slots := 6 * k, locals := 60 * d }
def wsM (mi : Nat) : List Cond := Cond.code (mNm mi) (mBy mi) (mMx mi) (mRt mi) :: TS
def PreU (D : va_G) (cs : Nat → ClassId) (ad : Nat → Nat) (xs : Nat → Int32) (L B0 : Nat) (h : Hp) (U : State) : Prop := Rep D cs ad xs L h U.heap ∧ va_K D cls9 (tys6 cs) U ∧ (∀ w ∈ nW, va_Nw w U) ∧ va_X (ad 1000) L xs U U.heap ∧ ad 1000 < B0 ∧ B0 ≤ U.heap.size
def QcM (D : va_G) (cs : Nat → ClassId) (ad : Nat → Nat) (xs : Nat → Int32) (L B0 : Nat) (h' : Hp) (v : Option Value) : Array Value → State → Outcome → State → Prop := fun _ st oc t => oc = .returned v ∧ Rep D cs ad xs L h' t.heap ∧ va_F (fun q => B0 ≤ q) st t
def okFrom : Nat → List (List (Nat × Instr × Nat × Nat)) → Prop
  | _, [] => True
  | i, x :: xs => x.all (okE i) = true ∧ okFrom (i + 1) xs
theorem okFrom_get : ∀ (l : List (List (Nat × Instr × Nat × Nat))) (i k : Nat), okFrom i l → (l.getD k []).all (okE (i + k)) = true
  | [], i, k, _ => by simp
  | x :: xs, i, 0, h => by simpa using h.1
  | x :: xs, i, k + 1, h => by
    have := okFrom_get xs (i + 1) k h.2
    rw [show i + (k + 1) = i + 1 + k by omega]
    simpa using this
set_option maxRecDepth 100000 in
theorem okFrom_0 : okFrom 0 mCdL := And.intro okM_0 (And.intro okM_1 (And.intro okM_2 (And.intro okM_3 (And.intro okM_4 (And.intro okM_5 (And.intro okM_6 (And.intro okM_7 (And.intro okM_8 (And.intro okM_9 (And.intro okM_10 (And.intro okM_11 (And.intro okM_12 (And.intro okM_13 (And.intro okM_14 (And.intro okM_15 (And.intro okM_16 (And.intro okM_17 (And.intro okM_18 (And.intro okM_19 (And.intro okM_20 (And.intro okM_21 (And.intro okM_22 (And.intro okM_23 (And.intro okM_24 (And.intro okM_25 (And.intro okM_26 (And.intro okM_27 (And.intro okM_28 (And.intro okM_29 (And.intro okM_30 (And.intro okM_31 (And.intro okM_32 (And.intro okM_33 (And.intro okM_34 (And.intro okM_35 (And.intro okM_36 (And.intro okM_37 (And.intro okM_38 (And.intro okM_39 (And.intro okM_40 (And.intro okM_41 (And.intro okM_42 (And.intro okM_43 (And.intro okM_44 (And.intro okM_45 (And.intro okM_46 (And.intro okM_47 (And.intro okM_48 (And.intro okM_49 (And.intro okM_50 (And.intro okM_51 (And.intro okM_52 (And.intro okM_53 (And.intro okM_54 (And.intro okM_55 (And.intro okM_56 (And.intro okM_57 (And.intro okM_58 (And.intro okM_59 (And.intro okM_60 (And.intro okM_61 (And.intro okM_62 (And.intro okM_63 (And.intro okM_64 (And.intro okM_65 (And.intro okM_66 (And.intro okM_67 (And.intro okM_68 (And.intro okM_69 (And.intro okM_70 (And.intro okM_71 (And.intro okM_72 (And.intro okM_73 (And.intro okM_74 (And.intro okM_75 (And.intro okM_76 (And.intro okM_77 (And.intro okM_78 (And.intro okM_79 (And.intro okM_80 (And.intro okM_81 (And.intro okM_82 (And.intro okM_83 (And.intro okM_84 (And.intro okM_85 (And.intro okM_86 (And.intro okM_87 (And.intro okM_88 (And.intro okM_89 (And.intro okM_90 (And.intro okM_91 (And.intro okM_92 (And.intro okM_93 (And.intro okM_94 (And.intro okM_95 (And.intro okM_96 (And.intro okM_97 (And.intro okM_98 (And.intro okM_99 (And.intro okM_100 (And.intro okM_101 (And.intro okM_102 (And.intro okM_103 (And.intro okM_104 (And.intro okM_105 (And.intro okM_106 (And.intro okM_107 (And.intro okM_108 (And.intro okM_109 (And.intro okM_110 (And.intro okM_111 (And.intro okM_112 (And.intro okM_113 (And.intro okM_114 (And.intro okM_115 (And.intro okM_116 (And.intro okM_117 (And.intro okM_118 (And.intro okM_119 (And.intro okM_120 (And.intro okM_121 (And.intro okM_122 (And.intro okM_123 (And.intro okM_124 (And.intro okM_125 (And.intro okM_126 (And.intro okM_127 (And.intro okM_128 (And.intro okM_129 (And.intro okM_130 (And.intro okM_131 (And.intro okM_132 (And.intro okM_133 (And.intro okM_134 (And.intro okM_135 (And.intro okM_136 (And.intro okM_137 (And.intro okM_138 (And.intro okM_139 (And.intro okM_140 (And.intro okM_141 (And.intro okM_142 (And.intro okM_143 (And.intro okM_144 (And.intro okM_145 (And.intro okM_146 (And.intro okM_147 (And.intro okM_148 (And.intro okM_149 (And.intro okM_150 (And.intro okM_151 (And.intro okM_152 (And.intro okM_153 (And.intro okM_154 (And.intro okM_155 (And.intro okM_156 (And.intro okM_157 (And.intro okM_158 (And.intro okM_159 (And.intro okM_160 (And.intro okM_161 (And.intro okM_162 (And.intro okM_163 (And.intro okM_164 (And.intro okM_165 (And.intro okM_166 (And.intro okM_167 (And.intro okM_168 (And.intro okM_169 (And.intro okM_170 (And.intro okM_171 (And.intro okM_172 (And.intro okM_173 (And.intro okM_174 (And.intro okM_175 (And.intro okM_176 (And.intro okM_177 (And.intro okM_178 (And.intro okM_179 (And.intro okM_180 (And.intro okM_181 (And.intro okM_182 (And.intro okM_183 (And.intro okM_184 (And.intro okM_185 (And.intro okM_186 (And.intro okM_187 (And.intro okM_188 (And.intro okM_189 (And.intro okM_190 (And.intro okM_191 (And.intro okM_192 (And.intro okM_193 (And.intro okM_194 (And.intro okM_195 (And.intro okM_196 (And.intro okM_197 (And.intro okM_198 (And.intro okM_199 (And.intro okM_200 (And.intro okM_201 (And.intro okM_202 (And.intro okM_203 (And.intro okM_204 (And.intro okM_205 (And.intro okM_206 (And.intro okM_207 (And.intro okM_208 (And.intro okM_209 (And.intro okM_210 (And.intro okM_211 (And.intro okM_212 (And.intro okM_213 (And.intro okM_214 (trivial)))))))))))))))))))))))))))))))))))))))))))))))))))))))))))))))))))))))))))))))))))))))))))))))))))))))))))))))))))))))))))))))))))))))))))))))))))))))))))))))))))))))))))))))))))))))))))))))))))))))))))))))))))))))
theorem mCd_ok {mi pc : Nat} {ins : Instr} {n r : Nat} (h : mCd mi pc = some (ins, n, r)) : decode (mBy mi) pc = .ok (ins, n) ∧ (ilen ins = 0 ∨ n = ilen ins) ∧ lkOk mi ins r = true := by
  have h1 := okFrom_get mCdL 0 mi okFrom_0
  rw [Nat.zero_add] at h1
  have h2 := List.all_eq_true.mp h1 _ (lk_mem h)
  unfold okE at h2
  rw [Bool.and_eq_true, Bool.and_eq_true, Bool.or_eq_true, decide_eq_true_eq, decide_eq_true_eq, decide_eq_true_eq] at h2
  exact ⟨h2.1.1, h2.1.2, h2.2⟩
theorem all_range {f : Nat → Bool} {a b r : Nat} (h : ((List.range b).drop a).all f = true) (h1 : a ≤ r) (h2 : r < b) : f r = true := by
  refine List.all_eq_true.mp h r (List.mem_of_getElem? (i := r - a) ?_)
  rw [List.getElem?_drop, show a + (r - a) = r by omega, List.getElem?_range h2]
theorem mth_all {r : Nat} (h : r < 205) : mthOk r = true := by
  rcases Nat.lt_or_ge r 30 with q0 | q0
  · exact all_range mth_0 (by omega) q0
  rcases Nat.lt_or_ge r 60 with q30 | q30
  · exact all_range mth_30 (by omega) q30
  rcases Nat.lt_or_ge r 90 with q60 | q60
  · exact all_range mth_60 (by omega) q60
  rcases Nat.lt_or_ge r 120 with q90 | q90
  · exact all_range mth_90 (by omega) q90
  rcases Nat.lt_or_ge r 150 with q120 | q120
  · exact all_range mth_120 (by omega) q120
  rcases Nat.lt_or_ge r 180 with q150 | q150
  · exact all_range mth_150 (by omega) q150
  exact all_range mth_180 (by omega) h
theorem mth_parts {r : Nat} (h : r < 205) : Cond.code (mNm r) (mBy r) (mMx r) (mRt r) ∈ TS ∧ (if mSt r then Cond.static (mNm r) else Cond.instanceMethod (mNm r)) ∈ TS ∧ (mSt r = true ∨ Cond.selects (mNm r).cls (mNm r) (mNm r) ∈ TS) ∧ Cond.initialized (mNm r).cls ∈ TS ∧ (parseMethodDescriptor (mNm r).desc).map (fun d => d.parameters.length) = some (mNp r) ∧ (mNm r).cls ≠ "java/lang/invoke/MethodHandle" ∧ (mNm r).cls ≠ "java/lang/invoke/VarHandle" ∧ mMx r ≤ 41 ∧ plainFor (mNm r) = true ∧ (mSt r = true ∨ (clR (mCl r) = (mNm r).cls ∧ mCl r < 9)) := by
  have hm := mth_all h
  unfold mthOk at hm
  simp only [Bool.and_eq_true, Bool.or_eq_true, decide_eq_true_eq] at hm
  obtain ⟨⟨⟨⟨⟨⟨⟨⟨⟨h1, h2⟩, h3⟩, h4⟩, h5⟩, h6⟩, h7⟩, h8⟩, h9⟩, h10⟩ := hm
  exact ⟨atP_mem h1, atP_mem h2, h3.imp id atP_mem, atP_mem h4, h5, h6, h7, h8, h9, h10⟩
/-- a contract of a method out of its body's walk, where no native row stands in its place -/
theorem Met_ofWF {l : Launch} {y : MethodName} {ws ws' : List Cond} {rm : Room} {Pc : Array Value → State → Prop} {Qc : Array Value → State → Outcome → State → Prop} {mc ms : Nat} {free : Addr → Prop} {cc : ByteArray} {maxL : Nat} {ret : Option FieldType}
    (hy : plainFor y = true) (hw : ws = Cond.code y cc maxL ret :: ws')
    (body : ∀ p e s m args below meth c s₁, BodyLoose p l y (headSpec ws rm) cc maxL ret e s m args below meth c s₁ → c.maxLocals = maxL → Pc args s →
      W p l e (headSpec ws rm).room s m args below meth c s.heap [] 0 0 (MQ below Qc args s mc ms free) (entryFrame m args maxL)) : Met l y ws rm Pc Qc mc ms free := by
  refine MetFree.of_bodySF (code := cc) (maxLocals := maxL) (ret := ret) hy ?_ ?_
  · intro args s m h hn
    obtain ⟨meth, c, h1, h2, h3, h4, h5, h6, -, -⟩ := Cond.code_spec hn (atoms_spec (ws := ws) h _ (by rw [hw]; exact List.mem_cons_self))
    exact ⟨meth, c, h1, h2, h3, h4, h5, h6⟩
  · intro p e s m args below meth c s₁ B hml hP _
    have hh0 : s₁.heap = s.heap := by rw [B.state]; rfl
    obtain ⟨t, a1, o, b1, b2, b3⟩ := body p e s m args below meth c s₁ B hml hP s₁ hh0 (Stand.of_body B)
    exact ⟨t, o, a1, b1, b2, ⟨b3.1, b3.2⟩⟩
section
variable {D : va_G} {cs : Nat → ClassId} {ad : Nat → Nat} {xs : Nat → Int32} {L B0 : Nat}
variable {p : Program} {l : Launch} {e : Env} {R : Room} {s : State} {m : MethodId} {args : Array Value} {below : List Frame} {meth : Method} {c : Code} {H : Heap} {locs : List Loc} {cells slots : Nat} {Q : State → Prop} {mi pc : Nat} {ls : Array Slot} {lv : LV} {st : List Value} {h : Hp}
theorem X_kept {H1 : Heap} {locs1 : List Loc} {U : State} (hX : va_X (ad 1000) L xs s s.heap) (hbl : ad 1000 < B0) (hBs : B0 ≤ s.heap.size) (hS : va_S (fun q => B0 ≤ q) s.heap H1 locs1) (hvm : s.vm.Alike U.vm) : va_X (ad 1000) L xs U H1 := (hX.kept (hS.2.1 _ (Nat.lt_of_lt_of_le hbl hBs) (Nat.not_le.mpr hbl))).moved hvm
theorem PreU_of {U : State} (C : Ctx D cs ad xs L B0 p s m args meth c mi) (hR : Rep D cs ad xs L h H) (hS : va_S (fun q => B0 ≤ q) s.heap H locs) (hU : U.heap = H) (hW : s.WarmedH U.vm) : PreU D cs ad xs L B0 h U := by
  obtain ⟨hx, hb, hml, hown, hts, hK, hN, hX, hbl, hBs⟩ := C
  subst hU
  refine ⟨hR, va_K.moved hW.alike hK, fun w hw => ?_, X_kept hX hbl hBs hS hW.alike, hbl, Nat.le_trans hBs hS.1⟩
  obtain ⟨q, -, rfl⟩ := List.mem_map.mp hw
  exact va_Nw.warmM hW (hN _ hw)
theorem PreU_blind {as : List Value} : FrameBlind (va_Pc as (PreU D cs ad xs L B0 h)) := by
  intro a U g mk q
  obtain ⟨q0, qR, qK, qN, qX, qb, qB⟩ := q
  refine ⟨q0, qR, va_K.moved (u := U) (U := U.calling g mk a) (Vm.Alike.refl U.vm) qK, fun w hw => ?_, va_X.moved (u := U) (U := U.calling g mk a) (Vm.Alike.refl U.vm) qX, qb, qB⟩
  obtain ⟨q, -, rfl⟩ := List.mem_map.mp hw
  exact va_Nw.same rfl (u := U) (U := U.calling g mk a) rfl (qN _ hw)
theorem wsM_good {r : Nat} (hr : r < 205) : GoodIn TS (wsM r) := by
  intro w hw
  have h1 : w ∈ TS := by
    rcases List.mem_cons.mp hw with rfl | h
    · exact (mth_parts hr).1
    · exact h
  exact ⟨h1, good_of_word (List.mem_filter.mp h1).2⟩
/-- behind a call -/
theorem callG {mc ms : Nat} {st0 rest : List Value} {a : Array Value} {h1 : Hp} {v : Option Value} (hr : va_Run p l e R s m args below meth c H locs cells slots mc ms (F0 m pc ls st0) rest (QcM D cs ad xs L B0 h1 v a) (fun q => B0 ≤ q)) (hS : va_S (fun q => B0 ≤ q) s.heap H locs)
    (kk : ∀ (H1 : Heap) (locs1 : List Loc), Rep D cs ad xs L h1 H1 → va_S (fun q => B0 ≤ q) s.heap H1 locs1 → W p l e R s m args below meth c H1 locs1 (cells + mc) (slots + ms) Q (F0 m (pc + 3) ls (v.toList ++ rest))) : W p l e R s m args below meth c H locs cells slots Q (F0 m pc ls st0) := by
  intro T hT X
  obtain ⟨v', st₀, t, T', L', h0, X', hL, e1, e2, ⟨hv, hRp, hz, hk⟩, st⟩ := hr T hT X
  cases hv
  rw [h0] at hz hk
  obtain ⟨t2, a1, b1⟩ := kk T'.heap (locs ++ L') (by rw [e1]; exact hRp)
    ⟨Nat.le_trans hS.1 (by rw [e1]; exact hz), fun q h1 h2 => by rw [e1, hk q (Nat.lt_of_lt_of_le h1 hS.1) h2]; exact hS.2.1 q h1 h2, fun q hq => by
      rcases List.mem_append.mp hq with h | h
      · exact hS.2.2 q h
      · exact hL q h⟩ T' rfl X'
  exact ⟨t2, st t2 a1, b1⟩
/-- a method's end -/
theorem snd_fin {pc' : Nat} {st' : List Value} {h' : Hp} {v : Option Value} (C : Ctx D cs ad xs L B0 p s m args meth c mi) (hr : meth.sig.returnType = mRt mi) (hlocks : meth.locks = false) (hf : fin mi pc' st' = some (some v)) (hR : Rep D cs ad xs L h' H) (hS : va_S (fun q => B0 ≤ q) s.heap H locs) : W p l e R s m args below meth c H locs cells slots (MQ below (QcM D cs ad xs L B0 h' (v.map (tr ad))) args s cells slots (fun q => B0 ≤ q)) (F0 m pc' ls (st'.map (tr ad))) := by
  obtain ⟨hx, hb, hml, hown, hts, hK, hN, hX, hbl, hBs⟩ := C
  unfold fin at hf
  split at hf
  · rename_i n r hc
    obtain ⟨hd0, hlen, -⟩ := mCd_ok hc
    have hd : decode (mBy mi) pc' = .ok (.ireturn, 1) := by rw [hd0, hlen.resolve_left (by simp [ilen])]; rfl
    split at hf
    · rename_i x
      split at hf
      · rename_i ht
        cases hf
        exact W.zret (ty := .int) hx hb (hr.trans ht) rfl (fun t ht _ => ⟨rfl, by rw [ht]; exact hR, hS.F ht⟩) hS.2.2 hd hlocks
      · rename_i ht
        split at hf
        · rename_i hz
          cases hf
          exact W.zret (ty := .boolean) hx hb (hr.trans ht) (by rcases hz with rfl | rfl <;> rfl) (fun t ht _ => ⟨rfl, by rw [ht]; exact hR, hS.F ht⟩) hS.2.2 hd hlocks
        · cases hf
      · cases hf
    · cases hf
  · rename_i n r hc
    obtain ⟨hd0, hlen, -⟩ := mCd_ok hc
    have hd : decode (mBy mi) pc' = .ok (.lreturn, 1) := by rw [hd0, hlen.resolve_left (by simp [ilen])]; rfl
    split at hf
    · rename_i x
      split at hf
      · rename_i ht
        cases hf
        exact W.lret hx hb (hr.trans ht) (fun t ht _ => ⟨rfl, by rw [ht]; exact hR, hS.F ht⟩) hS.2.2 hd hlocks
      · cases hf
    · cases hf
  · rename_i n r hc
    obtain ⟨hd0, hlen, -⟩ := mCd_ok hc
    have hd : decode (mBy mi) pc' = .ok (.return_, 1) := by rw [hd0, hlen.resolve_left (by simp [ilen])]; rfl
    split at hf
    · split at hf
      · rename_i ht
        cases hf
        exact W.vret hx hb (hr.trans ht) (fun t ht _ => ⟨rfl, by rw [ht]; exact hR, hS.F ht⟩) hS.2.2 hd hlocks
      · cases hf
    · cases hf
  · split at hf <;> cases hf
  · cases hf
end
end
section
theorem stp_t {ins : Instr} {r pc pc' : Nat} {lv lv' : LV} {st st' : List Value} {h h' : Hp} (hs : stp ins r pc lv st h = some (pc', lv', st', h')) : h'.2.2 = h.2.2 := by
  unfold stp at hs
  repeat' split at hs
  all_goals first
    | (cases hs; rfl)
    | (cases hs)
section
variable {D : va_G} {cs : Nat → ClassId} {ad : Nat → Nat} {xs : Nat → Int32} {L B0 : Nat}
/-- all that a walk of a method stands on -/
def SndW (D : va_G) (cs : Nat → ClassId) (ad : Nat → Nat) (xs : Nat → Int32) (L B0 : Nat) (l : Launch) (f : Nat) : Prop :=
  ∀ (d mi pc : Nat) (lv : LV) (st : List Value) (h : Hp) (pc' : Nat) (st' : List Value) (h' : Hp), exec f d mi pc lv st h = some (pc', st', h') → h.2.2.1 ≤ h'.2.2.1 ∧
  ∀ (p : Program) (e : Env) (R : Room) (s : State) (m : MethodId) (args : Array Value) (below : List Frame) (meth : Method) (c : Code) (H : Heap) (locs : List Loc) (cells slots : Nat) (Q : State → Prop) (ls : Array Slot),
    Ctx D cs ad xs L B0 p s m args meth c mi → d ≤ R.frames → 60 * d ≤ R.locals → cells + (h'.2.2.1 - h.2.2.1) ≤ R.cells → slots + 6 * (h'.2.2.1 - h.2.2.1) ≤ R.slots → LH ad ls (mMx mi) lv → Rep D cs ad xs L h H → va_S (fun q => B0 ≤ q) s.heap H locs →
    (∀ (H1 : Heap) (locs1 : List Loc) (ls1 : Array Slot), ls1.size = mMx mi → Rep D cs ad xs L h' H1 → va_S (fun q => B0 ≤ q) s.heap H1 locs1 → W p l e R s m args below meth c H1 locs1 (cells + (h'.2.2.1 - h.2.2.1)) (slots + 6 * (h'.2.2.1 - h.2.2.1)) Q (F0 m pc' ls1 (st'.map (tr ad)))) →
    W p l e R s m args below meth c H locs cells slots Q (F0 m pc ls (st.map (tr ad)))
/-- a method's contract -/
theorem snd_met {l : Launch} {f d r pc' : Nat} {as : List Value} {h h' : Hp} {st' : List Value} {v : Option Value} (hS : SndW D cs ad xs L B0 l f) (hr : r < 205) (he : exec f d r 0 (ent (mMx r) as) [] h = some (pc', st', h')) (hf : fin r pc' st' = some (some v)) (hl : (as.map (fun v => v.category)).sum ≤ mMx r) :
    Met l (mNm r) (wsM r) (rmD d (h'.2.2.1 - h.2.2.1)) (va_Pc (as.map (tr ad)) (PreU D cs ad xs L B0 h)) (QcM D cs ad xs L B0 h' (v.map (tr ad))) (h'.2.2.1 - h.2.2.1) (6 * (h'.2.2.1 - h.2.2.1)) (fun q => B0 ≤ q) := by
  refine Met_ofWF (cc := mBy r) (maxL := mMx r) (ret := mRt r) (mth_parts hr).2.2.2.2.2.2.2.2.1 rfl ?_
  intro p e s m args below meth c s₁ B hml hv
  obtain ⟨rfl, hR, hK, hN, hX, hbl, hB⟩ := hv
  have hts : ∀ w ∈ TS, w.before (as.map (tr ad)).toArray s = true := fun w hw => atoms_spec (ws := wsM r) B.pre w (List.mem_cons_of_mem _ hw)
  have C : Ctx D cs ad xs L B0 p s m (as.map (tr ad)).toArray meth c r := ⟨B.exec, B.bytes, hml, findClass_of_methodNamed B.named, hts, hK, hN, hX, hbl, hB⟩
  rw [lg_entry_eq]
  obtain ⟨-, hw⟩ := hS _ _ _ _ _ _ _ _ _ he
  refine hw p e _ s m _ below meth c s.heap [] 0 0 _ _ C (Nat.le_refl d) (Nat.le_refl _) (by rw [Nat.zero_add]; exact Nat.le_refl _) (by rw [Nat.zero_add]; exact Nat.le_refl _) (LH_ent hl) hR va_S.rf (fun H1 locs1 ls1 q1 q2 q3 => ?_)
  rw [Nat.zero_add, Nat.zero_add]
  exact snd_fin C B.returns B.notSynchronized hf q2 q3
end
theorem cargs_spec {ins : Instr} {r : Nat} {st as rest : List Value} (h : cargs ins r st = some (as, rest)) : isSt ins = mSt r ∧ as.length = nAr r ∧ (rest.map (fun v => v.category)).sum ≤ 8 ∧ (as.map (fun v => v.category)).sum ≤ mMx r ∧ st = as.reverse ++ rest := by
  unfold cargs at h
  split at h
  · rename_i q
    obtain ⟨q1, q2, q3, q4⟩ := q
    cases h
    refine ⟨q1, ?_, q3, ?_, ?_⟩
    · rw [List.length_reverse, List.length_take]
      omega
    · rw [List.map_reverse, List.sum_reverse]
      exact q4
    · rw [List.reverse_reverse, List.take_append_drop]
  · cases h
theorem wrp_205 : ∀ r, r < 214 → wrp r = none → r < 205 := by decide +kernel
section
variable {D : va_G} {cs : Nat → ClassId} {ad : Nat → Nat} {xs : Nat → Int32} {L B0 : Nat}
variable {p : Program} {l : Launch} {e : Env} {R : Room} {s : State} {m : MethodId} {args : Array Value} {below : List Frame} {meth : Method} {c : Code} {H : Heap} {locs : List Loc} {cells slots : Nat} {Q : State → Prop} {mi pc : Nat} {ls : Array Slot} {lv : LV} {st : List Value} {h : Hp}
theorem stack_tr {as rest : List Value} (hst : st = as.reverse ++ rest) : st.map (tr ad) = (as.map (tr ad)).reverse ++ rest.map (tr ad) := by
  rw [hst, List.map_append, List.map_reverse]
set_option maxHeartbeats 4000000 in
/-- a call of a method that returns -/
theorem snd_call {ins : Instr} {n r f d' pc1 : Nat} {as rest st1 : List Value} {h1 : Hp} {v : Option Value} (ih : SndW D cs ad xs L B0 l f) (hc : mCd mi pc = some (ins, n, r)) (hi : isC ins = 1) (hca : cargs ins r st = some (as, rest)) (hw : wrp r = none) (hrc : rcv r as = true) (he1 : exec f d' r 0 (ent (mMx r) as) [] h = some (pc1, st1, h1)) (hf : fin r pc1 st1 = some (some v))
    (C : Ctx D cs ad xs L B0 p s m args meth c mi) (hdR : d' + 1 ≤ R.frames) (hlR : 60 * (d' + 1) ≤ R.locals) (hcR : cells + (h1.2.2.1 - h.2.2.1) ≤ R.cells) (hsR : slots + 6 * (h1.2.2.1 - h.2.2.1) ≤ R.slots) (hl : ls.size = mMx mi) (hR : Rep D cs ad xs L h H) (hS : va_S (fun q => B0 ≤ q) s.heap H locs)
    (kk : ∀ (H1 : Heap) (locs1 : List Loc), Rep D cs ad xs L h1 H1 → va_S (fun q => B0 ≤ q) s.heap H1 locs1 → W p l e R s m args below meth c H1 locs1 (cells + (h1.2.2.1 - h.2.2.1)) (slots + 6 * (h1.2.2.1 - h.2.2.1)) Q (F0 m (pc + 3) ls ((v.toList ++ rest).map (tr ad)))) : W p l e R s m args below meth c H locs cells slots Q (F0 m pc ls (st.map (tr ad))) := by
  obtain ⟨hx, hb, hml, hown, hts, hK, hN, hX, hbl, hBs⟩ := id C
  obtain ⟨hd0, hlen, hk⟩ := mCd_ok hc
  obtain ⟨c1, c2, c3, c4, c5⟩ := cargs_spec hca
  have hr : r < 205 := by
    cases ins with
    | invokestatic ix =>
      unfold lkOk at hk
      rw [Bool.or_eq_true] at hk
      rcases hk with hk | hk
      · obtain ⟨q, -, hz⟩ := List.any_eq_true.mp hk
        rw [decide_eq_true_eq] at hz
        exact wrp_205 r hz.2.2.2 hw
      · obtain ⟨q, -, hz⟩ := List.any_eq_true.mp hk
        rw [decide_eq_true_eq] at hz
        exact hz.2.2.2
    | invokevirtual ix =>
      obtain ⟨q, -, hz⟩ := List.any_eq_true.mp hk
      rw [decide_eq_true_eq] at hz
      exact hz.2.2.2
    | _ => simp [isC] at hi
  obtain ⟨m1, m2, m3, m4, m5, m6, m7, m8, m9, m10⟩ := mth_parts hr
  have hM := snd_met (ad := ad) ih hr he1 hf c4
  have hroom : (rmD d' (h1.2.2.1 - h.2.2.1)).frames + 1 ≤ R.frames ∧ 8 + (mMx r + 11) + (rmD d' (h1.2.2.1 - h.2.2.1)).locals ≤ R.locals := by
    refine ⟨hdR, ?_⟩
    show 8 + (mMx r + 11) + 60 * d' ≤ R.locals
    omega
  have hrest : (((rest.map (tr ad)).map fun v => v.category)).sum ≤ 8 := by rw [cat_map]; exact c3
  have hkk : ∀ (H1 : Heap) (locs1 : List Loc), Rep D cs ad xs L h1 H1 → va_S (fun q => B0 ≤ q) s.heap H1 locs1 → W p l e R s m args below meth c H1 locs1 (cells + (h1.2.2.1 - h.2.2.1)) (slots + 6 * (h1.2.2.1 - h.2.2.1)) Q (F0 m (pc + 3) ls ((v.map (tr ad)).toList ++ rest.map (tr ad))) := by
    intro H1 locs1 q1 q2
    have := kk H1 locs1 q1 q2
    cases v with
    | none => exact this
    | some v => exact this
  cases ins with
  | invokestatic ix =>
    have hd : decode (mBy mi) pc = .ok (.invokestatic ix, 3) := by rw [hd0, hlen.resolve_left (by simp [ilen])]; rfl
    have hsr : mSt r = true := c1.symm
    have hsta : (Cond.static (mNm r)).before args s = true := by
      rw [hsr] at m2
      exact hts _ m2
    have hn : (as.map (tr ad)).length = mNp r := by
      rw [List.length_map, c2]
      unfold nAr
      rw [if_pos hsr]
    unfold lkOk at hk
    rw [Bool.or_eq_true] at hk
    rcases hk with hk | hk
    · obtain ⟨q, hq, hz⟩ := List.any_eq_true.mp hk
      rw [decide_eq_true_eq] at hz
      obtain ⟨z1, z2, z3, -⟩ := hz
      have hlw := hts _ (atP_mem (List.all_eq_true.mp cLk_ok q hq))
      rw [z1, z2, ← z3] at hlw
      refine callG (va_runS (As := as.map (tr ad)) (rest := rest.map (tr ad)) ⟨hx, hb, hml, hown, hts⟩ hM ⟨callB_of (mNp r) hts (wsM_good hr) rfl rfl rfl (hts _ m4) hlw ⟨m6, m7, m5⟩ hroom, hsta⟩ ⟨PreU_blind, fun U hU hW => ⟨rfl, PreU_of C hR hS hU hW⟩⟩ rfl hn hl (stack_tr c5) (lv_room hrest) hd ⟨hcR, hsR⟩) hS hkk
    · obtain ⟨q, hq, hz⟩ := List.any_eq_true.mp hk
      rw [decide_eq_true_eq] at hz
      obtain ⟨z1, z2, z3, -⟩ := hz
      have hlw := hN _ (List.mem_map.mpr ⟨q, hq, rfl⟩)
      rw [z1, z2, ← z3] at hlw
      refine callG (va_runSN (As := as.map (tr ad)) (rest := rest.map (tr ad)) ⟨hx, hb, hml, hown, hts⟩ hM ⟨va_cnB (mNp r) hts (wsM_good hr) rfl rfl rfl hlw (hts _ m4) ⟨m6, m7, m5⟩ hroom, hsta, trivial⟩ ⟨PreU_blind, fun U hU hW => ⟨rfl, PreU_of C hR hS hU hW⟩⟩ rfl hn hl (stack_tr c5) (lv_room hrest) hd ⟨hcR, hsR⟩) hS hkk
  | invokevirtual ix =>
    have hd : decode (mBy mi) pc = .ok (.invokevirtual ix, 3) := by rw [hd0, hlen.resolve_left (by simp [ilen])]; rfl
    have hsr : mSt r = false := c1.symm
    obtain ⟨q, hq, hz⟩ := List.any_eq_true.mp hk
    rw [decide_eq_true_eq] at hz
    obtain ⟨z1, z2, z3, -⟩ := hz
    have hlw := hts _ (atP_mem (List.all_eq_true.mp cLk_ok q hq))
    rw [z1, z2, ← z3] at hlw
    have hinst : (Cond.instanceMethod (mNm r)).before args s = true := by
      rw [hsr] at m2
      exact hts _ m2
    have hsel : (Cond.selects (mNm r).cls (mNm r) (mNm r)).before args s = true := by
      rcases m3 with z | z
      · rw [hsr] at z; cases z
      · exact hts _ z
    obtain ⟨k1, k2⟩ : clR (mCl r) = (mNm r).cls ∧ mCl r < 9 := by
      rcases m10 with z | z
      · rw [hsr] at z; cases z
      · exact z
    obtain ⟨b, as', rfl, hb9⟩ : ∃ b as', as = .ref b :: as' ∧ shp b = some (0, mCl r) := by
      unfold rcv at hrc
      rw [hsr] at hrc
      split at hrc
      · rename_i b as'
        rw [Bool.false_or, decide_eq_true_eq] at hrc
        exact ⟨b, as', rfl, hrc⟩
      · cases hrc
    have hn : (as'.map (tr ad)).length = mNp r := by
      have : nAr r = mNp r + 1 := by unfold nAr; rw [hsr]; rfl
      rw [List.length_cons, this] at c2
      rw [List.length_map]
      omega
    have hrecv : ∃ cellB : Cell, H[ad b]? = some cellB ∧ cellB.vm.isStatics = false ∧ s.vm.findClass (mNm r).cls = some cellB.cls := by
      have := va_recv hK hR.1 (cls9_at k2) (a := ad b) (q0 := b) (fs := (List.range (fN (mCl r))).map (fv ad h b (mCl r))) (by rw [wsh_get (shp_lt hb9), cellE_obj hb9])
      rw [← k1]
      exact this
    have hst : st.map (tr ad) = (as'.map (tr ad)).reverse ++ .ref (ad b) :: rest.map (tr ad) := by
      rw [stack_tr c5, List.map_cons, List.reverse_cons, List.append_assoc]
      rfl
    refine callG (va_runV (C := (mNm r).cls) (b := ad b) (As := as'.map (tr ad)) (rest := rest.map (tr ad)) ⟨hx, hb, hml, hown, hts⟩ hM ⟨callB_of (mNp r) hts (wsM_good hr) rfl rfl rfl (hts _ m4) hlw ⟨m6, m7, m5⟩ hroom, hinst, hsel⟩ ⟨PreU_blind, hrecv, fun U hU hW => ⟨rfl, PreU_of C hR hS hU hW⟩⟩ rfl hn hl hst (lv_room hrest) hd ⟨hcR, hsR⟩) hS hkk
  | _ => simp [isC] at hi
/-- the wrappers: what is owed of them -/
def SndX (D : va_G) (cs : Nat → ClassId) (ad : Nat → Nat) (xs : Nat → Int32) (L B0 : Nat) (l : Launch) : Prop :=
  ∀ (f d'' mi pc n r tg : Nat) (ins : Instr) (lv : LV) (st as rest : List Value) (h : Hp) (o pc1 : Nat) (st1 : List Value) (h1 h2 : Hp) (x : Int32), SndW D cs ad xs L B0 l f → mCd mi pc = some (ins, n, r) → isC ins = 1 → cargs ins r st = some (as, rest) → wrp r = some tg → wOut as = some o → rcv tg as.dropLast = true → 6 ≤ d'' → exec f d'' tg 0 (ent (mMx tg) as.dropLast) [] h = some (pc1, st1, h1) →
  ((∃ v, fin tg pc1 st1 = some (some (some v)) ∧ x = 0 ∧ h2 = setL h1 o 0 (toL v)) ∨ (fin tg pc1 st1 = some none ∧ x = 1 ∧ h2 = tick h1)) →
  ∀ (p : Program) (e : Env) (R : Room) (s : State) (m : MethodId) (args : Array Value) (below : List Frame) (meth : Method) (c : Code) (H : Heap) (locs : List Loc) (cells slots : Nat) (Q : State → Prop) (ls : Array Slot),
    Ctx D cs ad xs L B0 p s m args meth c mi → d'' + 1 + 1 ≤ R.frames → 60 * (d'' + 1 + 1) ≤ R.locals → cells + (h2.2.2.1 - h.2.2.1) ≤ R.cells → slots + 6 * (h2.2.2.1 - h.2.2.1) ≤ R.slots → ls.size = mMx mi → Rep D cs ad xs L h H → va_S (fun q => B0 ≤ q) s.heap H locs →
    (∀ (H1 : Heap) (locs1 : List Loc), Rep D cs ad xs L h2 H1 → va_S (fun q => B0 ≤ q) s.heap H1 locs1 → W p l e R s m args below meth c H1 locs1 (cells + (h2.2.2.1 - h.2.2.1)) (slots + 6 * (h2.2.2.1 - h.2.2.1)) Q (F0 m (pc + 3) ls (.int x :: rest.map (tr ad)))) →
    W p l e R s m args below meth c H locs cells slots Q (F0 m pc ls (st.map (tr ad)))
set_option maxHeartbeats 4000000 in
theorem snd_all (hW : WD cs ad B0) (hX : SndX D cs ad xs L B0 l) : ∀ f, SndW D cs ad xs L B0 l f := by
  intro f
  induction f with
  | zero => intro d mi pc lv st h pc' st' h' he; simp [exec] at he
  | succ f ih =>
    intro d mi pc lv st h pc' st' h' he
    unfold exec at he
    split at he
    · cases he
    · rename_i ins n r hc
      obtain ⟨hd0, hlen, hk⟩ := mCd_ok hc
      split at he
      · split at he
        · cases he
        · rename_i pc1 lv1 st1 h1 hs
          have ht := stp_t hs
          have e1 : h1.2.2.1 = h.2.2.1 := by rw [ht]
          obtain ⟨hle, hw⟩ := ih _ _ _ _ _ _ _ _ _ he
          rw [e1] at hle hw
          refine ⟨hle, ?_⟩
          intro p e R s m args below meth c H locs cells slots Q ls C hdR hlR hcR hsR hl hR hS kk
          exact snd_stp C hW hd0 hlen hk hs hl hR hS (fun H1 locs1 ls1 q1 q2 q3 => hw p e R s m args below meth c H1 locs1 cells slots Q ls1 C hdR hlR hcR hsR q1 q2 q3 kk)
      · rename_i hi
        split at he
        · cases he
        · rename_i d'
          split at he
          · cases he
          · rename_i as rest hca
            split at he
            · rename_i hwr
              split at he
              · rename_i hrc
                split at he
                · cases he
                · rename_i pc1 st1 h1 he1
                  split at he
                  · rename_i v hf
                    obtain ⟨hle1, -⟩ := ih _ _ _ _ _ _ _ _ _ he1
                    obtain ⟨hle2, hw⟩ := ih _ _ _ _ _ _ _ _ _ he
                    refine ⟨Nat.le_trans hle1 hle2, ?_⟩
                    intro p e R s m args below meth c H locs cells slots Q ls C hdR hlR hcR hsR hl hR hS kk
                    refine snd_call ih hc hi hca hwr hrc he1 hf C hdR hlR (by omega) (by omega) hl.2.1 hR hS (fun H1 locs1 q1 q2 => ?_)
                    refine hw p e R s m args below meth c H1 locs1 _ _ Q ls C hdR hlR (by omega) (by omega) hl q1 q2 (fun H2 locs2 ls2 w1 w2 w3 => ?_)
                    have k1 := kk H2 locs2 ls2 w1 w2 w3
                    rw [show cells + (h1.2.2.1 - h.2.2.1) + (h'.2.2.1 - h1.2.2.1) = cells + (h'.2.2.1 - h.2.2.1) by omega, show slots + 6 * (h1.2.2.1 - h.2.2.1) + 6 * (h'.2.2.1 - h1.2.2.1) = slots + 6 * (h'.2.2.1 - h.2.2.1) by omega]
                    exact k1
                  · cases he
              · cases he
            · rename_i tg hwr
              split at he
              · cases he
              · rename_i d''
                split at he
                · cases he
                · rename_i o ho
                  split at he
                  · rename_i hrc
                    split at he
                    · cases he
                    · rename_i pc1 st1 h1 he1
                      obtain ⟨hle1, -⟩ := ih _ _ _ _ _ _ _ _ _ he1
                      split at he
                      · rename_i v hf
                        obtain ⟨hle2, hw⟩ := ih _ _ _ _ _ _ _ _ _ he
                        have et : (setL h1 o 0 (toL v)).2.2.1 = h1.2.2.1 := rfl
                        refine ⟨Nat.le_trans hle1 (by rw [← et]; exact hle2), ?_⟩
                        intro p e R s m args below meth c H locs cells slots Q ls C hdR hlR hcR hsR hl hR hS kk
                        refine hX f d'' mi pc n r tg ins lv st as rest h o pc1 st1 h1 (setL h1 o 0 (toL v)) 0 ih hc hi hca hwr ho hrc.1 hrc.2 he1 (Or.inl ⟨v, hf, rfl, rfl⟩) p e R s m args below meth c H locs cells slots Q ls C hdR hlR (by rw [et]; rw [et] at hle2; omega) (by rw [et]; rw [et] at hle2; omega) hl.2.1 hR hS (fun H1 locs1 q1 q2 => ?_)
                        refine hw p e R s m args below meth c H1 locs1 _ _ Q ls C hdR hlR (by rw [et]; rw [et] at hle2; omega) (by rw [et]; rw [et] at hle2; omega) hl q1 q2 (fun H2 locs2 ls2 w1 w2 w3 => ?_)
                        have k1 := kk H2 locs2 ls2 w1 w2 w3
                        rw [et] at hle2 ⊢
                        rw [show cells + (h1.2.2.1 - h.2.2.1) + (h'.2.2.1 - h1.2.2.1) = cells + (h'.2.2.1 - h.2.2.1) by omega, show slots + 6 * (h1.2.2.1 - h.2.2.1) + 6 * (h'.2.2.1 - h1.2.2.1) = slots + 6 * (h'.2.2.1 - h.2.2.1) by omega]
                        exact k1
                      · rename_i hf
                        obtain ⟨hle2, hw⟩ := ih _ _ _ _ _ _ _ _ _ he
                        have et : (tick h1).2.2.1 = h1.2.2.1 + 1 := rfl
                        refine ⟨Nat.le_trans hle1 (by rw [et] at hle2; omega), ?_⟩
                        intro p e R s m args below meth c H locs cells slots Q ls C hdR hlR hcR hsR hl hR hS kk
                        refine hX f d'' mi pc n r tg ins lv st as rest h o pc1 st1 h1 (tick h1) 1 ih hc hi hca hwr ho hrc.1 hrc.2 he1 (Or.inr ⟨hf, rfl, rfl⟩) p e R s m args below meth c H locs cells slots Q ls C hdR hlR (by rw [et]; rw [et] at hle2; omega) (by rw [et]; rw [et] at hle2; omega) hl.2.1 hR hS (fun H1 locs1 q1 q2 => ?_)
                        refine hw p e R s m args below meth c H1 locs1 _ _ Q ls C hdR hlR (by rw [et]; rw [et] at hle2; omega) (by rw [et]; rw [et] at hle2; omega) hl q1 q2 (fun H2 locs2 ls2 w1 w2 w3 => ?_)
                        have k1 := kk H2 locs2 ls2 w1 w2 w3
                        rw [et] at hle2 ⊢
                        rw [show cells + (h1.2.2.1 + 1 - h.2.2.1) + (h'.2.2.1 - (h1.2.2.1 + 1)) = cells + (h'.2.2.1 - h.2.2.1) by omega, show slots + 6 * (h1.2.2.1 + 1 - h.2.2.1) + 6 * (h'.2.2.1 - (h1.2.2.1 + 1)) = slots + 6 * (h'.2.2.1 - h.2.2.1) by omega]
                        exact k1
                      · cases he
                  · cases he
      · cases he
        refine ⟨Nat.le_refl _, ?_⟩
        intro p e R s m args below meth c H locs cells slots Q ls C hdR hlR hcR hsR hl hR hS kk
        have k1 := kk H locs ls hl.2.1 hR hS
        rw [Nat.sub_self] at k1
        exact k1
end
end
