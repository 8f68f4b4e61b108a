/-! A wrapper's contract. -/
/-- what is held of a wrapper: r its number, tg its target, pcC ix the call, pE its return, eH hpc its handler, k aN the store of what was caught -/
def wrOk (r tg pcC ix pE eH hpc k aN : Nat) (pre post : List (Nat × Instr × Nat)) : Bool :=
  (plainFor (mNm r) && decide ((mNm r).cls = "LevelRingsLaw") && decide (Cond.codeWith (mNm r) (mBy r) (mMx r) (some .int) [(0, eH, hpc, 13)] ∈ lw_tbl) && decide (Cond.methodLink "LevelRingsLaw" ix (mNm tg) ∈ lw_tbl) && decide (Cond.static (mNm r) ∈ lw_tbl) && decide (Cond.initialized "LevelRingsLaw" ∈ lw_tbl)) &&
  (decide (decode (mBy r) pcC = .ok (.invokevirtual ix, 3)) && pre.all (okW r) && post.all (okW r) && decide (decode (mBy r) pE = .ok (.ireturn, 1)) && decide (pcC < eH) && decide (k < mMx r)) &&
  ((decide (decode (mBy r) hpc = .ok (.astore k, 2)) && decide (aN = 2)) || (decide (decode (mBy r) hpc = .ok (.astore_n (Fin.ofNat 4 k), 1)) && decide (aN = 1) && decide (k < 4))) && (decide (decode (mBy r) (hpc + aN) = .ok (.iconst 1, 1)) && decide (decode (mBy r) (hpc + aN + 1) = .ok (.ireturn, 1))) &&
  (decide (tg ∈ tg9) && decide (mMx r ≤ 20) && decide ((parseMethodDescriptor (mNm r).desc).map (fun d => d.parameters.length) = some (mNp r)) && decide (mSt r = true) && decide (mCl tg = 7) && decide (mSt tg = false))
def wcW (r eH hpc : Nat) : Cond := .codeWith (mNm r) (mBy r) (mMx r) (some .int) [(0, eH, hpc, 13)]
def WrP (r tg pcC ix pE eH hpc k aN : Nat) (pre post : List (Nat × Instr × Nat)) : Prop :=
  (plainFor (mNm r) = true) ∧ ((mNm r).cls = "LevelRingsLaw") ∧ (wcW r eH hpc ∈ TS) ∧ (Cond.methodLink "LevelRingsLaw" ix (mNm tg) ∈ TS) ∧ (Cond.static (mNm r) ∈ TS) ∧ (Cond.initialized "LevelRingsLaw" ∈ TS) ∧ (decode (mBy r) pcC = .ok (.invokevirtual ix, 3)) ∧ (pre.all (okW r) = true) ∧ (post.all (okW r) = true) ∧ (decode (mBy r) pE = .ok (.ireturn, 1)) ∧ (pcC < eH) ∧ (k < mMx r) ∧ ((decode (mBy r) hpc = .ok (.astore k, 2) ∧ aN = 2) ∨ (decode (mBy r) hpc = .ok (.astore_n (Fin.ofNat 4 k), 1) ∧ aN = 1 ∧ k < 4)) ∧ (decode (mBy r) (hpc + aN) = .ok (.iconst 1, 1)) ∧ (decode (mBy r) (hpc + aN + 1) = .ok (.ireturn, 1)) ∧ (tg ∈ tg9) ∧ (mMx r ≤ 20) ∧ ((parseMethodDescriptor (mNm r).desc).map (fun d => d.parameters.length) = some (mNp r)) ∧ (mSt r = true) ∧ (mCl tg = 7) ∧ (mSt tg = false)
theorem WrP.pf {r tg pcC ix pE eH hpc k aN : Nat} {pre post : List (Nat × Instr × Nat)} (h : WrP r tg pcC ix pE eH hpc k aN pre post) : plainFor (mNm r) = true := h.1
theorem WrP.own {r tg pcC ix pE eH hpc k aN : Nat} {pre post : List (Nat × Instr × Nat)} (h : WrP r tg pcC ix pE eH hpc k aN pre post) : (mNm r).cls = "LevelRingsLaw" := h.2.1
theorem WrP.cw {r tg pcC ix pE eH hpc k aN : Nat} {pre post : List (Nat × Instr × Nat)} (h : WrP r tg pcC ix pE eH hpc k aN pre post) : wcW r eH hpc ∈ TS := h.2.2.1
theorem WrP.lk {r tg pcC ix pE eH hpc k aN : Nat} {pre post : List (Nat × Instr × Nat)} (h : WrP r tg pcC ix pE eH hpc k aN pre post) : Cond.methodLink "LevelRingsLaw" ix (mNm tg) ∈ TS := h.2.2.2.1
theorem WrP.sta {r tg pcC ix pE eH hpc k aN : Nat} {pre post : List (Nat × Instr × Nat)} (h : WrP r tg pcC ix pE eH hpc k aN pre post) : Cond.static (mNm r) ∈ TS := h.2.2.2.2.1
theorem WrP.ini {r tg pcC ix pE eH hpc k aN : Nat} {pre post : List (Nat × Instr × Nat)} (h : WrP r tg pcC ix pE eH hpc k aN pre post) : Cond.initialized "LevelRingsLaw" ∈ TS := h.2.2.2.2.2.1
theorem WrP.dC {r tg pcC ix pE eH hpc k aN : Nat} {pre post : List (Nat × Instr × Nat)} (h : WrP r tg pcC ix pE eH hpc k aN pre post) : decode (mBy r) pcC = .ok (.invokevirtual ix, 3) := h.2.2.2.2.2.2.1
theorem WrP.pre {r tg pcC ix pE eH hpc k aN : Nat} {pre post : List (Nat × Instr × Nat)} (h : WrP r tg pcC ix pE eH hpc k aN pre post) : pre.all (okW r) = true := h.2.2.2.2.2.2.2.1
theorem WrP.post {r tg pcC ix pE eH hpc k aN : Nat} {pre post : List (Nat × Instr × Nat)} (h : WrP r tg pcC ix pE eH hpc k aN pre post) : post.all (okW r) = true := h.2.2.2.2.2.2.2.2.1
theorem WrP.dE {r tg pcC ix pE eH hpc k aN : Nat} {pre post : List (Nat × Instr × Nat)} (h : WrP r tg pcC ix pE eH hpc k aN pre post) : decode (mBy r) pE = .ok (.ireturn, 1) := h.2.2.2.2.2.2.2.2.2.1
theorem WrP.lt {r tg pcC ix pE eH hpc k aN : Nat} {pre post : List (Nat × Instr × Nat)} (h : WrP r tg pcC ix pE eH hpc k aN pre post) : pcC < eH := h.2.2.2.2.2.2.2.2.2.2.1
theorem WrP.kk {r tg pcC ix pE eH hpc k aN : Nat} {pre post : List (Nat × Instr × Nat)} (h : WrP r tg pcC ix pE eH hpc k aN pre post) : k < mMx r := h.2.2.2.2.2.2.2.2.2.2.2.1
theorem WrP.ast {r tg pcC ix pE eH hpc k aN : Nat} {pre post : List (Nat × Instr × Nat)} (h : WrP r tg pcC ix pE eH hpc k aN pre post) : (decode (mBy r) hpc = .ok (.astore k, 2) ∧ aN = 2) ∨ (decode (mBy r) hpc = .ok (.astore_n (Fin.ofNat 4 k), 1) ∧ aN = 1 ∧ k < 4) := h.2.2.2.2.2.2.2.2.2.2.2.2.1
theorem WrP.d1 {r tg pcC ix pE eH hpc k aN : Nat} {pre post : List (Nat × Instr × Nat)} (h : WrP r tg pcC ix pE eH hpc k aN pre post) : decode (mBy r) (hpc + aN) = .ok (.iconst 1, 1) := h.2.2.2.2.2.2.2.2.2.2.2.2.2.1
theorem WrP.d2 {r tg pcC ix pE eH hpc k aN : Nat} {pre post : List (Nat × Instr × Nat)} (h : WrP r tg pcC ix pE eH hpc k aN pre post) : decode (mBy r) (hpc + aN + 1) = .ok (.ireturn, 1) := h.2.2.2.2.2.2.2.2.2.2.2.2.2.2.1
theorem WrP.tg {r tg pcC ix pE eH hpc k aN : Nat} {pre post : List (Nat × Instr × Nat)} (h : WrP r tg pcC ix pE eH hpc k aN pre post) : tg ∈ tg9 := h.2.2.2.2.2.2.2.2.2.2.2.2.2.2.2.1
theorem WrP.mx {r tg pcC ix pE eH hpc k aN : Nat} {pre post : List (Nat × Instr × Nat)} (h : WrP r tg pcC ix pE eH hpc k aN pre post) : mMx r ≤ 20 := h.2.2.2.2.2.2.2.2.2.2.2.2.2.2.2.2.1
theorem WrP.prs {r tg pcC ix pE eH hpc k aN : Nat} {pre post : List (Nat × Instr × Nat)} (h : WrP r tg pcC ix pE eH hpc k aN pre post) : (parseMethodDescriptor (mNm r).desc).map (fun d => d.parameters.length) = some (mNp r) := h.2.2.2.2.2.2.2.2.2.2.2.2.2.2.2.2.2.1
theorem WrP.str {r tg pcC ix pE eH hpc k aN : Nat} {pre post : List (Nat × Instr × Nat)} (h : WrP r tg pcC ix pE eH hpc k aN pre post) : mSt r = true := h.2.2.2.2.2.2.2.2.2.2.2.2.2.2.2.2.2.2.1
theorem WrP.clt {r tg pcC ix pE eH hpc k aN : Nat} {pre post : List (Nat × Instr × Nat)} (h : WrP r tg pcC ix pE eH hpc k aN pre post) : mCl tg = 7 := h.2.2.2.2.2.2.2.2.2.2.2.2.2.2.2.2.2.2.2.1
theorem WrP.stt {r tg pcC ix pE eH hpc k aN : Nat} {pre post : List (Nat × Instr × Nat)} (h : WrP r tg pcC ix pE eH hpc k aN pre post) : mSt tg = false := h.2.2.2.2.2.2.2.2.2.2.2.2.2.2.2.2.2.2.2.2
theorem WrP_of {r tg pcC ix pE eH hpc k aN : Nat} {pre post : List (Nat × Instr × Nat)} (h : wrOk r tg pcC ix pE eH hpc k aN pre post = true) : WrP r tg pcC ix pE eH hpc k aN pre post := by
  unfold wrOk at h
  simp only [Bool.and_eq_true, Bool.or_eq_true, decide_eq_true_eq] at h
  obtain ⟨⟨⟨⟨⟨⟨⟨⟨⟨h1, h2⟩, h3⟩, h4⟩, h5⟩, h6⟩, ⟨⟨⟨⟨h7, h8⟩, h9⟩, h10⟩, h11⟩, h12⟩, h13⟩, h14, h15⟩, ⟨⟨⟨⟨h16, h17⟩, h18⟩, h19⟩, h20⟩, h21⟩ := h
  exact ⟨h1, h2, List.mem_filter.mpr ⟨h3, rfl⟩, List.mem_filter.mpr ⟨h4, rfl⟩, List.mem_filter.mpr ⟨h5, rfl⟩, List.mem_filter.mpr ⟨h6, rfl⟩, h7, h8, h9, h10, h11, h12, h13.imp id (fun z => ⟨z.1.1, z.1.2, z.2⟩), h14, h15, h16, h17, h18, h19, h20, h21⟩
section
variable {D : va_G} {cs : Nat → ClassId} {ad : Nat → Nat} {xs : Nat → Int32} {L B0 : Nat} {l : Launch} {f d r tg pcC ix pE eH hpc k aN o b pc1 : Nat} {pre post : List (Nat × Instr × Nat)} {as : List Value} {h h1 : Hp} {st1 : List Value} {lv1 lv2 : LV}
theorem room_w {d r k : Nat} (h : mMx r ≤ 20) : (rmD d k).frames + 1 ≤ (rmD (d + 1) k).frames ∧ 8 + (mMx r + 11) + (rmD d k).locals ≤ (rmD (d + 1) k).locals := by
  refine ⟨Nat.le_refl _, ?_⟩
  show 8 + (mMx r + 11) + 60 * d ≤ 60 * (d + 1)
  omega
set_option maxHeartbeats 4000000 in
theorem wrap_ret (hW : WD cs ad B0) (P : WrP r tg pcC ix pE eH hpc k aN pre post) (hS : SndW D cs ad xs L B0 l f) (hb : shp b = some (0, 7)) (hn : as.length = mNp tg) (hle : ((.ref b :: as ++ [.ref o] : List Value).map (fun v => v.category)).sum ≤ mMx r) (hlt : ((.ref b :: as : List Value).map (fun v => v.category)).sum ≤ mMx tg)
    (hr1 : runW pre 0 (ent (mMx r) (.ref b :: as ++ [.ref o])) [] h = some (pcC, lv1, as.reverse ++ [.ref b, .int 0, .ref o], h)) {v : Value} (hr2 : runW post (pcC + 3) lv1 [v, .int 0, .ref o] h1 = some (pE, lv2, [.int 0], setL h1 o 0 (toL v)))
    (he : exec f d tg 0 (ent (mMx tg) (.ref b :: as)) [] h = some (pc1, st1, h1)) (hf : fin tg pc1 st1 = some (some (some v))) (hi : tr ad v = v) :
    Met l (mNm r) (wcW r eH hpc :: TS) (rmD (d + 1) (h1.2.2.1 - h.2.2.1)) (va_Pc ((.ref b :: as ++ [.ref o] : List Value).map (tr ad)) (PreU D cs ad xs L B0 h)) (QcM D cs ad xs L B0 (setL h1 o 0 (toL v)) (some (.int 0))) (h1.2.2.1 - h.2.2.1) (6 * (h1.2.2.1 - h.2.2.1)) (fun q => B0 ≤ q) := by
  obtain ⟨ht5, htc, -, htm⟩ := tg_at P.tg
  obtain ⟨m1, m2, m3, m4, m5, m6, m7, m8, m9, m10⟩ := mth_parts ht5
  have hM := snd_met (ad := ad) hS ht5 he hf hlt
  refine Met_ofWH (cc := mBy r) (maxL := mMx r) (ret := some .int) (hh := [(0, eH, hpc, 13)]) P.pf rfl ?_
  intro p e s m args below meth c s₁ B hml hv
  obtain ⟨rfl, hR, hK, hN, hX, hbl, hB, hZ⟩ := hv
  have hts : ∀ w ∈ TS, w.before ((.ref b :: as ++ [.ref o] : List Value).map (tr ad)).toArray s = true := fun w hw => atoms_spec (ws := wcW r eH hpc :: TS) B.pre w (List.mem_cons_of_mem _ hw)
  have hown : s.vm.findClass (mNm r).cls = some m.cls := findClass_of_methodNamed B.named
  have C : Ctx D cs ad xs L B0 p s m ((.ref b :: as ++ [.ref o] : List Value).map (tr ad)).toArray meth c r := ⟨B.exec, B.bytes, hml, hown, hts, hK, hN, hX, hbl, hB, hZ⟩
  rw [lg_entry_eq]
  refine snd_runs C hW pre 0 _ [] h s.heap [] _ pcC lv1 _ h P.pre hr1 (LH_ent hle) hR va_S.rf (fun H1 locs1 ls1 q1 q2 q3 => ?_)
  have hinst := m2
  rw [P.stt] at hinst
  have hsel : Cond.selects (mNm tg).cls (mNm tg) (mNm tg) ∈ TS := by
    rcases m3 with z | z
    · rw [P.stt] at z; cases z
    · exact z
  obtain ⟨k1, k2⟩ : clR (mCl tg) = (mNm tg).cls ∧ mCl tg < 9 := by
    rcases m10 with z | z
    · rw [P.stt] at z; cases z
    · exact z
  rw [P.clt] at k1 k2
  have hrecv : ∃ cellB : Cell, H1[ad b]? = some cellB ∧ cellB.vm.isStatics = false ∧ s.vm.findClass (mNm tg).cls = some cellB.cls := by
    have := va_recv hK q2.1 (cls9_at k2) (a := ad b) (q0 := b) (fs := (List.range (fN 7)).map (fv ad h b 7)) (by rw [wsh_get (shp_lt hb), cellE_obj hb])
    rw [← k1]
    exact this
  have hst : (as.reverse ++ [Value.ref b, Value.int 0, Value.ref o]).map (tr ad) = (as.map (tr ad)).reverse ++ .ref (ad b) :: [.int 0, .ref (ad o)] := by
    rw [List.map_append, List.map_reverse]
    rfl
  rw [hst]
  have hlw : (Cond.methodLink (mNm r).cls ix (mNm tg)).before ((.ref b :: as ++ [.ref o] : List Value).map (tr ad)).toArray s = true := by
    rw [P.own]
    exact hts _ P.lk
  refine callG (va_runV (C := (mNm tg).cls) (b := ad b) (As := as.map (tr ad)) (rest := [.int 0, .ref (ad o)]) ⟨B.exec, B.bytes, hml, hown, hts⟩ hM ⟨callB_of (mNp tg) hts (wsM_good ht5) rfl rfl rfl (hts _ m4) hlw ⟨m6, m7, m5⟩ (room_w htm), hts _ hinst, hts _ hsel⟩ ⟨PreU_blind, hrecv, fun U hU hW => ⟨rfl, PreU_of C q2 q3 hU hW⟩⟩ rfl (by rw [List.length_map]; exact hn) q1.2.1 rfl (lv_room (show 1 + (1 + 0) ≤ 8 by decide)) P.dC ⟨by rw [Nat.zero_add]; exact Nat.le_refl _, by rw [Nat.zero_add]; exact Nat.le_refl _⟩) q3 (fun H2 locs2 w1 w2 => ?_)
  rw [Nat.zero_add, Nat.zero_add]
  have hv2 : (Option.map (tr ad) (some v)).toList ++ [.int 0, .ref (ad o)] = [v, Value.int 0, Value.ref o].map (tr ad) := by
    simp only [List.map_cons, List.map_nil, hi]
    show [tr ad v, .int 0, .ref (ad o)] = _
    rw [hi]
    rfl
  rw [hv2]
  refine snd_runs C hW post (pcC + 3) lv1 _ h1 H2 locs2 ls1 pE lv2 _ _ P.post hr2 q1 w1 w2 (fun H3 locs3 ls3 z1 z2 z3 => ?_)
  exact W.zret (ty := .int) B.exec B.bytes B.returns rfl (fun t ht _ => ⟨rfl, by rw [ht]; exact z2, z3.F ht⟩) z3.2.2 P.dE B.notSynchronized
set_option maxHeartbeats 4000000 in
theorem wrap_thr (hlt0 : l.stackTraces = false) (hW : WD cs ad B0) (P : WrP r tg pcC ix pE eH hpc k aN pre post) (hS : SndW D cs ad xs L B0 l f) (hb : shp b = some (0, 7)) (hn : as.length = mNp tg) (hle : ((.ref b :: as ++ [.ref o] : List Value).map (fun v => v.category)).sum ≤ mMx r) (hlt : ((.ref b :: as : List Value).map (fun v => v.category)).sum ≤ mMx tg)
    (hr1 : runW pre 0 (ent (mMx r) (.ref b :: as ++ [.ref o])) [] h = some (pcC, lv1, as.reverse ++ [.ref b, .int 0, .ref o], h)) (hd6 : 6 ≤ d)
    (he : exec f d tg 0 (ent (mMx tg) (.ref b :: as)) [] h = some (pc1, st1, h1)) (hf : fin tg pc1 st1 = some none) :
    Met l (mNm r) (wcW r eH hpc :: TS) (rmD (d + 1) (h1.2.2.1 - h.2.2.1 + 1)) (va_Pc ((.ref b :: as ++ [.ref o] : List Value).map (tr ad)) (PreU D cs ad xs L B0 h)) (QcM D cs ad xs L B0 (tick h1) (some (.int 1))) (h1.2.2.1 - h.2.2.1 + 1) (6 * (h1.2.2.1 - h.2.2.1 + 1)) (fun q => B0 ≤ q) := by
  obtain ⟨ht5, htc, -, htm⟩ := tg_at P.tg
  obtain ⟨m1, m2, m3, m4, m5, m6, m7, m8, m9, m10⟩ := mth_parts ht5
  have hM := snd_thr (ad := ad) hlt0 hS P.tg he hf hlt hd6
  refine Met_ofWH (cc := mBy r) (maxL := mMx r) (ret := some .int) (hh := [(0, eH, hpc, 13)]) P.pf rfl ?_
  intro p e s m args below meth c s₁ B hml hv
  obtain ⟨rfl, hR, hK, hN, hX, hbl, hB, hZ⟩ := hv
  have hts : ∀ w ∈ TS, w.before ((.ref b :: as ++ [.ref o] : List Value).map (tr ad)).toArray s = true := fun w hw => atoms_spec (ws := wcW r eH hpc :: TS) B.pre w (List.mem_cons_of_mem _ hw)
  have hown : s.vm.findClass (mNm r).cls = some m.cls := findClass_of_methodNamed B.named
  have C : Ctx D cs ad xs L B0 p s m ((.ref b :: as ++ [.ref o] : List Value).map (tr ad)).toArray meth c r := ⟨B.exec, B.bytes, hml, hown, hts, hK, hN, hX, hbl, hB, hZ⟩
  have htab : c.exceptionTable.toList = [] ++ ⟨0, eH, hpc, 13⟩ :: [] := vx_table (x := mNm r) B (hts _ P.cw)
  rw [lg_entry_eq]
  refine snd_runs C hW pre 0 _ [] h s.heap [] _ pcC lv1 _ h P.pre hr1 (LH_ent hle) hR va_S.rf (fun H1 locs1 ls1 q1 q2 q3 => ?_)
  have hinst := m2
  rw [P.stt] at hinst
  have hsel : Cond.selects (mNm tg).cls (mNm tg) (mNm tg) ∈ TS := by
    rcases m3 with z | z
    · rw [P.stt] at z; cases z
    · exact z
  obtain ⟨k1, k2⟩ : clR (mCl tg) = (mNm tg).cls ∧ mCl tg < 9 := by
    rcases m10 with z | z
    · rw [P.stt] at z; cases z
    · exact z
  rw [P.clt] at k1 k2
  have hrecv : ∃ cellB : Cell, H1[ad b]? = some cellB ∧ cellB.vm.isStatics = false ∧ s.vm.findClass (mNm tg).cls = some cellB.cls := by
    have := va_recv hK q2.1 (cls9_at k2) (a := ad b) (q0 := b) (fs := (List.range (fN 7)).map (fv ad h b 7)) (by rw [wsh_get (shp_lt hb), cellE_obj hb])
    rw [← k1]
    exact this
  have hst : (as.reverse ++ [Value.ref b, Value.int 0, Value.ref o]).map (tr ad) = (as.map (tr ad)).reverse ++ .ref (ad b) :: [.int 0, .ref (ad o)] := by
    rw [List.map_append, List.map_reverse]
    rfl
  rw [hst]
  have hlw : (Cond.methodLink (mNm r).cls ix (mNm tg)).before ((.ref b :: as ++ [.ref o] : List Value).map (tr ad)).toArray s = true := by
    rw [P.own]
    exact hts _ P.lk
  refine callX (vx_runV (C := (mNm tg).cls) (b := ad b) (As := as.map (tr ad)) (rest := [.int 0, .ref (ad o)]) ⟨B.exec, B.bytes, hml, hown, hts⟩ hM ⟨callB_of (mNp tg) hts (wsM_good ht5) rfl rfl rfl (hts _ m4) hlw ⟨m6, m7, m5⟩ (room_w htm), hts _ hinst, hts _ hsel⟩ ⟨PreU_blind, hrecv, fun U hU hW => ⟨rfl, PreU_of C q2 q3 hU hW⟩⟩ rfl (by rw [List.length_map]; exact hn) q1.2.1 rfl (lv_room (show 1 + (1 + 0) ≤ 8 by decide)) P.dC ⟨by rw [Nat.zero_add]; exact Nat.le_refl _, by rw [Nat.zero_add]; exact Nat.le_refl _⟩) q3 (fun ce q9 H2 locs2 w1 w2 w3 w4 w5 => ?_)
  rw [Nat.zero_add, Nat.zero_add]
  rw [P.own] at hown
  refine vx_catch (own := "LevelRingsLaw") (name := NSE) (E := NSE) hown [] ⟨0, eH, hpc, 13⟩ [] htab (fun z hz => nomatch hz) (by have := P.lt; simp [covers]; omega) (show (13 : Nat) ≠ 0 by decide) (hts _ (thW_in (by simp))) (hZ.cast _ List.mem_cons_self) w3 w4 w5 ?_
  have hR2 : ∀ t : State, t.heap = H2 → Rep D cs ad xs L (tick h1) t.heap := fun t ht => by rw [ht]; exact w1
  rcases P.ast with ⟨da, hN2⟩ | ⟨da, hN2, hk4⟩
  · have d1 := P.d1
    have d2 := P.d2
    rw [hN2] at d1 d2
    refine lv_astore B.exec B.bytes da (LH_has q1) P.kk rfl (fun ls2 _ => ?_)
    refine lv_iconst B.exec B.bytes d1 rfl ?_
    exact W.zret (ty := .int) B.exec B.bytes B.returns rfl (fun t ht _ => ⟨rfl, hR2 t ht, w2.F ht⟩) w2.2.2 d2 B.notSynchronized
  · have d1 := P.d1
    have d2 := P.d2
    rw [hN2] at d1 d2
    refine lv_astore_n B.exec B.bytes da (show k % 4 = k by omega) (LH_has q1) P.kk rfl (fun ls2 _ => ?_)
    refine lv_iconst B.exec B.bytes d1 rfl ?_
    exact W.zret (ty := .int) B.exec B.bytes B.returns rfl (fun t ht _ => ⟨rfl, hR2 t ht, w2.F ht⟩) w2.2.2 d2 B.notSynchronized
end
