/-! The nine wrappers of the law: a method that may throw, and its catching. -/
def tg9 : List Nat := [58, 59, 60, 62, 63, 68, 69, 70, 72]
def thW : List Cond := vx_at0 RX7 103 NSE ["java/lang/RuntimeException", "java/lang/Exception"]
set_option maxRecDepth 20000 in
theorem thW_m : thW.all (fun w => decide (w ∈ lw_tbl)) = true := by decide +kernel
theorem thW_x : (thW.filter (fun w => !goodWord w)).all (fun w => decide (w ∈ zW)) = true := by decide +kernel
theorem thW_g : (Cond.classLink RX7 101 NSE :: Cond.initialized NSE :: thW).all vx_ot = true := by decide +kernel
set_option maxRecDepth 20000 in
theorem thW_k : [Cond.classLink RX7 101 NSE, Cond.initialized NSE, Cond.classLink "LevelRingsLaw" 13 NSE].all (fun w => decide (w ∈ lw_tbl) && goodWord w) = true := by decide +kernel
theorem thW_in {w : Cond} (h : w ∈ [Cond.classLink RX7 101 NSE, Cond.initialized NSE, Cond.classLink "LevelRingsLaw" 13 NSE]) : w ∈ TS := by
  have := List.all_eq_true.mp thW_k w h
  rw [Bool.and_eq_true, decide_eq_true_eq] at this
  exact List.mem_filter.mpr this
theorem th_at {args : Array Value} {s : State} {B0 : Nat} {H : Heap} (hts : ∀ w ∈ TS, w.before args s = true) (hZ : ZZ B0 s H) : ∀ w ∈ thW, w.before args s = true := by
  intro w hw
  have h1 := List.all_eq_true.mp thW_m w hw
  rw [decide_eq_true_eq] at h1
  cases hg : goodWord w with
  | true => exact hts w (List.mem_filter.mpr ⟨h1, hg⟩)
  | false =>
    have h2 := List.all_eq_true.mp thW_x w (List.mem_filter.mpr ⟨hw, by rw [hg]; rfl⟩)
    rw [decide_eq_true_eq] at h2
    exact hZ.cast w h2
def newOk (i : Nat) (e : Nat × Instr × Nat × Nat) : Bool := match e.2.1 with
  | .new x => decide (x = 101) && decide (decode (mBy i) (e.1 + 3) = .ok (.dup, 1)) && decide (decode (mBy i) (e.1 + 4) = .ok (.invokespecial 103, 3)) && decide (decode (mBy i) (e.1 + 7) = .ok (.athrow, 1))
  | _ => true
set_option maxRecDepth 20000 in
theorem new_ok : tg9.all (fun i => decide (i < 205) && decide ((mNm i).cls = RX7) && plainName (mNm i).cls && decide (mMx i ≤ 20) && (mCdL.getD i []).all (newOk i)) = true := by decide +kernel
theorem new_at {i pc x n r : Nat} (hi : i ∈ tg9) (hc : mCd i pc = some (.new x, n, r)) : x = 101 ∧ decode (mBy i) (pc + 3) = .ok (.dup, 1) ∧ decode (mBy i) (pc + 4) = .ok (.invokespecial 103, 3) ∧ decode (mBy i) (pc + 7) = .ok (.athrow, 1) := by
  have h1 := List.all_eq_true.mp new_ok i hi
  rw [Bool.and_eq_true] at h1
  have h2 := List.all_eq_true.mp h1.2 _ (lk_mem hc)
  unfold newOk at h2
  simp only [Bool.and_eq_true, decide_eq_true_eq] at h2
  exact ⟨h2.1.1.1, h2.1.1.2, h2.1.2, h2.2⟩
theorem tg_at {i : Nat} (hi : i ∈ tg9) : i < 205 ∧ (mNm i).cls = RX7 ∧ plainName (mNm i).cls = true ∧ mMx i ≤ 20 := by
  have h1 := List.all_eq_true.mp new_ok i hi
  simp only [Bool.and_eq_true, decide_eq_true_eq] at h1
  exact ⟨h1.1.1.1.1, h1.1.1.1.2, h1.1.1.2, h1.1.2⟩
section
variable {D : va_G} {cs : Nat → ClassId} {ad : Nat → Nat} {xs : Nat → Int32} {L B0 : Nat}
def XCM (D : va_G) (cs : Nat → ClassId) (ad : Nat → Nat) (xs : Nat → Int32) (L B0 : Nat) (h' : Hp) : String → State → State → Prop := fun E st t => E = NSE ∧ Rep D cs ad xs L h' t.heap ∧ va_F (fun q => B0 ≤ q) st t
theorem Rep_kept {h : Hp} {H H1 : Heap} (hR : Rep D cs ad xs L h H) (hk : ∀ q : Nat, q < H.size → H1[q]? = H[q]?) : Rep D cs ad xs L h H1 := ⟨hR.1.kept (fun k x hx => hk _ (hR.1 k x hx).lt), hR.2⟩
set_option maxHeartbeats 4000000 in
theorem snd_thr {l : Launch} (hl : l.stackTraces = false) {f d r pc' : Nat} {as : List Value} {h h' : Hp} {st' : List Value} (hS : SndW D cs ad xs L B0 l f) (hr : r ∈ tg9) (he : exec f d r 0 (ent (mMx r) as) [] h = some (pc', st', h')) (hf : fin r pc' st' = some none) (hle : (as.map (fun v => v.category)).sum ≤ mMx r) (hd6 : 6 ≤ d) :
    vx_Met l (mNm r) (wsM r) (rmD d (h'.2.2.1 - h.2.2.1 + 1)) (va_Pc (as.map (tr ad)) (PreU D cs ad xs L B0 h)) (fun _ _ _ _ => False) (XCM D cs ad xs L B0 h') (h'.2.2.1 - h.2.2.1 + 1) (6 * (h'.2.2.1 - h.2.2.1 + 1)) (fun q => B0 ≤ q) := by
  obtain ⟨hr5, hcl, hpn, hmx⟩ := tg_at hr
  refine vx_ofW (cc := mBy r) (maxL := mMx r) (ret := mRt r) hpn rfl ?_
  intro p e s m args below meth c s₁ B hml htb hv
  obtain ⟨rfl, hR, hK, hN, hX, hbl, hB, hZ⟩ := hv
  have hts : ∀ w ∈ TS, w.before (as.map (tr ad)).toArray s = true := fun w hw => atoms_spec (ws := wsM r) B.pre w (List.mem_cons_of_mem _ hw)
  have C : Ctx D cs ad xs L B0 p s m (as.map (tr ad)).toArray meth c r := ⟨B.exec, B.bytes, hml, findClass_of_methodNamed B.named, hts, hK, hN, hX, hbl, hB, hZ⟩
  rw [lg_entry_eq]
  obtain ⟨hle1, hw⟩ := hS _ _ _ _ _ _ _ _ _ he
  have hfr : (headSpec (wsM r) (rmD d (h'.2.2.1 - h.2.2.1 + 1))).room = rmD d (h'.2.2.1 - h.2.2.1 + 1) := rfl
  refine hw p e _ s m _ below meth c s.heap [] 0 0 _ _ C (Nat.le_refl d) (Nat.le_refl _) (by rw [Nat.zero_add]; exact Nat.le_succ _) (by rw [Nat.zero_add]; show _ ≤ 6 * (h'.2.2.1 - h.2.2.1 + 1); omega) (LH_ent hle) hR va_S.rf (fun H1 locs1 ls1 q1 q2 q3 => ?_)
  rw [Nat.zero_add, Nat.zero_add]
  obtain ⟨x, n, r0, hc, rfl⟩ : ∃ x n r0, mCd r pc' = some (.new x, n, r0) ∧ st' = [] := by
    unfold fin at hf
    split at hf
    · split at hf
      · split at hf
        · cases hf
        · split at hf <;> cases hf
        · cases hf
      · cases hf
    · split at hf
      · split at hf <;> cases hf
      · cases hf
    · split at hf
      · split at hf <;> cases hf
      · cases hf
    · rename_i x n r0 hc
      split at hf
      · exact ⟨x, n, r0, hc, rfl⟩
      · cases hf
    · cases hf
  obtain ⟨rfl, d3, d4, d7⟩ := new_at hr hc
  obtain ⟨hd0, hlen, -⟩ := mCd_ok hc
  have d0 : decode (mBy r) pc' = .ok (.new 101, 3) := by rw [hd0, hlen.resolve_left (by simp [ilen])]; rfl
  refine vx_throw0 (own := RX7) (cls := NSE) (names := ["java/lang/RuntimeException", "java/lang/Exception"]) (ik := 101) (ic := 103) (A := fun q => B0 ≤ q) B.exec B.bytes hl (by rw [← hcl]; exact findClass_of_methodNamed B.named) (by decide +kernel) (by decide +kernel) (hts _ (thW_in (by simp))) (hts _ (thW_in (by simp))) (th_at hts hZ) (List.all_eq_true.mp thW_g) hZ.1 hZ.2.1 q3 (q1.trans hml.symm) d0 d3 d4 d7 (fun x hx => (htb x hx).elim) ?_ ?_ ?_ ?_ B.notSynchronized ?_ q3.2.2 (Nat.le_refl _) (by omega)
  · show 2 + 3 < d
    omega
  · show 0 + (13 * 3 + 42) ≤ 60 * d
    omega
  · exact Nat.le_refl _
  · show _ ≤ 6 * (h'.2.2.1 - h.2.2.1 + 1)
    omega
  · intro t h1 h2 h3
    refine ⟨rfl, Rep_kept q2 h3, Nat.le_trans q3.1 h2, fun q h4 h5 => ?_⟩
    rw [h3 q (Nat.lt_of_lt_of_le h4 q3.1)]
    exact q3.2.1 q h4 h5
end
/-! rows of a wrapper, one behind the other -/
def okW (i : Nat) (e : Nat × Instr × Nat) : Bool := decide (decode (mBy i) e.1 = .ok (e.2.1, e.2.2)) && (decide (ilen e.2.1 = 0) || decide (e.2.2 = ilen e.2.1)) && lkOk i e.2.1 0
def runW : List (Nat × Instr × Nat) → Nat → LV → List Value → Hp → Option (Nat × LV × List Value × Hp)
  | [], pc, lv, st, h => some (pc, lv, st, h)
  | e :: l, pc, lv, st, h => if e.1 = pc then (match stp e.2.1 0 pc lv st h with
    | some (pc', lv', st', h') => runW l pc' lv' st' h'
    | none => none) else none
/-- a contract of a method with handlers -/
theorem Met_ofWH {l : Launch} {y : MethodName} {ws ws' : List Cond} {rm : Room} {Pc : Array Value → State → Prop} {Qc : Array Value → State → Outcome → State → Prop} {mc ms : Nat} {free : Addr → Prop} {cc : ByteArray} {maxL : Nat} {ret : Option FieldType} {hh : List (Nat × Nat × Nat × Nat)}
    (hy : plainFor y = true) (hw : ws = Cond.codeWith y cc maxL ret hh :: ws')
    (body : ∀ p e s m args below meth c s₁, BodyLoose p l y (headSpec ws rm) cc maxL ret e s m args below meth c s₁ → c.maxLocals = maxL → Pc args s →
      W p l e (headSpec ws rm).room s m args below meth c s.heap [] 0 0 (MQ below Qc args s mc ms free) (entryFrame m args maxL)) : Met l y ws rm Pc Qc mc ms free := by
  refine MetFree.of_bodySF (code := cc) (maxLocals := maxL) (ret := ret) hy ?_ ?_
  · intro args s m h hn
    obtain ⟨m9, meth, c, hn9, h1, h2, h3, h4, -, h5, h6, -⟩ := Cond.codeWith_spec (atoms_spec (ws := ws) h _ (by rw [hw]; exact List.mem_cons_self))
    cases hn.symm.trans hn9
    exact ⟨meth, c, h1, h2, h3, h4, h5, h6⟩
  · intro p e s m args below meth c s₁ B hml hP _
    have hh0 : s₁.heap = s.heap := by rw [B.state]; rfl
    obtain ⟨t, a1, o, b1, b2, b3⟩ := body p e s m args below meth c s₁ B hml hP s₁ hh0 (Stand.of_body B)
    exact ⟨t, o, a1, b1, b2, ⟨b3.1, b3.2⟩⟩
section
variable {D : va_G} {cs : Nat → ClassId} {ad : Nat → Nat} {xs : Nat → Int32} {L B0 : Nat}
variable {p : Program} {l : Launch} {e : Env} {R : Room} {s : State} {m : MethodId} {args : Array Value} {below : List Frame} {meth : Method} {c : Code} {H : Heap} {locs : List Loc} {cells slots : Nat} {Q : State → Prop} {mi pc : Nat} {ls : Array Slot} {lv : LV} {st : List Value} {h : Hp}
theorem snd_runs (C : Ctx D cs ad xs L B0 p s m args meth c mi) (hW : WD cs ad B0) : ∀ (rs : List (Nat × Instr × Nat)) (pc : Nat) (lv : LV) (st : List Value) (h : Hp) (H : Heap) (locs : List Loc) (ls : Array Slot) (pc' : Nat) (lv' : LV) (st' : List Value) (h' : Hp), rs.all (okW mi) = true → runW rs pc lv st h = some (pc', lv', st', h') → LH ad ls (mMx mi) lv → Rep D cs ad xs L h H → va_S (fun q => B0 ≤ q) s.heap H locs →
    (∀ (H1 : Heap) (locs1 : List Loc) (ls1 : Array Slot), LH ad ls1 (mMx mi) lv' → Rep D cs ad xs L h' H1 → va_S (fun q => B0 ≤ q) s.heap H1 locs1 → W p l e R s m args below meth c H1 locs1 cells slots Q (F0 m pc' ls1 (st'.map (tr ad)))) → W p l e R s m args below meth c H locs cells slots Q (F0 m pc ls (st.map (tr ad))) := by
  intro rs
  induction rs with
  | nil =>
    intro pc lv st h H locs ls pc' lv' st' h' _ hr hl hR hS kk
    cases hr
    exact kk H locs ls hl hR hS
  | cons e0 rs ih =>
    intro pc lv st h H locs ls pc' lv' st' h' ho hr hl hR hS kk
    rw [List.all_cons, Bool.and_eq_true] at ho
    unfold runW at hr
    split at hr
    · rename_i hpc
      split at hr
      · rename_i pc1 lv1 st1 h1 hs
        have ho1 := ho.1
        unfold okW at ho1
        simp only [Bool.and_eq_true, Bool.or_eq_true, decide_eq_true_eq] at ho1
        rw [hpc] at ho1
        exact snd_stp C hW ho1.1.1 ho1.1.2 ho1.2 hs hl hR hS (fun H1 locs1 ls1 q1 q2 q3 => ih _ _ _ _ _ _ _ _ _ _ _ ho.2 hr q1 q2 q3 kk)
      · cases hr
    · cases hr
/-- a call that throws -/
theorem callX {mc ms : Nat} {st0 rest : List Value} {h1 : Hp} (hr : vx_Run p l e R s m args below meth c H locs cells slots mc ms (F0 m pc ls st0) rest (fun _ _ _ => False) (XCM D cs ad xs L B0 h1) (fun q => B0 ≤ q)) (hS : va_S (fun q => B0 ≤ q) s.heap H locs)
    (kx : ∀ (ce : Cell) (q9 : Addr) (H1 : Heap) (locs1 : List Loc), Rep D cs ad xs L h1 H1 → va_S (fun q => B0 ≤ q) s.heap H1 locs1 → H1[q9]? = some ce → ce.vm = .none → s.vm.findClass NSE = some ce.cls → vx_W p l e R s m args below meth c H1 locs1 (cells + mc) (slots + ms) Q (F0 m pc ls rest) q9) : W p l e R s m args below meth c H locs cells slots Q (F0 m pc ls st0) := by
  intro T hT X
  rcases hr T hT X with ⟨v, st₀, t, T', L', h0, X', hL, e1, e2, hff, st⟩ | ⟨q, st₀, t, T', L', E, ce, h0, X', hL, e1, e2, ⟨rfl, hRp, hF⟩, hce, hcv, hcl, st⟩
  · exact hff.elim
  · obtain ⟨k1, k2, k3⟩ := vx_keep h0 e1 hS (fun q _ z => z) (fun q z => z) hL hF
    obtain ⟨t2, a1, b1⟩ := kx ce q T'.heap (locs ++ L') (by rw [e1]; exact hRp) k3 (by rw [e1]; exact hce) hcv hcl T' rfl X'
    exact ⟨t2, st.trans a1, b1⟩
end
