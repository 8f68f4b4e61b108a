/-! What the constructors' machine runs, the machine runs. -/
theorem AOA_moved {u U : State} (hvm : u.vm.Alike U.vm) (h : va_AOA .long u) : va_AOA .long U := (Cond.arrayOver_setVmC (args := #[]) (s := u) hvm (.array .long)).trans h
def rmC (d k t : Nat) : Room := { frames := d, cells := k, slots := t, locals := 60 * d }
def wsI (c : Nat) : List Cond := Cond.code (iNm c) (iBy c) (iMx c) none :: TS
def stR (a0 : Nat → Nat) (U : State) : Prop := ∀ i, i < 4 → vk_R RX4 (lxS.getD i (0, "")).1 (lxS.getD i (0, "")).2 (a0 (2000 + i)) U
def PreC (D : va_G) (cs : Nat → ClassId) (a0 : Nat → Nat) (B0 : Nat) (SX : State → Heap → Prop) (L : List Nat) (w : CW) (U : State) : Prop := CSt D cs a0 B0 L w U.heap ∧ va_K D cls9 (tys6 cs) U ∧ (∀ w ∈ iNW, va_Nw w U) ∧ va_AO RX3 U ∧ va_AOA .long U ∧ B0 ≤ U.heap.size ∧ SX U U.heap ∧ stR a0 U
def QcC (D : va_G) (cs : Nat → ClassId) (a0 : Nat → Nat) (B0 : Nat) (L : List Nat) (w' : CW) : Array Value → State → Outcome → State → Prop := fun _ st oc t => oc = .returned none ∧ ∃ L2, CSt D cs a0 B0 (L ++ L2) w' t.heap ∧ va_F (fun q => B0 ≤ q) st t
def QcP (i : Nat) : Array Value → State → Outcome → State → Prop := fun _ st oc t => oc = .returned (some (.long (pwS.getD i 0))) ∧ t.heap = st.heap
def wsP : List Cond := Cond.code yX4_packed cX4_packed 4 (some .long) :: TS
def PreP (SX : State → Heap → Prop) (B0 : Nat) (U : State) : Prop := SX U U.heap ∧ B0 ≤ U.heap.size
/-- what is owed of the strings -/
def PkH (a0 : Nat → Nat) (B0 : Nat) (SX : State → Heap → Prop) (l : Launch) : Prop := (∀ (s U : State) (H : Heap), s.WarmedH U.vm → SX s H → SX U H) ∧ (∀ (U : State) (H H1 : Heap), (∀ a : Nat, a < H.size → ¬ B0 ≤ a → H1[a]? = H[a]?) → SX U H → SX U H1) ∧ ∀ i, i < 4 → Met l yX4_packed wsP { frames := 8, cells := 0, slots := 0, locals := 500 } (va_Pc [.ref (a0 (2000 + i))] (PreP SX B0)) (QcP i) 0 0 (fun q => B0 ≤ q)
def SndC (D : va_G) (cs : Nat → ClassId) (a0 : Nat → Nat) (B0 : Nat) (SX : State → Heap → Prop) (l : Launch) (f : Nat) : Prop :=
  ∀ (d c pc : Nat) (lv : LV) (st : List Value) (w : CW) (pc' : Nat) (lv' : LV) (st' : List Value) (w' : CW), cex f d c pc lv st w = some (pc', lv', st', w') → (w.length ≤ w'.length ∧ slS w ≤ slS w') ∧
  ∀ (p : Program) (e : Env) (R : Room) (s : State) (m : MethodId) (args : Array Value) (below : List Frame) (meth : Method) (c0 : Code) (H : Heap) (locs : List Loc) (cells slots : Nat) (Q : State → Prop) (ls : Array Slot) (L : List Nat),
    CtxC D cs a0 B0 SX p s m args meth c0 c → d ≤ R.frames → 60 * d ≤ R.locals → cells + (w'.length - w.length) ≤ R.cells → slots + (slS w' - slS w) ≤ R.slots → LH (am a0 L) ls (iMx c) lv → CSt D cs a0 B0 L w H → va_S (fun q => B0 ≤ q) s.heap H locs →
    (∀ (H1 : Heap) (locs1 : List Loc) (ls1 : Array Slot) (L2 : List Nat), LH (am a0 (L ++ L2)) ls1 (iMx c) lv' → CSt D cs a0 B0 (L ++ L2) w' H1 → va_S (fun q => B0 ≤ q) s.heap H1 locs1 → W p l e R s m args below meth c0 H1 locs1 (cells + (w'.length - w.length)) (slots + (slS w' - slS w)) Q (F0 m pc' ls1 (st'.map (tr (am a0 (L ++ L2)))))) →
    W p l e R s m args below meth c0 H locs cells slots Q (F0 m pc ls (st.map (tr (am a0 L))))
theorem iMth_at {c : Nat} (h9 : c < 9) (h2 : c ≠ 2) : iMth c = true := by
  have hm : c ∈ [0, 1, 3, 4, 5, 6, 7, 8] := by
    match c, h9, h2 with
    | 0, _, _ => simp
    | 1, _, _ => simp
    | 3, _, _ => simp
    | 4, _, _ => simp
    | 5, _, _ => simp
    | 6, _, _ => simp
    | 7, _, _ => simp
    | 8, _, _ => simp
  exact List.all_eq_true.mp okI_m c hm
theorem iMth_spec {c : Nat} (h : iMth c = true) : Cond.code (iNm c) (iBy c) (iMx c) none ∈ TS ∧ Cond.instanceMethod (iNm c) ∈ TS ∧ Cond.initialized (iNm c).cls ∈ TS ∧ plainFor (iNm c) = true ∧ (iNm c).name = "<init>" ∧ (iNm c).cls ≠ "java/lang/invoke/MethodHandle" ∧ (iNm c).cls ≠ "java/lang/invoke/VarHandle" ∧ (parseMethodDescriptor (iNm c).desc).map (fun d => d.parameters.length) = some 0 ∧ iMx c ≤ 2 := by
  unfold iMth at h
  simp only [Bool.and_eq_true, decide_eq_true_eq] at h
  obtain ⟨⟨⟨⟨⟨⟨⟨⟨⟨h1, h2⟩, h3⟩, h4⟩, h5⟩, h6⟩, h7⟩, h8⟩, h9⟩, -⟩ := h
  exact ⟨clsS_mem h1, clsS_mem h2, clsS_mem h3, h4, h5, h6, h7, h8, h9⟩
theorem wsI_good {c : Nat} (h : iMth c = true) : GoodIn TS (wsI c) := by
  intro w hw
  have h1 : w ∈ TS := by
    rcases List.mem_cons.mp hw with rfl | h2
    · exact (iMth_spec h).1
    · exact h2
  exact ⟨h1, good_of_word (List.mem_filter.mp h1).2⟩
section
variable {D : va_G} {cs : Nat → ClassId} {a0 : Nat → Nat} {B0 : Nat} {SX : State → Heap → Prop} {l : Launch}
set_option maxHeartbeats 4000000 in
theorem ctor_met {f d c pc' : Nat} {as : List Value} {lv' : LV} {w w' : CW} {L : List Nat} (hS : SndC D cs a0 B0 SX l f) (hm : iMth c = true) (he : cex f d c 0 (ent (iMx c) as) [] w = some (pc', lv', [], w')) (hr : iCd c pc' = some (.return_, 1, 0)) (hle : (as.map (fun v => v.category)).sum ≤ iMx c) :
    Met l (iNm c) (wsI c) (rmC d (w'.length - w.length) (slS w' - slS w)) (va_Pc (as.map (tr (am a0 L))) (PreC D cs a0 B0 SX L w)) (QcC D cs a0 B0 L w') (w'.length - w.length) (slS w' - slS w) (fun q => B0 ≤ q) := by
  obtain ⟨m1, m2, m3, m4, m5, m6, m7, m8, m9⟩ := iMth_spec hm
  refine Met_ofWF (cc := iBy c) (maxL := iMx c) (ret := none) m4 rfl ?_
  intro p e s m args below meth c0 s₁ B hml hv
  obtain ⟨rfl, hC, hK, hN, hAO, hAA, hB, hSX, hst⟩ := hv
  have hts : ∀ w ∈ TS, w.before (as.map (tr (am a0 L))).toArray s = true := fun w hw => atoms_spec (ws := wsI c) B.pre w (List.mem_cons_of_mem _ hw)
  have C : CtxC D cs a0 B0 SX p s m (as.map (tr (am a0 L))).toArray meth c0 c := ⟨B.exec, B.bytes, hml, findClass_of_methodNamed B.named, hts, hK, hN, hAO, hAA, hB, hSX, Or.inr (((name_of_methodNamed B.named B.method).1).trans m5), hst⟩
  rw [lg_entry_eq]
  obtain ⟨-, hw⟩ := hS _ _ _ _ _ _ _ _ _ _ he
  refine hw p e _ s m _ below meth c0 s.heap [] 0 0 _ _ L C (Nat.le_refl d) (Nat.le_refl _) (by rw [Nat.zero_add]; exact Nat.le_refl _) (by rw [Nat.zero_add]; exact Nat.le_refl _) (LH_ent hle) hC va_S.rf (fun H1 locs1 ls1 L2 q1 q2 q3 => ?_)
  rw [Nat.zero_add, Nat.zero_add]
  exact W.vret B.exec B.bytes B.returns (fun t ht _ => ⟨rfl, L2, by rw [ht]; exact q2, q3.F ht⟩) q3.2.2 (okI_dec hr (by simp)) B.notSynchronized
variable {p : Program} {e : Env} {R : Room} {s : State} {m : MethodId} {args : Array Value} {below : List Frame} {meth : Method} {c0 : Code} {H : Heap} {locs : List Loc} {cells slots : Nat} {Q : State → Prop} {c pc : Nat} {ls : Array Slot} {L : List Nat} {w : CW}
theorem PreC_of (hP : PkH a0 B0 SX l) {U : State} (C : CtxC D cs a0 B0 SX p s m args meth c0 c) (hC : CSt D cs a0 B0 L w H) (hS : va_S (fun q => B0 ≤ q) s.heap H locs) (hU : U.heap = H) (hW : s.WarmedH U.vm) : PreC D cs a0 B0 SX L w U := by
  obtain ⟨hx, hb, hml, hown, hts, hK, hN, hAO, hAA, hB, hSX, hin, hst⟩ := C
  subst hU
  refine ⟨hC, va_K.moved hW.alike hK, fun w hw => ?_, hAO.moved hW.alike, AOA_moved hW.alike hAA, Nat.le_trans hB hS.1, hP.1 _ _ _ hW (hP.2.1 _ _ _ hS.2.1 hSX), fun i hi => (hst i hi).warm hW⟩
  obtain ⟨q, -, rfl⟩ := List.mem_map.mp hw
  exact va_Nw.warmM hW (hN _ hw)
theorem PreC_blind (hP : PkH a0 B0 SX l) {as : List Value} : FrameBlind (va_Pc as (PreC D cs a0 B0 SX L w)) := by
  intro a U g mk q
  obtain ⟨q0, qC, qK, qN, qO, qA, qB, qX, qs⟩ := q
  refine ⟨q0, qC, va_K.moved (u := U) (U := U.calling g mk a) (Vm.Alike.refl U.vm) qK, fun w hw => ?_, va_AO.moved (u := U) (U := U.calling g mk a) (Vm.Alike.refl U.vm) qO, AOA_moved (u := U) (U := U.calling g mk a) (Vm.Alike.refl U.vm) qA, qB, hP.1 U (U.calling g mk a) _ (State.WarmedH.refl U) qX, fun i hi => vk_R.same (u := U) (U := U.calling g mk a) rfl (qs i hi)⟩
  obtain ⟨q, -, rfl⟩ := List.mem_map.mp hw
  exact va_Nw.same rfl (u := U) (U := U.calling g mk a) rfl (qN _ hw)
theorem PreP_blind (hP : PkH a0 B0 SX l) {as : List Value} : FrameBlind (va_Pc as (PreP SX B0)) := by
  intro a U g mk q
  obtain ⟨q0, qX, qB⟩ := q
  exact ⟨q0, hP.1 U (U.calling g mk a) _ (State.WarmedH.refl U) qX, qB⟩
/-- behind a constructor's call -/
theorem callC {mc ms : Nat} {st0 rest : List Value} {a : Array Value} {w' : CW} (hr : va_Run p l e R s m args below meth c0 H locs cells slots mc ms (F0 m pc ls st0) rest (QcC D cs a0 B0 L w' a) (fun q => B0 ≤ q)) (hS : va_S (fun q => B0 ≤ q) s.heap H locs)
    (kk : ∀ (H1 : Heap) (locs1 : List Loc) (L2 : List Nat), CSt D cs a0 B0 (L ++ L2) w' H1 → va_S (fun q => B0 ≤ q) s.heap H1 locs1 → W p l e R s m args below meth c0 H1 locs1 (cells + mc) (slots + ms) Q (F0 m (pc + 3) ls rest)) : W p l e R s m args below meth c0 H locs cells slots Q (F0 m pc ls st0) := by
  intro T hT X
  obtain ⟨v, st₀, t, T', L', h0, X', hL, e1, e2, ⟨hv, L2, hCp, hz, hk⟩, st⟩ := hr T hT X
  cases hv
  rw [h0] at hz hk
  obtain ⟨t2, a1, b1⟩ := kk T'.heap (locs ++ L') L2 (by rw [e1]; exact hCp)
    ⟨Nat.le_trans hS.1 (by rw [e1]; exact hz), fun q h1 h2 => by rw [e1, hk q (Nat.lt_of_lt_of_le h1 hS.1) h2]; exact hS.2.1 q h1 h2, fun q hq => by
      rcases List.mem_append.mp hq with h | h
      · exact hS.2.2 q h
      · exact hL q h⟩ T' rfl X'
  exact ⟨t2, st t2 a1, b1⟩
/-- behind a call of packed -/
theorem callP {i : Nat} {st0 rest : List Value} {a : Array Value} (hr : va_Run p l e R s m args below meth c0 H locs cells slots 0 0 (F0 m pc ls st0) rest (QcP i a) (fun q => B0 ≤ q)) (hS : va_S (fun q => B0 ≤ q) s.heap H locs)
    (kk : ∀ (locs1 : List Loc), va_S (fun q => B0 ≤ q) s.heap H locs1 → W p l e R s m args below meth c0 H locs1 cells slots Q (F0 m (pc + 3) ls (.long (pwS.getD i 0) :: rest))) : W p l e R s m args below meth c0 H locs cells slots Q (F0 m pc ls st0) := by
  intro T hT X
  obtain ⟨v, st₀, t, T', L', h0, X', hL, e1, e2, ⟨hv, hh⟩, st⟩ := hr T hT X
  cases hv
  obtain ⟨t2, a1, b1⟩ := kk (locs ++ L') ⟨hS.1, hS.2.1, fun q hq => by
      rcases List.mem_append.mp hq with h | h
      · exact hS.2.2 q h
      · exact hL q h⟩ T' (by rw [e1, hh, h0]) X'
  exact ⟨t2, st t2 a1, b1⟩
end
