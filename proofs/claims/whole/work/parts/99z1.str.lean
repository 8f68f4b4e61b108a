/-! The four strings, and packed. -/
def lenS : List Nat := [5, 4, 2, 4]
def bytS : List (List Int32) := [[112, 111, 105, 110, 116], [108, 105, 110, 101], [117, 112], [100, 111, 119, 110]]
def rmS (d : Nat) : Room := { frames := d, cells := 0, slots := 0, locals := 60 * d }
def SXf (adK adV : Nat → Nat) (B0 : Nat) (U : State) (H : Heap) : Prop := vk_S 4 lenS bytS adK adV (fun q => B0 ≤ q) U H ∧ va_Z "java/lang/String" "COMPACT_STRINGS" "Z" (.int 1) (fun q => B0 ≤ q) U H ∧ va_Zq "jdk/internal/util/Preconditions" "SIOOBE_FORMATTER" "Ljava/util/function/BiFunction;" (fun q => B0 ≤ q) U H
def QcV (v : Option Value) : Array Value → State → Outcome → State → Prop := fun _ st oc t => oc = .returned v ∧ t.heap = st.heap
def wsY (y : MethodName) (bytes : ByteArray) (maxL : Nat) (ret : Option FieldType) : List Cond := Cond.code y bytes maxL ret :: TS
def mtS (y : MethodName) (bytes : ByteArray) (maxL : Nat) (ret : Option FieldType) (np : Nat) : Bool := clsS (.code y bytes maxL ret) && clsS (.initialized y.cls) && plainFor y && decide (y.cls ≠ "java/lang/invoke/MethodHandle") && decide (y.cls ≠ "java/lang/invoke/VarHandle") && decide ((parseMethodDescriptor y.desc).map (fun d => d.parameters.length) = some np) && decide (maxL ≤ 4)
theorem mtS_good {y : MethodName} {bytes : ByteArray} {maxL np : Nat} {ret : Option FieldType} (h : mtS y bytes maxL ret np = true) : GoodIn TS (wsY y bytes maxL ret) := by
  unfold mtS at h
  simp only [Bool.and_eq_true, decide_eq_true_eq] at h
  intro w hw
  have h1 : w ∈ TS := by
    rcases List.mem_cons.mp hw with rfl | h2
    · exact clsS_mem h.1.1.1.1.1.1
    · exact h2
  exact ⟨h1, good_of_word (List.mem_filter.mp h1).2⟩
theorem mtS_spec {y : MethodName} {bytes : ByteArray} {maxL np : Nat} {ret : Option FieldType} (h : mtS y bytes maxL ret np = true) : Cond.initialized y.cls ∈ TS ∧ plainFor y = true ∧ (y.cls ≠ "java/lang/invoke/MethodHandle" ∧ y.cls ≠ "java/lang/invoke/VarHandle" ∧ (parseMethodDescriptor y.desc).map (fun d => d.parameters.length) = some np) ∧ maxL ≤ 4 := by
  unfold mtS at h
  simp only [Bool.and_eq_true, decide_eq_true_eq] at h
  exact ⟨clsS_mem h.1.1.1.1.1.2, h.1.1.1.1.2, ⟨h.1.1.1.2, h.1.1.2, h.1.2⟩, h.2⟩
section
variable {adK adV : Nat → Nat} {B0 : Nat} {l : Launch}
theorem SXf_moved {s U : State} {H : Heap} (hW : s.WarmedH U.vm) (h : SXf adK adV B0 s H) : SXf adK adV B0 U H := ⟨h.1.moved hW.alike, va_Z.moved hW.alike h.2.1, va_Zq.moved hW.alike h.2.2⟩
theorem SXf_kept {U : State} {H H1 : Heap} (hq : ∀ a : Nat, a < H.size → ¬ B0 ≤ a → H1[a]? = H[a]?) (h : SXf adK adV B0 U H) : SXf adK adV B0 U H1 := ⟨h.1.kept hq, h.2.1.kept hq, h.2.2.kept hq⟩
theorem PreS_blind {as : List Value} : FrameBlind (va_Pc as (PreP (SXf adK adV B0) B0)) := by
  intro a U g mk q
  obtain ⟨q0, qX, qB⟩ := q
  exact ⟨q0, SXf_moved (s := U) (U := U.calling g mk a) (State.WarmedH.refl U) qX, qB⟩
theorem str_met {y : MethodName} {bytes : ByteArray} {maxL : Nat} {ret : Option FieldType} {As : List Value} {v : Option Value} {d : Nat} (hy : plainFor y = true) (hle : (lg_sl As).length ≤ maxL)
    (body : ∀ (p : Program) (e : Env) (s : State) (m : MethodId) (below : List Frame) (meth : Method) (c : Code) (ls : Array Slot), p.tables.exec = Jvm.exec → c.code = bytes → c.maxLocals = maxL → s.vm.findClass y.cls = some m.cls → (∀ w ∈ TS, w.before As.toArray s = true) → SXf adK adV B0 s s.heap → B0 ≤ s.heap.size → meth.sig.returnType = ret → meth.locks = false → lv_has ls maxL (lv_args 0 As) → W p l e (rmS d) s m As.toArray below meth c s.heap [] 0 0 (MQ below (QcV v) As.toArray s 0 0 (fun q => B0 ≤ q)) (F0 m 0 ls [])) :
    Met l y (wsY y bytes maxL ret) (rmS d) (va_Pc As (PreP (SXf adK adV B0) B0)) (QcV v) 0 0 (fun q => B0 ≤ q) := by
  refine Met_ofWF (cc := bytes) (maxL := maxL) (ret := ret) hy rfl ?_
  intro p e s m args below meth c s₁ B hml hv
  obtain ⟨rfl, hX, hB⟩ := hv
  rw [lg_entry_eq]
  exact body p e s m below meth c _ B.exec B.bytes hml (findClass_of_methodNamed B.named) (fun w hw => atoms_spec (ws := wsY y bytes maxL ret) B.pre w (List.mem_cons_of_mem _ hw)) hX hB B.returns B.notSynchronized (lv_entry As hle)
variable {p : Program} {e : Env} {R : Room} {s : State} {m : MethodId} {args : Array Value} {below : List Frame} {meth : Method} {c : Code} {H : Heap} {locs : List Loc} {cells slots : Nat} {Q : State → Prop} {pc : Nat} {ls : Array Slot}
theorem callVs {v : Option Value} {st0 rest : List Value} {a : Array Value} (hr : va_Run p l e R s m args below meth c s.heap locs cells slots 0 0 (F0 m pc ls st0) rest (QcV v a) (fun q => B0 ≤ q)) (hS : va_S (fun q => B0 ≤ q) s.heap s.heap locs)
    (kk : ∀ (locs1 : List Loc), va_S (fun q => B0 ≤ q) s.heap s.heap locs1 → W p l e R s m args below meth c s.heap locs1 cells slots Q (F0 m (pc + 3) ls (v.toList ++ rest))) : W p l e R s m args below meth c s.heap locs cells slots Q (F0 m pc ls st0) := by
  intro T hT X
  obtain ⟨v', st₀, t, T', L', h0, X', hL, e1, e2, ⟨hv, hh⟩, st⟩ := hr T hT X
  cases hv
  obtain ⟨t2, a1, b1⟩ := kk (locs ++ L') ⟨hS.1, hS.2.1, fun q hq => by
      rcases List.mem_append.mp hq with h | h
      · exact hS.2.2 q h
      · exact hL q h⟩ T' (by rw [e1, hh, h0]) X'
  exact ⟨t2, st t2 a1, b1⟩
/-- a static call -/
theorem strS {y : MethodName} {bytes cc : ByteArray} {maxL nL np d index : Nat} {ret : Option FieldType} {own : String} {As rest st0 : List Value} {v : Option Value} (hx : p.tables.exec = Jvm.exec) (hb : c.code = cc) (hml : c.maxLocals = nL) (hown : s.vm.findClass own = some m.cls) (hts : ∀ w ∈ TS, w.before args s = true) (hX : SXf adK adV B0 s s.heap) (hB : B0 ≤ s.heap.size) (hS : va_S (fun q => B0 ≤ q) s.heap s.heap locs) (hm : mtS y bytes maxL ret np = true) (hst : clsS (.static y) = true) (hl : clsS (.methodLink own index y) = true)
    (hM : Met l y (wsY y bytes maxL ret) (rmS d) (va_Pc As (PreP (SXf adK adV B0) B0)) (QcV v) 0 0 (fun q => B0 ≤ q)) (hn : As.length = np) (hsz : ls.size = nL) (hstk : st0 = As.reverse ++ rest) (hrs : (rest.map fun v => v.category).sum ≤ 8) (hd : decode cc pc = .ok (.invokestatic index, 3)) (hf : d + 1 ≤ R.frames) (hlo : 60 * d + 23 ≤ R.locals) (hc : cells ≤ R.cells) (hs : slots ≤ R.slots)
    (kk : ∀ (locs1 : List Loc), va_S (fun q => B0 ≤ q) s.heap s.heap locs1 → W p l e R s m args below meth c s.heap locs1 cells slots Q (F0 m (pc + 3) ls (v.toList ++ rest))) : W p l e R s m args below meth c s.heap locs cells slots Q (F0 m pc ls st0) := by
  obtain ⟨h1, h2, h3, h4⟩ := mtS_spec hm
  exact callVs (va_runS (As := As) (rest := rest) ⟨hx, hb, hml, hown, hts⟩ hM ⟨callB_of np hts (mtS_good hm) rfl rfl rfl (hts _ h1) (hts _ (clsS_mem hl)) h3 ⟨hf, by show 8 + (maxL + 11) + 60 * d ≤ R.locals; omega⟩, hts _ (clsS_mem hst)⟩ ⟨PreS_blind, fun U hU hW => ⟨rfl, by rw [hU]; exact SXf_moved hW hX, by rw [hU]; exact hB⟩⟩ rfl hn hsz hstk (lv_room hrs) hd ⟨hc, hs⟩) hS kk
/-- a call on a string -/
theorem strV {y : MethodName} {bytes cc : ByteArray} {maxL nL np d index i : Nat} {ret : Option FieldType} {own : String} {As rest st0 : List Value} {v : Option Value} (hi : i < 4) (hx : p.tables.exec = Jvm.exec) (hb : c.code = cc) (hml : c.maxLocals = nL) (hown : s.vm.findClass own = some m.cls) (hts : ∀ w ∈ TS, w.before args s = true) (hX : SXf adK adV B0 s s.heap) (hB : B0 ≤ s.heap.size) (hS : va_S (fun q => B0 ≤ q) s.heap s.heap locs) (hm : mtS y bytes maxL ret np = true) (hin : clsS (.instanceMethod y) = true) (hse : clsS (.selects "java/lang/String" y y) = true) (hl : clsS (.methodLink own index y) = true)
    (hM : Met l y (wsY y bytes maxL ret) (rmS d) (va_Pc (.ref (adK i) :: As) (PreP (SXf adK adV B0) B0)) (QcV v) 0 0 (fun q => B0 ≤ q)) (hn : As.length = np) (hsz : ls.size = nL) (hstk : st0 = As.reverse ++ .ref (adK i) :: rest) (hrs : (rest.map fun v => v.category).sum ≤ 8) (hd : decode cc pc = .ok (.invokevirtual index, 3)) (hf : d + 1 ≤ R.frames) (hlo : 60 * d + 23 ≤ R.locals) (hc : cells ≤ R.cells) (hs : slots ≤ R.slots)
    (kk : ∀ (locs1 : List Loc), va_S (fun q => B0 ≤ q) s.heap s.heap locs1 → W p l e R s m args below meth c s.heap locs1 cells slots Q (F0 m (pc + 3) ls (v.toList ++ rest))) : W p l e R s m args below meth c s.heap locs cells slots Q (F0 m pc ls st0) := by
  obtain ⟨h1, h2, h3, h4⟩ := mtS_spec hm
  exact callVs (va_runV (C := "java/lang/String") (b := adK i) (As := As) (rest := rest) ⟨hx, hb, hml, hown, hts⟩ hM ⟨callB_of np hts (mtS_good hm) rfl rfl rfl (hts _ h1) (hts _ (clsS_mem hl)) h3 ⟨hf, by show 8 + (maxL + 11) + 60 * d ≤ R.locals; omega⟩, hts _ (clsS_mem hin), hts _ (clsS_mem hse)⟩ ⟨PreS_blind, vk_recv hX.1 hi hS, fun U hU hW => ⟨rfl, by rw [hU]; exact SXf_moved hW hX, by rw [hU]; exact hB⟩⟩ rfl hn hsz hstk (lv_room hrs) hd ⟨hc, hs⟩) hS kk
end
