/-! A step of the abstract machine is a step of the machine. -/
abbrev NSE : String := "java/util/NoSuchElementException"
/-- what a throw reads -/
def zW : List Cond := [.castable NSE NSE, .declares (Bundle.init0 "java/lang/RuntimeException"), .declares (Bundle.init0 "java/lang/Exception"), .declares (Bundle.init0 Bundle.tN)]
def ZZ (B0 : Nat) (U : State) (H : Heap) : Prop := vx_Zq Bundle.tN "UNASSIGNED_STACK" Bundle.steD (fun q => B0 ≤ q) U H ∧ vx_Zq Bundle.tN "SUPPRESSED_SENTINEL" Bundle.listD (fun q => B0 ≤ q) U H ∧ ∀ w ∈ zW, w.before #[] U = true
theorem zW_at {args args' : Array Value} {u U : State} (hvm : u.vm.Alike U.vm) (h : ∀ w ∈ zW, w.before args u = true) : ∀ w ∈ zW, w.before args' U = true := by
  intro w hw
  have hq := h w hw
  simp only [zW, List.mem_cons, List.not_mem_nil, or_false] at hw
  rcases hw with rfl | rfl | rfl | rfl
  · exact va_tabs (u := u.setVm U.vm) rfl rfl ((Cond.castable_setVm hvm NSE NSE).trans hq)
  all_goals exact va_tabs (u := u.setVm U.vm) rfl rfl ((Cond.declares_setVm hvm _).trans hq)
theorem ZZ.cast {B0 : Nat} {U : State} {H : Heap} {args : Array Value} (h : ZZ B0 U H) : ∀ w ∈ zW, w.before args U = true := zW_at (Vm.Alike.refl U.vm) h.2.2
theorem ZZ.moved {B0 : Nat} {u U : State} {H : Heap} (hvm : u.vm.Alike U.vm) (h : ZZ B0 u H) : ZZ B0 U H := ⟨vx_Zq.moved hvm h.1, vx_Zq.moved hvm h.2.1, zW_at hvm h.2.2⟩
theorem ZZ.kept {B0 : Nat} {U : State} {H H1 : Heap} (h : ZZ B0 U H) (hq : ∀ a : Nat, a < H.size → ¬ B0 ≤ a → H1[a]? = H[a]?) : ZZ B0 U H1 := ⟨h.1.kept hq, h.2.1.kept hq, h.2.2⟩
def Ctx (D : va_G) (cs : Nat → ClassId) (ad : Nat → Nat) (xs : Nat → Int32) (L B0 : Nat) (p : Program) (s : State) (m : MethodId) (args : Array Value) (meth : Method) (c : Code) (mi : Nat) : Prop :=
  p.tables.exec = Jvm.exec ∧ c.code = mBy mi ∧ c.maxLocals = mMx mi ∧ s.vm.findClass (mNm mi).cls = some m.cls ∧ (∀ w ∈ TS, w.before args s = true) ∧ va_K D cls9 (tys6 cs) s ∧ (∀ w ∈ nW, va_Nw w s) ∧ va_X (ad 1000) L xs s s.heap ∧ ad 1000 < B0 ∧ B0 ≤ s.heap.size ∧ ZZ B0 s s.heap
def WD (cs : Nat → ClassId) (ad : Nat → Nat) (B0 : Nat) : Prop := ∀ h : Hp, va_D (fun q => B0 ≤ q) (wsh cs ad h)
theorem lk_mem {pc : Nat} {l : List (Nat × Instr × Nat × Nat)} {x : Instr × Nat × Nat} (h : lk pc l = some x) : (pc, x) ∈ l := by
  induction l with
  | nil => cases h
  | cons e l ih =>
    unfold lk at h
    split at h
    · rename_i he
      cases h
      rw [← he]
      exact List.mem_cons_self
    · exact List.mem_cons_of_mem _ (ih h)
theorem cls9_at {c : Nat} (hc : c < 9) : cls9[c]? = some (clR c, (cls9.getD c ("", TX2, 0)).2.1, clN c) := by
  match c, hc with
  | 0, _ => rfl
  | 1, _ => rfl
  | 2, _ => rfl
  | 3, _ => rfl
  | 4, _ => rfl
  | 5, _ => rfl
  | 6, _ => rfl
  | 7, _ => rfl
  | 8, _ => rfl
theorem cls9_in {c : Nat} (hc : c < 9) : ∀ w ∈ u_ws (clR c) (cls9.getD c ("", TX2, 0)).2.1 (clN c), w ∈ TS := by
  intro w hw
  have h1 := List.all_eq_true.mp lay_ok c (List.mem_range.mpr hc)
  have h2 := List.all_eq_true.mp h1 w hw
  rw [Bool.and_eq_true, decide_eq_true_eq] at h2
  exact List.mem_filter.mpr h2
def clY (c : Nat) : Nat → FieldType := match c with
  | 0 => tyX0
  | 1 => tyX1
  | 2 => tyX2
  | 3 => tyX3
  | 4 => tyX4
  | 5 => tyX5
  | 6 => tyX6
  | 7 => tyX7
  | _ => tyX8
theorem clY_ok {c : Nat} (hc : c < 9) : ∀ k, k < clN c → parseFieldDescriptor ((cls9.getD c ("", TX2, 0)).2.1 k).2.2.1 = some (clY c k) := by
  match c, hc with
  | 0, _ => exact tyX0_ok
  | 1, _ => exact tyX1_ok
  | 2, _ => exact fun k hk => absurd hk (Nat.not_lt_zero k)
  | 3, _ => exact tyX3_ok
  | 4, _ => exact tyX4_ok
  | 5, _ => exact tyX5_ok
  | 6, _ => exact tyX6_ok
  | 7, _ => exact tyX7_ok
  | 8, _ => exact tyX8_ok
theorem clNm_ok {c : Nat} (hc : c < 9) : ∀ a, a < clN c → ∀ b, b < clN c → a ≠ b → ((cls9.getD c ("", TX2, 0)).2.1 a).2.1 ≠ ((cls9.getD c ("", TX2, 0)).2.1 b).2.1 := by
  match c, hc with
  | 0, _ => exact nmX0
  | 1, _ => exact nmX1
  | 2, _ => exact fun a ha => absurd ha (Nat.not_lt_zero a)
  | 3, _ => exact nmX3
  | 4, _ => exact nmX4
  | 5, _ => exact nmX5
  | 6, _ => exact nmX6
  | 7, _ => exact nmX7
  | 8, _ => exact nmX8
theorem clN_fN : ∀ c, c < 9 → clN c = fN c := by decide +kernel
theorem clY_fK : ∀ (c : Fin 9) (k : Fin 40), k.val < clN c.val → (fK c.val k.val = 0 → clY c.val k.val = .int) ∧ (fK c.val k.val = 1 → clY c.val k.val = .long) ∧ (fK c.val k.val = 3 → clY c.val k.val = .boolean) := by decide +kernel
theorem clN_40 : ∀ c, c < 9 → clN c ≤ 40 := by decide +kernel
theorem cellE_obj {cs : Nat → ClassId} {ad : Nat → Nat} {h : Hp} {a c : Nat} (hs : shp a = some (0, c)) : cellE cs ad h a = .inr (c, (List.range (fN c)).map (fv ad h a c)) := by
  unfold cellE
  rw [hs]
  rfl
theorem obj_set {ad : Nat → Nat} {h h' : Hp} {a c k : Nat} {v : Value} (hk : fv ad h' a c k = v) (ho : ∀ j, j ≠ k → fv ad h' a c j = fv ad h a c j) : (List.range (fN c)).map (fv ad h' a c) = ((List.range (fN c)).map (fv ad h a c)).set k v := by
  apply List.ext_getElem?
  intro j
  rw [List.getElem?_set]
  by_cases hj : k = j
  · subst hj
    rw [if_pos rfl, List.getElem?_map]
    by_cases hl : k < fN c
    · rw [List.getElem?_range hl, if_pos (by rw [List.length_map, List.length_range]; exact hl)]
      simp [hk]
    · rw [if_neg (by rw [List.length_map, List.length_range]; exact hl), List.getElem?_eq_none (by rw [List.length_range]; omega)]
      rfl
  · rw [if_neg hj, List.getElem?_map, List.getElem?_map]
    by_cases hl : j < fN c
    · rw [List.getElem?_range hl]
      show some (fv ad h' a c j) = some (fv ad h a c j)
      rw [ho j (Ne.symm hj)]
    · rw [List.getElem?_eq_none (by rw [List.length_range]; omega)]
      rfl
section
variable {D : va_G} {cs : Nat → ClassId} {ad : Nat → Nat} {xs : Nat → Int32} {L B0 : Nat}
variable {p : Program} {l : Launch} {e : Env} {R : Room} {s : State} {m : MethodId} {args : Array Value} {below : List Frame} {meth : Method} {c : Code} {H : Heap} {locs : List Loc} {cells slots : Nat} {Q : State → Prop} {mi pc n r : Nat} {ls : Array Slot} {lv : LV} {st : List Value} {h : Hp}
/-- a field's link -/
theorem fld_link {ix : Nat} (hts : ∀ w ∈ TS, w.before args s = true) (hk : fLk.any (fun q => decide (q.1 = (mNm mi).cls ∧ q.2.1 = ix ∧ r = q.2.2.1 * 64 + q.2.2.2.1 ∧ q.2.2.2.1 < 64)) = true) : r / 64 < 9 ∧ r % 64 < clN (r / 64) ∧ (Cond.fieldLink (mNm mi).cls ix (clT (r / 64) (r % 64)).1 (clT (r / 64) (r % 64)).2.1 (clT (r / 64) (r % 64)).2.2.1).before args s = true := by
  obtain ⟨q, hq, hd⟩ := List.any_eq_true.mp hk
  rw [decide_eq_true_eq] at hd
  obtain ⟨h1, h2, h3, h4⟩ := hd
  have e1 : r / 64 = q.2.2.1 := by omega
  have e2 : r % 64 = q.2.2.2.1 := by omega
  have hp := List.all_eq_true.mp fLk_ok q hq
  rw [Bool.and_eq_true, Bool.and_eq_true, decide_eq_true_eq, decide_eq_true_eq] at hp
  rw [e1, e2, ← h1, ← h2]
  exact ⟨hp.1.2, hp.2, hts _ (atP_mem hp.1.1)⟩
theorem snd_get {ix a : Nat} (C : Ctx D cs ad xs L B0 p s m args meth c mi) (hd : decode (mBy mi) pc = .ok (.getfield ix, 3)) (hk : lkOk mi (.getfield ix) r = true) (hs : shp a = some (0, r / 64)) (hR : Rep D cs ad xs L h H) (kk : W p l e R s m args below meth c H locs cells slots Q (F0 m (pc + 3) ls (fv ad h a (r / 64) (r % 64) :: st.map (tr ad)))) : W p l e R s m args below meth c H locs cells slots Q (F0 m pc ls (.ref (ad a) :: st.map (tr ad))) := by
  obtain ⟨hx, hb, hml, hown, hts, hK, hN, hX, hbl, hBs, hZZ⟩ := C
  obtain ⟨h9, hN', hlink⟩ := fld_link (r := r) hts hk
  refine va_get (C := clR (r / 64)) (T := (cls9.getD (r / 64) ("", TX2, 0)).2.1) (N := clN (r / 64)) (ci := r / 64) hx hb hts (cls9_in h9) hown hK hR.1 a (fs := (List.range (fN (r / 64))).map (fv ad h a (r / 64))) ?_ (cls9_at h9) (r % 64) hN' hlink (fun _ z => z) ?_ hd kk
  · rw [wsh_get (shp_lt hs), cellE_obj hs]
  · rw [List.getElem?_map, List.getElem?_range (by rw [← clN_fN _ h9]; exact hN')]
    rfl
theorem snd_put {ix a : Nat} {v : Value} {h' : Hp} (C : Ctx D cs ad xs L B0 p s m args meth c mi) (hW : WD cs ad B0) (hd : decode (mBy mi) pc = .ok (.putfield ix, 3)) (hk : lkOk mi (.putfield ix) r = true) (hs : shp a = some (0, r / 64)) (hR : Rep D cs ad xs L h H) (hS : va_S (fun q => B0 ≤ q) s.heap H locs)
    (hn : narrow (clY (r / 64) (r % 64)) v = v) (hf : fits (clY (r / 64) (r % 64)) v = true) (e1 : fv ad h' a (r / 64) (r % 64) = v) (e2 : ∀ j, j ≠ r % 64 → fv ad h' a (r / 64) j = fv ad h a (r / 64) j) (e3 : ∀ k, k ≠ a → h'.1 k = h.1 k) (e4 : ∀ k, k ≠ a → h'.2.1 k = h.2.1 k) (e5 : h'.2.2 = h.2.2)
    (kk : ∀ (H1 : Heap) (locs1 : List Loc), Rep D cs ad xs L h' H1 → va_S (fun q => B0 ≤ q) s.heap H1 locs1 → W p l e R s m args below meth c H1 locs1 cells slots Q (F0 m (pc + 3) ls (st.map (tr ad)))) : W p l e R s m args below meth c H locs cells slots Q (F0 m pc ls (v :: .ref (ad a) :: st.map (tr ad))) := by
  obtain ⟨hx, hb, hml, hown, hts, hK, hN, hX, hbl, hBs, hZZ⟩ := C
  have hk1 : fLk.any (fun q => decide (q.1 = (mNm mi).cls ∧ q.2.1 = ix ∧ r = q.2.2.1 * 64 + q.2.2.2.1 ∧ q.2.2.2.1 < 64)) = true := by
    obtain ⟨q, hq, hd⟩ := List.any_eq_true.mp hk
    rw [decide_eq_true_eq] at hd
    exact List.any_eq_true.mpr ⟨q, hq, by rw [decide_eq_true_eq]; exact ⟨hd.1, hd.2.1, hd.2.2.1, hd.2.2.2.1⟩⟩
  have hfin : ((cls9.getD (r / 64) ("", TX2, 0)).2.1 (r % 64)).2.2.2 = false := by
    obtain ⟨q, hq, hd⟩ := List.any_eq_true.mp hk
    rw [decide_eq_true_eq] at hd
    have e1 : r / 64 = q.2.2.1 := by omega
    have e2 : r % 64 = q.2.2.2.1 := by omega
    rw [e1, e2]
    exact hd.2.2.2.2
  obtain ⟨h9, hN', hlink⟩ := fld_link (r := r) hts hk1
  have ha := shp_lt hs
  refine va_put (C := clR (r / 64)) (T := (cls9.getD (r / 64) ("", TX2, 0)).2.1) (N := clN (r / 64)) (ci := r / 64) hx hb hts (cls9_in h9) (clY (r / 64)) (clY_ok h9) (clNm_ok h9) hown hK hR.1 (hW h) hS a (fs := (List.range (fN (r / 64))).map (fv ad h a (r / 64))) ?_ (cls9_at h9) (r % 64) hN' hlink (fun _ z => z) hfin (clY_ok h9 _ hN') hn hf ?_ hd (fun H1 locs1 q1 q2 q3 => ?_)
  · rw [wsh_get ha, cellE_obj hs]
  · rw [List.length_map, List.length_range, ← clN_fN _ h9]
    exact hN'
  · refine kk H1 locs1 ⟨?_, ?_, ?_⟩ q3
    · rw [wsh_set e3 e4, cellE_obj hs, obj_set e1 e2]
      exact q1
    · rw [e3 1000 (by omega)]
      exact hR.2.1
    · rw [e5]
      exact hR.2.2
theorem put_lt {ix : Nat} (C : Ctx D cs ad xs L B0 p s m args meth c mi) (hk : lkOk mi (.putfield ix) r = true) : r / 64 < 9 ∧ r % 64 < clN (r / 64) := by
  obtain ⟨q, hq, hd⟩ := List.any_eq_true.mp hk
  rw [decide_eq_true_eq] at hd
  obtain ⟨h1, h2, h3, h4, -⟩ := hd
  have e1 : r / 64 = q.2.2.1 := by omega
  have e2 : r % 64 = q.2.2.2.1 := by omega
  have hp := List.all_eq_true.mp fLk_ok q hq
  rw [Bool.and_eq_true, Bool.and_eq_true, decide_eq_true_eq, decide_eq_true_eq] at hp
  rw [e1, e2]
  exact ⟨hp.1.2, hp.2⟩
theorem ald_jj {cc : ByteArray} {rest : List Value} {cl : List vw_C} {tys : List (ClassId × FieldType)} {ws : va_W} {a : Nat} (hexec : p.tables.exec = Jvm.exec) (hb : c.code = cc) (hK : va_K D cl tys s) (hP : va_P D cl ws H) (q0 t0 : Nat) {cA : ClassId} {n : Nat} {f : Nat → Option Nat} (ha : ws[q0]? = some (a, .inl (cA, n, .inr (.inr (.inr (.inr f)))))) (ht : tys[t0]? = some (cA, .array .long)) {i : Int32} (hin : vp_in i n) (hdg : decode cc pc = .ok (.aaload, 1))
    (kk : W p l e R s m args below meth c H locs cells slots Q (F0 m (pc + 1) ls (va_rf (f i.toNatClampNeg) :: rest))) : W p l e R s m args below meth c H locs cells slots Q (F0 m pc ls (.int i :: .ref a :: rest)) := by
  have hlt : i.toNatClampNeg < n := Nat.not_le.mp fun q => hin (Or.inr q)
  exact W.aald (v := va_rf (f i.toNatClampNeg)) (ty := .array .long) hexec hb (hP q0 _ ha) ((hK.2 t0 _ ht).1 n (fun j => va_rf (f j))) rfl (fun q => by cases q) (by show ¬ (i < 0 ∨ (arrV _ _ _).slots.size ≤ _); rw [arrV_size]; exact hin) (by show (arrV _ _ _).slots[_]? = _; rw [arrV_read _ _ hlt]) rfl rfl hdg kk
theorem cellE_1 {a n : Nat} (hs : shp a = some (1, n)) : cellE cs ad h a = .inl (cs 1, n, .inl (h.1 a)) := by unfold cellE; rw [hs]; rfl
theorem cellE_2 {a n : Nat} (hs : shp a = some (2, n)) : cellE cs ad h a = .inl (cs 0, n, .inl (h.1 a)) := by unfold cellE; rw [hs]; rfl
theorem cellE_3 {a n : Nat} (hs : shp a = some (3, n)) : cellE cs ad h a = .inl (cs 3, n, .inl (h.1 a)) := by unfold cellE; rw [hs]; rfl
theorem cellE_4 {a n : Nat} (hs : shp a = some (4, n)) : cellE cs ad h a = .inl (cs 2, n, .inr (.inl (h.2.1 a))) := by unfold cellE; rw [hs]; rfl
theorem cellE_5 {a n : Nat} (hs : shp a = some (5, n)) : cellE cs ad h a = .inl (cs 4, n, .inr (.inr (.inr (.inr (fun j => (RT a j).map ad))))) := by unfold cellE; rw [hs]; rfl
theorem cellE_6 {a n : Nat} (hs : shp a = some (6, n)) : cellE cs ad h a = .inl (cs 5, n, .inr (.inr (.inr (.inr (fun j => (RT a j).map ad))))) := by unfold cellE; rw [hs]; rfl
theorem rep_I {a j : Nat} {x : Int32} {H1 : Heap} {e' : va_E} (ha : a < 109) (he : cellE cs ad (setI h a j x) a = e') (hP : va_P D cls9 ((wsh cs ad h).set a (ad a, e')) H1) (hR : Rep D cs ad xs L h H) : Rep D cs ad xs L (setI h a j x) H1 := by
  refine ⟨?_, ?_, hR.2.2⟩
  · rw [wsh_set (h := h) (a := a) (fun k hk => setI_1 hk) (fun k hk => rfl), he]
    exact hP
  · rw [setI_1 (by omega)]
    exact hR.2.1
theorem rep_L {a j : Nat} {x : Int64} {H1 : Heap} {e' : va_E} (ha : a < 109) (he : cellE cs ad (setL h a j x) a = e') (hP : va_P D cls9 ((wsh cs ad h).set a (ad a, e')) H1) (hR : Rep D cs ad xs L h H) : Rep D cs ad xs L (setL h a j x) H1 := by
  refine ⟨?_, hR.2.1, hR.2.2⟩
  rw [wsh_set (h := h) (h' := setL h a j x) (a := a) (fun k hk => rfl) (fun k hk => setL_1 hk), he]
  exact hP
theorem jmp_eq {pc : Nat} {off : Int} (hj : jok pc off = true) : (pc : Int) + off = (jmp pc off : Int) := by
  unfold jok at hj
  rw [decide_eq_true_eq] at hj
  unfold jmp
  omega
set_option maxHeartbeats 4000000 in
set_option maxRecDepth 100000 in
/-- one instruction -/
theorem snd_stp {ins : Instr} {pc' : Nat} {lv' : LV} {st' : List Value} {h' : Hp} (C : Ctx D cs ad xs L B0 p s m args meth c mi) (hW : WD cs ad B0) (hd0 : decode (mBy mi) pc = .ok (ins, n)) (hlen : ilen ins = 0 ∨ n = ilen ins) (hk : lkOk mi ins r = true) (hs : stp ins r pc lv st h = some (pc', lv', st', h')) (hl : LH ad ls (mMx mi) lv) (hR : Rep D cs ad xs L h H) (hS : va_S (fun q => B0 ≤ q) s.heap H locs)
    (kk : ∀ (H1 : Heap) (locs1 : List Loc) (ls1 : Array Slot), LH ad ls1 (mMx mi) lv' → Rep D cs ad xs L h' H1 → va_S (fun q => B0 ≤ q) s.heap H1 locs1 → W p l e R s m args below meth c H1 locs1 cells slots Q (F0 m pc' ls1 (st'.map (tr ad)))) : W p l e R s m args below meth c H locs cells slots Q (F0 m pc ls (st.map (tr ad))) := by
  obtain ⟨hx, hb, hml, hown, hts, hK, hN, hX, hbl, hBs, hZZ⟩ := id C
  cases ins with
  | iconst k =>
    have hd : decode (mBy mi) pc = .ok (.iconst k, 1) := by rw [hd0, hlen.resolve_left (by simp [ilen])]; rfl
    simp only [stp] at hs
    cases hs
    exact lv_iconst hx hb hd rfl (kk _ _ _ hl hR hS)
  | bipush k =>
    have hd : decode (mBy mi) pc = .ok (.bipush k, 2) := by rw [hd0, hlen.resolve_left (by simp [ilen])]; rfl
    simp only [stp] at hs
    cases hs
    exact lv_bipush hx hb hd rfl (kk _ _ _ hl hR hS)
  | sipush k =>
    have hd : decode (mBy mi) pc = .ok (.sipush k, 3) := by rw [hd0, hlen.resolve_left (by simp [ilen])]; rfl
    simp only [stp] at hs
    cases hs
    exact lv_sipush hx hb hd rfl (kk _ _ _ hl hR hS)
  | lconst k =>
    have hd : decode (mBy mi) pc = .ok (.lconst k, 1) := by rw [hd0, hlen.resolve_left (by simp [ilen])]; rfl
    simp only [stp] at hs
    cases hs
    exact lv_lconst hx hb hd rfl (kk _ _ _ hl hR hS)
  | ldc k =>
    have hd : decode (mBy mi) pc = .ok (.ldc k, 2) := by rw [hd0, hlen.resolve_left (by simp [ilen])]; rfl
    simp only [stp] at hs
    cases hs
    obtain ⟨q, hq, hz⟩ := List.any_eq_true.mp hk
    rw [decide_eq_true_eq] at hz
    obtain ⟨z1, z2, z3⟩ := hz
    subst z3
    have hp := List.all_eq_true.mp kLk_ok q hq
    have hwd := hts _ (atP_mem hp)
    rw [z1, z2] at hwd
    exact lv_ldc hx hb hown hwd hd (kk _ _ _ hl hR hS)
  | ldc_w k =>
    have hd : decode (mBy mi) pc = .ok (.ldc_w k, 3) := by rw [hd0, hlen.resolve_left (by simp [ilen])]; rfl
    simp only [stp] at hs
    cases hs
    obtain ⟨q, hq, hz⟩ := List.any_eq_true.mp hk
    rw [decide_eq_true_eq] at hz
    obtain ⟨z1, z2, z3⟩ := hz
    subst z3
    have hp := List.all_eq_true.mp kLk_ok q hq
    have hwd := hts _ (atP_mem hp)
    rw [z1, z2] at hwd
    exact lv_ldcw hx hb hown hwd hd (kk _ _ _ hl hR hS)
  | ldc2_w k =>
    have hd : decode (mBy mi) pc = .ok (.ldc2_w k, 3) := by rw [hd0, hlen.resolve_left (by simp [ilen])]; rfl
    simp only [stp] at hs
    cases hs
    obtain ⟨q, hq, hz⟩ := List.any_eq_true.mp hk
    rw [decide_eq_true_eq] at hz
    obtain ⟨z1, z2, z3⟩ := hz
    subst z3
    have hp := List.all_eq_true.mp jLk_ok q hq
    have hwd := hts _ (atP_mem hp)
    rw [z1, z2] at hwd
    exact lv_ldc2 hx hb hown hwd hd (kk _ _ _ hl hR hS)
  | iload k =>
    have hd : decode (mBy mi) pc = .ok (.iload k, 2) := by rw [hd0, hlen.resolve_left (by simp [ilen])]; rfl
    simp only [stp] at hs
    split at hs
    · rename_i q
      cases hs
      exact lv_iload hx hb hd (LH_at hl q) (kk _ _ _ hl hR hS)
    · cases hs
  | iload_n k =>
    have hd : decode (mBy mi) pc = .ok (.iload_n k, 1) := by rw [hd0, hlen.resolve_left (by simp [ilen])]; rfl
    simp only [stp] at hs
    split at hs
    · rename_i q
      cases hs
      exact lv_iload_n hx hb hd rfl (LH_at hl q) (kk _ _ _ hl hR hS)
    · cases hs
  | lload k =>
    have hd : decode (mBy mi) pc = .ok (.lload k, 2) := by rw [hd0, hlen.resolve_left (by simp [ilen])]; rfl
    simp only [stp] at hs
    split at hs
    · rename_i q
      cases hs
      exact lv_lload hx hb hd (LH_at hl q) (kk _ _ _ hl hR hS)
    · cases hs
  | lload_n k =>
    have hd : decode (mBy mi) pc = .ok (.lload_n k, 1) := by rw [hd0, hlen.resolve_left (by simp [ilen])]; rfl
    simp only [stp] at hs
    split at hs
    · rename_i q
      cases hs
      exact lv_lload_n hx hb hd rfl (LH_at hl q) (kk _ _ _ hl hR hS)
    · cases hs
  | aload k =>
    have hd : decode (mBy mi) pc = .ok (.aload k, 2) := by rw [hd0, hlen.resolve_left (by simp [ilen])]; rfl
    simp only [stp] at hs
    split at hs
    · rename_i q
      cases hs
      exact lv_aload hx hb hd (LH_at hl q) (kk _ _ _ hl hR hS)
    · cases hs
  | aload_n k =>
    have hd : decode (mBy mi) pc = .ok (.aload_n k, 1) := by rw [hd0, hlen.resolve_left (by simp [ilen])]; rfl
    simp only [stp] at hs
    split at hs
    · rename_i q
      cases hs
      exact lv_aload_n hx hb hd rfl (LH_at hl q) (kk _ _ _ hl hR hS)
    · cases hs
  | istore k =>
    have hd : decode (mBy mi) pc = .ok (.istore k, 2) := by rw [hd0, hlen.resolve_left (by simp [ilen])]; rfl
    simp only [stp] at hs
    split at hs
    · split at hs
      · rename_i q
        cases hs
        exact lv_istore hx hb hd (LH_has hl) (by rw [← hl.1]; exact q) rfl (fun ls1 q1 => kk _ _ _ (LH_st1 hl.1 q1) hR hS)
      · cases hs
    · cases hs
  | istore_n k =>
    have hd : decode (mBy mi) pc = .ok (.istore_n k, 1) := by rw [hd0, hlen.resolve_left (by simp [ilen])]; rfl
    simp only [stp] at hs
    split at hs
    · split at hs
      · rename_i q
        cases hs
        exact lv_istore_n hx hb hd rfl (LH_has hl) (by rw [← hl.1]; exact q) rfl (fun ls1 q1 => kk _ _ _ (LH_st1 hl.1 q1) hR hS)
      · cases hs
    · cases hs
  | lstore k =>
    have hd : decode (mBy mi) pc = .ok (.lstore k, 2) := by rw [hd0, hlen.resolve_left (by simp [ilen])]; rfl
    simp only [stp] at hs
    split at hs
    · split at hs
      · rename_i q
        cases hs
        exact lv_lstore hx hb hd (LH_has hl) (by rw [← hl.1]; exact q) rfl (fun ls1 q1 => kk _ _ _ (LH_st2 hl.1 q1) hR hS)
      · cases hs
    · cases hs
  | lstore_n k =>
    have hd : decode (mBy mi) pc = .ok (.lstore_n k, 1) := by rw [hd0, hlen.resolve_left (by simp [ilen])]; rfl
    simp only [stp] at hs
    split at hs
    · split at hs
      · rename_i q
        cases hs
        exact lv_lstore_n hx hb hd rfl (LH_has hl) (by rw [← hl.1]; exact q) rfl (fun ls1 q1 => kk _ _ _ (LH_st2 hl.1 q1) hR hS)
      · cases hs
    · cases hs
  | astore_n k =>
    have hd : decode (mBy mi) pc = .ok (.astore_n k, 1) := by rw [hd0, hlen.resolve_left (by simp [ilen])]; rfl
    simp only [stp] at hs
    split at hs
    · split at hs
      · rename_i q
        cases hs
        exact lv_astore_n hx hb hd rfl (LH_has hl) (by rw [← hl.1]; exact q) rfl (fun ls1 q1 => kk _ _ _ (LH_st1 hl.1 q1) hR hS)
      · cases hs
    · cases hs
  | iinc k z =>
    have hd : decode (mBy mi) pc = .ok (.iinc k z, 3) := by rw [hd0, hlen.resolve_left (by simp [ilen])]; rfl
    simp only [stp] at hs
    split at hs
    · rename_i x q0
      split at hs
      · rename_i q
        cases hs
        obtain ⟨k1, hk1⟩ := List.getElem?_of_mem (asl_mem.mpr ⟨_, ldv_some q0, rfl⟩ : (k, tr ad (.int x)) ∈ asl ad lv)
        exact lv_iinc hx hb hd (LH_has hl) hk1 rfl (by rw [← hl.1]; exact q) rfl (fun ls1 q1 => kk _ _ _ (LH_st1 hl.1 q1) hR hS)
      · cases hs
    · cases hs
  | iadd =>
    have hd : decode (mBy mi) pc = .ok (.iadd, 1) := by rw [hd0, hlen.resolve_left (by simp [ilen])]; rfl
    simp only [stp] at hs
    split at hs
    · cases hs
      exact lv_iadd hx hb hd (kk _ _ _ hl hR hS)
    · cases hs
  | isub =>
    have hd : decode (mBy mi) pc = .ok (.isub, 1) := by rw [hd0, hlen.resolve_left (by simp [ilen])]; rfl
    simp only [stp] at hs
    split at hs
    · cases hs
      exact lv_isub hx hb hd (kk _ _ _ hl hR hS)
    · cases hs
  | imul =>
    have hd : decode (mBy mi) pc = .ok (.imul, 1) := by rw [hd0, hlen.resolve_left (by simp [ilen])]; rfl
    simp only [stp] at hs
    split at hs
    · cases hs
      exact lv_imul hx hb hd (kk _ _ _ hl hR hS)
    · cases hs
  | iand =>
    have hd : decode (mBy mi) pc = .ok (.iand, 1) := by rw [hd0, hlen.resolve_left (by simp [ilen])]; rfl
    simp only [stp] at hs
    split at hs
    · cases hs
      exact lv_iand hx hb hd (kk _ _ _ hl hR hS)
    · cases hs
  | ior =>
    have hd : decode (mBy mi) pc = .ok (.ior, 1) := by rw [hd0, hlen.resolve_left (by simp [ilen])]; rfl
    simp only [stp] at hs
    split at hs
    · cases hs
      exact lv_ior hx hb hd (kk _ _ _ hl hR hS)
    · cases hs
  | ixor =>
    have hd : decode (mBy mi) pc = .ok (.ixor, 1) := by rw [hd0, hlen.resolve_left (by simp [ilen])]; rfl
    simp only [stp] at hs
    split at hs
    · cases hs
      exact lv_ixor hx hb hd (kk _ _ _ hl hR hS)
    · cases hs
  | ishl =>
    have hd : decode (mBy mi) pc = .ok (.ishl, 1) := by rw [hd0, hlen.resolve_left (by simp [ilen])]; rfl
    simp only [stp] at hs
    split at hs
    · cases hs
      exact lv_ishl hx hb hd (kk _ _ _ hl hR hS)
    · cases hs
  | ishr =>
    have hd : decode (mBy mi) pc = .ok (.ishr, 1) := by rw [hd0, hlen.resolve_left (by simp [ilen])]; rfl
    simp only [stp] at hs
    split at hs
    · cases hs
      exact lv_ishr hx hb hd (kk _ _ _ hl hR hS)
    · cases hs
  | ladd =>
    have hd : decode (mBy mi) pc = .ok (.ladd, 1) := by rw [hd0, hlen.resolve_left (by simp [ilen])]; rfl
    simp only [stp] at hs
    split at hs
    · cases hs
      exact lv_ladd hx hb hd (kk _ _ _ hl hR hS)
    · cases hs
  | lsub =>
    have hd : decode (mBy mi) pc = .ok (.lsub, 1) := by rw [hd0, hlen.resolve_left (by simp [ilen])]; rfl
    simp only [stp] at hs
    split at hs
    · cases hs
      exact lv_lsub hx hb hd (kk _ _ _ hl hR hS)
    · cases hs
  | lmul =>
    have hd : decode (mBy mi) pc = .ok (.lmul, 1) := by rw [hd0, hlen.resolve_left (by simp [ilen])]; rfl
    simp only [stp] at hs
    split at hs
    · cases hs
      exact lv_lmul hx hb hd (kk _ _ _ hl hR hS)
    · cases hs
  | lxor =>
    have hd : decode (mBy mi) pc = .ok (.lxor, 1) := by rw [hd0, hlen.resolve_left (by simp [ilen])]; rfl
    simp only [stp] at hs
    split at hs
    · cases hs
      exact lv_lxor hx hb hd (kk _ _ _ hl hR hS)
    · cases hs
  | ineg =>
    have hd : decode (mBy mi) pc = .ok (.ineg, 1) := by rw [hd0, hlen.resolve_left (by simp [ilen])]; rfl
    simp only [stp] at hs
    split at hs
    · cases hs
      exact lv_ineg hx hb hd (kk _ _ _ hl hR hS)
    · cases hs
  | lneg =>
    have hd : decode (mBy mi) pc = .ok (.lneg, 1) := by rw [hd0, hlen.resolve_left (by simp [ilen])]; rfl
    simp only [stp] at hs
    split at hs
    · cases hs
      exact lv_lneg hx hb hd (kk _ _ _ hl hR hS)
    · cases hs
  | iushr =>
    have hd : decode (mBy mi) pc = .ok (.iushr, 1) := by rw [hd0, hlen.resolve_left (by simp [ilen])]; rfl
    simp only [stp] at hs
    split at hs
    · cases hs
      exact lv_iushr hx hb hd rfl (kk _ _ _ hl hR hS)
    · cases hs
  | i2l =>
    have hd : decode (mBy mi) pc = .ok (.i2l, 1) := by rw [hd0, hlen.resolve_left (by simp [ilen])]; rfl
    simp only [stp] at hs
    split at hs
    · cases hs
      exact lv_i2l hx hb hd rfl (kk _ _ _ hl hR hS)
    · cases hs
  | l2i =>
    have hd : decode (mBy mi) pc = .ok (.l2i, 1) := by rw [hd0, hlen.resolve_left (by simp [ilen])]; rfl
    simp only [stp] at hs
    split at hs
    · cases hs
      exact lv_l2i hx hb hd rfl (kk _ _ _ hl hR hS)
    · cases hs
  | i2b =>
    have hd : decode (mBy mi) pc = .ok (.i2b, 1) := by rw [hd0, hlen.resolve_left (by simp [ilen])]; rfl
    simp only [stp] at hs
    split at hs
    · cases hs
      exact lv_i2b hx hb hd rfl (kk _ _ _ hl hR hS)
    · cases hs
  | irem =>
    have hd : decode (mBy mi) pc = .ok (.irem, 1) := by rw [hd0, hlen.resolve_left (by simp [ilen])]; rfl
    simp only [stp] at hs
    split at hs
    · split at hs
      · cases hs
      · rename_i q
        cases hs
        exact lv_irem hx hb hd q (kk _ _ _ hl hR hS)
    · cases hs
  | ldiv =>
    have hd : decode (mBy mi) pc = .ok (.ldiv, 1) := by rw [hd0, hlen.resolve_left (by simp [ilen])]; rfl
    simp only [stp] at hs
    split at hs
    · split at hs
      · cases hs
      · rename_i q
        cases hs
        exact lv_ldiv hx hb hd q (kk _ _ _ hl hR hS)
    · cases hs
  | lrem =>
    have hd : decode (mBy mi) pc = .ok (.lrem, 1) := by rw [hd0, hlen.resolve_left (by simp [ilen])]; rfl
    simp only [stp] at hs
    split at hs
    · split at hs
      · cases hs
      · rename_i q
        cases hs
        exact lv_lrem hx hb hd q (kk _ _ _ hl hR hS)
    · cases hs
  | lcmp =>
    have hd : decode (mBy mi) pc = .ok (.lcmp, 1) := by rw [hd0, hlen.resolve_left (by simp [ilen])]; rfl
    simp only [stp] at hs
    split at hs
    · cases hs
      exact W.lcmp hx hb hd (kk _ _ _ hl hR hS)
    · cases hs
  | dup =>
    have hd : decode (mBy mi) pc = .ok (.dup, 1) := by rw [hd0, hlen.resolve_left (by simp [ilen])]; rfl
    simp only [stp] at hs
    split at hs
    · cases hs
      exact lv_dup hx hb hd rfl (kk _ _ _ hl hR hS)
    · cases hs
      exact lv_dup hx hb hd rfl (kk _ _ _ hl hR hS)
    · cases hs
  | dup2 =>
    have hd : decode (mBy mi) pc = .ok (.dup2, 1) := by rw [hd0, hlen.resolve_left (by simp [ilen])]; rfl
    simp only [stp] at hs
    split at hs
    · cases hs
      exact lv_dup2_11 hx hb hd rfl rfl (kk _ _ _ hl hR hS)
    · cases hs
  | pop =>
    have hd : decode (mBy mi) pc = .ok (.pop, 1) := by rw [hd0, hlen.resolve_left (by simp [ilen])]; rfl
    simp only [stp] at hs
    split at hs
    · cases hs
      exact lv_pop hx hb hd rfl (kk _ _ _ hl hR hS)
    · cases hs
  | ifCond q o =>
    have hd : decode (mBy mi) pc = .ok (.ifCond q o, 3) := by rw [hd0, hlen.resolve_left (by simp [ilen])]; rfl
    simp only [stp] at hs
    split at hs
    · split at hs
      · rename_i x st0 hj
        have ht := jmp_eq hj
        cases hs
        cases q with
        | eq =>
          refine lv_if_eq hx hb hd ht (fun z => ?_) (fun z => ?_)
          · have k1 := kk H locs ls hl hR hS
            simp only [if_pos z] at k1
            exact k1
          · have k1 := kk H locs ls hl hR hS
            simp only [if_neg z] at k1
            exact k1
        | ne =>
          refine lv_if_ne hx hb hd ht (fun z => ?_) (fun z => ?_)
          · have k1 := kk H locs ls hl hR hS
            simp only [if_neg z] at k1
            exact k1
          · have k1 := kk H locs ls hl hR hS
            simp only [if_pos z] at k1
            exact k1
        | lt =>
          refine lv_if_lt hx hb hd ht (fun z => ?_) (fun z => ?_)
          · have k1 := kk H locs ls hl hR hS
            simp only [if_pos z] at k1
            exact k1
          · have k1 := kk H locs ls hl hR hS
            simp only [if_neg z] at k1
            exact k1
        | ge =>
          refine lv_if_ge hx hb hd ht (fun z => ?_) (fun z => ?_)
          · have k1 := kk H locs ls hl hR hS
            simp only [if_pos z] at k1
            exact k1
          · have k1 := kk H locs ls hl hR hS
            simp only [if_neg z] at k1
            exact k1
        | gt =>
          refine lv_if_gt hx hb hd ht (fun z => ?_) (fun z => ?_)
          · have k1 := kk H locs ls hl hR hS
            simp only [if_pos z] at k1
            exact k1
          · have k1 := kk H locs ls hl hR hS
            simp only [if_neg z] at k1
            exact k1
        | le =>
          refine lv_if_le hx hb hd ht (fun z => ?_) (fun z => ?_)
          · have k1 := kk H locs ls hl hR hS
            simp only [if_pos z] at k1
            exact k1
          · have k1 := kk H locs ls hl hR hS
            simp only [if_neg z] at k1
            exact k1
      · cases hs
    · cases hs
  | if_icmp q o =>
    have hd : decode (mBy mi) pc = .ok (.if_icmp q o, 3) := by rw [hd0, hlen.resolve_left (by simp [ilen])]; rfl
    simp only [stp] at hs
    split at hs
    · split at hs
      · rename_i y x st0 hj
        have ht := jmp_eq hj
        cases hs
        cases q with
        | eq =>
          refine lv_icmp_eq hx hb hd ht (fun z => ?_) (fun z => ?_)
          · have k1 := kk H locs ls hl hR hS
            simp only [if_pos z] at k1
            exact k1
          · have k1 := kk H locs ls hl hR hS
            simp only [if_neg z] at k1
            exact k1
        | ne =>
          refine lv_icmp_ne hx hb hd ht (fun z => ?_) (fun z => ?_)
          · have k1 := kk H locs ls hl hR hS
            simp only [if_neg z] at k1
            exact k1
          · have k1 := kk H locs ls hl hR hS
            simp only [if_pos z] at k1
            exact k1
        | lt =>
          refine lv_icmp_lt hx hb hd ht (fun z => ?_) (fun z => ?_)
          · have k1 := kk H locs ls hl hR hS
            simp only [if_pos z] at k1
            exact k1
          · have k1 := kk H locs ls hl hR hS
            simp only [if_neg z] at k1
            exact k1
        | ge =>
          refine lv_icmp_ge hx hb hd ht (fun z => ?_) (fun z => ?_)
          · have k1 := kk H locs ls hl hR hS
            simp only [if_pos z] at k1
            exact k1
          · have k1 := kk H locs ls hl hR hS
            simp only [if_neg z] at k1
            exact k1
        | gt =>
          refine lv_icmp_gt hx hb hd ht (fun z => ?_) (fun z => ?_)
          · have k1 := kk H locs ls hl hR hS
            simp only [if_pos z] at k1
            exact k1
          · have k1 := kk H locs ls hl hR hS
            simp only [if_neg z] at k1
            exact k1
        | le =>
          refine lv_icmp_le hx hb hd ht (fun z => ?_) (fun z => ?_)
          · have k1 := kk H locs ls hl hR hS
            simp only [if_pos z] at k1
            exact k1
          · have k1 := kk H locs ls hl hR hS
            simp only [if_neg z] at k1
            exact k1
      · cases hs
    · cases hs
  | goto o =>
    have hd : decode (mBy mi) pc = .ok (.goto o, 3) := by rw [hd0, hlen.resolve_left (by simp [ilen])]; rfl
    simp only [stp] at hs
    split at hs
    · rename_i hj
      cases hs
      exact lv_goto hx hb hd (jmp_eq hj) (kk _ _ _ hl hR hS)
    · cases hs
  | tableswitch d1 lo hi offs =>
    simp only [stp] at hs
    split at hs
    · split at hs
      · rename_i x st0 hj
        cases hs
        by_cases z : x.toInt < lo ∨ hi < x.toInt
        · have ht := jmp_eq hj.2
          have k1 := kk H locs ls hl hR hS
          simp only [swT, if_pos z] at ht k1
          exact lv_tableOut hx hb hd0 z ht k1
        · have ht := jmp_eq hj.2
          have k1 := kk H locs ls hl hR hS
          simp only [swT, if_neg z] at ht k1
          have z1 : (x.toInt - lo).toNat < offs.size := by rcases hj.1 with q | q | q
                                                           · exact absurd (Or.inl q) z
                                                           · exact absurd (Or.inr q) z
                                                           · exact q
          have z2 : offs[(x.toInt - lo).toNat]? = some ((offs[(x.toInt - lo).toNat]?).getD 0) := by rw [Array.getElem?_eq_getElem z1]; rfl
          exact lv_tableIn hx hb hd0 (fun q => z (Or.inl q)) (fun q => z (Or.inr q)) z2 ht k1
      · cases hs
    · cases hs
  | lookupswitch d1 ps =>
    simp only [stp] at hs
    split at hs
    · split at hs
      · rename_i x st0 hj
        cases hs
        exact lv_lookup hx hb hd0 hj.1 rfl (jmp_eq hj.2) (kk _ _ _ hl hR hS)
      · cases hs
    · cases hs
  | getfield k =>
    have hd : decode (mBy mi) pc = .ok (.getfield k, 3) := by rw [hd0, hlen.resolve_left (by simp [ilen])]; rfl
    simp only [stp] at hs
    split at hs
    · rename_i a st0
      split at hs
      · rename_i q
        refine snd_get (a := a) C hd hk q hR ?_
        split at hs
        · rename_i f; cases hs; have k1 := kk H locs ls hl hR hS; unfold fv; rw [f]; exact k1
        · rename_i f; cases hs; have k1 := kk H locs ls hl hR hS; unfold fv; rw [f]; exact k1
        · rename_i f; cases hs; have k1 := kk H locs ls hl hR hS; unfold fv; rw [f]; exact k1
        · rename_i f; split at hs
          · rename_i b hb2; cases hs; have k1 := kk H locs ls hl hR hS; unfold fv; rw [f, hb2]; exact k1
          · cases hs
        · cases hs
      · cases hs
    · cases hs
  | putfield k =>
    have hd : decode (mBy mi) pc = .ok (.putfield k, 3) := by rw [hd0, hlen.resolve_left (by simp [ilen])]; rfl
    simp only [stp] at hs
    split at hs
    · rename_i x a st0
      split at hs
      · rename_i q
        cases hs
        have h9 := put_lt C hk
        have hY := clY_fK ⟨r / 64, h9.1⟩ ⟨r % 64, Nat.lt_of_lt_of_le h9.2 (clN_40 _ h9.1)⟩ h9.2
        refine snd_put (a := a) (v := .int x) (h' := setI h a (r % 64) x) C hW hd hk q.1 hR hS ?_ ?_ ?_ ?_ (fun k hk => setI_1 hk) (fun k hk => rfl) rfl (fun H1 locs1 q1 q2 => kk H1 locs1 ls hl q1 q2)
        · rcases q.2 with f | ⟨f, rfl | rfl⟩
          · rw [hY.1 f]; rfl
          · rw [hY.2.2 f]; rfl
          · rw [hY.2.2 f]; rfl
        · rcases q.2 with f | ⟨f, rfl | rfl⟩
          · rw [hY.1 f]; rfl
          · rw [hY.2.2 f]; rfl
          · rw [hY.2.2 f]; rfl
        · rcases q.2 with f | ⟨f, -⟩ <;> (unfold fv; rw [f]; show Value.int ((setI h a (r % 64) x).1 a (r % 64)) = _; rw [setI_s]; simp [upd])
        · intro j hj
          unfold fv
          have e0 : (setI h a (r % 64) x).1 a j = h.1 a j := by rw [setI_s]; simp [upd, hj]
          rw [e0]
          rfl
      · cases hs
    · rename_i x a st0
      split at hs
      · rename_i q
        cases hs
        have h9 := put_lt C hk
        have hY := clY_fK ⟨r / 64, h9.1⟩ ⟨r % 64, Nat.lt_of_lt_of_le h9.2 (clN_40 _ h9.1)⟩ h9.2
        refine snd_put (a := a) (v := .long x) (h' := setL h a (r % 64) x) C hW hd hk q.1 hR hS ?_ ?_ ?_ ?_ (fun k hk => rfl) (fun k hk => setL_1 hk) rfl (fun H1 locs1 q1 q2 => kk H1 locs1 ls hl q1 q2)
        · rw [hY.2.1 q.2]; rfl
        · rw [hY.2.1 q.2]; rfl
        · unfold fv; rw [q.2]; show Value.long ((setL h a (r % 64) x).2.1 a (r % 64)) = _; rw [setL_s]; simp [vp_updL]
        · intro j hj
          unfold fv
          have e0 : (setL h a (r % 64) x).2.1 a j = h.2.1 a j := by rw [setL_s]; simp [vp_updL, hj]
          rw [e0]
          rfl
      · cases hs
    · cases hs
  | iaload =>
    have hd : decode (mBy mi) pc = .ok (.iaload, 1) := by rw [hd0, hlen.resolve_left (by simp [ilen])]; rfl
    simp only [stp] at hs
    split at hs
    · rename_i i a st0
      split at hs
      · rename_i ha
        subst ha
        split at hs
        · rename_i q
          cases hs
          have k1 := kk H locs ls hl hR hS
          rw [hR.2.1] at k1
          rw [hR.2.2] at q
          exact va_sld hx hb hX (Nat.lt_of_lt_of_le hbl hBs) (Nat.not_le.mpr hbl) hS (vp_in_iff.mpr q) hd k1
        · cases hs
      · split at hs
        · rename_i nn hsh
          split at hs
          · rename_i q
            cases hs
            exact va_iald hx hb hK hR.1 a 1 (by rw [wsh_get (shp_lt hsh), cellE_1 hsh]) rfl (vp_in_iff.mpr q) hd (kk _ _ _ hl hR hS)
          · cases hs
        · cases hs
    · cases hs
  | baload =>
    have hd : decode (mBy mi) pc = .ok (.baload, 1) := by rw [hd0, hlen.resolve_left (by simp [ilen])]; rfl
    simp only [stp] at hs
    split at hs
    · rename_i i a st0
      split at hs
      · rename_i nn hsh
        split at hs
        · rename_i q
          cases hs
          exact va_bald hx hb hK hR.1 a 0 (by rw [wsh_get (shp_lt hsh), cellE_2 hsh]) rfl (vp_in_iff.mpr q) hd (kk _ _ _ hl hR hS)
        · cases hs
      · rename_i nn hsh
        split at hs
        · rename_i q
          cases hs
          exact va_zald hx hb hK hR.1 a 3 (by rw [wsh_get (shp_lt hsh), cellE_3 hsh]) rfl (vp_in_iff.mpr q) hd (kk _ _ _ hl hR hS)
        · cases hs
      · cases hs
    · cases hs
  | laload =>
    have hd : decode (mBy mi) pc = .ok (.laload, 1) := by rw [hd0, hlen.resolve_left (by simp [ilen])]; rfl
    simp only [stp] at hs
    split at hs
    · rename_i i a st0
      split at hs
      · rename_i nn hsh
        split at hs
        · rename_i q
          cases hs
          exact va_lald hx hb hK hR.1 a 2 (by rw [wsh_get (shp_lt hsh), cellE_4 hsh]) rfl (vp_in_iff.mpr q) hd (kk _ _ _ hl hR hS)
        · cases hs
      · cases hs
    · cases hs
  | aaload =>
    have hd : decode (mBy mi) pc = .ok (.aaload, 1) := by rw [hd0, hlen.resolve_left (by simp [ilen])]; rfl
    simp only [stp] at hs
    split at hs
    · rename_i i a st0
      split at hs
      · rename_i nn hsh
        split at hs
        · rename_i q
          split at hs
          · rename_i k hrt
            cases hs
            refine va_aldq hx hb hK hR.1 a 4 (by rw [wsh_get (shp_lt hsh), cellE_5 hsh]) rfl (vp_in_iff.mpr q) hd ?_
            rw [hrt]
            exact kk _ _ _ hl hR hS
          · cases hs
        · cases hs
      · rename_i nn hsh
        split at hs
        · rename_i q
          split at hs
          · rename_i k hrt
            cases hs
            refine ald_jj hx hb hK hR.1 a 5 (by rw [wsh_get (shp_lt hsh), cellE_6 hsh]) rfl (vp_in_iff.mpr q) hd ?_
            rw [hrt]
            exact kk _ _ _ hl hR hS
          · cases hs
        · cases hs
      · cases hs
    · cases hs
  | iastore =>
    have hd : decode (mBy mi) pc = .ok (.iastore, 1) := by rw [hd0, hlen.resolve_left (by simp [ilen])]; rfl
    simp only [stp] at hs
    split at hs
    · rename_i x i a st0
      split at hs
      · rename_i nn hsh
        split at hs
        · rename_i q
          cases hs
          exact va_iast hx hb hK hR.1 (hW h) hS a 1 (by rw [wsh_get (shp_lt hsh), cellE_1 hsh]) rfl (vp_in_iff.mpr q) hd (fun H1 locs1 q1 q2 q3 => kk _ _ _ hl (rep_I (shp_lt hsh) (by rw [cellE_1 hsh, setI_s]) q1 hR) q3)
        · cases hs
      · cases hs
    · cases hs
  | bastore =>
    have hd : decode (mBy mi) pc = .ok (.bastore, 1) := by rw [hd0, hlen.resolve_left (by simp [ilen])]; rfl
    simp only [stp] at hs
    split at hs
    · rename_i x i a st0
      split at hs
      · rename_i nn hsh
        split at hs
        · rename_i q
          cases hs
          exact va_bast hx hb hK hR.1 (hW h) hS a 0 (by rw [wsh_get (shp_lt hsh), cellE_2 hsh]) rfl (vp_in_iff.mpr q) hd (fun H1 locs1 q1 q2 q3 => kk _ _ _ hl (rep_I (shp_lt hsh) (by rw [cellE_2 hsh, setI_s]) q1 hR) q3)
        · cases hs
      · rename_i nn hsh
        split at hs
        · rename_i q
          cases hs
          exact va_zast hx hb hK hR.1 (hW h) hS a 3 (by rw [wsh_get (shp_lt hsh), cellE_3 hsh]) rfl (vp_in_iff.mpr q) hd (fun H1 locs1 q1 q2 q3 => kk _ _ _ hl (rep_I (shp_lt hsh) (by rw [cellE_3 hsh, setI_s]) q1 hR) q3)
        · cases hs
      · cases hs
    · cases hs
  | lastore =>
    have hd : decode (mBy mi) pc = .ok (.lastore, 1) := by rw [hd0, hlen.resolve_left (by simp [ilen])]; rfl
    simp only [stp] at hs
    split at hs
    · rename_i x i a st0
      split at hs
      · rename_i nn hsh
        split at hs
        · rename_i q
          cases hs
          exact va_last hx hb hK hR.1 (hW h) hS a 2 (by rw [wsh_get (shp_lt hsh), cellE_4 hsh]) rfl (vp_in_iff.mpr q) hd (fun H1 locs1 q1 q2 q3 => kk _ _ _ hl (rep_L (shp_lt hsh) (by rw [cellE_4 hsh, setL_s]) q1 hR) q3)
        · cases hs
      · cases hs
    · cases hs
  | arraylength =>
    have hd : decode (mBy mi) pc = .ok (.arraylength, 1) := by rw [hd0, hlen.resolve_left (by simp [ilen])]; rfl
    simp only [stp] at hs
    split at hs
    · rename_i a st0
      split at hs
      · rename_i ha
        subst ha
        cases hs
        have k1 := kk H locs ls hl hR hS
        rw [hR.2.2] at k1
        exact va_slen hx hb hX (Nat.lt_of_lt_of_le hbl hBs) (Nat.not_le.mpr hbl) hS hd k1
      · cases hs
    · cases hs
  | _ => simp [stp] at hs
end
