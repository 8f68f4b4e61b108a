theorem stp_t {ins : Instr} {r pc pc' : Nat} {lv lv' : LV} {st st' : List Value} {h h' : Hp} (hs : stp ins r pc lv st h = some (pc', lv', st', h')) : h'.2.2 = h.2.2 := by
  unfold stp at hs
  repeat' split at hs
  all_goals first
    | (cases hs; rfl)
    | (cases hs)
section
variable {D : va_G} {cs : Nat → ClassId} {ad : Nat → Nat} {xs : Nat → Int32} {L B0 : Nat}
/-- all that a walk of a method stands on -/
def SndW (D : va_G) (cs : Nat → ClassId) (ad : Nat → Nat) (xs : Nat → Int32) (L B0 : Nat) (l : Launch) (f : Nat) : Prop :=
  ∀ (d mi pc : Nat) (lv : LV) (st : List Value) (h : Hp) (pc' : Nat) (st' : List Value) (h' : Hp), exec f d mi pc lv st h = some (pc', st', h') → h.2.2.1 ≤ h'.2.2.1 ∧
  ∀ (p : Program) (e : Env) (R : Room) (s : State) (m : MethodId) (args : Array Value) (below : List Frame) (meth : Method) (c : Code) (H : Heap) (locs : List Loc) (cells slots : Nat) (Q : State → Prop) (ls : Array Slot),
    Ctx D cs ad xs L B0 p s m args meth c mi → d ≤ R.frames → 60 * d ≤ R.locals → cells + (h'.2.2.1 - h.2.2.1) ≤ R.cells → slots + 6 * (h'.2.2.1 - h.2.2.1) ≤ R.slots → LH ad ls (mMx mi) lv → Rep D cs ad xs L h H → va_S (fun q => B0 ≤ q) s.heap H locs →
    (∀ (H1 : Heap) (locs1 : List Loc) (ls1 : Array Slot), ls1.size = mMx mi → Rep D cs ad xs L h' H1 → va_S (fun q => B0 ≤ q) s.heap H1 locs1 → W p l e R s m args below meth c H1 locs1 (cells + (h'.2.2.1 - h.2.2.1)) (slots + 6 * (h'.2.2.1 - h.2.2.1)) Q (F0 m pc' ls1 (st'.map (tr ad)))) →
    W p l e R s m args below meth c H locs cells slots Q (F0 m pc ls (st.map (tr ad)))
/-- a method's contract -/
theorem snd_met {l : Launch} {f d r pc' : Nat} {as : List Value} {h h' : Hp} {st' : List Value} {v : Option Value} (hS : SndW D cs ad xs L B0 l f) (hr : r < 205) (he : exec f d r 0 (ent (mMx r) as) [] h = some (pc', st', h')) (hf : fin r pc' st' = some (some v)) (hl : (as.map (fun v => v.category)).sum ≤ mMx r) :
    Met l (mNm r) (wsM r) (rmD d (h'.2.2.1 - h.2.2.1)) (va_Pc (as.map (tr ad)) (PreU D cs ad xs L B0 h)) (QcM D cs ad xs L B0 h' (v.map (tr ad))) (h'.2.2.1 - h.2.2.1) (6 * (h'.2.2.1 - h.2.2.1)) (fun q => B0 ≤ q) := by
  refine Met_ofWF (cc := mBy r) (maxL := mMx r) (ret := mRt r) (mth_parts hr).2.2.2.2.2.2.2.2.1 rfl ?_
  intro p e s m args below meth c s₁ B hml hv
  obtain ⟨rfl, hR, hK, hN, hX, hbl, hB, hZ⟩ := hv
  have hts : ∀ w ∈ TS, w.before (as.map (tr ad)).toArray s = true := fun w hw => atoms_spec (ws := wsM r) B.pre w (List.mem_cons_of_mem _ hw)
  have C : Ctx D cs ad xs L B0 p s m (as.map (tr ad)).toArray meth c r := ⟨B.exec, B.bytes, hml, findClass_of_methodNamed B.named, hts, hK, hN, hX, hbl, hB, hZ⟩
  rw [lg_entry_eq]
  obtain ⟨-, hw⟩ := hS _ _ _ _ _ _ _ _ _ he
  refine hw p e _ s m _ below meth c s.heap [] 0 0 _ _ C (Nat.le_refl d) (Nat.le_refl _) (by rw [Nat.zero_add]; exact Nat.le_refl _) (by rw [Nat.zero_add]; exact Nat.le_refl _) (LH_ent hl) hR va_S.rf (fun H1 locs1 ls1 q1 q2 q3 => ?_)
  rw [Nat.zero_add, Nat.zero_add]
  exact snd_fin C B.returns B.notSynchronized hf q2 q3
end
theorem cargs_spec {ins : Instr} {r : Nat} {st as rest : List Value} (h : cargs ins r st = some (as, rest)) : isSt ins = mSt r ∧ as.length = nAr r ∧ (rest.map (fun v => v.category)).sum ≤ 8 ∧ (as.map (fun v => v.category)).sum ≤ mMx r ∧ st = as.reverse ++ rest := by
  unfold cargs at h
  split at h
  · rename_i q
    obtain ⟨q1, q2, q3, q4⟩ := q
    cases h
    refine ⟨q1, ?_, q3, ?_, ?_⟩
    · rw [List.length_reverse, List.length_take]
      omega
    · rw [List.map_reverse, List.sum_reverse]
      exact q4
    · rw [List.reverse_reverse, List.take_append_drop]
  · cases h
theorem wrp_205 : ∀ r, r < 214 → wrp r = none → r < 205 := by decide +kernel
section
variable {D : va_G} {cs : Nat → ClassId} {ad : Nat → Nat} {xs : Nat → Int32} {L B0 : Nat}
variable {p : Program} {l : Launch} {e : Env} {R : Room} {s : State} {m : MethodId} {args : Array Value} {below : List Frame} {meth : Method} {c : Code} {H : Heap} {locs : List Loc} {cells slots : Nat} {Q : State → Prop} {mi pc : Nat} {ls : Array Slot} {lv : LV} {st : List Value} {h : Hp}
theorem stack_tr {as rest : List Value} (hst : st = as.reverse ++ rest) : st.map (tr ad) = (as.map (tr ad)).reverse ++ rest.map (tr ad) := by
  rw [hst, List.map_append, List.map_reverse]
set_option maxHeartbeats 4000000 in
/-- a call of a method that returns -/
theorem snd_call {ins : Instr} {n r f d' pc1 : Nat} {as rest st1 : List Value} {h1 : Hp} {v : Option Value} (ih : SndW D cs ad xs L B0 l f) (hc : mCd mi pc = some (ins, n, r)) (hi : isC ins = 1) (hca : cargs ins r st = some (as, rest)) (hw : wrp r = none) (hrc : rcv r as = true) (he1 : exec f d' r 0 (ent (mMx r) as) [] h = some (pc1, st1, h1)) (hf : fin r pc1 st1 = some (some v))
    (C : Ctx D cs ad xs L B0 p s m args meth c mi) (hdR : d' + 1 ≤ R.frames) (hlR : 60 * (d' + 1) ≤ R.locals) (hcR : cells + (h1.2.2.1 - h.2.2.1) ≤ R.cells) (hsR : slots + 6 * (h1.2.2.1 - h.2.2.1) ≤ R.slots) (hl : ls.size = mMx mi) (hR : Rep D cs ad xs L h H) (hS : va_S (fun q => B0 ≤ q) s.heap H locs)
    (kk : ∀ (H1 : Heap) (locs1 : List Loc), Rep D cs ad xs L h1 H1 → va_S (fun q => B0 ≤ q) s.heap H1 locs1 → W p l e R s m args below meth c H1 locs1 (cells + (h1.2.2.1 - h.2.2.1)) (slots + 6 * (h1.2.2.1 - h.2.2.1)) Q (F0 m (pc + 3) ls ((v.toList ++ rest).map (tr ad)))) : W p l e R s m args below meth c H locs cells slots Q (F0 m pc ls (st.map (tr ad))) := by
  obtain ⟨hx, hb, hml, hown, hts, hK, hN, hX, hbl, hBs, hZZ⟩ := id C
  obtain ⟨hd0, hlen, hk⟩ := mCd_ok hc
  obtain ⟨c1, c2, c3, c4, c5⟩ := cargs_spec hca
  have hr : r < 205 := by
    cases ins with
    | invokestatic ix =>
      unfold lkOk at hk
      rw [Bool.or_eq_true] at hk
      rcases hk with hk | hk
      · obtain ⟨q, -, hz⟩ := List.any_eq_true.mp hk
        rw [decide_eq_true_eq] at hz
        exact wrp_205 r hz.2.2.2 hw
      · obtain ⟨q, -, hz⟩ := List.any_eq_true.mp hk
        rw [decide_eq_true_eq] at hz
        exact hz.2.2.2
    | invokevirtual ix =>
      obtain ⟨q, -, hz⟩ := List.any_eq_true.mp hk
      rw [decide_eq_true_eq] at hz
      exact hz.2.2.2
    | _ => simp [isC] at hi
  obtain ⟨m1, m2, m3, m4, m5, m6, m7, m8, m9, m10⟩ := mth_parts hr
  have hM := snd_met (ad := ad) ih hr he1 hf c4
  have hroom : (rmD d' (h1.2.2.1 - h.2.2.1)).frames + 1 ≤ R.frames ∧ 8 + (mMx r + 11) + (rmD d' (h1.2.2.1 - h.2.2.1)).locals ≤ R.locals := by
    refine ⟨hdR, ?_⟩
    show 8 + (mMx r + 11) + 60 * d' ≤ R.locals
    omega
  have hrest : (((rest.map (tr ad)).map fun v => v.category)).sum ≤ 8 := by rw [cat_map]; exact c3
  have hkk : ∀ (H1 : Heap) (locs1 : List Loc), Rep D cs ad xs L h1 H1 → va_S (fun q => B0 ≤ q) s.heap H1 locs1 → W p l e R s m args below meth c H1 locs1 (cells + (h1.2.2.1 - h.2.2.1)) (slots + 6 * (h1.2.2.1 - h.2.2.1)) Q (F0 m (pc + 3) ls ((v.map (tr ad)).toList ++ rest.map (tr ad))) := by
    intro H1 locs1 q1 q2
    have := kk H1 locs1 q1 q2
    cases v with
    | none => exact this
    | some v => exact this
  cases ins with
  | invokestatic ix =>
    have hd : decode (mBy mi) pc = .ok (.invokestatic ix, 3) := by rw [hd0, hlen.resolve_left (by simp [ilen])]; rfl
    have hsr : mSt r = true := c1.symm
    have hsta : (Cond.static (mNm r)).before args s = true := by
      rw [hsr] at m2
      exact hts _ m2
    have hn : (as.map (tr ad)).length = mNp r := by
      rw [List.length_map, c2]
      unfold nAr
      rw [if_pos hsr]
    unfold lkOk at hk
    rw [Bool.or_eq_true] at hk
    rcases hk with hk | hk
    · obtain ⟨q, hq, hz⟩ := List.any_eq_true.mp hk
      rw [decide_eq_true_eq] at hz
      obtain ⟨z1, z2, z3, -⟩ := hz
      have hlw := hts _ (atP_mem (List.all_eq_true.mp cLk_ok q hq))
      rw [z1, z2, ← z3] at hlw
      refine callG (va_runS (As := as.map (tr ad)) (rest := rest.map (tr ad)) ⟨hx, hb, hml, hown, hts⟩ hM ⟨callB_of (mNp r) hts (wsM_good hr) rfl rfl rfl (hts _ m4) hlw ⟨m6, m7, m5⟩ hroom, hsta⟩ ⟨PreU_blind, fun U hU hW => ⟨rfl, PreU_of C hR hS hU hW⟩⟩ rfl hn hl (stack_tr c5) (lv_room hrest) hd ⟨hcR, hsR⟩) hS hkk
    · obtain ⟨q, hq, hz⟩ := List.any_eq_true.mp hk
      rw [decide_eq_true_eq] at hz
      obtain ⟨z1, z2, z3, -⟩ := hz
      have hlw := hN _ (List.mem_map.mpr ⟨q, hq, rfl⟩)
      rw [z1, z2, ← z3] at hlw
      refine callG (va_runSN (As := as.map (tr ad)) (rest := rest.map (tr ad)) ⟨hx, hb, hml, hown, hts⟩ hM ⟨va_cnB (mNp r) hts (wsM_good hr) rfl rfl rfl hlw (hts _ m4) ⟨m6, m7, m5⟩ hroom, hsta, trivial⟩ ⟨PreU_blind, fun U hU hW => ⟨rfl, PreU_of C hR hS hU hW⟩⟩ rfl hn hl (stack_tr c5) (lv_room hrest) hd ⟨hcR, hsR⟩) hS hkk
  | invokevirtual ix =>
    have hd : decode (mBy mi) pc = .ok (.invokevirtual ix, 3) := by rw [hd0, hlen.resolve_left (by simp [ilen])]; rfl
    have hsr : mSt r = false := c1.symm
    obtain ⟨q, hq, hz⟩ := List.any_eq_true.mp hk
    rw [decide_eq_true_eq] at hz
    obtain ⟨z1, z2, z3, -⟩ := hz
    have hlw := hts _ (atP_mem (List.all_eq_true.mp cLk_ok q hq))
    rw [z1, z2, ← z3] at hlw
    have hinst : (Cond.instanceMethod (mNm r)).before args s = true := by
      rw [hsr] at m2
      exact hts _ m2
    have hsel : (Cond.selects (mNm r).cls (mNm r) (mNm r)).before args s = true := by
      rcases m3 with z | z
      · rw [hsr] at z; cases z
      · exact hts _ z
    obtain ⟨k1, k2⟩ : clR (mCl r) = (mNm r).cls ∧ mCl r < 9 := by
      rcases m10 with z | z
      · rw [hsr] at z; cases z
      · exact z
    obtain ⟨b, as', rfl, hb9⟩ : ∃ b as', as = .ref b :: as' ∧ shp b = some (0, mCl r) := by
      unfold rcv at hrc
      rw [hsr] at hrc
      split at hrc
      · rename_i b as'
        rw [Bool.false_or, decide_eq_true_eq] at hrc
        exact ⟨b, as', rfl, hrc⟩
      · cases hrc
    have hn : (as'.map (tr ad)).length = mNp r := by
      have : nAr r = mNp r + 1 := by unfold nAr; rw [hsr]; rfl
      rw [List.length_cons, this] at c2
      rw [List.length_map]
      omega
    have hrecv : ∃ cellB : Cell, H[ad b]? = some cellB ∧ cellB.vm.isStatics = false ∧ s.vm.findClass (mNm r).cls = some cellB.cls := by
      have := va_recv hK hR.1 (cls9_at k2) (a := ad b) (q0 := b) (fs := (List.range (fN (mCl r))).map (fv ad h b (mCl r))) (by rw [wsh_get (shp_lt hb9), cellE_obj hb9])
      rw [← k1]
      exact this
    have hst : st.map (tr ad) = (as'.map (tr ad)).reverse ++ .ref (ad b) :: rest.map (tr ad) := by
      rw [stack_tr c5, List.map_cons, List.reverse_cons, List.append_assoc]
      rfl
    refine callG (va_runV (C := (mNm r).cls) (b := ad b) (As := as'.map (tr ad)) (rest := rest.map (tr ad)) ⟨hx, hb, hml, hown, hts⟩ hM ⟨callB_of (mNp r) hts (wsM_good hr) rfl rfl rfl (hts _ m4) hlw ⟨m6, m7, m5⟩ hroom, hinst, hsel⟩ ⟨PreU_blind, hrecv, fun U hU hW => ⟨rfl, PreU_of C hR hS hU hW⟩⟩ rfl hn hl hst (lv_room hrest) hd ⟨hcR, hsR⟩) hS hkk
  | _ => simp [isC] at hi
/-- the wrappers: what is owed of them -/
def SndX (D : va_G) (cs : Nat → ClassId) (ad : Nat → Nat) (xs : Nat → Int32) (L B0 : Nat) (l : Launch) : Prop :=
  ∀ (f d'' mi pc n r tg : Nat) (ins : Instr) (lv : LV) (st as rest : List Value) (h : Hp) (o pc1 : Nat) (st1 : List Value) (h1 h2 : Hp) (x : Int32), SndW D cs ad xs L B0 l f → mCd mi pc = some (ins, n, r) → isC ins = 1 → cargs ins r st = some (as, rest) → wrp r = some tg → wOut as = some o → rcv tg as.dropLast = true → 6 ≤ d'' → exec f d'' tg 0 (ent (mMx tg) as.dropLast) [] h = some (pc1, st1, h1) →
  ((∃ v, fin tg pc1 st1 = some (some (some v)) ∧ x = 0 ∧ h2 = setL h1 o 0 (toL v)) ∨ (fin tg pc1 st1 = some none ∧ x = 1 ∧ h2 = tick h1)) →
  ∀ (p : Program) (e : Env) (R : Room) (s : State) (m : MethodId) (args : Array Value) (below : List Frame) (meth : Method) (c : Code) (H : Heap) (locs : List Loc) (cells slots : Nat) (Q : State → Prop) (ls : Array Slot),
    Ctx D cs ad xs L B0 p s m args meth c mi → d'' + 1 + 1 ≤ R.frames → 60 * (d'' + 1 + 1) ≤ R.locals → cells + (h2.2.2.1 - h.2.2.1) ≤ R.cells → slots + 6 * (h2.2.2.1 - h.2.2.1) ≤ R.slots → ls.size = mMx mi → Rep D cs ad xs L h H → va_S (fun q => B0 ≤ q) s.heap H locs →
    (∀ (H1 : Heap) (locs1 : List Loc), Rep D cs ad xs L h2 H1 → va_S (fun q => B0 ≤ q) s.heap H1 locs1 → W p l e R s m args below meth c H1 locs1 (cells + (h2.2.2.1 - h.2.2.1)) (slots + 6 * (h2.2.2.1 - h.2.2.1)) Q (F0 m (pc + 3) ls (.int x :: rest.map (tr ad)))) →
    W p l e R s m args below meth c H locs cells slots Q (F0 m pc ls (st.map (tr ad)))
set_option maxHeartbeats 4000000 in
theorem snd_all (hW : WD cs ad B0) (hX : SndX D cs ad xs L B0 l) : ∀ f, SndW D cs ad xs L B0 l f := by
  intro f
  induction f with
  | zero => intro d mi pc lv st h pc' st' h' he; simp [exec] at he
  | succ f ih =>
    intro d mi pc lv st h pc' st' h' he
    unfold exec at he
    split at he
    · cases he
    · rename_i ins n r hc
      obtain ⟨hd0, hlen, hk⟩ := mCd_ok hc
      split at he
      · split at he
        · cases he
        · rename_i pc1 lv1 st1 h1 hs
          have ht := stp_t hs
          have e1 : h1.2.2.1 = h.2.2.1 := by rw [ht]
          obtain ⟨hle, hw⟩ := ih _ _ _ _ _ _ _ _ _ he
          rw [e1] at hle hw
          refine ⟨hle, ?_⟩
          intro p e R s m args below meth c H locs cells slots Q ls C hdR hlR hcR hsR hl hR hS kk
          exact snd_stp C hW hd0 hlen hk hs hl hR hS (fun H1 locs1 ls1 q1 q2 q3 => hw p e R s m args below meth c H1 locs1 cells slots Q ls1 C hdR hlR hcR hsR q1 q2 q3 kk)
      · rename_i hi
        split at he
        · cases he
        · rename_i d'
          split at he
          · cases he
          · rename_i as rest hca
            split at he
            · rename_i hwr
              split at he
              · rename_i hrc
                split at he
                · cases he
                · rename_i pc1 st1 h1 he1
                  split at he
                  · rename_i v hf
                    obtain ⟨hle1, -⟩ := ih _ _ _ _ _ _ _ _ _ he1
                    obtain ⟨hle2, hw⟩ := ih _ _ _ _ _ _ _ _ _ he
                    refine ⟨Nat.le_trans hle1 hle2, ?_⟩
                    intro p e R s m args below meth c H locs cells slots Q ls C hdR hlR hcR hsR hl hR hS kk
                    refine snd_call ih hc hi hca hwr hrc he1 hf C hdR hlR (by omega) (by omega) hl.2.1 hR hS (fun H1 locs1 q1 q2 => ?_)
                    refine hw p e R s m args below meth c H1 locs1 _ _ Q ls C hdR hlR (by omega) (by omega) hl q1 q2 (fun H2 locs2 ls2 w1 w2 w3 => ?_)
                    have k1 := kk H2 locs2 ls2 w1 w2 w3
                    rw [show cells + (h1.2.2.1 - h.2.2.1) + (h'.2.2.1 - h1.2.2.1) = cells + (h'.2.2.1 - h.2.2.1) by omega, show slots + 6 * (h1.2.2.1 - h.2.2.1) + 6 * (h'.2.2.1 - h1.2.2.1) = slots + 6 * (h'.2.2.1 - h.2.2.1) by omega]
                    exact k1
                  · cases he
              · cases he
            · rename_i tg hwr
              split at he
              · cases he
              · rename_i d''
                split at he
                · cases he
                · rename_i o ho
                  split at he
                  · rename_i hrc
                    split at he
                    · cases he
                    · rename_i pc1 st1 h1 he1
                      obtain ⟨hle1, -⟩ := ih _ _ _ _ _ _ _ _ _ he1
                      split at he
                      · rename_i v hf
                        obtain ⟨hle2, hw⟩ := ih _ _ _ _ _ _ _ _ _ he
                        have et : (setL h1 o 0 (toL v)).2.2.1 = h1.2.2.1 := rfl
                        refine ⟨Nat.le_trans hle1 (by rw [← et]; exact hle2), ?_⟩
                        intro p e R s m args below meth c H locs cells slots Q ls C hdR hlR hcR hsR hl hR hS kk
                        refine hX f d'' mi pc n r tg ins lv st as rest h o pc1 st1 h1 (setL h1 o 0 (toL v)) 0 ih hc hi hca hwr ho hrc.1 hrc.2 he1 (Or.inl ⟨v, hf, rfl, rfl⟩) p e R s m args below meth c H locs cells slots Q ls C hdR hlR (by rw [et]; rw [et] at hle2; omega) (by rw [et]; rw [et] at hle2; omega) hl.2.1 hR hS (fun H1 locs1 q1 q2 => ?_)
                        refine hw p e R s m args below meth c H1 locs1 _ _ Q ls C hdR hlR (by rw [et]; rw [et] at hle2; omega) (by rw [et]; rw [et] at hle2; omega) hl q1 q2 (fun H2 locs2 ls2 w1 w2 w3 => ?_)
                        have k1 := kk H2 locs2 ls2 w1 w2 w3
                        rw [et] at hle2 ⊢
                        rw [show cells + (h1.2.2.1 - h.2.2.1) + (h'.2.2.1 - h1.2.2.1) = cells + (h'.2.2.1 - h.2.2.1) by omega, show slots + 6 * (h1.2.2.1 - h.2.2.1) + 6 * (h'.2.2.1 - h1.2.2.1) = slots + 6 * (h'.2.2.1 - h.2.2.1) by omega]
                        exact k1
                      · rename_i hf
                        obtain ⟨hle2, hw⟩ := ih _ _ _ _ _ _ _ _ _ he
                        have et : (tick h1).2.2.1 = h1.2.2.1 + 1 := rfl
                        refine ⟨Nat.le_trans hle1 (by rw [et] at hle2; omega), ?_⟩
                        intro p e R s m args below meth c H locs cells slots Q ls C hdR hlR hcR hsR hl hR hS kk
                        refine hX f d'' mi pc n r tg ins lv st as rest h o pc1 st1 h1 (tick h1) 1 ih hc hi hca hwr ho hrc.1 hrc.2 he1 (Or.inr ⟨hf, rfl, rfl⟩) p e R s m args below meth c H locs cells slots Q ls C hdR hlR (by rw [et]; rw [et] at hle2; omega) (by rw [et]; rw [et] at hle2; omega) hl.2.1 hR hS (fun H1 locs1 q1 q2 => ?_)
                        refine hw p e R s m args below meth c H1 locs1 _ _ Q ls C hdR hlR (by rw [et]; rw [et] at hle2; omega) (by rw [et]; rw [et] at hle2; omega) hl q1 q2 (fun H2 locs2 ls2 w1 w2 w3 => ?_)
                        have k1 := kk H2 locs2 ls2 w1 w2 w3
                        rw [et] at hle2 ⊢
                        rw [show cells + (h1.2.2.1 + 1 - h.2.2.1) + (h'.2.2.1 - (h1.2.2.1 + 1)) = cells + (h'.2.2.1 - h.2.2.1) by omega, show slots + 6 * (h1.2.2.1 + 1 - h.2.2.1) + 6 * (h'.2.2.1 - (h1.2.2.1 + 1)) = slots + 6 * (h'.2.2.1 - h.2.2.1) by omega]
                        exact k1
                      · cases he
                  · cases he
      · cases he
        refine ⟨Nat.le_refl _, ?_⟩
        intro p e R s m args below meth c H locs cells slots Q ls C hdR hlR hcR hsR hl hR hS kk
        have k1 := kk H locs ls hl.2.1 hR hS
        rw [Nat.sub_self] at k1
        exact k1
end
