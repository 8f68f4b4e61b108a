/-! The wrappers called. -/
theorem fin_int {i pc : Nat} {st : List Value} {v : Value} (h : mRt i = some .int) (hf : fin i pc st = some (some (some v))) : ∃ x, v = .int x := by
  unfold fin at hf
  rw [h] at hf
  split at hf
  · split at hf
    · cases hf; exact ⟨_, rfl⟩
    · cases hf
  · split at hf
    · cases hf
    · cases hf
  · split at hf
    · cases hf
    · cases hf
  · split at hf <;> cases hf
  · cases hf
theorem fin_long {i pc : Nat} {st : List Value} {v : Value} (h : mRt i = some .long) (hf : fin i pc st = some (some (some v))) : ∃ x, v = .long x := by
  unfold fin at hf
  rw [h] at hf
  split at hf
  · split at hf
    · cases hf
    · cases hf
  · split at hf
    · cases hf; exact ⟨_, rfl⟩
    · cases hf
  · split at hf
    · cases hf
    · cases hf
  · split at hf <;> cases hf
  · cases hf
theorem shp_o41 : ∀ k, k < 109 → shp k = some (4, 1) → k = 108 := by decide +kernel
theorem shp_r07 : ∀ k, k < 109 → shp k = some (0, 7) → k = 0 := by decide +kernel
theorem wOut_spec {as : List Value} {o tg : Nat} (h : wOut as = some o) (hr : rcv tg as.dropLast = true) (h1 : mSt tg = false) (h2 : mCl tg = 7) : o = 108 ∧ ∃ is : List Value, as = .ref 0 :: is ++ [.ref 108] ∧ is.all isIv = true := by
  unfold wOut at h
  split at h
  · rename_i o' hl
    split at h
    · rename_i hc
      cases h
      rw [Bool.and_eq_true, decide_eq_true_eq] at hc
      have ho := shp_o41 _ (shp_lt hc.1) hc.1
      subst ho
      have e1 : as.dropLast ++ [.ref 108] = as := by
        obtain ⟨ys, e⟩ := List.getLast?_eq_some_iff.mp hl
        rw [e, List.dropLast_concat]
      unfold rcv at hr
      split at hr
      · rename_i b is hd
        rw [h1, h2, Bool.false_or, decide_eq_true_eq] at hr
        have hb := shp_r07 _ (shp_lt hr) hr
        subst hb
        refine ⟨rfl, is, ?_, ?_⟩
        · rw [← e1, hd]
        · have := hc.2
          rw [hd] at this
          exact this
      · rw [h1] at hr; cases hr
    · cases h
  · cases h
theorem iv1 {is : List Value} (h : is.all isIv = true) (hn : is.length = 1) : ∃ x, is = [.int x] := by
  match is, hn, h with
  | [a], _, h =>
    cases a with
    | int x => exact ⟨x, rfl⟩
    | _ => cases h
theorem iv2 {is : List Value} (h : is.all isIv = true) (hn : is.length = 2) : ∃ x y, is = [.int x, .int y] := by
  match is, hn, h with
  | a :: is, hn, h =>
    rw [List.all_cons, Bool.and_eq_true] at h
    obtain ⟨y, rfl⟩ := iv1 h.2 (by simpa using hn)
    cases a with
    | int x => exact ⟨x, y, rfl⟩
    | _ => cases h.1
theorem iv3 {is : List Value} (h : is.all isIv = true) (hn : is.length = 3) : ∃ x y z, is = [.int x, .int y, .int z] := by
  match is, hn, h with
  | a :: is, hn, h =>
    rw [List.all_cons, Bool.and_eq_true] at h
    obtain ⟨y, z, rfl⟩ := iv2 h.2 (by simpa using hn)
    cases a with
    | int x => exact ⟨x, y, z, rfl⟩
    | _ => cases h.1
theorem wrp_ok : (List.range 215).all (fun r => match wrp r with
  | some tg => decide ((r, tg) ∈ [(205, 58), (206, 59), (207, 60), (208, 62), (209, 63), (210, 68), (211, 69), (212, 70), (213, 72)])
  | none => true) = true := by decide +kernel
theorem wrp_len : wrL.length = 215 := by decide +kernel
theorem wrp_at {r tg : Nat} (h : wrp r = some tg) : (r, tg) ∈ [(205, 58), (206, 59), (207, 60), (208, 62), (209, 63), (210, 68), (211, 69), (212, 70), (213, 72)] := by
  have hr : r < 215 := by
    rcases Nat.lt_or_ge r 215 with z | z
    · exact z
    · unfold wrp at h
      rw [List.getD_eq_getElem?_getD, List.getElem?_eq_none (by rw [wrp_len]; exact z)] at h
      cases h
  have := List.all_eq_true.mp wrp_ok r (List.mem_range.mpr hr)
  rw [h] at this
  exact of_decide_eq_true this
section
variable {D : va_G} {cs : Nat → ClassId} {ad : Nat → Nat} {xs : Nat → Int32} {L B0 : Nat}
variable {p : Program} {l : Launch} {e : Env} {R : Room} {s : State} {m : MethodId} {args : Array Value} {below : List Frame} {meth : Method} {c : Code} {H : Heap} {locs : List Loc} {cells slots : Nat} {Q : State → Prop} {mi pc : Nat} {ls : Array Slot} {lv : LV} {st : List Value} {h : Hp}
set_option maxHeartbeats 4000000 in
theorem snd_wrap {r tg pcC ix pE eH hpc k aN n d kc : Nat} {pre post : List (Nat × Instr × Nat)} {ins : Instr} {as rest : List Value} {h2 : Hp} {x : Int32} (P : WrP r tg pcC ix pE eH hpc k aN pre post) (hr5 : 205 ≤ r) (hM : Met l (mNm r) (wcW r eH hpc :: TS) (rmD (d + 1) kc) (va_Pc (as.map (tr ad)) (PreU D cs ad xs L B0 h)) (QcM D cs ad xs L B0 h2 (some (.int x))) kc (6 * kc) (fun q => B0 ≤ q))
    (hc : mCd mi pc = some (ins, n, r)) (hi : isC ins = 1) (hca : cargs ins r st = some (as, rest)) (C : Ctx D cs ad xs L B0 p s m args meth c mi) (hdR : d + 1 + 1 ≤ R.frames) (hlR : 60 * (d + 1 + 1) ≤ R.locals) (hcR : cells + kc ≤ R.cells) (hsR : slots + 6 * kc ≤ R.slots) (hl : ls.size = mMx mi) (hR : Rep D cs ad xs L h H) (hS : va_S (fun q => B0 ≤ q) s.heap H locs)
    (kk : ∀ (H1 : Heap) (locs1 : List Loc), Rep D cs ad xs L h2 H1 → va_S (fun q => B0 ≤ q) s.heap H1 locs1 → W p l e R s m args below meth c H1 locs1 (cells + kc) (slots + 6 * kc) Q (F0 m (pc + 3) ls (.int x :: rest.map (tr ad)))) : W p l e R s m args below meth c H locs cells slots Q (F0 m pc ls (st.map (tr ad))) := by
  obtain ⟨hx, hb, hml, hown, hts, hK, hN, hX, hbl, hBs, hZZ⟩ := id C
  obtain ⟨hd0, hlen, hk⟩ := mCd_ok hc
  obtain ⟨c1, c2, c3, c4, c5⟩ := cargs_spec hca
  rw [P.str] at c1
  cases ins with
  | invokestatic jx =>
    have hd : decode (mBy mi) pc = .ok (.invokestatic jx, 3) := by rw [hd0, hlen.resolve_left (by simp [ilen])]; rfl
    have hn : (as.map (tr ad)).length = mNp r := by
      rw [List.length_map, c2]
      unfold nAr
      rw [if_pos P.str]
    unfold lkOk at hk
    rw [Bool.or_eq_true] at hk
    rcases hk with hk | hk
    · obtain ⟨q, hq, hz⟩ := List.any_eq_true.mp hk
      rw [decide_eq_true_eq] at hz
      obtain ⟨z1, z2, z3, -⟩ := hz
      have hlw := hts _ (atP_mem (List.all_eq_true.mp cLk_ok q hq))
      rw [z1, z2, ← z3] at hlw
      have hG : GoodIn TS (wcW r eH hpc :: TS) := fun w hw => by
        rcases List.mem_cons.mp hw with rfl | hw
        · exact ⟨P.cw, good_of_word rfl⟩
        · exact ⟨hw, good_of_word (List.mem_filter.mp hw).2⟩
      have hrest : (((rest.map (tr ad)).map fun v => v.category)).sum ≤ 8 := by rw [cat_map]; exact c3
      have hroom : 8 + (mMx r + 11) + (rmD (d + 1) kc).locals ≤ R.locals := by
        have := P.mx
        show 8 + (mMx r + 11) + 60 * (d + 1) ≤ R.locals
        omega
      have cw : vx_CSW R s args (mNm mi).cls jx (mNm r) (mBy r) (mMx r) (some .int) [(0, eH, hpc, 13)] (wcW r eH hpc :: TS) (rmD (d + 1) kc) kc (6 * kc) (mNp r) := by
        refine ⟨⟨rfl, rfl, hdR, hroom, pay_in hts hG, List.mem_cons_self⟩, hts _ P.cw, (by rw [P.own]; exact hts _ P.ini), ⟨by rw [P.own]; decide, by rw [P.own]; decide⟩, fun sig hsg => ?_, hlw, hts _ P.sta⟩
        have h2 := P.prs
        rw [hsg] at h2
        exact (Option.some.inj h2).symm
      exact callG (v := some (.int x)) (vx_runSW (As := as.map (tr ad)) (rest := rest.map (tr ad)) ⟨hx, hb, hml, hown, hts⟩ hM cw ⟨PreU_blind, fun U hU hW => ⟨rfl, PreU_of C hR hS hU hW⟩⟩ rfl hn hl (stack_tr c5) (lv_room hrest) hd ⟨hcR, hsR⟩) hS kk
    · obtain ⟨q, hq, hz⟩ := List.any_eq_true.mp hk
      rw [decide_eq_true_eq] at hz
      exact absurd hz.2.2.2 (by omega)
  | invokevirtual jx => cases c1
  | _ => simp [isC] at hi
end

set_option maxRecDepth 20000 in
theorem wr_205 : WrP 205 58 5 7 18 10 13 4 2 [(0, .aload_n 3, 1), (1, .iconst 0, 1), (2, .aload_n 0, 1), (3, .iload_n 1, 1), (4, .iload_n 2, 1)] [(8, .i2l, 1), (9, .lastore, 1), (10, .goto 7, 3), (17, .iconst 0, 1)] := WrP_of (by decide +kernel)
set_option maxRecDepth 20000 in
theorem wr_206 : WrP 206 59 5 15 18 10 13 4 2 [(0, .aload_n 3, 1), (1, .iconst 0, 1), (2, .aload_n 0, 1), (3, .iload_n 1, 1), (4, .iload_n 2, 1)] [(8, .i2l, 1), (9, .lastore, 1), (10, .goto 7, 3), (17, .iconst 0, 1)] := WrP_of (by decide +kernel)
set_option maxRecDepth 20000 in
theorem wr_207 : WrP 207 60 5 18 17 9 12 4 2 [(0, .aload_n 3, 1), (1, .iconst 0, 1), (2, .aload_n 0, 1), (3, .iload_n 1, 1), (4, .iload_n 2, 1)] [(8, .lastore, 1), (9, .goto 7, 3), (16, .iconst 0, 1)] := WrP_of (by decide +kernel)
set_option maxRecDepth 20000 in
theorem wr_208 : WrP 208 62 5 22 17 9 12 4 2 [(0, .aload_n 3, 1), (1, .iconst 0, 1), (2, .aload_n 0, 1), (3, .iload_n 1, 1), (4, .iload_n 2, 1)] [(8, .lastore, 1), (9, .goto 7, 3), (16, .iconst 0, 1)] := WrP_of (by decide +kernel)
set_option maxRecDepth 20000 in
theorem wr_209 : WrP 209 63 4 25 15 8 11 3 1 [(0, .aload_n 2, 1), (1, .iconst 0, 1), (2, .aload_n 0, 1), (3, .iload_n 1, 1)] [(7, .lastore, 1), (8, .goto 6, 3), (14, .iconst 0, 1)] := WrP_of (by decide +kernel)
set_option maxRecDepth 20000 in
theorem wr_210 : WrP 210 68 5 29 17 9 12 4 2 [(0, .aload_n 3, 1), (1, .iconst 0, 1), (2, .aload_n 0, 1), (3, .iload_n 1, 1), (4, .iload_n 2, 1)] [(8, .lastore, 1), (9, .goto 7, 3), (16, .iconst 0, 1)] := WrP_of (by decide +kernel)
set_option maxRecDepth 20000 in
theorem wr_211 : WrP 211 69 5 32 17 9 12 4 2 [(0, .aload_n 3, 1), (1, .iconst 0, 1), (2, .aload_n 0, 1), (3, .iload_n 1, 1), (4, .iload_n 2, 1)] [(8, .lastore, 1), (9, .goto 7, 3), (16, .iconst 0, 1)] := WrP_of (by decide +kernel)
set_option maxRecDepth 20000 in
theorem wr_212 : WrP 212 70 5 35 17 9 12 4 2 [(0, .aload_n 3, 1), (1, .iconst 0, 1), (2, .aload_n 0, 1), (3, .iload_n 1, 1), (4, .iload_n 2, 1)] [(8, .lastore, 1), (9, .goto 7, 3), (16, .iconst 0, 1)] := WrP_of (by decide +kernel)
set_option maxRecDepth 20000 in
theorem wr_213 : WrP 213 72 7 38 19 11 14 5 2 [(0, .aload 4, 2), (2, .iconst 0, 1), (3, .aload_n 0, 1), (4, .iload_n 1, 1), (5, .iload_n 2, 1), (6, .iload_n 3, 1)] [(10, .lastore, 1), (11, .goto 7, 3), (18, .iconst 0, 1)] := WrP_of (by decide +kernel)
theorem ra_p {x y : Int32} {h : Hp} : runW [(0, .aload_n 3, 1), (1, .iconst 0, 1), (2, .aload_n 0, 1), (3, .iload_n 1, 1), (4, .iload_n 2, 1)] 0 (ent 5 [.ref 0, .int x, .int y, .ref 108]) [] h = some (5, ent 5 [.ref 0, .int x, .int y, .ref 108], [.int y, .int x, .ref 0, .int 0, .ref 108], h) := by rfl
theorem rb_p {lv : LV} {v : Int32} {h : Hp} : runW [(8, .i2l, 1), (9, .lastore, 1), (10, .goto 7, 3), (17, .iconst 0, 1)] (5 + 3) lv [.int v, .int 0, .ref 108] h = some (18, lv, [.int 0], setL h 108 0 (toL (.int v))) := by rfl
theorem rb_h {lv : LV} {v : Int64} {h : Hp} : runW [(8, .lastore, 1), (9, .goto 7, 3), (16, .iconst 0, 1)] (5 + 3) lv [.long v, .int 0, .ref 108] h = some (17, lv, [.int 0], setL h 108 0 (toL (.long v))) := by rfl
theorem ra_s {x : Int32} {h : Hp} : runW [(0, .aload_n 2, 1), (1, .iconst 0, 1), (2, .aload_n 0, 1), (3, .iload_n 1, 1)] 0 (ent 4 [.ref 0, .int x, .ref 108]) [] h = some (4, ent 4 [.ref 0, .int x, .ref 108], [.int x, .ref 0, .int 0, .ref 108], h) := by rfl
theorem rb_s {lv : LV} {v : Int64} {h : Hp} : runW [(7, .lastore, 1), (8, .goto 6, 3), (14, .iconst 0, 1)] (4 + 3) lv [.long v, .int 0, .ref 108] h = some (15, lv, [.int 0], setL h 108 0 (toL (.long v))) := by rfl
theorem ra_d {x y z : Int32} {h : Hp} : runW [(0, .aload 4, 2), (2, .iconst 0, 1), (3, .aload_n 0, 1), (4, .iload_n 1, 1), (5, .iload_n 2, 1), (6, .iload_n 3, 1)] 0 (ent 6 [.ref 0, .int x, .int y, .int z, .ref 108]) [] h = some (7, ent 6 [.ref 0, .int x, .int y, .int z, .ref 108], [.int z, .int y, .int x, .ref 0, .int 0, .ref 108], h) := by rfl
theorem rb_d {lv : LV} {v : Int64} {h : Hp} : runW [(10, .lastore, 1), (11, .goto 7, 3), (18, .iconst 0, 1)] (7 + 3) lv [.long v, .int 0, .ref 108] h = some (19, lv, [.int 0], setL h 108 0 (toL (.long v))) := by rfl
