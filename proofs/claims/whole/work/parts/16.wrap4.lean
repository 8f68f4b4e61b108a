/-! The nine wrappers: all. -/
section
variable {D : va_G} {cs : Nat → ClassId} {ad : Nat → Nat} {xs : Nat → Int32} {L B0 : Nat} {l : Launch}
set_option maxHeartbeats 4000000 in
theorem snd_one (hl0 : l.stackTraces = false) (hW : WD cs ad B0) {r tg pcC ix pE eH hpc k aN : Nat} {pre post : List (Nat × Instr × Nat)} {is : List Value} (P : WrP r tg pcC ix pE eH hpc k aN pre post) (hr5 : 205 ≤ r) (hn0 : is.length = mNp tg) (hle : ((.ref 0 :: is ++ [.ref 108] : List Value).map (fun v => v.category)).sum ≤ mMx r) (hlt : ((.ref 0 :: is : List Value).map (fun v => v.category)).sum ≤ mMx tg) {lv1 : LV}
    (hr1 : ∀ h, runW pre 0 (ent (mMx r) (.ref 0 :: is ++ [.ref 108])) [] h = some (pcC, lv1, is.reverse ++ [.ref 0, .int 0, .ref 108], h)) (hr2 : ∀ (pc : Nat) (st : List Value) (v : Value) (h : Hp), fin tg pc st = some (some (some v)) → tr ad v = v ∧ runW post (pcC + 3) lv1 [v, .int 0, .ref 108] h = some (pE, lv1, [.int 0], setL h 108 0 (toL v)))
    {f d'' mi pc n : Nat} {ins : Instr} {st rest : List Value} {h : Hp} {pc1 : Nat} {st1 : List Value} {h1 h2 : Hp} {x : Int32} (hS : SndW D cs ad xs L B0 l f) (hc : mCd mi pc = some (ins, n, r)) (hi : isC ins = 1) (hca : cargs ins r st = some (.ref 0 :: is ++ [.ref 108], rest)) (hd6 : 6 ≤ d'') (he : exec f d'' tg 0 (ent (mMx tg) (.ref 0 :: is)) [] h = some (pc1, st1, h1))
    (hres : (∃ v, fin tg pc1 st1 = some (some (some v)) ∧ x = 0 ∧ h2 = setL h1 108 0 (toL v)) ∨ (fin tg pc1 st1 = some none ∧ x = 1 ∧ h2 = tick h1))
    {p : Program} {e : Env} {R : Room} {s : State} {m : MethodId} {args : Array Value} {below : List Frame} {meth : Method} {c : Code} {H : Heap} {locs : List Loc} {cells slots : Nat} {Q : State → Prop} {ls : Array Slot} (C : Ctx D cs ad xs L B0 p s m args meth c mi) (hdR : d'' + 1 + 1 ≤ R.frames) (hlR : 60 * (d'' + 1 + 1) ≤ R.locals) (hcR : cells + (h2.2.2.1 - h.2.2.1) ≤ R.cells) (hsR : slots + 6 * (h2.2.2.1 - h.2.2.1) ≤ R.slots) (hl : ls.size = mMx mi) (hR : Rep D cs ad xs L h H) (hSS : va_S (fun q => B0 ≤ q) s.heap H locs)
    (kk : ∀ (H1 : Heap) (locs1 : List Loc), Rep D cs ad xs L h2 H1 → va_S (fun q => B0 ≤ q) s.heap H1 locs1 → W p l e R s m args below meth c H1 locs1 (cells + (h2.2.2.1 - h.2.2.1)) (slots + 6 * (h2.2.2.1 - h.2.2.1)) Q (F0 m (pc + 3) ls (.int x :: rest.map (tr ad)))) : W p l e R s m args below meth c H locs cells slots Q (F0 m pc ls (st.map (tr ad))) := by
  have hle1 := (hS _ _ _ _ _ _ _ _ _ he).1
  rcases hres with ⟨v, hf, rfl, rfl⟩ | ⟨hf, rfl, rfl⟩
  · obtain ⟨t1, t2⟩ := hr2 _ _ _ h1 hf
    have et : (setL h1 108 0 (toL v)).2.2.1 = h1.2.2.1 := rfl
    rw [et] at hcR hsR kk
    exact snd_wrap P hr5 (wrap_ret hW P hS (by decide) hn0 hle hlt (hr1 h) t2 he hf t1) hc hi hca C hdR hlR hcR hsR hl hR hSS kk
  · have et : (tick h1).2.2.1 - h.2.2.1 = h1.2.2.1 - h.2.2.1 + 1 := by
      show h1.2.2.1 + 1 - h.2.2.1 = _
      omega
    rw [et] at hcR hsR kk
    exact snd_wrap P hr5 (wrap_thr hl0 hW P hS (by decide) hn0 hle hlt (hr1 h) hd6 he hf) hc hi hca C hdR hlR hcR hsR hl hR hSS kk
theorem nAr_w {r : Nat} (P : mSt r = true) : nAr r = mNp r := by
  unfold nAr
  rw [if_pos P]
set_option maxHeartbeats 8000000 in
theorem SndX_ok (hl0 : l.stackTraces = false) (hW : WD cs ad B0) : SndX D cs ad xs L B0 l := by
  intro f d'' mi pc n r tg ins lv st as rest h o pc1 st1 h1 h2 x hS hc hi hca hwr ho hrc hd6 he hres p e R s m args below meth c H locs cells slots Q ls C hdR hlR hcR hsR hl hR hSS kk
  have hm := wrp_at hwr
  have hlen := (cargs_spec hca).2.1
  simp only [List.mem_cons, Prod.mk.injEq, List.not_mem_nil, or_false] at hm
  rcases hm with ⟨rfl, rfl⟩ | ⟨rfl, rfl⟩ | ⟨rfl, rfl⟩ | ⟨rfl, rfl⟩ | ⟨rfl, rfl⟩ | ⟨rfl, rfl⟩ | ⟨rfl, rfl⟩ | ⟨rfl, rfl⟩ | ⟨rfl, rfl⟩
  all_goals
    obtain ⟨rfl, is, rfl, hiv⟩ := wOut_spec ho hrc (by decide) (by decide)
    rw [List.dropLast_concat] at he
    rw [List.length_append, List.length_cons] at hlen
  · have e0 : nAr 205 = 4 := by decide
    rw [e0] at hlen
    obtain ⟨x1, y1, rfl⟩ := iv2 hiv (by have : is.length + 1 + 1 = 4 := hlen; omega)
    exact snd_one (is := [.int x1, .int y1]) (lv1 := ent 5 [.ref 0, .int x1, .int y1, .ref 108]) hl0 hW wr_205 (by decide) (show 2 = mNp 58 by decide) (show 4 ≤ mMx 205 by decide) (show 3 ≤ mMx 58 by decide) (fun h => ra_p) (fun pc st v h hf => by obtain ⟨y9, rfl⟩ := fin_int (show mRt 58 = some .int by decide) hf; exact ⟨rfl, rb_p⟩) hS hc hi hca hd6 he hres C hdR hlR hcR hsR hl hR hSS kk
  · have e0 : nAr 206 = 4 := by decide
    rw [e0] at hlen
    obtain ⟨x1, y1, rfl⟩ := iv2 hiv (by have : is.length + 1 + 1 = 4 := hlen; omega)
    exact snd_one (is := [.int x1, .int y1]) (lv1 := ent 5 [.ref 0, .int x1, .int y1, .ref 108]) hl0 hW wr_206 (by decide) (show 2 = mNp 59 by decide) (show 4 ≤ mMx 206 by decide) (show 3 ≤ mMx 59 by decide) (fun h => ra_p) (fun pc st v h hf => by obtain ⟨y9, rfl⟩ := fin_int (show mRt 59 = some .int by decide) hf; exact ⟨rfl, rb_p⟩) hS hc hi hca hd6 he hres C hdR hlR hcR hsR hl hR hSS kk
  · have e0 : nAr 207 = 4 := by decide
    rw [e0] at hlen
    obtain ⟨x1, y1, rfl⟩ := iv2 hiv (by have : is.length + 1 + 1 = 4 := hlen; omega)
    exact snd_one (is := [.int x1, .int y1]) (lv1 := ent 5 [.ref 0, .int x1, .int y1, .ref 108]) hl0 hW wr_207 (by decide) (show 2 = mNp 60 by decide) (show 4 ≤ mMx 207 by decide) (show 3 ≤ mMx 60 by decide) (fun h => ra_p) (fun pc st v h hf => by obtain ⟨y9, rfl⟩ := fin_long (show mRt 60 = some .long by decide) hf; exact ⟨rfl, rb_h⟩) hS hc hi hca hd6 he hres C hdR hlR hcR hsR hl hR hSS kk
  · have e0 : nAr 208 = 4 := by decide
    rw [e0] at hlen
    obtain ⟨x1, y1, rfl⟩ := iv2 hiv (by have : is.length + 1 + 1 = 4 := hlen; omega)
    exact snd_one (is := [.int x1, .int y1]) (lv1 := ent 5 [.ref 0, .int x1, .int y1, .ref 108]) hl0 hW wr_208 (by decide) (show 2 = mNp 62 by decide) (show 4 ≤ mMx 208 by decide) (show 3 ≤ mMx 62 by decide) (fun h => ra_p) (fun pc st v h hf => by obtain ⟨y9, rfl⟩ := fin_long (show mRt 62 = some .long by decide) hf; exact ⟨rfl, rb_h⟩) hS hc hi hca hd6 he hres C hdR hlR hcR hsR hl hR hSS kk
  · have e0 : nAr 209 = 3 := by decide
    rw [e0] at hlen
    obtain ⟨x1, rfl⟩ := iv1 hiv (by have : is.length + 1 + 1 = 3 := hlen; omega)
    exact snd_one (is := [.int x1]) (lv1 := ent 4 [.ref 0, .int x1, .ref 108]) hl0 hW wr_209 (by decide) (show 1 = mNp 63 by decide) (show 3 ≤ mMx 209 by decide) (show 2 ≤ mMx 63 by decide) (fun h => ra_s) (fun pc st v h hf => by obtain ⟨y9, rfl⟩ := fin_long (show mRt 63 = some .long by decide) hf; exact ⟨rfl, rb_s⟩) hS hc hi hca hd6 he hres C hdR hlR hcR hsR hl hR hSS kk
  · have e0 : nAr 210 = 4 := by decide
    rw [e0] at hlen
    obtain ⟨x1, y1, rfl⟩ := iv2 hiv (by have : is.length + 1 + 1 = 4 := hlen; omega)
    exact snd_one (is := [.int x1, .int y1]) (lv1 := ent 5 [.ref 0, .int x1, .int y1, .ref 108]) hl0 hW wr_210 (by decide) (show 2 = mNp 68 by decide) (show 4 ≤ mMx 210 by decide) (show 3 ≤ mMx 68 by decide) (fun h => ra_p) (fun pc st v h hf => by obtain ⟨y9, rfl⟩ := fin_long (show mRt 68 = some .long by decide) hf; exact ⟨rfl, rb_h⟩) hS hc hi hca hd6 he hres C hdR hlR hcR hsR hl hR hSS kk
  · have e0 : nAr 211 = 4 := by decide
    rw [e0] at hlen
    obtain ⟨x1, y1, rfl⟩ := iv2 hiv (by have : is.length + 1 + 1 = 4 := hlen; omega)
    exact snd_one (is := [.int x1, .int y1]) (lv1 := ent 5 [.ref 0, .int x1, .int y1, .ref 108]) hl0 hW wr_211 (by decide) (show 2 = mNp 69 by decide) (show 4 ≤ mMx 211 by decide) (show 3 ≤ mMx 69 by decide) (fun h => ra_p) (fun pc st v h hf => by obtain ⟨y9, rfl⟩ := fin_long (show mRt 69 = some .long by decide) hf; exact ⟨rfl, rb_h⟩) hS hc hi hca hd6 he hres C hdR hlR hcR hsR hl hR hSS kk
  · have e0 : nAr 212 = 4 := by decide
    rw [e0] at hlen
    obtain ⟨x1, y1, rfl⟩ := iv2 hiv (by have : is.length + 1 + 1 = 4 := hlen; omega)
    exact snd_one (is := [.int x1, .int y1]) (lv1 := ent 5 [.ref 0, .int x1, .int y1, .ref 108]) hl0 hW wr_212 (by decide) (show 2 = mNp 70 by decide) (show 4 ≤ mMx 212 by decide) (show 3 ≤ mMx 70 by decide) (fun h => ra_p) (fun pc st v h hf => by obtain ⟨y9, rfl⟩ := fin_long (show mRt 70 = some .long by decide) hf; exact ⟨rfl, rb_h⟩) hS hc hi hca hd6 he hres C hdR hlR hcR hsR hl hR hSS kk
  · have e0 : nAr 213 = 5 := by decide
    rw [e0] at hlen
    obtain ⟨x1, y1, z1, rfl⟩ := iv3 hiv (by have : is.length + 1 + 1 = 5 := hlen; omega)
    exact snd_one (is := [.int x1, .int y1, .int z1]) (lv1 := ent 6 [.ref 0, .int x1, .int y1, .int z1, .ref 108]) hl0 hW wr_213 (by decide) (show 3 = mNp 72 by decide) (show 5 ≤ mMx 213 by decide) (show 4 ≤ mMx 72 by decide) (fun h => ra_d) (fun pc st v h hf => by obtain ⟨y9, rfl⟩ := fin_long (show mRt 72 = some .long by decide) hf; exact ⟨rfl, rb_d⟩) hS hc hi hca hd6 he hres C hdR hlR hcR hsR hl hR hSS kk
end
