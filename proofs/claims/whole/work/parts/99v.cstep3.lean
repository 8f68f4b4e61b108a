section
variable {D : va_G} {cs : Nat → ClassId} {a0 : Nat → Nat} {B0 : Nat} {SX : State → Heap → Prop}
variable {p : Program} {l : Launch} {e : Env} {R : Room} {s : State} {m : MethodId} {args : Array Value} {below : List Frame} {meth : Method} {c0 : Code} {H : Heap} {locs : List Loc} {cells slots : Nat} {Q : State → Prop} {c pc n a : Nat} {ls : Array Slot} {lv lv' : LV} {st st' : List Value} {w w' : CW} {L : List Nat} {ins : Instr} {pc' : Nat}
theorem okI_len (hi : iCd c pc = some (ins, n, a)) (h : okI2 c ins n a = (decide (ins = .nop) || decide (n = ilen ins))) (hn : ins ≠ .nop) : n = ilen ins := by
  have hw := okI_2 hi
  rw [h, Bool.or_eq_true, decide_eq_true_eq, decide_eq_true_eq] at hw
  exact hw.resolve_left hn
set_option maxHeartbeats 8000000 in
theorem snd_cst (C : CtxC D cs a0 B0 SX p s m args meth c0 c) (hi : iCd c pc = some (ins, n, a)) (hs : cst c ins a pc lv st w = some (pc', lv', st', w')) (hcR : cells + (w'.length - w.length) ≤ R.cells) (hsR : slots + (slS w' - slS w) ≤ R.slots) (hl : LH (am a0 L) ls (iMx c) lv) (hC : CSt D cs a0 B0 L w H) (hS : va_S (fun q => B0 ≤ q) s.heap H locs)
    (kk : ∀ (H1 : Heap) (locs1 : List Loc) (ls1 : Array Slot) (L2 : List Nat), LH (am a0 (L ++ L2)) ls1 (iMx c) lv' → CSt D cs a0 B0 (L ++ L2) w' H1 → va_S (fun q => B0 ≤ q) s.heap H1 locs1 → W p l e R s m args below meth c0 H1 locs1 (cells + (w'.length - w.length)) (slots + (slS w' - slS w)) Q (F0 m pc' ls1 (st'.map (tr (am a0 (L ++ L2)))))) : W p l e R s m args below meth c0 H locs cells slots Q (F0 m pc ls (st.map (tr (am a0 L)))) := by
  obtain ⟨hx, hb, hml, hown, hts, hK, hN, hAO, hAA, hB, hSX, hin, hst⟩ := id C
  have kw : w' = w → ∀ ls1, LH (am a0 L) ls1 (iMx c) lv' → W p l e R s m args below meth c0 H locs cells slots Q (F0 m pc' ls1 (st'.map (tr (am a0 L)))) := by
    intro e ls1 q1
    subst e
    have := kk H locs ls1 [] (by rw [List.append_nil]; exact q1) (by rw [List.append_nil]; exact hC) hS
    rw [Nat.sub_self, Nat.sub_self, List.append_nil] at this
    exact this
  have ks : w'.length = w.length → slS w' = slS w → lv' = lv → ∀ (H1 : Heap) (locs1 : List Loc), CSt D cs a0 B0 L w' H1 → va_S (fun q => B0 ≤ q) s.heap H1 locs1 → W p l e R s m args below meth c0 H1 locs1 cells slots Q (F0 m pc' ls (st'.map (tr (am a0 L)))) := by
    intro e1 e2 e3 H1 locs1 q2 q3
    subst e3
    have := kk H1 locs1 ls [] (by rw [List.append_nil]; exact hl) (by rw [List.append_nil]; exact q2) q3
    rw [e1, e2, Nat.sub_self, Nat.sub_self, List.append_nil] at this
    exact this
  cases ins with
  | iconst k =>
    have hn := okI_len hi rfl (by simp)
    have hd := okI_dec hi (by simp)
    rw [hn] at hd
    simp only [cst] at hs
    cases hs
    exact lv_iconst hx hb hd rfl (kw rfl ls hl)
  | bipush k =>
    have hn := okI_len hi rfl (by simp)
    have hd := okI_dec hi (by simp)
    rw [hn] at hd
    simp only [cst] at hs
    cases hs
    exact lv_bipush hx hb hd rfl (kw rfl ls hl)
  | sipush k =>
    have hn := okI_len hi rfl (by simp)
    have hd := okI_dec hi (by simp)
    rw [hn] at hd
    simp only [cst] at hs
    cases hs
    exact lv_sipush hx hb hd rfl (kw rfl ls hl)
  | lconst k =>
    have hn := okI_len hi rfl (by simp)
    have hd := okI_dec hi (by simp)
    rw [hn] at hd
    simp only [cst] at hs
    cases hs
    exact lv_lconst hx hb hd rfl (kw rfl ls hl)
  | aload_n k =>
    have hn := okI_len hi rfl (by simp)
    have hd := okI_dec hi (by simp)
    rw [hn] at hd
    simp only [cst] at hs
    split at hs
    · rename_i q
      cases hs
      exact lv_aload_n hx hb hd rfl (LH_at hl q) (kw rfl ls hl)
    · cases hs
  | iload_n k =>
    have hn := okI_len hi rfl (by simp)
    have hd := okI_dec hi (by simp)
    rw [hn] at hd
    simp only [cst] at hs
    split at hs
    · rename_i q
      cases hs
      exact lv_iload_n hx hb hd rfl (LH_at hl q) (kw rfl ls hl)
    · cases hs
  | istore_n k =>
    have hn := okI_len hi rfl (by simp)
    have hd := okI_dec hi (by simp)
    rw [hn] at hd
    simp only [cst] at hs
    split at hs
    · split at hs
      · rename_i q
        cases hs
        exact lv_istore_n hx hb hd rfl (LH_has hl) (by rw [← hl.1]; exact q) rfl (fun ls1 q1 => kw rfl ls1 (LH_st1 hl.1 q1))
      · cases hs
    · cases hs
  | astore_n k =>
    have hn := okI_len hi rfl (by simp)
    have hd := okI_dec hi (by simp)
    rw [hn] at hd
    simp only [cst] at hs
    split at hs
    · split at hs
      · rename_i q
        cases hs
        exact lv_astore_n hx hb hd rfl (LH_has hl) (by rw [← hl.1]; exact q) rfl (fun ls1 q1 => kw rfl ls1 (LH_st1 hl.1 q1))
      · cases hs
    · cases hs
  | iinc k z =>
    have hn := okI_len hi rfl (by simp)
    have hd := okI_dec hi (by simp)
    rw [hn] at hd
    simp only [cst] at hs
    split at hs
    · rename_i x q0
      split at hs
      · rename_i q
        cases hs
        obtain ⟨k1, hk1⟩ := List.getElem?_of_mem (asl_mem.mpr ⟨_, ldv_some q0, rfl⟩ : (k, tr (am a0 L) (.int x)) ∈ asl (am a0 L) lv)
        exact lv_iinc hx hb hd (LH_has hl) hk1 rfl (by rw [← hl.1]; exact q) rfl (fun ls1 q1 => kw rfl ls1 (LH_st1 hl.1 q1))
      · cases hs
    · cases hs
  | dup =>
    have hn := okI_len hi rfl (by simp)
    have hd := okI_dec hi (by simp)
    rw [hn] at hd
    simp only [cst] at hs
    split at hs
    · cases hs
      exact lv_dup hx hb hd rfl (kw rfl ls hl)
    · cases hs
  | if_icmp q o =>
    have hn := okI_len hi rfl (by simp)
    have hd := okI_dec hi (by simp)
    rw [hn] at hd
    simp only [cst] at hs
    split at hs
    · split at hs
      · rename_i y x st0 hj
        obtain ⟨hj, rfl⟩ := hj
        have ht := jmp_eq hj
        cases hs
        refine lv_icmp_ge hx hb hd ht (fun z => ?_) (fun z => ?_)
        · have k1 := kw rfl ls hl
          simp only [if_pos z] at k1
          exact k1
        · have k1 := kw rfl ls hl
          simp only [if_neg z] at k1
          exact k1
      · cases hs
    · cases hs
  | goto o =>
    have hn := okI_len hi rfl (by simp)
    have hd := okI_dec hi (by simp)
    rw [hn] at hd
    simp only [cst] at hs
    split at hs
    · rename_i hj
      cases hs
      exact lv_goto hx hb hd (jmp_eq hj) (kw rfl ls hl)
    · cases hs
  | ldc ix =>
    have hw := okI_2 hi
    simp only [okI2, Bool.and_eq_true, decide_eq_true_eq] at hw
    obtain ⟨⟨⟨w1, w2⟩, w3⟩, rfl⟩ := hw
    have hd := okI_dec hi (by simp)
    simp only [cst] at hs
    cases hs
    have h4 := hst a w3
    rw [w2] at h4
    rw [w1] at hown
    refine va_ldcS hx hb hown h4 hd ?_
    have k1 := kw rfl ls hl
    have e2 : tr (am a0 L) (.ref (2000 + a)) = .ref (a0 (2000 + a)) := by
      show Value.ref (am a0 L (2000 + a)) = _
      unfold am
      rw [if_neg (by omega)]
    rw [List.map_cons, e2] at k1
    exact k1
  | putfield ix =>
    simp only [cst] at hs
    split at hs
    · rename_i v o st0
      split at hs
      · rename_i c' fs h1
        split at hs
        · rename_i hq
          obtain ⟨rfl, h3, h4, h5⟩ := hq
          cases hs
          exact snd_putC C hi h1 h3 h4 h5 hC hS (ks (by rw [List.length_set]) (slS_set h1 (by simp [ceS])) rfl)
        · cases hs
      · cases hs
    · cases hs
  | getfield ix =>
    simp only [cst] at hs
    split at hs
    · rename_i o st0
      split at hs
      · rename_i c' fs h1
        split at hs
        · rename_i v h4
          split at hs
          · rename_i hq
            obtain ⟨rfl, h3⟩ := hq
            cases hs
            exact snd_getC C hi h1 h3 h4 hC (kw rfl ls hl)
          · cases hs
        · cases hs
      · cases hs
    · cases hs
  | new ix =>
    simp only [cst] at hs
    split at hs
    · rename_i ho
      cases hs
      have e1 : (w ++ [(0, a, dfl a)]).length - w.length = 1 := by rw [List.length_append]; show w.length + 1 - w.length = 1; omega
      have e2 : slS (w ++ [(0, a, dfl a)]) - slS w = clN a := by
        rw [slS_app]
        have : slS [(0, a, dfl a)] = clN a := by simp [slS, ceS, dfl]
        omega
      rw [e1] at hcR kk
      rw [e2] at hsR kk
      exact snd_new C hi ho hcR hsR hl hC hS kk
    · cases hs
  | newarray t =>
    simp only [cst] at hs
    split at hs
    · rename_i x st0
      split at hs
      · rename_i hq
        obtain ⟨ho, h0, h1, h2⟩ := hq
        cases hs
        have e1 : (w ++ [(knd t, x.toNatClampNeg, ([] : List Value))]).length - w.length = 1 := by rw [List.length_append]; show w.length + 1 - w.length = 1; omega
        have e2 : slS (w ++ [(knd t, x.toNatClampNeg, [])]) - slS w = x.toNatClampNeg := by
          rw [slS_app]
          have : slS [(knd t, x.toNatClampNeg, [])] = x.toNatClampNeg := by
            have : knd t ≠ 0 := by cases t <;> simp [knd]
            simp [slS, ceS, this]
          omega
        rw [e1] at hcR kk
        rw [e2] at hsR kk
        exact snd_newa C hi ho h0 h1 h2 hcR hsR hl hC hS kk
      · cases hs
    · cases hs
  | anewarray ix =>
    simp only [cst] at hs
    split at hs
    · rename_i x st0
      split at hs
      · rename_i hq
        obtain ⟨ho, h0, h1⟩ := hq
        cases hs
        have e1 : (w ++ [(5, x.toNatClampNeg, List.replicate x.toNatClampNeg Value.null)]).length - w.length = 1 := by rw [List.length_append]; show w.length + 1 - w.length = 1; omega
        have e2 : slS (w ++ [(5, x.toNatClampNeg, List.replicate x.toNatClampNeg Value.null)]) - slS w = x.toNatClampNeg := by
          rw [slS_app]
          have : slS [(5, x.toNatClampNeg, List.replicate x.toNatClampNeg Value.null)] = x.toNatClampNeg := by simp [slS, ceS]
          omega
        rw [e1] at hcR kk
        rw [e2] at hsR kk
        exact snd_anew C hi ho h0 h1 hcR hsR hl hC hS kk
      · cases hs
    · cases hs
  | multianewarray ix k9 =>
    simp only [cst] at hs
    split at hs
    · rename_i y x st0
      split at hs
      · rename_i hq
        obtain ⟨ho, h0, h1, h2, h3⟩ := hq
        cases hs
        have e1 : (w ++ (6, x.toNatClampNeg, (List.range x.toNatClampNeg).map (fun i => Value.ref (w.length + 1 + i))) :: List.replicate x.toNatClampNeg (4, y.toNatClampNeg, [])).length - w.length = 1 + x.toNatClampNeg := by
          rw [List.length_append, List.length_cons, List.length_replicate]
          omega
        have e2 : slS (w ++ (6, x.toNatClampNeg, (List.range x.toNatClampNeg).map (fun i => Value.ref (w.length + 1 + i))) :: List.replicate x.toNatClampNeg (4, y.toNatClampNeg, [])) - slS w = x.toNatClampNeg + x.toNatClampNeg * y.toNatClampNeg := by
          rw [slS_app]
          have : slS ((6, x.toNatClampNeg, (List.range x.toNatClampNeg).map (fun i => Value.ref (w.length + 1 + i))) :: List.replicate x.toNatClampNeg (4, y.toNatClampNeg, [])) = x.toNatClampNeg + x.toNatClampNeg * y.toNatClampNeg := by
            simp [slS, ceS]
          omega
        rw [e1] at hcR
        rw [e2] at hsR
        refine snd_mna C hi ho h0 h1 h2 h3 hcR hsR hl hC hS (fun H1 locs1 ls1 L2 q1 q2 q3 => ?_)
        have k1 := kk H1 locs1 ls1 L2 q1 q2 q3
        rw [e1, e2] at k1
        rw [Nat.add_assoc cells, Nat.add_assoc slots]
        exact k1
      · cases hs
    · cases hs
  | aastore =>
    simp only [cst] at hs
    split at hs
    · rename_i v i r st0
      split at hs
      · rename_i k rs h1
        split at hs
        · rename_i vs h2
          split at hs
          · rename_i hq
            obtain ⟨h3, h4, h5, h6⟩ := hq
            cases hs
            exact snd_aast (i9 := 0) C hi h1 h2 h3 h4 h5 h6 hC hS (ks (by rw [List.length_set]) (slS_set h1 (by simp [ceS])) rfl)
          · cases hs
        · cases hs
      · cases hs
    · cases hs
  | _ => simp [cst] at hs
end
