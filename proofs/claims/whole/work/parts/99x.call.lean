theorem cex_2 {f d pc : Nat} {lv : LV} {st : List Value} {w : CW} : cex f d 2 pc lv st w = none := by
  cases f with
  | zero => rfl
  | succ f => rfl
theorem kargs_spec {st as rest : List Value} (h : kargs st = some (as, rest)) : (as.map (fun v => v.category)).sum = as.length ∧ ∃ (o : Nat) (bs : List Value), as = .ref o :: bs ∧ bs.length = 0 ∧ st = bs.reverse ++ .ref o :: rest := by
  unfold kargs at h
  split at h
  · rename_i o st0
    cases h
    exact ⟨rfl, o, [], rfl, rfl, rfl⟩
  · cases h
section
variable {D : va_G} {cs : Nat → ClassId} {a0 : Nat → Nat} {B0 : Nat} {SX : State → Heap → Prop} {l : Launch}
variable {p : Program} {e : Env} {R : Room} {s : State} {m : MethodId} {args : Array Value} {below : List Frame} {meth : Method} {c0 : Code} {H : Heap} {locs : List Loc} {cells slots : Nat} {Q : State → Prop} {c pc n a : Nat} {ls : Array Slot} {lv : LV} {st rest as : List Value} {L : List Nat} {w w' : CW}
set_option maxHeartbeats 4000000 in
theorem snd_ctor {f d ix pc1 : Nat} {lv1 : LV} (hP : PkH a0 B0 SX l) (ih : SndC D cs a0 B0 SX l f) (hi : iCd c pc = some (.invokespecial ix, n, a)) (ha : ¬ a = 99) (hk : kargs st = some (as, rest)) (hrs : (rest.map (fun v => v.category)).sum ≤ 8) (hle : as.length ≤ iMx (a % 100)) (he : cex f d (a % 100) 0 (ent (iMx (a % 100)) as) [] w = some (pc1, lv1, [], w')) (hr : iCd (a % 100) pc1 = some (.return_, 1, 0))
    (C : CtxC D cs a0 B0 SX p s m args meth c0 c) (hdR : d + 1 ≤ R.frames) (hlR : 60 * (d + 1) ≤ R.locals) (hcR : cells + (w'.length - w.length) ≤ R.cells) (hsR : slots + (slS w' - slS w) ≤ R.slots) (hl : ls.size = iMx c) (hC : CSt D cs a0 B0 L w H) (hS : va_S (fun q => B0 ≤ q) s.heap H locs)
    (kk : ∀ (H1 : Heap) (locs1 : List Loc) (L2 : List Nat), CSt D cs a0 B0 (L ++ L2) w' H1 → va_S (fun q => B0 ≤ q) s.heap H1 locs1 → W p l e R s m args below meth c0 H1 locs1 (cells + (w'.length - w.length)) (slots + (slS w' - slS w)) Q (F0 m (pc + 3) ls (rest.map (tr (am a0 L))))) : W p l e R s m args below meth c0 H locs cells slots Q (F0 m pc ls (st.map (tr (am a0 L)))) := by
  obtain ⟨hx, hb, hml, hown, hts, hK, hN, hAO, hAA, hB, hSX, hin, hst⟩ := id C
  obtain ⟨k1, o, bs, rfl, k3, k4⟩ := kargs_spec hk
  have hw := okI_2 hi
  simp only [okI2, Bool.and_eq_true, decide_eq_true_eq] at hw
  obtain ⟨rfl, hw⟩ := hw
  rw [if_neg ha] at hw
  have h2 : a % 100 ≠ 2 := fun z => by rw [z, cex_2] at he; cases he
  have h9 : a % 100 < 9 ∧ ((a < 99 ∧ a % 100 = a ∧ Cond.methodLink (iNm c).cls ix (iNm a) ∈ TS) ∨ (¬ a < 99 ∧ a % 100 = a - 100 ∧ (c, ix, a - 100) ∈ iN)) := by
    split at hw
    · rename_i z
      rw [Bool.and_eq_true, decide_eq_true_eq] at hw
      exact ⟨by omega, Or.inl ⟨z, by omega, clsS_mem hw.1⟩⟩
    · rename_i z
      rw [Bool.and_eq_true, decide_eq_true_eq, decide_eq_true_eq] at hw
      have : ∀ q ∈ iN, q.2.2 < 9 := by decide
      by_cases z9 : a < 100
      · omega
      · exact ⟨by omega, Or.inr ⟨z, by omega, hw.1⟩⟩
  have hm := iMth_at h9.1 h2
  obtain ⟨m1, m2, m3, m4, m5, m6, m7, m8, m9⟩ := iMth_spec hm
  have hM := ctor_met (L := L) ih hm he hr (by rw [k1]; exact hle)
  have hd := okI_dec hi (by simp)
  have hroom : (rmC d (w'.length - w.length) (slS w' - slS w)).frames + 1 ≤ R.frames ∧ 8 + (iMx (a % 100) + 11) + (rmC d (w'.length - w.length) (slS w' - slS w)).locals ≤ R.locals := by
    refine ⟨hdR, ?_⟩
    show 8 + (iMx (a % 100) + 11) + 60 * d ≤ R.locals
    omega
  have hrest : (((rest.map (tr (am a0 L))).map fun v => v.category)).sum ≤ 8 := by rw [cat_map]; exact hrs
  have hstk : st.map (tr (am a0 L)) = (bs.map (tr (am a0 L))).reverse ++ .ref (am a0 L o) :: rest.map (tr (am a0 L)) := by
    rw [k4, List.map_append, List.map_reverse]
    rfl
  have hpre : PreS s H (va_Pc ((.ref o :: bs : List Value).map (tr (am a0 L))) (PreC D cs a0 B0 SX L w)) (.ref (am a0 L o) :: bs.map (tr (am a0 L))) := ⟨PreC_blind hP, fun U hU hW => ⟨rfl, PreC_of hP C hC hS hU hW⟩⟩
  rcases h9.2 with ⟨z1, z2, z3⟩ | ⟨z1, z2, z3⟩
  · rw [← z2] at z3
    exact callC (va_runI (b := am a0 L o) (As := bs.map (tr (am a0 L))) (rest := rest.map (tr (am a0 L))) ⟨hx, hb, hml, hown, hts⟩ hM (cwI 0 hts (wsI_good hm) rfl rfl rfl (hts _ m3) (hts _ z3) (hts _ m2) m5 ⟨m6, m7, m8⟩ hroom) hpre rfl (by rw [List.length_map]; exact k3) hl hstk (lv_room hrest) hd ⟨hcR, hsR⟩) hS kk
  · have hnw := hN _ (List.mem_map.mpr ⟨_, z3, rfl⟩)
    rw [← z2] at hnw
    exact callC (va_runIN (host := "LevelRings") (b := am a0 L o) (As := bs.map (tr (am a0 L))) (rest := rest.map (tr (am a0 L))) ⟨hx, hb, hml, hown, hts⟩ hM ⟨va_cnB 0 hts (wsI_good hm) rfl rfl rfl hnw (hts _ m3) ⟨m6, m7, m8⟩ hroom, m5, hts _ m2⟩ hpre rfl (by rw [List.length_map]; exact k3) hl hstk (lv_room hrest) hd ⟨hcR, hsR⟩) hS kk
theorem okI_gm {w : Cond} (h : w ∈ [Cond.instanceMethod objectInit, Cond.code objectInit ⟨#[0xb1]⟩ 1 none, Cond.static yX4_packed, Cond.initialized RX4, Cond.arrayClass .long]) : w ∈ TS := clsS_mem (List.all_eq_true.mp okI_g w h)
theorem pk_ok : (parseMethodDescriptor yX4_packed.desc).map (fun d => d.parameters.length) = some 1 := by decide +kernel
set_option maxRecDepth 20000 in
theorem pk_code : clsS (.code yX4_packed cX4_packed 4 (some .long)) = true := by decide +kernel
theorem wsP_good : GoodIn TS wsP := by
  intro w hw
  have h1 : w ∈ TS := by
    rcases List.mem_cons.mp hw with rfl | h2
    · exact clsS_mem pk_code
    · exact h2
  exact ⟨h1, good_of_word (List.mem_filter.mp h1).2⟩
set_option maxHeartbeats 8000000 in
theorem snd_c_all (hP : PkH a0 B0 SX l) : ∀ f, SndC D cs a0 B0 SX l f := by
  intro f
  induction f with
  | zero => intro d c pc lv st w pc' lv' st' w' he; simp [cex] at he
  | succ f ih =>
    intro d c pc lv st w pc' lv' st' w' he
    unfold cex at he
    split at he
    · cases he
    · rename_i ins n a hc
      split at he
      · split at he
        · cases he
        · rename_i pc1 lv1 st1 w1 hs
          obtain ⟨l1, l2⟩ := cst_le hs
          obtain ⟨⟨l3, l4⟩, hw⟩ := ih _ _ _ _ _ _ _ _ _ _ he
          refine ⟨⟨by omega, by omega⟩, ?_⟩
          intro p e R s m args below meth c0 H locs cells slots Q ls L C hdR hlR hcR hsR hl hC hS kk
          refine snd_cst C hc hs (by omega) (by omega) hl hC hS (fun H1 locs1 ls1 L2 q1 q2 q3 => ?_)
          refine hw p e R s m args below meth c0 H1 locs1 _ _ Q ls1 (L ++ L2) C hdR hlR (by omega) (by omega) q1 q2 q3 (fun H3 locs3 ls3 L3 y1 y2 y3 => ?_)
          rw [List.append_assoc] at y1 y2 ⊢
          have k9 := kk H3 locs3 ls3 (L2 ++ L3) y1 y2 y3
          rw [show cells + (w1.length - w.length) + (w'.length - w1.length) = cells + (w'.length - w.length) by omega, show slots + (slS w1 - slS w) + (slS w' - slS w1) = slots + (slS w' - slS w) by omega]
          exact k9
      · rename_i hik
        split at he
        · cases he
        · rename_i d'
          obtain ⟨ix, rfl⟩ : ∃ ix, ins = .invokespecial ix := by
            cases ins with
            | invokespecial ix => exact ⟨ix, rfl⟩
            | _ => simp [isK] at hik
          split at he
          · rename_i h99
            subst h99
            split at he
            · rename_i o rest
              split at he
              · rename_i hrs
                obtain ⟨hlw, hw⟩ := ih _ _ _ _ _ _ _ _ _ _ he
                refine ⟨hlw, ?_⟩
                intro p e R s m args below meth c0 H locs cells slots Q ls L C hdR hlR hcR hsR hl hC hS kk
                obtain ⟨hx, hb, hml, hown, hts, hK, hN, hAO, hAA, hB, hSX, hin, hst⟩ := id C
                have hw2 := okI_2 hc
                simp only [okI2, Bool.and_eq_true, decide_eq_true_eq] at hw2
                obtain ⟨rfl, hw2⟩ := hw2
                rw [if_pos trivial] at hw2
                refine W.objInit (g := F0 m pc ls (.ref (am a0 L o) :: rest.map (tr (am a0 L)))) (rest := rest.map (tr (am a0 L))) hx hb hown (hts _ (clsS_mem hw2)) (hts _ (okI_gm (by simp))) (hts _ (okI_gm (by simp))) rfl (by rw [hml]; exact hl.2.1) rfl (okI_dec hc (by simp)) (by omega) ?_ ?_
                · show 2 * 0 + _ + 12 ≤ R.locals
                  rw [cat_map]
                  omega
                · exact hw p e R s m args below meth c0 H locs cells slots Q ls L C hdR hlR hcR hsR hl hC hS kk
              · cases he
            · cases he
          · rename_i h99
            split at he
            · cases he
            · rename_i as rest hk
              split at he
              · rename_i hq
                obtain ⟨ho, hrs, hle⟩ := hq
                split at he
                · rename_i pc1 lv1 w1 he1
                  split at he
                  · rename_i hret
                    obtain ⟨⟨l1, l2⟩, -⟩ := ih _ _ _ _ _ _ _ _ _ _ he1
                    obtain ⟨⟨l3, l4⟩, hw⟩ := ih _ _ _ _ _ _ _ _ _ _ he
                    refine ⟨⟨by omega, by omega⟩, ?_⟩
                    intro p e R s m args below meth c0 H locs cells slots Q ls L C hdR hlR hcR hsR hl hC hS kk
                    obtain ⟨o1, o2, o3, o4⟩ := okS_spec ho
                    refine snd_ctor hP ih hc h99 hk hrs hle he1 hret C hdR hlR (by omega) (by omega) hl.2.1 hC hS (fun H1 locs1 L2 q2 q3 => ?_)
                    have hrest : rest.all (okV L.length) = true := by
                      obtain ⟨-, o, bs, -, -, k4⟩ := kargs_spec hk
                      rw [k4, List.all_append, List.all_cons, Bool.and_eq_true, Bool.and_eq_true] at o3
                      rw [hC.1]
                      exact o3.2.2
                    rw [← st_ext (L2 := L2) hrest]
                    refine hw p e R s m args below meth c0 H1 locs1 _ _ Q ls (L ++ L2) C hdR hlR (by omega) (by omega) (LH_ext (by rw [hC.1]; exact o2) hl) q2 q3 (fun H3 locs3 ls3 L3 y1 y2 y3 => ?_)
                    rw [List.append_assoc] at y1 y2 ⊢
                    have k9 := kk H3 locs3 ls3 (L2 ++ L3) y1 y2 y3
                    rw [show cells + (w1.length - w.length) + (w'.length - w1.length) = cells + (w'.length - w.length) by omega, show slots + (slS w1 - slS w) + (slS w' - slS w1) = slots + (slS w' - slS w) by omega]
                    exact k9
                  · cases he
                · cases he
              · cases he
      · rename_i hik
        obtain ⟨ix, rfl⟩ : ∃ ix, ins = .invokestatic ix := by
          cases ins with
          | invokestatic ix => exact ⟨ix, rfl⟩
          | _ => simp [isK] at hik
        split at he
        · rename_i o rest
          split at he
          · rename_i hq
            obtain ⟨g1, g2, g3, hrs⟩ := hq
            obtain ⟨hlw, hw⟩ := ih _ _ _ _ _ _ _ _ _ _ he
            refine ⟨hlw, ?_⟩
            intro p e R s m args below meth c0 H locs cells slots Q ls L C hdR hlR hcR hsR hl hC hS kk
            obtain ⟨hx, hb, hml, hown, hts, hK, hN, hAO, hAA, hB, hSX, hin, hst⟩ := id C
            have hw2 := okI_2 hc
            simp only [okI2, Bool.and_eq_true, decide_eq_true_eq] at hw2
            obtain ⟨⟨w1, w2⟩, rfl⟩ := hw2
            obtain ⟨k, hok⟩ : ∃ k : Nat, k = o := ⟨o, rfl⟩
            subst hok
            have g1' : 2000 ≤ k := g1
            have g2' : k < 2004 := g2
            have eo : 2000 + (k - 2000) = k := by omega
            have hM := hP.2.2 (k - 2000) (by omega)
            rw [eo] at hM
            have e2 : tr (am a0 L) (.ref k) = .ref (a0 k) := by
              show Value.ref (am a0 L k) = _
              unfold am
              rw [if_neg (by omega)]
            rw [List.map_cons, e2]
            rw [w1] at hown
            refine callP (va_runS (As := [.ref (a0 k)]) (rest := rest.map (tr (am a0 L))) ⟨hx, hb, hml, hown, hts⟩ hM ⟨callB_of 1 hts wsP_good rfl rfl rfl (hts (Cond.initialized RX4) (okI_gm (by simp))) (hts _ (clsS_mem w2)) ⟨by decide, by decide, pk_ok⟩ ⟨by show 8 + 1 ≤ R.frames; omega, by show 8 + (4 + 11) + 500 ≤ R.locals; omega⟩, hts _ (okI_gm (by simp))⟩ ⟨PreP_blind hP, fun U hU hW => ⟨rfl, ?_, ?_⟩⟩ rfl rfl hl.2.1 rfl (lv_room (by rw [cat_map]; exact hrs)) (okI_dec hc (by simp)) ⟨by omega, by omega⟩) hS (fun locs1 q3 => ?_)
            · subst hU
              exact hP.1 _ _ _ hW (hP.2.1 _ _ _ hS.2.1 hSX)
            · rw [hU]
              exact Nat.le_trans hB hS.1
            · exact hw p e R s m args below meth c0 H locs1 cells slots Q ls L C hdR hlR hcR hsR hl hC q3 kk
          · cases he
        · cases he
      · cases he
        refine ⟨⟨Nat.le_refl _, Nat.le_refl _⟩, ?_⟩
        intro p e R s m args below meth c0 H locs cells slots Q ls L C hdR hlR hcR hsR hl hC hS kk
        have k1 := kk H locs ls [] (by rw [List.append_nil]; exact hl) (by rw [List.append_nil]; exact hC) hS
        rw [Nat.sub_self, Nat.sub_self, List.append_nil] at k1
        exact k1
end
