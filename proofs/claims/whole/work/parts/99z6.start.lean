theorem fin_1 {pc : Nat} {st : List Value} (hf : fin 214 pc st = some (some (some (.int 1)))) : ∃ n r, mCd 214 pc = some (.ireturn, n, r) ∧ st = [.int 1] := by
  unfold fin at hf
  split at hf
  · rename_i n r hc
    split at hf
    · rename_i v
      split at hf
      · cases hf
        exact ⟨n, r, hc, rfl⟩
      · split at hf
        · cases hf
          exact ⟨n, r, hc, rfl⟩
        · cases hf
      · cases hf
    · cases hf
  · split at hf
    · split at hf <;> cases hf
    · cases hf
  · split at hf
    · split at hf <;> cases hf
    · cases hf
  · split at hf <;> cases hf
  · cases hf
section
variable {D : va_G} {cs : Nat → ClassId} {a0 : Nat → Nat} {b B0 : Nat} {Lf : List Nat} {ls : Array Slot}
theorem LH_F (h1 : a0 1000 = b) (hl : LH (am a0 Lf) ls 8 lvF) : LH (adF b Lf) ls 8 lvF := by
  refine ⟨hl.1, hl.2.1, hl.2.2.1, fun i v hv => ?_⟩
  have hq := hl.2.2.2 i v hv
  have e : tr (adF b Lf) v = tr (am a0 Lf) v := by
    have hm : some v ∈ lvF := List.mem_of_getElem? hv
    simp only [lvF, List.mem_cons, Option.some.injEq, List.not_mem_nil, or_false] at hm
    have e0 : ∀ k, k < 109 → pm k = k → tr (adF b Lf) (.ref k) = tr (am a0 Lf) (.ref k) := by
      intro k hk hp
      show Value.ref (adF b Lf k) = .ref (am a0 Lf k)
      rw [adF_at (a0 := a0) hk, hp]
    rcases hm with rfl | rfl | rfl | rfl | h | h | h | h
    · show Value.ref (adF b Lf 1000) = .ref (am a0 Lf 1000)
      unfold adF am
      rw [if_pos rfl, if_neg (by omega), h1]
    · exact e0 0 (by omega) (by decide)
    · exact e0 93 (by omega) (by decide)
    · exact e0 108 (by omega) (by decide)
    all_goals cases h
  rw [e]
  exact hq
theorem WD_F (hl : Lf.length = 109) (hD : va_D (fun q => B0 ≤ q) (cwE cs (am a0 Lf) Lf wF)) : WD cs (adF b Lf) B0 := by
  intro h
  have hg : ∀ k x, (wsh cs (adF b Lf) h)[k]? = some x → k < 109 ∧ ∃ z : va_E, (cwE cs (am a0 Lf) Lf wF)[pm k]? = some (x.1, z) := by
    intro k x hx
    have hk9 : k < 109 := by
      have := (List.getElem?_eq_some_iff.mp hx).1
      unfold wsh at this
      rw [List.length_map, List.length_range] at this
      exact this
    rw [wsh_get hk9] at hx
    cases hx
    have hp := pm_lt hk9
    have hw : wF[pm k]? = some (wAt k) := by
      unfold wAt
      rw [List.getD_eq_getElem?_getD, List.getElem?_eq_getElem (by rw [wF_len]; exact hp)]
      rfl
    refine ⟨hk9, ceE cs (am a0 Lf) (wAt k), ?_⟩
    rw [cwE_get (by rw [hl, wF_len]) hw]
    have e : adF b Lf k = Lf.getD (pm k) 0 := if_neg (by omega)
    rw [← e]
  refine ⟨fun i j x y hi hj hxy => ?_, fun k x hk => ?_⟩
  · obtain ⟨h1, z1, e1⟩ := hg i x hi
    obtain ⟨h2, z2, e2⟩ := hg j y hj
    have := hD.1 _ _ _ _ e1 e2 hxy
    exact of_decide_eq_true (List.all_eq_true.mp (List.all_eq_true.mp pm_inj i (List.mem_range.mpr h1)) j (List.mem_range.mpr h2)) this
  · obtain ⟨h1, z1, e1⟩ := hg k x hk
    exact hD.2 (pm k) (x.1, z1) e1
end
set_option maxHeartbeats 4000000 in
theorem start_all {p : Program} {e : Env} {s : State} {m : MethodId} {below : List Frame} {meth : Method} {c : Code} {l : Launch} {Q : State → Prop} (hl0 : l.stackTraces = false) {b L : Nat} {xs : Nat → Int32} (hL : L ≤ 3072) (hx : p.tables.exec = Jvm.exec) (hb : c.code = code) (hml : c.maxLocals = 8) (hown : s.vm.findClass "LevelRingsLaw" = some m.cls) (hts : ∀ w ∈ lw_tbl, w.before #[Value.ref b] s = true) (hX : va_X b L xs s s.heap) (hbl : b < s.heap.size) (hgv : gvC.before #[Value.ref b] s = true)
    (kk : ∀ (pc : Nat) (H : Heap) (ls : Array Slot), decode code pc = .ok (.ireturn, 1) → W p l e room_1 s m #[Value.ref b] below meth c H [] 601024 7293034 Q (F0 m pc ls [.int 1])) : W p l e room_1 s m #[Value.ref b] below meth c s.heap [] 0 0 Q (entryFrame m ([Value.ref b] : List Value).toArray 8) := by
  have hTS : ∀ w ∈ TS, w.before #[Value.ref b] s = true := fun w hw => hts w (List.mem_filter.mp hw).1
  obtain ⟨D, cs, hK⟩ := K_start hts
  obtain ⟨adK, adV, hSX, hst, hZZ⟩ := S_start hts hgv
  obtain ⟨a0, ha0⟩ : ∃ a0 : Nat → Nat, a0 = fun i => if i = 1000 then b else adK (i - 2000) := ⟨_, rfl⟩
  have h1000 : a0 1000 = b := by rw [ha0]; exact if_pos rfl
  have h2000 : ∀ i, i < 4 → a0 (2000 + i) = adK i := by
    intro i hi
    rw [ha0]
    show (if 2000 + i = 1000 then b else adK (2000 + i - 2000)) = adK i
    rw [if_neg (by omega), Nat.add_sub_cancel_left]
  have hN1 : ∀ w ∈ iNW, va_Nw w s := by
    intro w hw
    have hm := hts w (of_decide_eq_true (List.all_eq_true.mp okI_n w hw))
    obtain ⟨q, -, rfl⟩ := List.mem_map.mp hw
    exact va_Nw.of rfl hm
  have hN2 : ∀ w ∈ nW, va_Nw w s := by
    intro w hw
    obtain ⟨q, hq, rfl⟩ := List.mem_map.mp hw
    exact va_Nw.of rfl (hts _ (List.mem_of_getElem? (of_decide_eq_true (List.all_eq_true.mp nLk_ok q hq))))
  have hw9 : ∀ w ∈ [Cond.arrayOver (.object RX3), .arrayOver (.array .long)], w.before #[Value.ref b] s = true := by
    intro w hw
    refine hts w (of_decide_eq_true (List.all_eq_true.mp st_w w ?_))
    simp only [List.mem_cons, List.not_mem_nil, or_false] at hw
    rcases hw with rfl | rfl <;> simp
  have C9 : CtxC D cs a0 s.heap.size (SXf adK adV s.heap.size) p s m #[Value.ref b] meth c 9 := ⟨hx, hb, hml, hown, hTS, hK, hN1, hw9 (.arrayOver (.object RX3)) (by simp), hw9 (.arrayOver (.array .long)) (by simp), Nat.le_refl _, hSX, Or.inl rfl, fun i hi => by rw [h2000 i hi]; exact hst i hi⟩
  rw [lg_entry_eq]
  have hE : LH (am a0 []) ((lg_sl [Value.ref b] ++ List.replicate (8 - (lg_sl [Value.ref b]).length) Slot.unset).toArray) 8 (ent 8 [.ref 1000]) := by
    have h := LH_ent (ad := am a0 []) (n := 8) (as := [.ref 1000]) (Nat.le_of_ble_eq_true rfl)
    have e1 : [Value.ref 1000].map (tr (am a0 [])) = [Value.ref b] := by
      show [Value.ref (am a0 [] 1000)] = _
      unfold am
      rw [if_neg (by omega), h1000]
    rw [e1] at h
    exact h
  obtain ⟨-, hrun⟩ := snd_c_all (D := D) (cs := cs) (PkH_ok (l := l) (adV := adV) (B0 := s.heap.size) h2000) 3000 _ _ _ _ _ _ _ _ _ _ cex_F
  have hs9 := slS_F
  have e00 : slS [] = 0 := rfl
  have e0 : slS wF - slS [] = slS wF := by rw [e00, Nat.sub_zero]
  have e1 : wF.length - ([] : CW).length = 109 := by rw [wF_len]; rfl
  rw [e0, e1] at hrun
  refine hrun p e room_1 s m _ below meth c s.heap [] 0 0 Q _ [] C9 (by decide) (by decide) (by decide) (by rw [Nat.zero_add]; exact Nat.le_trans hs9 (by decide)) hE ⟨rfl, fun k q h => by simp [cwE] at h, fun i j x y h => by simp [cwE] at h, fun k q h => by simp [cwE] at h⟩ va_S.rf (fun H1 locs1 ls1 L2 q1 q2 q3 => ?_)
  rw [List.nil_append] at q1 q2 ⊢
  have hl9 : L2.length = 109 := by rw [q2.1, wF_len]
  have hW : WD cs (adF b L2) s.heap.size := WD_F hl9 q2.2.2
  have hR : Rep D cs (adF b L2) xs L (h0F xs L) H1 := Rep_F hl9 q2.2.1
  have had : adF b L2 1000 = b := if_pos rfl
  have C : Ctx D cs (adF b L2) xs L s.heap.size p s m #[Value.ref b] meth c 214 := ⟨hx, hb, hml, hown, hTS, hK, hN2, by rw [had]; exact hX, by rw [had]; exact hbl, Nat.le_refl _, hZZ⟩
  obtain ⟨f, pE, sE, hE', o, hex, hfin, ho, htk⟩ := law_all (d := 900) (h := h0F xs L) (xs := xs) (Q := fun o h' => o = some (some (.int 1)) ∧ h'.2.2.1 ≤ 0 + 3072) hL J_0 rfl (funext (fun j => by simp [h0F])) (fun h' _ _ ht => ⟨rfl, ht⟩)
  subst ho
  obtain ⟨n, r, hmc, rfl⟩ := fin_1 hfin
  obtain ⟨hle, hw⟩ := snd_all hW (SndX_ok hl0 hW) f _ _ _ _ _ _ _ _ _ hex
  have et : (h0F xs L).2.2.1 = 0 := rfl
  rw [et, Nat.sub_zero] at hw
  have hlv : LH (adF b L2) ls1 (mMx 214) [some (.ref 1000), some (.ref 0), some (.ref 93), some (.ref 108), none, none, none, none] := LH_F h1000 q1
  refine hw p e room_1 s m _ below meth c H1 locs1 _ _ Q ls1 C (by decide) (by decide) ?_ ?_ hlv hR q3 (fun H3 locs3 ls3 z1 z2 z3 => ?_)
  · show 0 + 109 + hE'.2.2.1 ≤ 601024
    omega
  · show 0 + slS wF + 6 * hE'.2.2.1 ≤ 7293034
    omega
  · obtain ⟨hd0, hlen, -⟩ := mCd_ok hmc
    have hd : decode code pE = .ok (.ireturn, 1) := by
      have : decode (mBy 214) pE = .ok (.ireturn, 1) := by rw [hd0, hlen.resolve_left (by simp [ilen])]; rfl
      exact this
    refine va_forget z3.2.2 ?_
    refine W.widen (k := 601024) (n := 7293034) ?_ ?_ (kk pE H3 ls3 hd)
    · show 0 + 109 + hE'.2.2.1 ≤ 601024
      omega
    · show 0 + slS wF + 6 * hE'.2.2.1 ≤ 7293034
      omega
