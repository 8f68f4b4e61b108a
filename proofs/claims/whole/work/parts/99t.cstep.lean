section
variable {D : va_G} {cs : Nat → ClassId} {a0 : Nat → Nat} {B0 : Nat} {SX : State → Heap → Prop}
variable {p : Program} {l : Launch} {e : Env} {R : Room} {s : State} {m : MethodId} {args : Array Value} {below : List Frame} {meth : Method} {c0 : Code} {H : Heap} {locs : List Loc} {cells slots : Nat} {Q : State → Prop} {c pc n a : Nat} {ls : Array Slot} {lv lv' : LV} {st st' : List Value} {w w' : CW} {L : List Nat} {ins : Instr} {pc' : Nat}
/-- a cell comes -/
theorem CS_push {q : Nat} {e1 : CE} {H1 : Heap} (hC : CSt D cs a0 B0 L w H) (ho : w.all (fun e => e.2.2.all (okV w.length)) = true) (hP : va_P D cls9 (cwE cs (am a0 L) L w ++ [(q, ceE cs (am a0 (L ++ [q])) e1)]) H1) (hD : va_D (fun q => B0 ≤ q) (cwE cs (am a0 L) L w ++ [(q, ceE cs (am a0 (L ++ [q])) e1)])) : CSt D cs a0 B0 (L ++ [q]) (w ++ [e1]) H1 := by
  refine ⟨by rw [List.length_append, List.length_append, hC.1]; rfl, ?_, ?_⟩
  · rw [cwE_app hC.1 ho]
    exact hP
  · rw [cwE_app hC.1 ho]
    exact hD
theorem am_new {q : Nat} (hl : L.length = w.length) (h : w.length < 900) : am a0 (L ++ [q]) w.length = q := by
  unfold am
  rw [if_pos (by omega), ← hl, List.getD_eq_getElem?_getD, List.getElem?_append_right (Nat.le_refl _), Nat.sub_self]
  rfl
theorem am_at {o : Nat} (h : o < 1000) : am a0 L o = L.getD o 0 := if_pos h
theorem dfl_tr {a : Nat → Nat} {c : Nat} : (dfl c).map (tr a) = dfl c := by
  unfold dfl
  rw [List.map_map]
  apply List.map_congr_left
  intro k _
  show tr a (defaultValue (clY c k)) = _
  cases clY c k <;> rfl
theorem okS_spec (h : okS w lv st = true) : w.all (fun e => e.2.2.all (okV w.length)) = true ∧ lv.all (okO w.length) = true ∧ st.all (okV w.length) = true ∧ w.length < 900 := by
  unfold okS at h
  rw [Bool.and_eq_true, Bool.and_eq_true, Bool.and_eq_true, decide_eq_true_eq] at h
  exact ⟨h.1.1.1, h.1.1.2, h.1.2, h.2⟩
set_option maxHeartbeats 4000000 in
theorem snd_new {ix : Nat} (C : CtxC D cs a0 B0 SX p s m args meth c0 c) (hi : iCd c pc = some (.new ix, n, a)) (ho : okS w lv st = true) (hcR : cells + 1 ≤ R.cells) (hsR : slots + clN a ≤ R.slots) (hl : LH (am a0 L) ls (iMx c) lv) (hC : CSt D cs a0 B0 L w H) (hS : va_S (fun q => B0 ≤ q) s.heap H locs)
    (kk : ∀ (H1 : Heap) (locs1 : List Loc) (ls1 : Array Slot) (L2 : List Nat), LH (am a0 (L ++ L2)) ls1 (iMx c) lv → CSt D cs a0 B0 (L ++ L2) (w ++ [(0, a, dfl a)]) H1 → va_S (fun q => B0 ≤ q) s.heap H1 locs1 → W p l e R s m args below meth c0 H1 locs1 (cells + 1) (slots + clN a) Q (F0 m (pc + 3) ls1 ((.ref w.length :: st).map (tr (am a0 (L ++ L2)))))) : W p l e R s m args below meth c0 H locs cells slots Q (F0 m pc ls (st.map (tr (am a0 L)))) := by
  obtain ⟨hx, hb, hml, hown, hts, hK, hN, hAO, hAA, hB, hSX, hin, hst⟩ := id C
  have hw := okI_2 hi
  simp only [okI2, Bool.and_eq_true, decide_eq_true_eq] at hw
  obtain ⟨⟨⟨⟨w1, w2⟩, w3⟩, h9⟩, rfl⟩ := hw
  obtain ⟨o1, o2, o3, o4⟩ := okS_spec ho
  refine va_new (C := clR a) (T := (cls9.getD a ("", TX2, 0)).2.1) (N := clN a) (ci := a) (fs := dfl a) hx hb hts (cls9_in h9) (clY a) (clY_ok h9) hown (hts _ (clsS_mem w1)) (hts _ (clsS_mem w2)) (hts _ (clsS_mem w3)) hK hC.2.1 hC.2.2 hS (fun q hq => Nat.le_trans hB hq) (cls9_at h9) ?_ hcR hsR (okI_dec hi (by simp)) (fun q H1 p1 p2 p3 => ?_)
  · intro j hj
    unfold vp_V dfl
    rw [List.getD_eq_getElem?_getD, List.getElem?_map, List.getElem?_range hj]
    rfl
  · have ee : ceE cs (am a0 (L ++ [q])) (0, a, dfl a) = .inr (a, dfl a) := by
      show (Sum.inr (a, (dfl a).map (tr (am a0 (L ++ [q])))) : va_E) = _
      rw [dfl_tr]
    have k1 := kk H1 locs ls [q] (LH_ext (by rw [hC.1]; exact o2) hl) (CS_push hC o1 (by rw [ee]; exact p1) (by rw [ee]; exact p2)) p3
    rw [List.map_cons, st_ext (by rw [hC.1]; exact o3)] at k1
    have e2 : tr (am a0 (L ++ [q])) (.ref w.length) = .ref q := by
      show Value.ref (am a0 (L ++ [q]) w.length) = _
      rw [am_new hC.1 o4]
    rw [e2] at k1
    exact k1
set_option maxHeartbeats 4000000 in
theorem snd_newa {t : ArrayType} {x : Int32} (C : CtxC D cs a0 B0 SX p s m args meth c0 c) (hi : iCd c pc = some (.newarray t, n, a)) (ho : okS w lv st = true) (hx0 : ¬ x < 0) (hx1 : x.toNatClampNeg ≤ 1000) (hk : knd t < 9) (hcR : cells + 1 ≤ R.cells) (hsR : slots + x.toNatClampNeg ≤ R.slots) (hl : LH (am a0 L) ls (iMx c) lv) (hC : CSt D cs a0 B0 L w H) (hS : va_S (fun q => B0 ≤ q) s.heap H locs)
    (kk : ∀ (H1 : Heap) (locs1 : List Loc) (ls1 : Array Slot) (L2 : List Nat), LH (am a0 (L ++ L2)) ls1 (iMx c) lv → CSt D cs a0 B0 (L ++ L2) (w ++ [(knd t, x.toNatClampNeg, [])]) H1 → va_S (fun q => B0 ≤ q) s.heap H1 locs1 → W p l e R s m args below meth c0 H1 locs1 (cells + 1) (slots + x.toNatClampNeg) Q (F0 m (pc + 2) ls1 ((.ref w.length :: st).map (tr (am a0 (L ++ L2)))))) : W p l e R s m args below meth c0 H locs cells slots Q (F0 m pc ls (.int x :: st.map (tr (am a0 L)))) := by
  obtain ⟨hx, hb, hml, hown, hts, hK, hN, hAO, hAA, hB, hSX, hin, hst⟩ := id C
  have hw := okI_2 hi
  simp only [okI2, Bool.and_eq_true, decide_eq_true_eq] at hw
  obtain ⟨w1, rfl⟩ := hw
  obtain ⟨o1, o2, o3, o4⟩ := okS_spec ho
  have fin : ∀ (q : Nat) (H1 : Heap) (e1 : va_E), (∀ a, ceE cs a (knd t, x.toNatClampNeg, []) = e1) → va_P D cls9 (cwE cs (am a0 L) L w ++ [(q, e1)]) H1 → va_D (fun q => B0 ≤ q) (cwE cs (am a0 L) L w ++ [(q, e1)]) → va_S (fun q => B0 ≤ q) s.heap H1 locs → W p l e R s m args below meth c0 H1 locs (cells + 1) (slots + x.toNatClampNeg) Q (F0 m (pc + 2) ls (.ref q :: st.map (tr (am a0 L)))) := by
    intro q H1 e1 ee p1 p2 p3
    have k1 := kk H1 locs ls [q] (LH_ext (by rw [hC.1]; exact o2) hl) (CS_push hC o1 (by rw [ee]; exact p1) (by rw [ee]; exact p2)) p3
    rw [List.map_cons, st_ext (by rw [hC.1]; exact o3)] at k1
    have e2 : tr (am a0 (L ++ [q])) (.ref w.length) = .ref q := by
      show Value.ref (am a0 (L ++ [q]) w.length) = _
      rw [am_new hC.1 o4]
    rw [e2] at k1
    exact k1
  have hA : ∀ q : Nat, s.heap.size ≤ q → (fun q : Nat => B0 ≤ q) q := fun q hq => Nat.le_trans hB hq
  have hd := okI_dec hi (by simp)
  cases t with
  | int =>
    refine va_newa (ty := .int) (a0 := (x.toNatClampNeg, .inl (fun _ => 0))) hx hb (hts _ (clsS_mem w1)) rfl hK hC.2.1 hC.2.2 hS hA (fun cA => rfl) hx0 rfl (by show _ * 4 ≤ _; omega) hcR hsR hd (fun q cA H1 k2 p1 p2 p3 => ?_)
    have e9 := K_last k2 1 rfl
    subst e9
    exact fin q H1 _ (fun a => rfl) p1 p2 p3
  | byte =>
    refine va_newa (ty := .byte) (a0 := (x.toNatClampNeg, .inl (fun _ => 0))) hx hb (hts _ (clsS_mem w1)) rfl hK hC.2.1 hC.2.2 hS hA (fun cA => rfl) hx0 rfl (by show _ * 1 ≤ _; omega) hcR hsR hd (fun q cA H1 k2 p1 p2 p3 => ?_)
    have e9 := K_last k2 0 rfl
    subst e9
    exact fin q H1 _ (fun a => rfl) p1 p2 p3
  | boolean =>
    refine va_newa (ty := .boolean) (a0 := (x.toNatClampNeg, .inl (fun _ => 0))) hx hb (hts _ (clsS_mem w1)) rfl hK hC.2.1 hC.2.2 hS hA (fun cA => rfl) hx0 rfl (by show _ * 1 ≤ _; omega) hcR hsR hd (fun q cA H1 k2 p1 p2 p3 => ?_)
    have e9 := K_last k2 3 rfl
    subst e9
    exact fin q H1 _ (fun a => rfl) p1 p2 p3
  | long =>
    refine va_newa (ty := .long) (a0 := (x.toNatClampNeg, .inr (.inl (fun _ => 0)))) hx hb (hts _ (clsS_mem w1)) rfl hK hC.2.1 hC.2.2 hS hA (fun cA => rfl) hx0 rfl (by show _ * 8 ≤ _; omega) hcR hsR hd (fun q cA H1 k2 p1 p2 p3 => ?_)
    have e9 := K_last k2 2 rfl
    subst e9
    exact fin q H1 _ (fun a => rfl) p1 p2 p3
  | _ => simp [knd] at hk
set_option maxHeartbeats 4000000 in
theorem snd_anew {ix : Nat} {x : Int32} (C : CtxC D cs a0 B0 SX p s m args meth c0 c) (hi : iCd c pc = some (.anewarray ix, n, a)) (ho : okS w lv st = true) (hx0 : ¬ x < 0) (hx1 : x.toNatClampNeg ≤ 1000) (hcR : cells + 1 ≤ R.cells) (hsR : slots + x.toNatClampNeg ≤ R.slots) (hl : LH (am a0 L) ls (iMx c) lv) (hC : CSt D cs a0 B0 L w H) (hS : va_S (fun q => B0 ≤ q) s.heap H locs)
    (kk : ∀ (H1 : Heap) (locs1 : List Loc) (ls1 : Array Slot) (L2 : List Nat), LH (am a0 (L ++ L2)) ls1 (iMx c) lv → CSt D cs a0 B0 (L ++ L2) (w ++ [(5, x.toNatClampNeg, List.replicate x.toNatClampNeg .null)]) H1 → va_S (fun q => B0 ≤ q) s.heap H1 locs1 → W p l e R s m args below meth c0 H1 locs1 (cells + 1) (slots + x.toNatClampNeg) Q (F0 m (pc + 3) ls1 ((.ref w.length :: st).map (tr (am a0 (L ++ L2)))))) : W p l e R s m args below meth c0 H locs cells slots Q (F0 m pc ls (.int x :: st.map (tr (am a0 L)))) := by
  obtain ⟨hx, hb, hml, hown, hts, hK, hN, hAO, hAA, hB, hSX, hin, hst⟩ := id C
  have hw := okI_2 hi
  simp only [okI2, Bool.and_eq_true, decide_eq_true_eq] at hw
  obtain ⟨w1, rfl⟩ := hw
  obtain ⟨o1, o2, o3, o4⟩ := okS_spec ho
  have hA : ∀ q : Nat, s.heap.size ≤ q → (fun q : Nat => B0 ≤ q) q := fun q hq => Nat.le_trans hB hq
  refine va_newq (C := RX3) hx hb hown (hts _ (clsS_mem w1)) hAO hK hC.2.1 hC.2.2 hS hA hx0 rfl (by omega) hcR hsR (okI_dec hi (by simp)) (fun q cA H1 k2 p1 p2 p3 => ?_)
  have e9 := K_last k2 4 rfl
  subst e9
  have ee : ∀ a, ceE cs a (5, x.toNatClampNeg, List.replicate x.toNatClampNeg .null) = .inl (cs 4, x.toNatClampNeg, .inr (.inr (.inr (.inr (fun _ => none))))) := by
    intro a
    have : (fun j => rfA a ((List.replicate x.toNatClampNeg Value.null).getD j .null)) = fun _ => none := by
      funext j
      rw [List.getD_eq_getElem?_getD, List.getElem?_replicate]
      split <;> rfl
    show (Sum.inl (cs 4, x.toNatClampNeg, .inr (.inr (.inr (.inr (fun j => rfA a ((List.replicate x.toNatClampNeg Value.null).getD j .null)))))) : va_E) = _
    rw [this]
  have k1 := kk H1 locs ls [q] (LH_ext (by rw [hC.1]; exact o2) hl) (CS_push hC o1 (by rw [ee]; exact p1) (by rw [ee]; exact p2)) p3
  rw [List.map_cons, st_ext (by rw [hC.1]; exact o3)] at k1
  have e2 : tr (am a0 (L ++ [q])) (.ref w.length) = .ref q := by
    show Value.ref (am a0 (L ++ [q]) w.length) = _
    rw [am_new hC.1 o4]
  rw [e2] at k1
  exact k1
end
