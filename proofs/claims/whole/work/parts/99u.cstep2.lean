section
variable {D : va_G} {cs : Nat → ClassId} {a0 : Nat → Nat} {B0 : Nat} {SX : State → Heap → Prop}
variable {p : Program} {l : Launch} {e : Env} {R : Room} {s : State} {m : MethodId} {args : Array Value} {below : List Frame} {meth : Method} {c0 : Code} {H : Heap} {locs : List Loc} {cells slots : Nat} {Q : State → Prop} {c pc n a : Nat} {ls : Array Slot} {lv lv' : LV} {st st' : List Value} {w w' : CW} {L : List Nat} {ins : Instr} {pc' : Nat}
theorem cwE_rows {a : Nat → Nat} {r : Nat → Nat} {K : Nat} : ∀ (is : List Nat), cwE cs a (is.map r) (List.replicate is.length (4, K, [])) = (is.map r).map (fun q => ((q, Sum.inl (cs 2, K, .inr (.inl (fun _ => 0)))) : Nat × va_E)) := by
  intro is
  induction is with
  | nil => rfl
  | cons i is ih =>
    rw [List.length_cons, List.replicate_succ]
    show (r i, ceE cs a (4, K, [])) :: cwE cs a (is.map r) (List.replicate is.length (4, K, [])) = _
    rw [ih]
    rfl
theorem pl_rows {f : Nat → va_E} {e1 : va_E} {rs : List Nat} : va_pl rs (vr_up f rs e1) = rs.map (fun q => (q, e1)) := by
  unfold va_pl
  apply List.map_congr_left
  intro q hq
  rw [vr_up_in hq]
set_option maxHeartbeats 4000000 in
theorem snd_mna {ix k9 : Nat} {x y : Int32} (C : CtxC D cs a0 B0 SX p s m args meth c0 c) (hi : iCd c pc = some (.multianewarray ix k9, n, a)) (ho : okS w lv st = true) (hx0 : ¬ x < 0) (hy0 : ¬ y < 0) (hx1 : x.toNatClampNeg ≤ 50) (hy1 : y.toNatClampNeg ≤ 1000) (hcR : cells + (1 + x.toNatClampNeg) ≤ R.cells) (hsR : slots + (x.toNatClampNeg + x.toNatClampNeg * y.toNatClampNeg) ≤ R.slots) (hl : LH (am a0 L) ls (iMx c) lv) (hC : CSt D cs a0 B0 L w H) (hS : va_S (fun q => B0 ≤ q) s.heap H locs)
    (kk : ∀ (H1 : Heap) (locs1 : List Loc) (ls1 : Array Slot) (L2 : List Nat), LH (am a0 (L ++ L2)) ls1 (iMx c) lv → CSt D cs a0 B0 (L ++ L2) (w ++ (6, x.toNatClampNeg, (List.range x.toNatClampNeg).map (fun i => .ref (w.length + 1 + i))) :: List.replicate x.toNatClampNeg (4, y.toNatClampNeg, [])) H1 → va_S (fun q => B0 ≤ q) s.heap H1 locs1 → W p l e R s m args below meth c0 H1 locs1 (cells + 1 + x.toNatClampNeg) (slots + x.toNatClampNeg + x.toNatClampNeg * y.toNatClampNeg) Q (F0 m (pc + 4) ls1 ((.ref w.length :: st).map (tr (am a0 (L ++ L2)))))) : W p l e R s m args below meth c0 H locs cells slots Q (F0 m pc ls (.int y :: .int x :: st.map (tr (am a0 L)))) := by
  obtain ⟨hx, hb, hml, hown, hts, hK, hN, hAO, hAA, hB, hSX, hin, hst⟩ := id C
  have hw := okI_2 hi
  simp only [okI2, Bool.and_eq_true, decide_eq_true_eq] at hw
  obtain ⟨⟨w1, rfl⟩, rfl⟩ := hw
  obtain ⟨o1, o2, o3, o4⟩ := okS_spec ho
  have hA : ∀ q : Nat, s.heap.size ≤ q → (fun q : Nat => B0 ≤ q) q := fun q hq => Nat.le_trans hB hq
  have hal : Cond.arrayClass .long ∈ TS := clsS_mem (List.all_eq_true.mp okI_g _ (by simp))
  have e0 : "[" ++ (FieldType.array .long).toString = "[[J" := by decide
  refine va_mna (X := cwE cs (am a0 L) L w) (L := []) (f := fun _ => .inr (0, [])) (ty := .long) (cy := cs 2) (z := (y.toNatClampNeg, .inr (.inl (fun _ => 0)))) hx hb hown (by rw [e0]; exact hts _ (clsS_mem w1)) hAA (hts _ hal) (RA_find (hK.2 2 (cs 2, .long) rfl).2) hK (by show va_P D cls9 (_ ++ []) H; rw [List.append_nil]; exact hC.2.1) (by show va_D _ (_ ++ []); rw [List.append_nil]; exact hC.2.2) hS hA hx0 hy0 rfl rfl (by omega) (by show _ * 8 ≤ _; omega) (by omega) rfl rfl hcR hsR (fun c => by show _ = arrV c y.toNatClampNeg (fun _ => .long 0); rw [← arrV_new]; rfl) (okI_dec hi (by simp)) (fun q r cA H1 hinj hnl k2 p1 p2 p3 => ?_)
  have e9 := K_last k2 5 rfl
  subst e9
  rw [List.nil_append, pl_rows, List.append_assoc] at p1 p2
  have hlen2 : ∀ j, j < x.toNatClampNeg → am a0 (L ++ q :: (List.range x.toNatClampNeg).map r) (w.length + 1 + j) = r j := by
    intro j hj
    unfold am
    rw [if_pos (by omega), List.getD_eq_getElem?_getD, List.getElem?_append_right (by rw [hC.1]; omega), hC.1, show w.length + 1 + j - w.length = j + 1 by omega, List.getElem?_cons_succ, List.getElem?_map, List.getElem?_range hj]
    rfl
  have ee : ceE cs (am a0 (L ++ q :: (List.range x.toNatClampNeg).map r)) (6, x.toNatClampNeg, (List.range x.toNatClampNeg).map (fun i => .ref (w.length + 1 + i))) = .inl (cs 5, x.toNatClampNeg, .inr (.inr (.inr (.inr (fun i => if i < x.toNatClampNeg then some (r i) else none))))) := by
    have : (fun j => rfA (am a0 (L ++ q :: (List.range x.toNatClampNeg).map r)) (((List.range x.toNatClampNeg).map (fun i => Value.ref (w.length + 1 + i))).getD j .null)) = fun i => if i < x.toNatClampNeg then some (r i) else none := by
      funext j
      rw [List.getD_eq_getElem?_getD, List.getElem?_map]
      by_cases hj : j < x.toNatClampNeg
      · rw [List.getElem?_range hj, if_pos hj]
        show some (am a0 _ (w.length + 1 + j)) = _
        rw [hlen2 j hj]
      · rw [List.getElem?_eq_none (by rw [List.length_range]; omega), if_neg hj]
        rfl
    show (Sum.inl (cs 5, x.toNatClampNeg, .inr (.inr (.inr (.inr (fun j => rfA (am a0 (L ++ q :: (List.range x.toNatClampNeg).map r)) (((List.range x.toNatClampNeg).map (fun i => Value.ref (w.length + 1 + i))).getD j .null)))))) : va_E) = _
    rw [this]
  have ew : cwE cs (am a0 (L ++ q :: (List.range x.toNatClampNeg).map r)) (q :: (List.range x.toNatClampNeg).map r) ((6, x.toNatClampNeg, (List.range x.toNatClampNeg).map (fun i => .ref (w.length + 1 + i))) :: List.replicate x.toNatClampNeg (4, y.toNatClampNeg, [])) = ([(q, Sum.inl (cs 5, x.toNatClampNeg, .inr (.inr (.inr (.inr (fun i => if i < x.toNatClampNeg then some (r i) else none))))))] : va_W) ++ ((List.range x.toNatClampNeg).map r).map (fun q => ((q, Sum.inl (cs 2, y.toNatClampNeg, .inr (.inl (fun _ => 0)))) : Nat × va_E)) := by
    have h8 := cwE_rows (cs := cs) (a := am a0 (L ++ q :: (List.range x.toNatClampNeg).map r)) (r := r) (K := y.toNatClampNeg) (List.range x.toNatClampNeg)
    rw [List.length_range] at h8
    show (q, ceE cs _ _) :: cwE cs _ ((List.range x.toNatClampNeg).map r) (List.replicate x.toNatClampNeg (4, y.toNatClampNeg, [])) = _
    rw [ee, h8]
    rfl
  have hCS : CSt D cs a0 B0 (L ++ q :: (List.range x.toNatClampNeg).map r) (w ++ (6, x.toNatClampNeg, (List.range x.toNatClampNeg).map (fun i => .ref (w.length + 1 + i))) :: List.replicate x.toNatClampNeg (4, y.toNatClampNeg, [])) H1 := by
    refine ⟨by simp [hC.1], ?_, ?_⟩
    · rw [cwE_app hC.1 o1, ew]
      exact p1
    · rw [cwE_app hC.1 o1, ew]
      exact p2
  have k1 := kk H1 locs ls (q :: (List.range x.toNatClampNeg).map r) (LH_ext (by rw [hC.1]; exact o2) hl) hCS p3
  rw [List.map_cons, st_ext (by rw [hC.1]; exact o3)] at k1
  have e2 : tr (am a0 (L ++ q :: (List.range x.toNatClampNeg).map r)) (.ref w.length) = .ref q := by
    show Value.ref (am a0 (L ++ q :: (List.range x.toNatClampNeg).map r) w.length) = _
    unfold am
    rw [if_pos (by omega), List.getD_eq_getElem?_getD, List.getElem?_append_right (by rw [hC.1]; exact Nat.le_refl _), hC.1, Nat.sub_self]
    rfl
  rw [e2] at k1
  exact k1
set_option maxHeartbeats 4000000 in
theorem snd_aast {v i9 r k : Nat} {i : Int32} {rs vs : List Value} (C : CtxC D cs a0 B0 SX p s m args meth c0 c) (hi : iCd c pc = some (.aastore, n, a)) (h1 : w[r]? = some (5, k, rs)) (h2 : w[v]? = some (0, 3, vs)) (h3 : rs.length = k) (h4 : r < 1000) (h5 : v < 1000) (h6 : ¬ (i < 0 ∨ k ≤ i.toNatClampNeg)) (hC : CSt D cs a0 B0 L w H) (hS : va_S (fun q => B0 ≤ q) s.heap H locs)
    (kk : ∀ (H1 : Heap) (locs1 : List Loc), CSt D cs a0 B0 L (w.set r (5, k, rs.set i.toNatClampNeg (.ref v))) H1 → va_S (fun q => B0 ≤ q) s.heap H1 locs1 → W p l e R s m args below meth c0 H1 locs1 cells slots Q (F0 m (pc + 1) ls (st.map (tr (am a0 L))))) : W p l e R s m args below meth c0 H locs cells slots Q (F0 m pc ls (.ref (am a0 L v) :: .int i :: .ref (am a0 L r) :: st.map (tr (am a0 L)))) := by
  obtain ⟨hx, hb, hml, hown, hts, hK, hN, hAO, hAA, hB, hSX, hin, hst⟩ := id C
  have hw := okI_2 hi
  simp only [okI2, Bool.or_eq_true, decide_eq_true_eq] at hw
  have hn : n = 1 := by
    rcases hw with z | z
    · cases z
    · exact z
  subst hn
  rw [am_at h4, am_at h5]
  refine va_astq (a := L.getD r 0) (v := L.getD v 0) (q0 := r) (t0 := 4) (qk := v) (ci := 3) (r := (RX3, TX3, 9)) (cA := cs 4) (n := k) (f := fun j => rfA (am a0 L) (rs.getD j .null)) (vs := vs.map (tr (am a0 L))) hx hb hK hC.2.1 hC.2.2 hS (cwE_get hC.1 h1) rfl (cwE_get hC.1 h2) rfl h6 (okI_dec hi (by simp)) (fun H1 locs1 p1 p2 p3 => ?_)
  have hlt : i.toNatClampNeg < k := Nat.not_le.mp fun q => h6 (Or.inr q)
  have ee : ceE cs (am a0 L) (5, k, rs.set i.toNatClampNeg (.ref v)) = .inl (cs 4, k, .inr (.inr (.inr (.inr (va_up (fun j => rfA (am a0 L) (rs.getD j .null)) i.toNatClampNeg (some (L.getD v 0))))))) := by
    have : (fun j => rfA (am a0 L) ((rs.set i.toNatClampNeg (.ref v)).getD j .null)) = va_up (fun j => rfA (am a0 L) (rs.getD j .null)) i.toNatClampNeg (some (L.getD v 0)) := by
      funext j
      unfold va_up
      rw [List.getD_eq_getElem?_getD, List.getElem?_set]
      by_cases hj : i.toNatClampNeg = j
      · rw [if_pos hj, if_pos (by rw [h3]; omega), if_pos hj.symm]
        show some (am a0 L v) = _
        rw [am_at h5]
      · rw [if_neg hj, if_neg (Ne.symm hj)]
        show _ = rfA (am a0 L) (rs.getD j .null)
        rw [List.getD_eq_getElem?_getD]
    show (Sum.inl (cs 4, k, .inr (.inr (.inr (.inr (fun j => rfA (am a0 L) ((rs.set i.toNatClampNeg (.ref v)).getD j .null)))))) : va_E) = _
    rw [this]
  refine kk H1 locs1 ⟨by rw [List.length_set]; exact hC.1, ?_, ?_⟩ p3
  · rw [cwE_set hC.1 h1, ee]
    exact p1
  · rw [cwE_set hC.1 h1, ee]
    exact p2
set_option maxHeartbeats 4000000 in
theorem snd_putC {ix o : Nat} {v : Value} {fs : List Value} (C : CtxC D cs a0 B0 SX p s m args meth c0 c) (hi : iCd c pc = some (.putfield ix, n, a)) (h1 : w[o]? = some (0, c, fs)) (h3 : o < 1000) (h4 : a < fs.length) (h5 : fitC (clY c a) v = true) (hC : CSt D cs a0 B0 L w H) (hS : va_S (fun q => B0 ≤ q) s.heap H locs)
    (kk : ∀ (H1 : Heap) (locs1 : List Loc), CSt D cs a0 B0 L (w.set o (0, c, fs.set a v)) H1 → va_S (fun q => B0 ≤ q) s.heap H1 locs1 → W p l e R s m args below meth c0 H1 locs1 cells slots Q (F0 m (pc + 3) ls (st.map (tr (am a0 L))))) : W p l e R s m args below meth c0 H locs cells slots Q (F0 m pc ls (tr (am a0 L) v :: .ref (am a0 L o) :: st.map (tr (am a0 L)))) := by
  obtain ⟨hx, hb, hml, hown, hts, hK, hN, hAO, hAA, hB, hSX, hin, hst⟩ := id C
  have hw := okI_2 hi
  simp only [okI2, Bool.and_eq_true, decide_eq_true_eq] at hw
  obtain ⟨⟨⟨⟨w1, w2⟩, h9⟩, w3⟩, rfl⟩ := hw
  obtain ⟨f1, f2⟩ := fitC_ok (a := am a0 L) h5
  have hc9 : c ≠ 9 := by omega
  have hin2 := hin.resolve_left hc9
  have hk9 : ∀ (H1 : Heap) (locs1 : List Loc), va_P D cls9 ((cwE cs (am a0 L) L w).set o (L.getD o 0, .inr (c, (fs.map (tr (am a0 L))).set a (tr (am a0 L) v)))) H1 → va_D (fun q => B0 ≤ q) ((cwE cs (am a0 L) L w).set o (L.getD o 0, .inr (c, (fs.map (tr (am a0 L))).set a (tr (am a0 L) v)))) → va_S (fun q => B0 ≤ q) s.heap H1 locs1 → W p l e R s m args below meth c0 H1 locs1 cells slots Q (F0 m (pc + 3) ls (st.map (tr (am a0 L)))) := by
    intro H1 locs1 p1 p2 p3
    have ee : ceE cs (am a0 L) (0, c, fs.set a v) = .inr (c, (fs.map (tr (am a0 L))).set a (tr (am a0 L) v)) := by
      show (Sum.inr (c, (fs.set a v).map (tr (am a0 L))) : va_E) = _
      rw [List.map_set]
    refine kk H1 locs1 ⟨by rw [List.length_set]; exact hC.1, ?_, ?_⟩ p3
    · rw [cwE_set hC.1 h1, ee]
      exact p1
    · rw [cwE_set hC.1 h1, ee]
      exact p2
  rw [am_at h3]
  cases hfin : (clT c a).2.2.2 with
  | false =>
    exact va_put (C := clR c) (T := (cls9.getD c ("", TX2, 0)).2.1) (N := clN c) (ci := c) hx hb hts (cls9_in h9) (clY c) (clY_ok h9) (clNm_ok h9) hown hK hC.2.1 hC.2.2 hS o (fs := fs.map (tr (am a0 L))) (cwE_get hC.1 h1) (cls9_at h9) a w3 (hts _ (clsS_mem w1)) (fun _ z => z) hfin (clY_ok h9 _ w3) f1 f2 (by rw [List.length_map]; exact h4) (okI_dec hi (by simp)) hk9
  | true =>
    exact va_putF (C := clR c) (T := (cls9.getD c ("", TX2, 0)).2.1) (N := clN c) (ci := c) hx hb hts (cls9_in h9) (clY c) (clY_ok h9) (clNm_ok h9) hown hK hC.2.1 hC.2.2 hS o (fs := fs.map (tr (am a0 L))) (cwE_get hC.1 h1) (cls9_at h9) a w3 (hts _ (clsS_mem w1)) (fun _ z => z) hfin hin2 w2 (clY_ok h9 _ w3) f1 f2 (by rw [List.length_map]; exact h4) (okI_dec hi (by simp)) hk9
theorem snd_getC {ix o : Nat} {v : Value} {fs : List Value} (C : CtxC D cs a0 B0 SX p s m args meth c0 c) (hi : iCd c pc = some (.getfield ix, n, a)) (h1 : w[o]? = some (0, a / 64, fs)) (h3 : o < 1000) (h4 : fs[a % 64]? = some v) (hC : CSt D cs a0 B0 L w H)
    (kk : W p l e R s m args below meth c0 H locs cells slots Q (F0 m (pc + 3) ls (tr (am a0 L) v :: st.map (tr (am a0 L))))) : W p l e R s m args below meth c0 H locs cells slots Q (F0 m pc ls (.ref (am a0 L o) :: st.map (tr (am a0 L)))) := by
  obtain ⟨hx, hb, hml, hown, hts, hK, hN, hAO, hAA, hB, hSX, hin, hst⟩ := id C
  have hw := okI_2 hi
  simp only [okI2, Bool.and_eq_true, decide_eq_true_eq] at hw
  obtain ⟨⟨⟨w1, h9⟩, w3⟩, rfl⟩ := hw
  rw [am_at h3]
  exact va_get (C := clR (a / 64)) (T := (cls9.getD (a / 64) ("", TX2, 0)).2.1) (N := clN (a / 64)) (ci := a / 64) hx hb hts (cls9_in h9) hown hK hC.2.1 o (fs := fs.map (tr (am a0 L))) (cwE_get hC.1 h1) (cls9_at h9) (a % 64) w3 (hts _ (clsS_mem w1)) (fun _ z => z) (by rw [List.getElem?_map, h4]; rfl) (okI_dec hi (by simp)) kk
end
