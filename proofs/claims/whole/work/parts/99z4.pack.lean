/-! packed. -/
def pkA (i : Nat) : Nat → Int64
  | 0 => 0
  | k + 1 => pkA i k * 27 + (chS i k - 97 + 1).toInt64
theorem pk_end : ∀ i, i < 4 → pkA i (lenS.getD i 0) = pwS.getD i 0 := by decide +kernel
section
variable {adK adV : Nat → Nat} {B0 : Nat} {l : Launch}
abbrev rmP : Room := { frames := 8, cells := 0, slots := 0, locals := 500 }
set_option maxHeartbeats 4000000 in
theorem s_packed {i : Nat} (hi : i < 4) : Met l yX4_packed wsP rmP (va_Pc [.ref (adK i)] (PreP (SXf adK adV B0) B0)) (QcP i) 0 0 (fun q => B0 ≤ q) := by
  have h5 := len_lt hi
  refine Met_ofWF (cc := cX4_packed) (maxL := 4) (ret := some .long) (by decide +kernel) rfl ?_
  intro p e s m args below meth c s₁ B hml hv
  obtain ⟨rfl, hX, hB⟩ := hv
  have hx := B.exec
  have hb := B.bytes
  have hr := B.returns
  have hlk := B.notSynchronized
  have hown : s.vm.findClass RX4 = some m.cls := findClass_of_methodNamed B.named
  have hts : ∀ w ∈ TS, w.before [Value.ref (adK i)].toArray s = true := fun w hw => atoms_spec (ws := wsP) B.pre w (List.mem_cons_of_mem _ hw)
  rw [lg_entry_eq]
  have hl := lv_entry ([.ref (adK i)]) (n := 4) (Nat.le_of_ble_eq_true rfl)
  generalize (lg_sl ([.ref (adK i)]) ++ List.replicate (4 - (lg_sl ([.ref (adK i)])).length) Slot.unset).toArray = ls at hl ⊢
  have hl : lv_has ls 4 [(0, .ref (adK i))] := hl
  have loop : ∀ (n k : Nat), k + n = lenS.getD i 0 → ∀ (ls : Array Slot) (locs : List Loc), lv_has ls 4 [(3, .int (nI k)), (1, .long (pkA i k)), (0, .ref (adK i))] → va_S (fun q => B0 ≤ q) s.heap s.heap locs → W p l e (headSpec wsP rmP).room s m [Value.ref (adK i)].toArray below meth c s.heap locs 0 0 (MQ below (QcP i) [Value.ref (adK i)].toArray s 0 0 (fun q => B0 ≤ q)) (F0 m 4 ls []) := by
    intro n
    induction n with
    | zero =>
      intro k hk ls locs hl hS
      refine lv_iload_n hx hb (show decode cX4_packed 4 = .ok (.iload_n 3, 1) by decide +kernel) rfl (lv_at hl 0 rfl) ?_
      refine lv_aload_n hx hb (show decode cX4_packed 5 = .ok (.aload_n 0, 1) by decide +kernel) rfl (lv_at hl 2 rfl) ?_
      refine strV (As := []) (rest := [.int (nI k)]) hi hx hb hml hown hts hX hB hS mt_split.2.1 (sw_at 17 rfl) (sw_at 18 rfl) (sw_at 16 rfl) (s_len hi) rfl hl.1 rfl (Nat.le_of_ble_eq_true rfl) (show decode cX4_packed 6 = .ok (.invokevirtual 153, 3) by decide +kernel) (show 2 + 1 ≤ 8 by decide) (show 60 * 2 + 23 ≤ 500 by decide) (Nat.le_refl 0) (Nat.le_refl 0) (fun locs1 hS1 => ?_)
      refine lv_icmp_ge hx hb (tgt := 28) (show decode cX4_packed 9 = .ok (.if_icmp .ge 19, 3) by decide +kernel) (by decide) (fun _ => ?_) (fun z => absurd (by rw [Int32.le_iff_toInt_le, nI_toInt (by omega), nI_toInt (by omega)]; omega) z)
      refine lv_lload_n hx hb (show decode cX4_packed 28 = .ok (.lload_n 1, 1) by decide +kernel) rfl (lv_at hl 1 rfl) ?_
      have e9 : pkA i k = pwS.getD i 0 := by rw [show k = lenS.getD i 0 by omega]; exact pk_end i hi
      rw [e9]
      exact W.lret hx hb hr (fun t ht _ => ⟨rfl, ht⟩) hS1.2.2 (show decode cX4_packed 29 = .ok (.lreturn, 1) by decide +kernel) hlk
    | succ n ih =>
      intro k hk ls locs hl hS
      have hkl : k < lenS.getD i 0 := by omega
      refine lv_iload_n hx hb (show decode cX4_packed 4 = .ok (.iload_n 3, 1) by decide +kernel) rfl (lv_at hl 0 rfl) ?_
      refine lv_aload_n hx hb (show decode cX4_packed 5 = .ok (.aload_n 0, 1) by decide +kernel) rfl (lv_at hl 2 rfl) ?_
      refine strV (As := []) (rest := [.int (nI k)]) hi hx hb hml hown hts hX hB hS mt_split.2.1 (sw_at 17 rfl) (sw_at 18 rfl) (sw_at 16 rfl) (s_len hi) rfl hl.1 rfl (Nat.le_of_ble_eq_true rfl) (show decode cX4_packed 6 = .ok (.invokevirtual 153, 3) by decide +kernel) (show 2 + 1 ≤ 8 by decide) (show 60 * 2 + 23 ≤ 500 by decide) (Nat.le_refl 0) (Nat.le_refl 0) (fun locs1 hS1 => ?_)
      refine lv_icmp_ge hx hb (tgt := 28) (show decode cX4_packed 9 = .ok (.if_icmp .ge 19, 3) by decide +kernel) (by decide) (fun z => absurd z (by rw [Int32.le_iff_toInt_le, nI_toInt (by omega), nI_toInt (by omega)]; omega)) (fun _ => ?_)
      refine lv_lload_n hx hb (show decode cX4_packed 12 = .ok (.lload_n 1, 1) by decide +kernel) rfl (lv_at hl 1 rfl) ?_
      refine lv_aload_n hx hb (show decode cX4_packed 13 = .ok (.aload_n 0, 1) by decide +kernel) rfl (lv_at hl 2 rfl) ?_
      refine lv_iload_n hx hb (show decode cX4_packed 14 = .ok (.iload_n 3, 1) by decide +kernel) rfl (lv_at hl 0 rfl) ?_
      refine strV (As := [.int (nI k)]) (rest := [.long (pkA i k)]) hi hx hb hml hown hts hX hB hS1 mt_split.2.2.2.2.2.2.1 (sw_at 20 rfl) (sw_at 21 rfl) (sw_at 19 rfl) (s_cha hi hkl) rfl hl.1 rfl (Nat.le_of_ble_eq_true rfl) (show decode cX4_packed 15 = .ok (.invokevirtual 158, 3) by decide +kernel) (show 4 + 1 ≤ 8 by decide) (show 60 * 4 + 23 ≤ 500 by decide) (Nat.le_refl 0) (Nat.le_refl 0) (fun locs2 hS2 => ?_)
      refine strS (As := [.long (pkA i k), .int (chS i k)]) (rest := []) hx hb hml hown hts hX hB hS2 mt_split.2.2.2.2.2.2.2 (sw_at 23 rfl) (sw_at 22 rfl) s_let rfl hl.1 rfl (Nat.zero_le _) (show decode cX4_packed 18 = .ok (.invokestatic 145, 3) by decide +kernel) (show 1 + 1 ≤ 8 by decide) (show 60 * 1 + 23 ≤ 500 by decide) (Nat.le_refl 0) (Nat.le_refl 0) (fun locs3 hS3 => ?_)
      refine lv_lstore_n (lv' := [(1, .long (pkA i (k + 1))), (3, .int (nI k)), (0, .ref (adK i))]) hx hb (show decode cX4_packed 21 = .ok (.lstore_n 1, 1) by decide +kernel) rfl hl (by decide) rfl (fun ls1 hl1 => ?_)
      refine lv_iinc (k := 1) (v := nI (k + 1)) (lv' := [(3, .int (nI (k + 1))), (1, .long (pkA i (k + 1))), (0, .ref (adK i))]) hx hb (show decode cX4_packed 22 = .ok (.iinc 3 1, 3) by decide +kernel) hl1 rfl (by show nI k + Int32.ofInt 1 = nI (k + 1); rw [show Int32.ofInt 1 = 1 by decide]; exact nI_add k 1) (by decide) rfl (fun ls2 hl2 => ?_)
      refine lv_goto hx hb (tgt := 4) (show decode cX4_packed 25 = .ok (.goto (-21), 3) by decide +kernel) (by decide) ?_
      exact ih (k + 1) (by omega) ls2 locs3 hl2 hS3
  refine lv_lconst (v := 0) hx hb (show decode cX4_packed 0 = .ok (.lconst 0, 1) by decide +kernel) rfl ?_
  refine lv_lstore_n (lv' := [(1, .long 0), (0, .ref (adK i))]) hx hb (show decode cX4_packed 1 = .ok (.lstore_n 1, 1) by decide +kernel) rfl hl (by decide) rfl (fun ls1 hl1 => ?_)
  refine lv_iconst (v := 0) hx hb (show decode cX4_packed 2 = .ok (.iconst 0, 1) by decide +kernel) (by decide) ?_
  refine lv_istore_n (lv' := [(3, .int 0), (1, .long 0), (0, .ref (adK i))]) hx hb (show decode cX4_packed 3 = .ok (.istore_n 3, 1) by decide +kernel) rfl hl1 (by decide) rfl (fun ls2 hl2 => ?_)
  exact loop (lenS.getD i 0) 0 (by omega) ls2 [] hl2 va_S.rf
theorem PkH_ok {a0 : Nat → Nat} (h : ∀ i, i < 4 → a0 (2000 + i) = adK i) : PkH a0 B0 (SXf adK adV B0) l := by
  refine ⟨fun s U H hW hs => SXf_moved hW hs, fun U H H1 hq hs => SXf_kept hq hs, fun i hi => ?_⟩
  rw [h i hi]
  exact s_packed hi
end
