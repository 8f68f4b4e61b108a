section
variable {adK adV : Nat → Nat} {B0 : Nat} {l : Launch}
theorem s_chk {k n : Nat} (hk : k < n) (hn : n ≤ 5) : Met l yJ0_checkIndex_df160 (wsY yJ0_checkIndex_df160 cJ0_checkIndex_df160 2 none) (rmS 2) (va_Pc [.int (nI k), .int (nI n)] (PreP (SXf adK adV B0) B0)) (QcV none) 0 0 (fun q => B0 ≤ q) := by
  refine str_met (mtS_spec mt_split.2.2.2.2.1).2.1 (Nat.le_of_ble_eq_true rfl) (fun p e s m below meth c ls hx hb hml hown hts hX hB hr hlk hl => ?_)
  have hS : va_S (fun q : Nat => B0 ≤ q) s.heap s.heap [] := va_S.rf
  refine lv_iload_n hx hb (show decode cJ0_checkIndex_df160 0 = .ok (.iload_n 0, 1) by decide +kernel) rfl (lv_at hl 0 rfl) ?_
  refine lv_iload_n hx hb (show decode cJ0_checkIndex_df160 1 = .ok (.iload_n 1, 1) by decide +kernel) rfl (lv_at hl 1 rfl) ?_
  have key : ∀ v : Value, v.category = 1 → va_Z "jdk/internal/util/Preconditions" "SIOOBE_FORMATTER" "Ljava/util/function/BiFunction;" v (fun q => B0 ≤ q) s s.heap → W p l e (rmS 2) s m [Value.int (nI k), .int (nI n)].toArray below meth c s.heap [] 0 0 (MQ below (QcV none) [Value.int (nI k), .int (nI n)].toArray s 0 0 (fun q => B0 ≤ q)) (F0 m 2 ls [.int (nI n), .int (nI k)]) := by
    intro v hv hZ
    refine va_gets hx hb hZ hS hown (hts _ (clsS_mem (sw_at 13 rfl))) (fun _ h => h) (show decode cJ0_checkIndex_df160 2 = .ok (.getstatic 1053, 3) by decide +kernel) ?_
    refine strS (As := [.int (nI k), .int (nI n), v]) (rest := []) hx hb hml hown hts hX hB hS mt_split.2.2.2.1 (sw_at 15 rfl) (sw_at 14 rfl) (s_pre hk hn hv) rfl hl.1 rfl (Nat.zero_le _) (show decode cJ0_checkIndex_df160 5 = .ok (.invokestatic 1059, 3) by decide +kernel) (Nat.le_refl 2) (by decide) (Nat.le_refl 0) (Nat.le_refl 0) (fun locs1 hS1 => ?_)
    refine lv_pop hx hb (show decode cJ0_checkIndex_df160 8 = .ok (.pop, 1) by decide +kernel) rfl ?_
    exact W.vret hx hb hr (fun t ht _ => ⟨rfl, ht⟩) hS1.2.2 (show decode cJ0_checkIndex_df160 9 = .ok (.return_, 1) by decide +kernel) hlk
  rcases hX.2.2 with hZ | ⟨t, hZ⟩
  · exact key .null rfl hZ
  · exact key (.ref t) rfl hZ
theorem s_lch {i k : Nat} (hi : i < 4) (hk : k < lenS.getD i 0) : Met l yJ1_charAt_3b067 (wsY yJ1_charAt_3b067 cJ1_charAt_3b067 2 (some .char)) (rmS 3) (va_Pc [.ref (adV i), .int (nI k)] (PreP (SXf adK adV B0) B0)) (QcV (some (.int (chS i k)))) 0 0 (fun q => B0 ≤ q) := by
  have h5 := len_lt hi
  refine str_met (mtS_spec mt_split.2.2.2.2.2.1).2.1 (Nat.le_of_ble_eq_true rfl) (fun p e s m below meth c ls hx hb hml hown hts hX hB hr hlk hl => ?_)
  have hS : va_S (fun q : Nat => B0 ≤ q) s.heap s.heap [] := va_S.rf
  refine lv_iload_n hx hb (show decode cJ1_charAt_3b067 0 = .ok (.iload_n 1, 1) by decide +kernel) rfl (lv_at hl 1 rfl) ?_
  refine lv_aload_n hx hb (show decode cJ1_charAt_3b067 1 = .ok (.aload_n 0, 1) by decide +kernel) rfl (lv_at hl 0 rfl) ?_
  refine va_tlen hx hb (hX.1.1 i hi).2.2.2 hS (v := nI (lenS.getD i 0)) rfl (show decode cJ1_charAt_3b067 2 = .ok (.arraylength, 1) by decide +kernel) ?_
  refine strS (As := [.int (nI k), .int (nI (lenS.getD i 0))]) (rest := []) hx hb hml hown hts hX hB hS mt_split.2.2.2.2.1 (sw_at 12 rfl) (sw_at 11 rfl) (s_chk hk h5) rfl hl.1 rfl (Nat.zero_le _) (show decode cJ1_charAt_3b067 3 = .ok (.invokestatic 9, 3) by decide +kernel) (Nat.le_refl 3) (by decide) (Nat.le_refl 0) (Nat.le_refl 0) (fun locs1 hS1 => ?_)
  refine lv_aload_n hx hb (show decode cJ1_charAt_3b067 6 = .ok (.aload_n 0, 1) by decide +kernel) rfl (lv_at hl 0 rfl) ?_
  refine lv_iload_n hx hb (show decode cJ1_charAt_3b067 7 = .ok (.iload_n 1, 1) by decide +kernel) rfl (lv_at hl 1 rfl) ?_
  have hcl : (nI k).toNatClampNeg = k := by rw [← Int32.toNat_toInt, nI_toInt (by omega)]; rfl
  have hin : vp_in (nI k) (lenS.getD i 0) := by
    rintro (z | z)
    · rw [Int32.lt_iff_toInt_lt, nI_toInt (by omega)] at z
      have : (k : Int) < 0 := z
      omega
    · rw [hcl] at z
      omega
  refine va_tb hx hb (hX.1.1 i hi).2.2.2 hS1 hin (v := .int (chS i k)) (by show Value.int ((bytS.getD i []).getD (nI k).toNatClampNeg 0) = _; rw [hcl]; rfl) (show decode cJ1_charAt_3b067 8 = .ok (.baload, 1) by decide +kernel) ?_
  refine lv_sipush (v := 255) hx hb (show decode cJ1_charAt_3b067 9 = .ok (.sipush 255, 3) by decide +kernel) (by decide) ?_
  refine lv_iand hx hb (show decode cJ1_charAt_3b067 12 = .ok (.iand, 1) by decide +kernel) ?_
  obtain ⟨c1, c2⟩ := ch_ok i hi k (by omega)
  refine lv_i2c hx hb (show decode cJ1_charAt_3b067 13 = .ok (.i2c, 1) by decide +kernel) c1 ?_
  exact W.zret (ty := .char) hx hb hr c2 (fun t ht _ => ⟨rfl, ht⟩) hS1.2.2 (show decode cJ1_charAt_3b067 14 = .ok (.ireturn, 1) by decide +kernel) hlk
theorem s_cha {i k : Nat} (hi : i < 4) (hk : k < lenS.getD i 0) : Met l yJ0_charAt_5068e (wsY yJ0_charAt_5068e cJ0_charAt_5068e 2 (some .char)) (rmS 4) (va_Pc [.ref (adK i), .int (nI k)] (PreP (SXf adK adV B0) B0)) (QcV (some (.int (chS i k)))) 0 0 (fun q => B0 ≤ q) := by
  have h5 := len_lt hi
  refine str_met (mtS_spec mt_split.2.2.2.2.2.2.1).2.1 (Nat.le_of_ble_eq_true rfl) (fun p e s m below meth c ls hx hb hml hown hts hX hB hr hlk hl => ?_)
  have hS : va_S (fun q : Nat => B0 ≤ q) s.heap s.heap [] := va_S.rf
  refine lv_aload_n hx hb (show decode cJ0_charAt_5068e 0 = .ok (.aload_n 0, 1) by decide +kernel) rfl (lv_at hl 0 rfl) ?_
  refine strV (As := []) (rest := []) hi hx hb hml hown hts hX hB hS mt_split.2.2.1 (sw_at 7 rfl) (sw_at 8 rfl) (sw_at 6 rfl) (s_lat hi) rfl hl.1 rfl (Nat.zero_le _) (show decode cJ0_charAt_5068e 1 = .ok (.invokevirtual 492, 3) by decide +kernel) (show 1 + 1 ≤ 4 by decide) (by decide) (Nat.le_refl 0) (Nat.le_refl 0) (fun locs1 hS1 => ?_)
  refine lv_if_eq hx hb (tgt := 16) (show decode cJ0_charAt_5068e 4 = .ok (.ifCond .eq 12, 3) by decide +kernel) (by decide) (fun z => absurd z (by decide)) (fun _ => ?_)
  refine lv_aload_n hx hb (show decode cJ0_charAt_5068e 7 = .ok (.aload_n 0, 1) by decide +kernel) rfl (lv_at hl 0 rfl) ?_
  refine vk_getf hx hb (hX.1.1 i hi).2.2.1 hS1 hown (hts _ (clsS_mem (sw_at 2 rfl))) (fun _ h => h) (show decode cJ0_charAt_5068e 8 = .ok (.getfield 9, 3) by decide +kernel) ?_
  refine lv_iload_n hx hb (show decode cJ0_charAt_5068e 11 = .ok (.iload_n 1, 1) by decide +kernel) rfl (lv_at hl 1 rfl) ?_
  refine strS (As := [.ref (adV i), .int (nI k)]) (rest := []) hx hb hml hown hts hX hB hS1 mt_split.2.2.2.2.2.1 (sw_at 10 rfl) (sw_at 9 rfl) (s_lch hi hk) rfl hl.1 rfl (Nat.zero_le _) (show decode cJ0_charAt_5068e 12 = .ok (.invokestatic 495, 3) by decide +kernel) (Nat.le_refl 4) (by decide) (Nat.le_refl 0) (Nat.le_refl 0) (fun locs2 hS2 => ?_)
  obtain ⟨c1, c2⟩ := ch_ok i hi k (by omega)
  exact W.zret (ty := .char) hx hb hr c2 (fun t ht _ => ⟨rfl, ht⟩) hS2.2.2 (show decode cJ0_charAt_5068e 15 = .ok (.ireturn, 1) by decide +kernel) hlk
theorem s_let {x : Int64} {y : Int32} : Met l yX4_withLetter (wsY yX4_withLetter cX4_withLetter 3 (some .long)) (rmS 1) (va_Pc [.long x, .int y] (PreP (SXf adK adV B0) B0)) (QcV (some (.long (x * 27 + (y - 97 + 1).toInt64)))) 0 0 (fun q => B0 ≤ q) := by
  refine str_met (mtS_spec mt_split.2.2.2.2.2.2.2).2.1 (Nat.le_of_ble_eq_true rfl) (fun p e s m below meth c ls hx hb hml hown hts hX hB hr hlk hl => ?_)
  have hS : va_S (fun q : Nat => B0 ≤ q) s.heap s.heap [] := va_S.rf
  refine lv_lload_n hx hb (show decode cX4_withLetter 0 = .ok (.lload_n 0, 1) by decide +kernel) rfl (lv_at hl 0 rfl) ?_
  refine lv_ldc2 hx hb hown (hts _ (clsS_mem (sw_at 24 rfl))) (show decode cX4_withLetter 1 = .ok (.ldc2_w 151, 3) by decide +kernel) ?_
  refine lv_lmul hx hb (show decode cX4_withLetter 4 = .ok (.lmul, 1) by decide +kernel) ?_
  refine lv_iload_n hx hb (show decode cX4_withLetter 5 = .ok (.iload_n 2, 1) by decide +kernel) rfl (lv_at hl 1 rfl) ?_
  refine lv_bipush (v := 97) hx hb (show decode cX4_withLetter 6 = .ok (.bipush 97, 2) by decide +kernel) (by decide) ?_
  refine lv_isub hx hb (show decode cX4_withLetter 8 = .ok (.isub, 1) by decide +kernel) ?_
  refine lv_iconst (v := 1) hx hb (show decode cX4_withLetter 9 = .ok (.iconst 1, 1) by decide +kernel) (by decide) ?_
  refine lv_iadd hx hb (show decode cX4_withLetter 10 = .ok (.iadd, 1) by decide +kernel) ?_
  refine lv_i2l hx hb (show decode cX4_withLetter 11 = .ok (.i2l, 1) by decide +kernel) rfl ?_
  refine lv_ladd hx hb (show decode cX4_withLetter 12 = .ok (.ladd, 1) by decide +kernel) ?_
  exact W.lret hx hb hr (fun t ht _ => ⟨rfl, ht⟩) hS.2.2 (show decode cX4_withLetter 13 = .ok (.lreturn, 1) by decide +kernel) hlk
end
