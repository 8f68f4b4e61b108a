/-! The methods of strings. -/
set_option maxRecDepth 20000 in
theorem mt_all : (mtS yJ0_coder_7d493 cJ0_coder_7d493 1 (some .byte) 0 && mtS yJ0_length_8abf5 cJ0_length_8abf5 1 (some .int) 0 && mtS yJ0_isLatin1_aae02 cJ0_isLatin1_aae02 1 (some .boolean) 0 && mtS yJ3_checkIndex_8e157 cJ3_checkIndex_8e157 3 (some .int) 3 && mtS yJ0_checkIndex_df160 cJ0_checkIndex_df160 2 none 2 && mtS yJ1_charAt_3b067 cJ1_charAt_3b067 2 (some .char) 2 && mtS yJ0_charAt_5068e cJ0_charAt_5068e 2 (some .char) 1 && mtS yX4_withLetter cX4_withLetter 3 (some .long) 2) = true := by decide +kernel
theorem mt_split : mtS yJ0_coder_7d493 cJ0_coder_7d493 1 (some .byte) 0 = true ∧ mtS yJ0_length_8abf5 cJ0_length_8abf5 1 (some .int) 0 = true ∧ mtS yJ0_isLatin1_aae02 cJ0_isLatin1_aae02 1 (some .boolean) 0 = true ∧ mtS yJ3_checkIndex_8e157 cJ3_checkIndex_8e157 3 (some .int) 3 = true ∧ mtS yJ0_checkIndex_df160 cJ0_checkIndex_df160 2 none 2 = true ∧ mtS yJ1_charAt_3b067 cJ1_charAt_3b067 2 (some .char) 2 = true ∧ mtS yJ0_charAt_5068e cJ0_charAt_5068e 2 (some .char) 1 = true ∧ mtS yX4_withLetter cX4_withLetter 3 (some .long) 2 = true := by
  have h := mt_all
  simp only [Bool.and_eq_true] at h
  exact ⟨h.1.1.1.1.1.1.1, h.1.1.1.1.1.1.2, h.1.1.1.1.1.2, h.1.1.1.1.2, h.1.1.1.2, h.1.1.2, h.1.2, h.2⟩
set_option maxRecDepth 20000 in
theorem sw_all : [Cond.fieldLink RJ0 38 "java/lang/String" "COMPACT_STRINGS" "Z", .fieldLink RJ0 15 "java/lang/String" "coder" "B", .fieldLink RJ0 9 "java/lang/String" "value" "[B", .methodLink RJ0 335 yJ0_coder_7d493, .instanceMethod yJ0_coder_7d493, .selects "java/lang/String" yJ0_coder_7d493 yJ0_coder_7d493, .methodLink RJ0 492 yJ0_isLatin1_aae02, .instanceMethod yJ0_isLatin1_aae02, .selects "java/lang/String" yJ0_isLatin1_aae02 yJ0_isLatin1_aae02, .methodLink RJ0 495 yJ1_charAt_3b067, .static yJ1_charAt_3b067, .methodLink RJ1 9 yJ0_checkIndex_df160, .static yJ0_checkIndex_df160, .fieldLink RJ0 1053 "jdk/internal/util/Preconditions" "SIOOBE_FORMATTER" "Ljava/util/function/BiFunction;", .methodLink RJ0 1059 yJ3_checkIndex_8e157, .static yJ3_checkIndex_8e157, .methodLink RX4 153 yJ0_length_8abf5, .instanceMethod yJ0_length_8abf5, .selects "java/lang/String" yJ0_length_8abf5 yJ0_length_8abf5, .methodLink RX4 158 yJ0_charAt_5068e, .instanceMethod yJ0_charAt_5068e, .selects "java/lang/String" yJ0_charAt_5068e yJ0_charAt_5068e, .methodLink RX4 145 yX4_withLetter, .static yX4_withLetter, .constantLong RX4 151 27].all clsS = true := by decide +kernel
def swL : List Cond := [Cond.fieldLink RJ0 38 "java/lang/String" "COMPACT_STRINGS" "Z", .fieldLink RJ0 15 "java/lang/String" "coder" "B", .fieldLink RJ0 9 "java/lang/String" "value" "[B", .methodLink RJ0 335 yJ0_coder_7d493, .instanceMethod yJ0_coder_7d493, .selects "java/lang/String" yJ0_coder_7d493 yJ0_coder_7d493, .methodLink RJ0 492 yJ0_isLatin1_aae02, .instanceMethod yJ0_isLatin1_aae02, .selects "java/lang/String" yJ0_isLatin1_aae02 yJ0_isLatin1_aae02, .methodLink RJ0 495 yJ1_charAt_3b067, .static yJ1_charAt_3b067, .methodLink RJ1 9 yJ0_checkIndex_df160, .static yJ0_checkIndex_df160, .fieldLink RJ0 1053 "jdk/internal/util/Preconditions" "SIOOBE_FORMATTER" "Ljava/util/function/BiFunction;", .methodLink RJ0 1059 yJ3_checkIndex_8e157, .static yJ3_checkIndex_8e157, .methodLink RX4 153 yJ0_length_8abf5, .instanceMethod yJ0_length_8abf5, .selects "java/lang/String" yJ0_length_8abf5 yJ0_length_8abf5, .methodLink RX4 158 yJ0_charAt_5068e, .instanceMethod yJ0_charAt_5068e, .selects "java/lang/String" yJ0_charAt_5068e yJ0_charAt_5068e, .methodLink RX4 145 yX4_withLetter, .static yX4_withLetter, .constantLong RX4 151 27]
theorem sw_at (i : Nat) {w : Cond} (h : swL[i]? = some w) : clsS w = true := List.all_eq_true.mp sw_all w (List.mem_of_getElem? h)
theorem len_lt {i : Nat} (hi : i < 4) : lenS.getD i 0 ≤ 5 := by
  match i, hi with
  | 0, _ => decide
  | 1, _ => decide
  | 2, _ => decide
  | 3, _ => decide
def chS (i k : Nat) : Int32 := (bytS.getD i []).getD k 0
theorem ch_ok : ∀ i, i < 4 → ∀ k, k < 5 → ((chS i k &&& 255).toUInt32 % 65536).toInt32 = chS i k ∧ narrow .char (.int (chS i k)) = .int (chS i k) := by decide +kernel
section
variable {adK adV : Nat → Nat} {B0 : Nat} {l : Launch}
theorem s_coder {i : Nat} (hi : i < 4) : Met l yJ0_coder_7d493 (wsY yJ0_coder_7d493 cJ0_coder_7d493 1 (some .byte)) (rmS 1) (va_Pc [.ref (adK i)] (PreP (SXf adK adV B0) B0)) (QcV (some (.int 0))) 0 0 (fun q => B0 ≤ q) := by
  refine str_met (mtS_spec mt_split.1).2.1 (Nat.le_of_ble_eq_true rfl) (fun p e s m below meth c ls hx hb hml hown hts hX hB hr hlk hl => ?_)
  have hS : va_S (fun q : Nat => B0 ≤ q) s.heap s.heap [] := va_S.rf
  refine va_gets hx hb hX.2.1 hS hown (hts _ (clsS_mem (sw_at 0 rfl))) (fun _ h => h) (show decode cJ0_coder_7d493 0 = .ok (.getstatic 38, 3) by decide +kernel) ?_
  refine lv_if_eq hx hb (tgt := 13) (show decode cJ0_coder_7d493 3 = .ok (.ifCond .eq 10, 3) by decide +kernel) (by decide) (fun z => absurd z (by decide)) (fun _ => ?_)
  refine lv_aload_n hx hb (show decode cJ0_coder_7d493 6 = .ok (.aload_n 0, 1) by decide +kernel) rfl (lv_at hl 0 rfl) ?_
  refine vk_getf hx hb (hX.1.1 i hi).2.1 hS hown (hts _ (clsS_mem (sw_at 1 rfl))) (fun _ h => h) (show decode cJ0_coder_7d493 7 = .ok (.getfield 15, 3) by decide +kernel) ?_
  refine lv_goto hx hb (tgt := 14) (show decode cJ0_coder_7d493 10 = .ok (.goto 4, 3) by decide +kernel) (by decide) ?_
  exact W.zret (ty := .byte) hx hb hr rfl (fun t ht _ => ⟨rfl, ht⟩) hS.2.2 (show decode cJ0_coder_7d493 14 = .ok (.ireturn, 1) by decide +kernel) hlk
theorem s_lat {i : Nat} (hi : i < 4) : Met l yJ0_isLatin1_aae02 (wsY yJ0_isLatin1_aae02 cJ0_isLatin1_aae02 1 (some .boolean)) (rmS 1) (va_Pc [.ref (adK i)] (PreP (SXf adK adV B0) B0)) (QcV (some (.int 1))) 0 0 (fun q => B0 ≤ q) := by
  refine str_met (mtS_spec mt_split.2.2.1).2.1 (Nat.le_of_ble_eq_true rfl) (fun p e s m below meth c ls hx hb hml hown hts hX hB hr hlk hl => ?_)
  have hS : va_S (fun q : Nat => B0 ≤ q) s.heap s.heap [] := va_S.rf
  refine va_gets hx hb hX.2.1 hS hown (hts _ (clsS_mem (sw_at 0 rfl))) (fun _ h => h) (show decode cJ0_isLatin1_aae02 0 = .ok (.getstatic 38, 3) by decide +kernel) ?_
  refine lv_if_eq hx hb (tgt := 17) (show decode cJ0_isLatin1_aae02 3 = .ok (.ifCond .eq 14, 3) by decide +kernel) (by decide) (fun z => absurd z (by decide)) (fun _ => ?_)
  refine lv_aload_n hx hb (show decode cJ0_isLatin1_aae02 6 = .ok (.aload_n 0, 1) by decide +kernel) rfl (lv_at hl 0 rfl) ?_
  refine vk_getf hx hb (hX.1.1 i hi).2.1 hS hown (hts _ (clsS_mem (sw_at 1 rfl))) (fun _ h => h) (show decode cJ0_isLatin1_aae02 7 = .ok (.getfield 15, 3) by decide +kernel) ?_
  refine lv_if_ne hx hb (tgt := 17) (show decode cJ0_isLatin1_aae02 10 = .ok (.ifCond .ne 7, 3) by decide +kernel) (by decide) (fun z => absurd rfl z) (fun _ => ?_)
  refine lv_iconst (v := 1) hx hb (show decode cJ0_isLatin1_aae02 13 = .ok (.iconst 1, 1) by decide +kernel) (by decide) ?_
  refine lv_goto hx hb (tgt := 18) (show decode cJ0_isLatin1_aae02 14 = .ok (.goto 4, 3) by decide +kernel) (by decide) ?_
  exact W.zret (ty := .boolean) hx hb hr rfl (fun t ht _ => ⟨rfl, ht⟩) hS.2.2 (show decode cJ0_isLatin1_aae02 18 = .ok (.ireturn, 1) by decide +kernel) hlk
theorem s_len {i : Nat} (hi : i < 4) : Met l yJ0_length_8abf5 (wsY yJ0_length_8abf5 cJ0_length_8abf5 1 (some .int)) (rmS 2) (va_Pc [.ref (adK i)] (PreP (SXf adK adV B0) B0)) (QcV (some (.int (nI (lenS.getD i 0))))) 0 0 (fun q => B0 ≤ q) := by
  refine str_met (mtS_spec mt_split.2.1).2.1 (Nat.le_of_ble_eq_true rfl) (fun p e s m below meth c ls hx hb hml hown hts hX hB hr hlk hl => ?_)
  have hS : va_S (fun q : Nat => B0 ≤ q) s.heap s.heap [] := va_S.rf
  refine lv_aload_n hx hb (show decode cJ0_length_8abf5 0 = .ok (.aload_n 0, 1) by decide +kernel) rfl (lv_at hl 0 rfl) ?_
  refine vk_getf hx hb (hX.1.1 i hi).2.2.1 hS hown (hts _ (clsS_mem (sw_at 2 rfl))) (fun _ h => h) (show decode cJ0_length_8abf5 1 = .ok (.getfield 9, 3) by decide +kernel) ?_
  refine va_tlen hx hb (hX.1.1 i hi).2.2.2 hS (v := nI (lenS.getD i 0)) rfl (show decode cJ0_length_8abf5 4 = .ok (.arraylength, 1) by decide +kernel) ?_
  refine lv_aload_n hx hb (show decode cJ0_length_8abf5 5 = .ok (.aload_n 0, 1) by decide +kernel) rfl (lv_at hl 0 rfl) ?_
  refine strV (As := []) (rest := [.int (nI (lenS.getD i 0))]) hi hx hb hml hown hts hX hB hS mt_split.1 (sw_at 4 rfl) (sw_at 5 rfl) (sw_at 3 rfl) (s_coder hi) rfl hl.1 rfl (Nat.le_of_ble_eq_true rfl) (show decode cJ0_length_8abf5 6 = .ok (.invokevirtual 335, 3) by decide +kernel) (Nat.le_refl 2) (by decide) (Nat.le_refl 0) (Nat.le_refl 0) (fun locs1 hS1 => ?_)
  refine lv_ishr hx hb (show decode cJ0_length_8abf5 9 = .ok (.ishr, 1) by decide +kernel) ?_
  have e0 : nI (lenS.getD i 0) >>> ((0 : Int32) &&& 31) = nI (lenS.getD i 0) := by
    match i, hi with
    | 0, _ => decide
    | 1, _ => decide
    | 2, _ => decide
    | 3, _ => decide
  rw [e0]
  exact W.zret (ty := .int) hx hb hr rfl (fun t ht _ => ⟨rfl, ht⟩) hS1.2.2 (show decode cJ0_length_8abf5 10 = .ok (.ireturn, 1) by decide +kernel) hlk
theorem s_pre {k n : Nat} {v : Value} (hk : k < n) (hn : n ≤ 5) (hv : v.category = 1) : Met l yJ3_checkIndex_8e157 (wsY yJ3_checkIndex_8e157 cJ3_checkIndex_8e157 3 (some .int)) (rmS 1) (va_Pc [.int (nI k), .int (nI n), v] (PreP (SXf adK adV B0) B0)) (QcV (some (.int (nI k)))) 0 0 (fun q => B0 ≤ q) := by
  refine str_met (mtS_spec mt_split.2.2.2.1).2.1 (by rw [sl_len]; show 1 + (1 + (v.category + 0)) ≤ 3; rw [hv]; exact Nat.le_refl 3) (fun p e s m below meth c ls hx hb hml hown hts hX hB hr hlk hl => ?_)
  have hS : va_S (fun q : Nat => B0 ≤ q) s.heap s.heap [] := va_S.rf
  refine lv_iload_n hx hb (show decode cJ3_checkIndex_8e157 0 = .ok (.iload_n 0, 1) by decide +kernel) rfl (lv_at hl 0 rfl) ?_
  refine lv_if_lt hx hb (tgt := 9) (show decode cJ3_checkIndex_8e157 1 = .ok (.ifCond .lt 8, 3) by decide +kernel) (by decide) (fun z => absurd z (by rw [Int32.lt_iff_toInt_lt, nI_toInt (by omega)]; show ¬ (k : Int) < 0; omega)) (fun _ => ?_)
  refine lv_iload_n hx hb (show decode cJ3_checkIndex_8e157 4 = .ok (.iload_n 0, 1) by decide +kernel) rfl (lv_at hl 0 rfl) ?_
  refine lv_iload_n hx hb (show decode cJ3_checkIndex_8e157 5 = .ok (.iload_n 1, 1) by decide +kernel) rfl (lv_at hl 1 rfl) ?_
  refine lv_icmp_lt hx hb (tgt := 16) (show decode cJ3_checkIndex_8e157 6 = .ok (.if_icmp .lt 10, 3) by decide +kernel) (by decide) (fun _ => ?_) (fun z => absurd (by rw [Int32.lt_iff_toInt_lt, nI_toInt (by omega), nI_toInt (by omega)]; omega) z)
  refine lv_iload_n hx hb (show decode cJ3_checkIndex_8e157 16 = .ok (.iload_n 0, 1) by decide +kernel) rfl (lv_at hl 0 rfl) ?_
  exact W.zret (ty := .int) hx hb hr rfl (fun t ht _ => ⟨rfl, ht⟩) hS.2.2 (show decode cJ3_checkIndex_8e157 17 = .ok (.ireturn, 1) by decide +kernel) hlk
end
