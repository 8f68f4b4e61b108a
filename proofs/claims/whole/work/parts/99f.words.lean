/-! Words, names, points told: what both readers share. -/
def PW : Int := 8805260
def LW : Int := 243140
def UW : Int := 583
def DW : Int := 90302
theorem PW_e : PW = (((16 * 27 + 15) * 27 + 9) * 27 + 14) * 27 + 20 := by decide
theorem LW_e : LW = ((12 * 27 + 9) * 27 + 14) * 27 + 5 := by decide
theorem UW_e : UW = 21 * 27 + 16 := by decide
theorem DW_e : DW = ((4 * 27 + 15) * 27 + 23) * 27 + 14 := by decide
def jR (h : Hp) : Prop := h.2.1 3 2 = iL PW ∧ h.2.1 3 3 = iL LW ∧ h.2.1 3 4 = iL UW ∧ h.2.1 3 5 = iL DW
def tkOK (n : Nat) (t : TK) : Prop := (t.1 = 1 → 0 ≤ t.2.2.2 ∧ t.2.2.2 < 10460353203) ∧ (t.1 = 2 → 0 ≤ t.2.2.2 ∧ t.2.2.2 ≤ 99) ∧ ((t.1 = 1 ∨ t.1 = 2 ∨ t.1 = 3) → t.2.2.1 ≤ n) ∧ t.2.1 ≤ 540 ∧ t.1 ≤ 5
def nmS (t : TK) : Prop := t.1 = 1 ∧ ¬ t.2.2.2 = PW ∧ ¬ t.2.2.2 = LW ∧ ¬ t.2.2.2 = UW ∧ ¬ t.2.2.2 = DW
def nfd (nm : Nat → Int64) (v : Int64) : Nat → Nat → Int32
  | 0, _ => -1
  | m + 1, p => if nm p = v then nI p else nfd nm v m (p + 1)
def nmF (nm : Nat → Int64) (v : Int64) (P : Nat) : Int32 := nfd nm v P 0
section
variable {d : Nat} {h h' : Hp} {Q : Option (Option Value) → Hp → Prop} {x y z w : Int32} {k l p q n m P : Nat} {b : Nat → Nat} {t : TK} {W : Int} {nm : Nat → Int64} {v : Int64}
theorem tk_ok (hp : p ≤ n) (hn : n ≤ 540) : tkOK n (tk b n p) := by
  obtain ⟨a1, a2, a3, a4⟩ := tk_b (b := b) hp hn
  refine ⟨a1, a2, a3, a4, ?_⟩
  unfold tk tkQ tkE
  generalize skq b n p = q
  generalize exE b n q = e
  by_cases c1 : 500 < n ∧ 500 ≤ q
  · rw [if_pos c1]; exact Nat.le_refl 5
  rw [if_neg c1]
  by_cases c2 : n ≤ q
  · rw [if_pos c2]; exact Nat.zero_le 5
  rw [if_neg c2]
  by_cases c3 : b q = 59
  · rw [if_pos c3]; exact (by decide : 3 ≤ 5)
  rw [if_neg c3]
  by_cases c4 : e.2.2.1 = 0 ∧ 1 ≤ e.2.1 ∧ e.2.1 ≤ 7
  · rw [if_pos c4]; exact (by decide : 1 ≤ 5)
  rw [if_neg c4]
  by_cases c5 : e.2.1 = 0 ∧ 1 ≤ e.2.2.1 ∧ e.2.2.1 ≤ 2
  · rw [if_pos c5]; exact (by decide : 2 ≤ 5)
  rw [if_neg c5]
  exact (by decide : 4 ≤ 5)
theorem ck_all : ∀ k, k < 6 → ((nI (ckk k) = 0 ↔ (k = 0 ∨ k = 5)) ∧ (nI (ckk k) = 1 ↔ k = 1) ∧ (nI (ckk k) = 2 ↔ k = 2) ∧ (nI (ckk k) = 3 ↔ k = 3)) := by decide
theorem mk_all : ∀ k, k < 6 → ((nI (mkk k) = 0 ↔ k = 0) ∧ (nI (mkk k) = 1 ↔ (k = 4 ∨ k = 5)) ∧ (nI (mkk k) = 2 ↔ k = 1) ∧ (nI (mkk k) = 3 ↔ k = 2) ∧ (nI (mkk k) = 4 ↔ k = 3)) := by decide
theorem iL_eq {u W : Int} (h1 : 0 ≤ u) (h2 : u < 10460353203) (h3 : 0 ≤ W) (h4 : W < 10460353203) : iL u = iL W ↔ u = W := by
  constructor
  · intro z
    have := congrArg Int64.toInt z
    rw [iL_T (B := 10460353203) (by omega) (by decide), iL_T (B := 10460353203) (by omega) (by decide)] at this
    exact this
  · intro z; rw [z]
theorem PWb : 0 ≤ PW ∧ PW < 10460353203 := by decide
theorem LWb : 0 ≤ LW ∧ LW < 10460353203 := by decide
theorem UWb : 0 ≤ UW ∧ UW < 10460353203 := by decide
theorem DWb : 0 ≤ DW ∧ DW < 10460353203 := by decide
theorem nfd_or : ∀ (m p : Nat), nfd nm v m p = -1 ∨ ∃ k, k < p + m ∧ nfd nm v m p = nI k
  | 0, _ => Or.inl rfl
  | m + 1, p => by
    unfold nfd
    by_cases c : nm p = v
    · rw [if_pos c]; exact Or.inr ⟨p, by omega, rfl⟩
    · rw [if_neg c]
      rcases nfd_or m (p + 1) with e | ⟨k, h1, h2⟩
      · exact Or.inl e
      · exact Or.inr ⟨k, by omega, h2⟩
theorem nmF_or : nmF nm v P = -1 ∨ ∃ k, k < P ∧ nmF nm v P = nI k := by
  rcases nfd_or (nm := nm) (v := v) P 0 with e | ⟨k, h1, h2⟩
  · exact Or.inl e
  · exact Or.inr ⟨k, by omega, h2⟩
/-! the class's -/
theorem c_isWord (hT : tkC t h) (hO : tkOK n t) (hW : 0 ≤ W ∧ W < 10460353203) : WP d 36 0 [some (.ref 3), some (.long (iL W)), none] [] h Q ↔ Q (some (some (.int (pb (t.1 = 1 ∧ t.2.2.2 = W))))) h := by
  have ck := ck_all t.1 (by have := hO.2.2.2.2; omega)
  simp only [S36_0, S36_1, S36_4, S36_5, S36_8, S36_9, S36_12, S36_13, S36_14, S36_17, S36_18, S36_21, S36_22, shp_3, RV_3_0, RV_3_1, hT.1, ck.2.1, lg_cmp_eq, isB_0, isB_1]
  by_cases c1 : t.1 = 1
  · have hb := hO.1 c1
    rw [if_pos c1, hT.2.2.1 (Or.inl c1)]
    simp only [iL_eq hb.1 hb.2 hW.1 hW.2]
    by_cases c2 : t.2.2.2 = W
    · rw [if_pos c2, pb_t ⟨c1, c2⟩]
    · rw [if_neg c2, pb_f (fun z => c2 z.2)]
  · rw [if_neg c1, pb_f (fun z => c1 z.1)]
theorem c_isName (hT : tkC t h) (hO : tkOK n t) (hJ : jR h) : WP d 37 0 [some (.ref 3)] [] h Q ↔ Q (some (some (.int (pb (nmS t))))) h := by
  have ck := ck_all t.1 (by have := hO.2.2.2.2; omega)
  simp only [S37_0, S37_1, S37_4, S37_5, S37_8, S37_9, S37_12, S37_13, S37_16, S37_17, S37_20, S37_21, S37_24, S37_25, S37_28, S37_29, S37_32, S37_33, S37_36, S37_37, S37_40, S37_41, S37_44, S37_45, S37_48, S37_49, S37_52, S37_53, S37_56, S37_57, S37_60, S37_61, shp_3, RV_3_0, RV_3_1, hT.1, ck.2.1, lg_cmp_eq, isB_0, isB_1, hJ.1, hJ.2.1, hJ.2.2.1, hJ.2.2.2]
  by_cases c1 : t.1 = 1
  · have hb := hO.1 c1
    rw [if_pos c1, hT.2.2.1 (Or.inl c1)]
    simp only [iL_eq hb.1 hb.2 PWb.1 PWb.2, iL_eq hb.1 hb.2 LWb.1 LWb.2, iL_eq hb.1 hb.2 UWb.1 UWb.2, iL_eq hb.1 hb.2 DWb.1 DWb.2]
    by_cases c2 : t.2.2.2 = PW
    · rw [if_pos c2, pb_f (fun z => z.2.1 c2)]
    rw [if_neg c2]
    by_cases c3 : t.2.2.2 = LW
    · rw [if_pos c3, pb_f (fun z => z.2.2.1 c3)]
    rw [if_neg c3]
    by_cases c4 : t.2.2.2 = UW
    · rw [if_pos c4, pb_f (fun z => z.2.2.2.1 c4)]
    rw [if_neg c4]
    by_cases c5 : t.2.2.2 = DW
    · rw [if_pos c5, pb_f (fun z => z.2.2.2.2 c5)]
    rw [if_neg c5, pb_t ⟨c1, c2, c3, c4, c5⟩]
  · rw [if_neg c1, pb_f (fun z => c1 z.1)]
theorem ok4 (hp : p < 6) : okA 4 4 (nI p) := okA_nI shp_4 hp (by decide)
theorem ok101 (hp : p < 6) : okA 4 101 (nI p) := okA_nI shp_101 hp (by decide)
theorem c_named_loop (hP : P ≤ 6) (hm : ∀ j, j < P → h.2.1 4 j = nm j) (hv : h.2.1 3 9 = v) : ∀ (m p : Nat), p + m = P → (WP d 38 2 [some (.ref 3), some (.int (nI P)), some (.int (nI p))] [] h Q ↔ Q (some (some (.int (nfd nm v m p)))) h) := by
  intro m
  induction m with
  | zero =>
    intro p hp
    have hcd : nI P ≤ nI p := nI_le (by omega) (by omega)
    rw [S38_2]
    simp only [S38_0, S38_1, S38_3, S38_4, S38_7, S38_8, S38_10, S38_13, S38_14, S38_17, S38_18, S38_19, S38_20, S38_23, S38_24, S38_27, S38_28, S38_29, S38_32, S38_35, S38_36, if_pos hcd]
    exact Iff.rfl
  | succ m ih =>
    intro p hp
    have hcd : ¬ nI P ≤ nI p := nI_ge (by omega) (by omega)
    rw [S38_2]
    simp only [S38_0, S38_1, S38_3, S38_4, S38_7, S38_8, S38_10, S38_13, S38_14, S38_17, S38_18, S38_19, S38_20, S38_23, S38_24, S38_27, S38_28, S38_29, S38_32, S38_35, S38_36, shp_3, RV_3_0, RV_3_1, if_neg hcd, if_neg (lt6 (show p < 6 by omega)), ok4 (show p < 6 by omega), nI_cl (show p < 2147483648 by omega), hm p (by omega), hv, lg_cmp_eq, kl_int, nI_add1]
    unfold nfd
    by_cases c : nm p = v
    · rw [if_pos c, if_pos c]
    · rw [if_neg c, if_neg c]
      exact ih (p + 1) (by omega)
theorem c_named (hP : P ≤ 6) (hm : ∀ j, j < P → h.2.1 4 j = nm j) (hv : h.2.1 3 9 = v) : WP d 38 0 [some (.ref 3), some (.int (nI P)), none] [] h Q ↔ Q (some (some (.int (nmF nm v P)))) h := by
  simp only [S38_0, S38_1, S38_3, S38_4, S38_7, S38_8, S38_10, S38_13, S38_14, S38_17, S38_18, S38_19, S38_20, S38_23, S38_24, S38_27, S38_28, S38_29, S38_32, S38_35, S38_36, kl_int]
  rw [nI_l0]
  exact c_named_loop hP hm hv P 0 (by omega)
theorem c_fails (hT : tkC t h) : WP d 39 0 [some (.ref 3), some (.int x)] [] h Q ↔ Q (some (some (.int 0))) (setI (setI h 3 12 x) 3 13 (nI t.2.1)) := by
  have g : (setI h 3 12 x).1 3 8 = nI t.2.1 := by rw [setI_rd, if_neg (by decide)]; exact hT.2.1
  simp only [S39_0, S39_1, S39_2, S39_5, S39_6, S39_7, S39_10, S39_13, S39_14, shp_3, RV_3_0, RV_3_1, g, isB_0]
/-! the model's -/
theorem m_isWord (hT : tkM t h) (hO : tkOK n t) (hW : 0 ≤ W ∧ W < 10460353203) : WP d 112 0 [some (.ref 93), some (.long (iL W)), none] [] h Q ↔ Q (some (some (.int (pb (t.1 = 1 ∧ t.2.2.2 = W))))) h := by
  have mk := mk_all t.1 (by have := hO.2.2.2.2; omega)
  simp only [S112_0, S112_1, S112_4, S112_5, S112_8, S112_9, S112_12, S112_13, S112_14, S112_17, S112_18, S112_21, S112_22, shp_93, RV_93_1, RV_93_13, RV_93_14, RV_93_15, RV_93_16, RV_93_17, RV_93_18, RV_93_19, RV_93_20, RV_93_23, RV_93_24, RV_93_27, RV_93_28, RV_93_29, hT.1, mk.2.2.1, lg_cmp_eq, isB_0, isB_1]
  by_cases c1 : t.1 = 1
  · have hb := hO.1 c1
    rw [if_pos c1, hT.2.2.1 c1]
    simp only [iL_eq hb.1 hb.2 hW.1 hW.2]
    by_cases c2 : t.2.2.2 = W
    · rw [if_pos c2, pb_t ⟨c1, c2⟩]
    · rw [if_neg c2, pb_f (fun z => c2 z.2)]
  · rw [if_neg c1, pb_f (fun z => c1 z.1)]
theorem m_sp1 : WP d 111 0 [some (.int 112), some (.int 111), some (.int 105), some (.int 110), some (.int 116), none, none] [] h Q ↔ Q (some (some (.long (iL PW)))) h := by
  have c1 : ¬ (105 : Int32) ≤ 0 := by decide
  have c2 : ¬ (110 : Int32) ≤ 0 := by decide
  have c3 : ¬ (116 : Int32) ≤ 0 := by decide
  have e : (27 : Int64) * (27 * (27 * (27 * ((112 : Int32).toInt64 - 96) + (111 : Int32).toInt64 - 96) + (105 : Int32).toInt64 - 96) + (110 : Int32).toInt64 - 96) + (116 : Int32).toInt64 - 96 = iL PW := by decide
  simp only [S111_0, S111_3, S111_4, S111_5, S111_8, S111_9, S111_10, S111_11, S111_12, S111_13, S111_16, S111_17, S111_19, S111_20, S111_23, S111_26, S111_28, S111_29, S111_30, S111_31, S111_32, S111_35, S111_36, S111_38, S111_39, S111_42, S111_45, S111_47, S111_48, S111_49, S111_50, S111_51, S111_54, S111_55, S111_57, S111_59, S111_62, S111_65, S111_67, S111_68, S111_70, S111_71, S111_72, S111_75, S111_76, S111_79, S111_81, if_neg c1, if_neg c2, if_neg c3, kl_int, kl_none, kl_long, e]
theorem m_sp2 : WP d 111 0 [some (.int 108), some (.int 105), some (.int 110), some (.int 101), some (.int 0), none, none] [] h Q ↔ Q (some (some (.long (iL LW)))) h := by
  have c1 : ¬ (110 : Int32) ≤ 0 := by decide
  have c2 : ¬ (101 : Int32) ≤ 0 := by decide
  have c3 : (0 : Int32) ≤ 0 := by decide
  have e : (27 : Int64) * (27 * (27 * ((108 : Int32).toInt64 - 96) + (105 : Int32).toInt64 - 96) + (110 : Int32).toInt64 - 96) + (101 : Int32).toInt64 - 96 = iL LW := by decide
  simp only [S111_0, S111_3, S111_4, S111_5, S111_8, S111_9, S111_10, S111_11, S111_12, S111_13, S111_16, S111_17, S111_19, S111_20, S111_23, S111_26, S111_28, S111_29, S111_30, S111_31, S111_32, S111_35, S111_36, S111_38, S111_39, S111_42, S111_45, S111_47, S111_48, S111_49, S111_50, S111_51, S111_54, S111_55, S111_57, S111_59, S111_62, S111_65, S111_67, S111_68, S111_70, S111_71, S111_72, S111_75, S111_76, S111_79, S111_81, if_neg c1, if_neg c2, if_pos c3, kl_int, kl_none, kl_long, e]
theorem m_sp3 : WP d 111 0 [some (.int 117), some (.int 112), some (.int 0), some (.int 0), some (.int 0), none, none] [] h Q ↔ Q (some (some (.long (iL UW)))) h := by
  have c3 : (0 : Int32) ≤ 0 := by decide
  have e : (27 : Int64) * ((117 : Int32).toInt64 - 96) + (112 : Int32).toInt64 - 96 = iL UW := by decide
  simp only [S111_0, S111_3, S111_4, S111_5, S111_8, S111_9, S111_10, S111_11, S111_12, S111_13, S111_16, S111_17, S111_19, S111_20, S111_23, S111_26, S111_28, S111_29, S111_30, S111_31, S111_32, S111_35, S111_36, S111_38, S111_39, S111_42, S111_45, S111_47, S111_48, S111_49, S111_50, S111_51, S111_54, S111_55, S111_57, S111_59, S111_62, S111_65, S111_67, S111_68, S111_70, S111_71, S111_72, S111_75, S111_76, S111_79, S111_81, if_pos c3, kl_int, kl_none, kl_long, e]
theorem m_sp4 : WP d 111 0 [some (.int 100), some (.int 111), some (.int 119), some (.int 110), some (.int 0), none, none] [] h Q ↔ Q (some (some (.long (iL DW)))) h := by
  have c1 : ¬ (119 : Int32) ≤ 0 := by decide
  have c2 : ¬ (110 : Int32) ≤ 0 := by decide
  have c3 : (0 : Int32) ≤ 0 := by decide
  have e : (27 : Int64) * (27 * (27 * ((100 : Int32).toInt64 - 96) + (111 : Int32).toInt64 - 96) + (119 : Int32).toInt64 - 96) + (110 : Int32).toInt64 - 96 = iL DW := by decide
  simp only [S111_0, S111_3, S111_4, S111_5, S111_8, S111_9, S111_10, S111_11, S111_12, S111_13, S111_16, S111_17, S111_19, S111_20, S111_23, S111_26, S111_28, S111_29, S111_30, S111_31, S111_32, S111_35, S111_36, S111_38, S111_39, S111_42, S111_45, S111_47, S111_48, S111_49, S111_50, S111_51, S111_54, S111_55, S111_57, S111_59, S111_62, S111_65, S111_67, S111_68, S111_70, S111_71, S111_72, S111_75, S111_76, S111_79, S111_81, if_neg c1, if_neg c2, if_pos c3, kl_int, kl_none, kl_long, e]
theorem m_isPW (hT : tkM t h) (hO : tkOK n t) : WP (d + 1) 113 0 [some (.ref 93)] [] h Q ↔ Q (some (some (.int (pb (t.1 = 1 ∧ t.2.2.2 = PW))))) h := by
  simp only [S113_0, S113_1, S113_3, S113_5, S113_7, S113_9, S113_11, S113_14, S113_17, shp_93, RV_93_1, RV_93_13, RV_93_14, RV_93_15, RV_93_16, RV_93_17, RV_93_18, RV_93_19, RV_93_20, RV_93_23, RV_93_24, RV_93_27, RV_93_28, RV_93_29, m_sp1, m_isWord hT hO PWb, kR_at, isB_pb]
theorem m_isLW (hT : tkM t h) (hO : tkOK n t) : WP (d + 1) 114 0 [some (.ref 93)] [] h Q ↔ Q (some (some (.int (pb (t.1 = 1 ∧ t.2.2.2 = LW))))) h := by
  simp only [S114_0, S114_1, S114_3, S114_5, S114_7, S114_9, S114_10, S114_13, S114_16, shp_93, RV_93_1, RV_93_13, RV_93_14, RV_93_15, RV_93_16, RV_93_17, RV_93_18, RV_93_19, RV_93_20, RV_93_23, RV_93_24, RV_93_27, RV_93_28, RV_93_29, m_sp2, m_isWord hT hO LWb, kR_at, isB_pb]
theorem m_isUW (hT : tkM t h) (hO : tkOK n t) : WP (d + 1) 115 0 [some (.ref 93)] [] h Q ↔ Q (some (some (.int (pb (t.1 = 1 ∧ t.2.2.2 = UW))))) h := by
  simp only [S115_0, S115_1, S115_3, S115_5, S115_6, S115_7, S115_8, S115_11, S115_14, shp_93, RV_93_1, RV_93_13, RV_93_14, RV_93_15, RV_93_16, RV_93_17, RV_93_18, RV_93_19, RV_93_20, RV_93_23, RV_93_24, RV_93_27, RV_93_28, RV_93_29, m_sp3, m_isWord hT hO UWb, kR_at, isB_pb]
theorem m_isDW (hT : tkM t h) (hO : tkOK n t) : WP (d + 1) 116 0 [some (.ref 93)] [] h Q ↔ Q (some (some (.int (pb (t.1 = 1 ∧ t.2.2.2 = DW))))) h := by
  simp only [S116_0, S116_1, S116_3, S116_5, S116_7, S116_9, S116_10, S116_13, S116_16, shp_93, RV_93_1, RV_93_13, RV_93_14, RV_93_15, RV_93_16, RV_93_17, RV_93_18, RV_93_19, RV_93_20, RV_93_23, RV_93_24, RV_93_27, RV_93_28, RV_93_29, m_sp4, m_isWord hT hO DWb, kR_at, isB_pb]
theorem m_isName (hT : tkM t h) (hO : tkOK n t) : WP (d + 2) 117 0 [some (.ref 93)] [] h Q ↔ Q (some (some (.int (pb (nmS t))))) h := by
  have mk := mk_all t.1 (by have := hO.2.2.2.2; omega)
  simp only [S117_0, S117_1, S117_4, S117_5, S117_8, S117_9, S117_12, S117_15, S117_16, S117_19, S117_22, S117_23, S117_26, S117_29, S117_30, S117_33, S117_36, S117_37, S117_40, S117_41, shp_93, RV_93_1, RV_93_13, RV_93_14, RV_93_15, RV_93_16, RV_93_17, RV_93_18, RV_93_19, RV_93_20, RV_93_23, RV_93_24, RV_93_27, RV_93_28, RV_93_29, hT.1, mk.2.2.1, m_isPW hT hO, m_isLW hT hO, m_isUW hT hO, m_isDW hT hO, kR_at, isB_0, isB_1]
  by_cases c1 : t.1 = 1
  · rw [if_pos c1]
    by_cases c2 : t.2.2.2 = PW
    · rw [if_neg (fun z => pb_0.mp z ⟨c1, c2⟩), pb_f (P := nmS t) (fun z => z.2.1 c2)]
    rw [if_pos (pb_0.mpr (fun z => c2 z.2))]
    by_cases c3 : t.2.2.2 = LW
    · rw [if_neg (fun z => pb_0.mp z ⟨c1, c3⟩), pb_f (P := nmS t) (fun z => z.2.2.1 c3)]
    rw [if_pos (pb_0.mpr (fun z => c3 z.2))]
    by_cases c4 : t.2.2.2 = UW
    · rw [if_neg (fun z => pb_0.mp z ⟨c1, c4⟩), pb_f (P := nmS t) (fun z => z.2.2.2.1 c4)]
    rw [if_pos (pb_0.mpr (fun z => c4 z.2))]
    by_cases c5 : t.2.2.2 = DW
    · rw [if_neg (fun z => pb_0.mp z ⟨c1, c5⟩), pb_f (P := nmS t) (fun z => z.2.2.2.2 c5)]
    rw [if_pos (pb_0.mpr (fun z => c5 z.2)), pb_t (P := nmS t) ⟨c1, c2, c3, c4, c5⟩]
  · rw [if_neg c1, pb_f (fun z => c1 z.1)]
theorem m_named_loop (hP : P ≤ 6) (hm : ∀ j, j < P → h.2.1 101 j = nm j) (hv : h.2.1 93 12 = v) (h0 : h.1 96 0 = nI P) : ∀ (m p : Nat), p + m = P → (WP d 120 2 [some (.ref 93), some (.int (nI p))] [] h Q ↔ Q (some (some (.int (nfd nm v m p)))) h) := by
  have i0 : okA 1 96 0 := okA_nI (n := 0) shp_96 (by decide) (by decide)
  intro m
  induction m with
  | zero =>
    intro p hp
    have hcd : nI P ≤ nI p := nI_le (by omega) (by omega)
    rw [S120_2]
    simp only [S120_0, S120_1, S120_3, S120_4, S120_7, S120_8, S120_9, S120_12, S120_13, S120_16, S120_17, S120_18, S120_19, S120_22, S120_23, S120_26, S120_27, S120_28, S120_31, S120_34, S120_35, shp_93, RV_93_1, RV_93_13, RV_93_14, RV_93_15, RV_93_16, RV_93_17, RV_93_18, RV_93_19, RV_93_20, RV_93_23, RV_93_24, RV_93_27, RV_93_28, RV_93_29, i0, cl_0, h0, if_pos hcd]
    exact Iff.rfl
  | succ m ih =>
    intro p hp
    have hcd : ¬ nI P ≤ nI p := nI_ge (by omega) (by omega)
    rw [S120_2]
    simp only [S120_0, S120_1, S120_3, S120_4, S120_7, S120_8, S120_9, S120_12, S120_13, S120_16, S120_17, S120_18, S120_19, S120_22, S120_23, S120_26, S120_27, S120_28, S120_31, S120_34, S120_35, shp_93, RV_93_1, RV_93_13, RV_93_14, RV_93_15, RV_93_16, RV_93_17, RV_93_18, RV_93_19, RV_93_20, RV_93_23, RV_93_24, RV_93_27, RV_93_28, RV_93_29, i0, cl_0, h0, if_neg hcd, ok101 (show p < 6 by omega), nI_cl (show p < 2147483648 by omega), hm p (by omega), hv, lg_cmp_eq, kl_ref, nI_add1]
    unfold nfd
    by_cases c : nm p = v
    · rw [if_pos c, if_pos c]
    · rw [if_neg c, if_neg c]
      exact ih (p + 1) (by omega)
theorem m_named (hP : P ≤ 6) (hm : ∀ j, j < P → h.2.1 101 j = nm j) (hv : h.2.1 93 12 = v) (h0 : h.1 96 0 = nI P) : WP d 120 0 [some (.ref 93), none] [] h Q ↔ Q (some (some (.int (nmF nm v P)))) h := by
  simp only [S120_0, S120_1, S120_3, S120_4, S120_7, S120_8, S120_9, S120_12, S120_13, S120_16, S120_17, S120_18, S120_19, S120_22, S120_23, S120_26, S120_27, S120_28, S120_31, S120_34, S120_35, kl_ref]
  rw [nI_l0]
  exact m_named_loop hP hm hv h0 P 0 (by omega)
/-- what goes wrong at a token -/
def flM (f : Nat × Nat) (h0 h : Hp) : Prop := h.1 93 8 = nI f.1 ∧ h.1 93 10 = nI f.2 ∧ h.1 93 9 = h0.1 93 11
def flC (f : Nat × Nat) (h : Hp) : Prop := h.1 3 12 = nI f.1 ∧ h.1 3 13 = nI f.2
def BDs (a j : Nat) : Prop := a = 93 ∧ 8 ≤ j ∧ j ≤ 10
theorem m_bad (hT : tkM t h) (hO : tkOK n t) (hk : k = 1 ∨ ¬ (t.1 = 4 ∨ t.1 = 5)) (kk : ∀ h' : Hp, frmF BDs h h' → flM (k, t.2.1) h h' → Q (some (some (.int 0))) h') : WP d 118 0 [some (.ref 93), some (.int (nI k))] [] h Q := by
  have mk := mk_all t.1 (by have := hO.2.2.2.2; omega)
  have g5 : ∀ y, (setI h 93 8 y).1 93 5 = nI t.2.1 := fun y => by rw [setI_rd, if_neg (by decide)]; exact hT.2.1
  have g11 : ∀ y u, (setI (setI h 93 8 y) 93 10 u).1 93 11 = h.1 93 11 := fun y u => by rw [setI_rd, if_neg (by decide), setI_rd, if_neg (by decide)]
  have go : Q (some (some (.int 0))) (setI (setI (setI h 93 8 (nI k)) 93 10 (nI t.2.1)) 93 9 (h.1 93 11)) := by
    refine kk _ (frmF_tr (frmF_I ⟨rfl, by omega, by omega⟩) (frmF_tr (frmF_I ⟨rfl, by omega, by omega⟩) (frmF_I ⟨rfl, by omega, by omega⟩))) ⟨?_, ?_, ?_⟩
    · rw [setI_rd, if_neg (by decide), setI_rd, if_neg (by decide), setI_rd, if_pos ⟨rfl, rfl⟩]
    · rw [setI_rd, if_neg (by decide), setI_rd, if_pos ⟨rfl, rfl⟩]
    · rw [setI_rd, if_pos ⟨rfl, rfl⟩]
  simp only [S118_0, S118_1, S118_2, S118_5, S118_6, S118_9, S118_10, S118_13, S118_14, S118_17, S118_18, S118_19, S118_22, S118_25, S118_26, S118_27, S118_30, S118_33, S118_34, shp_93, RV_93_1, RV_93_13, RV_93_14, RV_93_15, RV_93_16, RV_93_17, RV_93_18, RV_93_19, RV_93_20, RV_93_23, RV_93_24, RV_93_27, RV_93_28, RV_93_29, hT.1, mk.2.1, g5, g11, isB_0]
  by_cases c : t.1 = 4 ∨ t.1 = 5
  · have e : k = 1 := by rcases hk with z | z; exact z; exact absurd c z
    subst e
    rw [if_pos c]
    exact go
  · rw [if_neg c]
    exact go
end
