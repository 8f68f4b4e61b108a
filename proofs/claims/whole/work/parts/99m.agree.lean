/-! Class and model answer alike, call by call. -/
def Agr (d mc mm : Nat) (lc lm : LV) (h : Hp) : Prop := ∃ (v : Int32) (P : Hp → Prop), (∀ h1, P h1 → kp h h1) ∧ (∀ Q : Option (Option Value) → Hp → Prop, (∀ h1, P h1 → Q (some (some (.int v))) h1) → WP d mc 0 lc [] h Q) ∧ (∀ h1, P h1 → ∀ Q : Option (Option Value) → Hp → Prop, (∀ h2, J h2 → kp h h2 → Q (some (some (.int v))) h2) → WP d mm 0 lm [] h1 Q)
section
variable {d mc mm : Nat} {lc lm : LV} {h h' h1 h2 : Hp} {r r' : Nat → Int32} {x y z w v x1 x2 x3 x4 x5 : Int32} {k l p q t n m : Nat}
theorem Agr_q (hJ : J h) (hr : h.1 95 = r) (hc : cls r h → ∀ Q : Option (Option Value) → Hp → Prop, cPost r h Q (some (some (.int v))) → WP d mc 0 lc [] h Q) (hm : ∀ h1, J h1 → h1.1 95 = r → frmF stS h h1 → ∀ Q : Option (Option Value) → Hp → Prop, mPost r h1 Q 0 (some (.int v)) → WP d mm 0 lm [] h1 Q) : Agr d mc mm lc lm h := by
  refine ⟨v, fun h1 => J h1 ∧ h1.1 95 = r ∧ kp h h1 ∧ frmF stS h h1, fun h1 z => z.2.2.1, fun Q kk => ?_, fun h1 z Q kk => ?_⟩
  · refine hc (by rw [← hr]; exact hJ.1) Q (fun h1 f1 C1 => ?_)
    obtain ⟨a1, a2, a3⟩ := J_c hJ hr f1 C1
    exact kk h1 ⟨a1, a2, a3, f1⟩
  · refine hm h1 z.1 z.2.1 z.2.2.2 Q (fun h2 f2 r2 t2 => ?_)
    obtain ⟨a1, a2⟩ := J_m z.1 f2 (r2.trans z.2.1.symm)
    exact kk h2 a1 (kp_tr z.2.2.1 a2)
theorem Agr_u (hJ : J h) (hr : h.1 95 = r) (hc : cls r h → ∀ Q : Option (Option Value) → Hp → Prop, Q (some (some (.int v))) h → WP d mc 0 lc [] h Q) (hm : ∀ Q : Option (Option Value) → Hp → Prop, mPost r h Q 0 (some (.int v)) → WP d mm 0 lm [] h Q) : Agr d mc mm lc lm h := by
  refine ⟨v, fun h1 => h1 = h, fun h1 z => by rw [z]; exact kp_rf, fun Q kk => ?_, fun h1 z Q kk => ?_⟩
  · exact hc (by rw [← hr]; exact hJ.1) Q (kk h rfl)
  · subst z
    refine hm Q (fun h2 f2 r2 t2 => ?_)
    obtain ⟨a1, a2⟩ := J_m hJ f2 (r2.trans hr.symm)
    exact kk h2 a1 a2
theorem Agr_a (hJ : J h) (hr : h.1 95 = r) (hc : cls r h → ∀ t n, actA t n h → ∀ Q : Option (Option Value) → Hp → Prop, (∀ h1, frmF CAs h h1 → pushed t n h h1 r → cls r' h1 → Q (some (some (.int v))) h1) → WP d mc 0 lc [] h Q) (hm : ∀ n h1, n ≤ 8 → h1.1 95 = r → h1.1 93 21 = nI n → ∀ Q : Option (Option Value) → Hp → Prop, mAct n r r' h1 Q (some (.int v)) → WP d mm 0 lm [] h1 Q) : Agr d mc mm lc lm h := by
  obtain ⟨t, n, hA, h21, hK⟩ := hJ.2.1
  refine ⟨v, fun h1 => frmF CAs h h1 ∧ pushed t n h h1 r ∧ cls r' h1, fun h1 z => kp_fr z.1 (fun j => by unfold CAs stS; omega), fun Q kk => ?_, fun h1 z Q kk => ?_⟩
  · exact hc (by rw [← hr]; exact hJ.1) t n hA Q (fun h1 f1 p1 C1 => kk h1 ⟨f1, p1, C1⟩)
  · refine hm n h1 hA.2.1 ?_ ?_ Q (fun h2 f2 s2 e2 => ?_)
    · rw [← hr]; exact funext (fun j => (z.1.1 95 j (by unfold CAs stS; omega)).1)
    · rw [(z.1.1 93 21 (by unfold CAs stS; omega)).1]; exact h21
    · obtain ⟨a1, a2⟩ := J_act hJ hr hA hK z.1 z.2.1 z.2.2 f2 s2 e2
      exact kk h2 a1 a2
theorem cAct_w (hV' : VR r') {Q : Option (Option Value) → Hp → Prop} {res : Option Value} (kk : ∀ h1, frmF CAs h h1 → pushed t n h h1 r → cls r' h1 → Q (some res) h1) : cAct t n r r' h Q res := fun h1 f1 p1 n1 s1 => kk h1 f1 p1 (cls_st hV' n1 s1)
theorem ag_rounded (hJ : J h) : Agr (d + 99) 61 155 [some (.ref 0), some (.int x)] [some (.ref 93), some (.int x), none, none, none, none, none, none] h := by
  have hV := hJ.1.1
  by_cases c : isP (h.1 95) x
  · obtain ⟨p, hp, rfl⟩ := c
    exact Agr_q hJ rfl (fun C Q k => c_rounded_yes (d := d + 93) C hp k) (fun h1 j1 r1 f1 Q k => m_rounded_yes (d := d + 90) r1 hV hp k)
  · exact Agr_q hJ rfl (fun C Q k => c_rounded_no (d := d + 93) C c k) (fun h1 j1 r1 f1 Q k => m_rounded_no (d := d + 90) r1 hV c k)
theorem ag_rings (hJ : J h) : Agr (d + 99) 64 161 [some (.ref 0)] [some (.ref 93)] h := Agr_q hJ rfl (fun C Q k => c_rings (d := d + 93) C k) (fun h1 j1 r1 f1 Q k => m_ringsX (d := d + 94) r1 hJ.1.1 k)
theorem clsd_l (hV : VR r) (c : clsd r x) : ∃ l, x = nI l ∧ rngL r l := by
  obtain ⟨l, h1, h2, h3⟩ := c
  exact ⟨l, h2, h3⟩
theorem ag_ring (hJ : J h) : Agr (d + 99) 65 162 [some (.ref 0), some (.int x)] [some (.ref 93), some (.int x), none, none, none] h := by
  have hV := hJ.1.1
  by_cases c : clsd (h.1 95) x
  · obtain ⟨l, rfl, hl⟩ := clsd_l hV c
    exact Agr_q hJ rfl (fun C Q k => c_ring_yes (d := d + 92) C hl k) (fun h1 j1 r1 f1 Q k => (m_ring_yes (d := d + 93) r1 hV hl.1.1 hl).mpr (k _ M0 (r0 (x := 0) r1) t0))
  · exact Agr_q hJ rfl (fun C Q k => c_ring_no (d := d + 92) C c k) (fun h1 j1 r1 f1 Q k => (m_ring_no (d := d + 93) r1 hV c).mpr (k _ M0 (r0 (x := 0) r1) t0))
theorem ag_closes (hJ : J h) : Agr (d + 99) 66 165 [some (.ref 0), some (.int x)] [some (.ref 93), some (.int x)] h := by
  have hV := hJ.1.1
  by_cases c : clsd (h.1 95) x
  · obtain ⟨l, rfl, hl⟩ := clsd_l hV c
    exact Agr_q hJ rfl (fun C Q k => c_closes_yes (d := d + 92) C hl k) (fun h1 j1 r1 f1 Q k => m_closes_yes (d := d + 93) r1 hV hl k)
  · exact Agr_q hJ rfl (fun C Q k => c_closes_no (d := d + 92) C c k) (fun h1 j1 r1 f1 Q k => m_closes_no (d := d + 93) r1 hV c k)
theorem ag_worst (hJ : J h) : Agr (d + 99) 67 167 [some (.ref 0), none, none, none, none] [some (.ref 93), none, none] h := Agr_q hJ rfl (fun C Q k => c_worst (d := d + 92) C k) (fun h1 j1 r1 f1 Q k => m_worst (d := d + 93) r1 hJ.1.1 k)
theorem ag_blunder (hJ : J h) : Agr (d + 99) 71 178 [some (.ref 0)] [some (.ref 93)] h := Agr_q hJ rfl (fun C Q k => c_blunder (d := d + 93) C k) (fun h1 j1 r1 f1 Q k => m_blunder (d := d + 8) r1 hJ.1.1 k)
theorem ag_next (hJ : J h) : Agr (d + 99) 73 170 [some (.ref 0), some (.int x), none, none, none, none, none] [some (.ref 93), some (.int x), none, none, none, none, none, none, none, none] h := by
  have hV := hJ.1.1
  by_cases c : isH x
  · have e : (if x = 0 then (nxP (h.1 95) (rP (h.1 95))).1 else if x = 1 then (nxP (h.1 95) (rP (h.1 95))).2.1 else -1) = nsel x (nxP (h.1 95) (rP (h.1 95))) := by
      unfold nsel
      by_cases c0 : x = 0
      · rw [if_pos c0, if_pos c0]
      · rw [if_neg c0, if_neg c0, if_pos (by rcases c with z | z; exact absurd z c0; exact z)]
    refine Agr_q hJ rfl (fun C Q k => c_next_yes (d := d + 93) C c k) (fun h1 j1 r1 f1 Q k => m_next (d := d + 91) r1 hV ?_)
    rw [e]
    exact k
  · refine Agr_q hJ rfl (fun C Q k => c_next_no (d := d + 93) C c k) (fun h1 j1 r1 f1 Q k => m_next (d := d + 91) r1 hV ?_)
    rw [if_neg (fun z => c (Or.inl z)), if_neg (fun z => c (Or.inr z))]
    exact k
theorem ag_count (hJ : J h) : Agr (d + 99) 86 198 [some (.ref 0), some (.int x)] [some (.ref 93), some (.int x), none, none] h := by
  obtain ⟨t, n, hA, h21, -⟩ := hJ.2.1
  obtain ⟨m, b, -, -, t1, t2⟩ := hJ.2.2.2.1
  refine Agr_q hJ rfl (fun C Q k => c_count (d := d + 93) C k) (fun h1 j1 r1 f1 Q k => m_count (d := d + 94) r1 hJ.1.1 ?_)
  rw [(f1.1 93 21 (by unfold stS; omega)).1, (f1.1 93 2 (by unfold stS; omega)).1, h21, t2.1]
  rw [hA.2.2.2, t1.1] at k
  exact k
theorem ag_fault (hJ : J h) : Agr (d + 99) 57 127 [some (.ref 0), some (.int x)] [some (.ref 93), some (.int x)] h := by
  refine Agr_u (v := fltV x (h.1 0 7) (h.1 0 8)) hJ rfl (fun C Q k => c_fault k) (fun Q k => m_fault rfl ?_)
  rw [← hJ.2.2.2.2.1.1, ← hJ.2.2.2.2.1.2]
  exact k
/-! acts -/
theorem ag_strike (hJ : J h) : Agr (d + 99) 74 182 [some (.ref 0), some (.int x)] [some (.ref 93), some (.int x)] h := by
  have hV := hJ.1.1
  by_cases c : isL (h.1 95) x
  · obtain ⟨l, hl, rfl⟩ := c
    by_cases cs : snd (h.1 95) l
    · exact Agr_a hJ rfl (fun C t n hA Q k => c_strike_do (d := d + 95) C hA cs (cAct_w (VR_s hV hl isB_0) k)) (fun n h1 hn r1 e1 Q k => m_strike_do (d := d + 96) r1 hV hn e1 cs k)
    · exact Agr_u hJ rfl (fun C Q k => c_strike_1 (d := d + 95) C hl cs k) (fun Q k => m_strike_1 (d := d + 96) rfl hV hl cs k)
  · exact Agr_u hJ rfl (fun C Q k => c_strike_no (d := d + 95) C c k) (fun Q k => m_strike_no (d := d + 96) rfl hV c k)
theorem ag_mend (hJ : J h) : Agr (d + 99) 75 183 [some (.ref 0), some (.int x)] [some (.ref 93), some (.int x)] h := by
  have hV := hJ.1.1
  by_cases c : isL (h.1 95) x
  · obtain ⟨l, hl, rfl⟩ := c
    by_cases cs : snd (h.1 95) l
    · exact Agr_u hJ rfl (fun C Q k => c_mend_1 (d := d + 95) C cs k) (fun Q k => m_mend_1 (d := d + 96) rfl hV cs k)
    · exact Agr_a hJ rfl (fun C t n hA Q k => c_mend_do (d := d + 95) C hA hl cs (cAct_w (VR_s hV hl isB_1) k)) (fun n h1 hn r1 e1 Q k => m_mend_do (d := d + 96) r1 hV hn e1 hl cs k)
  · exact Agr_u hJ rfl (fun C Q k => c_mend_no (d := d + 95) C c k) (fun Q k => m_mend_no (d := d + 96) rfl hV c k)
theorem ag_read (hJ : J h) : Agr (d + 99) 77 184 [some (.ref 0), some (.int x), some (.int y)] [some (.ref 93), some (.int x), some (.int y)] h := by
  have hV := hJ.1.1
  by_cases c : isL (h.1 95) x ∧ inH y
  · obtain ⟨⟨l, hl, rfl⟩, hy⟩ := c
    by_cases ce : h.1 95 (36 + l) = y
    · exact Agr_u hJ rfl (fun C Q k => c_read_1 (d := d + 95) C hl hy ce k) (fun Q k => m_read_1 (d := d + 96) rfl hV hl hy ce k)
    · exact Agr_a hJ rfl (fun C t n hA Q k => c_read_do (d := d + 95) C hA hl hy ce (cAct_w (VR_r hV hl hy) k)) (fun n h1 hn r1 e1 Q k => m_read_do (d := d + 96) r1 hV hn e1 hl hy ce k)
  · exact Agr_u hJ rfl (fun C Q k => c_read_no (d := d + 95) C c k) (fun Q k => m_read_no (d := d + 96) rfl hV c k)
theorem ag_weigh (hJ : J h) : Agr (d + 99) 78 185 [some (.ref 0), some (.int x), some (.int y)] [some (.ref 93), some (.int x), some (.int y)] h := by
  have hV := hJ.1.1
  by_cases c : isL (h.1 95) x ∧ inW y
  · obtain ⟨⟨l, hl, rfl⟩, hy⟩ := c
    by_cases ce : h.1 95 (47 + l) = y
    · exact Agr_u hJ rfl (fun C Q k => c_weigh_1 (d := d + 95) C hl hy ce k) (fun Q k => m_weigh_1 (d := d + 96) rfl hV hl hy ce k)
    · exact Agr_a hJ rfl (fun C t n hA Q k => c_weigh_do (d := d + 95) C hA hl hy ce (cAct_w (VR_w hV hl hy) k)) (fun n h1 hn r1 e1 Q k => m_weigh_do (d := d + 96) r1 hV hn e1 hl hy ce k)
  · exact Agr_u hJ rfl (fun C Q k => c_weigh_no (d := d + 95) C c k) (fun Q k => m_weigh_no (d := d + 96) rfl hV c k)
theorem ag_free (hJ : J h) : Agr (d + 99) 81 186 [some (.ref 0), some (.int x)] [some (.ref 93), some (.int x)] h := by
  have hV := hJ.1.1
  by_cases c : isP (h.1 95) x
  · obtain ⟨l, hl, rfl⟩ := c
    by_cases cs : fxd (h.1 95) l
    · exact Agr_a hJ rfl (fun C t n hA Q k => c_free_do (d := d + 95) C hA cs (cAct_w (VR_f hV hl isB_0) k)) (fun n h1 hn r1 e1 Q k => m_free_do (d := d + 96) r1 hV hn e1 cs k)
    · exact Agr_u hJ rfl (fun C Q k => c_free_1 (d := d + 95) C hl cs k) (fun Q k => m_free_1 (d := d + 96) rfl hV hl cs k)
  · exact Agr_u hJ rfl (fun C Q k => c_free_no (d := d + 95) C c k) (fun Q k => m_free_no (d := d + 96) rfl hV c k)
theorem ag_fix (hJ : J h) : Agr (d + 99) 80 187 [some (.ref 0), some (.int x), some (.int y)] [some (.ref 93), some (.int x), some (.int y)] h := by
  have hV := hJ.1.1
  by_cases c : isP (h.1 95) x ∧ inH y
  · obtain ⟨⟨l, hl, rfl⟩, hy⟩ := c
    by_cases ce : fxd (h.1 95) l ∧ h.1 95 (8 + l) = y
    · exact Agr_u hJ rfl (fun C Q k => c_fix_1 (d := d + 95) C hy ce.1 ce.2 k) (fun Q k => m_fix_1 (d := d + 96) rfl hV hy ce.1 ce.2 k)
    · exact Agr_a hJ rfl (fun C t n hA Q k => c_fix_do (d := d + 95) C hA hl hy ce (cAct_w (VR_h (VR_f hV hl isB_1) (by rw [upd_P (by omega)]; exact hl) hy) k)) (fun n h1 hn r1 e1 Q k => m_fix_do (d := d + 96) r1 hV hn e1 hl hy ce k)
  · exact Agr_u hJ rfl (fun C Q k => c_fix_no (d := d + 95) C c k) (fun Q k => m_fix_no (d := d + 96) rfl hV c k)
theorem ag_add (hJ : J h) : Agr (d + 99) 79 188 [some (.ref 0), some (.int x), some (.int y), some (.int z), some (.int w), none] [some (.ref 93), some (.int x), some (.int y), some (.int z), some (.int w)] h := by
  have hV := hJ.1.1
  by_cases c : isAdd (h.1 95) x y z w
  · have V' : VR (layR (rL (h.1 95)) (h.1 95) x y z w) := by
      obtain ⟨c1, ⟨⟨p, hp, ep⟩, ⟨q, hq, eq⟩, c3⟩, c4, c5⟩ := c
      exact VR_lay hV rfl c1 ep hp eq hq (fun z => c3 (by rw [ep, eq, z])) c4 c5
    exact Agr_a hJ rfl (fun C t n hA Q k => c_add_do (d := d + 95) C hA c (cAct_w V' k)) (fun n h1 hn r1 e1 Q k => m_add_do (d := d + 96) r1 hV hn e1 c k)
  · exact Agr_u hJ rfl (fun C Q k => c_add_no (d := d + 95) C c k) (fun Q k => m_add_no (d := d + 96) rfl hV c k)
/-- no act in the end, but rows set aside -/
theorem Agr_n (hJ : J h) (hr : h.1 95 = r) (hc : cls r h → ∀ Q : Option (Option Value) → Hp → Prop, (∀ h1, frmF (fun a j => (27 ≤ a ∧ a ≤ 32) ∨ SCs a j) h h1 → cls r h1 → Q (some (some (.int v))) h1) → WP d mc 0 lc [] h Q) (hm : ∀ h1, h1.1 95 = r → h1.1 93 21 = h.1 93 21 → ∀ Q : Option (Option Value) → Hp → Prop, (∀ h2, frmF (fun a j => PS a j ∨ a = 99 ∨ a = 95) h1 h2 → h2.1 95 = r → Q (some (some (.int v))) h2) → WP d mm 0 lm [] h1 Q) : Agr d mc mm lc lm h := by
  refine ⟨v, fun h1 => frmF (fun a j => (27 ≤ a ∧ a ≤ 32) ∨ SCs a j) h h1 ∧ cls r h1, fun h1 z => kp_fr z.1 (fun j => by unfold SCs stS; omega), fun Q kk => ?_, fun h1 z Q kk => ?_⟩
  · exact hc (by rw [← hr]; exact hJ.1) Q (fun h1 f1 C1 => kk h1 ⟨f1, C1⟩)
  · have e95 : h1.1 95 = r := by rw [← hr]; exact funext (fun j => (z.1.1 95 j (by unfold SCs stS; omega)).1)
    refine hm h1 e95 (z.1.1 93 21 (by unfold SCs stS; omega)).1 Q (fun h2 f2 r2 => ?_)
    have F : frmF SQ h h2 := frmF_tr ⟨fun a j hq => z.1.1 a j (fun y => hq (by unfold SCs stS at y; unfold SQ; omega)), z.1.2⟩ ⟨fun a j hq => f2.1 a j (fun y => hq (by unfold SQ; rcases y with y | y; exact Or.inr (Or.inr (Or.inl y)); omega)), f2.2⟩
    refine kk h2 (J_q hJ F ?_) (kp_fr F (fun j => by unfold SQ PS MS; omega))
    rw [r2]
    exact cls_fr f2 (fun a j y => by unfold PS MS at y; omega) z.2
theorem ag_snoop (hJ : J h) : Agr (d + 99) 76 189 [some (.ref 0), some (.int x), none, none, none] [some (.ref 93), some (.int x), none, none] h := by
  have hV := hJ.1.1
  obtain ⟨t, n, hA, h21, hK⟩ := hJ.2.1
  by_cases c : isW 9999 x
  · obtain ⟨N, hN, rfl⟩ := nI_of2 (n := 9999) (by decide) c.1 c.2
    by_cases c0 : snC N 11 (h.1 95) = 0
    · exact Agr_n (v := nI 0) hJ rfl (fun C Q k => c_snoop (d := d + 93) C hA hN (fun _ => k) (fun z => by omega)) (fun h1 r1 e1 Q k => m_snoop (d := d + 8) r1 hV hA.2.1 (e1.trans h21) hN (fun _ => k) (fun z => by omega))
    · exact Agr_a hJ rfl (fun C t n hA Q k => c_snoop (d := d + 93) C hA hN (fun z => absurd z c0) (fun _ => k)) (fun n h1 hn r1 e1 Q k => m_snoop (d := d + 8) r1 hV hn e1 hN (fun z => absurd z c0) (fun _ => k))
  · exact Agr_u hJ rfl (fun C Q k => c_snoop_no (d := d + 93) c k) (fun Q k => m_snoop_no (d := d + 8) rfl c k)
theorem ag_drawn (hJ : J h) : Agr (d + 99) 82 192 [some (.ref 0), some (.int x), some (.int y), none, none, none, none, none] [some (.ref 93), some (.int x), some (.int y), none, none] h := by
  have hV := hJ.1.1
  obtain ⟨t, n, hA, h21, hK⟩ := hJ.2.1
  by_cases c : isN x
  · obtain ⟨N, hN1, hN, rfl⟩ := isN_nI c
    rcases Nat.eq_zero_or_pos (rL (h.1 95)) with hL | hL
    · exact Agr_n (v := nI 0) hJ rfl (fun C Q k => c_drawn_e (d := d + 96) C c hL (k h frmF_rf C)) (fun h1 r1 e1 Q k => m_drawn (d := d + 95) r1 hV hA.2.1 (e1.trans h21) hN1 hN (fun _ => k) (fun z => by omega))
    · by_cases c0 : dC N y (h.1 95) = 0
      · exact Agr_n (v := nI 0) hJ rfl (fun C Q k => c_drawn (d := d + 96) C hA hN1 hN hL (fun _ => k) (fun z => by omega)) (fun h1 r1 e1 Q k => m_drawn (d := d + 95) r1 hV hA.2.1 (e1.trans h21) hN1 hN (fun _ => k) (fun _ z => by omega))
      · exact Agr_a hJ rfl (fun C t n hA Q k => c_drawn (d := d + 96) C hA hN1 hN hL (fun z => absurd z c0) (fun _ => cAct_w (dR_V hV hL) k)) (fun n h1 hn r1 e1 Q k => m_drawn (d := d + 95) r1 hV hn e1 hN1 hN (fun z => by rcases z with z | z; omega; exact absurd z c0) (fun _ _ => k))
  · exact Agr_u hJ rfl (fun C Q k => c_drawn_no (d := d + 96) c k) (fun Q k => m_drawn_no (d := d + 95) rfl c k)
end
