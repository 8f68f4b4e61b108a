/-! The other calls that agree: feed, end, net, undo, image, restore; those that may throw. -/
section
variable {d mc mm : Nat} {lc lm : LV} {h h' h1 h2 : Hp} {r r' : Nat → Int32} {x y z w v x1 x2 x3 x4 x5 : Int32} {k l p q t n m : Nat} {b b' : Nat → Nat}
theorem J_tape (hJ : J h) (hm : m ≤ 540) (hb : ∀ j, b' j < 256) (f1 : frmF TCs h h1) (t1 : tpC m b' h1) (f2 : frmF (fun a j => TMs a j ∨ (a = 93 ∧ j = 0)) h1 h2) (t2 : tpM m b' h2) : J h2 ∧ kp h h2 := by
  obtain ⟨C0, a1, a2, a3, a4, a5⟩ := hJ
  have F : frmF (fun a j => TCs a j ∨ TMs a j ∨ (a = 93 ∧ j = 0)) h h2 := frmF_tr ⟨fun a j hq => f1.1 a j (fun z => hq (Or.inl z)), f1.2⟩ ⟨fun a j hq => f2.1 a j (fun z => hq (Or.inr z)), f2.2⟩
  have e95 : h2.1 95 = h.1 95 := funext (fun j => (F.1 95 j (by unfold TCs TMs; omega)).1)
  refine ⟨⟨?_, jA_fr F ?_ a1, jI_fr F ?_ a2, ⟨m, b', hm, hb, tpC_fr f2 ?_ t1, t2⟩, jF_fr F ?_ a4, jR_fr F ?_ a5⟩, kp_fr F ?_⟩
  · rw [e95]; exact cls_fr F (fun a j z => by unfold TCs TMs at z; omega) C0
  all_goals unfold TMs
  all_goals try unfold TCs
  all_goals intros
  all_goals omega
theorem ag_feed (hJ : J h) : Agr (d + 99) 54 105 [some (.ref 0), some (.int x1), some (.int x2), some (.int x3), some (.int x4), some (.int x5)] [some (.ref 93), some (.int x1), some (.int x2), some (.int x3), some (.int x4), some (.int x5)] h := by
  obtain ⟨n, b, hn, hb, t1, t2⟩ := hJ.2.2.2.1
  by_cases c : n + 20 ≤ 540
  · refine ⟨nI (n + 20), fun h1 => frmF TCs h h1 ∧ tpC (n + 20) (ap5 b n x1 x2 x3 x4 x5) h1, fun h1 z => kp_fr z.1 (fun j => by unfold TCs; omega), fun Q kk => c_feed (d := d + 98) t1 c (fun h1 f1 e1 => kk h1 ⟨f1, e1⟩), fun h1 z Q kk => ?_⟩
    refine m_feed (d := d + 98) (tpM_fr z.1 (fun a j y => by unfold TCs at y; omega) t2) c (fun h2 f2 e2 => ?_)
    obtain ⟨a1, a2⟩ := J_tape hJ c (ap_lt (ap_lt (ap_lt (ap_lt (ap_lt hb))))) z.1 z.2 f2 e2
    exact kk h2 a1 a2
  · exact Agr_u hJ rfl (fun C Q k => c_feed_no (d := d + 98) t1 hn c k) (fun Q k => m_feed_no (d := d + 98) rfl t2 hn c k)
theorem ag_end (hJ : J h) : Agr (d + 99) 55 106 [some (.ref 0), some (.int x)] [some (.ref 93), some (.int x)] h := by
  obtain ⟨n, b, hn, hb, t1, t2⟩ := hJ.2.2.2.1
  by_cases c : ¬ x < 0 ∧ x ≤ nI n
  · obtain ⟨m, hm, rfl⟩ := nI_of2 (n := n) (nI_toInt (by omega)) c.1 c.2
    refine ⟨1, fun h1 => frmF TCs h h1 ∧ tpC m b h1, fun h1 z => kp_fr z.1 (fun j => by unfold TCs; omega), fun Q kk => c_end t1 hm hn (fun h1 f1 e1 => kk h1 ⟨f1, e1⟩), fun h1 z Q kk => ?_⟩
    refine m_end (tpM_fr z.1 (fun a j y => by unfold TCs at y; omega) t2) hm hn (fun h2 f2 e2 => ?_)
    obtain ⟨a1, a2⟩ := J_tape hJ (by omega) hb z.1 z.2 f2 e2
    exact kk h2 a1 a2
  · exact Agr_u hJ rfl (fun C Q k => c_end_no t1 c k) (fun Q k => m_end_no rfl t2 c k)
theorem ag_undo (hJ : J h) : Agr (d + 99) 83 193 [some (.ref 0)] [some (.ref 93)] h := by
  obtain ⟨C0, aA, a2, a3, a4, a5⟩ := id hJ
  obtain ⟨t, n, hA, h21, hK⟩ := aA
  rcases Nat.eq_zero_or_pos n with e | e
  · subst e
    exact Agr_u hJ rfl (fun C Q k => c_undo_no (d := d + 96) hA.2.2.2 k) (fun Q k => m_undo_no (d := d + 96) rfl h21 k)
  · obtain ⟨n, rfl⟩ : ∃ m, n = m + 1 := ⟨n - 1, by omega⟩
    have hn8 := hA.2.1
    have ht := hA.1
    obtain ⟨v1, c1⟩ := hK n (by omega)
    rw [show (t + 8 - (n + 1) + n) % 8 = (t + 7) % 8 by omega] at c1
    refine ⟨nI n, fun h1 => frmF (fun a j => (21 ≤ a ∧ a ≤ 26) ∨ (a = 5 ∧ (j = 1 ∨ j = 2)) ∨ (a = 0 ∧ j = 11)) h h1 ∧ h1.1 5 1 = nI ((t + 7) % 8) ∧ h1.1 5 2 = nI n ∧ CN h1 21 (sub h 98 n) ∧ h1.1 0 11 = 1, fun h1 z => kp_fr z.1 (fun j => by omega), fun Q kk => c_undo_do (d := d + 96) v1 hA c1 (fun h1 f1 e1 e2 e3 e4 => kk h1 ⟨f1, e1, e2, e3, e4⟩), fun h1 z Q kk => ?_⟩
    obtain ⟨f1, g1, g2, g3, g4⟩ := z
    refine m_undo_do (d := d + 96) (n := n) (by omega) (by rw [(f1.1 93 21 (by omega)).1]; exact h21) (fun h2 f2 e1 e2 => ?_)
    have es1 : sub h1 98 n = sub h 98 n := funext (fun j => (f1.1 98 _ (by omega)).1)
    rw [es1] at e2
    have F : frmF (fun a j => ((21 ≤ a ∧ a ≤ 26) ∨ (a = 5 ∧ (j = 1 ∨ j = 2)) ∨ (a = 0 ∧ j = 11)) ∨ (a = 95 ∨ (a = 93 ∧ (j = 0 ∨ j = 21)))) h h2 := frmF_tr ⟨fun a j hq => f1.1 a j (fun z => hq (Or.inl z)), f1.2⟩ ⟨fun a j hq => f2.1 a j (fun z => hq (Or.inr z)), f2.2⟩
    refine kk h2 ⟨?_, ?_, jI_fr F ?_ a2, jT_fr F ?_ a3, jF_fr F ?_ a4, jR_fr F ?_ a5⟩ (kp_fr F ?_)
    · refine cls_eq (eq69_sy e2) v1 (CN_fF f2 (fun a j z1 z2 z3 => by omega) g3) ?_
      rw [(f2.1 0 11 (by omega)).1]; exact g4
    · refine ⟨(t + 7) % 8, n, ⟨by omega, by omega, by rw [(f2.1 5 1 (by omega)).1]; exact g1, by rw [(f2.1 5 2 (by omega)).1]; exact g2⟩, e1, fun i hi => ?_⟩
      have es : sub h2 98 i = sub h 98 i := funext (fun j => (F.1 98 _ (by omega)).1)
      obtain ⟨w1, w2⟩ := hK i (by omega)
      rw [es]
      refine ⟨w1, CN_fF F (fun a j z1 z2 z3 => by unfold nid at z1 z2; omega) ?_⟩
      rw [show ((t + 7) % 8 + 8 - n + i) % 8 = (t + 8 - (n + 1) + i) % 8 by omega]
      exact w2
    all_goals intros
    all_goals omega
theorem ag_image (hJ : J h) : Agr (d + 99) 84 194 [some (.ref 0), some (.int x)] [some (.ref 93), some (.int x)] h := by
  obtain ⟨C0, a1, aI, a3, a4, a5⟩ := id hJ
  by_cases c : isH x
  · obtain ⟨k, hk, rfl⟩ := isH_nI c
    refine ⟨1, fun h1 => frmF (fun a j => (81 ≤ a ∧ a ≤ 92) ∨ (a = 0 ∧ j = 6)) h h1 ∧ (∀ a, 81 ≤ a → a ≤ 92 → ¬ (nid (10 + k) ≤ a ∧ a ≤ nid (10 + k) + 5) → h1.1 a = h.1 a) ∧ CN h1 (nid (10 + k)) (h.1 95) ∧ h1.1 0 6 = h.1 0 6 ||| ((1 : Int32) <<< (nI k &&& 31)), fun h1 z => kp_fr z.1 (fun j => by omega), fun Q kk => c_image_do (d := d + 97) C0 hk (fun h1 f1 e1 e2 e3 => kk h1 ⟨f1, e1, e2, e3⟩), fun h1 z Q kk => ?_⟩
    obtain ⟨f1, g1, g2, g3⟩ := z
    have e95 : h1.1 95 = h.1 95 := funext (fun j => (f1.1 95 j (by omega)).1)
    refine m_image_do (d := d + 97) e95 hk (fun h2 f2 e1 e2 e3 => ?_)
    have F : frmF (fun a j => ((81 ≤ a ∧ a ≤ 92) ∨ (a = 0 ∧ j = 6)) ∨ (a = 97 ∨ a = 102 ∨ (a = 93 ∧ j = 0))) h h2 := frmF_tr ⟨fun a j hq => f1.1 a j (fun z => hq (Or.inl z)), f1.2⟩ ⟨fun a j hq => f2.1 a j (fun z => hq (Or.inr z)), f2.2⟩
    have e95' : h2.1 95 = h.1 95 := funext (fun j => (F.1 95 j (by omega)).1)
    have e102 : h2.1 102 = upd (h.1 102) k 1 := by rw [e3]; congr 1; exact funext (fun j => (f1.1 102 j (by omega)).1)
    have e06 : h2.1 0 6 = h.1 0 6 ||| ((1 : Int32) <<< (nI k &&& 31)) := by rw [(f2.1 0 6 (by omega)).1]; exact g3
    refine kk h2 ⟨?_, jA_fr F ?_ a1, fun i hi => ?_, jT_fr F ?_ a3, jF_fr F ?_ a4, jR_fr F ?_ a5⟩ (kp_fr F ?_)
    · rw [e95']
      refine ⟨C0.1, CN_fF F (fun a j z1 z2 z3 => by omega) C0.2.1, by rw [(F.1 0 11 (by omega)).1]; exact C0.2.2.1, fun z => ?_⟩
      rw [(F.1 0 11 (by omega)).1] at z
      obtain ⟨b1, b2⟩ := C0.2.2.2 z
      have o : ∀ a, 8 ≤ a → a ≤ 20 → h2.1 a = h.1 a ∧ h2.2.1 a = h.2.1 a := fun a z1 z2 => ⟨funext (fun j => (F.1 a j (by omega)).1), funext (fun j => (F.1 a j (by omega)).2)⟩
      refine ⟨tiOK_frm (S := fun a => ¬ (8 ≤ a ∧ a ≤ 20)) ⟨fun a ha => o a (by omega) (by omega), F.2⟩ (fun a z1 z2 z3 => by omega) b1, ?_⟩
      obtain ⟨q1, q2, q3, q4, q5⟩ := b2
      refine ⟨by rw [(o 12 (by omega) (by omega)).1]; exact q1, fun p hp => by rw [(o 13 (by omega) (by omega)).1]; exact q2 p hp, by rw [(o 12 (by omega) (by omega)).2]; exact q3, fun a b ha hb => ?_, fun p hp => by rw [(o 20 (by omega) (by omega)).2]; exact q5 p hp⟩
      show h2.2.1 (15 + a) b = _
      rw [(o (15 + a) (by omega) (by omega)).2]
      exact q4 a b ha hb
    · intro a j z; omega
    · rw [e06, e102, bt_on (by omega) (show i < 32 by omega), Bool.or_eq_true, decide_eq_true_eq]
      by_cases e : i = k
      · subst e
        rw [upd_eq]
        refine ⟨⟨fun _ => by decide, fun _ => Or.inr rfl⟩, fun _ => ?_⟩
        refine ⟨(VR_eq (eq69_sy e1) C0.1).1, CN_eq (eq69_sy e1) C0.1 (CN_fF f2 (fun a j z1 z2 z3 => by unfold nid at z1 z2; omega) g2)⟩
      · rw [upd_ne e]
        have old := aI i hi
        have es := eq69_tr (e2 i hi e) (show eq69 (sub h1 97 i) (sub h 97 i) from fun j hj => (f1.1 97 _ (by omega)).1)
        refine ⟨⟨fun z => old.1.mp (by rcases z with z | z; exact z; exact absurd z e), fun z => Or.inl (old.1.mpr z)⟩, fun z => ?_⟩
        obtain ⟨w1, w2⟩ := old.2 z
        have w3 : CN h1 (nid (10 + i)) (sub h 97 i) := by
          have ee : ∀ a, nid (10 + i) ≤ a → a ≤ nid (10 + i) + 5 → h1.1 a = h.1 a := fun a z1 z2 => g1 a (by unfold nid at z1; omega) (by unfold nid at z2; omega) (fun z => by unfold nid at z z1 z2; omega)
          refine ⟨?_, ?_, ?_, ?_, fun p hp => ?_, fun l hl => ?_⟩
          · rw [ee _ (by omega) (by omega)]; exact w2.1
          · rw [ee _ (by omega) (by omega)]; exact w2.2.1
          · rw [ee _ (by omega) (by omega)]; exact w2.2.2.1
          · rw [ee _ (by omega) (by omega)]; exact w2.2.2.2.1
          · rw [ee _ (by omega) (by omega)]; exact w2.2.2.2.2.1 p hp
          · rw [ee _ (by omega) (by omega), ee _ (by omega) (by omega), ee _ (by omega) (by omega), ee _ (by omega) (by omega)]; exact w2.2.2.2.2.2 l hl
        exact ⟨(VR_eq (eq69_sy es) w1).1, CN_eq (eq69_sy es) w1 (CN_fF f2 (fun a j z1 z2 z3 => by unfold nid at z1 z2; omega) w3)⟩
    all_goals intros
    all_goals omega
  · exact Agr_u hJ rfl (fun C Q k => c_image_no (d := d + 97) c k) (fun Q k => m_image_no (d := d + 97) rfl c k)
theorem J_new (hJ : J h) (hV : VR r) (f1 : frmF (fun a j => (21 ≤ a ∧ a ≤ 26) ∨ (a = 5 ∧ j = 2) ∨ (a = 0 ∧ j = 11)) h h1) (g2 : h1.1 5 2 = nI 0) (g3 : CN h1 21 r) (g4 : h1.1 0 11 = 1) (f2 : frmF (fun a j => a = 95 ∨ (a = 93 ∧ (j = 0 ∨ j = 21))) h1 h2) (e1 : h2.1 93 21 = nI 0) (e2 : eq69 (h2.1 95) r) : J h2 ∧ kp h h2 := by
  obtain ⟨C0, aA, a2, a3, a4, a5⟩ := hJ
  obtain ⟨t, n, hA, h21, hK⟩ := aA
  have F : frmF (fun a j => ((21 ≤ a ∧ a ≤ 26) ∨ (a = 5 ∧ j = 2) ∨ (a = 0 ∧ j = 11)) ∨ (a = 95 ∨ (a = 93 ∧ (j = 0 ∨ j = 21)))) h h2 := frmF_tr ⟨fun a j hq => f1.1 a j (fun z => hq (Or.inl z)), f1.2⟩ ⟨fun a j hq => f2.1 a j (fun z => hq (Or.inr z)), f2.2⟩
  refine ⟨⟨?_, ?_, jI_fr F ?_ a2, jT_fr F ?_ a3, jF_fr F ?_ a4, jR_fr F ?_ a5⟩, (kp_fr F ?_)⟩
  · refine cls_eq (eq69_sy e2) hV (CN_fF f2 (fun a j z1 z2 z3 => by omega) g3) ?_
    rw [(f2.1 0 11 (by omega)).1]; exact g4
  · refine ⟨t, 0, ⟨hA.1, by omega, by rw [(F.1 5 1 (by omega)).1]; exact hA.2.2.1, by rw [(f2.1 5 2 (by omega)).1]; exact g2⟩, e1, fun i hi => by omega⟩
  all_goals intros
  all_goals omega
theorem ag_restore (hJ : J h) : Agr (d + 99) 85 195 [some (.ref 0), some (.int x)] [some (.ref 93), some (.int x)] h := by
  have aI := hJ.2.2.1
  by_cases c : ∃ k, k < 2 ∧ x = nI k ∧ bt (h.1 0 6) k = true
  · obtain ⟨k, hk, rfl, hb⟩ := c
    have hm := (aI k hk).1.mp hb
    obtain ⟨v1, c1⟩ := (aI k hk).2 hm
    refine ⟨1, fun h1 => frmF (fun a j => (21 ≤ a ∧ a ≤ 26) ∨ (a = 5 ∧ j = 2) ∨ (a = 0 ∧ j = 11)) h h1 ∧ h1.1 5 2 = nI 0 ∧ CN h1 21 (sub h 97 k) ∧ h1.1 0 11 = 1, fun h1 z => kp_fr z.1 (fun j => by omega), fun Q kk => c_restore_do (d := d + 97) v1 hk hb c1 (fun h1 f1 e1 e2 e3 => kk h1 ⟨f1, e1, e2, e3⟩), fun h1 z Q kk => ?_⟩
    obtain ⟨f1, g2, g3, g4⟩ := z
    refine m_restore_do (d := d + 97) hk (by rw [(f1.1 102 k (by omega)).1]; exact hm) (fun h2 f2 e1 e2 => ?_)
    have es1 : sub h1 97 k = sub h 97 k := funext (fun j => (f1.1 97 _ (by omega)).1)
    rw [es1] at e2
    obtain ⟨a1, a2⟩ := J_new hJ v1 f1 g2 g3 g4 f2 e1 e2
    exact kk h2 a1 a2
  · refine Agr_u hJ rfl (fun C Q k => c_restore_no (d := d + 97) c k) (fun Q k => m_restore_no (d := d + 97) rfl (fun z => c ?_) k)
    obtain ⟨k, hk, e, hz⟩ := z
    exact ⟨k, hk, e, (aI k hk).1.mpr hz⟩
theorem ag_net (hJ : J h) : Agr (d + 99) 56 126 [some (.ref 0), none] [some (.ref 93), none] h := by
  obtain ⟨C0, aA, a2, aT, a4, a5⟩ := id hJ
  obtain ⟨n, b, hn, hb, t1, t2⟩ := aT
  have hr : rdC b n h := ⟨hn, hb, t1⟩
  cases e : netS b n with
  | inl F =>
    refine ⟨-1 - nI F.1.2, fun h1 => frmF (fun a j => RIs a j ∨ (a = 0 ∧ (j = 7 ∨ j = 8)) ∨ (a = 1 ∧ j = 1)) h h1 ∧ h1.1 1 1 = nI 0 ∧ h1.1 0 7 = nI F.1.1 ∧ h1.1 0 8 = nI F.2, fun h1 z => kp_fr z.1 (fun j => by unfold RIs; omega), fun Q kk => c_net (d := d + 93) hr a5 (fun F' e' h1 f1 g1 g2 g3 => ?_) (fun q e' => ?_), fun h1 z Q kk => ?_⟩
    · rw [e] at e'; cases e'
      exact kk h1 ⟨f1, g1, g2, g3⟩
    · rw [e] at e'; cases e'
    · obtain ⟨f1, g1, g2, g3⟩ := z
      refine m_net (d := d + 95) (tpM_fr f1 (fun a j y => by unfold RIs at y; omega) t2) hn hb (fun F' e' h2 f2 w1 w2 w3 => ?_) (fun q e' => ?_)
      · rw [e] at e'; cases e'
        have G : frmF (fun a j => (RIs a j ∨ (a = 0 ∧ (j = 7 ∨ j = 8)) ∨ (a = 1 ∧ j = 1)) ∨ NMs a j) h h2 := frmF_tr ⟨fun a j hq => f1.1 a j (fun z => hq (Or.inl z)), f1.2⟩ ⟨fun a j hq => f2.1 a j (fun z => hq (Or.inr z)), f2.2⟩
        have e95 : h2.1 95 = h.1 95 := funext (fun j => (G.1 95 j (by unfold RIs NMs MIs; omega)).1)
        refine kk h2 ⟨?_, jA_fr G ?_ aA, jI_fr G ?_ a2, ⟨0, b, by omega, hb, ⟨?_, fun j hj => by omega⟩, ⟨w1, fun j hj => by omega⟩⟩, ⟨?_, ?_⟩, jR_fr G ?_ a5⟩ (kp_fr G ?_)
        · rw [e95]
          have C1 : cls (h.1 95) h2 := by
            refine ⟨C0.1, CN_fF G (fun a j z1 z2 z3 => by unfold RIs NMs MIs at z3; omega) C0.2.1, by rw [(G.1 0 11 (by unfold RIs NMs MIs; omega)).1]; exact C0.2.2.1, fun z => ?_⟩
            rw [(G.1 0 11 (by unfold RIs NMs MIs; omega)).1] at z
            obtain ⟨b1, b2⟩ := C0.2.2.2 z
            have o : ∀ a, 8 ≤ a → a ≤ 20 → h2.1 a = h.1 a ∧ h2.2.1 a = h.2.1 a := fun a z1 z2 => ⟨funext (fun j => (G.1 a j (by unfold RIs NMs MIs; omega)).1), funext (fun j => (G.1 a j (by unfold RIs NMs MIs; omega)).2)⟩
            refine ⟨tiOK_frm (S := fun a => ¬ (8 ≤ a ∧ a ≤ 20)) ⟨fun a ha => o a (by omega) (by omega), G.2⟩ (fun a z1 z2 z3 => by omega) b1, ?_⟩
            obtain ⟨q1, q2, q3, q4, q5⟩ := b2
            refine ⟨by rw [(o 12 (by omega) (by omega)).1]; exact q1, fun p hp => by rw [(o 13 (by omega) (by omega)).1]; exact q2 p hp, by rw [(o 12 (by omega) (by omega)).2]; exact q3, fun a b ha hb => ?_, fun p hp => by rw [(o 20 (by omega) (by omega)).2]; exact q5 p hp⟩
            show h2.2.1 (15 + a) b = _
            rw [(o (15 + a) (by omega) (by omega)).2]
            exact q4 a b ha hb
          exact C1
        · unfold RIs NMs MIs; intros; omega
        · unfold RIs NMs MIs; intros; omega
        · rw [(f2.1 1 1 (by unfold NMs MIs; omega)).1]; exact g1
        · rw [(f2.1 0 7 (by unfold NMs MIs; omega)).1, g2, w2]
        · rw [(f2.1 0 8 (by unfold NMs MIs; omega)).1, g3, w3]
        · unfold RIs NMs MIs; intros; omega
        · unfold RIs NMs MIs; intros; omega
      · rw [e] at e'; cases e'
  | inr q =>
    refine ⟨nI q.1, fun h1 => VR q.2 ∧ frmF NTs h h1 ∧ h1.1 1 1 = nI 0 ∧ h1.1 0 7 = 0 ∧ h1.1 0 8 = -1 ∧ CN h1 21 q.2 ∧ h1.1 5 2 = nI 0 ∧ h1.1 0 11 = 1, fun h1 z => kp_fr z.2.1 (fun j => by unfold NTs RIs; omega), fun Q kk => c_net (d := d + 93) hr a5 (fun F' e' => ?_) (fun q' e' V' h1 f1 g1 g2 g3 g4 g5 g6 => ?_), fun h1 z Q kk => ?_⟩
    · rw [e] at e'; cases e'
    · rw [e] at e'; cases e'
      exact kk h1 ⟨V', f1, g1, g2, g3, g4, g5, g6⟩
    · obtain ⟨V', f1, g1, g2, g3, g4, g5, g6⟩ := z
      refine m_net (d := d + 95) (tpM_fr f1 (fun a j y => by unfold NTs RIs at y; omega) t2) hn hb (fun F' e' => ?_) (fun q' e' h2 f2 w1 w2 w3 w4 w5 => ?_)
      · rw [e] at e'; cases e'
      · rw [e] at e'; cases e'
        have G : frmF (fun a j => NTs a j ∨ (NMs a j ∨ a = 95 ∨ (a = 93 ∧ j = 21))) h h2 := frmF_tr ⟨fun a j hq => f1.1 a j (fun z => hq (Or.inl z)), f1.2⟩ ⟨fun a j hq => f2.1 a j (fun z => hq (Or.inr z)), f2.2⟩
        obtain ⟨t, m, hA, h21, hK⟩ := aA
        refine kk h2 ⟨?_, ⟨t, 0, ⟨hA.1, by omega, ?_, ?_⟩, w5, fun i hi => by omega⟩, jI_fr G ?_ a2, ⟨0, b, by omega, hb, ⟨?_, fun j hj => by omega⟩, ⟨w1, fun j hj => by omega⟩⟩, ⟨?_, ?_⟩, jR_fr G ?_ a5⟩ (kp_fr G ?_)
        · refine cls_eq (eq69_sy w4) V' (CN_fF f2 (fun a j z1 z2 z3 => by unfold NMs MIs at z3; omega) g4) ?_
          rw [(f2.1 0 11 (by unfold NMs MIs; omega)).1]; exact g6
        · rw [(G.1 5 1 (by unfold NTs RIs NMs MIs; omega)).1]; exact hA.2.2.1
        · rw [(f2.1 5 2 (by unfold NMs MIs; omega)).1]; exact g5
        · unfold NTs RIs NMs MIs; intros; omega
        · rw [(f2.1 1 1 (by unfold NMs MIs; omega)).1]; exact g1
        · rw [(f2.1 0 7 (by unfold NMs MIs; omega)).1, g2, w2]
        · rw [(f2.1 0 8 (by unfold NMs MIs; omega)).1, g3, w3]
        · unfold NTs RIs NMs MIs; intros; omega
        · unfold NTs RIs NMs MIs; intros; omega
end
