/-! What holds of class and model together between two calls. -/
def jA (h : Hp) : Prop := ∃ t n, actA t n h ∧ h.1 93 21 = nI n ∧ ∀ i, i < n → VR (sub h 98 i) ∧ CN h (nid (2 + (t + 8 - n + i) % 8)) (sub h 98 i)
def jI (h : Hp) : Prop := ∀ k, k < 2 → (bt (h.1 0 6) k = true ↔ h.1 102 k ≠ 0) ∧ (h.1 102 k ≠ 0 → VR (sub h 97 k) ∧ CN h (nid (10 + k)) (sub h 97 k))
def jT (h : Hp) : Prop := ∃ n b, n ≤ 540 ∧ (∀ j, b j < 256) ∧ tpC n b h ∧ tpM n b h
def jF (h : Hp) : Prop := h.1 0 7 = h.1 93 8 ∧ h.1 0 8 = h.1 93 9
def J (h : Hp) : Prop := cls (h.1 95) h ∧ jA h ∧ jI h ∧ jT h ∧ jF h ∧ jR h
def kp (h h' : Hp) : Prop := h'.1 1000 = h.1 1000 ∧ h'.2.2 = h.2.2
section
variable {h h' h1 h2 : Hp} {r r' : Nat → Int32} {S : Nat → Nat → Prop} {k l p q t n m : Nat} {b : Nat → Nat}
theorem kp_rf : kp h h := ⟨rfl, rfl⟩
theorem kp_tr (a : kp h h1) (c : kp h1 h2) : kp h h2 := ⟨c.1.trans a.1, c.2.trans a.2⟩
theorem kp_fr (hf : frmF S h h') (hS : ∀ j, ¬ S 1000 j) : kp h h' := ⟨funext (fun j => (hf.1 1000 j (hS j)).1), hf.2⟩
theorem jA_fr (hf : frmF S h h') (hS : ∀ a j, S a j → ¬ (a = 5 ∧ (j = 1 ∨ j = 2)) ∧ ¬ (a = 93 ∧ j = 21) ∧ a ≠ 98 ∧ ¬ (33 ≤ a ∧ a ≤ 80)) (hj : jA h) : jA h' := by
  obtain ⟨t, n, ⟨a1, a2, a3, a4⟩, a5, a6⟩ := hj
  have es : ∀ i, sub h' 98 i = sub h 98 i := fun i => funext (fun j => (hf.1 98 _ (fun z => (hS _ _ z).2.2.1 rfl)).1)
  refine ⟨t, n, ⟨a1, a2, ?_, ?_⟩, ?_, fun i hi => ?_⟩
  · rw [(hf.1 5 1 (fun z => (hS _ _ z).1 ⟨rfl, Or.inl rfl⟩)).1]; exact a3
  · rw [(hf.1 5 2 (fun z => (hS _ _ z).1 ⟨rfl, Or.inr rfl⟩)).1]; exact a4
  · rw [(hf.1 93 21 (fun z => (hS _ _ z).2.1 ⟨rfl, rfl⟩)).1]; exact a5
  · rw [es]
    exact ⟨(a6 i hi).1, CN_fF hf (fun a j z1 z2 z3 => (hS a j z3).2.2.2 (by unfold nid at z1 z2; omega)) (a6 i hi).2⟩
theorem jI_fr (hf : frmF S h h') (hS : ∀ a j, S a j → ¬ (a = 0 ∧ j = 6) ∧ a ≠ 102 ∧ a ≠ 97 ∧ ¬ (81 ≤ a ∧ a ≤ 92)) (hj : jI h) : jI h' := by
  intro k hk
  have es : sub h' 97 k = sub h 97 k := funext (fun j => (hf.1 97 _ (fun z => (hS _ _ z).2.2.1 rfl)).1)
  rw [(hf.1 0 6 (fun z => (hS _ _ z).1 ⟨rfl, rfl⟩)).1, (hf.1 102 k (fun z => (hS _ _ z).2.1 rfl)).1, es]
  exact ⟨(hj k hk).1, fun z => ⟨((hj k hk).2 z).1, CN_fF hf (fun a j z1 z2 z3 => (hS a j z3).2.2.2 (by unfold nid at z1 z2; omega)) ((hj k hk).2 z).2⟩⟩
theorem tpC_fr (hf : frmF S h h') (hS : ∀ a j, S a j → a ≠ 1 ∧ a ≠ 2) (hj : tpC n b h) : tpC n b h' := ⟨by rw [(hf.1 1 1 (fun z => (hS _ _ z).1 rfl)).1]; exact hj.1, fun j hj' => by rw [(hf.1 2 j (fun z => (hS _ _ z).2 rfl)).1]; exact hj.2 j hj'⟩
theorem tpM_fr (hf : frmF S h h') (hS : ∀ a j, S a j → a ≠ 94 ∧ ¬ (a = 93 ∧ j = 2)) (hj : tpM n b h) : tpM n b h' := ⟨by rw [(hf.1 93 2 (fun z => (hS _ _ z).2 ⟨rfl, rfl⟩)).1]; exact hj.1, fun j hj' => by rw [(hf.1 94 j (fun z => (hS _ _ z).1 rfl)).1]; exact hj.2 j hj'⟩
theorem jT_fr (hf : frmF S h h') (hS : ∀ a j, S a j → a ≠ 1 ∧ a ≠ 2 ∧ a ≠ 94 ∧ ¬ (a = 93 ∧ j = 2)) (hj : jT h) : jT h' := by
  obtain ⟨n, b, a1, a2, a3, a4⟩ := hj
  exact ⟨n, b, a1, a2, tpC_fr hf (fun a j z => ⟨(hS a j z).1, (hS a j z).2.1⟩) a3, tpM_fr hf (fun a j z => (hS a j z).2.2) a4⟩
theorem jF_fr (hf : frmF S h h') (hS : ∀ a j, S a j → ¬ (a = 0 ∧ (j = 7 ∨ j = 8)) ∧ ¬ (a = 93 ∧ (j = 8 ∨ j = 9))) (hj : jF h) : jF h' := by
  refine ⟨?_, ?_⟩
  · rw [(hf.1 0 7 (fun z => (hS _ _ z).1 ⟨rfl, Or.inl rfl⟩)).1, (hf.1 93 8 (fun z => (hS _ _ z).2 ⟨rfl, Or.inl rfl⟩)).1]; exact hj.1
  · rw [(hf.1 0 8 (fun z => (hS _ _ z).1 ⟨rfl, Or.inr rfl⟩)).1, (hf.1 93 9 (fun z => (hS _ _ z).2 ⟨rfl, Or.inr rfl⟩)).1]; exact hj.2
theorem cls_fr (hf : frmF S h h') (hS : ∀ a j, S a j → a ≠ 0 ∧ (26 < a ∨ a < 8)) (hC : cls r h) : cls r h' := cls_frm (S := fun a => a ≠ 0 ∧ (26 < a ∨ a < 8)) ⟨fun a ha => ⟨funext (fun j => (hf.1 a j (fun z => ha (hS a j z))).1), funext (fun j => (hf.1 a j (fun z => ha (hS a j z))).2)⟩, hf.2⟩ (fun a z => z) hC
theorem cls_eq (e : eq69 r r') (hV : VR r) (hN : CN h 21 r) (h1 : h.1 0 11 = 1) : cls r' h := cls_st (VR_eq e hV).1 (CN_eq e hV hN) h1
/-- places that no part of what is joint names, the net itself apart -/
def SQ (a j : Nat) : Prop := (6 ≤ a ∧ a ≤ 32) ∨ (a = 0 ∧ j = 11) ∨ PS a j ∨ a = 99 ∨ a = 100 ∨ a = 95 ∨ a = 96 ∨ a = 101 ∨ a = 108
theorem J_q (hJ : J h) (hf : frmF SQ h h') (hC : cls (h'.1 95) h') : J h' := by
  obtain ⟨-, a1, a2, a3, a4, a5⟩ := hJ
  refine ⟨hC, jA_fr hf ?_ a1, jI_fr hf ?_ a2, jT_fr hf ?_ a3, jF_fr hf ?_ a4, jR_fr hf ?_ a5⟩
  all_goals unfold SQ PS MS
  all_goals intros
  all_goals omega
theorem J_c (hJ : J h) (hr : h.1 95 = r) (hf : frmF stS h h') (hC : cls r h') : J h' ∧ h'.1 95 = r ∧ kp h h' := by
  have e : h'.1 95 = r := by rw [← hr]; exact funext (fun j => (hf.1 95 j (by unfold stS; omega)).1)
  refine ⟨J_q hJ ⟨fun a j hq => hf.1 a j (fun z => hq (by unfold stS at z; unfold SQ; omega)), hf.2⟩ (by rw [e]; exact hC), e, kp_fr hf (fun j => by unfold stS; omega)⟩
theorem J_m (hJ : J h) (hf : pfr h h') (hr : h'.1 95 = h.1 95) : J h' ∧ kp h h' := by
  refine ⟨J_q hJ ⟨fun a j hq => hf.1 a j (fun z => hq (Or.inr (Or.inr (Or.inl z)))), hf.2⟩ ?_, kp_fr hf (fun j => by unfold PS MS; omega)⟩
  rw [hr]
  exact cls_fr hf (fun a j z => by unfold PS MS at z; omega) hJ.1
theorem J_tick (hJ : J h) : J (tick h) := hJ
theorem J_out {x : Int64} {j : Nat} (hJ : J h) : J (setL h 108 j x) := J_q hJ (frmF_L (by unfold SQ; omega)) (cls_fr (S := fun a _ => a = 108) (frmF_L rfl) (fun a j z => by omega) hJ.1)
/-- behind an act of both -/
theorem jA_act (hV : VR r) (hA : actA t n h) (hK : ∀ i, i < n → VR (sub h 98 i) ∧ CN h (nid (2 + (t + 8 - n + i) % 8)) (sub h 98 i)) (f1 : frmF CAs h h1) (p1 : pushed t n h h1 r) (f2 : frmF MAs h1 h2) (s2 : snapped n h1 h2 r) : jA h2 := by
  obtain ⟨ht, hn, b1, b2⟩ := hA
  have e5 : ∀ j, h2.1 5 j = h1.1 5 j := fun j => (f2.1 5 j (by unfold MAs MS; omega)).1
  have es : ∀ i, sub h1 98 i = sub h 98 i := fun i => funext (fun j => (f1.1 98 _ (by unfold CAs stS; omega)).1)
  have cn : ∀ k, k < 8 → ∀ r0, CN h1 (nid (2 + k)) r0 → CN h2 (nid (2 + k)) r0 := fun k hk r0 hc => CN_fF f2 (fun a j z1 z2 z3 => by unfold MAs MS at z3; unfold nid at z1 z2; omega) hc
  have old : ∀ k, k < 8 → k ≠ t → ∀ r0, CN h (nid (2 + k)) r0 → CN h1 (nid (2 + k)) r0 := fun k hk hkt r0 hc => by
    have e : ∀ a, nid (2 + k) ≤ a → a ≤ nid (2 + k) + 5 → h1.1 a = h.1 a := fun a z1 z2 => p1.2.2.2 a (by unfold nid at z1 z2; omega) (fun z => by unfold nid at z z1 z2; omega)
    refine ⟨?_, ?_, ?_, ?_, fun p hp => ?_, fun l hl => ?_⟩
    · rw [e _ (by omega) (by omega)]; exact hc.1
    · rw [e _ (by omega) (by omega)]; exact hc.2.1
    · rw [e _ (by omega) (by omega)]; exact hc.2.2.1
    · rw [e _ (by omega) (by omega)]; exact hc.2.2.2.1
    · rw [e _ (by omega) (by omega)]; exact hc.2.2.2.2.1 p hp
    · rw [e _ (by omega) (by omega), e _ (by omega) (by omega), e _ (by omega) (by omega), e _ (by omega) (by omega)]; exact hc.2.2.2.2.2 l hl
  refine ⟨(t + 1) % 8, min (n + 1) 8, ⟨by omega, by omega, by rw [e5]; exact p1.1, by rw [e5]; exact p1.2.1⟩, s2.1, fun i hi => ?_⟩
  by_cases c : i = min (n + 1) 8 - 1
  · subst c
    have q := eq69_sy s2.2.1
    have hk : ((t + 1) % 8 + 8 - min (n + 1) 8 + (min (n + 1) 8 - 1)) % 8 = t := by omega
    rw [hk]
    exact ⟨(VR_eq q hV).1, CN_eq q hV (cn t ht r p1.2.2.1)⟩
  · have q := s2.2.2 i (by omega)
    rw [es] at q
    have q := eq69_sy q
    have hin : (if n = 8 then i + 1 else i) < n := by split <;> omega
    obtain ⟨v1, c1⟩ := hK _ hin
    have hk : ((t + 1) % 8 + 8 - min (n + 1) 8 + i) % 8 = (t + 8 - n + (if n = 8 then i + 1 else i)) % 8 := by split <;> omega
    have hne : (t + 8 - n + (if n = 8 then i + 1 else i)) % 8 ≠ t := by split <;> omega
    rw [hk]
    exact ⟨(VR_eq q v1).1, CN_eq q v1 (cn _ (by omega) _ (old _ (by omega) hne _ c1))⟩
theorem J_act (hJ : J h) (hr : h.1 95 = r) (hA : actA t n h) (hK : ∀ i, i < n → VR (sub h 98 i) ∧ CN h (nid (2 + (t + 8 - n + i) % 8)) (sub h 98 i)) (f1 : frmF CAs h h1) (p1 : pushed t n h h1 r) (C1 : cls r' h1) (f2 : frmF MAs h1 h2) (s2 : snapped n h1 h2 r) (e2 : h2.1 95 = r') : J h2 ∧ kp h h2 := by
  obtain ⟨C0, a1, a2, a3, a4, a5⟩ := hJ
  rw [hr] at C0
  have F : frmF (fun a j => CAs a j ∨ MAs a j) h h2 := frmF_tr ⟨fun a j hq => f1.1 a j (fun z => hq (Or.inl z)), f1.2⟩ ⟨fun a j hq => f2.1 a j (fun z => hq (Or.inr z)), f2.2⟩
  have C2 : cls (h2.1 95) h2 := by
    rw [e2]
    exact cls_fr f2 (fun a j z => by unfold MAs MS at z; omega) C1
  refine ⟨⟨C2, jA_act C0.1 hA hK f1 p1 f2 s2, jI_fr F ?_ a2, jT_fr F ?_ a3, jF_fr F ?_ a4, jR_fr F ?_ a5⟩, kp_fr F ?_⟩
  all_goals unfold CAs MAs stS MS
  all_goals intros
  all_goals omega
end
