/-! The calls that may throw agree; a wrapper's call. -/
def kW (d mi pc : Nat) (lv : LV) (rest : List Value) (o : Nat) (Q : Option (Option Value) → Hp → Prop) : Option (Option Value) → Hp → Prop := fun o' h' => match o' with
  | some (some v) => WP d mi pc lv (.int 0 :: rest) (setL h' o 0 (toL v)) Q
  | none => WP d mi pc lv (.int 1 :: rest) (tick h') Q
  | some none => False
theorem WP_wrap {d mi pc : Nat} {lv lv0 : LV} {st as rest : List Value} {h : Hp} {Q : Option (Option Value) → Hp → Prop} {ins : Instr} {n r tg o : Nat} (hc : mCd mi pc = some (ins, n, r)) (hi : (isC ins, wrp r) = (1, some tg)) (ha : cargs ins r st = some (as, rest)) (ho : wOut as = some o) (hr : rcv tg as.dropLast = true) (he : ent (mMx tg) as.dropLast = lv0) (hd : 6 ≤ d) (hw : WP d tg 0 lv0 [] h (kW (d + 1 + 1) mi (pc + 3) lv rest o Q)) : WP (d + 1 + 1) mi pc lv st h Q := by
  subst he
  have h1 : isC ins = 1 := (Prod.mk.inj hi).1
  have h2 : wrp r = some tg := (Prod.mk.inj hi).2
  obtain ⟨f, pE, sE, hE, o', a, b, q⟩ := hw
  match o', b, q with
  | some (some v), b, ⟨g, pE', sE', hE', o'', a', b', q'⟩ =>
    refine ⟨max f g + 1, pE', sE', hE', o'', ?_, b', q'⟩
    unfold exec
    rw [hc]
    simp only [h1, ha, h2, ho, hr, hd, and_self, if_true]
    rw [exec_mono (Nat.le_max_left f g) a]
    simp only [b]
    exact exec_mono (Nat.le_max_right f g) a'
  | none, b, ⟨g, pE', sE', hE', o'', a', b', q'⟩ =>
    refine ⟨max f g + 1, pE', sE', hE', o'', ?_, b', q'⟩
    unfold exec
    rw [hc]
    simp only [h1, ha, h2, ho, hr, hd, and_self, if_true]
    rw [exec_mono (Nat.le_max_left f g) a]
    simp only [b]
    exact exec_mono (Nat.le_max_right f g) a'
def kq (h h' : Hp) : Prop := kp h h' ∧ h'.2.1 108 = h.2.1 108
def Agw {α : Type} (mk : α → Value) (z0 : α) (d mc mm : Nat) (lc lm : LV) (h : Hp) : Prop :=
  ((∀ Q : Option (Option Value) → Hp → Prop, (∀ h1, J h1 → h1.1 95 = h.1 95 → kp h h1 → Q none h1) → WP d mc 0 lc [] h Q) ∧ (∀ h1, J h1 → h1.1 95 = h.1 95 → ∀ Q : Option (Option Value) → Hp → Prop, (∀ h2, J h2 → kq h1 h2 → h2.1 93 0 = 1 → Q (some (some (mk z0))) h2) → WP (d + 1) mm 0 lm [] h1 Q)) ∨
  ∃ v : α, ((∀ Q : Option (Option Value) → Hp → Prop, (∀ h1, J h1 → h1.1 95 = h.1 95 → kp h h1 → Q (some (some (mk v))) h1) → WP d mc 0 lc [] h Q) ∧ (∀ h1, J h1 → h1.1 95 = h.1 95 → ∀ Q : Option (Option Value) → Hp → Prop, (∀ h2, J h2 → kq h1 h2 → h2.1 93 0 = 0 → Q (some (some (mk v))) h2) → WP (d + 1) mm 0 lm [] h1 Q))
section
variable {d mc mm : Nat} {lc lm : LV} {h h' h1 h2 : Hp} {r r' : Nat → Int32} {x y z w : Int32} {k l p q t n m : Nat} {α : Type} {mk : α → Value} {z0 v : α}
theorem kq_p (hf : pfr h h') : kq h h' := ⟨kp_fr hf (fun j => by unfold PS MS; omega), funext (fun j => (hf.1 108 j (by unfold PS MS; omega)).2)⟩
theorem Agw_t (hJ : J h) (hc : cls (h.1 95) h → ∀ Q : Option (Option Value) → Hp → Prop, cPost (h.1 95) h Q none → WP d mc 0 lc [] h Q) (hm : ∀ h1, h1.1 95 = h.1 95 → ∀ Q : Option (Option Value) → Hp → Prop, mPost (h.1 95) h1 Q 1 (some (mk z0)) → WP (d + 1) mm 0 lm [] h1 Q) : Agw mk z0 d mc mm lc lm h := by
  refine Or.inl ⟨fun Q kk => hc hJ.1 Q (fun h1 f1 C1 => ?_), fun h1 j1 e1 Q kk => hm h1 e1 Q (fun h2 f2 r2 t2 => ?_)⟩
  · obtain ⟨a1, a2, a3⟩ := J_c hJ rfl f1 C1
    exact kk h1 a1 a2 a3
  · exact kk h2 (J_m j1 f2 (r2.trans e1.symm)).1 (kq_p f2) t2
theorem Agw_v (hJ : J h) (v : α) (hc : cls (h.1 95) h → ∀ Q : Option (Option Value) → Hp → Prop, cPost (h.1 95) h Q (some (some (mk v))) → WP d mc 0 lc [] h Q) (hm : ∀ h1, h1.1 95 = h.1 95 → ∀ Q : Option (Option Value) → Hp → Prop, mPost (h.1 95) h1 Q 0 (some (mk v)) → WP (d + 1) mm 0 lm [] h1 Q) : Agw mk z0 d mc mm lc lm h := by
  refine Or.inr ⟨v, fun Q kk => hc hJ.1 Q (fun h1 f1 C1 => ?_), fun h1 j1 e1 Q kk => hm h1 e1 Q (fun h2 f2 r2 t2 => ?_)⟩
  · obtain ⟨a1, a2, a3⟩ := J_c hJ rfl f1 C1
    exact kk h1 a1 a2 a3
  · exact kk h2 (J_m j1 f2 (r2.trans e1.symm)).1 (kq_p f2) t2
theorem aw_point (hJ : J h) : Agw Value.int 0 (d + 98) 58 196 [some (.ref 0), some (.int x), some (.int y)] [some (.ref 93), some (.int x), some (.int y), none, none] h := by
  have hV := hJ.1.1
  by_cases c : isP (h.1 95) x ∧ isW 4 y
  · obtain ⟨⟨p, hp, rfl⟩, hy⟩ := c
    exact Agw_v hJ _ (fun C Q k => c_point_yes (d := d + 92) C hp hy k) (fun h1 r1 Q k => m_point_yes (d := d + 94) r1 hV hp hy k)
  · exact Agw_t hJ (fun C Q k => c_point_no (d := d + 92) C c k) (fun h1 r1 Q k => m_point_no (d := d + 94) r1 hV c k)
theorem aw_line (hJ : J h) : Agw Value.int 0 (d + 98) 59 197 [some (.ref 0), some (.int x), some (.int y)] [some (.ref 93), some (.int x), some (.int y)] h := by
  have hV := hJ.1.1
  by_cases c : isL (h.1 95) x ∧ isW 6 y
  · obtain ⟨⟨p, hp, rfl⟩, hy⟩ := c
    exact Agw_v hJ _ (fun C Q k => c_line_yes (d := d + 92) C hp hy k) (fun h1 r1 Q k => m_line_yes (d := d + 94) r1 hV hp hy k)
  · exact Agw_t hJ (fun C Q k => c_line_no (d := d + 92) C c k) (fun h1 r1 Q k => m_line_no (d := d + 94) r1 hV c k)
theorem aw_height (hJ : J h) : Agw Value.long 0 (d + 98) 60 154 [some (.ref 0), some (.int x), some (.int y)] [some (.ref 93), some (.int x), some (.int y)] h := by
  have hV := hJ.1.1
  by_cases c : isP (h.1 95) x ∧ isH y
  · obtain ⟨⟨p, hp, rfl⟩, hy⟩ := c
    exact Agw_v hJ _ (fun C Q k => c_height_yes (d := d + 92) C hp hy k) (fun h1 r1 Q k => m_height_yes (d := d + 90) r1 hV hp hy k)
  · exact Agw_t hJ (fun C Q k => c_height_no (d := d + 92) C c k) (fun h1 r1 Q k => m_height_no (d := d + 90) r1 hV c k)
theorem aw_off (hJ : J h) : Agw Value.long 0 (d + 98) 62 157 [some (.ref 0), some (.int x), some (.int y)] [some (.ref 93), some (.int x), some (.int y)] h := by
  have hV := hJ.1.1
  by_cases c : isS (h.1 95) x ∧ isH y
  · obtain ⟨⟨p, hp, rfl⟩, hy⟩ := c
    exact Agw_v hJ _ (fun C Q k => c_off_yes (d := d + 92) C hp hy k) (fun h1 r1 Q k => m_off_yes (d := d + 90) r1 hV hp hy k)
  · exact Agw_t hJ (fun C Q k => c_off_no (d := d + 92) C c k) (fun h1 r1 Q k => m_off_no (d := d + 90) r1 hV c k)
theorem aw_sum (hJ : J h) : Agw Value.long 0 (d + 98) 63 159 [some (.ref 0), some (.int y)] [some (.ref 93), some (.int y), none, none, none] h := by
  have hV := hJ.1.1
  by_cases c : isH y
  · exact Agw_v hJ _ (fun C Q k => c_sum_yes (d := d + 92) C c k) (fun h1 r1 Q k => m_sum_yes (d := d + 90) r1 hV c k)
  · exact Agw_t hJ (fun C Q k => c_sum_no (d := d + 92) C c k) (fun h1 r1 Q k => m_sum_no (d := d + 90) r1 c k)
theorem aw_check (hJ : J h) : Agw Value.long 0 (d + 98) 68 171 [some (.ref 0), some (.int x), some (.int y)] [some (.ref 93), some (.int x), some (.int y), none, none] h := by
  have hV := hJ.1.1
  by_cases c : isS (h.1 95) x ∧ isH y
  · obtain ⟨⟨p, hp, rfl⟩, hy⟩ := c
    exact Agw_v hJ _ (fun C Q k => c_check_yes (d := d + 92) C hp hy k) (fun h1 r1 Q k => m_check_yes (d := d + 90) r1 hV hp hy k)
  · exact Agw_t hJ (fun C Q k => c_check_no (d := d + 92) C c k) (fun h1 r1 Q k => m_check_no (d := d + 90) r1 hV c k)
theorem aw_fall (hJ : J h) : Agw Value.long 0 (d + 98) 69 175 [some (.ref 0), some (.int x), some (.int y)] [some (.ref 93), some (.int x), some (.int y)] h := by
  have hV := hJ.1.1
  by_cases c : isS (h.1 95) x ∧ isH y
  · obtain ⟨⟨p, hp, rfl⟩, hy⟩ := c
    exact Agw_v hJ _ (fun C Q k => c_fall_yes (d := d + 92) C hp hy k) (fun h1 r1 Q k => m_fall_yes (d := d + 89) r1 hV hp hy k)
  · exact Agw_t hJ (fun C Q k => c_fall_no (d := d + 92) C c k) (fun h1 r1 Q k => m_fall_no (d := d + 89) r1 hV c k)
theorem aw_wanted (hJ : J h) : Agw Value.long 0 (d + 98) 70 173 [some (.ref 0), some (.int x), some (.int y), none, none] [some (.ref 93), some (.int x), some (.int y)] h := by
  have hV := hJ.1.1
  by_cases c : isS (h.1 95) x ∧ isH y
  · obtain ⟨⟨p, hp, rfl⟩, hy⟩ := c
    by_cases cb : brg (h.1 95) p
    · exact Agw_t hJ (fun C Q k => c_wanted_br (d := d + 92) C cb hy k) (fun h1 r1 Q k => m_wanted_no (d := d + 89) r1 hV (Or.inr ⟨p, rfl, cb⟩) k)
    · exact Agw_v hJ _ (fun C Q k => c_wanted_yes (d := d + 92) C hp cb hy k) (fun h1 r1 Q k => m_wanted_yes (d := d + 89) r1 hV hp cb hy k)
  · exact Agw_t hJ (fun C Q k => c_wanted_no (d := d + 92) C c k) (fun h1 r1 Q k => m_wanted_no (d := d + 89) r1 hV (Or.inl c) k)
theorem aw_doubt (hJ : J h) : Agw Value.long 0 (d + 98) 72 169 [some (.ref 0), some (.int x), some (.int z), some (.int y)] [some (.ref 93), some (.int x), some (.int z), some (.int y), none, none] h := by
  have hV := hJ.1.1
  by_cases c : isP (h.1 95) x ∧ isP (h.1 95) z ∧ isH y
  · obtain ⟨⟨p, hp, rfl⟩, ⟨q, hq, rfl⟩, hy⟩ := c
    by_cases ct : Td (h.1 95) (snd (h.1 95)) p q
    · exact Agw_v hJ _ (fun C Q k => c_doubt_yes (d := d + 92) C hp hq hy (fun z => absurd ct z) (fun _ => k)) (fun h1 r1 Q k => m_doubt_yes (d := d + 90) r1 hV hp hq hy (fun z => absurd ct z) (fun _ => k))
    · exact Agw_t hJ (fun C Q k => c_doubt_yes (d := d + 92) C hp hq hy (fun _ => k) (fun z => absurd z ct)) (fun h1 r1 Q k => m_doubt_yes (d := d + 90) r1 hV hp hq hy (fun _ => k) (fun z => absurd z ct))
  · exact Agw_t hJ (fun C Q k => c_doubt_no (d := d + 92) C c k) (fun h1 r1 Q k => m_doubt_no (d := d + 90) r1 hV c k)
end
