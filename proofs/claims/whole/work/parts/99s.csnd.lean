/-! What the constructors' machine steps, the machine steps. -/
theorem okI_all : ∀ c, (iCdL.getD c []).all (okI c) = true := by
  intro c
  match c with
  | 0 => exact okI_0
  | 1 => exact okI_1
  | 2 => rfl
  | 3 => exact okI_3
  | 4 => exact okI_4
  | 5 => exact okI_5
  | 6 => exact okI_6
  | 7 => exact okI_7
  | 8 => exact okI_8
  | 9 => exact okI_9
  | c + 10 => rfl
theorem okI_at {c pc n a : Nat} {ins : Instr} (h : iCd c pc = some (ins, n, a)) : okI c (pc, ins, n, a) = true := List.all_eq_true.mp (okI_all c) _ (lk_mem h)
theorem okI_dec {c pc n a : Nat} {ins : Instr} (h : iCd c pc = some (ins, n, a)) (hn : ins ≠ .nop) : decode (iBy c) pc = .ok (ins, n) := by
  have h1 := okI_at h
  unfold okI at h1
  rw [Bool.and_eq_true, Bool.or_eq_true, decide_eq_true_eq, decide_eq_true_eq] at h1
  exact h1.1.resolve_left hn
theorem okI_2 {c pc n a : Nat} {ins : Instr} (h : iCd c pc = some (ins, n, a)) : okI2 c ins n a = true := by
  have h1 := okI_at h
  unfold okI at h1
  rw [Bool.and_eq_true] at h1
  exact h1.2
theorem slS_set {w : CW} {o : Nat} {e e' : CE} (h : w[o]? = some e) (hs : ceS e' = ceS e) : slS (w.set o e') = slS w := by
  unfold slS
  rw [List.map_set, hs]
  congr 1
  apply List.ext_getElem?
  intro i
  rw [List.getElem?_set]
  by_cases hi : o = i
  · subst hi
    rw [if_pos rfl, List.getElem?_map, h, List.length_map, if_pos (List.getElem?_eq_some_iff.mp h).1]
    rfl
  · rw [if_neg hi]
theorem slS_app {w w2 : CW} : slS (w ++ w2) = slS w + slS w2 := by
  unfold slS
  rw [List.map_append, List.sum_append]
theorem RA_find {U : State} {cA : ClassId} {ty : FieldType} (h : va_RA U cA ty) : U.vm.findClass ("[" ++ ty.toString) = some cA := by
  cases ty with
  | object C =>
    obtain ⟨_, _, _, _, _, h⟩ := h
    exact h
  | _ => exact h
theorem K_last {D : va_G} {cs : Nat → ClassId} {s : State} {cA c' : ClassId} {ty : FieldType} (hK2 : va_K D cls9 (tys6 cs ++ [(cA, ty)]) s) (i : Nat) (hi : (tys6 cs)[i]? = some (c', ty)) : cA = c' := by
  have h1 := RA_find (hK2.2 6 (cA, ty) rfl).2
  have hl : i < 6 := (List.getElem?_eq_some_iff.mp hi).1
  have h2 := RA_find (hK2.2 i (c', ty) (by rw [List.getElem?_append_left hl]; exact hi)).2
  exact Option.some.inj (h1.symm.trans h2)
def CSt (D : va_G) (cs : Nat → ClassId) (a0 : Nat → Nat) (B0 : Nat) (L : List Nat) (w : CW) (H : Heap) : Prop := L.length = w.length ∧ va_P D cls9 (cwE cs (am a0 L) L w) H ∧ va_D (fun q => B0 ≤ q) (cwE cs (am a0 L) L w)
def CtxC (D : va_G) (cs : Nat → ClassId) (a0 : Nat → Nat) (B0 : Nat) (SX : State → Heap → Prop) (p : Program) (s : State) (m : MethodId) (args : Array Value) (meth : Method) (c0 : Code) (c : Nat) : Prop :=
  p.tables.exec = Jvm.exec ∧ c0.code = iBy c ∧ c0.maxLocals = iMx c ∧ s.vm.findClass (iNm c).cls = some m.cls ∧ (∀ w ∈ TS, w.before args s = true) ∧ va_K D cls9 (tys6 cs) s ∧ (∀ w ∈ iNW, va_Nw w s) ∧ va_AO RX3 s ∧ va_AOA .long s ∧ B0 ≤ s.heap.size ∧ SX s s.heap ∧ (c = 9 ∨ meth.name = "<init>") ∧ ∀ i, i < 4 → vk_R RX4 (lxS.getD i (0, "")).1 (lxS.getD i (0, "")).2 (a0 (2000 + i)) s
theorem cst_le {c a pc pc' : Nat} {ins : Instr} {lv lv' : LV} {st st' : List Value} {w w' : CW} (hs : cst c ins a pc lv st w = some (pc', lv', st', w')) : w.length ≤ w'.length ∧ slS w ≤ slS w' := by
  unfold cst at hs
  repeat' split at hs
  all_goals first
    | (cases hs; exact ⟨Nat.le_refl _, Nat.le_refl _⟩)
    | (cases hs; rw [List.length_append, slS_app]; exact ⟨Nat.le_add_right _ _, Nat.le_add_right _ _⟩)
    | (rename_i z1 z2; cases hs; obtain ⟨rfl, -⟩ := z2; rw [List.length_set, slS_set z1 (by simp [ceS])]; exact ⟨Nat.le_refl _, Nat.le_refl _⟩)
    | (rename_i z1 _ _ z2 _; cases hs; rw [List.length_set, slS_set z1 (by simp [ceS])]; exact ⟨Nat.le_refl _, Nat.le_refl _⟩)
    | (rename_i z1 _ z2 _; cases hs; rw [List.length_set, slS_set z1 (by simp [ceS])]; exact ⟨Nat.le_refl _, Nat.le_refl _⟩)
    | (cases hs)
