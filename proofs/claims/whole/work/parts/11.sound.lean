/-! What the abstract machine runs, the machine runs. -/
def rmD (d k : Nat) : Room := { frames := d, cells := k, slots := 6 * k, locals := 60 * d }
def wsM (mi : Nat) : List Cond := Cond.code (mNm mi) (mBy mi) (mMx mi) (mRt mi) :: TS
def PreU (D : va_G) (cs : Nat → ClassId) (ad : Nat → Nat) (xs : Nat → Int32) (L B0 : Nat) (h : Hp) (U : State) : Prop := Rep D cs ad xs L h U.heap ∧ va_K D cls9 (tys6 cs) U ∧ (∀ w ∈ nW, va_Nw w U) ∧ va_X (ad 1000) L xs U U.heap ∧ ad 1000 < B0 ∧ B0 ≤ U.heap.size ∧ ZZ B0 U U.heap
def QcM (D : va_G) (cs : Nat → ClassId) (ad : Nat → Nat) (xs : Nat → Int32) (L B0 : Nat) (h' : Hp) (v : Option Value) : Array Value → State → Outcome → State → Prop := fun _ st oc t => oc = .returned v ∧ Rep D cs ad xs L h' t.heap ∧ va_F (fun q => B0 ≤ q) st t
def okFrom : Nat → List (List (Nat × Instr × Nat × Nat)) → Prop
  | _, [] => True
  | i, x :: xs => x.all (okE i) = true ∧ okFrom (i + 1) xs
theorem okFrom_get : ∀ (l : List (List (Nat × Instr × Nat × Nat))) (i k : Nat), okFrom i l → (l.getD k []).all (okE (i + k)) = true
  | [], i, k, _ => by simp
  | x :: xs, i, 0, h => by simpa using h.1
  | x :: xs, i, k + 1, h => by
    have := okFrom_get xs (i + 1) k h.2
    rw [show i + (k + 1) = i + 1 + k by omega]
    simpa using this
set_option maxRecDepth 100000 in
theorem okFrom_0 : okFrom 0 mCdL := And.intro okM_0 (And.intro okM_1 (And.intro okM_2 (And.intro okM_3 (And.intro okM_4 (And.intro okM_5 (And.intro okM_6 (And.intro okM_7 (And.intro okM_8 (And.intro okM_9 (And.intro okM_10 (And.intro okM_11 (And.intro okM_12 (And.intro okM_13 (And.intro okM_14 (And.intro okM_15 (And.intro okM_16 (And.intro okM_17 (And.intro okM_18 (And.intro okM_19 (And.intro okM_20 (And.intro okM_21 (And.intro okM_22 (And.intro okM_23 (And.intro okM_24 (And.intro okM_25 (And.intro okM_26 (And.intro okM_27 (And.intro okM_28 (And.intro okM_29 (And.intro okM_30 (And.intro okM_31 (And.intro okM_32 (And.intro okM_33 (And.intro okM_34 (And.intro okM_35 (And.intro okM_36 (And.intro okM_37 (And.intro okM_38 (And.intro okM_39 (And.intro okM_40 (And.intro okM_41 (And.intro okM_42 (And.intro okM_43 (And.intro okM_44 (And.intro okM_45 (And.intro okM_46 (And.intro okM_47 (And.intro okM_48 (And.intro okM_49 (And.intro okM_50 (And.intro okM_51 (And.intro okM_52 (And.intro okM_53 (And.intro okM_54 (And.intro okM_55 (And.intro okM_56 (And.intro okM_57 (And.intro okM_58 (And.intro okM_59 (And.intro okM_60 (And.intro okM_61 (And.intro okM_62 (And.intro okM_63 (And.intro okM_64 (And.intro okM_65 (And.intro okM_66 (And.intro okM_67 (And.intro okM_68 (And.intro okM_69 (And.intro okM_70 (And.intro okM_71 (And.intro okM_72 (And.intro okM_73 (And.intro okM_74 (And.intro okM_75 (And.intro okM_76 (And.intro okM_77 (And.intro okM_78 (And.intro okM_79 (And.intro okM_80 (And.intro okM_81 (And.intro okM_82 (And.intro okM_83 (And.intro okM_84 (And.intro okM_85 (And.intro okM_86 (And.intro okM_87 (And.intro okM_88 (And.intro okM_89 (And.intro okM_90 (And.intro okM_91 (And.intro okM_92 (And.intro okM_93 (And.intro okM_94 (And.intro okM_95 (And.intro okM_96 (And.intro okM_97 (And.intro okM_98 (And.intro okM_99 (And.intro okM_100 (And.intro okM_101 (And.intro okM_102 (And.intro okM_103 (And.intro okM_104 (And.intro okM_105 (And.intro okM_106 (And.intro okM_107 (And.intro okM_108 (And.intro okM_109 (And.intro okM_110 (And.intro okM_111 (And.intro okM_112 (And.intro okM_113 (And.intro okM_114 (And.intro okM_115 (And.intro okM_116 (And.intro okM_117 (And.intro okM_118 (And.intro okM_119 (And.intro okM_120 (And.intro okM_121 (And.intro okM_122 (And.intro okM_123 (And.intro okM_124 (And.intro okM_125 (And.intro okM_126 (And.intro okM_127 (And.intro okM_128 (And.intro okM_129 (And.intro okM_130 (And.intro okM_131 (And.intro okM_132 (And.intro okM_133 (And.intro okM_134 (And.intro okM_135 (And.intro okM_136 (And.intro okM_137 (And.intro okM_138 (And.intro okM_139 (And.intro okM_140 (And.intro okM_141 (And.intro okM_142 (And.intro okM_143 (And.intro okM_144 (And.intro okM_145 (And.intro okM_146 (And.intro okM_147 (And.intro okM_148 (And.intro okM_149 (And.intro okM_150 (And.intro okM_151 (And.intro okM_152 (And.intro okM_153 (And.intro okM_154 (And.intro okM_155 (And.intro okM_156 (And.intro okM_157 (And.intro okM_158 (And.intro okM_159 (And.intro okM_160 (And.intro okM_161 (And.intro okM_162 (And.intro okM_163 (And.intro okM_164 (And.intro okM_165 (And.intro okM_166 (And.intro okM_167 (And.intro okM_168 (And.intro okM_169 (And.intro okM_170 (And.intro okM_171 (And.intro okM_172 (And.intro okM_173 (And.intro okM_174 (And.intro okM_175 (And.intro okM_176 (And.intro okM_177 (And.intro okM_178 (And.intro okM_179 (And.intro okM_180 (And.intro okM_181 (And.intro okM_182 (And.intro okM_183 (And.intro okM_184 (And.intro okM_185 (And.intro okM_186 (And.intro okM_187 (And.intro okM_188 (And.intro okM_189 (And.intro okM_190 (And.intro okM_191 (And.intro okM_192 (And.intro okM_193 (And.intro okM_194 (And.intro okM_195 (And.intro okM_196 (And.intro okM_197 (And.intro okM_198 (And.intro okM_199 (And.intro okM_200 (And.intro okM_201 (And.intro okM_202 (And.intro okM_203 (And.intro okM_204 (And.intro okM_205 (And.intro okM_206 (And.intro okM_207 (And.intro okM_208 (And.intro okM_209 (And.intro okM_210 (And.intro okM_211 (And.intro okM_212 (And.intro okM_213 (And.intro okM_214 (trivial)))))))))))))))))))))))))))))))))))))))))))))))))))))))))))))))))))))))))))))))))))))))))))))))))))))))))))))))))))))))))))))))))))))))))))))))))))))))))))))))))))))))))))))))))))))))))))))))))))))))))))))))))))))))
theorem mCd_ok {mi pc : Nat} {ins : Instr} {n r : Nat} (h : mCd mi pc = some (ins, n, r)) : decode (mBy mi) pc = .ok (ins, n) ∧ (ilen ins = 0 ∨ n = ilen ins) ∧ lkOk mi ins r = true := by
  have h1 := okFrom_get mCdL 0 mi okFrom_0
  rw [Nat.zero_add] at h1
  have h2 := List.all_eq_true.mp h1 _ (lk_mem h)
  unfold okE at h2
  rw [Bool.and_eq_true, Bool.and_eq_true, Bool.or_eq_true, decide_eq_true_eq, decide_eq_true_eq, decide_eq_true_eq] at h2
  exact ⟨h2.1.1, h2.1.2, h2.2⟩
theorem all_range {f : Nat → Bool} {a b r : Nat} (h : ((List.range b).drop a).all f = true) (h1 : a ≤ r) (h2 : r < b) : f r = true := by
  refine List.all_eq_true.mp h r (List.mem_of_getElem? (i := r - a) ?_)
  rw [List.getElem?_drop, show a + (r - a) = r by omega, List.getElem?_range h2]
theorem mth_all {r : Nat} (h : r < 205) : mthOk r = true := by
  rcases Nat.lt_or_ge r 30 with q0 | q0
  · exact all_range mth_0 (by omega) q0
  rcases Nat.lt_or_ge r 60 with q30 | q30
  · exact all_range mth_30 (by omega) q30
  rcases Nat.lt_or_ge r 90 with q60 | q60
  · exact all_range mth_60 (by omega) q60
  rcases Nat.lt_or_ge r 120 with q90 | q90
  · exact all_range mth_90 (by omega) q90
  rcases Nat.lt_or_ge r 150 with q120 | q120
  · exact all_range mth_120 (by omega) q120
  rcases Nat.lt_or_ge r 180 with q150 | q150
  · exact all_range mth_150 (by omega) q150
  exact all_range mth_180 (by omega) h
theorem mth_parts {r : Nat} (h : r < 205) : Cond.code (mNm r) (mBy r) (mMx r) (mRt r) ∈ TS ∧ (if mSt r then Cond.static (mNm r) else Cond.instanceMethod (mNm r)) ∈ TS ∧ (mSt r = true ∨ Cond.selects (mNm r).cls (mNm r) (mNm r) ∈ TS) ∧ Cond.initialized (mNm r).cls ∈ TS ∧ (parseMethodDescriptor (mNm r).desc).map (fun d => d.parameters.length) = some (mNp r) ∧ (mNm r).cls ≠ "java/lang/invoke/MethodHandle" ∧ (mNm r).cls ≠ "java/lang/invoke/VarHandle" ∧ mMx r ≤ 41 ∧ plainFor (mNm r) = true ∧ (mSt r = true ∨ (clR (mCl r) = (mNm r).cls ∧ mCl r < 9)) := by
  have hm := mth_all h
  unfold mthOk at hm
  simp only [Bool.and_eq_true, Bool.or_eq_true, decide_eq_true_eq] at hm
  obtain ⟨⟨⟨⟨⟨⟨⟨⟨⟨h1, h2⟩, h3⟩, h4⟩, h5⟩, h6⟩, h7⟩, h8⟩, h9⟩, h10⟩ := hm
  exact ⟨atP_mem h1, atP_mem h2, h3.imp id atP_mem, atP_mem h4, h5, h6, h7, h8, h9, h10⟩
/-- a contract of a method out of its body's walk, where no native row stands in its place -/
theorem Met_ofWF {l : Launch} {y : MethodName} {ws ws' : List Cond} {rm : Room} {Pc : Array Value → State → Prop} {Qc : Array Value → State → Outcome → State → Prop} {mc ms : Nat} {free : Addr → Prop} {cc : ByteArray} {maxL : Nat} {ret : Option FieldType}
    (hy : plainFor y = true) (hw : ws = Cond.code y cc maxL ret :: ws')
    (body : ∀ p e s m args below meth c s₁, BodyLoose p l y (headSpec ws rm) cc maxL ret e s m args below meth c s₁ → c.maxLocals = maxL → Pc args s →
      W p l e (headSpec ws rm).room s m args below meth c s.heap [] 0 0 (MQ below Qc args s mc ms free) (entryFrame m args maxL)) : Met l y ws rm Pc Qc mc ms free := by
  refine MetFree.of_bodySF (code := cc) (maxLocals := maxL) (ret := ret) hy ?_ ?_
  · intro args s m h hn
    obtain ⟨meth, c, h1, h2, h3, h4, h5, h6, -, -⟩ := Cond.code_spec hn (atoms_spec (ws := ws) h _ (by rw [hw]; exact List.mem_cons_self))
    exact ⟨meth, c, h1, h2, h3, h4, h5, h6⟩
  · intro p e s m args below meth c s₁ B hml hP _
    have hh0 : s₁.heap = s.heap := by rw [B.state]; rfl
    obtain ⟨t, a1, o, b1, b2, b3⟩ := body p e s m args below meth c s₁ B hml hP s₁ hh0 (Stand.of_body B)
    exact ⟨t, o, a1, b1, b2, ⟨b3.1, b3.2⟩⟩
section
variable {D : va_G} {cs : Nat → ClassId} {ad : Nat → Nat} {xs : Nat → Int32} {L B0 : Nat}
variable {p : Program} {l : Launch} {e : Env} {R : Room} {s : State} {m : MethodId} {args : Array Value} {below : List Frame} {meth : Method} {c : Code} {H : Heap} {locs : List Loc} {cells slots : Nat} {Q : State → Prop} {mi pc : Nat} {ls : Array Slot} {lv : LV} {st : List Value} {h : Hp}
theorem X_kept {H1 : Heap} {locs1 : List Loc} {U : State} (hX : va_X (ad 1000) L xs s s.heap) (hbl : ad 1000 < B0) (hBs : B0 ≤ s.heap.size) (hS : va_S (fun q => B0 ≤ q) s.heap H1 locs1) (hvm : s.vm.Alike U.vm) : va_X (ad 1000) L xs U H1 := (hX.kept (hS.2.1 _ (Nat.lt_of_lt_of_le hbl hBs) (Nat.not_le.mpr hbl))).moved hvm
theorem PreU_of {U : State} (C : Ctx D cs ad xs L B0 p s m args meth c mi) (hR : Rep D cs ad xs L h H) (hS : va_S (fun q => B0 ≤ q) s.heap H locs) (hU : U.heap = H) (hW : s.WarmedH U.vm) : PreU D cs ad xs L B0 h U := by
  obtain ⟨hx, hb, hml, hown, hts, hK, hN, hX, hbl, hBs, hZZ⟩ := C
  subst hU
  refine ⟨hR, va_K.moved hW.alike hK, fun w hw => ?_, X_kept hX hbl hBs hS hW.alike, hbl, Nat.le_trans hBs hS.1, (hZZ.kept hS.2.1).moved hW.alike⟩
  obtain ⟨q, -, rfl⟩ := List.mem_map.mp hw
  exact va_Nw.warmM hW (hN _ hw)
theorem PreU_blind {as : List Value} : FrameBlind (va_Pc as (PreU D cs ad xs L B0 h)) := by
  intro a U g mk q
  obtain ⟨q0, qR, qK, qN, qX, qb, qB, qZ⟩ := q
  refine ⟨q0, qR, va_K.moved (u := U) (U := U.calling g mk a) (Vm.Alike.refl U.vm) qK, fun w hw => ?_, va_X.moved (u := U) (U := U.calling g mk a) (Vm.Alike.refl U.vm) qX, qb, qB, qZ.moved (u := U) (U := U.calling g mk a) (Vm.Alike.refl U.vm)⟩
  obtain ⟨q, -, rfl⟩ := List.mem_map.mp hw
  exact va_Nw.same rfl (u := U) (U := U.calling g mk a) rfl (qN _ hw)
theorem wsM_good {r : Nat} (hr : r < 205) : GoodIn TS (wsM r) := by
  intro w hw
  have h1 : w ∈ TS := by
    rcases List.mem_cons.mp hw with rfl | h
    · exact (mth_parts hr).1
    · exact h
  exact ⟨h1, good_of_word (List.mem_filter.mp h1).2⟩
/-- behind a call -/
theorem callG {mc ms : Nat} {st0 rest : List Value} {a : Array Value} {h1 : Hp} {v : Option Value} (hr : va_Run p l e R s m args below meth c H locs cells slots mc ms (F0 m pc ls st0) rest (QcM D cs ad xs L B0 h1 v a) (fun q => B0 ≤ q)) (hS : va_S (fun q => B0 ≤ q) s.heap H locs)
    (kk : ∀ (H1 : Heap) (locs1 : List Loc), Rep D cs ad xs L h1 H1 → va_S (fun q => B0 ≤ q) s.heap H1 locs1 → W p l e R s m args below meth c H1 locs1 (cells + mc) (slots + ms) Q (F0 m (pc + 3) ls (v.toList ++ rest))) : W p l e R s m args below meth c H locs cells slots Q (F0 m pc ls st0) := by
  intro T hT X
  obtain ⟨v', st₀, t, T', L', h0, X', hL, e1, e2, ⟨hv, hRp, hz, hk⟩, st⟩ := hr T hT X
  cases hv
  rw [h0] at hz hk
  obtain ⟨t2, a1, b1⟩ := kk T'.heap (locs ++ L') (by rw [e1]; exact hRp)
    ⟨Nat.le_trans hS.1 (by rw [e1]; exact hz), fun q h1 h2 => by rw [e1, hk q (Nat.lt_of_lt_of_le h1 hS.1) h2]; exact hS.2.1 q h1 h2, fun q hq => by
      rcases List.mem_append.mp hq with h | h
      · exact hS.2.2 q h
      · exact hL q h⟩ T' rfl X'
  exact ⟨t2, st t2 a1, b1⟩
/-- a method's end -/
theorem snd_fin {pc' : Nat} {st' : List Value} {h' : Hp} {v : Option Value} (C : Ctx D cs ad xs L B0 p s m args meth c mi) (hr : meth.sig.returnType = mRt mi) (hlocks : meth.locks = false) (hf : fin mi pc' st' = some (some v)) (hR : Rep D cs ad xs L h' H) (hS : va_S (fun q => B0 ≤ q) s.heap H locs) : W p l e R s m args below meth c H locs cells slots (MQ below (QcM D cs ad xs L B0 h' (v.map (tr ad))) args s cells slots (fun q => B0 ≤ q)) (F0 m pc' ls (st'.map (tr ad))) := by
  obtain ⟨hx, hb, hml, hown, hts, hK, hN, hX, hbl, hBs, hZZ⟩ := C
  unfold fin at hf
  split at hf
  · rename_i n r hc
    obtain ⟨hd0, hlen, -⟩ := mCd_ok hc
    have hd : decode (mBy mi) pc' = .ok (.ireturn, 1) := by rw [hd0, hlen.resolve_left (by simp [ilen])]; rfl
    split at hf
    · rename_i x
      split at hf
      · rename_i ht
        cases hf
        exact W.zret (ty := .int) hx hb (hr.trans ht) rfl (fun t ht _ => ⟨rfl, by rw [ht]; exact hR, hS.F ht⟩) hS.2.2 hd hlocks
      · rename_i ht
        split at hf
        · rename_i hz
          cases hf
          exact W.zret (ty := .boolean) hx hb (hr.trans ht) (by rcases hz with rfl | rfl <;> rfl) (fun t ht _ => ⟨rfl, by rw [ht]; exact hR, hS.F ht⟩) hS.2.2 hd hlocks
        · cases hf
      · cases hf
    · cases hf
  · rename_i n r hc
    obtain ⟨hd0, hlen, -⟩ := mCd_ok hc
    have hd : decode (mBy mi) pc' = .ok (.lreturn, 1) := by rw [hd0, hlen.resolve_left (by simp [ilen])]; rfl
    split at hf
    · rename_i x
      split at hf
      · rename_i ht
        cases hf
        exact W.lret hx hb (hr.trans ht) (fun t ht _ => ⟨rfl, by rw [ht]; exact hR, hS.F ht⟩) hS.2.2 hd hlocks
      · cases hf
    · cases hf
  · rename_i n r hc
    obtain ⟨hd0, hlen, -⟩ := mCd_ok hc
    have hd : decode (mBy mi) pc' = .ok (.return_, 1) := by rw [hd0, hlen.resolve_left (by simp [ilen])]; rfl
    split at hf
    · split at hf
      · rename_i ht
        cases hf
        exact W.vret hx hb (hr.trans ht) (fun t ht _ => ⟨rfl, by rw [ht]; exact hR, hS.F ht⟩) hS.2.2 hd hlocks
      · cases hf
    · cases hf
  · split at hf <;> cases hf
  · cases hf
end
