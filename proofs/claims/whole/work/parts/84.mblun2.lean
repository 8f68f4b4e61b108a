/-! The model's blunder, asked. -/
section
variable {d : Nat} {h : Hp} {Q : Option (Option Value) → Hp → Prop} {r : Nat → Int32}
theorem m_laysBlunder (hr : h.1 95 = r) (hV : VR r)
    (kk : ∀ h' : Hp, frmF BFs h h' → h'.1 95 = r → h'.2.1 93 32 = lN (rN ((gf r (rL r)).2.1 : Int) (gf r (rL r)).2.2).toNat → h'.2.1 93 33 = lN (rD ((gf r (rL r)).2.1 : Int) (gf r (rL r)).2.2) → Q (some (some (.int (gf r (rL r)).1))) h') :
    WP (d + 90) 177 0 [some (.ref 93), none, none] [] h Q := by
  simp only [S177_0, S177_1, S177_2, S177_3, S177_4, S177_7, S177_8, S177_9, S177_12, S177_13, S177_15, S177_16, S177_19, S177_22, S177_23, S177_24, S177_27, S177_30, S177_33, S177_34, S177_35, S177_38, S177_39, S177_40, S177_43, S177_44, S177_45, S177_48, S177_49, S177_52, S177_53, S177_56, S177_59, S177_62, S177_65, S177_66, S177_67, S177_68, S177_69, S177_70, S177_73, S177_76, S177_77, S177_78, S177_79, S177_82, S177_85, S177_88, S177_91, S177_92, shp_93, RV_93_1, RV_93_13, RV_93_14, RV_93_15, RV_93_16, RV_93_17, RV_93_18, RV_93_19, RV_93_20, RV_93_23, RV_93_24, RV_93_27, RV_93_28, RV_93_29, kl_none, kl_int, kl_ref]
  rw [nI_l0]
  refine m_blun_loop (h := h) (d := d) hV (rL r) 0 _ (by omega) (frmF_tr (frmF_L (Or.inr ⟨rfl, Or.inl rfl⟩)) (frmF_L (Or.inr ⟨rfl, Or.inr rfl⟩))) hr ?_ ?_ kk
  · rw [setL_rd, if_neg (by decide), setL_rd, if_pos ⟨rfl, rfl⟩]
    show (0 : Int64) = lN (rN ((0 : Nat) : Int) 1).toNat
    decide
  · rw [setL_rd, if_pos ⟨rfl, rfl⟩]
    show (1 : Int64) = lN (rD ((0 : Nat) : Int) 1)
    decide
theorem pfr_b {h h' : Hp} (hf : frmF BFs h h') : pfr h h' := ⟨fun a j hn => hf.1 a j (fun z => hn (by
  rcases z with (z | z) | z
  · exact Or.inl z
  · exact Or.inr ⟨z.1, Or.inr (by omega)⟩
  · exact Or.inr ⟨z.1, Or.inr (by omega)⟩)), hf.2⟩
theorem bfs_t {h h' : Hp} (hf : frmF BFs h h') : h'.1 93 0 = h.1 93 0 := (hf.1 93 0 (by unfold BFs WFs MS; omega)).1
theorem m_blunder (hr : h.1 95 = r) (hV : VR r) (kk : mPost r h Q 0 (some (.int (gf r (rL r)).1))) : WP (d + 91) 178 0 [some (.ref 93)] [] h Q := by
  simp only [S178_0, S178_1, S178_2, S178_5, S178_6, S178_9, shp_93, RV_93_1, RV_93_13, RV_93_14, RV_93_15, RV_93_16, RV_93_17, RV_93_18, RV_93_19, RV_93_20, RV_93_23, RV_93_24, RV_93_27, RV_93_28, RV_93_29]
  refine m_laysBlunder (d := d) (r0 hr) hV (fun h1 f1 r1 _ _ => ?_)
  simp only [kR_at, S178_0, S178_1, S178_2, S178_5, S178_6, S178_9]
  exact kk h1 (frmF_tr M0 (pfr_b f1)) r1 (by rw [bfs_t f1]; exact t0)
end
