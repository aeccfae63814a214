/-! the state of the game, and the model's memory of it -/
def up1 (f : Int → Int) (j v : Int) : Int → Int := fun i => if i = j then v else f i
theorem up1_s (f : Int → Int) (j v : Int) : up1 f j v j = v := if_pos rfl
theorem up1_n {f : Int → Int} {j v i : Int} (h : i ≠ j) : up1 f j v i = f i := if_neg h
/-- a name: its letters in the base of 27 -/
def nm27 (L : Int → Int) : Nat → Int
  | 0 => 0
  | n + 1 => 27 * nm27 L n + L n
def RigN (M D : Int → Int → Int) : Prop := (∀ b, 0 ≤ b → b < D 0 0 → M 175 (8 + b) = nm27 (D (20 + b)) (D 13 b).toNat) ∧ (∀ b, 0 ≤ b → b < D 0 1 → M 176 (4 + b) = nm27 (D (30 + b)) (D 14 b).toNat) ∧ (∀ b, 0 ≤ b → b < D 0 2 → M 177 (8 + b) = nm27 (D (40 + b)) (D 15 b).toNat)
def okN (n : Int) (L : Int → Int) : Prop := (1 ≤ n ∧ n ≤ 6) ∧ (∀ j, 0 ≤ j → j < n → 1 ≤ L j ∧ L j ≤ 26) ∧ ∀ j, n ≤ j → L j = 0
def WFn (D : Int → Int → Int) : Prop := (∀ b, 0 ≤ b → b < D 0 0 → okN (D 13 b) (D (20 + b))) ∧ (∀ b, 0 ≤ b → b < D 0 1 → okN (D 14 b) (D (30 + b))) ∧ (∀ b, 0 ≤ b → b < D 0 2 → okN (D 15 b) (D (40 + b)))
/-- F 0, 1 the fault; 2 a plan is there; 3 how many acts; 4 how long the tape; 5 how long the image -/
def MF (M : Int → Int → Int) (F : Int → Int) : Prop := M 137 7 = F 0 ∧ M 137 8 = F 1 ∧ M 137 70 = F 2 ∧ M 137 71 = F 3 ∧ M 137 1 = F 4 ∧ M 137 84 = F 5 ∧ M 137 67 = -1 ∧ M 137 68 = -1
def MI (M D : Int → Int → Int) (T F : Int → Int) (P : Int → Int → Int) (B : Int → Int → Int → Int) (O : Int → Int) : Prop := RG M D ∧ RigN M D ∧ MF M F ∧ (∀ i, 0 ≤ i → i < F 4 → M 138 i = T i) ∧ (∀ i, 0 ≤ i → i < F 5 → M 191 i = O i) ∧ (F 2 = 1 → ActR M P 7) ∧ ∀ a, 0 ≤ a → a < F 3 → ActR M (B a) a
def SW (D : Int → Int → Int) (T F : Int → Int) (P : Int → Int → Int) (B : Int → Int → Int → Int) (O : Int → Int) : Prop := (WFn D ∧ (F 2 = 0 ∨ F 2 = 1) ∧ (0 ≤ F 3 ∧ F 3 ≤ 6) ∧ (0 ≤ F 4 ∧ F 4 ≤ 900) ∧ (0 ≤ F 5 ∧ F 5 ≤ 300)) ∧ (∀ i, 0 ≤ i → i < F 4 → 0 ≤ T i ∧ T i ≤ 255) ∧ (∀ i, 0 ≤ i → i < F 5 → 0 ≤ O i ∧ O i ≤ 255) ∧
  (F 2 = 1 → WA D P ∧ P 0 0 = 0 ∧ ((P 0 5 = -1 ∧ P 0 6 = -1) ∨ WE D P)) ∧ ∀ a, 0 ≤ a → a < F 3 → WE D (B a)
/-- the class's memory is as it was, and so are the catchers of the rig that is read -/
def Fr (M M' : Int → Int → Int) : Prop := ∀ o, (o < 137 ∨ o = 169) → M' o = M o
theorem Fr.rf (M : Int → Int → Int) : Fr M M := fun _ _ => rfl
theorem Fr.tr {M M1 M2 : Int → Int → Int} (h1 : Fr M M1) (h2 : Fr M1 M2) : Fr M M2 := fun o a => (h2 o a).trans (h1 o a)
theorem Scr.fr {M M' : Int → Int → Int} (h : Scr M M') : Fr M M' := fun o a => h.1 o (by omega) (by omega)
section
variable {M M' D : Int → Int → Int} {T F : Int → Int} {P : Int → Int → Int} {B : Int → Int → Int → Int} {O : Int → Int}
theorem MI.G (h : MI M D T F P B O) : RG M D := h.1
theorem MI.P9 (h : MI M D T F P B O) : am_PM M := h.1.1
theorem MI.W (h : MI M D T F P B O) : WF D := h.1.W
theorem MI.N (h : MI M D T F P B O) : RigN M D := h.2.1
theorem MI.F9 (h : MI M D T F P B O) : MF M F := h.2.2.1
theorem MI.T9 (h : MI M D T F P B O) : ∀ i, 0 ≤ i → i < F 4 → M 138 i = T i := h.2.2.2.1
theorem MI.O9 (h : MI M D T F P B O) : ∀ i, 0 ≤ i → i < F 5 → M 191 i = O i := h.2.2.2.2.1
theorem MI.L (h : MI M D T F P B O) : F 2 = 1 → ActR M P 7 := h.2.2.2.2.2.1
theorem MI.B9 (h : MI M D T F P B O) : ∀ a, 0 ≤ a → a < F 3 → ActR M (B a) a := h.2.2.2.2.2.2
theorem RigN.eq (h : RigN M D) (h1 : ∀ o, 175 ≤ o → o ≤ 177 → M' o = M o) : RigN M' D := by
  unfold RigN at *
  rw [h1 175 (by decide) (by decide), h1 176 (by decide) (by decide), h1 177 (by decide) (by decide)]
  exact h
/-- memory that only a look, a search or a place has changed -/
def Scr4 (M M' : Int → Int → Int) : Prop := (∀ o, o ≠ 137 → (o < 180 ∨ 182 < o) → M' o = M o) ∧ ∀ j, (j < 56 ∨ j = 64 ∨ (66 ≤ j ∧ j ≤ 79) ∨ 82 < j) → M' 137 j = M 137 j
theorem Scr.s4 (h : Scr M M') : Scr4 M M' := ⟨fun o a b => h.1 o a (by omega), fun j hj => h.2 j (by omega)⟩
theorem Scr4.rf (M : Int → Int → Int) : Scr4 M M := ⟨fun _ _ _ => rfl, fun _ _ => rfl⟩
theorem Scr4.tr {M M1 M2 : Int → Int → Int} (h1 : Scr4 M M1) (h2 : Scr4 M1 M2) : Scr4 M M2 := ⟨fun o a b => (h2.1 o a b).trans (h1.1 o a b), fun j a => (h2.2 j a).trans (h1.2 j a)⟩
theorem Scr4.fr (h : Scr4 M M') : Fr M M' := fun o a => h.1 o (by omega) (by omega)
theorem am_ps_g {j : Int} (h : am_ps j ≠ 0) : j < 56 ∨ j = 64 ∨ (66 ≤ j ∧ j ≤ 79) ∨ 82 < j := by
  by_cases z : 56 ≤ j ∧ j ≤ 65
  · exact Or.inr (Or.inl (am_ps_f h z.1 z.2))
  · by_cases z2 : 80 ≤ j ∧ j ≤ 82
    · have : j = 80 ∨ j = 81 ∨ j = 82 := by omega
      rcases this with rfl | rfl | rfl
      all_goals exact absurd (by decide) h
    · omega
theorem Scr4.PM (h : Scr4 M M') (hP : am_PM M) : am_PM M' := am_PM_eq hP (fun j hj => h.2 j (am_ps_g hj)) (fun o a b => h.1 o (by omega) (by omega))
theorem RG.scr4 (h : RG M D) (hs : Scr4 M M') : RG M' D := h.eq (hs.PM h.P) (fun o ho => hs.1 o (by omega) (by omega))
theorem ActR.scr4 {A : Int → Int → Int} {s : Int} (hA : ActR M A s) (h : Scr4 M M') : ActR M' A s := hA.eq (fun o a b => h.1 o (by omega) (by omega))
theorem MI.scr4 (h : MI M D T F P B O) (hs : Scr4 M M') : MI M' D T F P B O := by
  refine ⟨h.G.scr4 hs, h.N.eq (fun o a b => hs.1 o (by omega) (by omega)), ?_, ?_, ?_, fun q => (h.L q).scr4 hs, fun a q1 q2 => (h.B9 a q1 q2).scr4 hs⟩
  · have := h.F9
    unfold MF at *
    rw [hs.2 7 (by decide), hs.2 8 (by decide), hs.2 70 (by decide), hs.2 71 (by decide), hs.2 1 (by decide), hs.2 84 (by decide), hs.2 67 (by decide), hs.2 68 (by decide)]
    exact this
  · rw [hs.1 138 (by decide) (by decide)]; exact h.T9
  · rw [hs.1 191 (by decide) (by decide)]; exact h.O9
theorem MI.scr (h : MI M D T F P B O) (hs : Scr M M') : MI M' D T F P B O := h.scr4 hs.s4
theorem m_fails {d : Nat} {a : Int} {Q : AV → am_S → Prop} (hM : MI M D T F P B O) (hS : SW D T F P B O) (h : ∀ M' r, Fr M M' → MI M' D T F P B O → (0 ≤ a ∧ a < F 3 → r = fwS D (B a) (B a 0 0)) → (¬ (0 ≤ a ∧ a < F 3) → r = -1) → Q (vI r) (am_SH, M')) : am_Call (d + 7) m_Md_fails 0 0 [vR 137, vI a] (am_SH, M) Q := by
  have hP := hM.P9
  have hF := hM.F9
  have hn := hS.1.2.2.1
  refine am_go B_Md_fails_0 rfl (Nat.le_of_ble_eq_true rfl) ?_
  simp only [b_Md_fails_25, b_Md_fails_24, b_Md_fails_0, hF.2.2.2.1, kd_137, ln_138, ln_139, ln_140, ln_141, ln_142, ln_143, ln_144, ln_145, ln_146, ln_147, ln_148, ln_149, ln_150, ln_151, ln_152, ln_153, ln_154, ln_155, ln_156, ln_157, ln_158, ln_159, ln_160, ln_161, ln_162, ln_163, ln_164, ln_165, ln_166, ln_167, ln_168, ln_169, ln_170, ln_171, ln_172, ln_173, ln_174, ln_175, ln_176, ln_177, ln_178, ln_179, ln_180, ln_181, ln_182, ln_183, ln_184, ln_185, ln_186, ln_187, ln_188, ln_189, ln_190, ln_191, pm_0 hP, pm_9 hP, pm_10 hP, pm_11 hP, pm_12 hP, pm_13 hP, pm_14 hP, pm_15 hP, pm_16 hP, pm_17 hP, pm_18 hP, pm_19 hP, pm_20 hP, pm_21 hP, pm_22 hP, pm_23 hP, pm_24 hP, pm_25 hP, pm_26 hP, pm_27 hP, pm_28 hP, pm_29 hP, pm_30 hP, pm_31 hP, pm_32 hP, pm_33 hP, pm_34 hP, pm_36 hP, pm_37 hP, pm_38 hP, pm_39 hP, pm_40 hP, pm_41 hP, pm_42 hP, pm_43 hP, pm_44 hP, pm_45 hP, pm_46 hP, pm_47 hP, pm_48 hP, pm_49 hP, pm_51 hP, pm_64 hP, pm_66 hP, pm_69 hP, pm_72 hP, pm_73 hP, pm_74 hP, pm_75 hP, pm_76 hP, pm_77 hP, pm_78 hP, pm_79 hP, pm_83 hP, am_up_eq, Int.reduceEq, Int.reduceLT, Int.reduceLE, Int.reduceNeg, if_true, if_false, c_const, c_lconst, c_ref, c_iload, c_lload, c_aload, c_istore, c_lstore, c_astore, c_iinc, c_iadd, c_isub, c_imul, c_ladd, c_lsub, c_lmul, c_idiv, c_irem, c_ldiv, c_lrem, c_iand, c_ior, c_ixor, c_ishl, c_ishr, c_ineg, c_i2l, c_l2i, c_i2c, c_lcmp, c_dup, c_pop, c_dup2, c_at, c_icmp_eq, c_icmp_ne, c_icmp_lt, c_icmp_ge, c_icmp_gt, c_icmp_le, c_if_eq, c_if_ne, c_if_lt, c_if_ge, c_if_gt, c_if_le, c_ifnull, c_ifnonnull, am_swK, c_sw, c_iret, c_zret, c_cret, c_bret, c_lret, c_aret, c_vret, c_getI, c_getR, c_putI, c_putZ, c_putR, c_iald, c_zald, c_cald, c_lald, c_oald, c_gald, c_iast, c_zast, c_cast, c_last, c_oast, c_alen, c_callS0, c_callS1, c_callS2, c_callS3, c_callS4, c_callS5, c_callS6, c_callS7, c_callV0, c_callV1, c_callV2, c_callV3, c_callV4, c_callV5, c_callV6, c_callV7, c_callT0, c_callT1, am_nx_eq, am_set, am_set2, am_clr, am_isL, am_push, am_w, am_ent, am_ent1, List.getElem?_cons_zero, List.getElem?_cons_succ, List.set_cons_zero, List.set_cons_succ, List.getD_cons_zero, List.getD_cons_succ, List.cons_append, List.nil_append, List.append_nil, List.replicate_succ, List.replicate_zero, Nat.reduceAdd, Nat.reduceSub, Nat.reduceLeDiff, Bool.false_eq_true, reduceIte, true_and, and_true, true_or, or_true, or_self, am_i32, am_i64, bz_0, bz_01, bz_em, bz_n0, Classical.not_not, am_cmp_lt0, am_cmp_gt0, am_cmp_eq0, am_cmp_ge0, am_cmp_le0, am_cmp_ne0]
  refine ⟨by omega, r_isIn (fun r hr => ?_)⟩
  subst hr
  simp only [b_Md_fails_25, b_Md_fails_24, b_Md_fails_0, kd_137, ln_138, ln_139, ln_140, ln_141, ln_142, ln_143, ln_144, ln_145, ln_146, ln_147, ln_148, ln_149, ln_150, ln_151, ln_152, ln_153, ln_154, ln_155, ln_156, ln_157, ln_158, ln_159, ln_160, ln_161, ln_162, ln_163, ln_164, ln_165, ln_166, ln_167, ln_168, ln_169, ln_170, ln_171, ln_172, ln_173, ln_174, ln_175, ln_176, ln_177, ln_178, ln_179, ln_180, ln_181, ln_182, ln_183, ln_184, ln_185, ln_186, ln_187, ln_188, ln_189, ln_190, ln_191, pm_0 hP, pm_9 hP, pm_10 hP, pm_11 hP, pm_12 hP, pm_13 hP, pm_14 hP, pm_15 hP, pm_16 hP, pm_17 hP, pm_18 hP, pm_19 hP, pm_20 hP, pm_21 hP, pm_22 hP, pm_23 hP, pm_24 hP, pm_25 hP, pm_26 hP, pm_27 hP, pm_28 hP, pm_29 hP, pm_30 hP, pm_31 hP, pm_32 hP, pm_33 hP, pm_34 hP, pm_36 hP, pm_37 hP, pm_38 hP, pm_39 hP, pm_40 hP, pm_41 hP, pm_42 hP, pm_43 hP, pm_44 hP, pm_45 hP, pm_46 hP, pm_47 hP, pm_48 hP, pm_49 hP, pm_51 hP, pm_64 hP, pm_66 hP, pm_69 hP, pm_72 hP, pm_73 hP, pm_74 hP, pm_75 hP, pm_76 hP, pm_77 hP, pm_78 hP, pm_79 hP, pm_83 hP, am_up_eq, Int.reduceEq, Int.reduceLT, Int.reduceLE, Int.reduceNeg, if_true, if_false, c_const, c_lconst, c_ref, c_iload, c_lload, c_aload, c_istore, c_lstore, c_astore, c_iinc, c_iadd, c_isub, c_imul, c_ladd, c_lsub, c_lmul, c_idiv, c_irem, c_ldiv, c_lrem, c_iand, c_ior, c_ixor, c_ishl, c_ishr, c_ineg, c_i2l, c_l2i, c_i2c, c_lcmp, c_dup, c_pop, c_dup2, c_at, c_icmp_eq, c_icmp_ne, c_icmp_lt, c_icmp_ge, c_icmp_gt, c_icmp_le, c_if_eq, c_if_ne, c_if_lt, c_if_ge, c_if_gt, c_if_le, c_ifnull, c_ifnonnull, am_swK, c_sw, c_iret, c_zret, c_cret, c_bret, c_lret, c_aret, c_vret, c_getI, c_getR, c_putI, c_putZ, c_putR, c_iald, c_zald, c_cald, c_lald, c_oald, c_gald, c_iast, c_zast, c_cast, c_last, c_oast, c_alen, c_callS0, c_callS1, c_callS2, c_callS3, c_callS4, c_callS5, c_callS6, c_callS7, c_callV0, c_callV1, c_callV2, c_callV3, c_callV4, c_callV5, c_callV6, c_callV7, c_callT0, c_callT1, am_nx_eq, am_set, am_set2, am_clr, am_isL, am_push, am_w, am_ent, am_ent1, List.getElem?_cons_zero, List.getElem?_cons_succ, List.set_cons_zero, List.set_cons_succ, List.getD_cons_zero, List.getD_cons_succ, List.cons_append, List.nil_append, List.append_nil, List.replicate_succ, List.replicate_zero, Nat.reduceAdd, Nat.reduceSub, Nat.reduceLeDiff, Bool.false_eq_true, reduceIte, true_and, and_true, true_or, or_true, or_self, am_i32, am_i64, bz_0, bz_01, bz_em, bz_n0, Classical.not_not, am_cmp_lt0, am_cmp_gt0, am_cmp_eq0, am_cmp_ge0, am_cmp_le0, am_cmp_ne0]
  refine ⟨fun z => h M _ (Fr.rf M) hM (fun q => by omega) (fun _ => rfl), fun z => r_failsAt hM.G (hS.2.2.2.2 a (by omega) (by omega)) (hM.B9 a (by omega) (by omega)) (by omega) (by omega) (fun M1 s1 => ?_)⟩
  have hP := (hM.scr s1).P9
  simp only [b_Md_fails_25, b_Md_fails_24, b_Md_fails_0, kd_137, ln_138, ln_139, ln_140, ln_141, ln_142, ln_143, ln_144, ln_145, ln_146, ln_147, ln_148, ln_149, ln_150, ln_151, ln_152, ln_153, ln_154, ln_155, ln_156, ln_157, ln_158, ln_159, ln_160, ln_161, ln_162, ln_163, ln_164, ln_165, ln_166, ln_167, ln_168, ln_169, ln_170, ln_171, ln_172, ln_173, ln_174, ln_175, ln_176, ln_177, ln_178, ln_179, ln_180, ln_181, ln_182, ln_183, ln_184, ln_185, ln_186, ln_187, ln_188, ln_189, ln_190, ln_191, pm_0 hP, pm_9 hP, pm_10 hP, pm_11 hP, pm_12 hP, pm_13 hP, pm_14 hP, pm_15 hP, pm_16 hP, pm_17 hP, pm_18 hP, pm_19 hP, pm_20 hP, pm_21 hP, pm_22 hP, pm_23 hP, pm_24 hP, pm_25 hP, pm_26 hP, pm_27 hP, pm_28 hP, pm_29 hP, pm_30 hP, pm_31 hP, pm_32 hP, pm_33 hP, pm_34 hP, pm_36 hP, pm_37 hP, pm_38 hP, pm_39 hP, pm_40 hP, pm_41 hP, pm_42 hP, pm_43 hP, pm_44 hP, pm_45 hP, pm_46 hP, pm_47 hP, pm_48 hP, pm_49 hP, pm_51 hP, pm_64 hP, pm_66 hP, pm_69 hP, pm_72 hP, pm_73 hP, pm_74 hP, pm_75 hP, pm_76 hP, pm_77 hP, pm_78 hP, pm_79 hP, pm_83 hP, am_up_eq, Int.reduceEq, Int.reduceLT, Int.reduceLE, Int.reduceNeg, if_true, if_false, c_const, c_lconst, c_ref, c_iload, c_lload, c_aload, c_istore, c_lstore, c_astore, c_iinc, c_iadd, c_isub, c_imul, c_ladd, c_lsub, c_lmul, c_idiv, c_irem, c_ldiv, c_lrem, c_iand, c_ior, c_ixor, c_ishl, c_ishr, c_ineg, c_i2l, c_l2i, c_i2c, c_lcmp, c_dup, c_pop, c_dup2, c_at, c_icmp_eq, c_icmp_ne, c_icmp_lt, c_icmp_ge, c_icmp_gt, c_icmp_le, c_if_eq, c_if_ne, c_if_lt, c_if_ge, c_if_gt, c_if_le, c_ifnull, c_ifnonnull, am_swK, c_sw, c_iret, c_zret, c_cret, c_bret, c_lret, c_aret, c_vret, c_getI, c_getR, c_putI, c_putZ, c_putR, c_iald, c_zald, c_cald, c_lald, c_oald, c_gald, c_iast, c_zast, c_cast, c_last, c_oast, c_alen, c_callS0, c_callS1, c_callS2, c_callS3, c_callS4, c_callS5, c_callS6, c_callS7, c_callV0, c_callV1, c_callV2, c_callV3, c_callV4, c_callV5, c_callV6, c_callV7, c_callT0, c_callT1, am_nx_eq, am_set, am_set2, am_clr, am_isL, am_push, am_w, am_ent, am_ent1, List.getElem?_cons_zero, List.getElem?_cons_succ, List.set_cons_zero, List.set_cons_succ, List.getD_cons_zero, List.getD_cons_succ, List.cons_append, List.nil_append, List.append_nil, List.replicate_succ, List.replicate_zero, Nat.reduceAdd, Nat.reduceSub, Nat.reduceLeDiff, Bool.false_eq_true, reduceIte, true_and, and_true, true_or, or_true, or_self, am_i32, am_i64, bz_0, bz_01, bz_em, bz_n0, Classical.not_not, am_cmp_lt0, am_cmp_gt0, am_cmp_eq0, am_cmp_ge0, am_cmp_le0, am_cmp_ne0]
  exact h M1 _ s1.fr (hM.scr s1) (fun _ => rfl) (fun q => by omega)
/-- memory that differs in act s alone -/
def ActF (s : Int) (M M' : Int → Int → Int) : Prop := (∀ o, (o < 183 ∨ 190 < o) → M' o = M o) ∧ (∀ o, 183 ≤ o → o < 190 → ∀ j, j ≠ s → M' o j = M o j) ∧ ∀ j, (j < 32 * s ∨ 32 * s + 32 ≤ j) → M' 190 j = M 190 j
theorem ActF.rf (s : Int) (M : Int → Int → Int) : ActF s M M := ⟨fun _ _ => rfl, fun _ _ _ _ _ => rfl, fun _ _ => rfl⟩
theorem ActF.tr {s : Int} {M M1 M2 : Int → Int → Int} (h1 : ActF s M M1) (h2 : ActF s M1 M2) : ActF s M M2 := ⟨fun o a => (h2.1 o a).trans (h1.1 o a), fun o a b j c => (h2.2.1 o a b j c).trans (h1.2.1 o a b j c), fun j a => (h2.2.2 j a).trans (h1.2.2 j a)⟩
theorem ActF.up {s : Int} {M : Int → Int → Int} {o : Int} (v : Int) (h1 : 183 ≤ o) (h2 : o < 190) : ActF s M (am_up M o s v) := by
  refine ⟨fun a q => am_up_o M (by omega), fun a q1 q2 j q3 => ?_, fun j q => by rw [am_up_o M (by omega)]⟩
  rw [am_up_eq]
  by_cases z : a = o
  · rw [if_pos z, if_neg q3]
  · rw [if_neg z]
theorem ActF.upf {s : Int} {M : Int → Int → Int} {j : Int} (v : Int) (h1 : 32 * s ≤ j) (h2 : j < 32 * s + 32) : ActF s M (am_up M 190 j v) := ⟨fun a q => am_up_o M (by omega), fun a q1 q2 j q3 => by rw [am_up_o M (by omega)], fun i q => am_up_j M (by omega)⟩
theorem ActF.PM {s : Int} (h : ActF s M M') (hP : am_PM M) : am_PM M' := am_PM_eq hP (fun j hj => by rw [h.1 137 (by decide)]) (fun o a b => h.1 o (by omega))
theorem ActF.G {s : Int} (h : ActF s M M') (hG : RG M D) : RG M' D := hG.eq (h.PM hG.P) (fun o ho => h.1 o (by omega))
theorem ActF.act {s : Int} (h : ActF s M M') {A : Int → Int → Int} {a : Int} (ha : a ≠ s) (hn : A 0 4 ≤ 8) (hA : ActR M A a) : ActR M' A a := by
  obtain ⟨a0, a1, a2, a3, a4, a5, a6, a7⟩ := hA
  refine ⟨?_, ?_, ?_, ?_, ?_, ?_, ?_, fun i i1 i2 => ?_⟩
  · rw [h.2.1 _ (by decide) (by decide) _ ha]; exact a0
  · rw [h.2.1 _ (by decide) (by decide) _ ha]; exact a1
  · rw [h.2.1 _ (by decide) (by decide) _ ha]; exact a2
  · rw [h.2.1 _ (by decide) (by decide) _ ha]; exact a3
  · rw [h.2.1 _ (by decide) (by decide) _ ha]; exact a4
  · rw [h.2.1 _ (by decide) (by decide) _ ha]; exact a5
  · rw [h.2.1 _ (by decide) (by decide) _ ha]; exact a6
  · have := a7 i i1 i2
    rw [h.2.2 _ (by omega), h.2.2 _ (by omega), h.2.2 _ (by omega), h.2.2 _ (by omega)]
    exact this
/-- the plan has changed: the rest stands -/
theorem MI.plan (h : MI M D T F P B O) (hS : SW D T F P B O) {P' : Int → Int → Int} (hs : ActF 7 M M') (hA : ActR M' P' 7) : MI M' D T F P' B O := by
  refine ⟨hs.G h.G, h.N.eq (fun o a b => hs.1 o (by omega)), ?_, ?_, ?_, fun q => hA, fun a q1 q2 => hs.act (by have := hS.1.2.2.1; omega) (hS.2.2.2.2 a q1 q2).1.1.1.2 (h.B9 a q1 q2)⟩
  · have := h.F9
    unfold MF at *
    rw [hs.1 137 (by decide)]
    exact this
  · rw [hs.1 138 (by decide)]; exact h.T9
  · rw [hs.1 191 (by decide)]; exact h.O9
theorem ActF.fr {s : Int} (h : ActF s M M') : Fr M M' := fun o a => h.1 o (by omega)
end
