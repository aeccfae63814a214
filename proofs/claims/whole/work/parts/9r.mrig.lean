/-! the model: stands(), rig() -/
section
variable {M M' M0 M1 M2 D D' : Int → Int → Int} {T F : Int → Int} {P : Int → Int → Int} {B : Int → Int → Int → Int} {O : Int → Int} {n lc lc' k : Int} {d : Nat} {Q Q1 Q2 : AV → am_S → Prop} {r r' r1 : tk9} {z z' : sz9}
/-- what has been read stands: only the second halves of the rows change -/
def sF (M M' : Int → Int → Int) : Prop := (∀ o, (o < 165 ∨ 178 < o) → M' o = M o) ∧ (∀ o, 165 ≤ o → o ≤ 167 → M' o 0 = M o 0) ∧ (∀ i, i < 32 → M' 168 i = M 168 i) ∧ (∀ o i, (o = 169 ∨ o = 172 ∨ o = 173 ∨ o = 174 ∨ o = 175 ∨ o = 177) → i < 8 → M' o i = M o i) ∧ (∀ o i, (o = 170 ∨ o = 176) → i < 4 → M' o i = M o i) ∧ (∀ i, i < 16 → M' 171 i = M 171 i) ∧ ∀ i, i < 1000 → M' 178 i = M 178 i
theorem sF.rf (M : Int → Int → Int) : sF M M := ⟨fun _ _ => rfl, fun _ _ _ => rfl, fun _ _ => rfl, fun _ _ _ _ => rfl, fun _ _ _ _ => rfl, fun _ _ => rfl, fun _ _ => rfl⟩
theorem sF.tr (h1 : sF M M1) (h2 : sF M1 M2) : sF M M2 := ⟨fun o a => (h2.1 o a).trans (h1.1 o a), fun o a b => (h2.2.1 o a b).trans (h1.2.1 o a b), fun i a => (h2.2.2.1 i a).trans (h1.2.2.1 i a), fun o i a b => (h2.2.2.2.1 o i a b).trans (h1.2.2.2.1 o i a b), fun o i a b => (h2.2.2.2.2.1 o i a b).trans (h1.2.2.2.2.1 o i a b), fun i a => (h2.2.2.2.2.2.1 i a).trans (h1.2.2.2.2.2.1 i a), fun i a => (h2.2.2.2.2.2.2 i a).trans (h1.2.2.2.2.2.2 i a)⟩
theorem sF.up (M : Int → Int → Int) {o j v : Int} (h : (165 ≤ o ∧ o ≤ 167 ∧ j = 1) ∨ (o = 168 ∧ 32 ≤ j) ∨ ((o = 169 ∨ o = 172 ∨ o = 173 ∨ o = 174 ∨ o = 175 ∨ o = 177) ∧ 8 ≤ j) ∨ ((o = 170 ∨ o = 176) ∧ 4 ≤ j) ∨ (o = 171 ∧ 16 ≤ j) ∨ (o = 178 ∧ 1000 ≤ j)) : sF M (am_up M o j v) := by
  refine ⟨fun a x => am_up_o _ (by omega), fun a x y => ?_, fun i x => ?_, fun a i x y => ?_, fun a i x y => ?_, fun i x => ?_, fun i x => ?_⟩
  · by_cases e : a = o
    · subst e; exact am_up_j _ (by omega)
    · rw [am_up_o _ (by omega)]
  · by_cases e : o = 168
    · subst e; exact am_up_j _ (by omega)
    · rw [am_up_o _ (by omega)]
  · by_cases e : a = o
    · subst e; exact am_up_j _ (by omega)
    · rw [am_up_o _ (by omega)]
  · by_cases e : a = o
    · subst e; exact am_up_j _ (by omega)
    · rw [am_up_o _ (by omega)]
  · by_cases e : o = 171
    · subst e; exact am_up_j _ (by omega)
    · rw [am_up_o _ (by omega)]
  · by_cases e : o = 178
    · subst e; exact am_up_j _ (by omega)
    · rw [am_up_o _ (by omega)]
theorem sF.PM (h : sF M M') (hP : am_PM M) : am_PM M' := am_PM_eq hP (fun j _ => by rw [h.1 137 (by decide)]) (fun o a b => h.1 o (by omega))
/-- the second halves hold the first -/
def sE (M : Int → Int → Int) (i1 i2 i3 i4 : Int) : Prop := (∀ i, 0 ≤ i → i < i1 → M 168 (32 + i) = M 168 i) ∧ (∀ i, 0 ≤ i → i < i2 → M 175 (8 + i) = M 175 i ∧ M 169 (8 + i) = M 169 i ∧ M 177 (8 + i) = M 177 i ∧ M 171 (16 + 2 * i) = M 171 (2 * i) ∧ M 171 (16 + 2 * i + 1) = M 171 (2 * i + 1) ∧ M 172 (8 + i) = M 172 i ∧ M 173 (8 + i) = M 173 i ∧ M 174 (8 + i) = M 174 i) ∧ (∀ i, 0 ≤ i → i < i3 → M 176 (4 + i) = M 176 i ∧ M 170 (4 + i) = M 170 i) ∧ ∀ i, 0 ≤ i → i < i4 → M 178 (1000 + i) = M 178 i
theorem r_stands (hP : am_PM M) (h9 : hb9 M) (hc : M 137 50 = lc) (hlc : 0 ≤ lc ∧ lc ≤ 900) (h : ∀ M', sF M M' → (∀ o, 165 ≤ o → o ≤ 167 → M' o 1 = M o 0) → sE M' 32 8 4 lc → Q none (am_SH, M')) : am_Call (d + 1) m_Md_stands 0 0 [vR 137] (am_SH, M) Q := by
  have hP0 := hP
  have l4 : ∀ (m : Nat) (i : Int) (M1 : Int → Int → Int), i + m = lc → 0 ≤ i → sF M M1 → (∀ o, 165 ≤ o → o ≤ 167 → M1 o 1 = M o 0) → sE M1 32 8 4 i → am_Wp (d + 1) m_Md_stands 0 0 254 [vR 137, vI i] [] (am_SH, M1) Q := by
    intro m
    induction m with
    | zero =>
      intro i M1 hi hi0 s c1 e
      have hP := s.PM hP0
      have e50 : M1 137 50 = lc := by rw [s.1 137 (by decide)]; exact hc
      have : i = lc := by omega
      subst this
      refine B_Md_stands_254 _ _ _ _ _ ?_
      simp only [b_Md_stands_254, b_Md_stands_284, e50, kd_137, ln_138, ln_139, ln_140, ln_141, ln_142, ln_143, ln_144, ln_145, ln_146, ln_147, ln_148, ln_149, ln_150, ln_151, ln_152, ln_153, ln_154, ln_155, ln_156, ln_157, ln_158, ln_159, ln_160, ln_161, ln_162, ln_163, ln_164, ln_165, ln_166, ln_167, ln_168, ln_169, ln_170, ln_171, ln_172, ln_173, ln_174, ln_175, ln_176, ln_177, ln_178, ln_179, ln_180, ln_181, ln_182, ln_183, ln_184, ln_185, ln_186, ln_187, ln_188, ln_189, ln_190, ln_191, pm_0 hP, pm_9 hP, pm_10 hP, pm_11 hP, pm_12 hP, pm_13 hP, pm_14 hP, pm_15 hP, pm_16 hP, pm_17 hP, pm_18 hP, pm_19 hP, pm_20 hP, pm_21 hP, pm_22 hP, pm_23 hP, pm_24 hP, pm_25 hP, pm_26 hP, pm_27 hP, pm_28 hP, pm_29 hP, pm_30 hP, pm_31 hP, pm_32 hP, pm_33 hP, pm_34 hP, pm_36 hP, pm_37 hP, pm_38 hP, pm_39 hP, pm_40 hP, pm_41 hP, pm_42 hP, pm_43 hP, pm_44 hP, pm_45 hP, pm_46 hP, pm_47 hP, pm_48 hP, pm_49 hP, pm_51 hP, pm_64 hP, pm_66 hP, pm_69 hP, pm_72 hP, pm_73 hP, pm_74 hP, pm_75 hP, pm_76 hP, pm_77 hP, pm_78 hP, pm_79 hP, pm_83 hP, am_up_eq, Int.reduceEq, Int.reduceLT, Int.reduceLE, Int.reduceNeg, if_true, if_false, c_const, c_lconst, c_ref, c_iload, c_lload, c_aload, c_istore, c_lstore, c_astore, c_iinc, c_iadd, c_isub, c_imul, c_ladd, c_lsub, c_lmul, c_idiv, c_irem, c_ldiv, c_lrem, c_iand, c_ior, c_ixor, c_ishl, c_ishr, c_ineg, c_i2l, c_l2i, c_i2c, c_lcmp, c_dup, c_pop, c_dup2, c_at, c_icmp_eq, c_icmp_ne, c_icmp_lt, c_icmp_ge, c_icmp_gt, c_icmp_le, c_if_eq, c_if_ne, c_if_lt, c_if_ge, c_if_gt, c_if_le, c_ifnull, c_ifnonnull, am_swK, c_sw, c_iret, c_zret, c_cret, c_bret, c_lret, c_aret, c_vret, c_getI, c_getR, c_putI, c_putZ, c_putR, c_iald, c_zald, c_cald, c_lald, c_oald, c_gald, c_iast, c_zast, c_cast, c_last, c_oast, c_alen, c_callS0, c_callS1, c_callS2, c_callS3, c_callS4, c_callS5, c_callS6, c_callS7, c_callV0, c_callV1, c_callV2, c_callV3, c_callV4, c_callV5, c_callV6, c_callV7, c_callT0, c_callT1, am_nx_eq, am_set, am_set2, am_clr, am_isL, am_push, am_w, am_ent, am_ent1, List.getElem?_cons_zero, List.getElem?_cons_succ, List.set_cons_zero, List.set_cons_succ, List.getD_cons_zero, List.getD_cons_succ, List.cons_append, List.nil_append, List.append_nil, List.replicate_succ, List.replicate_zero, Nat.reduceAdd, Nat.reduceSub, Nat.reduceLeDiff, Bool.false_eq_true, reduceIte, true_and, and_true, true_or, or_true, or_self, am_i32, am_i64, bz_0, bz_01, bz_em, bz_n0, Classical.not_not, am_cmp_lt0, am_cmp_gt0, am_cmp_eq0, am_cmp_ge0, am_cmp_le0, am_cmp_ne0]
      exact ⟨fun _ => h M1 s c1 e, fun z => by omega⟩
    | succ m ih =>
      intro i M1 hi hi0 s c1 e
      have hP := s.PM hP0
      have e50 : M1 137 50 = lc := by rw [s.1 137 (by decide)]; exact hc
      refine B_Md_stands_254 _ _ _ _ _ ?_
      simp only [b_Md_stands_254, b_Md_stands_284, e50, kd_137, ln_138, ln_139, ln_140, ln_141, ln_142, ln_143, ln_144, ln_145, ln_146, ln_147, ln_148, ln_149, ln_150, ln_151, ln_152, ln_153, ln_154, ln_155, ln_156, ln_157, ln_158, ln_159, ln_160, ln_161, ln_162, ln_163, ln_164, ln_165, ln_166, ln_167, ln_168, ln_169, ln_170, ln_171, ln_172, ln_173, ln_174, ln_175, ln_176, ln_177, ln_178, ln_179, ln_180, ln_181, ln_182, ln_183, ln_184, ln_185, ln_186, ln_187, ln_188, ln_189, ln_190, ln_191, pm_0 hP, pm_9 hP, pm_10 hP, pm_11 hP, pm_12 hP, pm_13 hP, pm_14 hP, pm_15 hP, pm_16 hP, pm_17 hP, pm_18 hP, pm_19 hP, pm_20 hP, pm_21 hP, pm_22 hP, pm_23 hP, pm_24 hP, pm_25 hP, pm_26 hP, pm_27 hP, pm_28 hP, pm_29 hP, pm_30 hP, pm_31 hP, pm_32 hP, pm_33 hP, pm_34 hP, pm_36 hP, pm_37 hP, pm_38 hP, pm_39 hP, pm_40 hP, pm_41 hP, pm_42 hP, pm_43 hP, pm_44 hP, pm_45 hP, pm_46 hP, pm_47 hP, pm_48 hP, pm_49 hP, pm_51 hP, pm_64 hP, pm_66 hP, pm_69 hP, pm_72 hP, pm_73 hP, pm_74 hP, pm_75 hP, pm_76 hP, pm_77 hP, pm_78 hP, pm_79 hP, pm_83 hP, am_up_eq, Int.reduceEq, Int.reduceLT, Int.reduceLE, Int.reduceNeg, if_true, if_false, c_const, c_lconst, c_ref, c_iload, c_lload, c_aload, c_istore, c_lstore, c_astore, c_iinc, c_iadd, c_isub, c_imul, c_ladd, c_lsub, c_lmul, c_idiv, c_irem, c_ldiv, c_lrem, c_iand, c_ior, c_ixor, c_ishl, c_ishr, c_ineg, c_i2l, c_l2i, c_i2c, c_lcmp, c_dup, c_pop, c_dup2, c_at, c_icmp_eq, c_icmp_ne, c_icmp_lt, c_icmp_ge, c_icmp_gt, c_icmp_le, c_if_eq, c_if_ne, c_if_lt, c_if_ge, c_if_gt, c_if_le, c_ifnull, c_ifnonnull, am_swK, c_sw, c_iret, c_zret, c_cret, c_bret, c_lret, c_aret, c_vret, c_getI, c_getR, c_putI, c_putZ, c_putR, c_iald, c_zald, c_cald, c_lald, c_oald, c_gald, c_iast, c_zast, c_cast, c_last, c_oast, c_alen, c_callS0, c_callS1, c_callS2, c_callS3, c_callS4, c_callS5, c_callS6, c_callS7, c_callV0, c_callV1, c_callV2, c_callV3, c_callV4, c_callV5, c_callV6, c_callV7, c_callT0, c_callT1, am_nx_eq, am_set, am_set2, am_clr, am_isL, am_push, am_w, am_ent, am_ent1, List.getElem?_cons_zero, List.getElem?_cons_succ, List.set_cons_zero, List.set_cons_succ, List.getD_cons_zero, List.getD_cons_succ, List.cons_append, List.nil_append, List.append_nil, List.replicate_succ, List.replicate_zero, Nat.reduceAdd, Nat.reduceSub, Nat.reduceLeDiff, Bool.false_eq_true, reduceIte, true_and, and_true, true_or, or_true, or_self, am_i32, am_i64, bz_0, bz_01, bz_em, bz_n0, Classical.not_not, am_cmp_lt0, am_cmp_gt0, am_cmp_eq0, am_cmp_ge0, am_cmp_le0, am_cmp_ne0]
      refine ⟨fun z => by omega, fun _ => ?_⟩
      repeat (with_reducible refine And.intro (by omega) ?_)
      have su := sF.up M1 (o := 178) (j := 1000 + i) (v := M1 178 i) (by omega)
      refine ih (i + 1) _ (by omega) (by omega) (s.tr su) (fun o a b => by rw [am_up_o _ (by omega)]; exact c1 o a b) ⟨fun j j0 j1 => ?_, fun j j0 j1 => ?_, fun j j0 j1 => ?_, fun j j0 j1 => ?_⟩
      · simp (disch := omega) only [am_up_o]; exact e.1 j j0 j1
      · simp (disch := omega) only [am_up_o]; exact e.2.1 j j0 j1
      · simp (disch := omega) only [am_up_o]; exact e.2.2.1 j j0 j1
      · by_cases z : j = i
        · subst z; rw [am_up_s, am_up_j _ (by omega)]
        · rw [am_up_j _ (by omega), am_up_j _ (by omega)]; exact e.2.2.2 j j0 (by omega)
  have l3 : ∀ (m : Nat) (i : Int) (M1 : Int → Int → Int), i + m = 4 → 0 ≤ i → sF M M1 → (∀ o, 165 ≤ o → o ≤ 167 → M1 o 1 = M o 0) → sE M1 32 8 i 0 → am_Wp (d + 1) m_Md_stands 0 0 213 [vR 137, vI i] [] (am_SH, M1) Q := by
    intro m
    induction m with
    | zero =>
      intro i M1 hi hi0 s c1 e
      have hP := s.PM hP0
      have : i = 4 := by omega
      subst this
      refine B_Md_stands_213 _ _ _ _ _ ?_
      simp only [b_Md_stands_213, b_Md_stands_252, kd_137, ln_138, ln_139, ln_140, ln_141, ln_142, ln_143, ln_144, ln_145, ln_146, ln_147, ln_148, ln_149, ln_150, ln_151, ln_152, ln_153, ln_154, ln_155, ln_156, ln_157, ln_158, ln_159, ln_160, ln_161, ln_162, ln_163, ln_164, ln_165, ln_166, ln_167, ln_168, ln_169, ln_170, ln_171, ln_172, ln_173, ln_174, ln_175, ln_176, ln_177, ln_178, ln_179, ln_180, ln_181, ln_182, ln_183, ln_184, ln_185, ln_186, ln_187, ln_188, ln_189, ln_190, ln_191, pm_0 hP, pm_9 hP, pm_10 hP, pm_11 hP, pm_12 hP, pm_13 hP, pm_14 hP, pm_15 hP, pm_16 hP, pm_17 hP, pm_18 hP, pm_19 hP, pm_20 hP, pm_21 hP, pm_22 hP, pm_23 hP, pm_24 hP, pm_25 hP, pm_26 hP, pm_27 hP, pm_28 hP, pm_29 hP, pm_30 hP, pm_31 hP, pm_32 hP, pm_33 hP, pm_34 hP, pm_36 hP, pm_37 hP, pm_38 hP, pm_39 hP, pm_40 hP, pm_41 hP, pm_42 hP, pm_43 hP, pm_44 hP, pm_45 hP, pm_46 hP, pm_47 hP, pm_48 hP, pm_49 hP, pm_51 hP, pm_64 hP, pm_66 hP, pm_69 hP, pm_72 hP, pm_73 hP, pm_74 hP, pm_75 hP, pm_76 hP, pm_77 hP, pm_78 hP, pm_79 hP, pm_83 hP, am_up_eq, Int.reduceEq, Int.reduceLT, Int.reduceLE, Int.reduceNeg, if_true, if_false, c_const, c_lconst, c_ref, c_iload, c_lload, c_aload, c_istore, c_lstore, c_astore, c_iinc, c_iadd, c_isub, c_imul, c_ladd, c_lsub, c_lmul, c_idiv, c_irem, c_ldiv, c_lrem, c_iand, c_ior, c_ixor, c_ishl, c_ishr, c_ineg, c_i2l, c_l2i, c_i2c, c_lcmp, c_dup, c_pop, c_dup2, c_at, c_icmp_eq, c_icmp_ne, c_icmp_lt, c_icmp_ge, c_icmp_gt, c_icmp_le, c_if_eq, c_if_ne, c_if_lt, c_if_ge, c_if_gt, c_if_le, c_ifnull, c_ifnonnull, am_swK, c_sw, c_iret, c_zret, c_cret, c_bret, c_lret, c_aret, c_vret, c_getI, c_getR, c_putI, c_putZ, c_putR, c_iald, c_zald, c_cald, c_lald, c_oald, c_gald, c_iast, c_zast, c_cast, c_last, c_oast, c_alen, c_callS0, c_callS1, c_callS2, c_callS3, c_callS4, c_callS5, c_callS6, c_callS7, c_callV0, c_callV1, c_callV2, c_callV3, c_callV4, c_callV5, c_callV6, c_callV7, c_callT0, c_callT1, am_nx_eq, am_set, am_set2, am_clr, am_isL, am_push, am_w, am_ent, am_ent1, List.getElem?_cons_zero, List.getElem?_cons_succ, List.set_cons_zero, List.set_cons_succ, List.getD_cons_zero, List.getD_cons_succ, List.cons_append, List.nil_append, List.append_nil, List.replicate_succ, List.replicate_zero, Nat.reduceAdd, Nat.reduceSub, Nat.reduceLeDiff, Bool.false_eq_true, reduceIte, true_and, and_true, true_or, or_true, or_self, am_i32, am_i64, bz_0, bz_01, bz_em, bz_n0, Classical.not_not, am_cmp_lt0, am_cmp_gt0, am_cmp_eq0, am_cmp_ge0, am_cmp_le0, am_cmp_ne0]
      try simp only [Int.reduceEq, Int.reduceLT, Int.reduceLE, Int.reduceNeg, not_true_eq_false, not_false_eq_true, false_implies, true_implies, implies_true, true_and, and_true]
      exact l4 lc.toNat 0 M1 (by omega) (by decide) s c1 e
    | succ m ih =>
      intro i M1 hi hi0 s c1 e
      have hP := s.PM hP0
      refine B_Md_stands_213 _ _ _ _ _ ?_
      simp only [b_Md_stands_213, b_Md_stands_252, kd_137, ln_138, ln_139, ln_140, ln_141, ln_142, ln_143, ln_144, ln_145, ln_146, ln_147, ln_148, ln_149, ln_150, ln_151, ln_152, ln_153, ln_154, ln_155, ln_156, ln_157, ln_158, ln_159, ln_160, ln_161, ln_162, ln_163, ln_164, ln_165, ln_166, ln_167, ln_168, ln_169, ln_170, ln_171, ln_172, ln_173, ln_174, ln_175, ln_176, ln_177, ln_178, ln_179, ln_180, ln_181, ln_182, ln_183, ln_184, ln_185, ln_186, ln_187, ln_188, ln_189, ln_190, ln_191, pm_0 hP, pm_9 hP, pm_10 hP, pm_11 hP, pm_12 hP, pm_13 hP, pm_14 hP, pm_15 hP, pm_16 hP, pm_17 hP, pm_18 hP, pm_19 hP, pm_20 hP, pm_21 hP, pm_22 hP, pm_23 hP, pm_24 hP, pm_25 hP, pm_26 hP, pm_27 hP, pm_28 hP, pm_29 hP, pm_30 hP, pm_31 hP, pm_32 hP, pm_33 hP, pm_34 hP, pm_36 hP, pm_37 hP, pm_38 hP, pm_39 hP, pm_40 hP, pm_41 hP, pm_42 hP, pm_43 hP, pm_44 hP, pm_45 hP, pm_46 hP, pm_47 hP, pm_48 hP, pm_49 hP, pm_51 hP, pm_64 hP, pm_66 hP, pm_69 hP, pm_72 hP, pm_73 hP, pm_74 hP, pm_75 hP, pm_76 hP, pm_77 hP, pm_78 hP, pm_79 hP, pm_83 hP, am_up_eq, Int.reduceEq, Int.reduceLT, Int.reduceLE, Int.reduceNeg, if_true, if_false, c_const, c_lconst, c_ref, c_iload, c_lload, c_aload, c_istore, c_lstore, c_astore, c_iinc, c_iadd, c_isub, c_imul, c_ladd, c_lsub, c_lmul, c_idiv, c_irem, c_ldiv, c_lrem, c_iand, c_ior, c_ixor, c_ishl, c_ishr, c_ineg, c_i2l, c_l2i, c_i2c, c_lcmp, c_dup, c_pop, c_dup2, c_at, c_icmp_eq, c_icmp_ne, c_icmp_lt, c_icmp_ge, c_icmp_gt, c_icmp_le, c_if_eq, c_if_ne, c_if_lt, c_if_ge, c_if_gt, c_if_le, c_ifnull, c_ifnonnull, am_swK, c_sw, c_iret, c_zret, c_cret, c_bret, c_lret, c_aret, c_vret, c_getI, c_getR, c_putI, c_putZ, c_putR, c_iald, c_zald, c_cald, c_lald, c_oald, c_gald, c_iast, c_zast, c_cast, c_last, c_oast, c_alen, c_callS0, c_callS1, c_callS2, c_callS3, c_callS4, c_callS5, c_callS6, c_callS7, c_callV0, c_callV1, c_callV2, c_callV3, c_callV4, c_callV5, c_callV6, c_callV7, c_callT0, c_callT1, am_nx_eq, am_set, am_set2, am_clr, am_isL, am_push, am_w, am_ent, am_ent1, List.getElem?_cons_zero, List.getElem?_cons_succ, List.set_cons_zero, List.set_cons_succ, List.getD_cons_zero, List.getD_cons_succ, List.cons_append, List.nil_append, List.append_nil, List.replicate_succ, List.replicate_zero, Nat.reduceAdd, Nat.reduceSub, Nat.reduceLeDiff, Bool.false_eq_true, reduceIte, true_and, and_true, true_or, or_true, or_self, am_i32, am_i64, bz_0, bz_01, bz_em, bz_n0, Classical.not_not, am_cmp_lt0, am_cmp_gt0, am_cmp_eq0, am_cmp_ge0, am_cmp_le0, am_cmp_ne0]
      refine ⟨fun z => by omega, fun _ => ?_⟩
      repeat (with_reducible refine And.intro (by omega) ?_)
      have su := (sF.up M1 (o := 176) (j := 4 + i) (v := M1 176 i) (by omega)).tr (sF.up _ (o := 170) (j := 4 + i) (v := M1 170 i) (by omega))
      refine ih (i + 1) _ (by omega) (by omega) (s.tr su) (fun o a b => by simp (disch := omega) only [am_up_o]; exact c1 o a b) ⟨fun j j0 j1 => ?_, fun j j0 j1 => ?_, fun j j0 j1 => ?_, fun j j0 j1 => by omega⟩
      · simp (disch := omega) only [am_up_o]; exact e.1 j j0 j1
      · simp (disch := omega) only [am_up_o]; exact e.2.1 j j0 j1
      · by_cases z : j = i
        · subst z; simp (disch := omega) only [am_up_o, am_up_s, am_up_j]; exact ⟨trivial, trivial⟩
        · simp (disch := omega) only [am_up_o, am_up_s, am_up_j]; exact e.2.2.1 j j0 (by omega)
  have l2 : ∀ (m : Nat) (i : Int) (M1 : Int → Int → Int), i + m = 8 → 0 ≤ i → sF M M1 → (∀ o, 165 ≤ o → o ≤ 167 → M1 o 1 = M o 0) → sE M1 32 i 0 0 → am_Wp (d + 1) m_Md_stands 0 0 67 [vR 137, vI i] [] (am_SH, M1) Q := by
    intro m
    induction m with
    | zero =>
      intro i M1 hi hi0 s c1 e
      have hP := s.PM hP0
      have : i = 8 := by omega
      subst this
      refine B_Md_stands_67 _ _ _ _ _ ?_
      simp only [b_Md_stands_67, b_Md_stands_211, kd_137, ln_138, ln_139, ln_140, ln_141, ln_142, ln_143, ln_144, ln_145, ln_146, ln_147, ln_148, ln_149, ln_150, ln_151, ln_152, ln_153, ln_154, ln_155, ln_156, ln_157, ln_158, ln_159, ln_160, ln_161, ln_162, ln_163, ln_164, ln_165, ln_166, ln_167, ln_168, ln_169, ln_170, ln_171, ln_172, ln_173, ln_174, ln_175, ln_176, ln_177, ln_178, ln_179, ln_180, ln_181, ln_182, ln_183, ln_184, ln_185, ln_186, ln_187, ln_188, ln_189, ln_190, ln_191, pm_0 hP, pm_9 hP, pm_10 hP, pm_11 hP, pm_12 hP, pm_13 hP, pm_14 hP, pm_15 hP, pm_16 hP, pm_17 hP, pm_18 hP, pm_19 hP, pm_20 hP, pm_21 hP, pm_22 hP, pm_23 hP, pm_24 hP, pm_25 hP, pm_26 hP, pm_27 hP, pm_28 hP, pm_29 hP, pm_30 hP, pm_31 hP, pm_32 hP, pm_33 hP, pm_34 hP, pm_36 hP, pm_37 hP, pm_38 hP, pm_39 hP, pm_40 hP, pm_41 hP, pm_42 hP, pm_43 hP, pm_44 hP, pm_45 hP, pm_46 hP, pm_47 hP, pm_48 hP, pm_49 hP, pm_51 hP, pm_64 hP, pm_66 hP, pm_69 hP, pm_72 hP, pm_73 hP, pm_74 hP, pm_75 hP, pm_76 hP, pm_77 hP, pm_78 hP, pm_79 hP, pm_83 hP, am_up_eq, Int.reduceEq, Int.reduceLT, Int.reduceLE, Int.reduceNeg, if_true, if_false, c_const, c_lconst, c_ref, c_iload, c_lload, c_aload, c_istore, c_lstore, c_astore, c_iinc, c_iadd, c_isub, c_imul, c_ladd, c_lsub, c_lmul, c_idiv, c_irem, c_ldiv, c_lrem, c_iand, c_ior, c_ixor, c_ishl, c_ishr, c_ineg, c_i2l, c_l2i, c_i2c, c_lcmp, c_dup, c_pop, c_dup2, c_at, c_icmp_eq, c_icmp_ne, c_icmp_lt, c_icmp_ge, c_icmp_gt, c_icmp_le, c_if_eq, c_if_ne, c_if_lt, c_if_ge, c_if_gt, c_if_le, c_ifnull, c_ifnonnull, am_swK, c_sw, c_iret, c_zret, c_cret, c_bret, c_lret, c_aret, c_vret, c_getI, c_getR, c_putI, c_putZ, c_putR, c_iald, c_zald, c_cald, c_lald, c_oald, c_gald, c_iast, c_zast, c_cast, c_last, c_oast, c_alen, c_callS0, c_callS1, c_callS2, c_callS3, c_callS4, c_callS5, c_callS6, c_callS7, c_callV0, c_callV1, c_callV2, c_callV3, c_callV4, c_callV5, c_callV6, c_callV7, c_callT0, c_callT1, am_nx_eq, am_set, am_set2, am_clr, am_isL, am_push, am_w, am_ent, am_ent1, List.getElem?_cons_zero, List.getElem?_cons_succ, List.set_cons_zero, List.set_cons_succ, List.getD_cons_zero, List.getD_cons_succ, List.cons_append, List.nil_append, List.append_nil, List.replicate_succ, List.replicate_zero, Nat.reduceAdd, Nat.reduceSub, Nat.reduceLeDiff, Bool.false_eq_true, reduceIte, true_and, and_true, true_or, or_true, or_self, am_i32, am_i64, bz_0, bz_01, bz_em, bz_n0, Classical.not_not, am_cmp_lt0, am_cmp_gt0, am_cmp_eq0, am_cmp_ge0, am_cmp_le0, am_cmp_ne0]
      try simp only [Int.reduceEq, Int.reduceLT, Int.reduceLE, Int.reduceNeg, not_true_eq_false, not_false_eq_true, false_implies, true_implies, implies_true, true_and, and_true]
      exact l3 4 0 M1 (by decide) (by decide) s c1 e
    | succ m ih =>
      intro i M1 hi hi0 s c1 e
      have hP := s.PM hP0
      have hb : M1 169 i = 0 ∨ M1 169 i = 1 := by rw [s.2.2.2.1 _ i (Or.inl rfl) (by omega)]; exact h9 i hi0 (by omega)
      refine B_Md_stands_67 _ _ _ _ _ ?_
      simp only [b_Md_stands_67, b_Md_stands_135, b_Md_stands_198, b_Md_stands_211, kd_137, ln_138, ln_139, ln_140, ln_141, ln_142, ln_143, ln_144, ln_145, ln_146, ln_147, ln_148, ln_149, ln_150, ln_151, ln_152, ln_153, ln_154, ln_155, ln_156, ln_157, ln_158, ln_159, ln_160, ln_161, ln_162, ln_163, ln_164, ln_165, ln_166, ln_167, ln_168, ln_169, ln_170, ln_171, ln_172, ln_173, ln_174, ln_175, ln_176, ln_177, ln_178, ln_179, ln_180, ln_181, ln_182, ln_183, ln_184, ln_185, ln_186, ln_187, ln_188, ln_189, ln_190, ln_191, pm_0 hP, pm_9 hP, pm_10 hP, pm_11 hP, pm_12 hP, pm_13 hP, pm_14 hP, pm_15 hP, pm_16 hP, pm_17 hP, pm_18 hP, pm_19 hP, pm_20 hP, pm_21 hP, pm_22 hP, pm_23 hP, pm_24 hP, pm_25 hP, pm_26 hP, pm_27 hP, pm_28 hP, pm_29 hP, pm_30 hP, pm_31 hP, pm_32 hP, pm_33 hP, pm_34 hP, pm_36 hP, pm_37 hP, pm_38 hP, pm_39 hP, pm_40 hP, pm_41 hP, pm_42 hP, pm_43 hP, pm_44 hP, pm_45 hP, pm_46 hP, pm_47 hP, pm_48 hP, pm_49 hP, pm_51 hP, pm_64 hP, pm_66 hP, pm_69 hP, pm_72 hP, pm_73 hP, pm_74 hP, pm_75 hP, pm_76 hP, pm_77 hP, pm_78 hP, pm_79 hP, pm_83 hP, am_up_eq, Int.reduceEq, Int.reduceLT, Int.reduceLE, Int.reduceNeg, if_true, if_false, c_const, c_lconst, c_ref, c_iload, c_lload, c_aload, c_istore, c_lstore, c_astore, c_iinc, c_iadd, c_isub, c_imul, c_ladd, c_lsub, c_lmul, c_idiv, c_irem, c_ldiv, c_lrem, c_iand, c_ior, c_ixor, c_ishl, c_ishr, c_ineg, c_i2l, c_l2i, c_i2c, c_lcmp, c_dup, c_pop, c_dup2, c_at, c_icmp_eq, c_icmp_ne, c_icmp_lt, c_icmp_ge, c_icmp_gt, c_icmp_le, c_if_eq, c_if_ne, c_if_lt, c_if_ge, c_if_gt, c_if_le, c_ifnull, c_ifnonnull, am_swK, c_sw, c_iret, c_zret, c_cret, c_bret, c_lret, c_aret, c_vret, c_getI, c_getR, c_putI, c_putZ, c_putR, c_iald, c_zald, c_cald, c_lald, c_oald, c_gald, c_iast, c_zast, c_cast, c_last, c_oast, c_alen, c_callS0, c_callS1, c_callS2, c_callS3, c_callS4, c_callS5, c_callS6, c_callS7, c_callV0, c_callV1, c_callV2, c_callV3, c_callV4, c_callV5, c_callV6, c_callV7, c_callT0, c_callT1, am_nx_eq, am_set, am_set2, am_clr, am_isL, am_push, am_w, am_ent, am_ent1, List.getElem?_cons_zero, List.getElem?_cons_succ, List.set_cons_zero, List.set_cons_succ, List.getD_cons_zero, List.getD_cons_succ, List.cons_append, List.nil_append, List.append_nil, List.replicate_succ, List.replicate_zero, Nat.reduceAdd, Nat.reduceSub, Nat.reduceLeDiff, Bool.false_eq_true, reduceIte, true_and, and_true, true_or, or_true, or_self, am_i32, am_i64, bz_0, bz_01, bz_em, bz_n0, Classical.not_not, am_cmp_lt0, am_cmp_gt0, am_cmp_eq0, am_cmp_ge0, am_cmp_le0, am_cmp_ne0]
      refine ⟨fun z => by omega, fun _ => ?_⟩
      repeat (with_reducible refine And.intro (by omega) ?_)
      rw [if_neg (show ¬ 2 * i + 1 = 16 + 2 * i by omega)]
      have su := ((((((sF.up M1 (o := 175) (j := 8 + i) (v := M1 175 i) (by omega)).tr (sF.up _ (o := 169) (j := 8 + i) (v := M1 169 i) (by omega))).tr (sF.up _ (o := 177) (j := 8 + i) (v := M1 177 i) (by omega))).tr (sF.up _ (o := 171) (j := 16 + 2 * i) (v := M1 171 (2 * i)) (by omega))).tr (sF.up _ (o := 171) (j := 16 + 2 * i + 1) (v := M1 171 (2 * i + 1)) (by omega))).tr (sF.up _ (o := 172) (j := 8 + i) (v := M1 172 i) (by omega))).tr ((sF.up _ (o := 173) (j := 8 + i) (v := M1 173 i) (by omega)).tr (sF.up _ (o := 174) (j := 8 + i) (v := M1 174 i) (by omega)))
      refine ih (i + 1) _ (by omega) (by omega) (s.tr su) (fun o a b => by simp (disch := omega) only [am_up_o]; exact c1 o a b) ⟨fun j j0 j1 => ?_, fun j j0 j1 => ?_, fun j j0 j1 => by omega, fun j j0 j1 => by omega⟩
      · simp (disch := omega) only [am_up_o]; exact e.1 j j0 j1
      · by_cases z : j = i
        · subst z; simp (disch := omega) only [am_up_o, am_up_s, am_up_j]; exact ⟨trivial, trivial, trivial, trivial, trivial, trivial, trivial, trivial⟩
        · simp (disch := omega) only [am_up_o, am_up_s, am_up_j]; exact e.2.1 j j0 (by omega)
  have l1 : ∀ (m : Nat) (i : Int) (M1 : Int → Int → Int), i + m = 32 → 0 ≤ i → sF M M1 → (∀ o, 165 ≤ o → o ≤ 167 → M1 o 1 = M o 0) → sE M1 i 0 0 0 → am_Wp (d + 1) m_Md_stands 0 0 38 [vR 137, vI i] [] (am_SH, M1) Q := by
    intro m
    induction m with
    | zero =>
      intro i M1 hi hi0 s c1 e
      have hP := s.PM hP0
      have : i = 32 := by omega
      subst this
      refine B_Md_stands_38 _ _ _ _ _ ?_
      simp only [b_Md_stands_38, b_Md_stands_65, kd_137, ln_138, ln_139, ln_140, ln_141, ln_142, ln_143, ln_144, ln_145, ln_146, ln_147, ln_148, ln_149, ln_150, ln_151, ln_152, ln_153, ln_154, ln_155, ln_156, ln_157, ln_158, ln_159, ln_160, ln_161, ln_162, ln_163, ln_164, ln_165, ln_166, ln_167, ln_168, ln_169, ln_170, ln_171, ln_172, ln_173, ln_174, ln_175, ln_176, ln_177, ln_178, ln_179, ln_180, ln_181, ln_182, ln_183, ln_184, ln_185, ln_186, ln_187, ln_188, ln_189, ln_190, ln_191, pm_0 hP, pm_9 hP, pm_10 hP, pm_11 hP, pm_12 hP, pm_13 hP, pm_14 hP, pm_15 hP, pm_16 hP, pm_17 hP, pm_18 hP, pm_19 hP, pm_20 hP, pm_21 hP, pm_22 hP, pm_23 hP, pm_24 hP, pm_25 hP, pm_26 hP, pm_27 hP, pm_28 hP, pm_29 hP, pm_30 hP, pm_31 hP, pm_32 hP, pm_33 hP, pm_34 hP, pm_36 hP, pm_37 hP, pm_38 hP, pm_39 hP, pm_40 hP, pm_41 hP, pm_42 hP, pm_43 hP, pm_44 hP, pm_45 hP, pm_46 hP, pm_47 hP, pm_48 hP, pm_49 hP, pm_51 hP, pm_64 hP, pm_66 hP, pm_69 hP, pm_72 hP, pm_73 hP, pm_74 hP, pm_75 hP, pm_76 hP, pm_77 hP, pm_78 hP, pm_79 hP, pm_83 hP, am_up_eq, Int.reduceEq, Int.reduceLT, Int.reduceLE, Int.reduceNeg, if_true, if_false, c_const, c_lconst, c_ref, c_iload, c_lload, c_aload, c_istore, c_lstore, c_astore, c_iinc, c_iadd, c_isub, c_imul, c_ladd, c_lsub, c_lmul, c_idiv, c_irem, c_ldiv, c_lrem, c_iand, c_ior, c_ixor, c_ishl, c_ishr, c_ineg, c_i2l, c_l2i, c_i2c, c_lcmp, c_dup, c_pop, c_dup2, c_at, c_icmp_eq, c_icmp_ne, c_icmp_lt, c_icmp_ge, c_icmp_gt, c_icmp_le, c_if_eq, c_if_ne, c_if_lt, c_if_ge, c_if_gt, c_if_le, c_ifnull, c_ifnonnull, am_swK, c_sw, c_iret, c_zret, c_cret, c_bret, c_lret, c_aret, c_vret, c_getI, c_getR, c_putI, c_putZ, c_putR, c_iald, c_zald, c_cald, c_lald, c_oald, c_gald, c_iast, c_zast, c_cast, c_last, c_oast, c_alen, c_callS0, c_callS1, c_callS2, c_callS3, c_callS4, c_callS5, c_callS6, c_callS7, c_callV0, c_callV1, c_callV2, c_callV3, c_callV4, c_callV5, c_callV6, c_callV7, c_callT0, c_callT1, am_nx_eq, am_set, am_set2, am_clr, am_isL, am_push, am_w, am_ent, am_ent1, List.getElem?_cons_zero, List.getElem?_cons_succ, List.set_cons_zero, List.set_cons_succ, List.getD_cons_zero, List.getD_cons_succ, List.cons_append, List.nil_append, List.append_nil, List.replicate_succ, List.replicate_zero, Nat.reduceAdd, Nat.reduceSub, Nat.reduceLeDiff, Bool.false_eq_true, reduceIte, true_and, and_true, true_or, or_true, or_self, am_i32, am_i64, bz_0, bz_01, bz_em, bz_n0, Classical.not_not, am_cmp_lt0, am_cmp_gt0, am_cmp_eq0, am_cmp_ge0, am_cmp_le0, am_cmp_ne0]
      try simp only [Int.reduceEq, Int.reduceLT, Int.reduceLE, Int.reduceNeg, not_true_eq_false, not_false_eq_true, false_implies, true_implies, implies_true, true_and, and_true]
      exact l2 8 0 M1 (by decide) (by decide) s c1 e
    | succ m ih =>
      intro i M1 hi hi0 s c1 e
      have hP := s.PM hP0
      refine B_Md_stands_38 _ _ _ _ _ ?_
      simp only [b_Md_stands_38, b_Md_stands_65, kd_137, ln_138, ln_139, ln_140, ln_141, ln_142, ln_143, ln_144, ln_145, ln_146, ln_147, ln_148, ln_149, ln_150, ln_151, ln_152, ln_153, ln_154, ln_155, ln_156, ln_157, ln_158, ln_159, ln_160, ln_161, ln_162, ln_163, ln_164, ln_165, ln_166, ln_167, ln_168, ln_169, ln_170, ln_171, ln_172, ln_173, ln_174, ln_175, ln_176, ln_177, ln_178, ln_179, ln_180, ln_181, ln_182, ln_183, ln_184, ln_185, ln_186, ln_187, ln_188, ln_189, ln_190, ln_191, pm_0 hP, pm_9 hP, pm_10 hP, pm_11 hP, pm_12 hP, pm_13 hP, pm_14 hP, pm_15 hP, pm_16 hP, pm_17 hP, pm_18 hP, pm_19 hP, pm_20 hP, pm_21 hP, pm_22 hP, pm_23 hP, pm_24 hP, pm_25 hP, pm_26 hP, pm_27 hP, pm_28 hP, pm_29 hP, pm_30 hP, pm_31 hP, pm_32 hP, pm_33 hP, pm_34 hP, pm_36 hP, pm_37 hP, pm_38 hP, pm_39 hP, pm_40 hP, pm_41 hP, pm_42 hP, pm_43 hP, pm_44 hP, pm_45 hP, pm_46 hP, pm_47 hP, pm_48 hP, pm_49 hP, pm_51 hP, pm_64 hP, pm_66 hP, pm_69 hP, pm_72 hP, pm_73 hP, pm_74 hP, pm_75 hP, pm_76 hP, pm_77 hP, pm_78 hP, pm_79 hP, pm_83 hP, am_up_eq, Int.reduceEq, Int.reduceLT, Int.reduceLE, Int.reduceNeg, if_true, if_false, c_const, c_lconst, c_ref, c_iload, c_lload, c_aload, c_istore, c_lstore, c_astore, c_iinc, c_iadd, c_isub, c_imul, c_ladd, c_lsub, c_lmul, c_idiv, c_irem, c_ldiv, c_lrem, c_iand, c_ior, c_ixor, c_ishl, c_ishr, c_ineg, c_i2l, c_l2i, c_i2c, c_lcmp, c_dup, c_pop, c_dup2, c_at, c_icmp_eq, c_icmp_ne, c_icmp_lt, c_icmp_ge, c_icmp_gt, c_icmp_le, c_if_eq, c_if_ne, c_if_lt, c_if_ge, c_if_gt, c_if_le, c_ifnull, c_ifnonnull, am_swK, c_sw, c_iret, c_zret, c_cret, c_bret, c_lret, c_aret, c_vret, c_getI, c_getR, c_putI, c_putZ, c_putR, c_iald, c_zald, c_cald, c_lald, c_oald, c_gald, c_iast, c_zast, c_cast, c_last, c_oast, c_alen, c_callS0, c_callS1, c_callS2, c_callS3, c_callS4, c_callS5, c_callS6, c_callS7, c_callV0, c_callV1, c_callV2, c_callV3, c_callV4, c_callV5, c_callV6, c_callV7, c_callT0, c_callT1, am_nx_eq, am_set, am_set2, am_clr, am_isL, am_push, am_w, am_ent, am_ent1, List.getElem?_cons_zero, List.getElem?_cons_succ, List.set_cons_zero, List.set_cons_succ, List.getD_cons_zero, List.getD_cons_succ, List.cons_append, List.nil_append, List.append_nil, List.replicate_succ, List.replicate_zero, Nat.reduceAdd, Nat.reduceSub, Nat.reduceLeDiff, Bool.false_eq_true, reduceIte, true_and, and_true, true_or, or_true, or_self, am_i32, am_i64, bz_0, bz_01, bz_em, bz_n0, Classical.not_not, am_cmp_lt0, am_cmp_gt0, am_cmp_eq0, am_cmp_ge0, am_cmp_le0, am_cmp_ne0]
      refine ⟨fun z => by omega, fun _ => ?_⟩
      repeat (with_reducible refine And.intro (by omega) ?_)
      have su := sF.up M1 (o := 168) (j := 32 + i) (v := M1 168 i) (by omega)
      refine ih (i + 1) _ (by omega) (by omega) (s.tr su) (fun o a b => by rw [am_up_o _ (by omega)]; exact c1 o a b) ⟨fun j j0 j1 => ?_, fun j j0 j1 => by omega, fun j j0 j1 => by omega, fun j j0 j1 => by omega⟩
      by_cases z : j = i
      · subst z; rw [am_up_s, am_up_j _ (by omega)]
      · rw [am_up_j _ (by omega), am_up_j _ (by omega)]; exact e.1 j j0 (by omega)
  refine am_go B_Md_stands_0 rfl (Nat.le_of_ble_eq_true rfl) ?_
  simp only [b_Md_stands_0, kd_137, ln_138, ln_139, ln_140, ln_141, ln_142, ln_143, ln_144, ln_145, ln_146, ln_147, ln_148, ln_149, ln_150, ln_151, ln_152, ln_153, ln_154, ln_155, ln_156, ln_157, ln_158, ln_159, ln_160, ln_161, ln_162, ln_163, ln_164, ln_165, ln_166, ln_167, ln_168, ln_169, ln_170, ln_171, ln_172, ln_173, ln_174, ln_175, ln_176, ln_177, ln_178, ln_179, ln_180, ln_181, ln_182, ln_183, ln_184, ln_185, ln_186, ln_187, ln_188, ln_189, ln_190, ln_191, pm_0 hP, pm_9 hP, pm_10 hP, pm_11 hP, pm_12 hP, pm_13 hP, pm_14 hP, pm_15 hP, pm_16 hP, pm_17 hP, pm_18 hP, pm_19 hP, pm_20 hP, pm_21 hP, pm_22 hP, pm_23 hP, pm_24 hP, pm_25 hP, pm_26 hP, pm_27 hP, pm_28 hP, pm_29 hP, pm_30 hP, pm_31 hP, pm_32 hP, pm_33 hP, pm_34 hP, pm_36 hP, pm_37 hP, pm_38 hP, pm_39 hP, pm_40 hP, pm_41 hP, pm_42 hP, pm_43 hP, pm_44 hP, pm_45 hP, pm_46 hP, pm_47 hP, pm_48 hP, pm_49 hP, pm_51 hP, pm_64 hP, pm_66 hP, pm_69 hP, pm_72 hP, pm_73 hP, pm_74 hP, pm_75 hP, pm_76 hP, pm_77 hP, pm_78 hP, pm_79 hP, pm_83 hP, am_up_eq, Int.reduceEq, Int.reduceLT, Int.reduceLE, Int.reduceNeg, if_true, if_false, c_const, c_lconst, c_ref, c_iload, c_lload, c_aload, c_istore, c_lstore, c_astore, c_iinc, c_iadd, c_isub, c_imul, c_ladd, c_lsub, c_lmul, c_idiv, c_irem, c_ldiv, c_lrem, c_iand, c_ior, c_ixor, c_ishl, c_ishr, c_ineg, c_i2l, c_l2i, c_i2c, c_lcmp, c_dup, c_pop, c_dup2, c_at, c_icmp_eq, c_icmp_ne, c_icmp_lt, c_icmp_ge, c_icmp_gt, c_icmp_le, c_if_eq, c_if_ne, c_if_lt, c_if_ge, c_if_gt, c_if_le, c_ifnull, c_ifnonnull, am_swK, c_sw, c_iret, c_zret, c_cret, c_bret, c_lret, c_aret, c_vret, c_getI, c_getR, c_putI, c_putZ, c_putR, c_iald, c_zald, c_cald, c_lald, c_oald, c_gald, c_iast, c_zast, c_cast, c_last, c_oast, c_alen, c_callS0, c_callS1, c_callS2, c_callS3, c_callS4, c_callS5, c_callS6, c_callS7, c_callV0, c_callV1, c_callV2, c_callV3, c_callV4, c_callV5, c_callV6, c_callV7, c_callT0, c_callT1, am_nx_eq, am_set, am_set2, am_clr, am_isL, am_push, am_w, am_ent, am_ent1, List.getElem?_cons_zero, List.getElem?_cons_succ, List.set_cons_zero, List.set_cons_succ, List.getD_cons_zero, List.getD_cons_succ, List.cons_append, List.nil_append, List.append_nil, List.replicate_succ, List.replicate_zero, Nat.reduceAdd, Nat.reduceSub, Nat.reduceLeDiff, Bool.false_eq_true, reduceIte, true_and, and_true, true_or, or_true, or_self, am_i32, am_i64, bz_0, bz_01, bz_em, bz_n0, Classical.not_not, am_cmp_lt0, am_cmp_gt0, am_cmp_eq0, am_cmp_ge0, am_cmp_le0, am_cmp_ne0]
  refine l1 32 0 _ (by decide) (by decide) (((sF.up _ (by omega)).tr (sF.up _ (by omega))).tr (sF.up _ (by omega))) (fun o a b => ?_) ⟨fun j j0 j1 => by omega, fun j j0 j1 => by omega, fun j j0 j1 => by omega, fun j j0 j1 => by omega⟩
  obtain rfl | rfl | rfl : o = 165 ∨ o = 166 ∨ o = 167 := by omega
  all_goals simp (disch := omega) only [am_up_o, am_up_s]
/-- the statements one by one -/
theorem r_rigL (hb : by9 T n) (hn : n ≤ 900) : ∀ (m : Nat) (k : Int) (M D : Int → Int → Int) (lc : Int) (r : tk9) (D' : Int → Int → Int) (lc' k' : Int), rgR T n m k D lc r z' D' lc' k' → 0 ≤ k ∧ k ≤ 30 → mK T n M (.inl r) → MQ9 M D lc → DW D lc → hb9 M → lc ≤ r.2.1 → M 137 54 = k → (∀ M', mK T n M' z' → gF M M' → hb9 M' → (∀ r', z' = .inl r' → ∃ lc', MQ9 M' D' lc' ∧ M' 137 54 = k' ∧ DW D' lc' ∧ lc' ≤ 900) → b_Md_rig_86 (d + 11) Q 0 0 [vR 137] [] (am_SH, M')) → am_Wp (d + 12) m_Md_rig 0 0 64 [vR 137] [] (am_SH, M) Q := by
  intro m
  induction m with
  | zero => intro k M D lc r D' lc' k' hr; exact hr.elim
  | succ m ih =>
    intro k M D lc r D' lc' k' hr hk0 k9 hM hD h9 hl hk h
    have hP := k9.PM
    refine B_Md_rig_64 _ _ _ _ _ ?_
    simp only [b_Md_rig_64, k9.2.2.1, kd_137, ln_138, ln_139, ln_140, ln_141, ln_142, ln_143, ln_144, ln_145, ln_146, ln_147, ln_148, ln_149, ln_150, ln_151, ln_152, ln_153, ln_154, ln_155, ln_156, ln_157, ln_158, ln_159, ln_160, ln_161, ln_162, ln_163, ln_164, ln_165, ln_166, ln_167, ln_168, ln_169, ln_170, ln_171, ln_172, ln_173, ln_174, ln_175, ln_176, ln_177, ln_178, ln_179, ln_180, ln_181, ln_182, ln_183, ln_184, ln_185, ln_186, ln_187, ln_188, ln_189, ln_190, ln_191, pm_0 hP, pm_9 hP, pm_10 hP, pm_11 hP, pm_12 hP, pm_13 hP, pm_14 hP, pm_15 hP, pm_16 hP, pm_17 hP, pm_18 hP, pm_19 hP, pm_20 hP, pm_21 hP, pm_22 hP, pm_23 hP, pm_24 hP, pm_25 hP, pm_26 hP, pm_27 hP, pm_28 hP, pm_29 hP, pm_30 hP, pm_31 hP, pm_32 hP, pm_33 hP, pm_34 hP, pm_36 hP, pm_37 hP, pm_38 hP, pm_39 hP, pm_40 hP, pm_41 hP, pm_42 hP, pm_43 hP, pm_44 hP, pm_45 hP, pm_46 hP, pm_47 hP, pm_48 hP, pm_49 hP, pm_51 hP, pm_64 hP, pm_66 hP, pm_69 hP, pm_72 hP, pm_73 hP, pm_74 hP, pm_75 hP, pm_76 hP, pm_77 hP, pm_78 hP, pm_79 hP, pm_83 hP, am_up_eq, Int.reduceEq, Int.reduceLT, Int.reduceLE, Int.reduceNeg, if_true, if_false, c_const, c_lconst, c_ref, c_iload, c_lload, c_aload, c_istore, c_lstore, c_astore, c_iinc, c_iadd, c_isub, c_imul, c_ladd, c_lsub, c_lmul, c_idiv, c_irem, c_ldiv, c_lrem, c_iand, c_ior, c_ixor, c_ishl, c_ishr, c_ineg, c_i2l, c_l2i, c_i2c, c_lcmp, c_dup, c_pop, c_dup2, c_at, c_icmp_eq, c_icmp_ne, c_icmp_lt, c_icmp_ge, c_icmp_gt, c_icmp_le, c_if_eq, c_if_ne, c_if_lt, c_if_ge, c_if_gt, c_if_le, c_ifnull, c_ifnonnull, am_swK, c_sw, c_iret, c_zret, c_cret, c_bret, c_lret, c_aret, c_vret, c_getI, c_getR, c_putI, c_putZ, c_putR, c_iald, c_zald, c_cald, c_lald, c_oald, c_gald, c_iast, c_zast, c_cast, c_last, c_oast, c_alen, c_callS0, c_callS1, c_callS2, c_callS3, c_callS4, c_callS5, c_callS6, c_callS7, c_callV0, c_callV1, c_callV2, c_callV3, c_callV4, c_callV5, c_callV6, c_callV7, c_callT0, c_callT1, am_nx_eq, am_set, am_set2, am_clr, am_isL, am_push, am_w, am_ent, am_ent1, List.getElem?_cons_zero, List.getElem?_cons_succ, List.set_cons_zero, List.set_cons_succ, List.getD_cons_zero, List.getD_cons_succ, List.cons_append, List.nil_append, List.append_nil, List.replicate_succ, List.replicate_zero, Nat.reduceAdd, Nat.reduceSub, Nat.reduceLeDiff, Bool.false_eq_true, reduceIte, true_and, and_true, true_or, or_true, or_self, am_i32, am_i64, bz_0, bz_01, bz_em, bz_n0, Classical.not_not, am_cmp_lt0, am_cmp_gt0, am_cmp_eq0, am_cmp_ge0, am_cmp_le0, am_cmp_ne0]
    try simp only [Int.reduceEq, Int.reduceLT, Int.reduceLE, Int.reduceNeg, not_true_eq_false, not_false_eq_true, false_implies, true_implies, implies_true, true_and, and_true]
    refine r_look k9 (fun M1 k1 e1 s1 => ?_)
    have hP := k1.PM
    have hb1 : hb9 M1 := fun i a b => by rw [s1.1 169 (by decide)]; exact h9 i a b
    have n0 := tK9_n k1.2.1
    have w9 := (tK9_W k1.2.1).1
    have l0 : lv9 T r = -1 ↔ r.1 = 0 := by
      unfold lv9
      constructor
      · intro e
        by_cases z : r.1 = 0
        · exact z
        · rw [if_neg z] at e
          have := (hb r.2.1 w9.1 (by have : ¬ r.2.1 = n := fun w => z (n0.mpr w); omega)).1
          omega
      · intro e; rw [if_pos e]
    have l9 := le9 k1
    simp only [kd_137, ln_138, ln_139, ln_140, ln_141, ln_142, ln_143, ln_144, ln_145, ln_146, ln_147, ln_148, ln_149, ln_150, ln_151, ln_152, ln_153, ln_154, ln_155, ln_156, ln_157, ln_158, ln_159, ln_160, ln_161, ln_162, ln_163, ln_164, ln_165, ln_166, ln_167, ln_168, ln_169, ln_170, ln_171, ln_172, ln_173, ln_174, ln_175, ln_176, ln_177, ln_178, ln_179, ln_180, ln_181, ln_182, ln_183, ln_184, ln_185, ln_186, ln_187, ln_188, ln_189, ln_190, ln_191, pm_0 hP, pm_9 hP, pm_10 hP, pm_11 hP, pm_12 hP, pm_13 hP, pm_14 hP, pm_15 hP, pm_16 hP, pm_17 hP, pm_18 hP, pm_19 hP, pm_20 hP, pm_21 hP, pm_22 hP, pm_23 hP, pm_24 hP, pm_25 hP, pm_26 hP, pm_27 hP, pm_28 hP, pm_29 hP, pm_30 hP, pm_31 hP, pm_32 hP, pm_33 hP, pm_34 hP, pm_36 hP, pm_37 hP, pm_38 hP, pm_39 hP, pm_40 hP, pm_41 hP, pm_42 hP, pm_43 hP, pm_44 hP, pm_45 hP, pm_46 hP, pm_47 hP, pm_48 hP, pm_49 hP, pm_51 hP, pm_64 hP, pm_66 hP, pm_69 hP, pm_72 hP, pm_73 hP, pm_74 hP, pm_75 hP, pm_76 hP, pm_77 hP, pm_78 hP, pm_79 hP, pm_83 hP, am_up_eq, Int.reduceEq, Int.reduceLT, Int.reduceLE, Int.reduceNeg, if_true, if_false, c_const, c_lconst, c_ref, c_iload, c_lload, c_aload, c_istore, c_lstore, c_astore, c_iinc, c_iadd, c_isub, c_imul, c_ladd, c_lsub, c_lmul, c_idiv, c_irem, c_ldiv, c_lrem, c_iand, c_ior, c_ixor, c_ishl, c_ishr, c_ineg, c_i2l, c_l2i, c_i2c, c_lcmp, c_dup, c_pop, c_dup2, c_at, c_icmp_eq, c_icmp_ne, c_icmp_lt, c_icmp_ge, c_icmp_gt, c_icmp_le, c_if_eq, c_if_ne, c_if_lt, c_if_ge, c_if_gt, c_if_le, c_ifnull, c_ifnonnull, am_swK, c_sw, c_iret, c_zret, c_cret, c_bret, c_lret, c_aret, c_vret, c_getI, c_getR, c_putI, c_putZ, c_putR, c_iald, c_zald, c_cald, c_lald, c_oald, c_gald, c_iast, c_zast, c_cast, c_last, c_oast, c_alen, c_callS0, c_callS1, c_callS2, c_callS3, c_callS4, c_callS5, c_callS6, c_callS7, c_callV0, c_callV1, c_callV2, c_callV3, c_callV4, c_callV5, c_callV6, c_callV7, c_callT0, c_callT1, am_nx_eq, am_set, am_set2, am_clr, am_isL, am_push, am_w, am_ent, am_ent1, List.getElem?_cons_zero, List.getElem?_cons_succ, List.set_cons_zero, List.set_cons_succ, List.getD_cons_zero, List.getD_cons_succ, List.cons_append, List.nil_append, List.append_nil, List.replicate_succ, List.replicate_zero, Nat.reduceAdd, Nat.reduceSub, Nat.reduceLeDiff, Bool.false_eq_true, reduceIte, true_and, and_true, true_or, or_true, or_self, am_i32, am_i64, bz_0, bz_01, bz_em, bz_n0, Classical.not_not, am_cmp_lt0, am_cmp_gt0, am_cmp_eq0, am_cmp_ge0, am_cmp_le0, am_cmp_ne0]
    rcases hr with ⟨r0, ez, eD, el, ek⟩ | ⟨r0, z1, D1, lc1, hs, hr⟩
    · subst ez eD el ek
      refine ⟨fun _ => h M1 k1 s1.g hb1 (fun r' _ => ⟨lc', hM.tf s1, by rw [s1.2 54 (by decide)]; exact hk, hD, by omega⟩), fun w => absurd (l0.mpr r0) w⟩
    · refine ⟨fun w => absurd (l0.mp w) r0, fun _ => ?_⟩
      refine r_statement hb k1 e1 (hM.tf s1) hD hb1 hl (by rw [s1.2 54 (by decide)]; exact hk) hk0 hs (fun M2 k2 g2 hb2 m2 => ?_)
      simp only [c_const, c_lconst, c_ref, c_iload, c_lload, c_aload, c_istore, c_lstore, c_astore, c_iinc, c_iadd, c_isub, c_imul, c_ladd, c_lsub, c_lmul, c_idiv, c_irem, c_ldiv, c_lrem, c_iand, c_ior, c_ixor, c_ishl, c_ishr, c_ineg, c_i2l, c_l2i, c_i2c, c_lcmp, c_dup, c_pop, c_dup2, c_at, c_icmp_eq, c_icmp_ne, c_icmp_lt, c_icmp_ge, c_icmp_gt, c_icmp_le, c_if_eq, c_if_ne, c_if_lt, c_if_ge, c_if_gt, c_if_le, c_ifnull, c_ifnonnull, am_swK, c_sw, c_iret, c_zret, c_cret, c_bret, c_lret, c_aret, c_vret, c_getI, c_getR, c_putI, c_putZ, c_putR, c_iald, c_zald, c_cald, c_lald, c_oald, c_gald, c_iast, c_zast, c_cast, c_last, c_oast, c_alen, c_callS0, c_callS1, c_callS2, c_callS3, c_callS4, c_callS5, c_callS6, c_callS7, c_callV0, c_callV1, c_callV2, c_callV3, c_callV4, c_callV5, c_callV6, c_callV7, c_callT0, c_callT1, am_nx_eq, am_set, am_set2, am_clr, am_isL, am_push, am_w, am_ent, am_ent1, List.getElem?_cons_zero, List.getElem?_cons_succ, List.set_cons_zero, List.set_cons_succ, List.getD_cons_zero, List.getD_cons_succ, List.cons_append, List.nil_append, List.append_nil, List.replicate_succ, List.replicate_zero, Nat.reduceAdd, Nat.reduceSub, Nat.reduceLeDiff, Bool.false_eq_true, reduceIte, true_and, and_true, true_or, or_true, or_self, am_i32, am_i64, bz_0, bz_01, bz_em, bz_n0, Classical.not_not, am_cmp_lt0, am_cmp_gt0, am_cmp_eq0, am_cmp_ge0, am_cmp_le0, am_cmp_ne0]
      cases z1 with
      | inl r1 =>
        have g := stmR_DW hD hn (tK9_W k1.2.1) hl hs
        have q := m2 r1 rfl
        exact ih (k + 1) M2 D1 lc1 r1 D' lc' k' hr (by omega) k2 q.1 g.1 hb2 g.2.2.1 q.2 (fun M' k' g' hb' m' => h M' k' ((s1.g.tr g2).tr g') hb' m')
      | inr p =>
        have ez : z' = .inr p := hr
        subst ez
        have hP := k2.1
        have e5 : ¬ M2 137 5 = 0 := by rw [k2.2.2.1]; exact k2.2.1
        refine B_Md_rig_64 _ _ _ _ _ ?_
        simp only [b_Md_rig_64, kd_137, ln_138, ln_139, ln_140, ln_141, ln_142, ln_143, ln_144, ln_145, ln_146, ln_147, ln_148, ln_149, ln_150, ln_151, ln_152, ln_153, ln_154, ln_155, ln_156, ln_157, ln_158, ln_159, ln_160, ln_161, ln_162, ln_163, ln_164, ln_165, ln_166, ln_167, ln_168, ln_169, ln_170, ln_171, ln_172, ln_173, ln_174, ln_175, ln_176, ln_177, ln_178, ln_179, ln_180, ln_181, ln_182, ln_183, ln_184, ln_185, ln_186, ln_187, ln_188, ln_189, ln_190, ln_191, pm_0 hP, pm_9 hP, pm_10 hP, pm_11 hP, pm_12 hP, pm_13 hP, pm_14 hP, pm_15 hP, pm_16 hP, pm_17 hP, pm_18 hP, pm_19 hP, pm_20 hP, pm_21 hP, pm_22 hP, pm_23 hP, pm_24 hP, pm_25 hP, pm_26 hP, pm_27 hP, pm_28 hP, pm_29 hP, pm_30 hP, pm_31 hP, pm_32 hP, pm_33 hP, pm_34 hP, pm_36 hP, pm_37 hP, pm_38 hP, pm_39 hP, pm_40 hP, pm_41 hP, pm_42 hP, pm_43 hP, pm_44 hP, pm_45 hP, pm_46 hP, pm_47 hP, pm_48 hP, pm_49 hP, pm_51 hP, pm_64 hP, pm_66 hP, pm_69 hP, pm_72 hP, pm_73 hP, pm_74 hP, pm_75 hP, pm_76 hP, pm_77 hP, pm_78 hP, pm_79 hP, pm_83 hP, am_up_eq, Int.reduceEq, Int.reduceLT, Int.reduceLE, Int.reduceNeg, if_true, if_false, c_const, c_lconst, c_ref, c_iload, c_lload, c_aload, c_istore, c_lstore, c_astore, c_iinc, c_iadd, c_isub, c_imul, c_ladd, c_lsub, c_lmul, c_idiv, c_irem, c_ldiv, c_lrem, c_iand, c_ior, c_ixor, c_ishl, c_ishr, c_ineg, c_i2l, c_l2i, c_i2c, c_lcmp, c_dup, c_pop, c_dup2, c_at, c_icmp_eq, c_icmp_ne, c_icmp_lt, c_icmp_ge, c_icmp_gt, c_icmp_le, c_if_eq, c_if_ne, c_if_lt, c_if_ge, c_if_gt, c_if_le, c_ifnull, c_ifnonnull, am_swK, c_sw, c_iret, c_zret, c_cret, c_bret, c_lret, c_aret, c_vret, c_getI, c_getR, c_putI, c_putZ, c_putR, c_iald, c_zald, c_cald, c_lald, c_oald, c_gald, c_iast, c_zast, c_cast, c_last, c_oast, c_alen, c_callS0, c_callS1, c_callS2, c_callS3, c_callS4, c_callS5, c_callS6, c_callS7, c_callV0, c_callV1, c_callV2, c_callV3, c_callV4, c_callV5, c_callV6, c_callV7, c_callT0, c_callT1, am_nx_eq, am_set, am_set2, am_clr, am_isL, am_push, am_w, am_ent, am_ent1, List.getElem?_cons_zero, List.getElem?_cons_succ, List.set_cons_zero, List.set_cons_succ, List.getD_cons_zero, List.getD_cons_succ, List.cons_append, List.nil_append, List.append_nil, List.replicate_succ, List.replicate_zero, Nat.reduceAdd, Nat.reduceSub, Nat.reduceLeDiff, Bool.false_eq_true, reduceIte, true_and, and_true, true_or, or_true, or_self, am_i32, am_i64, bz_0, bz_01, bz_em, bz_n0, Classical.not_not, am_cmp_lt0, am_cmp_gt0, am_cmp_eq0, am_cmp_ge0, am_cmp_le0, am_cmp_ne0]
        exact ⟨fun _ => h M2 k2 (s1.g.tr g2) hb2 (fun r' e => by cases e), fun w => absurd w e5⟩
theorem m_rig (hM : MI M D T F P B O) (hS : SW D T F P B O) (h9 : hb9 M) (rr : rigR T (F 4) z' D' k) (h1 : ∀ r', z' = .inl r' → ∀ M', (∀ o, o < 137 → M' o = M o) → hb9 M' → MI M' D' T (rgF F) P B O → Q (vI k) (am_SH, M')) (h0 : ∀ p, z' = .inr p → ∀ M', (∀ o, o < 137 → M' o = M o) → hb9 M' → MI M' D T (flF F p) P B O → Q (vI (-1)) (am_SH, M')) : am_Call (d + 12) m_Md_rig 0 0 [vR 137] (am_SH, M) Q := by
  have hP := hM.P9
  have hF := hM.F9
  have h4 := hS.1.2.2.2.1
  have hb : by9 T (F 4) := fun i a b => hS.2.1 i a b
  obtain ⟨r0, lc', nx0, rg⟩ := rr
  obtain ⟨f0, f1, f2, f3, f4, f5, f6, f7⟩ := hF
  refine am_go B_Md_rig_0 rfl (Nat.le_of_ble_eq_true rfl) ?_
  simp only [b_Md_rig_0, f4, kd_137, ln_138, ln_139, ln_140, ln_141, ln_142, ln_143, ln_144, ln_145, ln_146, ln_147, ln_148, ln_149, ln_150, ln_151, ln_152, ln_153, ln_154, ln_155, ln_156, ln_157, ln_158, ln_159, ln_160, ln_161, ln_162, ln_163, ln_164, ln_165, ln_166, ln_167, ln_168, ln_169, ln_170, ln_171, ln_172, ln_173, ln_174, ln_175, ln_176, ln_177, ln_178, ln_179, ln_180, ln_181, ln_182, ln_183, ln_184, ln_185, ln_186, ln_187, ln_188, ln_189, ln_190, ln_191, pm_0 hP, pm_9 hP, pm_10 hP, pm_11 hP, pm_12 hP, pm_13 hP, pm_14 hP, pm_15 hP, pm_16 hP, pm_17 hP, pm_18 hP, pm_19 hP, pm_20 hP, pm_21 hP, pm_22 hP, pm_23 hP, pm_24 hP, pm_25 hP, pm_26 hP, pm_27 hP, pm_28 hP, pm_29 hP, pm_30 hP, pm_31 hP, pm_32 hP, pm_33 hP, pm_34 hP, pm_36 hP, pm_37 hP, pm_38 hP, pm_39 hP, pm_40 hP, pm_41 hP, pm_42 hP, pm_43 hP, pm_44 hP, pm_45 hP, pm_46 hP, pm_47 hP, pm_48 hP, pm_49 hP, pm_51 hP, pm_64 hP, pm_66 hP, pm_69 hP, pm_72 hP, pm_73 hP, pm_74 hP, pm_75 hP, pm_76 hP, pm_77 hP, pm_78 hP, pm_79 hP, pm_83 hP, am_up_eq, Int.reduceEq, Int.reduceLT, Int.reduceLE, Int.reduceNeg, if_true, if_false, c_const, c_lconst, c_ref, c_iload, c_lload, c_aload, c_istore, c_lstore, c_astore, c_iinc, c_iadd, c_isub, c_imul, c_ladd, c_lsub, c_lmul, c_idiv, c_irem, c_ldiv, c_lrem, c_iand, c_ior, c_ixor, c_ishl, c_ishr, c_ineg, c_i2l, c_l2i, c_i2c, c_lcmp, c_dup, c_pop, c_dup2, c_at, c_icmp_eq, c_icmp_ne, c_icmp_lt, c_icmp_ge, c_icmp_gt, c_icmp_le, c_if_eq, c_if_ne, c_if_lt, c_if_ge, c_if_gt, c_if_le, c_ifnull, c_ifnonnull, am_swK, c_sw, c_iret, c_zret, c_cret, c_bret, c_lret, c_aret, c_vret, c_getI, c_getR, c_putI, c_putZ, c_putR, c_iald, c_zald, c_cald, c_lald, c_oald, c_gald, c_iast, c_zast, c_cast, c_last, c_oast, c_alen, c_callS0, c_callS1, c_callS2, c_callS3, c_callS4, c_callS5, c_callS6, c_callS7, c_callV0, c_callV1, c_callV2, c_callV3, c_callV4, c_callV5, c_callV6, c_callV7, c_callT0, c_callT1, am_nx_eq, am_set, am_set2, am_clr, am_isL, am_push, am_w, am_ent, am_ent1, List.getElem?_cons_zero, List.getElem?_cons_succ, List.set_cons_zero, List.set_cons_succ, List.getD_cons_zero, List.getD_cons_succ, List.cons_append, List.nil_append, List.append_nil, List.replicate_succ, List.replicate_zero, Nat.reduceAdd, Nat.reduceSub, Nat.reduceLeDiff, Bool.false_eq_true, reduceIte, true_and, and_true, true_or, or_true, or_self, am_i32, am_i64, bz_0, bz_01, bz_em, bz_n0, Classical.not_not, am_cmp_lt0, am_cmp_gt0, am_cmp_eq0, am_cmp_ge0, am_cmp_le0, am_cmp_ne0]
  generalize hMs : am_up (am_up (am_up (am_up (am_up (am_up (am_up (am_up (am_up (am_up (am_up M 137 3 (F 4)) 137 1 0) 137 2 0) 137 4 (-1)) 137 5 0) 137 6 (-1)) 165 0 0) 166 0 0) 167 0 0) 137 50 0) 137 54 0 = Ms
  have es : (∀ o, o ≠ 137 → (o < 165 ∨ 167 < o) → Ms o = M o) ∧ (∀ j, (j ≠ 1 ∧ j ≠ 2 ∧ j ≠ 3 ∧ j ≠ 4 ∧ j ≠ 5 ∧ j ≠ 6 ∧ j ≠ 50 ∧ j ≠ 54) → Ms 137 j = M 137 j) ∧ (∀ o, 165 ≤ o → o ≤ 167 → Ms o 0 = 0 ∧ Ms o 1 = M o 1) ∧ Ms 137 1 = 0 ∧ Ms 137 2 = 0 ∧ Ms 137 3 = F 4 ∧ Ms 137 4 = -1 ∧ Ms 137 5 = 0 ∧ Ms 137 6 = -1 ∧ Ms 137 50 = 0 ∧ Ms 137 54 = 0 := by
    rw [← hMs]
    refine ⟨fun o a b => ?_, fun j a => ?_, fun o a b => ?_, ?_, ?_, ?_, ?_, ?_, ?_, ?_, ?_⟩
    · simp (disch := omega) only [am_up_o]
    · simp (disch := omega) only [am_up_o, am_up_j]
    · obtain rfl | rfl | rfl : o = 165 ∨ o = 166 ∨ o = 167 := by omega
      all_goals (simp (disch := omega) only [am_up_o, am_up_s, am_up_j]; exact ⟨trivial, trivial⟩)
    all_goals simp (disch := omega) only [am_up_o, am_up_s, am_up_j]
  have hPs : am_PM Ms := am_PM_eq hP (fun j hj => es.2.1 j ⟨fun e => hj (by rw [e]; decide), fun e => hj (by rw [e]; decide), fun e => hj (by rw [e]; decide), fun e => hj (by rw [e]; decide), fun e => hj (by rw [e]; decide), fun e => hj (by rw [e]; decide), fun e => hj (by rw [e]; decide), fun e => hj (by rw [e]; decide)⟩) (fun o a b => es.1 o (by omega) (by omega))
  have ks : mK T (F 4) Ms (.inl r0) := by
    refine ⟨⟨hPs, es.2.2.2.2.2.1, h4, fun i a b => by rw [es.1 138 (by decide) (by decide)]; exact hM.T9 i a b⟩, ?_, es.2.2.2.2.2.2.2.1, es.2.2.2.2.2.2.2.2.1⟩
    rw [es.2.2.2.2.1, es.2.2.2.2.2.2.1]
    exact tK9_nx nx0 (by decide) (by decide) ⟨fun w => absurd w (by decide), fun w => absurd w (by decide)⟩
  have no : ∀ {p : Prop} (b : Int), 0 ≤ b → b < (0 : Int) → p := fun b a c => by omega
  have ms : MQ9 Ms (fun _ _ => 0) 0 := ⟨⟨⟨(es.2.2.1 165 (by decide) (by decide)).1, (es.2.2.1 166 (by decide) (by decide)).1, (es.2.2.1 167 (by decide) (by decide)).1⟩, fun b a c => no b a c, fun b a c => no b a c, fun b a c => no b a c⟩, fun b a c => no b a c, fun b a c => no b a c, fun b a c => no b a c, fun b a c => no b a c, es.2.2.2.2.2.2.2.2.2.1⟩
  have hbs : hb9 Ms := fun i a b => by rw [es.1 169 (by decide) (by decide)]; exact h9 i a b
  refine r_rigL hb h4.2 31 0 Ms (fun _ _ => 0) 0 r0 D' lc' k rg (by decide) ks ms DW.zero hbs (le9 ks).1 es.2.2.2.2.2.2.2.2.2.2 (fun M' k' g' hb' m' => ?_)
  have hP := k'.PM
  obtain ⟨q1, q2, q3, q4, q5, q6, q7, q8⟩ := g'
  have low : ∀ o, o < 137 → M' o = M o := fun o a => by rw [q1 o (Or.inl a), es.1 o (by omega) (by omega)]
  have high : ∀ o, 179 < o → M' o = M o := fun o a => by rw [q1 o (by omega), es.1 o (by omega) (by omega)]
  have fld : ∀ j, (j ≠ 1 ∧ j ≠ 2 ∧ j ≠ 3 ∧ j ≠ 4 ∧ j ≠ 5 ∧ j ≠ 6 ∧ j ≠ 35 ∧ j ≠ 50 ∧ j ≠ 52 ∧ j ≠ 53 ∧ j ≠ 54 ∧ j ≠ 55) → M' 137 j = M 137 j := fun j a => by rw [q2 j (by omega), es.2.1 j (by omega)]
  have tp : M' 137 1 = 0 := by rw [q2 1 (by decide)]; exact es.2.2.2.1
  cases z' with
  | inr p =>
    have e5 := k'.2.2.1
    have e6 := k'.2.2.2
    simp only [b_Md_rig_86, e5, e6, kd_137, ln_138, ln_139, ln_140, ln_141, ln_142, ln_143, ln_144, ln_145, ln_146, ln_147, ln_148, ln_149, ln_150, ln_151, ln_152, ln_153, ln_154, ln_155, ln_156, ln_157, ln_158, ln_159, ln_160, ln_161, ln_162, ln_163, ln_164, ln_165, ln_166, ln_167, ln_168, ln_169, ln_170, ln_171, ln_172, ln_173, ln_174, ln_175, ln_176, ln_177, ln_178, ln_179, ln_180, ln_181, ln_182, ln_183, ln_184, ln_185, ln_186, ln_187, ln_188, ln_189, ln_190, ln_191, pm_0 hP, pm_9 hP, pm_10 hP, pm_11 hP, pm_12 hP, pm_13 hP, pm_14 hP, pm_15 hP, pm_16 hP, pm_17 hP, pm_18 hP, pm_19 hP, pm_20 hP, pm_21 hP, pm_22 hP, pm_23 hP, pm_24 hP, pm_25 hP, pm_26 hP, pm_27 hP, pm_28 hP, pm_29 hP, pm_30 hP, pm_31 hP, pm_32 hP, pm_33 hP, pm_34 hP, pm_36 hP, pm_37 hP, pm_38 hP, pm_39 hP, pm_40 hP, pm_41 hP, pm_42 hP, pm_43 hP, pm_44 hP, pm_45 hP, pm_46 hP, pm_47 hP, pm_48 hP, pm_49 hP, pm_51 hP, pm_64 hP, pm_66 hP, pm_69 hP, pm_72 hP, pm_73 hP, pm_74 hP, pm_75 hP, pm_76 hP, pm_77 hP, pm_78 hP, pm_79 hP, pm_83 hP, am_up_eq, Int.reduceEq, Int.reduceLT, Int.reduceLE, Int.reduceNeg, if_true, if_false, c_const, c_lconst, c_ref, c_iload, c_lload, c_aload, c_istore, c_lstore, c_astore, c_iinc, c_iadd, c_isub, c_imul, c_ladd, c_lsub, c_lmul, c_idiv, c_irem, c_ldiv, c_lrem, c_iand, c_ior, c_ixor, c_ishl, c_ishr, c_ineg, c_i2l, c_l2i, c_i2c, c_lcmp, c_dup, c_pop, c_dup2, c_at, c_icmp_eq, c_icmp_ne, c_icmp_lt, c_icmp_ge, c_icmp_gt, c_icmp_le, c_if_eq, c_if_ne, c_if_lt, c_if_ge, c_if_gt, c_if_le, c_ifnull, c_ifnonnull, am_swK, c_sw, c_iret, c_zret, c_cret, c_bret, c_lret, c_aret, c_vret, c_getI, c_getR, c_putI, c_putZ, c_putR, c_iald, c_zald, c_cald, c_lald, c_oald, c_gald, c_iast, c_zast, c_cast, c_last, c_oast, c_alen, c_callS0, c_callS1, c_callS2, c_callS3, c_callS4, c_callS5, c_callS6, c_callS7, c_callV0, c_callV1, c_callV2, c_callV3, c_callV4, c_callV5, c_callV6, c_callV7, c_callT0, c_callT1, am_nx_eq, am_set, am_set2, am_clr, am_isL, am_push, am_w, am_ent, am_ent1, List.getElem?_cons_zero, List.getElem?_cons_succ, List.set_cons_zero, List.set_cons_succ, List.getD_cons_zero, List.getD_cons_succ, List.cons_append, List.nil_append, List.append_nil, List.replicate_succ, List.replicate_zero, Nat.reduceAdd, Nat.reduceSub, Nat.reduceLeDiff, Bool.false_eq_true, reduceIte, true_and, and_true, true_or, or_true, or_self, am_i32, am_i64, bz_0, bz_01, bz_em, bz_n0, Classical.not_not, am_cmp_lt0, am_cmp_gt0, am_cmp_eq0, am_cmp_ge0, am_cmp_le0, am_cmp_ne0]
    refine ⟨fun w => absurd w k'.2.1, fun _ => ?_⟩
    generalize hMf : am_up (am_up M' 137 7 p.1) 137 8 p.2 = Mf
    have ef : (∀ o, o ≠ 137 → Mf o = M' o) ∧ (∀ j, j ≠ 7 → j ≠ 8 → Mf 137 j = M' 137 j) ∧ Mf 137 7 = p.1 ∧ Mf 137 8 = p.2 := by
      rw [← hMf]
      refine ⟨fun o a => ?_, fun j a b => ?_, ?_, ?_⟩
      all_goals simp (disch := omega) only [am_up_o, am_up_s, am_up_j]
    have hPf : am_PM Mf := am_PM_eq hP (fun j hj => ef.2.1 j (fun e => hj (by rw [e]; decide)) (fun e => hj (by rw [e]; decide))) (fun o a b => ef.1 o (by omega))
    refine h0 p rfl Mf (fun o a => by rw [ef.1 o (by omega)]; exact low o a) (fun i a b => by rw [ef.1 _ (by decide)]; exact hb' i a b) ?_
    have Rr9 := hM.G.R
    have RC := hM.G.C
    have RN := hM.N
    have eS : ∀ o, 167 < o → o < 179 → Ms o = M o := fun o a b => es.1 o (by omega) (Or.inr a)
    refine ⟨⟨hPf, ⟨?_, ?_, ?_, fun b b0 b1 => ?_, fun i i0 i1 => ?_, fun t t0 t1 => ?_⟩, hM.W, fun t t0 t1 => ?_, hM.G.V⟩, ⟨fun b b0 b1 => ?_, fun b b0 b1 => ?_, fun b b0 b1 => ?_⟩, ⟨?_, ?_, ?_, ?_, ?_, ?_, ?_, ?_⟩, fun i i0 i1 => ?_, fun i i0 i1 => ?_, fun a => ?_, fun a a0 a1 => ?_⟩
    · rw [ef.1 _ (by decide), q3 _ (by decide) (by decide), (es.2.2.1 _ (by decide) (by decide)).2]; exact Rr9.1
    · rw [ef.1 _ (by decide), q3 _ (by decide) (by decide), (es.2.2.1 _ (by decide) (by decide)).2]; exact Rr9.2.1
    · rw [ef.1 _ (by decide), q3 _ (by decide) (by decide), (es.2.2.1 _ (by decide) (by decide)).2]; exact Rr9.2.2.1
    · rw [ef.1 _ (by decide), ef.1 _ (by decide), q4 _ (by omega), q4 _ (by omega), q4 _ (by omega), q4 _ (by omega), q5 _ _ (by decide) (by omega), eS _ (by decide) (by decide), eS _ (by decide) (by decide)]
      exact Rr9.2.2.2.1 b b0 b1
    · rw [ef.1 _ (by decide), q6 _ _ (by decide) (by omega), eS _ (by decide) (by decide)]; exact Rr9.2.2.2.2.1 i i0 i1
    · rw [ef.1 _ (by decide), q7 _ (by omega), q7 _ (by omega), eS _ (by decide) (by decide)]; exact Rr9.2.2.2.2.2 t t0 t1
    · have g := RC t t0 t1
      have v := (hM.G.V t t0 t1).1
      rw [ef.1 _ (by decide), ef.1 _ (by decide), ef.1 _ (by decide), ef.1 _ (by decide), q5 _ _ (by decide) (by omega), q5 _ _ (by decide) (by omega), q5 _ _ (by decide) (by omega), eS _ (by decide) (by decide), eS _ (by decide) (by decide), eS _ (by decide) (by decide)]
      refine ⟨g.1, g.2.1, g.2.2.1, fun i i0 i1 => ?_⟩
      rw [q8 _ (by omega), eS _ (by decide) (by decide)]; exact g.2.2.2 i i0 i1
    · rw [ef.1 _ (by decide), q5 _ _ (by decide) (by omega), eS _ (by decide) (by decide)]; exact RN.1 b b0 b1
    · rw [ef.1 _ (by decide), q6 _ _ (by decide) (by omega), eS _ (by decide) (by decide)]; exact RN.2.1 b b0 b1
    · rw [ef.1 _ (by decide), q5 _ _ (by decide) (by omega), eS _ (by decide) (by decide)]; exact RN.2.2 b b0 b1
    · exact ef.2.2.1
    · exact ef.2.2.2
    · rw [ef.2.1 _ (by decide) (by decide), fld _ (by decide)]; exact f2
    · rw [ef.2.1 _ (by decide) (by decide), fld _ (by decide)]; exact f3
    · rw [ef.2.1 _ (by decide) (by decide)]; exact tp
    · rw [ef.2.1 _ (by decide) (by decide), fld _ (by decide)]; exact f5
    · rw [ef.2.1 _ (by decide) (by decide), fld _ (by decide)]; exact f6
    · rw [ef.2.1 _ (by decide) (by decide), fld _ (by decide)]; exact f7
    · have : i < 0 := i1; omega
    · rw [ef.1 _ (by decide), high _ (by decide)]; exact hM.O9 i i0 i1
    · have := hM.L a
      unfold ActR at *
      simp only [ef.1 _ (show (183 : Int) ≠ 137 by decide), ef.1 _ (show (184 : Int) ≠ 137 by decide), ef.1 _ (show (185 : Int) ≠ 137 by decide), ef.1 _ (show (186 : Int) ≠ 137 by decide), ef.1 _ (show (187 : Int) ≠ 137 by decide), ef.1 _ (show (188 : Int) ≠ 137 by decide), ef.1 _ (show (189 : Int) ≠ 137 by decide), ef.1 _ (show (190 : Int) ≠ 137 by decide), high 183 (by decide), high 184 (by decide), high 185 (by decide), high 186 (by decide), high 187 (by decide), high 188 (by decide), high 189 (by decide), high 190 (by decide)]
      exact this
    · have := hM.B9 a a0 a1
      unfold ActR at *
      simp only [ef.1 _ (show (183 : Int) ≠ 137 by decide), ef.1 _ (show (184 : Int) ≠ 137 by decide), ef.1 _ (show (185 : Int) ≠ 137 by decide), ef.1 _ (show (186 : Int) ≠ 137 by decide), ef.1 _ (show (187 : Int) ≠ 137 by decide), ef.1 _ (show (188 : Int) ≠ 137 by decide), ef.1 _ (show (189 : Int) ≠ 137 by decide), ef.1 _ (show (190 : Int) ≠ 137 by decide), high 183 (by decide), high 184 (by decide), high 185 (by decide), high 186 (by decide), high 187 (by decide), high 188 (by decide), high 189 (by decide), high 190 (by decide)]
      exact this
  | inl r' =>
    obtain ⟨lc2, mq, e54, dw, l900⟩ := m' r' rfl
    have e5 := k'.2.2.1
    have e6 := k'.2.2.2
    simp only [b_Md_rig_86, b_Md_rig_111, e5, e6, kd_137, ln_138, ln_139, ln_140, ln_141, ln_142, ln_143, ln_144, ln_145, ln_146, ln_147, ln_148, ln_149, ln_150, ln_151, ln_152, ln_153, ln_154, ln_155, ln_156, ln_157, ln_158, ln_159, ln_160, ln_161, ln_162, ln_163, ln_164, ln_165, ln_166, ln_167, ln_168, ln_169, ln_170, ln_171, ln_172, ln_173, ln_174, ln_175, ln_176, ln_177, ln_178, ln_179, ln_180, ln_181, ln_182, ln_183, ln_184, ln_185, ln_186, ln_187, ln_188, ln_189, ln_190, ln_191, pm_0 hP, pm_9 hP, pm_10 hP, pm_11 hP, pm_12 hP, pm_13 hP, pm_14 hP, pm_15 hP, pm_16 hP, pm_17 hP, pm_18 hP, pm_19 hP, pm_20 hP, pm_21 hP, pm_22 hP, pm_23 hP, pm_24 hP, pm_25 hP, pm_26 hP, pm_27 hP, pm_28 hP, pm_29 hP, pm_30 hP, pm_31 hP, pm_32 hP, pm_33 hP, pm_34 hP, pm_36 hP, pm_37 hP, pm_38 hP, pm_39 hP, pm_40 hP, pm_41 hP, pm_42 hP, pm_43 hP, pm_44 hP, pm_45 hP, pm_46 hP, pm_47 hP, pm_48 hP, pm_49 hP, pm_51 hP, pm_64 hP, pm_66 hP, pm_69 hP, pm_72 hP, pm_73 hP, pm_74 hP, pm_75 hP, pm_76 hP, pm_77 hP, pm_78 hP, pm_79 hP, pm_83 hP, am_up_eq, Int.reduceEq, Int.reduceLT, Int.reduceLE, Int.reduceNeg, if_true, if_false, c_const, c_lconst, c_ref, c_iload, c_lload, c_aload, c_istore, c_lstore, c_astore, c_iinc, c_iadd, c_isub, c_imul, c_ladd, c_lsub, c_lmul, c_idiv, c_irem, c_ldiv, c_lrem, c_iand, c_ior, c_ixor, c_ishl, c_ishr, c_ineg, c_i2l, c_l2i, c_i2c, c_lcmp, c_dup, c_pop, c_dup2, c_at, c_icmp_eq, c_icmp_ne, c_icmp_lt, c_icmp_ge, c_icmp_gt, c_icmp_le, c_if_eq, c_if_ne, c_if_lt, c_if_ge, c_if_gt, c_if_le, c_ifnull, c_ifnonnull, am_swK, c_sw, c_iret, c_zret, c_cret, c_bret, c_lret, c_aret, c_vret, c_getI, c_getR, c_putI, c_putZ, c_putR, c_iald, c_zald, c_cald, c_lald, c_oald, c_gald, c_iast, c_zast, c_cast, c_last, c_oast, c_alen, c_callS0, c_callS1, c_callS2, c_callS3, c_callS4, c_callS5, c_callS6, c_callS7, c_callV0, c_callV1, c_callV2, c_callV3, c_callV4, c_callV5, c_callV6, c_callV7, c_callT0, c_callT1, am_nx_eq, am_set, am_set2, am_clr, am_isL, am_push, am_w, am_ent, am_ent1, List.getElem?_cons_zero, List.getElem?_cons_succ, List.set_cons_zero, List.set_cons_succ, List.getD_cons_zero, List.getD_cons_succ, List.cons_append, List.nil_append, List.append_nil, List.replicate_succ, List.replicate_zero, Nat.reduceAdd, Nat.reduceSub, Nat.reduceLeDiff, Bool.false_eq_true, reduceIte, true_and, and_true, true_or, or_true, or_self, am_i32, am_i64, bz_0, bz_01, bz_em, bz_n0, Classical.not_not, am_cmp_lt0, am_cmp_gt0, am_cmp_eq0, am_cmp_ge0, am_cmp_le0, am_cmp_ne0]
    try simp only [Int.reduceEq, Int.reduceLT, Int.reduceLE, Int.reduceNeg, not_true_eq_false, not_false_eq_true, false_implies, true_implies, implies_true, true_and, and_true]
    generalize hMf : am_up (am_up M' 137 7 0) 137 8 (-1) = Mf
    have ef : (∀ o, o ≠ 137 → Mf o = M' o) ∧ (∀ j, j ≠ 7 → j ≠ 8 → Mf 137 j = M' 137 j) ∧ Mf 137 7 = 0 ∧ Mf 137 8 = -1 := by
      rw [← hMf]
      refine ⟨fun o a => ?_, fun j a b => ?_, ?_, ?_⟩
      all_goals simp (disch := omega) only [am_up_o, am_up_s, am_up_j]
    have hPf : am_PM Mf := am_PM_eq hP (fun j hj => ef.2.1 j (fun e => hj (by rw [e]; decide)) (fun e => hj (by rw [e]; decide))) (fun o a b => ef.1 o (by omega))
    have hbf : hb9 Mf := fun i a b => by rw [ef.1 _ (by decide)]; exact hb' i a b
    obtain ⟨n1, n2, n3, n4, n5, n6⟩ := mq
    refine r_stands hPf hbf (by rw [ef.2.1 50 (by decide) (by decide)]; exact n6) ⟨dw.2.2.2.2.2.2.1, l900⟩ (fun M2 s2 c2 e2 => ?_)
    have hP := s2.PM hPf
    have e54' : M2 137 54 = k := by rw [s2.1 137 (by decide), ef.2.1 54 (by decide) (by decide)]; exact e54
    simp only [e54', kd_137, ln_138, ln_139, ln_140, ln_141, ln_142, ln_143, ln_144, ln_145, ln_146, ln_147, ln_148, ln_149, ln_150, ln_151, ln_152, ln_153, ln_154, ln_155, ln_156, ln_157, ln_158, ln_159, ln_160, ln_161, ln_162, ln_163, ln_164, ln_165, ln_166, ln_167, ln_168, ln_169, ln_170, ln_171, ln_172, ln_173, ln_174, ln_175, ln_176, ln_177, ln_178, ln_179, ln_180, ln_181, ln_182, ln_183, ln_184, ln_185, ln_186, ln_187, ln_188, ln_189, ln_190, ln_191, pm_0 hP, pm_9 hP, pm_10 hP, pm_11 hP, pm_12 hP, pm_13 hP, pm_14 hP, pm_15 hP, pm_16 hP, pm_17 hP, pm_18 hP, pm_19 hP, pm_20 hP, pm_21 hP, pm_22 hP, pm_23 hP, pm_24 hP, pm_25 hP, pm_26 hP, pm_27 hP, pm_28 hP, pm_29 hP, pm_30 hP, pm_31 hP, pm_32 hP, pm_33 hP, pm_34 hP, pm_36 hP, pm_37 hP, pm_38 hP, pm_39 hP, pm_40 hP, pm_41 hP, pm_42 hP, pm_43 hP, pm_44 hP, pm_45 hP, pm_46 hP, pm_47 hP, pm_48 hP, pm_49 hP, pm_51 hP, pm_64 hP, pm_66 hP, pm_69 hP, pm_72 hP, pm_73 hP, pm_74 hP, pm_75 hP, pm_76 hP, pm_77 hP, pm_78 hP, pm_79 hP, pm_83 hP, am_up_eq, Int.reduceEq, Int.reduceLT, Int.reduceLE, Int.reduceNeg, if_true, if_false, c_const, c_lconst, c_ref, c_iload, c_lload, c_aload, c_istore, c_lstore, c_astore, c_iinc, c_iadd, c_isub, c_imul, c_ladd, c_lsub, c_lmul, c_idiv, c_irem, c_ldiv, c_lrem, c_iand, c_ior, c_ixor, c_ishl, c_ishr, c_ineg, c_i2l, c_l2i, c_i2c, c_lcmp, c_dup, c_pop, c_dup2, c_at, c_icmp_eq, c_icmp_ne, c_icmp_lt, c_icmp_ge, c_icmp_gt, c_icmp_le, c_if_eq, c_if_ne, c_if_lt, c_if_ge, c_if_gt, c_if_le, c_ifnull, c_ifnonnull, am_swK, c_sw, c_iret, c_zret, c_cret, c_bret, c_lret, c_aret, c_vret, c_getI, c_getR, c_putI, c_putZ, c_putR, c_iald, c_zald, c_cald, c_lald, c_oald, c_gald, c_iast, c_zast, c_cast, c_last, c_oast, c_alen, c_callS0, c_callS1, c_callS2, c_callS3, c_callS4, c_callS5, c_callS6, c_callS7, c_callV0, c_callV1, c_callV2, c_callV3, c_callV4, c_callV5, c_callV6, c_callV7, c_callT0, c_callT1, am_nx_eq, am_set, am_set2, am_clr, am_isL, am_push, am_w, am_ent, am_ent1, List.getElem?_cons_zero, List.getElem?_cons_succ, List.set_cons_zero, List.set_cons_succ, List.getD_cons_zero, List.getD_cons_succ, List.cons_append, List.nil_append, List.append_nil, List.replicate_succ, List.replicate_zero, Nat.reduceAdd, Nat.reduceSub, Nat.reduceLeDiff, Bool.false_eq_true, reduceIte, true_and, and_true, true_or, or_true, or_self, am_i32, am_i64, bz_0, bz_01, bz_em, bz_n0, Classical.not_not, am_cmp_lt0, am_cmp_gt0, am_cmp_eq0, am_cmp_ge0, am_cmp_le0, am_cmp_ne0]
    generalize hMg : am_up (am_up M2 137 70 0) 137 71 0 = Mg
    have eg : (∀ o, o ≠ 137 → Mg o = M2 o) ∧ (∀ j, j ≠ 70 → j ≠ 71 → Mg 137 j = M2 137 j) ∧ Mg 137 70 = 0 ∧ Mg 137 71 = 0 := by
      rw [← hMg]
      refine ⟨fun o a => ?_, fun j a b => ?_, ?_, ?_⟩
      all_goals simp (disch := omega) only [am_up_o, am_up_s, am_up_j]
    have hPg : am_PM Mg := am_PM_eq hP (fun j hj => eg.2.1 j (fun e => hj (by rw [e]; decide)) (fun e => hj (by rw [e]; decide))) (fun o a b => eg.1 o (by omega))
    have f2o : ∀ j, j ≠ 7 → j ≠ 8 → j ≠ 70 → j ≠ 71 → Mg 137 j = M' 137 j := fun j a b c e => by rw [eg.2.1 j c e, s2.1 137 (by decide), ef.2.1 j a b]
    refine h1 r' rfl Mg (fun o a => by rw [eg.1 o (by omega), s2.1 o (by omega), ef.1 o (by omega)]; exact low o a) (fun i a b => by rw [eg.1 _ (by decide), s2.2.2.2.1 _ i (Or.inl rfl) b]; exact hbf i a b) ?_
    have c0 := dw.1.1
    have c1 := dw.1.2.1
    have c2' := dw.1.2.2.1
    have ee : ∀ o, o ≠ 137 → Mg o = M2 o := eg.1
    have tb : ∀ i, 0 ≤ i → i < 32 → M2 168 (32 + i) = M' 168 i := fun i a b => by rw [e2.1 i a b, s2.2.2.1 i b, ef.1 _ (by decide)]
    have t8 : ∀ o i, (o = 169 ∨ o = 172 ∨ o = 173 ∨ o = 174 ∨ o = 175 ∨ o = 177) → i < 8 → M2 o i = M' o i := fun o i h b => by rw [s2.2.2.2.1 o i h b, ef.1 o (by omega)]
    have t4 : ∀ o i, (o = 170 ∨ o = 176) → i < 4 → M2 o i = M' o i := fun o i h b => by rw [s2.2.2.2.2.1 o i h b, ef.1 o (by omega)]
    have t16 : ∀ i, i < 16 → M2 171 i = M' 171 i := fun i b => by rw [s2.2.2.2.2.2.1 i b, ef.1 _ (by decide)]
    have t1k : ∀ i, i < 1000 → M2 178 i = M' 178 i := fun i b => by rw [s2.2.2.2.2.2.2 i b, ef.1 _ (by decide)]
    refine ⟨⟨hPg, ⟨?_, ?_, ?_, fun b b0 b1 => ?_, fun i i0 i1 => ?_, fun t t0 t1 => ?_⟩, dw.1, fun t t0 t1 => ?_, dw.2.2.1⟩, ⟨fun b b0 b1 => ?_, fun b b0 b1 => ?_, fun b b0 b1 => ?_⟩, ⟨?_, ?_, ?_, ?_, ?_, ?_, ?_, ?_⟩, fun i i0 i1 => ?_, fun i i0 i1 => ?_, fun a => ?_, fun a a0 a1 => ?_⟩
    · rw [ee _ (by decide), c2 _ (by decide) (by decide), ef.1 _ (by decide)]; exact n1.1.1
    · rw [ee _ (by decide), c2 _ (by decide) (by decide), ef.1 _ (by decide)]; exact n1.1.2.1
    · rw [ee _ (by decide), c2 _ (by decide) (by decide), ef.1 _ (by decide)]; exact n1.1.2.2
    · have g := n2 b b0 b1
      have a0 := tb (4 * b) (by omega) (by omega)
      have a1 := tb (4 * b + 1) (by omega) (by omega)
      have a2 := tb (4 * b + 2) (by omega) (by omega)
      have a3 := tb (4 * b + 3) (by omega) (by omega)
      have a4 := (e2.2.1 b b0 (by omega)).2.1.trans (t8 169 b (by decide) (by omega))
      rw [ee _ (by decide), ee _ (by decide), show 32 + 4 * b + 0 = 32 + 4 * b by omega, show 32 + 4 * b + 1 = 32 + (4 * b + 1) by omega, show 32 + 4 * b + 2 = 32 + (4 * b + 2) by omega, show 32 + 4 * b + 3 = 32 + (4 * b + 3) by omega, a0, a1, a2, a3, a4]
      exact ⟨g.1, g.2.1, g.2.2.1, g.2.2.2.1, g.2.2.2.2, (dw.2.2.2.2.1 b b0 b1).1⟩
    · have a0 := (e2.2.2.1 i i0 (by omega)).2.trans (t4 170 i (by decide) (by omega))
      rw [ee _ (by decide), a0]; exact n3 i i0 i1
    · have g := n4 t t0 t1
      have a := e2.2.1 t t0 (by omega)
      have a0 := a.2.2.2.1.trans (t16 (2 * t) (by omega))
      have a1 := a.2.2.2.2.1.trans (t16 (2 * t + 1) (by omega))
      rw [ee _ (by decide), a0, a1]; exact ⟨g.1, g.2.1⟩
    · have g := n4 t t0 t1
      have v := (dw.2.2.1 t t0 t1).1
      have v11 := dw.2.2.2.2.2.1 t t0 t1
      have a := e2.2.1 t t0 (by omega)
      have a0 := a.2.2.2.2.2.1.trans (t8 172 t (by decide) (by omega))
      have a1 := a.2.2.2.2.2.2.1.trans (t8 173 t (by decide) (by omega))
      have a2 := a.2.2.2.2.2.2.2.trans (t8 174 t (by decide) (by omega))
      rw [ee _ (by decide), ee _ (by decide), ee _ (by decide), ee _ (by decide), a0, a1, a2]
      refine ⟨g.2.2.1, g.2.2.2.1, g.2.2.2.2, fun i i0 i1 => ?_⟩
      have b0 := (e2.2.2.2 i (by omega) (by omega)).trans (t1k i (by omega))
      rw [b0]; exact n5 i (by omega) (by omega)
    · have a0 := (e2.2.1 b b0 (by omega)).1.trans (t8 175 b (by decide) (by omega))
      rw [ee _ (by decide), a0]; exact n1.2.1 b b0 b1
    · have a0 := (e2.2.2.1 b b0 (by omega)).1.trans (t4 176 b (by decide) (by omega))
      rw [ee _ (by decide), a0]; exact n1.2.2.1 b b0 b1
    · have a0 := (e2.2.1 b b0 (by omega)).2.2.1.trans (t8 177 b (by decide) (by omega))
      rw [ee _ (by decide), a0]; exact n1.2.2.2 b b0 b1
    · rw [eg.2.1 7 (by decide) (by decide), s2.1 137 (by decide)]; exact ef.2.2.1
    · rw [eg.2.1 8 (by decide) (by decide), s2.1 137 (by decide)]; exact ef.2.2.2
    · exact eg.2.2.1
    · exact eg.2.2.2
    · rw [f2o _ (by decide) (by decide) (by decide) (by decide)]; exact tp
    · rw [f2o _ (by decide) (by decide) (by decide) (by decide), fld _ (by decide)]; exact f5
    · rw [f2o _ (by decide) (by decide) (by decide) (by decide), fld _ (by decide)]; exact f6
    · rw [f2o _ (by decide) (by decide) (by decide) (by decide), fld _ (by decide)]; exact f7
    · have : i < 0 := i1; omega
    · rw [ee _ (by decide), s2.1 _ (by decide), ef.1 _ (by decide), high _ (by decide)]; exact hM.O9 i i0 i1
    · have : (0 : Int) = 1 := a; omega
    · have : a < 0 := a1; omega
end
