/-! the model: codes worked out -/
def clp (x : Int) : Int := if 1000000 < x then 1000000 else if x < -1000000 then -1000000 else x
/-- what joins two numbers, by the model's own codes -/
def jn (u x y : Int) : Int := if u = 1 then clp (x + y) else if u = 2 then clp (x - y) else if u = 3 then clp (x * y) else if u = 4 then (if y = 0 then 0 else x.fdiv y) else if u = 5 then (if x < y then x else y) else if u = 6 then (if y < x then x else y) else if u = 11 then bz (x < y) else if u = 12 then bz (y < x) else if u = 13 then bz (x = y) else if u = 14 then x * y else bz (0 < x + y)
theorem r_clip {d : Nat} {st : am_S} {v : Int} {Q : AV → am_S → Prop} (h : Q (vL (clp v)) st) : am_Call (d + 1) m_Md_clip 0 0 [vL v] st Q := by
  unfold clp at h
  refine am_go B_Md_clip_0 rfl (Nat.le_of_ble_eq_true rfl) ?_
  simp only [b_Md_clip_0, b_Md_clip_14, b_Md_clip_28, b_Md_clip_29, c_const, c_lconst, c_ref, c_iload, c_lload, c_aload, c_istore, c_lstore, c_astore, c_iinc, c_iadd, c_isub, c_imul, c_ladd, c_lsub, c_lmul, c_idiv, c_irem, c_ldiv, c_lrem, c_iand, c_ior, c_ixor, c_ishl, c_ishr, c_ineg, c_i2l, c_l2i, c_i2c, c_lcmp, c_dup, c_pop, c_dup2, c_at, c_icmp_eq, c_icmp_ne, c_icmp_lt, c_icmp_ge, c_icmp_gt, c_icmp_le, c_if_eq, c_if_ne, c_if_lt, c_if_ge, c_if_gt, c_if_le, c_ifnull, c_ifnonnull, am_swK, c_sw, c_iret, c_zret, c_cret, c_bret, c_lret, c_aret, c_vret, c_getI, c_getR, c_putI, c_putZ, c_putR, c_iald, c_zald, c_cald, c_lald, c_oald, c_gald, c_iast, c_zast, c_cast, c_last, c_oast, c_alen, c_callS0, c_callS1, c_callS2, c_callS3, c_callS4, c_callS5, c_callS6, c_callS7, c_callV0, c_callV1, c_callV2, c_callV3, c_callV4, c_callV5, c_callV6, c_callV7, c_callT0, c_callT1, am_nx_eq, am_set, am_set2, am_clr, am_isL, am_push, am_w, am_ent, am_ent1, List.getElem?_cons_zero, List.getElem?_cons_succ, List.set_cons_zero, List.set_cons_succ, List.getD_cons_zero, List.getD_cons_succ, List.cons_append, List.nil_append, List.append_nil, List.replicate_succ, List.replicate_zero, Nat.reduceAdd, Nat.reduceSub, Nat.reduceLeDiff, Bool.false_eq_true, reduceIte, true_and, and_true, true_or, or_true, or_self, am_i32, am_i64, bz_0, bz_01, bz_em, bz_n0, Classical.not_not, am_cmp_lt0, am_cmp_gt0, am_cmp_eq0, am_cmp_ge0, am_cmp_le0, am_cmp_ne0]
  refine ⟨fun z => ⟨fun z2 => ?_, fun z2 => ?_⟩, fun z => ?_⟩
  · rwa [if_neg (by omega), if_neg (by omega)] at h
  · rwa [if_neg (by omega), if_pos (by omega)] at h
  · rwa [if_pos (by omega)] at h
theorem am_fd {x y : Int} (hy : y ≠ 0) : x.fdiv y = if ¬ x.tmod y = 0 ∧ ¬ (x < 0 ↔ y < 0) then x.tdiv y - 1 else x.tdiv y := by
  have hd : x.tmod y = 0 ↔ y ∣ x := ⟨Int.dvd_of_tmod_eq_zero, Int.tmod_eq_zero_of_dvd⟩
  rw [Int.fdiv_eq_ediv, Int.tdiv_eq_ediv]
  simp only [hd]
  by_cases h : y ∣ x
  · simp [h]
  · rcases Int.lt_or_lt_of_ne hy with z | z
    · have s : y.sign = -1 := Int.sign_eq_neg_one_of_neg z
      by_cases x0 : 0 ≤ x
      · simp [h, s, x0, show ¬ 0 ≤ y by omega, show ¬ x < 0 by omega, z]
      · simp [h, s, x0, show ¬ 0 ≤ y by omega, show x < 0 by omega, z]; omega
    · have s : y.sign = 1 := Int.sign_eq_one_of_pos z
      by_cases x0 : 0 ≤ x
      · simp [h, s, x0, show 0 ≤ y by omega, show ¬ x < 0 by omega, show ¬ y < 0 by omega]
      · simp [h, s, x0, show 0 ≤ y by omega, show x < 0 by omega, show ¬ y < 0 by omega]
theorem am_td_in {x y B : Int} (hB : 0 ≤ B) (h1 : -B ≤ x) (h2 : x ≤ B) : -B ≤ x.tdiv y ∧ x.tdiv y ≤ B := by
  have h := Int.natAbs_tdiv x y
  have h3 : x.natAbs.div y.natAbs ≤ x.natAbs := Nat.div_le_self _ _
  omega
theorem r_floor {d : Nat} {st : am_S} {x y : Int} {Q : AV → am_S → Prop} (hx : -1000000 ≤ x) (hx2 : x ≤ 1000000) (h : Q (vL (if y = 0 then 0 else x.fdiv y)) st) : am_Call (d + 1) m_Md_floor 0 0 [vL x, vL y] st Q := by
  have hq := am_td_in (y := y) (by omega) hx hx2
  refine am_go B_Md_floor_0 rfl (Nat.le_of_ble_eq_true rfl) ?_
  simp only [b_Md_floor_0, b_Md_floor_8, b_Md_floor_31, b_Md_floor_32, b_Md_floor_42, b_Md_floor_43, b_Md_floor_53, b_Md_floor_55, c_const, c_lconst, c_ref, c_iload, c_lload, c_aload, c_istore, c_lstore, c_astore, c_iinc, c_iadd, c_isub, c_imul, c_ladd, c_lsub, c_lmul, c_idiv, c_irem, c_ldiv, c_lrem, c_iand, c_ior, c_ixor, c_ishl, c_ishr, c_ineg, c_i2l, c_l2i, c_i2c, c_lcmp, c_dup, c_pop, c_dup2, c_at, c_icmp_eq, c_icmp_ne, c_icmp_lt, c_icmp_ge, c_icmp_gt, c_icmp_le, c_if_eq, c_if_ne, c_if_lt, c_if_ge, c_if_gt, c_if_le, c_ifnull, c_ifnonnull, am_swK, c_sw, c_iret, c_zret, c_cret, c_bret, c_lret, c_aret, c_vret, c_getI, c_getR, c_putI, c_putZ, c_putR, c_iald, c_zald, c_cald, c_lald, c_oald, c_gald, c_iast, c_zast, c_cast, c_last, c_oast, c_alen, c_callS0, c_callS1, c_callS2, c_callS3, c_callS4, c_callS5, c_callS6, c_callS7, c_callV0, c_callV1, c_callV2, c_callV3, c_callV4, c_callV5, c_callV6, c_callV7, c_callT0, c_callT1, am_nx_eq, am_set, am_set2, am_clr, am_isL, am_push, am_w, am_ent, am_ent1, List.getElem?_cons_zero, List.getElem?_cons_succ, List.set_cons_zero, List.set_cons_succ, List.getD_cons_zero, List.getD_cons_succ, List.cons_append, List.nil_append, List.append_nil, List.replicate_succ, List.replicate_zero, Nat.reduceAdd, Nat.reduceSub, Nat.reduceLeDiff, Bool.false_eq_true, reduceIte, true_and, and_true, true_or, or_true, or_self, am_i32, am_i64, bz_0, bz_01, bz_em, bz_n0, Classical.not_not, am_cmp_lt0, am_cmp_gt0, am_cmp_eq0, am_cmp_ge0, am_cmp_le0, am_cmp_ne0]
  refine ⟨fun z => ⟨z, by omega, z, fun z2 => ?_, fun z2 => ⟨fun z3 => ⟨fun z4 => ⟨fun z5 => ?_, fun z5 => ⟨by omega, ?_⟩⟩, fun z4 => ⟨fun z5 => ?_, fun z5 => ⟨by omega, ?_⟩⟩⟩, fun z3 => ⟨fun z4 => ⟨fun z5 => ?_, fun z5 => ⟨by omega, ?_⟩⟩, fun z4 => ⟨fun z5 => ?_, fun z5 => ⟨by omega, ?_⟩⟩⟩⟩⟩, fun z => ?_⟩
  all_goals (by_cases hy : y = 0)
  all_goals first
    | (exfalso; omega)
    | (rw [if_pos hy] at h; exact h)
    | (rw [if_neg hy, am_fd hy] at h; split at h <;> first | exact h | (exfalso; grind))
theorem r_puts {d : Nat} {M : Int → Int → Int} (hP : am_PM M) {v : Int} {Q : AV → am_S → Prop} (hn : 0 ≤ M 137 65) (hn2 : M 137 65 < 1000) (h : Q none (am_SH, am_up (am_up M 180 (M 137 65) v) 137 65 (M 137 65 + 1))) : am_Call (d + 1) m_Md_puts 0 0 [vR 137, vL v] (am_SH, M) Q := by
  refine am_go B_Md_puts_0 rfl (Nat.le_of_ble_eq_true rfl) ?_
  simp only [b_Md_puts_0, kd_137, ln_138, ln_139, ln_140, ln_141, ln_142, ln_143, ln_144, ln_145, ln_146, ln_147, ln_148, ln_149, ln_150, ln_151, ln_152, ln_153, ln_154, ln_155, ln_156, ln_157, ln_158, ln_159, ln_160, ln_161, ln_162, ln_163, ln_164, ln_165, ln_166, ln_167, ln_168, ln_169, ln_170, ln_171, ln_172, ln_173, ln_174, ln_175, ln_176, ln_177, ln_178, ln_179, ln_180, ln_181, ln_182, ln_183, ln_184, ln_185, ln_186, ln_187, ln_188, ln_189, ln_190, ln_191, pm_0 hP, pm_9 hP, pm_10 hP, pm_11 hP, pm_12 hP, pm_13 hP, pm_14 hP, pm_15 hP, pm_16 hP, pm_17 hP, pm_18 hP, pm_19 hP, pm_20 hP, pm_21 hP, pm_22 hP, pm_23 hP, pm_24 hP, pm_25 hP, pm_26 hP, pm_27 hP, pm_28 hP, pm_29 hP, pm_30 hP, pm_31 hP, pm_32 hP, pm_33 hP, pm_34 hP, pm_36 hP, pm_37 hP, pm_38 hP, pm_39 hP, pm_40 hP, pm_41 hP, pm_42 hP, pm_43 hP, pm_44 hP, pm_45 hP, pm_46 hP, pm_47 hP, pm_48 hP, pm_49 hP, pm_51 hP, pm_64 hP, pm_66 hP, pm_69 hP, pm_72 hP, pm_73 hP, pm_74 hP, pm_75 hP, pm_76 hP, pm_77 hP, pm_78 hP, pm_79 hP, pm_83 hP, am_up_eq, Int.reduceEq, Int.reduceLT, Int.reduceLE, Int.reduceNeg, if_true, if_false, c_const, c_lconst, c_ref, c_iload, c_lload, c_aload, c_istore, c_lstore, c_astore, c_iinc, c_iadd, c_isub, c_imul, c_ladd, c_lsub, c_lmul, c_idiv, c_irem, c_ldiv, c_lrem, c_iand, c_ior, c_ixor, c_ishl, c_ishr, c_ineg, c_i2l, c_l2i, c_i2c, c_lcmp, c_dup, c_pop, c_dup2, c_at, c_icmp_eq, c_icmp_ne, c_icmp_lt, c_icmp_ge, c_icmp_gt, c_icmp_le, c_if_eq, c_if_ne, c_if_lt, c_if_ge, c_if_gt, c_if_le, c_ifnull, c_ifnonnull, am_swK, c_sw, c_iret, c_zret, c_cret, c_bret, c_lret, c_aret, c_vret, c_getI, c_getR, c_putI, c_putZ, c_putR, c_iald, c_zald, c_cald, c_lald, c_oald, c_gald, c_iast, c_zast, c_cast, c_last, c_oast, c_alen, c_callS0, c_callS1, c_callS2, c_callS3, c_callS4, c_callS5, c_callS6, c_callS7, c_callV0, c_callV1, c_callV2, c_callV3, c_callV4, c_callV5, c_callV6, c_callV7, c_callT0, c_callT1, am_nx_eq, am_set, am_set2, am_clr, am_isL, am_push, am_w, am_ent, am_ent1, List.getElem?_cons_zero, List.getElem?_cons_succ, List.set_cons_zero, List.set_cons_succ, List.getD_cons_zero, List.getD_cons_succ, List.cons_append, List.nil_append, List.append_nil, List.replicate_succ, List.replicate_zero, Nat.reduceAdd, Nat.reduceSub, Nat.reduceLeDiff, Bool.false_eq_true, reduceIte, true_and, and_true, true_or, or_true, or_self, am_i32, am_i64, bz_0, bz_01, bz_em, bz_n0, Classical.not_not, am_cmp_lt0, am_cmp_gt0, am_cmp_eq0, am_cmp_ge0, am_cmp_le0, am_cmp_ne0]
  exact ⟨by omega, by omega, by omega, h⟩
theorem jn_or {u x y : Int} (h : u < 1 ∨ 14 < u ∨ (7 ≤ u ∧ u ≤ 10)) : jn u x y = bz (0 < x + y) := by
  unfold jn
  rw [if_neg (by omega), if_neg (by omega), if_neg (by omega), if_neg (by omega), if_neg (by omega), if_neg (by omega), if_neg (by omega), if_neg (by omega), if_neg (by omega), if_neg (by omega)]
theorem r_joins {d : Nat} {M : Int → Int → Int} (hP : am_PM M) {u n x y : Int} {Q : AV → am_S → Prop} (hn : 2 ≤ n) (hn2 : n ≤ 1000) (en : M 137 65 = n) (ex : M 180 (n - 2) = x) (ey : M 180 (n - 1) = y) (hx : -1000000 ≤ x ∧ x ≤ 1000000) (hy : -1000000 ≤ y ∧ y ≤ 1000000) (h : Q none (am_SH, am_up (am_up (am_up M 137 65 (n - 2)) 180 (n - 2) (jn u x y)) 137 65 (n - 1))) : am_Call (d + 2) m_Md_joins 0 0 [vR 137, vI u] (am_SH, M) Q := by
  have hm : -1000000000000 ≤ x * y ∧ x * y ≤ 1000000000000 := by
    rcases Int.le_total 0 x with a | a <;> rcases Int.le_total 0 y with b | b
    · have := Int.mul_le_mul hx.2 hy.2 b (by omega); have := Int.mul_nonneg a b; omega
    · have := Int.mul_le_mul hx.2 (show -y ≤ 1000000 by omega) (by omega) (by omega); rw [Int.mul_neg] at this; have := Int.mul_nonpos_of_nonneg_of_nonpos a b; omega
    · have := Int.mul_le_mul (show -x ≤ 1000000 by omega) hy.2 b (by omega); rw [Int.neg_mul] at this; have := Int.mul_nonpos_of_nonpos_of_nonneg a b; omega
    · have := Int.mul_le_mul (show -x ≤ 1000000 by omega) (show -y ≤ 1000000 by omega) (by omega) (by omega); rw [Int.neg_mul_neg] at this; have := Int.mul_nonneg_of_nonpos_of_nonpos a b; omega
  have hP2 : am_PM (am_up M 137 65 (n - 2)) := am_PM_upf hP (by decide)
  have e9 : am_up M 137 65 (n - 2) 137 65 = n - 2 := am_up_s _ _ _ _
  have fin : ∀ v, v = jn u x y → am_Call (d + 1) m_Md_puts 0 0 [vR 137, vL v] (am_SH, am_up M 137 65 (n - 2)) (am_nx (c_vret Q) 0 0 [vR 137, vI u, vL y, none, vL x, none] []) := by
    intro v hv
    refine r_puts hP2 (by rw [e9]; omega) (by rw [e9]; omega) ?_
    rw [e9]
    simp only [kd_137, ln_138, ln_139, ln_140, ln_141, ln_142, ln_143, ln_144, ln_145, ln_146, ln_147, ln_148, ln_149, ln_150, ln_151, ln_152, ln_153, ln_154, ln_155, ln_156, ln_157, ln_158, ln_159, ln_160, ln_161, ln_162, ln_163, ln_164, ln_165, ln_166, ln_167, ln_168, ln_169, ln_170, ln_171, ln_172, ln_173, ln_174, ln_175, ln_176, ln_177, ln_178, ln_179, ln_180, ln_181, ln_182, ln_183, ln_184, ln_185, ln_186, ln_187, ln_188, ln_189, ln_190, ln_191, pm_0 hP, pm_9 hP, pm_10 hP, pm_11 hP, pm_12 hP, pm_13 hP, pm_14 hP, pm_15 hP, pm_16 hP, pm_17 hP, pm_18 hP, pm_19 hP, pm_20 hP, pm_21 hP, pm_22 hP, pm_23 hP, pm_24 hP, pm_25 hP, pm_26 hP, pm_27 hP, pm_28 hP, pm_29 hP, pm_30 hP, pm_31 hP, pm_32 hP, pm_33 hP, pm_34 hP, pm_36 hP, pm_37 hP, pm_38 hP, pm_39 hP, pm_40 hP, pm_41 hP, pm_42 hP, pm_43 hP, pm_44 hP, pm_45 hP, pm_46 hP, pm_47 hP, pm_48 hP, pm_49 hP, pm_51 hP, pm_64 hP, pm_66 hP, pm_69 hP, pm_72 hP, pm_73 hP, pm_74 hP, pm_75 hP, pm_76 hP, pm_77 hP, pm_78 hP, pm_79 hP, pm_83 hP, am_up_eq, Int.reduceEq, Int.reduceLT, Int.reduceLE, Int.reduceNeg, if_true, if_false, c_const, c_lconst, c_ref, c_iload, c_lload, c_aload, c_istore, c_lstore, c_astore, c_iinc, c_iadd, c_isub, c_imul, c_ladd, c_lsub, c_lmul, c_idiv, c_irem, c_ldiv, c_lrem, c_iand, c_ior, c_ixor, c_ishl, c_ishr, c_ineg, c_i2l, c_l2i, c_i2c, c_lcmp, c_dup, c_pop, c_dup2, c_at, c_icmp_eq, c_icmp_ne, c_icmp_lt, c_icmp_ge, c_icmp_gt, c_icmp_le, c_if_eq, c_if_ne, c_if_lt, c_if_ge, c_if_gt, c_if_le, c_ifnull, c_ifnonnull, am_swK, c_sw, c_iret, c_zret, c_cret, c_bret, c_lret, c_aret, c_vret, c_getI, c_getR, c_putI, c_putZ, c_putR, c_iald, c_zald, c_cald, c_lald, c_oald, c_gald, c_iast, c_zast, c_cast, c_last, c_oast, c_alen, c_callS0, c_callS1, c_callS2, c_callS3, c_callS4, c_callS5, c_callS6, c_callS7, c_callV0, c_callV1, c_callV2, c_callV3, c_callV4, c_callV5, c_callV6, c_callV7, c_callT0, c_callT1, am_nx_eq, am_set, am_set2, am_clr, am_isL, am_push, am_w, am_ent, am_ent1, List.getElem?_cons_zero, List.getElem?_cons_succ, List.set_cons_zero, List.set_cons_succ, List.getD_cons_zero, List.getD_cons_succ, List.cons_append, List.nil_append, List.append_nil, List.replicate_succ, List.replicate_zero, Nat.reduceAdd, Nat.reduceSub, Nat.reduceLeDiff, Bool.false_eq_true, reduceIte, true_and, and_true, true_or, or_true, or_self, am_i32, am_i64, bz_0, bz_01, bz_em, bz_n0, Classical.not_not, am_cmp_lt0, am_cmp_gt0, am_cmp_eq0, am_cmp_ge0, am_cmp_le0, am_cmp_ne0]
    rw [show n - 2 + 1 = n - 1 by omega, hv]
    exact h
  refine am_go B_Md_joins_0 rfl (Nat.le_of_ble_eq_true rfl) ?_
  simp only [b_Md_joins_0, en, ex, ey, b_Md_joins_108, b_Md_joins_122, b_Md_joins_136, b_Md_joins_150, b_Md_joins_163, b_Md_joins_176, b_Md_joins_177, b_Md_joins_183, b_Md_joins_196, b_Md_joins_197, b_Md_joins_203, b_Md_joins_215, b_Md_joins_216, b_Md_joins_222, b_Md_joins_234, b_Md_joins_235, b_Md_joins_241, b_Md_joins_253, b_Md_joins_254, b_Md_joins_260, b_Md_joins_271, b_Md_joins_285, b_Md_joins_286, b_Md_joins_289, kd_137, ln_138, ln_139, ln_140, ln_141, ln_142, ln_143, ln_144, ln_145, ln_146, ln_147, ln_148, ln_149, ln_150, ln_151, ln_152, ln_153, ln_154, ln_155, ln_156, ln_157, ln_158, ln_159, ln_160, ln_161, ln_162, ln_163, ln_164, ln_165, ln_166, ln_167, ln_168, ln_169, ln_170, ln_171, ln_172, ln_173, ln_174, ln_175, ln_176, ln_177, ln_178, ln_179, ln_180, ln_181, ln_182, ln_183, ln_184, ln_185, ln_186, ln_187, ln_188, ln_189, ln_190, ln_191, pm_0 hP, pm_9 hP, pm_10 hP, pm_11 hP, pm_12 hP, pm_13 hP, pm_14 hP, pm_15 hP, pm_16 hP, pm_17 hP, pm_18 hP, pm_19 hP, pm_20 hP, pm_21 hP, pm_22 hP, pm_23 hP, pm_24 hP, pm_25 hP, pm_26 hP, pm_27 hP, pm_28 hP, pm_29 hP, pm_30 hP, pm_31 hP, pm_32 hP, pm_33 hP, pm_34 hP, pm_36 hP, pm_37 hP, pm_38 hP, pm_39 hP, pm_40 hP, pm_41 hP, pm_42 hP, pm_43 hP, pm_44 hP, pm_45 hP, pm_46 hP, pm_47 hP, pm_48 hP, pm_49 hP, pm_51 hP, pm_64 hP, pm_66 hP, pm_69 hP, pm_72 hP, pm_73 hP, pm_74 hP, pm_75 hP, pm_76 hP, pm_77 hP, pm_78 hP, pm_79 hP, pm_83 hP, am_up_eq, Int.reduceEq, Int.reduceLT, Int.reduceLE, Int.reduceNeg, if_true, if_false, c_const, c_lconst, c_ref, c_iload, c_lload, c_aload, c_istore, c_lstore, c_astore, c_iinc, c_iadd, c_isub, c_imul, c_ladd, c_lsub, c_lmul, c_idiv, c_irem, c_ldiv, c_lrem, c_iand, c_ior, c_ixor, c_ishl, c_ishr, c_ineg, c_i2l, c_l2i, c_i2c, c_lcmp, c_dup, c_pop, c_dup2, c_at, c_icmp_eq, c_icmp_ne, c_icmp_lt, c_icmp_ge, c_icmp_gt, c_icmp_le, c_if_eq, c_if_ne, c_if_lt, c_if_ge, c_if_gt, c_if_le, c_ifnull, c_ifnonnull, am_swK, c_sw, c_iret, c_zret, c_cret, c_bret, c_lret, c_aret, c_vret, c_getI, c_getR, c_putI, c_putZ, c_putR, c_iald, c_zald, c_cald, c_lald, c_oald, c_gald, c_iast, c_zast, c_cast, c_last, c_oast, c_alen, c_callS0, c_callS1, c_callS2, c_callS3, c_callS4, c_callS5, c_callS6, c_callS7, c_callV0, c_callV1, c_callV2, c_callV3, c_callV4, c_callV5, c_callV6, c_callV7, c_callT0, c_callT1, am_nx_eq, am_set, am_set2, am_clr, am_isL, am_push, am_w, am_ent, am_ent1, List.getElem?_cons_zero, List.getElem?_cons_succ, List.set_cons_zero, List.set_cons_succ, List.getD_cons_zero, List.getD_cons_succ, List.cons_append, List.nil_append, List.append_nil, List.replicate_succ, List.replicate_zero, Nat.reduceAdd, Nat.reduceSub, Nat.reduceLeDiff, Bool.false_eq_true, reduceIte, true_and, and_true, true_or, or_true, or_self, am_i32, am_i64, bz_0, bz_01, bz_em, bz_n0, Classical.not_not, am_cmp_lt0, am_cmp_gt0, am_cmp_eq0, am_cmp_ge0, am_cmp_le0, am_cmp_ne0]
  repeat' (first | with_reducible refine And.intro ?_ ?_ | with_reducible intro _)
  all_goals first
    | omega
    | (refine fin _ ?_; rw [jn_or (by omega)]; first | exact (bz_f (by omega)).symm | exact (bz_t (by omega)).symm)
    | (refine fin _ ?_; simp only [jn, bz]; grind)
    | (refine r_clip ?_; simp only [kd_137, ln_138, ln_139, ln_140, ln_141, ln_142, ln_143, ln_144, ln_145, ln_146, ln_147, ln_148, ln_149, ln_150, ln_151, ln_152, ln_153, ln_154, ln_155, ln_156, ln_157, ln_158, ln_159, ln_160, ln_161, ln_162, ln_163, ln_164, ln_165, ln_166, ln_167, ln_168, ln_169, ln_170, ln_171, ln_172, ln_173, ln_174, ln_175, ln_176, ln_177, ln_178, ln_179, ln_180, ln_181, ln_182, ln_183, ln_184, ln_185, ln_186, ln_187, ln_188, ln_189, ln_190, ln_191, pm_0 hP, pm_9 hP, pm_10 hP, pm_11 hP, pm_12 hP, pm_13 hP, pm_14 hP, pm_15 hP, pm_16 hP, pm_17 hP, pm_18 hP, pm_19 hP, pm_20 hP, pm_21 hP, pm_22 hP, pm_23 hP, pm_24 hP, pm_25 hP, pm_26 hP, pm_27 hP, pm_28 hP, pm_29 hP, pm_30 hP, pm_31 hP, pm_32 hP, pm_33 hP, pm_34 hP, pm_36 hP, pm_37 hP, pm_38 hP, pm_39 hP, pm_40 hP, pm_41 hP, pm_42 hP, pm_43 hP, pm_44 hP, pm_45 hP, pm_46 hP, pm_47 hP, pm_48 hP, pm_49 hP, pm_51 hP, pm_64 hP, pm_66 hP, pm_69 hP, pm_72 hP, pm_73 hP, pm_74 hP, pm_75 hP, pm_76 hP, pm_77 hP, pm_78 hP, pm_79 hP, pm_83 hP, am_up_eq, Int.reduceEq, Int.reduceLT, Int.reduceLE, Int.reduceNeg, if_true, if_false, c_const, c_lconst, c_ref, c_iload, c_lload, c_aload, c_istore, c_lstore, c_astore, c_iinc, c_iadd, c_isub, c_imul, c_ladd, c_lsub, c_lmul, c_idiv, c_irem, c_ldiv, c_lrem, c_iand, c_ior, c_ixor, c_ishl, c_ishr, c_ineg, c_i2l, c_l2i, c_i2c, c_lcmp, c_dup, c_pop, c_dup2, c_at, c_icmp_eq, c_icmp_ne, c_icmp_lt, c_icmp_ge, c_icmp_gt, c_icmp_le, c_if_eq, c_if_ne, c_if_lt, c_if_ge, c_if_gt, c_if_le, c_ifnull, c_ifnonnull, am_swK, c_sw, c_iret, c_zret, c_cret, c_bret, c_lret, c_aret, c_vret, c_getI, c_getR, c_putI, c_putZ, c_putR, c_iald, c_zald, c_cald, c_lald, c_oald, c_gald, c_iast, c_zast, c_cast, c_last, c_oast, c_alen, c_callS0, c_callS1, c_callS2, c_callS3, c_callS4, c_callS5, c_callS6, c_callS7, c_callV0, c_callV1, c_callV2, c_callV3, c_callV4, c_callV5, c_callV6, c_callV7, c_callT0, c_callT1, am_nx_eq, am_set, am_set2, am_clr, am_isL, am_push, am_w, am_ent, am_ent1, List.getElem?_cons_zero, List.getElem?_cons_succ, List.set_cons_zero, List.set_cons_succ, List.getD_cons_zero, List.getD_cons_succ, List.cons_append, List.nil_append, List.append_nil, List.replicate_succ, List.replicate_zero, Nat.reduceAdd, Nat.reduceSub, Nat.reduceLeDiff, Bool.false_eq_true, reduceIte, true_and, and_true, true_or, or_true, or_self, am_i32, am_i64, bz_0, bz_01, bz_em, bz_n0, Classical.not_not, am_cmp_lt0, am_cmp_gt0, am_cmp_eq0, am_cmp_ge0, am_cmp_le0, am_cmp_ne0]; refine fin _ ?_; simp only [jn]; grind)
    | (refine r_floor hx.1 hx.2 ?_; simp only [kd_137, ln_138, ln_139, ln_140, ln_141, ln_142, ln_143, ln_144, ln_145, ln_146, ln_147, ln_148, ln_149, ln_150, ln_151, ln_152, ln_153, ln_154, ln_155, ln_156, ln_157, ln_158, ln_159, ln_160, ln_161, ln_162, ln_163, ln_164, ln_165, ln_166, ln_167, ln_168, ln_169, ln_170, ln_171, ln_172, ln_173, ln_174, ln_175, ln_176, ln_177, ln_178, ln_179, ln_180, ln_181, ln_182, ln_183, ln_184, ln_185, ln_186, ln_187, ln_188, ln_189, ln_190, ln_191, pm_0 hP, pm_9 hP, pm_10 hP, pm_11 hP, pm_12 hP, pm_13 hP, pm_14 hP, pm_15 hP, pm_16 hP, pm_17 hP, pm_18 hP, pm_19 hP, pm_20 hP, pm_21 hP, pm_22 hP, pm_23 hP, pm_24 hP, pm_25 hP, pm_26 hP, pm_27 hP, pm_28 hP, pm_29 hP, pm_30 hP, pm_31 hP, pm_32 hP, pm_33 hP, pm_34 hP, pm_36 hP, pm_37 hP, pm_38 hP, pm_39 hP, pm_40 hP, pm_41 hP, pm_42 hP, pm_43 hP, pm_44 hP, pm_45 hP, pm_46 hP, pm_47 hP, pm_48 hP, pm_49 hP, pm_51 hP, pm_64 hP, pm_66 hP, pm_69 hP, pm_72 hP, pm_73 hP, pm_74 hP, pm_75 hP, pm_76 hP, pm_77 hP, pm_78 hP, pm_79 hP, pm_83 hP, am_up_eq, Int.reduceEq, Int.reduceLT, Int.reduceLE, Int.reduceNeg, if_true, if_false, c_const, c_lconst, c_ref, c_iload, c_lload, c_aload, c_istore, c_lstore, c_astore, c_iinc, c_iadd, c_isub, c_imul, c_ladd, c_lsub, c_lmul, c_idiv, c_irem, c_ldiv, c_lrem, c_iand, c_ior, c_ixor, c_ishl, c_ishr, c_ineg, c_i2l, c_l2i, c_i2c, c_lcmp, c_dup, c_pop, c_dup2, c_at, c_icmp_eq, c_icmp_ne, c_icmp_lt, c_icmp_ge, c_icmp_gt, c_icmp_le, c_if_eq, c_if_ne, c_if_lt, c_if_ge, c_if_gt, c_if_le, c_ifnull, c_ifnonnull, am_swK, c_sw, c_iret, c_zret, c_cret, c_bret, c_lret, c_aret, c_vret, c_getI, c_getR, c_putI, c_putZ, c_putR, c_iald, c_zald, c_cald, c_lald, c_oald, c_gald, c_iast, c_zast, c_cast, c_last, c_oast, c_alen, c_callS0, c_callS1, c_callS2, c_callS3, c_callS4, c_callS5, c_callS6, c_callS7, c_callV0, c_callV1, c_callV2, c_callV3, c_callV4, c_callV5, c_callV6, c_callV7, c_callT0, c_callT1, am_nx_eq, am_set, am_set2, am_clr, am_isL, am_push, am_w, am_ent, am_ent1, List.getElem?_cons_zero, List.getElem?_cons_succ, List.set_cons_zero, List.set_cons_succ, List.getD_cons_zero, List.getD_cons_succ, List.cons_append, List.nil_append, List.append_nil, List.replicate_succ, List.replicate_zero, Nat.reduceAdd, Nat.reduceSub, Nat.reduceLeDiff, Bool.false_eq_true, reduceIte, true_and, and_true, true_or, or_true, or_self, am_i32, am_i64, bz_0, bz_01, bz_em, bz_n0, Classical.not_not, am_cmp_lt0, am_cmp_gt0, am_cmp_eq0, am_cmp_ge0, am_cmp_le0, am_cmp_ne0]; refine fin _ ?_; simp only [jn]; grind)
/-- the tokens of a sum or a test: 0 and more a number, -1 .. -8 what is asked of the flight, -9 .. -20 what joins -/
def xj (k x y : Int) : Int := if k = -9 then clp (x + y) else if k = -10 then clp (x - y) else if k = -11 then clp (x * y) else if k = -12 then (if y = 0 then 0 else x.fdiv y) else if k = -13 then (if x < y then x else y) else if k = -14 then (if y < x then x else y) else if k = -15 then bz (x < y) else if k = -16 then bz (y < x) else if k = -17 then bz (x = y) else if k = -19 then x * y else bz (0 < x + y)
def xs1 (E : Int → Int) (k : Int) (s : List Int) : List Int := if 0 ≤ k then k :: s else if -8 ≤ k then E (-k) :: s else if k = -18 then (match s with | x :: r => (1 - x) :: r | [] => []) else (match s with | y :: x :: r => xj k x y :: r | _ => [])
def xrun (E c : Int → Int) (a : Int) : Nat → List Int
  | 0 => []
  | n + 1 => xs1 E (c (a + n)) (xrun E c a n)
/-- what the tokens from a up to b come to -/
def xval (E c : Int → Int) (a b : Int) : Int := (xrun E c a (b - a).toNat).headD 0
/-- one token more, by the kinds of what lies on the stack (true: a truth) -/
def xty (k : Int) (t t' : List Bool) : Prop := (0 ≤ k ∧ k ≤ 9999 ∧ (t' = false :: t ∨ (k = 1 ∧ t' = true :: t))) ∨ (-8 ≤ k ∧ k ≤ -1 ∧ t' = false :: t) ∨ (k = -18 ∧ ∃ r, t = true :: r ∧ t' = true :: r) ∨ (-14 ≤ k ∧ k ≤ -9 ∧ ∃ r, t = false :: false :: r ∧ t' = false :: r) ∨ (-17 ≤ k ∧ k ≤ -15 ∧ ∃ r, t = false :: false :: r ∧ t' = true :: r) ∨ ((k = -19 ∨ k = -20) ∧ ∃ r, t = true :: true :: r ∧ t' = true :: r)
def xcode (c : Int → Int) (a b : Int) (top : Bool) : Prop := ∃ T : Int → List Bool, T a = [] ∧ T b = [top] ∧ ∀ i, a ≤ i → i < b → (T i).length ≤ 60 ∧ xty (c i) (T i) (T (i + 1))
def xok : List Bool → List Int → Prop
  | [], [] => True
  | t :: ts, x :: s => (-1000000 ≤ x ∧ x ≤ 1000000) ∧ (t = true → x = 0 ∨ x = 1) ∧ xok ts s
  | _, _ => False
theorem xok_len : ∀ {ts : List Bool} {s : List Int}, xok ts s → ts.length = s.length
  | [], [], _ => rfl
  | _ :: _, _ :: _, h => by simp [xok_len h.2.2]
  | [], _ :: _, h => h.elim
  | _ :: _, [], h => h.elim
theorem clp_in (x : Int) : -1000000 ≤ clp x ∧ clp x ≤ 1000000 := by unfold clp; split <;> (try split) <;> omega
theorem bz_in (p : Prop) [Decidable p] : 0 ≤ bz p ∧ bz p ≤ 1 := by unfold bz; split <;> omega
theorem fd_in {x y : Int} (hy : y ≠ 0) (h1 : -1000000 ≤ x) (h2 : x ≤ 1000000) : -1000000 ≤ x.fdiv y ∧ x.fdiv y ≤ 1000000 := by
  rcases Int.lt_or_lt_of_ne hy with z | z
  · rw [show x.fdiv y = (-x).fdiv (-y) from (Int.neg_fdiv_neg x y).symm, Int.fdiv_eq_ediv_of_nonneg _ (by omega)]
    exact ⟨Int.le_ediv_of_mul_le (by omega) (by have := Int.mul_le_mul_of_nonneg_left (show 1 ≤ -y by omega) (show (0:Int) ≤ 1000000 by omega); omega), Int.ediv_le_of_le_mul (by omega) (by have := Int.mul_le_mul_of_nonneg_left (show 1 ≤ -y by omega) (show (0:Int) ≤ 1000000 by omega); omega)⟩
  · rw [Int.fdiv_eq_ediv_of_nonneg _ (by omega)]
    exact ⟨Int.le_ediv_of_mul_le (by omega) (by have := Int.mul_le_mul_of_nonneg_left (show 1 ≤ y by omega) (show (0:Int) ≤ 1000000 by omega); omega), Int.ediv_le_of_le_mul (by omega) (by have := Int.mul_le_mul_of_nonneg_left (show 1 ≤ y by omega) (show (0:Int) ≤ 1000000 by omega); omega)⟩
/-- a step keeps the kinds -/
theorem xs1_ok {E : Int → Int} (hE : ∀ k, 1 ≤ k → k ≤ 8 → -1000000 ≤ E k ∧ E k ≤ 1000000) {k : Int} {t t' : List Bool} {s : List Int} (h : xok t s) (hk : xty k t t') : xok t' (xs1 E k s) := by
  rcases hk with ⟨h1, h2, h3⟩ | ⟨h1, h2, rfl⟩ | ⟨rfl, r, rfl, rfl⟩ | ⟨h1, h2, r, rfl, rfl⟩ | ⟨h1, h2, r, rfl, rfl⟩ | ⟨h1, r, rfl, rfl⟩
  · unfold xs1
    rw [if_pos h1]
    rcases h3 with rfl | ⟨rfl, rfl⟩
    · exact ⟨by omega, (fun z => by cases z), h⟩
    · exact ⟨by omega, fun _ => Or.inr rfl, h⟩
  · unfold xs1
    rw [if_neg (by omega), if_pos h1]
    exact ⟨hE _ (by omega) (by omega), (fun z => by cases z), h⟩
  · match s, h with
    | x :: s, h =>
      rw [xs1, if_neg (by omega), if_neg (by omega), if_pos rfl]
      have := h.2.1 rfl
      exact ⟨by omega, fun _ => by omega, h.2.2⟩
  · match s, h with
    | y :: x :: s, h =>
      obtain ⟨hy, -, hx, -, hs⟩ := h
      rw [xs1, if_neg (by omega), if_neg (by omega), if_neg (by omega)]
      refine ⟨?_, (fun z => by cases z), hs⟩
      show -1000000 ≤ xj k x y ∧ xj k x y ≤ 1000000
      have c1 := clp_in (x + y)
      have c2 := clp_in (x - y)
      have c3 := clp_in (x * y)
      have c4 : ∀ hy : y ≠ 0, -1000000 ≤ x.fdiv y ∧ x.fdiv y ≤ 1000000 := fun hy => fd_in hy hx.1 hx.2
      unfold xj
      rcases (show k = -9 ∨ k = -10 ∨ k = -11 ∨ k = -12 ∨ k = -13 ∨ k = -14 by omega) with rfl | rfl | rfl | rfl | rfl | rfl
      · simpa using c1
      · simpa using c2
      · simpa using c3
      · by_cases hy0 : y = 0
        · simp [hy0]
        · simpa [hy0] using c4 hy0
      · simp only [Int.reduceNeg, Int.reduceEq, if_true, if_false]; split <;> omega
      · simp only [Int.reduceNeg, Int.reduceEq, if_true, if_false]; split <;> omega
  · match s, h with
    | y :: x :: s, h =>
      obtain ⟨hy, -, hx, -, hs⟩ := h
      rw [xs1, if_neg (by omega), if_neg (by omega), if_neg (by omega)]
      have b1 := bz_in (x < y)
      have b2 := bz_in (y < x)
      have b3 := bz_in (x = y)
      have : 0 ≤ xj k x y ∧ xj k x y ≤ 1 := by
        unfold xj
        rcases (show k = -15 ∨ k = -16 ∨ k = -17 by omega) with rfl | rfl | rfl
        · simpa using b1
        · simpa using b2
        · simpa using b3
      exact ⟨by omega, fun _ => by omega, hs⟩
  · match s, h with
    | y :: x :: s, h =>
      obtain ⟨hy, hy2, hx, hx2, hs⟩ := h
      have hy2 := hy2 rfl
      have hx2 := hx2 rfl
      rw [xs1, if_neg (by omega), if_neg (by omega), if_neg (by omega)]
      have b1 := bz_in (0 < x + y)
      have : 0 ≤ xj k x y ∧ xj k x y ≤ 1 := by
        unfold xj
        rcases h1 with rfl | rfl
        · simp only [Int.reduceNeg, Int.reduceEq, if_true, if_false]
          rcases hx2 with rfl | rfl <;> rcases hy2 with rfl | rfl <;> decide
        · simpa using b1
      exact ⟨by omega, fun _ => by omega, hs⟩
theorem xrun_ok {E c : Int → Int} (hE : ∀ k, 1 ≤ k → k ≤ 8 → -1000000 ≤ E k ∧ E k ≤ 1000000) {a b : Int} {T : Int → List Bool} (h0 : T a = []) (hT : ∀ i, a ≤ i → i < b → (T i).length ≤ 60 ∧ xty (c i) (T i) (T (i + 1))) : ∀ n : Nat, a + n ≤ b → xok (T (a + n)) (xrun E c a n)
  | 0, _ => by rw [show a + ((0 : Nat) : Int) = a by omega, h0]; trivial
  | n + 1, h => by
    have := xs1_ok hE (xrun_ok hE h0 hT n (by omega)) (hT (a + n) (by omega) (by omega)).2
    rw [show a + ((n + 1 : Nat) : Int) = a + n + 1 by omega]
    exact this
