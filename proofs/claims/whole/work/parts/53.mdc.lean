/-! the model: bill's sums, slack, change -/
def bsum (B : Int → Int → Int → Int) : Nat → Int
  | 0 => 0
  | n + 1 => bsum B n + wsum (B n) (B n 0 4).toNat
def bend (B : Int → Int → Int → Int) : Nat → Int
  | 0 => 0
  | n + 1 => if bend B n < B n 0 5 + B n 0 0 then B n 0 5 + B n 0 0 else bend B n
def cvr (B : Int → Int → Int → Int) (t : Int) : Nat → Int
  | 0 => 0
  | n + 1 => cvr B t n + bz (B n 0 2 ≤ t - B n 0 0 ∧ t - B n 0 0 ≤ B n 0 5)
theorem cvr_in (B : Int → Int → Int → Int) (t : Int) : ∀ n : Nat, 0 ≤ cvr B t n ∧ cvr B t n ≤ n
  | 0 => by unfold cvr; omega
  | n + 1 => by
    have h1 := cvr_in B t n
    have h2 := bz_in (B n 0 2 ≤ t - B n 0 0 ∧ t - B n 0 0 ≤ B n 0 5)
    unfold cvr
    omega
def mxR (B : Int → Int → Int → Int) (n : Nat) (v : Int) : Prop := 0 ≤ v ∧ (∀ t, 0 ≤ t → t ≤ 500 → cvr B t n ≤ v) ∧ (v = 0 ∨ ∃ t, 0 ≤ t ∧ t ≤ 500 ∧ v = cvr B t n)
def mxb (B : Int → Int → Int → Int) (n : Nat) (v k : Int) : Prop := 0 ≤ v ∧ (∀ t, 0 ≤ t → t < k → cvr B t n ≤ v) ∧ (v = 0 ∨ ∃ t, 0 ≤ t ∧ t < k ∧ v = cvr B t n)
def blR (F : Int → Int) (B : Int → Int → Int → Int) (w r : Int) : Prop := (w = 0 → r = bsum B (F 3).toNat) ∧ (w = 1 → r = bend B (F 3).toNat) ∧ (w = 2 → mxR B (F 3).toNat r) ∧ (w < 0 ∨ 2 < w → r = -1)
section
variable {M M' D : Int → Int → Int} {T F : Int → Int} {P : Int → Int → Int} {B : Int → Int → Int → Int} {O : Int → Int}
theorem bsum_in (hS : SW D T F P B O) : ∀ n : Nat, (n : Int) ≤ F 3 → 0 ≤ bsum B n ∧ bsum B n ≤ 8000 * n
  | 0, _ => by unfold bsum; omega
  | n + 1, h => by
    have h1 := bsum_in hS n (by omega)
    have h2 := (hS.2.2.2.2 n (by omega) (by omega)).1
    have h3 := wsum_in (A := B n) (B n 0 4).toNat (fun i a b => (h2.2.1 i a (by omega)).2.2)
    have h4 := h2.1.1
    unfold bsum
    omega
theorem bend_in (hS : SW D T F P B O) : ∀ n : Nat, (n : Int) ≤ F 3 → 0 ≤ bend B n ∧ bend B n ≤ 480
  | 0, _ => by unfold bend; omega
  | n + 1, h => by
    have h1 := bend_in hS n (by omega)
    have h2 := hS.2.2.2.2 n (by omega) (by omega)
    have h3 := h2.2.1
    have h4 := h2.1.1.2.1
    unfold bend
    split <;> omega
theorem r_bill_0 {d : Nat} {w : Int} {Q : AV → am_S → Prop} (hM : MI M D T F P B O) (hS : SW D T F P B O) (h : Q (vI (bsum B (F 3).toNat)) (am_SH, M)) : ∀ (m n : Nat), (n : Int) + m = F 3 → am_Wp (d + 3) m_Md_bill 0 0 30 [vR 137, vI w, vI (bsum B n), vI n] [] (am_SH, M) Q := by
  have hP := hM.P9
  have hn := hS.1.2.2.1
  intro m
  induction m with
  | zero =>
    intro n hm
    refine B_Md_bill_30 _ _ _ _ _ ?_
    simp only [b_Md_bill_112, b_Md_bill_107, b_Md_bill_105, b_Md_bill_98, b_Md_bill_97, b_Md_bill_56, b_Md_bill_54, b_Md_bill_52, b_Md_bill_30, b_Md_bill_28, b_Md_bill_0, hM.F9.2.2.2.1, kd_137, ln_138, ln_139, ln_140, ln_141, ln_142, ln_143, ln_144, ln_145, ln_146, ln_147, ln_148, ln_149, ln_150, ln_151, ln_152, ln_153, ln_154, ln_155, ln_156, ln_157, ln_158, ln_159, ln_160, ln_161, ln_162, ln_163, ln_164, ln_165, ln_166, ln_167, ln_168, ln_169, ln_170, ln_171, ln_172, ln_173, ln_174, ln_175, ln_176, ln_177, ln_178, ln_179, ln_180, ln_181, ln_182, ln_183, ln_184, ln_185, ln_186, ln_187, ln_188, ln_189, ln_190, ln_191, pm_0 hP, pm_9 hP, pm_10 hP, pm_11 hP, pm_12 hP, pm_13 hP, pm_14 hP, pm_15 hP, pm_16 hP, pm_17 hP, pm_18 hP, pm_19 hP, pm_20 hP, pm_21 hP, pm_22 hP, pm_23 hP, pm_24 hP, pm_25 hP, pm_26 hP, pm_27 hP, pm_28 hP, pm_29 hP, pm_30 hP, pm_31 hP, pm_32 hP, pm_33 hP, pm_34 hP, pm_36 hP, pm_37 hP, pm_38 hP, pm_39 hP, pm_40 hP, pm_41 hP, pm_42 hP, pm_43 hP, pm_44 hP, pm_45 hP, pm_46 hP, pm_47 hP, pm_48 hP, pm_49 hP, pm_51 hP, pm_64 hP, pm_66 hP, pm_69 hP, pm_72 hP, pm_73 hP, pm_74 hP, pm_75 hP, pm_76 hP, pm_77 hP, pm_78 hP, pm_79 hP, pm_83 hP, am_up_eq, Int.reduceEq, Int.reduceLT, Int.reduceLE, Int.reduceNeg, if_true, if_false, c_const, c_lconst, c_ref, c_iload, c_lload, c_aload, c_istore, c_lstore, c_astore, c_iinc, c_iadd, c_isub, c_imul, c_ladd, c_lsub, c_lmul, c_idiv, c_irem, c_ldiv, c_lrem, c_iand, c_ior, c_ixor, c_ishl, c_ishr, c_ineg, c_i2l, c_l2i, c_i2c, c_lcmp, c_dup, c_pop, c_dup2, c_at, c_icmp_eq, c_icmp_ne, c_icmp_lt, c_icmp_ge, c_icmp_gt, c_icmp_le, c_if_eq, c_if_ne, c_if_lt, c_if_ge, c_if_gt, c_if_le, c_ifnull, c_ifnonnull, am_swK, c_sw, c_iret, c_zret, c_cret, c_bret, c_lret, c_aret, c_vret, c_getI, c_getR, c_putI, c_putZ, c_putR, c_iald, c_zald, c_cald, c_lald, c_oald, c_gald, c_iast, c_zast, c_cast, c_last, c_oast, c_alen, c_callS0, c_callS1, c_callS2, c_callS3, c_callS4, c_callS5, c_callS6, c_callS7, c_callV0, c_callV1, c_callV2, c_callV3, c_callV4, c_callV5, c_callV6, c_callV7, c_callT0, c_callT1, am_nx_eq, am_set, am_set2, am_clr, am_isL, am_push, am_w, am_ent, am_ent1, List.getElem?_cons_zero, List.getElem?_cons_succ, List.set_cons_zero, List.set_cons_succ, List.getD_cons_zero, List.getD_cons_succ, List.cons_append, List.nil_append, List.append_nil, List.replicate_succ, List.replicate_zero, Nat.reduceAdd, Nat.reduceSub, Nat.reduceLeDiff, Bool.false_eq_true, reduceIte, true_and, and_true, true_or, or_true, or_self, am_i32, am_i64, bz_0, bz_01, bz_em, bz_n0, Classical.not_not, am_cmp_lt0, am_cmp_gt0, am_cmp_eq0, am_cmp_ge0, am_cmp_le0, am_cmp_ne0]
    refine ⟨fun _ => ?_, fun z => by omega⟩
    rwa [show (F 3).toNat = n by omega] at h
  | succ m ih =>
    intro n hm
    have b1 := bsum_in hS n (by omega)
    have b2 := bsum_in hS (n + 1) (by omega)
    unfold bsum at b2
    refine B_Md_bill_30 _ _ _ _ _ ?_
    simp only [b_Md_bill_112, b_Md_bill_107, b_Md_bill_105, b_Md_bill_98, b_Md_bill_97, b_Md_bill_56, b_Md_bill_54, b_Md_bill_52, b_Md_bill_30, b_Md_bill_28, b_Md_bill_0, hM.F9.2.2.2.1, kd_137, ln_138, ln_139, ln_140, ln_141, ln_142, ln_143, ln_144, ln_145, ln_146, ln_147, ln_148, ln_149, ln_150, ln_151, ln_152, ln_153, ln_154, ln_155, ln_156, ln_157, ln_158, ln_159, ln_160, ln_161, ln_162, ln_163, ln_164, ln_165, ln_166, ln_167, ln_168, ln_169, ln_170, ln_171, ln_172, ln_173, ln_174, ln_175, ln_176, ln_177, ln_178, ln_179, ln_180, ln_181, ln_182, ln_183, ln_184, ln_185, ln_186, ln_187, ln_188, ln_189, ln_190, ln_191, pm_0 hP, pm_9 hP, pm_10 hP, pm_11 hP, pm_12 hP, pm_13 hP, pm_14 hP, pm_15 hP, pm_16 hP, pm_17 hP, pm_18 hP, pm_19 hP, pm_20 hP, pm_21 hP, pm_22 hP, pm_23 hP, pm_24 hP, pm_25 hP, pm_26 hP, pm_27 hP, pm_28 hP, pm_29 hP, pm_30 hP, pm_31 hP, pm_32 hP, pm_33 hP, pm_34 hP, pm_36 hP, pm_37 hP, pm_38 hP, pm_39 hP, pm_40 hP, pm_41 hP, pm_42 hP, pm_43 hP, pm_44 hP, pm_45 hP, pm_46 hP, pm_47 hP, pm_48 hP, pm_49 hP, pm_51 hP, pm_64 hP, pm_66 hP, pm_69 hP, pm_72 hP, pm_73 hP, pm_74 hP, pm_75 hP, pm_76 hP, pm_77 hP, pm_78 hP, pm_79 hP, pm_83 hP, am_up_eq, Int.reduceEq, Int.reduceLT, Int.reduceLE, Int.reduceNeg, if_true, if_false, c_const, c_lconst, c_ref, c_iload, c_lload, c_aload, c_istore, c_lstore, c_astore, c_iinc, c_iadd, c_isub, c_imul, c_ladd, c_lsub, c_lmul, c_idiv, c_irem, c_ldiv, c_lrem, c_iand, c_ior, c_ixor, c_ishl, c_ishr, c_ineg, c_i2l, c_l2i, c_i2c, c_lcmp, c_dup, c_pop, c_dup2, c_at, c_icmp_eq, c_icmp_ne, c_icmp_lt, c_icmp_ge, c_icmp_gt, c_icmp_le, c_if_eq, c_if_ne, c_if_lt, c_if_ge, c_if_gt, c_if_le, c_ifnull, c_ifnonnull, am_swK, c_sw, c_iret, c_zret, c_cret, c_bret, c_lret, c_aret, c_vret, c_getI, c_getR, c_putI, c_putZ, c_putR, c_iald, c_zald, c_cald, c_lald, c_oald, c_gald, c_iast, c_zast, c_cast, c_last, c_oast, c_alen, c_callS0, c_callS1, c_callS2, c_callS3, c_callS4, c_callS5, c_callS6, c_callS7, c_callV0, c_callV1, c_callV2, c_callV3, c_callV4, c_callV5, c_callV6, c_callV7, c_callT0, c_callT1, am_nx_eq, am_set, am_set2, am_clr, am_isL, am_push, am_w, am_ent, am_ent1, List.getElem?_cons_zero, List.getElem?_cons_succ, List.set_cons_zero, List.set_cons_succ, List.getD_cons_zero, List.getD_cons_succ, List.cons_append, List.nil_append, List.append_nil, List.replicate_succ, List.replicate_zero, Nat.reduceAdd, Nat.reduceSub, Nat.reduceLeDiff, Bool.false_eq_true, reduceIte, true_and, and_true, true_or, or_true, or_self, am_i32, am_i64, bz_0, bz_01, bz_em, bz_n0, Classical.not_not, am_cmp_lt0, am_cmp_gt0, am_cmp_eq0, am_cmp_ge0, am_cmp_le0, am_cmp_ne0]
    refine ⟨fun z => by omega, fun _ => r_worthAll hP (hM.B9 n (by omega) (by omega)) (hS.2.2.2.2 n (by omega) (by omega)).1 (by omega) (by omega) ?_⟩
    simp only [b_Md_bill_112, b_Md_bill_107, b_Md_bill_105, b_Md_bill_98, b_Md_bill_97, b_Md_bill_56, b_Md_bill_54, b_Md_bill_52, b_Md_bill_30, b_Md_bill_28, b_Md_bill_0, kd_137, ln_138, ln_139, ln_140, ln_141, ln_142, ln_143, ln_144, ln_145, ln_146, ln_147, ln_148, ln_149, ln_150, ln_151, ln_152, ln_153, ln_154, ln_155, ln_156, ln_157, ln_158, ln_159, ln_160, ln_161, ln_162, ln_163, ln_164, ln_165, ln_166, ln_167, ln_168, ln_169, ln_170, ln_171, ln_172, ln_173, ln_174, ln_175, ln_176, ln_177, ln_178, ln_179, ln_180, ln_181, ln_182, ln_183, ln_184, ln_185, ln_186, ln_187, ln_188, ln_189, ln_190, ln_191, pm_0 hP, pm_9 hP, pm_10 hP, pm_11 hP, pm_12 hP, pm_13 hP, pm_14 hP, pm_15 hP, pm_16 hP, pm_17 hP, pm_18 hP, pm_19 hP, pm_20 hP, pm_21 hP, pm_22 hP, pm_23 hP, pm_24 hP, pm_25 hP, pm_26 hP, pm_27 hP, pm_28 hP, pm_29 hP, pm_30 hP, pm_31 hP, pm_32 hP, pm_33 hP, pm_34 hP, pm_36 hP, pm_37 hP, pm_38 hP, pm_39 hP, pm_40 hP, pm_41 hP, pm_42 hP, pm_43 hP, pm_44 hP, pm_45 hP, pm_46 hP, pm_47 hP, pm_48 hP, pm_49 hP, pm_51 hP, pm_64 hP, pm_66 hP, pm_69 hP, pm_72 hP, pm_73 hP, pm_74 hP, pm_75 hP, pm_76 hP, pm_77 hP, pm_78 hP, pm_79 hP, pm_83 hP, am_up_eq, Int.reduceEq, Int.reduceLT, Int.reduceLE, Int.reduceNeg, if_true, if_false, c_const, c_lconst, c_ref, c_iload, c_lload, c_aload, c_istore, c_lstore, c_astore, c_iinc, c_iadd, c_isub, c_imul, c_ladd, c_lsub, c_lmul, c_idiv, c_irem, c_ldiv, c_lrem, c_iand, c_ior, c_ixor, c_ishl, c_ishr, c_ineg, c_i2l, c_l2i, c_i2c, c_lcmp, c_dup, c_pop, c_dup2, c_at, c_icmp_eq, c_icmp_ne, c_icmp_lt, c_icmp_ge, c_icmp_gt, c_icmp_le, c_if_eq, c_if_ne, c_if_lt, c_if_ge, c_if_gt, c_if_le, c_ifnull, c_ifnonnull, am_swK, c_sw, c_iret, c_zret, c_cret, c_bret, c_lret, c_aret, c_vret, c_getI, c_getR, c_putI, c_putZ, c_putR, c_iald, c_zald, c_cald, c_lald, c_oald, c_gald, c_iast, c_zast, c_cast, c_last, c_oast, c_alen, c_callS0, c_callS1, c_callS2, c_callS3, c_callS4, c_callS5, c_callS6, c_callS7, c_callV0, c_callV1, c_callV2, c_callV3, c_callV4, c_callV5, c_callV6, c_callV7, c_callT0, c_callT1, am_nx_eq, am_set, am_set2, am_clr, am_isL, am_push, am_w, am_ent, am_ent1, List.getElem?_cons_zero, List.getElem?_cons_succ, List.set_cons_zero, List.set_cons_succ, List.getD_cons_zero, List.getD_cons_succ, List.cons_append, List.nil_append, List.append_nil, List.replicate_succ, List.replicate_zero, Nat.reduceAdd, Nat.reduceSub, Nat.reduceLeDiff, Bool.false_eq_true, reduceIte, true_and, and_true, true_or, or_true, or_self, am_i32, am_i64, bz_0, bz_01, bz_em, bz_n0, Classical.not_not, am_cmp_lt0, am_cmp_gt0, am_cmp_eq0, am_cmp_ge0, am_cmp_le0, am_cmp_ne0]
    refine ⟨by omega, by omega, ?_⟩
    have := ih (n + 1) (by omega)
    rwa [show ((n + 1 : Nat) : Int) = n + 1 by omega] at this
theorem r_bill_1 {d : Nat} {w : Int} {Q : AV → am_S → Prop} (hM : MI M D T F P B O) (hS : SW D T F P B O) (h : Q (vI (bend B (F 3).toNat)) (am_SH, M)) : ∀ (m n : Nat), (n : Int) + m = F 3 → am_Wp (d + 3) m_Md_bill 0 0 56 [vR 137, vI w, vI (bend B n), vI n] [] (am_SH, M) Q := by
  have hP := hM.P9
  have hn := hS.1.2.2.1
  intro m
  induction m with
  | zero =>
    intro n hm
    refine B_Md_bill_56 _ _ _ _ _ ?_
    simp only [b_Md_bill_112, b_Md_bill_107, b_Md_bill_105, b_Md_bill_98, b_Md_bill_97, b_Md_bill_56, b_Md_bill_54, b_Md_bill_52, b_Md_bill_30, b_Md_bill_28, b_Md_bill_0, hM.F9.2.2.2.1, kd_137, ln_138, ln_139, ln_140, ln_141, ln_142, ln_143, ln_144, ln_145, ln_146, ln_147, ln_148, ln_149, ln_150, ln_151, ln_152, ln_153, ln_154, ln_155, ln_156, ln_157, ln_158, ln_159, ln_160, ln_161, ln_162, ln_163, ln_164, ln_165, ln_166, ln_167, ln_168, ln_169, ln_170, ln_171, ln_172, ln_173, ln_174, ln_175, ln_176, ln_177, ln_178, ln_179, ln_180, ln_181, ln_182, ln_183, ln_184, ln_185, ln_186, ln_187, ln_188, ln_189, ln_190, ln_191, pm_0 hP, pm_9 hP, pm_10 hP, pm_11 hP, pm_12 hP, pm_13 hP, pm_14 hP, pm_15 hP, pm_16 hP, pm_17 hP, pm_18 hP, pm_19 hP, pm_20 hP, pm_21 hP, pm_22 hP, pm_23 hP, pm_24 hP, pm_25 hP, pm_26 hP, pm_27 hP, pm_28 hP, pm_29 hP, pm_30 hP, pm_31 hP, pm_32 hP, pm_33 hP, pm_34 hP, pm_36 hP, pm_37 hP, pm_38 hP, pm_39 hP, pm_40 hP, pm_41 hP, pm_42 hP, pm_43 hP, pm_44 hP, pm_45 hP, pm_46 hP, pm_47 hP, pm_48 hP, pm_49 hP, pm_51 hP, pm_64 hP, pm_66 hP, pm_69 hP, pm_72 hP, pm_73 hP, pm_74 hP, pm_75 hP, pm_76 hP, pm_77 hP, pm_78 hP, pm_79 hP, pm_83 hP, am_up_eq, Int.reduceEq, Int.reduceLT, Int.reduceLE, Int.reduceNeg, if_true, if_false, c_const, c_lconst, c_ref, c_iload, c_lload, c_aload, c_istore, c_lstore, c_astore, c_iinc, c_iadd, c_isub, c_imul, c_ladd, c_lsub, c_lmul, c_idiv, c_irem, c_ldiv, c_lrem, c_iand, c_ior, c_ixor, c_ishl, c_ishr, c_ineg, c_i2l, c_l2i, c_i2c, c_lcmp, c_dup, c_pop, c_dup2, c_at, c_icmp_eq, c_icmp_ne, c_icmp_lt, c_icmp_ge, c_icmp_gt, c_icmp_le, c_if_eq, c_if_ne, c_if_lt, c_if_ge, c_if_gt, c_if_le, c_ifnull, c_ifnonnull, am_swK, c_sw, c_iret, c_zret, c_cret, c_bret, c_lret, c_aret, c_vret, c_getI, c_getR, c_putI, c_putZ, c_putR, c_iald, c_zald, c_cald, c_lald, c_oald, c_gald, c_iast, c_zast, c_cast, c_last, c_oast, c_alen, c_callS0, c_callS1, c_callS2, c_callS3, c_callS4, c_callS5, c_callS6, c_callS7, c_callV0, c_callV1, c_callV2, c_callV3, c_callV4, c_callV5, c_callV6, c_callV7, c_callT0, c_callT1, am_nx_eq, am_set, am_set2, am_clr, am_isL, am_push, am_w, am_ent, am_ent1, List.getElem?_cons_zero, List.getElem?_cons_succ, List.set_cons_zero, List.set_cons_succ, List.getD_cons_zero, List.getD_cons_succ, List.cons_append, List.nil_append, List.append_nil, List.replicate_succ, List.replicate_zero, Nat.reduceAdd, Nat.reduceSub, Nat.reduceLeDiff, Bool.false_eq_true, reduceIte, true_and, and_true, true_or, or_true, or_self, am_i32, am_i64, bz_0, bz_01, bz_em, bz_n0, Classical.not_not, am_cmp_lt0, am_cmp_gt0, am_cmp_eq0, am_cmp_ge0, am_cmp_le0, am_cmp_ne0]
    refine ⟨fun _ => ?_, fun z => by omega⟩
    rwa [show (F 3).toNat = n by omega] at h
  | succ m ih =>
    intro n hm
    have b1 := bend_in hS n (by omega)
    have hw := hS.2.2.2.2 n (by omega) (by omega)
    have hc := cam_0 hM.W hw.1 hw.1.1.1.1 (Int.le_refl _)
    have h3 := hw.2.1
    have h4 := hw.1.1.2.1
    have hA := hM.B9 n (by omega) (by omega)
    have e := ih (n + 1) (by omega)
    rw [show ((n + 1 : Nat) : Int) = n + 1 by omega] at e
    unfold bend at e
    refine B_Md_bill_56 _ _ _ _ _ ?_
    simp only [b_Md_bill_112, b_Md_bill_107, b_Md_bill_105, b_Md_bill_98, b_Md_bill_97, b_Md_bill_56, b_Md_bill_54, b_Md_bill_52, b_Md_bill_30, b_Md_bill_28, b_Md_bill_0, hM.F9.2.2.2.1, hA.1, hA.2.2.2.2.2.1, kd_137, ln_138, ln_139, ln_140, ln_141, ln_142, ln_143, ln_144, ln_145, ln_146, ln_147, ln_148, ln_149, ln_150, ln_151, ln_152, ln_153, ln_154, ln_155, ln_156, ln_157, ln_158, ln_159, ln_160, ln_161, ln_162, ln_163, ln_164, ln_165, ln_166, ln_167, ln_168, ln_169, ln_170, ln_171, ln_172, ln_173, ln_174, ln_175, ln_176, ln_177, ln_178, ln_179, ln_180, ln_181, ln_182, ln_183, ln_184, ln_185, ln_186, ln_187, ln_188, ln_189, ln_190, ln_191, pm_0 hP, pm_9 hP, pm_10 hP, pm_11 hP, pm_12 hP, pm_13 hP, pm_14 hP, pm_15 hP, pm_16 hP, pm_17 hP, pm_18 hP, pm_19 hP, pm_20 hP, pm_21 hP, pm_22 hP, pm_23 hP, pm_24 hP, pm_25 hP, pm_26 hP, pm_27 hP, pm_28 hP, pm_29 hP, pm_30 hP, pm_31 hP, pm_32 hP, pm_33 hP, pm_34 hP, pm_36 hP, pm_37 hP, pm_38 hP, pm_39 hP, pm_40 hP, pm_41 hP, pm_42 hP, pm_43 hP, pm_44 hP, pm_45 hP, pm_46 hP, pm_47 hP, pm_48 hP, pm_49 hP, pm_51 hP, pm_64 hP, pm_66 hP, pm_69 hP, pm_72 hP, pm_73 hP, pm_74 hP, pm_75 hP, pm_76 hP, pm_77 hP, pm_78 hP, pm_79 hP, pm_83 hP, am_up_eq, Int.reduceEq, Int.reduceLT, Int.reduceLE, Int.reduceNeg, if_true, if_false, c_const, c_lconst, c_ref, c_iload, c_lload, c_aload, c_istore, c_lstore, c_astore, c_iinc, c_iadd, c_isub, c_imul, c_ladd, c_lsub, c_lmul, c_idiv, c_irem, c_ldiv, c_lrem, c_iand, c_ior, c_ixor, c_ishl, c_ishr, c_ineg, c_i2l, c_l2i, c_i2c, c_lcmp, c_dup, c_pop, c_dup2, c_at, c_icmp_eq, c_icmp_ne, c_icmp_lt, c_icmp_ge, c_icmp_gt, c_icmp_le, c_if_eq, c_if_ne, c_if_lt, c_if_ge, c_if_gt, c_if_le, c_ifnull, c_ifnonnull, am_swK, c_sw, c_iret, c_zret, c_cret, c_bret, c_lret, c_aret, c_vret, c_getI, c_getR, c_putI, c_putZ, c_putR, c_iald, c_zald, c_cald, c_lald, c_oald, c_gald, c_iast, c_zast, c_cast, c_last, c_oast, c_alen, c_callS0, c_callS1, c_callS2, c_callS3, c_callS4, c_callS5, c_callS6, c_callS7, c_callV0, c_callV1, c_callV2, c_callV3, c_callV4, c_callV5, c_callV6, c_callV7, c_callT0, c_callT1, am_nx_eq, am_set, am_set2, am_clr, am_isL, am_push, am_w, am_ent, am_ent1, List.getElem?_cons_zero, List.getElem?_cons_succ, List.set_cons_zero, List.set_cons_succ, List.getD_cons_zero, List.getD_cons_succ, List.cons_append, List.nil_append, List.append_nil, List.replicate_succ, List.replicate_zero, Nat.reduceAdd, Nat.reduceSub, Nat.reduceLeDiff, Bool.false_eq_true, reduceIte, true_and, and_true, true_or, or_true, or_self, am_i32, am_i64, bz_0, bz_01, bz_em, bz_n0, Classical.not_not, am_cmp_lt0, am_cmp_gt0, am_cmp_eq0, am_cmp_ge0, am_cmp_le0, am_cmp_ne0]
    refine ⟨fun z => by omega, fun _ => ⟨by omega, by omega, by omega, by omega, by omega, fun z => ⟨by omega, ?_⟩, fun z => ⟨by omega, by omega, by omega, by omega, by omega, by omega, ?_⟩⟩⟩
    · rwa [if_neg (by omega)] at e
    · rwa [if_pos (by omega)] at e
theorem r_most_a {d : Nat} {v k : Int} {Q : AV → am_S → Prop} (hM : MI M D T F P B O) (hS : SW D T F P B O) (hk : 0 ≤ k ∧ k ≤ 500) (hv : 0 ≤ v ∧ v ≤ 6) (h : ∀ y, am_Wp (d + 2) m_Md_mostAtOnce 0 0 4 [vR 137, vI (if v < cvr B k (F 3).toNat then cvr B k (F 3).toNat else v), vI (k + 1), vI (cvr B k (F 3).toNat), y] [] (am_SH, M) Q) : ∀ (m n : Nat), (n : Int) + m = F 3 → am_Wp (d + 2) m_Md_mostAtOnce 0 0 16 [vR 137, vI v, vI k, vI (cvr B k n), vI n] [] (am_SH, M) Q := by
  have hP := hM.P9
  have hn := hS.1.2.2.1
  intro m
  induction m with
  | zero =>
    intro n hm
    refine B_Md_mostAtOnce_16 _ _ _ _ _ ?_
    simp only [b_Md_mostAtOnce_83, b_Md_mostAtOnce_76, b_Md_mostAtOnce_75, b_Md_mostAtOnce_66, b_Md_mostAtOnce_60, b_Md_mostAtOnce_16, b_Md_mostAtOnce_4, b_Md_mostAtOnce_0, hM.F9.2.2.2.1, kd_137, ln_138, ln_139, ln_140, ln_141, ln_142, ln_143, ln_144, ln_145, ln_146, ln_147, ln_148, ln_149, ln_150, ln_151, ln_152, ln_153, ln_154, ln_155, ln_156, ln_157, ln_158, ln_159, ln_160, ln_161, ln_162, ln_163, ln_164, ln_165, ln_166, ln_167, ln_168, ln_169, ln_170, ln_171, ln_172, ln_173, ln_174, ln_175, ln_176, ln_177, ln_178, ln_179, ln_180, ln_181, ln_182, ln_183, ln_184, ln_185, ln_186, ln_187, ln_188, ln_189, ln_190, ln_191, pm_0 hP, pm_9 hP, pm_10 hP, pm_11 hP, pm_12 hP, pm_13 hP, pm_14 hP, pm_15 hP, pm_16 hP, pm_17 hP, pm_18 hP, pm_19 hP, pm_20 hP, pm_21 hP, pm_22 hP, pm_23 hP, pm_24 hP, pm_25 hP, pm_26 hP, pm_27 hP, pm_28 hP, pm_29 hP, pm_30 hP, pm_31 hP, pm_32 hP, pm_33 hP, pm_34 hP, pm_36 hP, pm_37 hP, pm_38 hP, pm_39 hP, pm_40 hP, pm_41 hP, pm_42 hP, pm_43 hP, pm_44 hP, pm_45 hP, pm_46 hP, pm_47 hP, pm_48 hP, pm_49 hP, pm_51 hP, pm_64 hP, pm_66 hP, pm_69 hP, pm_72 hP, pm_73 hP, pm_74 hP, pm_75 hP, pm_76 hP, pm_77 hP, pm_78 hP, pm_79 hP, pm_83 hP, am_up_eq, Int.reduceEq, Int.reduceLT, Int.reduceLE, Int.reduceNeg, if_true, if_false, c_const, c_lconst, c_ref, c_iload, c_lload, c_aload, c_istore, c_lstore, c_astore, c_iinc, c_iadd, c_isub, c_imul, c_ladd, c_lsub, c_lmul, c_idiv, c_irem, c_ldiv, c_lrem, c_iand, c_ior, c_ixor, c_ishl, c_ishr, c_ineg, c_i2l, c_l2i, c_i2c, c_lcmp, c_dup, c_pop, c_dup2, c_at, c_icmp_eq, c_icmp_ne, c_icmp_lt, c_icmp_ge, c_icmp_gt, c_icmp_le, c_if_eq, c_if_ne, c_if_lt, c_if_ge, c_if_gt, c_if_le, c_ifnull, c_ifnonnull, am_swK, c_sw, c_iret, c_zret, c_cret, c_bret, c_lret, c_aret, c_vret, c_getI, c_getR, c_putI, c_putZ, c_putR, c_iald, c_zald, c_cald, c_lald, c_oald, c_gald, c_iast, c_zast, c_cast, c_last, c_oast, c_alen, c_callS0, c_callS1, c_callS2, c_callS3, c_callS4, c_callS5, c_callS6, c_callS7, c_callV0, c_callV1, c_callV2, c_callV3, c_callV4, c_callV5, c_callV6, c_callV7, c_callT0, c_callT1, am_nx_eq, am_set, am_set2, am_clr, am_isL, am_push, am_w, am_ent, am_ent1, List.getElem?_cons_zero, List.getElem?_cons_succ, List.set_cons_zero, List.set_cons_succ, List.getD_cons_zero, List.getD_cons_succ, List.cons_append, List.nil_append, List.append_nil, List.replicate_succ, List.replicate_zero, Nat.reduceAdd, Nat.reduceSub, Nat.reduceLeDiff, Bool.false_eq_true, reduceIte, true_and, and_true, true_or, or_true, or_self, am_i32, am_i64, bz_0, bz_01, bz_em, bz_n0, Classical.not_not, am_cmp_lt0, am_cmp_gt0, am_cmp_eq0, am_cmp_ge0, am_cmp_le0, am_cmp_ne0]
    have h := h (vI n)
    rw [show (F 3).toNat = n by omega] at h
    refine ⟨fun _ => ⟨fun z => ⟨by omega, ?_⟩, fun z => ⟨by omega, ?_⟩⟩, fun z => by omega⟩
    · rwa [if_neg (by omega)] at h
    · rwa [if_pos (by omega)] at h
  | succ m ih =>
    intro n hm
    have hw := hS.2.2.2.2 n (by omega) (by omega)
    have h3 := hw.2.1
    have h4 := hw.1.1.2.1
    have hA := hM.B9 n (by omega) (by omega)
    have ci := cvr_in B k n
    have e := ih (n + 1) (by omega)
    rw [show ((n + 1 : Nat) : Int) = n + 1 by omega] at e
    unfold cvr at e
    refine B_Md_mostAtOnce_16 _ _ _ _ _ ?_
    simp only [b_Md_mostAtOnce_83, b_Md_mostAtOnce_76, b_Md_mostAtOnce_75, b_Md_mostAtOnce_66, b_Md_mostAtOnce_60, b_Md_mostAtOnce_16, b_Md_mostAtOnce_4, b_Md_mostAtOnce_0, hM.F9.2.2.2.1, hA.1, hA.2.2.1, hA.2.2.2.2.2.1, kd_137, ln_138, ln_139, ln_140, ln_141, ln_142, ln_143, ln_144, ln_145, ln_146, ln_147, ln_148, ln_149, ln_150, ln_151, ln_152, ln_153, ln_154, ln_155, ln_156, ln_157, ln_158, ln_159, ln_160, ln_161, ln_162, ln_163, ln_164, ln_165, ln_166, ln_167, ln_168, ln_169, ln_170, ln_171, ln_172, ln_173, ln_174, ln_175, ln_176, ln_177, ln_178, ln_179, ln_180, ln_181, ln_182, ln_183, ln_184, ln_185, ln_186, ln_187, ln_188, ln_189, ln_190, ln_191, pm_0 hP, pm_9 hP, pm_10 hP, pm_11 hP, pm_12 hP, pm_13 hP, pm_14 hP, pm_15 hP, pm_16 hP, pm_17 hP, pm_18 hP, pm_19 hP, pm_20 hP, pm_21 hP, pm_22 hP, pm_23 hP, pm_24 hP, pm_25 hP, pm_26 hP, pm_27 hP, pm_28 hP, pm_29 hP, pm_30 hP, pm_31 hP, pm_32 hP, pm_33 hP, pm_34 hP, pm_36 hP, pm_37 hP, pm_38 hP, pm_39 hP, pm_40 hP, pm_41 hP, pm_42 hP, pm_43 hP, pm_44 hP, pm_45 hP, pm_46 hP, pm_47 hP, pm_48 hP, pm_49 hP, pm_51 hP, pm_64 hP, pm_66 hP, pm_69 hP, pm_72 hP, pm_73 hP, pm_74 hP, pm_75 hP, pm_76 hP, pm_77 hP, pm_78 hP, pm_79 hP, pm_83 hP, am_up_eq, Int.reduceEq, Int.reduceLT, Int.reduceLE, Int.reduceNeg, if_true, if_false, c_const, c_lconst, c_ref, c_iload, c_lload, c_aload, c_istore, c_lstore, c_astore, c_iinc, c_iadd, c_isub, c_imul, c_ladd, c_lsub, c_lmul, c_idiv, c_irem, c_ldiv, c_lrem, c_iand, c_ior, c_ixor, c_ishl, c_ishr, c_ineg, c_i2l, c_l2i, c_i2c, c_lcmp, c_dup, c_pop, c_dup2, c_at, c_icmp_eq, c_icmp_ne, c_icmp_lt, c_icmp_ge, c_icmp_gt, c_icmp_le, c_if_eq, c_if_ne, c_if_lt, c_if_ge, c_if_gt, c_if_le, c_ifnull, c_ifnonnull, am_swK, c_sw, c_iret, c_zret, c_cret, c_bret, c_lret, c_aret, c_vret, c_getI, c_getR, c_putI, c_putZ, c_putR, c_iald, c_zald, c_cald, c_lald, c_oald, c_gald, c_iast, c_zast, c_cast, c_last, c_oast, c_alen, c_callS0, c_callS1, c_callS2, c_callS3, c_callS4, c_callS5, c_callS6, c_callS7, c_callV0, c_callV1, c_callV2, c_callV3, c_callV4, c_callV5, c_callV6, c_callV7, c_callT0, c_callT1, am_nx_eq, am_set, am_set2, am_clr, am_isL, am_push, am_w, am_ent, am_ent1, List.getElem?_cons_zero, List.getElem?_cons_succ, List.set_cons_zero, List.set_cons_succ, List.getD_cons_zero, List.getD_cons_succ, List.cons_append, List.nil_append, List.append_nil, List.replicate_succ, List.replicate_zero, Nat.reduceAdd, Nat.reduceSub, Nat.reduceLeDiff, Bool.false_eq_true, reduceIte, true_and, and_true, true_or, or_true, or_self, am_i32, am_i64, bz_0, bz_01, bz_em, bz_n0, Classical.not_not, am_cmp_lt0, am_cmp_gt0, am_cmp_eq0, am_cmp_ge0, am_cmp_le0, am_cmp_ne0]
    refine ⟨fun z => by omega, fun _ => ⟨by omega, by omega, by omega, by omega, by omega, by omega, by omega, r_isIn (fun r hr => ?_)⟩⟩
    subst hr
    simp only [b_Md_mostAtOnce_83, b_Md_mostAtOnce_76, b_Md_mostAtOnce_75, b_Md_mostAtOnce_66, b_Md_mostAtOnce_60, b_Md_mostAtOnce_16, b_Md_mostAtOnce_4, b_Md_mostAtOnce_0, kd_137, ln_138, ln_139, ln_140, ln_141, ln_142, ln_143, ln_144, ln_145, ln_146, ln_147, ln_148, ln_149, ln_150, ln_151, ln_152, ln_153, ln_154, ln_155, ln_156, ln_157, ln_158, ln_159, ln_160, ln_161, ln_162, ln_163, ln_164, ln_165, ln_166, ln_167, ln_168, ln_169, ln_170, ln_171, ln_172, ln_173, ln_174, ln_175, ln_176, ln_177, ln_178, ln_179, ln_180, ln_181, ln_182, ln_183, ln_184, ln_185, ln_186, ln_187, ln_188, ln_189, ln_190, ln_191, pm_0 hP, pm_9 hP, pm_10 hP, pm_11 hP, pm_12 hP, pm_13 hP, pm_14 hP, pm_15 hP, pm_16 hP, pm_17 hP, pm_18 hP, pm_19 hP, pm_20 hP, pm_21 hP, pm_22 hP, pm_23 hP, pm_24 hP, pm_25 hP, pm_26 hP, pm_27 hP, pm_28 hP, pm_29 hP, pm_30 hP, pm_31 hP, pm_32 hP, pm_33 hP, pm_34 hP, pm_36 hP, pm_37 hP, pm_38 hP, pm_39 hP, pm_40 hP, pm_41 hP, pm_42 hP, pm_43 hP, pm_44 hP, pm_45 hP, pm_46 hP, pm_47 hP, pm_48 hP, pm_49 hP, pm_51 hP, pm_64 hP, pm_66 hP, pm_69 hP, pm_72 hP, pm_73 hP, pm_74 hP, pm_75 hP, pm_76 hP, pm_77 hP, pm_78 hP, pm_79 hP, pm_83 hP, am_up_eq, Int.reduceEq, Int.reduceLT, Int.reduceLE, Int.reduceNeg, if_true, if_false, c_const, c_lconst, c_ref, c_iload, c_lload, c_aload, c_istore, c_lstore, c_astore, c_iinc, c_iadd, c_isub, c_imul, c_ladd, c_lsub, c_lmul, c_idiv, c_irem, c_ldiv, c_lrem, c_iand, c_ior, c_ixor, c_ishl, c_ishr, c_ineg, c_i2l, c_l2i, c_i2c, c_lcmp, c_dup, c_pop, c_dup2, c_at, c_icmp_eq, c_icmp_ne, c_icmp_lt, c_icmp_ge, c_icmp_gt, c_icmp_le, c_if_eq, c_if_ne, c_if_lt, c_if_ge, c_if_gt, c_if_le, c_ifnull, c_ifnonnull, am_swK, c_sw, c_iret, c_zret, c_cret, c_bret, c_lret, c_aret, c_vret, c_getI, c_getR, c_putI, c_putZ, c_putR, c_iald, c_zald, c_cald, c_lald, c_oald, c_gald, c_iast, c_zast, c_cast, c_last, c_oast, c_alen, c_callS0, c_callS1, c_callS2, c_callS3, c_callS4, c_callS5, c_callS6, c_callS7, c_callV0, c_callV1, c_callV2, c_callV3, c_callV4, c_callV5, c_callV6, c_callV7, c_callT0, c_callT1, am_nx_eq, am_set, am_set2, am_clr, am_isL, am_push, am_w, am_ent, am_ent1, List.getElem?_cons_zero, List.getElem?_cons_succ, List.set_cons_zero, List.set_cons_succ, List.getD_cons_zero, List.getD_cons_succ, List.cons_append, List.nil_append, List.append_nil, List.replicate_succ, List.replicate_zero, Nat.reduceAdd, Nat.reduceSub, Nat.reduceLeDiff, Bool.false_eq_true, reduceIte, true_and, and_true, true_or, or_true, or_self, am_i32, am_i64, bz_0, bz_01, bz_em, bz_n0, Classical.not_not, am_cmp_lt0, am_cmp_gt0, am_cmp_eq0, am_cmp_ge0, am_cmp_le0, am_cmp_ne0]
    refine ⟨fun z => ⟨by omega, ?_⟩, fun z => ⟨by omega, by omega, ?_⟩⟩
    · rw [bz_f z] at e; rwa [Int.add_zero] at e
    · rw [bz_t z] at e; exact e
theorem r_most_l {d : Nat} {Q : AV → am_S → Prop} (hM : MI M D T F P B O) (hS : SW D T F P B O) (h : ∀ v, mxR B (F 3).toNat v → Q (vI v) (am_SH, M)) : ∀ (m : Nat) (k v : Int) (x y : AV), k + m = 501 → 0 ≤ k → v ≤ 6 → mxb B (F 3).toNat v k → am_Wp (d + 2) m_Md_mostAtOnce 0 0 4 [vR 137, vI v, vI k, x, y] [] (am_SH, M) Q := by
  have hP := hM.P9
  have hn := hS.1.2.2.1
  intro m
  induction m with
  | zero =>
    intro k v x y hk hk0 hv hb
    refine B_Md_mostAtOnce_4 _ _ _ _ _ ?_
    simp only [b_Md_mostAtOnce_83, b_Md_mostAtOnce_76, b_Md_mostAtOnce_75, b_Md_mostAtOnce_66, b_Md_mostAtOnce_60, b_Md_mostAtOnce_16, b_Md_mostAtOnce_4, b_Md_mostAtOnce_0, kd_137, ln_138, ln_139, ln_140, ln_141, ln_142, ln_143, ln_144, ln_145, ln_146, ln_147, ln_148, ln_149, ln_150, ln_151, ln_152, ln_153, ln_154, ln_155, ln_156, ln_157, ln_158, ln_159, ln_160, ln_161, ln_162, ln_163, ln_164, ln_165, ln_166, ln_167, ln_168, ln_169, ln_170, ln_171, ln_172, ln_173, ln_174, ln_175, ln_176, ln_177, ln_178, ln_179, ln_180, ln_181, ln_182, ln_183, ln_184, ln_185, ln_186, ln_187, ln_188, ln_189, ln_190, ln_191, pm_0 hP, pm_9 hP, pm_10 hP, pm_11 hP, pm_12 hP, pm_13 hP, pm_14 hP, pm_15 hP, pm_16 hP, pm_17 hP, pm_18 hP, pm_19 hP, pm_20 hP, pm_21 hP, pm_22 hP, pm_23 hP, pm_24 hP, pm_25 hP, pm_26 hP, pm_27 hP, pm_28 hP, pm_29 hP, pm_30 hP, pm_31 hP, pm_32 hP, pm_33 hP, pm_34 hP, pm_36 hP, pm_37 hP, pm_38 hP, pm_39 hP, pm_40 hP, pm_41 hP, pm_42 hP, pm_43 hP, pm_44 hP, pm_45 hP, pm_46 hP, pm_47 hP, pm_48 hP, pm_49 hP, pm_51 hP, pm_64 hP, pm_66 hP, pm_69 hP, pm_72 hP, pm_73 hP, pm_74 hP, pm_75 hP, pm_76 hP, pm_77 hP, pm_78 hP, pm_79 hP, pm_83 hP, am_up_eq, Int.reduceEq, Int.reduceLT, Int.reduceLE, Int.reduceNeg, if_true, if_false, c_const, c_lconst, c_ref, c_iload, c_lload, c_aload, c_istore, c_lstore, c_astore, c_iinc, c_iadd, c_isub, c_imul, c_ladd, c_lsub, c_lmul, c_idiv, c_irem, c_ldiv, c_lrem, c_iand, c_ior, c_ixor, c_ishl, c_ishr, c_ineg, c_i2l, c_l2i, c_i2c, c_lcmp, c_dup, c_pop, c_dup2, c_at, c_icmp_eq, c_icmp_ne, c_icmp_lt, c_icmp_ge, c_icmp_gt, c_icmp_le, c_if_eq, c_if_ne, c_if_lt, c_if_ge, c_if_gt, c_if_le, c_ifnull, c_ifnonnull, am_swK, c_sw, c_iret, c_zret, c_cret, c_bret, c_lret, c_aret, c_vret, c_getI, c_getR, c_putI, c_putZ, c_putR, c_iald, c_zald, c_cald, c_lald, c_oald, c_gald, c_iast, c_zast, c_cast, c_last, c_oast, c_alen, c_callS0, c_callS1, c_callS2, c_callS3, c_callS4, c_callS5, c_callS6, c_callS7, c_callV0, c_callV1, c_callV2, c_callV3, c_callV4, c_callV5, c_callV6, c_callV7, c_callT0, c_callT1, am_nx_eq, am_set, am_set2, am_clr, am_isL, am_push, am_w, am_ent, am_ent1, List.getElem?_cons_zero, List.getElem?_cons_succ, List.set_cons_zero, List.set_cons_succ, List.getD_cons_zero, List.getD_cons_succ, List.cons_append, List.nil_append, List.append_nil, List.replicate_succ, List.replicate_zero, Nat.reduceAdd, Nat.reduceSub, Nat.reduceLeDiff, Bool.false_eq_true, reduceIte, true_and, and_true, true_or, or_true, or_self, am_i32, am_i64, bz_0, bz_01, bz_em, bz_n0, Classical.not_not, am_cmp_lt0, am_cmp_gt0, am_cmp_eq0, am_cmp_ge0, am_cmp_le0, am_cmp_ne0]
    refine ⟨fun _ => h v ⟨hb.1, fun t t1 t2 => hb.2.1 t t1 (by omega), ?_⟩, fun z => absurd (by omega) z⟩
    rcases hb.2.2 with w | ⟨t, t1, t2, t3⟩
    · exact Or.inl w
    · exact Or.inr ⟨t, t1, by omega, t3⟩
  | succ m ih =>
    intro k v x y hk hk0 hv hb
    refine B_Md_mostAtOnce_4 _ _ _ _ _ ?_
    simp only [b_Md_mostAtOnce_83, b_Md_mostAtOnce_76, b_Md_mostAtOnce_75, b_Md_mostAtOnce_66, b_Md_mostAtOnce_60, b_Md_mostAtOnce_16, b_Md_mostAtOnce_4, b_Md_mostAtOnce_0, kd_137, ln_138, ln_139, ln_140, ln_141, ln_142, ln_143, ln_144, ln_145, ln_146, ln_147, ln_148, ln_149, ln_150, ln_151, ln_152, ln_153, ln_154, ln_155, ln_156, ln_157, ln_158, ln_159, ln_160, ln_161, ln_162, ln_163, ln_164, ln_165, ln_166, ln_167, ln_168, ln_169, ln_170, ln_171, ln_172, ln_173, ln_174, ln_175, ln_176, ln_177, ln_178, ln_179, ln_180, ln_181, ln_182, ln_183, ln_184, ln_185, ln_186, ln_187, ln_188, ln_189, ln_190, ln_191, pm_0 hP, pm_9 hP, pm_10 hP, pm_11 hP, pm_12 hP, pm_13 hP, pm_14 hP, pm_15 hP, pm_16 hP, pm_17 hP, pm_18 hP, pm_19 hP, pm_20 hP, pm_21 hP, pm_22 hP, pm_23 hP, pm_24 hP, pm_25 hP, pm_26 hP, pm_27 hP, pm_28 hP, pm_29 hP, pm_30 hP, pm_31 hP, pm_32 hP, pm_33 hP, pm_34 hP, pm_36 hP, pm_37 hP, pm_38 hP, pm_39 hP, pm_40 hP, pm_41 hP, pm_42 hP, pm_43 hP, pm_44 hP, pm_45 hP, pm_46 hP, pm_47 hP, pm_48 hP, pm_49 hP, pm_51 hP, pm_64 hP, pm_66 hP, pm_69 hP, pm_72 hP, pm_73 hP, pm_74 hP, pm_75 hP, pm_76 hP, pm_77 hP, pm_78 hP, pm_79 hP, pm_83 hP, am_up_eq, Int.reduceEq, Int.reduceLT, Int.reduceLE, Int.reduceNeg, if_true, if_false, c_const, c_lconst, c_ref, c_iload, c_lload, c_aload, c_istore, c_lstore, c_astore, c_iinc, c_iadd, c_isub, c_imul, c_ladd, c_lsub, c_lmul, c_idiv, c_irem, c_ldiv, c_lrem, c_iand, c_ior, c_ixor, c_ishl, c_ishr, c_ineg, c_i2l, c_l2i, c_i2c, c_lcmp, c_dup, c_pop, c_dup2, c_at, c_icmp_eq, c_icmp_ne, c_icmp_lt, c_icmp_ge, c_icmp_gt, c_icmp_le, c_if_eq, c_if_ne, c_if_lt, c_if_ge, c_if_gt, c_if_le, c_ifnull, c_ifnonnull, am_swK, c_sw, c_iret, c_zret, c_cret, c_bret, c_lret, c_aret, c_vret, c_getI, c_getR, c_putI, c_putZ, c_putR, c_iald, c_zald, c_cald, c_lald, c_oald, c_gald, c_iast, c_zast, c_cast, c_last, c_oast, c_alen, c_callS0, c_callS1, c_callS2, c_callS3, c_callS4, c_callS5, c_callS6, c_callS7, c_callV0, c_callV1, c_callV2, c_callV3, c_callV4, c_callV5, c_callV6, c_callV7, c_callT0, c_callT1, am_nx_eq, am_set, am_set2, am_clr, am_isL, am_push, am_w, am_ent, am_ent1, List.getElem?_cons_zero, List.getElem?_cons_succ, List.set_cons_zero, List.set_cons_succ, List.getD_cons_zero, List.getD_cons_succ, List.cons_append, List.nil_append, List.append_nil, List.replicate_succ, List.replicate_zero, Nat.reduceAdd, Nat.reduceSub, Nat.reduceLeDiff, Bool.false_eq_true, reduceIte, true_and, and_true, true_or, or_true, or_self, am_i32, am_i64, bz_0, bz_01, bz_em, bz_n0, Classical.not_not, am_cmp_lt0, am_cmp_gt0, am_cmp_eq0, am_cmp_ge0, am_cmp_le0, am_cmp_ne0]
    have ci := cvr_in B k (F 3).toNat
    refine ⟨fun z => by omega, fun _ => r_most_a hM hS (by omega) ⟨hb.1, hv⟩ (fun y => ih (k + 1) _ _ _ (by omega) (by omega) (by omega) ⟨?_, fun t t1 t2 => ?_, ?_⟩) (F 3).toNat 0 (by omega)⟩
    · have := hb.1; omega
    · by_cases w : t = k
      · rw [w]; omega
      · have := hb.2.1 t t1 (by omega); omega
    · split
      · exact Or.inr ⟨k, hk0, by omega, rfl⟩
      · rcases hb.2.2 with w | ⟨t, t1, t2, t3⟩
        · exact Or.inl w
        · exact Or.inr ⟨t, t1, by omega, t3⟩
theorem m_bill {d : Nat} {w : Int} {Q : AV → am_S → Prop} (hM : MI M D T F P B O) (hS : SW D T F P B O) (h : ∀ r, blR F B w r → Q (vI r) (am_SH, M)) : am_Call (d + 3) m_Md_bill 0 0 [vR 137, vI w] (am_SH, M) Q := by
  have hP := hM.P9
  have hn := hS.1.2.2.1
  refine am_go B_Md_bill_0 rfl (Nat.le_of_ble_eq_true rfl) ?_
  simp only [b_Md_bill_112, b_Md_bill_107, b_Md_bill_105, b_Md_bill_98, b_Md_bill_97, b_Md_bill_56, b_Md_bill_54, b_Md_bill_52, b_Md_bill_30, b_Md_bill_28, b_Md_bill_0, kd_137, ln_138, ln_139, ln_140, ln_141, ln_142, ln_143, ln_144, ln_145, ln_146, ln_147, ln_148, ln_149, ln_150, ln_151, ln_152, ln_153, ln_154, ln_155, ln_156, ln_157, ln_158, ln_159, ln_160, ln_161, ln_162, ln_163, ln_164, ln_165, ln_166, ln_167, ln_168, ln_169, ln_170, ln_171, ln_172, ln_173, ln_174, ln_175, ln_176, ln_177, ln_178, ln_179, ln_180, ln_181, ln_182, ln_183, ln_184, ln_185, ln_186, ln_187, ln_188, ln_189, ln_190, ln_191, pm_0 hP, pm_9 hP, pm_10 hP, pm_11 hP, pm_12 hP, pm_13 hP, pm_14 hP, pm_15 hP, pm_16 hP, pm_17 hP, pm_18 hP, pm_19 hP, pm_20 hP, pm_21 hP, pm_22 hP, pm_23 hP, pm_24 hP, pm_25 hP, pm_26 hP, pm_27 hP, pm_28 hP, pm_29 hP, pm_30 hP, pm_31 hP, pm_32 hP, pm_33 hP, pm_34 hP, pm_36 hP, pm_37 hP, pm_38 hP, pm_39 hP, pm_40 hP, pm_41 hP, pm_42 hP, pm_43 hP, pm_44 hP, pm_45 hP, pm_46 hP, pm_47 hP, pm_48 hP, pm_49 hP, pm_51 hP, pm_64 hP, pm_66 hP, pm_69 hP, pm_72 hP, pm_73 hP, pm_74 hP, pm_75 hP, pm_76 hP, pm_77 hP, pm_78 hP, pm_79 hP, pm_83 hP, am_up_eq, Int.reduceEq, Int.reduceLT, Int.reduceLE, Int.reduceNeg, if_true, if_false, c_const, c_lconst, c_ref, c_iload, c_lload, c_aload, c_istore, c_lstore, c_astore, c_iinc, c_iadd, c_isub, c_imul, c_ladd, c_lsub, c_lmul, c_idiv, c_irem, c_ldiv, c_lrem, c_iand, c_ior, c_ixor, c_ishl, c_ishr, c_ineg, c_i2l, c_l2i, c_i2c, c_lcmp, c_dup, c_pop, c_dup2, c_at, c_icmp_eq, c_icmp_ne, c_icmp_lt, c_icmp_ge, c_icmp_gt, c_icmp_le, c_if_eq, c_if_ne, c_if_lt, c_if_ge, c_if_gt, c_if_le, c_ifnull, c_ifnonnull, am_swK, c_sw, c_iret, c_zret, c_cret, c_bret, c_lret, c_aret, c_vret, c_getI, c_getR, c_putI, c_putZ, c_putR, c_iald, c_zald, c_cald, c_lald, c_oald, c_gald, c_iast, c_zast, c_cast, c_last, c_oast, c_alen, c_callS0, c_callS1, c_callS2, c_callS3, c_callS4, c_callS5, c_callS6, c_callS7, c_callV0, c_callV1, c_callV2, c_callV3, c_callV4, c_callV5, c_callV6, c_callV7, c_callT0, c_callT1, am_nx_eq, am_set, am_set2, am_clr, am_isL, am_push, am_w, am_ent, am_ent1, List.getElem?_cons_zero, List.getElem?_cons_succ, List.set_cons_zero, List.set_cons_succ, List.getD_cons_zero, List.getD_cons_succ, List.cons_append, List.nil_append, List.append_nil, List.replicate_succ, List.replicate_zero, Nat.reduceAdd, Nat.reduceSub, Nat.reduceLeDiff, Bool.false_eq_true, reduceIte, true_and, and_true, true_or, or_true, or_self, am_i32, am_i64, bz_0, bz_01, bz_em, bz_n0, Classical.not_not, am_cmp_lt0, am_cmp_gt0, am_cmp_eq0, am_cmp_ge0, am_cmp_le0, am_cmp_ne0]
  have g0 : w = 0 → Q (vI (bsum B (F 3).toNat)) (am_SH, M) := fun z => h _ ⟨fun _ => rfl, fun q => by omega, fun q => by omega, fun q => by omega⟩
  have g1 : w = 1 → Q (vI (bend B (F 3).toNat)) (am_SH, M) := fun z => h _ ⟨fun q => by omega, fun _ => rfl, fun q => by omega, fun q => by omega⟩
  have g2 : w = 2 → ∀ v, mxR B (F 3).toNat v → Q (vI v) (am_SH, M) := fun z v q => h _ ⟨fun q => by omega, fun q => by omega, fun _ => q, fun q => by omega⟩
  have g3 : w < 0 ∨ 2 < w → Q (vI (-1)) (am_SH, M) := fun z => h _ ⟨fun q => by omega, fun q => by omega, fun q => by omega, fun _ => rfl⟩
  have most : w = 2 → ∀ y : AV, am_Call (d + 2) m_Md_mostAtOnce 0 0 [vR 137] (am_SH, M) (am_nx (c_iret Q) 0 0 [vR 137, vI w, vI 0, y] []) := by
    intro z y
    refine am_go B_Md_mostAtOnce_0 rfl (Nat.le_of_ble_eq_true rfl) ?_
    simp only [b_Md_mostAtOnce_83, b_Md_mostAtOnce_76, b_Md_mostAtOnce_75, b_Md_mostAtOnce_66, b_Md_mostAtOnce_60, b_Md_mostAtOnce_16, b_Md_mostAtOnce_4, b_Md_mostAtOnce_0, kd_137, ln_138, ln_139, ln_140, ln_141, ln_142, ln_143, ln_144, ln_145, ln_146, ln_147, ln_148, ln_149, ln_150, ln_151, ln_152, ln_153, ln_154, ln_155, ln_156, ln_157, ln_158, ln_159, ln_160, ln_161, ln_162, ln_163, ln_164, ln_165, ln_166, ln_167, ln_168, ln_169, ln_170, ln_171, ln_172, ln_173, ln_174, ln_175, ln_176, ln_177, ln_178, ln_179, ln_180, ln_181, ln_182, ln_183, ln_184, ln_185, ln_186, ln_187, ln_188, ln_189, ln_190, ln_191, pm_0 hP, pm_9 hP, pm_10 hP, pm_11 hP, pm_12 hP, pm_13 hP, pm_14 hP, pm_15 hP, pm_16 hP, pm_17 hP, pm_18 hP, pm_19 hP, pm_20 hP, pm_21 hP, pm_22 hP, pm_23 hP, pm_24 hP, pm_25 hP, pm_26 hP, pm_27 hP, pm_28 hP, pm_29 hP, pm_30 hP, pm_31 hP, pm_32 hP, pm_33 hP, pm_34 hP, pm_36 hP, pm_37 hP, pm_38 hP, pm_39 hP, pm_40 hP, pm_41 hP, pm_42 hP, pm_43 hP, pm_44 hP, pm_45 hP, pm_46 hP, pm_47 hP, pm_48 hP, pm_49 hP, pm_51 hP, pm_64 hP, pm_66 hP, pm_69 hP, pm_72 hP, pm_73 hP, pm_74 hP, pm_75 hP, pm_76 hP, pm_77 hP, pm_78 hP, pm_79 hP, pm_83 hP, am_up_eq, Int.reduceEq, Int.reduceLT, Int.reduceLE, Int.reduceNeg, if_true, if_false, c_const, c_lconst, c_ref, c_iload, c_lload, c_aload, c_istore, c_lstore, c_astore, c_iinc, c_iadd, c_isub, c_imul, c_ladd, c_lsub, c_lmul, c_idiv, c_irem, c_ldiv, c_lrem, c_iand, c_ior, c_ixor, c_ishl, c_ishr, c_ineg, c_i2l, c_l2i, c_i2c, c_lcmp, c_dup, c_pop, c_dup2, c_at, c_icmp_eq, c_icmp_ne, c_icmp_lt, c_icmp_ge, c_icmp_gt, c_icmp_le, c_if_eq, c_if_ne, c_if_lt, c_if_ge, c_if_gt, c_if_le, c_ifnull, c_ifnonnull, am_swK, c_sw, c_iret, c_zret, c_cret, c_bret, c_lret, c_aret, c_vret, c_getI, c_getR, c_putI, c_putZ, c_putR, c_iald, c_zald, c_cald, c_lald, c_oald, c_gald, c_iast, c_zast, c_cast, c_last, c_oast, c_alen, c_callS0, c_callS1, c_callS2, c_callS3, c_callS4, c_callS5, c_callS6, c_callS7, c_callV0, c_callV1, c_callV2, c_callV3, c_callV4, c_callV5, c_callV6, c_callV7, c_callT0, c_callT1, am_nx_eq, am_set, am_set2, am_clr, am_isL, am_push, am_w, am_ent, am_ent1, List.getElem?_cons_zero, List.getElem?_cons_succ, List.set_cons_zero, List.set_cons_succ, List.getD_cons_zero, List.getD_cons_succ, List.cons_append, List.nil_append, List.append_nil, List.replicate_succ, List.replicate_zero, Nat.reduceAdd, Nat.reduceSub, Nat.reduceLeDiff, Bool.false_eq_true, reduceIte, true_and, and_true, true_or, or_true, or_self, am_i32, am_i64, bz_0, bz_01, bz_em, bz_n0, Classical.not_not, am_cmp_lt0, am_cmp_gt0, am_cmp_eq0, am_cmp_ge0, am_cmp_le0, am_cmp_ne0]
    refine r_most_l hM hS (fun v hv => ?_) 501 0 0 _ _ rfl (by omega) (by omega) ⟨by omega, fun t t1 t2 => by omega, Or.inl rfl⟩
    simp only [b_Md_bill_112, b_Md_bill_107, b_Md_bill_105, b_Md_bill_98, b_Md_bill_97, b_Md_bill_56, b_Md_bill_54, b_Md_bill_52, b_Md_bill_30, b_Md_bill_28, b_Md_bill_0, kd_137, ln_138, ln_139, ln_140, ln_141, ln_142, ln_143, ln_144, ln_145, ln_146, ln_147, ln_148, ln_149, ln_150, ln_151, ln_152, ln_153, ln_154, ln_155, ln_156, ln_157, ln_158, ln_159, ln_160, ln_161, ln_162, ln_163, ln_164, ln_165, ln_166, ln_167, ln_168, ln_169, ln_170, ln_171, ln_172, ln_173, ln_174, ln_175, ln_176, ln_177, ln_178, ln_179, ln_180, ln_181, ln_182, ln_183, ln_184, ln_185, ln_186, ln_187, ln_188, ln_189, ln_190, ln_191, pm_0 hP, pm_9 hP, pm_10 hP, pm_11 hP, pm_12 hP, pm_13 hP, pm_14 hP, pm_15 hP, pm_16 hP, pm_17 hP, pm_18 hP, pm_19 hP, pm_20 hP, pm_21 hP, pm_22 hP, pm_23 hP, pm_24 hP, pm_25 hP, pm_26 hP, pm_27 hP, pm_28 hP, pm_29 hP, pm_30 hP, pm_31 hP, pm_32 hP, pm_33 hP, pm_34 hP, pm_36 hP, pm_37 hP, pm_38 hP, pm_39 hP, pm_40 hP, pm_41 hP, pm_42 hP, pm_43 hP, pm_44 hP, pm_45 hP, pm_46 hP, pm_47 hP, pm_48 hP, pm_49 hP, pm_51 hP, pm_64 hP, pm_66 hP, pm_69 hP, pm_72 hP, pm_73 hP, pm_74 hP, pm_75 hP, pm_76 hP, pm_77 hP, pm_78 hP, pm_79 hP, pm_83 hP, am_up_eq, Int.reduceEq, Int.reduceLT, Int.reduceLE, Int.reduceNeg, if_true, if_false, c_const, c_lconst, c_ref, c_iload, c_lload, c_aload, c_istore, c_lstore, c_astore, c_iinc, c_iadd, c_isub, c_imul, c_ladd, c_lsub, c_lmul, c_idiv, c_irem, c_ldiv, c_lrem, c_iand, c_ior, c_ixor, c_ishl, c_ishr, c_ineg, c_i2l, c_l2i, c_i2c, c_lcmp, c_dup, c_pop, c_dup2, c_at, c_icmp_eq, c_icmp_ne, c_icmp_lt, c_icmp_ge, c_icmp_gt, c_icmp_le, c_if_eq, c_if_ne, c_if_lt, c_if_ge, c_if_gt, c_if_le, c_ifnull, c_ifnonnull, am_swK, c_sw, c_iret, c_zret, c_cret, c_bret, c_lret, c_aret, c_vret, c_getI, c_getR, c_putI, c_putZ, c_putR, c_iald, c_zald, c_cald, c_lald, c_oald, c_gald, c_iast, c_zast, c_cast, c_last, c_oast, c_alen, c_callS0, c_callS1, c_callS2, c_callS3, c_callS4, c_callS5, c_callS6, c_callS7, c_callV0, c_callV1, c_callV2, c_callV3, c_callV4, c_callV5, c_callV6, c_callV7, c_callT0, c_callT1, am_nx_eq, am_set, am_set2, am_clr, am_isL, am_push, am_w, am_ent, am_ent1, List.getElem?_cons_zero, List.getElem?_cons_succ, List.set_cons_zero, List.set_cons_succ, List.getD_cons_zero, List.getD_cons_succ, List.cons_append, List.nil_append, List.append_nil, List.replicate_succ, List.replicate_zero, Nat.reduceAdd, Nat.reduceSub, Nat.reduceLeDiff, Bool.false_eq_true, reduceIte, true_and, and_true, true_or, or_true, or_self, am_i32, am_i64, bz_0, bz_01, bz_em, bz_n0, Classical.not_not, am_cmp_lt0, am_cmp_gt0, am_cmp_eq0, am_cmp_ge0, am_cmp_le0, am_cmp_ne0]
    exact g2 z v hv
  repeat' (first | with_reducible refine And.intro ?_ ?_ | with_reducible intro _)
  all_goals first
    | omega
    | exact g3 (by omega)
    | exact r_bill_0 hM hS (g0 (by omega)) (F 3).toNat 0 (by omega)
    | exact r_bill_1 hM hS (g1 (by omega)) (F 3).toNat 0 (by omega)
    | exact most (by omega) _
/-- the rig with another phase of a bar -/
def slk (D : Int → Int → Int) (b p : Int) : Int → Int → Int := fun r j => if r = 3 then (if j = b then p else D 3 j) else D r j
theorem slk_r (D : Int → Int → Int) (b p : Int) {r : Int} (h : r ≠ 3) : slk D b p r = D r := by funext j; unfold slk; rw [if_neg h]
def DQ (D D' : Int → Int → Int) : Prop := (∀ r, r ≠ 3 → D r = D' r) ∧ plc D = plc D'
theorem DQ.fw {D D' : Int → Int → Int} (h : DQ D D') (A : Int → Int → Int) (s : Int) : fwS D A s = fwS D' A s := by
  have e := h.2
  have e0 := h.1 6 (by decide)
  have e1 := h.1 5 (by decide)
  have e2 := h.1 7 (by decide)
  have e3 := h.1 8 (by decide)
  have e4 := h.1 9 (by decide)
  have e5 := h.1 10 (by decide)
  have e6 := h.1 11 (by decide)
  have e7 := h.1 12 (by decide)
  have s1 : spd D = spd D' := by funext b t; unfold spd; rw [e]
  have b1 : by1 D = by1 D' := by funext b i t; unfold by1; rw [e, e0]
  have m1 : msF D = msF D' := by funext a t k b; unfold msF; rw [e, s1, e2]
  have v1 : Ev D = Ev D' := by funext a t k b n g j; unfold Ev; rw [m1, s1, e, e2, e1]
  have g1 : gd D = gd D' := by funext a t k b n g; unfold gd tst; rw [m1, v1, e3, e5, e6, e7]
  have f1 : ∀ (m : Nat) (i : Int), flS D A s m i = flS D' A s m i := by
    intro m
    induction m with
    | zero => intro i; unfold flS; rw [b1]
    | succ m ih => intro i; unfold flS; rw [g1, ih]
  unfold fwS
  rw [b1, f1]
theorem plS_slk (D : Int → Int → Int) (b p : Int) (hp : 0 < D 2 b) {q : Int} (h : p % D 2 b = q % D 2 b) : plc (slk D b p) = plc (slk D b q) := by
  funext c t
  have e : plS (slk D b p) c t = plS (slk D b q) c t := by
    unfold plS
    rw [slk_r D b p (show (2 : Int) ≠ 3 by decide), slk_r D b q (show (2 : Int) ≠ 3 by decide)]
    unfold slk
    rw [if_pos rfl, if_pos rfl]
    by_cases z : c = b
    · rw [if_pos z, if_pos z, z, Int.add_emod, h, ← Int.add_emod]
    · rw [if_neg z, if_neg z]
  unfold plc plD
  rw [e, slk_r D b p (show (2 : Int) ≠ 3 by decide), slk_r D b q (show (2 : Int) ≠ 3 by decide), slk_r D b p (show (1 : Int) ≠ 3 by decide), slk_r D b q (show (1 : Int) ≠ 3 by decide), slk_r D b p (show (4 : Int) ≠ 3 by decide), slk_r D b q (show (4 : Int) ≠ 3 by decide)]
theorem slk_DQ (D : Int → Int → Int) (b p : Int) (hp : 0 < D 2 b) {q : Int} (h : p % D 2 b = q % D 2 b) : DQ (slk D b p) (slk D b q) := ⟨fun r hr => by rw [slk_r D b p hr, slk_r D b q hr], plS_slk D b p hp h⟩
theorem slk_WF {b p : Int} (hW : WF D) (hp : -100 ≤ p ∧ p ≤ 100) : WF (slk D b p) := by
  obtain ⟨a1, a2, a3, a4, a5, a6⟩ := hW
  unfold WF
  rw [slk_r D b p (show (0 : Int) ≠ 3 by decide), slk_r D b p (show (1 : Int) ≠ 3 by decide), slk_r D b p (show (2 : Int) ≠ 3 by decide), slk_r D b p (show (4 : Int) ≠ 3 by decide), slk_r D b p (show (5 : Int) ≠ 3 by decide), slk_r D b p (show (6 : Int) ≠ 3 by decide), slk_r D b p (show (7 : Int) ≠ 3 by decide), slk_r D b p (show (8 : Int) ≠ 3 by decide)]
  refine ⟨a1, a2, a3, fun c c1 c2 => ?_, a5, a6⟩
  have := a4 c c1 c2
  unfold slk
  rw [if_pos rfl]
  split <;> omega
theorem slk_WE {A : Int → Int → Int} {b p : Int} (h : WE D A) : WE (slk D b p) A := by
  unfold WE WA cam isFl at *
  rw [slk_r D b p (show (0 : Int) ≠ 3 by decide), slk_r D b p (show (7 : Int) ≠ 3 by decide)]
  exact h
theorem slk_self (D : Int → Int → Int) (b : Int) : slk D b (D 3 b) = D := by
  funext r j
  unfold slk
  split
  · rename_i h; subst h; split
    · rename_i h; rw [h]
    · rfl
  · rfl
theorem slk_RG {b p : Int} (hG : RG M D) (hb : 0 ≤ b ∧ b < D 0 0) (hp : 0 ≤ p ∧ p ≤ 100) : RG (am_up M 168 (32 + 4 * b + 2) p) (slk D b p) := by
  have e0 : ∀ o, o ≠ 168 → am_up M 168 (32 + 4 * b + 2) p o = M o := fun o ho => am_up_o M ho
  refine ⟨am_PM_up hG.P (by decide) (by decide), ?_, slk_WF hG.W (by omega), ?_, ?_⟩
  · obtain ⟨a1, a2, a3, a4, a5, a6⟩ := hG.R
    unfold RigR
    rw [slk_r D b p (show (0 : Int) ≠ 3 by decide), slk_r D b p (show (1 : Int) ≠ 3 by decide), slk_r D b p (show (2 : Int) ≠ 3 by decide), slk_r D b p (show (4 : Int) ≠ 3 by decide), slk_r D b p (show (5 : Int) ≠ 3 by decide), slk_r D b p (show (6 : Int) ≠ 3 by decide), slk_r D b p (show (7 : Int) ≠ 3 by decide), slk_r D b p (show (8 : Int) ≠ 3 by decide)]
    rw [e0 165 (by decide), e0 166 (by decide), e0 167 (by decide), e0 169 (by decide), e0 170 (by decide), e0 171 (by decide)]
    refine ⟨a1, a2, a3, fun c c1 c2 => ?_, a5, a6⟩
    obtain ⟨b1, b2, b3, b4, b5, b6⟩ := a4 c c1 c2
    refine ⟨by rw [am_up_j _ (by omega)]; exact b1, by rw [am_up_j _ (by omega)]; exact b2, ?_, by rw [am_up_j _ (by omega)]; exact b4, b5, ?_⟩
    · unfold slk
      rw [if_pos rfl]
      by_cases z : c = b
      · rw [if_pos z, z, am_up_s]
      · rw [if_neg z, am_up_j _ (by omega)]; exact b3
    · unfold slk
      rw [if_pos rfl]
      split <;> omega
  · have := hG.C
    unfold RigC at *
    rw [slk_r D b p (show (0 : Int) ≠ 3 by decide), slk_r D b p (show (9 : Int) ≠ 3 by decide), slk_r D b p (show (10 : Int) ≠ 3 by decide), slk_r D b p (show (11 : Int) ≠ 3 by decide), slk_r D b p (show (12 : Int) ≠ 3 by decide), e0 172 (by decide), e0 173 (by decide), e0 174 (by decide), e0 178 (by decide)]
    exact this
  · have := hG.V
    unfold WFc at *
    rw [slk_r D b p (show (0 : Int) ≠ 3 by decide), slk_r D b p (show (9 : Int) ≠ 3 by decide), slk_r D b p (show (10 : Int) ≠ 3 by decide), slk_r D b p (show (11 : Int) ≠ 3 by decide), slk_r D b p (show (12 : Int) ≠ 3 by decide)]
    exact this
end
