/-! the class: the reader's next piece -/
def runE (p : Int → Prop) (T : Int → Int) (n a e : Int) : Prop := (a ≤ e ∧ e ≤ n) ∧ (∀ i, a ≤ i → i < e → p (T i)) ∧ (e < n → ¬ p (T e))
def bl9 (c : Int) : Prop := c = 32 ∨ c = 10
def lt9 (c : Int) : Prop := 97 ≤ c ∧ c ≤ 122
def dg9 (c : Int) : Prop := 48 ≤ c ∧ c ≤ 57
theorem runE_u {p : Int → Prop} {T : Int → Int} {n a e e' : Int} (h : runE p T n a e) (h' : runE p T n a e') : e = e' := by
  rcases Int.lt_trichotomy e e' with z | z | z
  · exact absurd (h'.2.1 e h.1.1 z) (h.2.2 (by have := h'.1.2; omega))
  · exact z
  · exact absurd (h.2.1 e' h'.1.1 z) (h'.2.2 (by have := h.1.2; omega))
/-- the piece behind one that ended at st: kind 1 word, 2 number, 3 sign, 0 end, 4 a word or number right behind another -/
def advR (T : Int → Int) (n kd st kd' a st' : Int) : Prop := runE bl9 T n st a ∧ ∃ e, runE lt9 T n a e ∧ ((a < e ∧ st' = e ∧ kd' = if (kd = 1 ∨ kd = 2) ∧ a = st then 4 else 1) ∨ (e = a ∧ ∃ e2, runE dg9 T n a e2 ∧ ((a < e2 ∧ st' = e2 ∧ kd' = if (kd = 1 ∨ kd = 2) ∧ a = st then 4 else 2) ∨ (e2 = a ∧ a < n ∧ kd' = 3 ∧ st' = a + 1) ∨ (e2 = a ∧ a = n ∧ kd' = 0 ∧ st' = n))))
/-- the reader's place alone changes -/
def RdF (M M' : Int → Int → Int) : Prop := (∀ o, o ≠ 46 → M' o = M o) ∧ ∀ j, (j ≠ 2 ∧ j ≠ 3 ∧ j ≠ 4) → M' 46 j = M 46 j
section
variable {M M' : Int → Int → Int} {T : Int → Int} {n : Int} {d : Nat} {Q : AV → am_S → Prop}
theorem RdF.rf (M : Int → Int → Int) : RdF M M := ⟨fun _ _ => rfl, fun _ _ => rfl⟩
theorem RdF.tr {M1 M2 : Int → Int → Int} (h1 : RdF M M1) (h2 : RdF M1 M2) : RdF M M2 := ⟨fun o a => (h2.1 o a).trans (h1.1 o a), fun j a => (h2.2 j a).trans (h1.2 j a)⟩
theorem RdF.up (M : Int → Int → Int) {j v : Int} (h : j = 2 ∨ j = 3 ∨ j = 4) : RdF M (am_up M 46 j v) := ⟨fun o a => am_up_o M a, fun i a => am_up_j M (by omega)⟩
theorem RdF.PC (h : RdF M M') (hC : am_PC M) : am_PC M' := hC.eq (fun o j q => by
  by_cases z : o = 46
  · have : j = 0 := by unfold pcPl at q; omega
    rw [z, this]; exact h.2 0 (by omega)
  · rw [h.1 o z])
theorem k_adv_3 {M0 : Int → Int → Int} {a : Int} {x3 x4 : Int} (hC0 : am_PC M0) (hn : 0 ≤ n ∧ n ≤ 900) (hT : ∀ i, 0 ≤ i → i < n → M0 3 i = T i) (ha : 0 ≤ a) (h : ∀ M', RdF M0 M' → M' 46 3 = a → M' 46 2 = 2 → runE dg9 T n a (M' 46 4) → b_Reader_advance_222 (d + 1) Q 0 0 [vR 46, vR 3, vI n, vI x3, vI x4] [] (am_SH, M')) : ∀ (m : Nat) (e : Int) (M : Int → Int → Int), e + m = n → a ≤ e → RdF M0 M → M 46 3 = a → M 46 2 = 2 → M 46 4 = e → (∀ i, a ≤ i → i < e → dg9 (T i)) → am_Wp (d + 2) m_Reader_advance 0 0 171 [vR 46, vR 3, vI n, vI x3, vI x4] [] (am_SH, M) Q := by
  intro m
  induction m with
  | zero =>
    intro e M hm he hs e3 e2 e4 hd
    have hC := hs.PC hC0
    refine B_Reader_advance_171 _ _ _ _ _ ?_
    simp only [b_Reader_advance_171, e2, e4, kd_1, kd_2, ln_3, ll_3, kd_46, kd_47, ln_48, ll_48, ln_49, ll_49, kd_50, kd_51, ln_52, ll_52, ln_53, ll_53, ln_54, ll_54, ln_55, ll_55, ln_56, ll_56, ln_57, ll_57, ln_58, ll_58, kd_59, ln_60, ll_60, ln_61, ll_61, ln_62, ll_62, ln_63, ll_63, kd_64, ln_127, ll_127, ln_128, ll_128, ln_129, ll_129, ln_130, ll_130, ln_131, ll_131, ln_132, ll_132, ln_133, ll_133, ln_134, ll_134, kd_135, ln_136, ll_136, pc_1_0 hC, pc_1_3 hC, pc_1_4 hC, pc_1_5 hC, pc_1_6 hC, pc_1_7 hC, pc_1_8 hC, pc_2_0 hC, pc_46_0 hC, pc_50_0 hC, pc_50_1 hC, pc_50_2 hC, pc_50_3 hC, pc_50_4 hC, pc_50_5 hC, pc_64_2 hC, pc_64_3 hC, pc_135_0 hC, am_up_eq, Int.reduceEq, Int.reduceLT, Int.reduceLE, Int.reduceNeg, if_true, if_false, c_const, c_lconst, c_ref, c_iload, c_lload, c_aload, c_istore, c_lstore, c_astore, c_iinc, c_iadd, c_isub, c_imul, c_ladd, c_lsub, c_lmul, c_idiv, c_irem, c_ldiv, c_lrem, c_iand, c_ior, c_ixor, c_ishl, c_ishr, c_ineg, c_i2l, c_l2i, c_i2c, c_lcmp, c_dup, c_pop, c_dup2, c_at, c_icmp_eq, c_icmp_ne, c_icmp_lt, c_icmp_ge, c_icmp_gt, c_icmp_le, c_if_eq, c_if_ne, c_if_lt, c_if_ge, c_if_gt, c_if_le, c_ifnull, c_ifnonnull, am_swK, c_sw, c_iret, c_zret, c_cret, c_bret, c_lret, c_aret, c_vret, c_getI, c_getR, c_putI, c_putZ, c_putR, c_iald, c_zald, c_cald, c_lald, c_oald, c_gald, c_iast, c_zast, c_cast, c_last, c_oast, c_alen, c_callS0, c_callS1, c_callS2, c_callS3, c_callS4, c_callS5, c_callS6, c_callS7, c_callV0, c_callV1, c_callV2, c_callV3, c_callV4, c_callV5, c_callV6, c_callV7, c_callT0, c_callT1, am_nx_eq, am_set, am_set2, am_clr, am_isL, am_push, am_w, am_ent, am_ent1, List.getElem?_cons_zero, List.getElem?_cons_succ, List.set_cons_zero, List.set_cons_succ, List.getD_cons_zero, List.getD_cons_succ, List.cons_append, List.nil_append, List.append_nil, List.replicate_succ, List.replicate_zero, Nat.reduceAdd, Nat.reduceSub, Nat.reduceLeDiff, Bool.false_eq_true, reduceIte, true_and, and_true, true_or, or_true, or_self, am_i32, am_i64, bz_0, bz_01, bz_em, bz_n0, Classical.not_not, am_cmp_lt0, am_cmp_gt0, am_cmp_eq0, am_cmp_ge0, am_cmp_le0, am_cmp_ne0]
    try simp only [Int.reduceEq, Int.reduceLT, Int.reduceLE, Int.reduceNeg, not_true_eq_false, not_false_eq_true, false_implies, true_implies, implies_true, true_and, and_true]
    exact ⟨fun _ => h M hs e3 e2 ⟨by omega, by rw [e4]; exact hd, fun z => by omega⟩, fun z => by omega⟩
  | succ m ih =>
    intro e M hm he hs e3 e2 e4 hd
    have hC := hs.PC hC0
    have eT : M 3 e = T e := by rw [hs.1 3 (by decide)]; exact hT e (by omega) (by omega)
    have out : ¬ dg9 (T e) → b_Reader_advance_222 (d + 1) Q 0 0 [vR 46, vR 3, vI n, vI x3, vI x4] [] (am_SH, M) := fun z => h M hs e3 e2 ⟨by omega, by rw [e4]; exact hd, fun _ => by rw [e4]; exact z⟩
    refine B_Reader_advance_171 _ _ _ _ _ ?_
    simp only [b_Reader_advance_171, e2, e4, eT, kd_1, kd_2, ln_3, ll_3, kd_46, kd_47, ln_48, ll_48, ln_49, ll_49, kd_50, kd_51, ln_52, ll_52, ln_53, ll_53, ln_54, ll_54, ln_55, ll_55, ln_56, ll_56, ln_57, ll_57, ln_58, ll_58, kd_59, ln_60, ll_60, ln_61, ll_61, ln_62, ll_62, ln_63, ll_63, kd_64, ln_127, ll_127, ln_128, ll_128, ln_129, ll_129, ln_130, ll_130, ln_131, ll_131, ln_132, ll_132, ln_133, ll_133, ln_134, ll_134, kd_135, ln_136, ll_136, pc_1_0 hC, pc_1_3 hC, pc_1_4 hC, pc_1_5 hC, pc_1_6 hC, pc_1_7 hC, pc_1_8 hC, pc_2_0 hC, pc_46_0 hC, pc_50_0 hC, pc_50_1 hC, pc_50_2 hC, pc_50_3 hC, pc_50_4 hC, pc_50_5 hC, pc_64_2 hC, pc_64_3 hC, pc_135_0 hC, am_up_eq, Int.reduceEq, Int.reduceLT, Int.reduceLE, Int.reduceNeg, if_true, if_false, c_const, c_lconst, c_ref, c_iload, c_lload, c_aload, c_istore, c_lstore, c_astore, c_iinc, c_iadd, c_isub, c_imul, c_ladd, c_lsub, c_lmul, c_idiv, c_irem, c_ldiv, c_lrem, c_iand, c_ior, c_ixor, c_ishl, c_ishr, c_ineg, c_i2l, c_l2i, c_i2c, c_lcmp, c_dup, c_pop, c_dup2, c_at, c_icmp_eq, c_icmp_ne, c_icmp_lt, c_icmp_ge, c_icmp_gt, c_icmp_le, c_if_eq, c_if_ne, c_if_lt, c_if_ge, c_if_gt, c_if_le, c_ifnull, c_ifnonnull, am_swK, c_sw, c_iret, c_zret, c_cret, c_bret, c_lret, c_aret, c_vret, c_getI, c_getR, c_putI, c_putZ, c_putR, c_iald, c_zald, c_cald, c_lald, c_oald, c_gald, c_iast, c_zast, c_cast, c_last, c_oast, c_alen, c_callS0, c_callS1, c_callS2, c_callS3, c_callS4, c_callS5, c_callS6, c_callS7, c_callV0, c_callV1, c_callV2, c_callV3, c_callV4, c_callV5, c_callV6, c_callV7, c_callT0, c_callT1, am_nx_eq, am_set, am_set2, am_clr, am_isL, am_push, am_w, am_ent, am_ent1, List.getElem?_cons_zero, List.getElem?_cons_succ, List.set_cons_zero, List.set_cons_succ, List.getD_cons_zero, List.getD_cons_succ, List.cons_append, List.nil_append, List.append_nil, List.replicate_succ, List.replicate_zero, Nat.reduceAdd, Nat.reduceSub, Nat.reduceLeDiff, Bool.false_eq_true, reduceIte, true_and, and_true, true_or, or_true, or_self, am_i32, am_i64, bz_0, bz_01, bz_em, bz_n0, Classical.not_not, am_cmp_lt0, am_cmp_gt0, am_cmp_eq0, am_cmp_ge0, am_cmp_le0, am_cmp_ne0]
    try simp only [Int.reduceEq, Int.reduceLT, Int.reduceLE, Int.reduceNeg, not_true_eq_false, not_false_eq_true, false_implies, true_implies, implies_true, true_and, and_true]
    refine ⟨fun z => by omega, fun _ => ?_⟩
    repeat (with_reducible refine And.intro (by omega) ?_)
    refine ⟨fun z => out (fun w => by unfold dg9 at w; omega), fun z => ?_⟩
    repeat (with_reducible refine And.intro (by omega) ?_)
    refine ⟨fun z2 => out (fun w => by unfold dg9 at w; omega), fun z2 => ?_⟩
    repeat (with_reducible refine And.intro (by omega) ?_)
    refine ih (e + 1) _ (by omega) (by omega) (hs.tr (RdF.up _ (by omega))) (by rw [am_up_j _ (by decide)]; exact e3) (by rw [am_up_j _ (by decide)]; exact e2) (am_up_s _ _ _ _) (fun i i0 i1 => ?_)
    by_cases q : i = e
    · rw [q]; unfold dg9; omega
    · exact hd i i0 (by omega)
theorem k_adv_2 {M0 : Int → Int → Int} {a : Int} {x3 x4 : Int} (hC0 : am_PC M0) (hn : 0 ≤ n ∧ n ≤ 900) (hT : ∀ i, 0 ≤ i → i < n → M0 3 i = T i) (ha : 0 ≤ a) (h : ∀ M', RdF M0 M' → M' 46 3 = a → runE lt9 T n a (M' 46 4) → b_Reader_advance_151 (d + 1) Q 0 0 [vR 46, vR 3, vI n, vI x3, vI x4] [] (am_SH, M')) : ∀ (m : Nat) (e : Int) (M : Int → Int → Int), e + m = n → a ≤ e → RdF M0 M → M 46 3 = a → M 46 4 = e → (∀ i, a ≤ i → i < e → lt9 (T i)) → am_Wp (d + 2) m_Reader_advance 0 0 108 [vR 46, vR 3, vI n, vI x3, vI x4] [] (am_SH, M) Q := by
  intro m
  induction m with
  | zero =>
    intro e M hm he hs e3 e4 hd
    have hC := hs.PC hC0
    refine B_Reader_advance_108 _ _ _ _ _ ?_
    simp only [b_Reader_advance_108, e4, kd_1, kd_2, ln_3, ll_3, kd_46, kd_47, ln_48, ll_48, ln_49, ll_49, kd_50, kd_51, ln_52, ll_52, ln_53, ll_53, ln_54, ll_54, ln_55, ll_55, ln_56, ll_56, ln_57, ll_57, ln_58, ll_58, kd_59, ln_60, ll_60, ln_61, ll_61, ln_62, ll_62, ln_63, ll_63, kd_64, ln_127, ll_127, ln_128, ll_128, ln_129, ll_129, ln_130, ll_130, ln_131, ll_131, ln_132, ll_132, ln_133, ll_133, ln_134, ll_134, kd_135, ln_136, ll_136, pc_1_0 hC, pc_1_3 hC, pc_1_4 hC, pc_1_5 hC, pc_1_6 hC, pc_1_7 hC, pc_1_8 hC, pc_2_0 hC, pc_46_0 hC, pc_50_0 hC, pc_50_1 hC, pc_50_2 hC, pc_50_3 hC, pc_50_4 hC, pc_50_5 hC, pc_64_2 hC, pc_64_3 hC, pc_135_0 hC, am_up_eq, Int.reduceEq, Int.reduceLT, Int.reduceLE, Int.reduceNeg, if_true, if_false, c_const, c_lconst, c_ref, c_iload, c_lload, c_aload, c_istore, c_lstore, c_astore, c_iinc, c_iadd, c_isub, c_imul, c_ladd, c_lsub, c_lmul, c_idiv, c_irem, c_ldiv, c_lrem, c_iand, c_ior, c_ixor, c_ishl, c_ishr, c_ineg, c_i2l, c_l2i, c_i2c, c_lcmp, c_dup, c_pop, c_dup2, c_at, c_icmp_eq, c_icmp_ne, c_icmp_lt, c_icmp_ge, c_icmp_gt, c_icmp_le, c_if_eq, c_if_ne, c_if_lt, c_if_ge, c_if_gt, c_if_le, c_ifnull, c_ifnonnull, am_swK, c_sw, c_iret, c_zret, c_cret, c_bret, c_lret, c_aret, c_vret, c_getI, c_getR, c_putI, c_putZ, c_putR, c_iald, c_zald, c_cald, c_lald, c_oald, c_gald, c_iast, c_zast, c_cast, c_last, c_oast, c_alen, c_callS0, c_callS1, c_callS2, c_callS3, c_callS4, c_callS5, c_callS6, c_callS7, c_callV0, c_callV1, c_callV2, c_callV3, c_callV4, c_callV5, c_callV6, c_callV7, c_callT0, c_callT1, am_nx_eq, am_set, am_set2, am_clr, am_isL, am_push, am_w, am_ent, am_ent1, List.getElem?_cons_zero, List.getElem?_cons_succ, List.set_cons_zero, List.set_cons_succ, List.getD_cons_zero, List.getD_cons_succ, List.cons_append, List.nil_append, List.append_nil, List.replicate_succ, List.replicate_zero, Nat.reduceAdd, Nat.reduceSub, Nat.reduceLeDiff, Bool.false_eq_true, reduceIte, true_and, and_true, true_or, or_true, or_self, am_i32, am_i64, bz_0, bz_01, bz_em, bz_n0, Classical.not_not, am_cmp_lt0, am_cmp_gt0, am_cmp_eq0, am_cmp_ge0, am_cmp_le0, am_cmp_ne0]
    exact ⟨fun _ => h M hs e3 ⟨by omega, by rw [e4]; exact hd, fun z => by omega⟩, fun z => by omega⟩
  | succ m ih =>
    intro e M hm he hs e3 e4 hd
    have hC := hs.PC hC0
    have eT : M 3 e = T e := by rw [hs.1 3 (by decide)]; exact hT e (by omega) (by omega)
    have out : ¬ lt9 (T e) → b_Reader_advance_151 (d + 1) Q 0 0 [vR 46, vR 3, vI n, vI x3, vI x4] [] (am_SH, M) := fun z => h M hs e3 ⟨by omega, by rw [e4]; exact hd, fun _ => by rw [e4]; exact z⟩
    refine B_Reader_advance_108 _ _ _ _ _ ?_
    simp only [b_Reader_advance_108, e4, eT, kd_1, kd_2, ln_3, ll_3, kd_46, kd_47, ln_48, ll_48, ln_49, ll_49, kd_50, kd_51, ln_52, ll_52, ln_53, ll_53, ln_54, ll_54, ln_55, ll_55, ln_56, ll_56, ln_57, ll_57, ln_58, ll_58, kd_59, ln_60, ll_60, ln_61, ll_61, ln_62, ll_62, ln_63, ll_63, kd_64, ln_127, ll_127, ln_128, ll_128, ln_129, ll_129, ln_130, ll_130, ln_131, ll_131, ln_132, ll_132, ln_133, ll_133, ln_134, ll_134, kd_135, ln_136, ll_136, pc_1_0 hC, pc_1_3 hC, pc_1_4 hC, pc_1_5 hC, pc_1_6 hC, pc_1_7 hC, pc_1_8 hC, pc_2_0 hC, pc_46_0 hC, pc_50_0 hC, pc_50_1 hC, pc_50_2 hC, pc_50_3 hC, pc_50_4 hC, pc_50_5 hC, pc_64_2 hC, pc_64_3 hC, pc_135_0 hC, am_up_eq, Int.reduceEq, Int.reduceLT, Int.reduceLE, Int.reduceNeg, if_true, if_false, c_const, c_lconst, c_ref, c_iload, c_lload, c_aload, c_istore, c_lstore, c_astore, c_iinc, c_iadd, c_isub, c_imul, c_ladd, c_lsub, c_lmul, c_idiv, c_irem, c_ldiv, c_lrem, c_iand, c_ior, c_ixor, c_ishl, c_ishr, c_ineg, c_i2l, c_l2i, c_i2c, c_lcmp, c_dup, c_pop, c_dup2, c_at, c_icmp_eq, c_icmp_ne, c_icmp_lt, c_icmp_ge, c_icmp_gt, c_icmp_le, c_if_eq, c_if_ne, c_if_lt, c_if_ge, c_if_gt, c_if_le, c_ifnull, c_ifnonnull, am_swK, c_sw, c_iret, c_zret, c_cret, c_bret, c_lret, c_aret, c_vret, c_getI, c_getR, c_putI, c_putZ, c_putR, c_iald, c_zald, c_cald, c_lald, c_oald, c_gald, c_iast, c_zast, c_cast, c_last, c_oast, c_alen, c_callS0, c_callS1, c_callS2, c_callS3, c_callS4, c_callS5, c_callS6, c_callS7, c_callV0, c_callV1, c_callV2, c_callV3, c_callV4, c_callV5, c_callV6, c_callV7, c_callT0, c_callT1, am_nx_eq, am_set, am_set2, am_clr, am_isL, am_push, am_w, am_ent, am_ent1, List.getElem?_cons_zero, List.getElem?_cons_succ, List.set_cons_zero, List.set_cons_succ, List.getD_cons_zero, List.getD_cons_succ, List.cons_append, List.nil_append, List.append_nil, List.replicate_succ, List.replicate_zero, Nat.reduceAdd, Nat.reduceSub, Nat.reduceLeDiff, Bool.false_eq_true, reduceIte, true_and, and_true, true_or, or_true, or_self, am_i32, am_i64, bz_0, bz_01, bz_em, bz_n0, Classical.not_not, am_cmp_lt0, am_cmp_gt0, am_cmp_eq0, am_cmp_ge0, am_cmp_le0, am_cmp_ne0]
    refine ⟨fun z => by omega, fun _ => ?_⟩
    repeat (with_reducible refine And.intro (by omega) ?_)
    refine ⟨fun z => out (fun w => by unfold lt9 at w; omega), fun z => ?_⟩
    repeat (with_reducible refine And.intro (by omega) ?_)
    refine ⟨fun z2 => out (fun w => by unfold lt9 at w; omega), fun z2 => ?_⟩
    repeat (with_reducible refine And.intro (by omega) ?_)
    refine ih (e + 1) _ (by omega) (by omega) (hs.tr (RdF.up _ (by omega))) (by rw [am_up_j _ (by decide)]; exact e3) (am_up_s _ _ _ _) (fun i i0 i1 => ?_)
    by_cases q : i = e
    · rw [q]; unfold lt9; omega
    · exact hd i i0 (by omega)
theorem k_adv_1 {M0 : Int → Int → Int} {s : Int} {x3 x4 : Int} (hC0 : am_PC M0) (hn : 0 ≤ n ∧ n ≤ 900) (hT : ∀ i, 0 ≤ i → i < n → M0 3 i = T i) (hs0 : 0 ≤ s) (h : ∀ M', RdF M0 M' → runE bl9 T n s (M' 46 3) → b_Reader_advance_100 (d + 1) Q 0 0 [vR 46, vR 3, vI n, vI x3, vI x4] [] (am_SH, M')) : ∀ (m : Nat) (e : Int) (M : Int → Int → Int), e + m = n → s ≤ e → RdF M0 M → M 46 3 = e → (∀ i, s ≤ i → i < e → bl9 (T i)) → am_Wp (d + 2) m_Reader_advance 0 0 57 [vR 46, vR 3, vI n, vI x3, vI x4] [] (am_SH, M) Q := by
  intro m
  induction m with
  | zero =>
    intro e M hm he hs e3 hd
    have hC := hs.PC hC0
    refine B_Reader_advance_57 _ _ _ _ _ ?_
    simp only [b_Reader_advance_57, e3, kd_1, kd_2, ln_3, ll_3, kd_46, kd_47, ln_48, ll_48, ln_49, ll_49, kd_50, kd_51, ln_52, ll_52, ln_53, ll_53, ln_54, ll_54, ln_55, ll_55, ln_56, ll_56, ln_57, ll_57, ln_58, ll_58, kd_59, ln_60, ll_60, ln_61, ll_61, ln_62, ll_62, ln_63, ll_63, kd_64, ln_127, ll_127, ln_128, ll_128, ln_129, ll_129, ln_130, ll_130, ln_131, ll_131, ln_132, ll_132, ln_133, ll_133, ln_134, ll_134, kd_135, ln_136, ll_136, pc_1_0 hC, pc_1_3 hC, pc_1_4 hC, pc_1_5 hC, pc_1_6 hC, pc_1_7 hC, pc_1_8 hC, pc_2_0 hC, pc_46_0 hC, pc_50_0 hC, pc_50_1 hC, pc_50_2 hC, pc_50_3 hC, pc_50_4 hC, pc_50_5 hC, pc_64_2 hC, pc_64_3 hC, pc_135_0 hC, am_up_eq, Int.reduceEq, Int.reduceLT, Int.reduceLE, Int.reduceNeg, if_true, if_false, c_const, c_lconst, c_ref, c_iload, c_lload, c_aload, c_istore, c_lstore, c_astore, c_iinc, c_iadd, c_isub, c_imul, c_ladd, c_lsub, c_lmul, c_idiv, c_irem, c_ldiv, c_lrem, c_iand, c_ior, c_ixor, c_ishl, c_ishr, c_ineg, c_i2l, c_l2i, c_i2c, c_lcmp, c_dup, c_pop, c_dup2, c_at, c_icmp_eq, c_icmp_ne, c_icmp_lt, c_icmp_ge, c_icmp_gt, c_icmp_le, c_if_eq, c_if_ne, c_if_lt, c_if_ge, c_if_gt, c_if_le, c_ifnull, c_ifnonnull, am_swK, c_sw, c_iret, c_zret, c_cret, c_bret, c_lret, c_aret, c_vret, c_getI, c_getR, c_putI, c_putZ, c_putR, c_iald, c_zald, c_cald, c_lald, c_oald, c_gald, c_iast, c_zast, c_cast, c_last, c_oast, c_alen, c_callS0, c_callS1, c_callS2, c_callS3, c_callS4, c_callS5, c_callS6, c_callS7, c_callV0, c_callV1, c_callV2, c_callV3, c_callV4, c_callV5, c_callV6, c_callV7, c_callT0, c_callT1, am_nx_eq, am_set, am_set2, am_clr, am_isL, am_push, am_w, am_ent, am_ent1, List.getElem?_cons_zero, List.getElem?_cons_succ, List.set_cons_zero, List.set_cons_succ, List.getD_cons_zero, List.getD_cons_succ, List.cons_append, List.nil_append, List.append_nil, List.replicate_succ, List.replicate_zero, Nat.reduceAdd, Nat.reduceSub, Nat.reduceLeDiff, Bool.false_eq_true, reduceIte, true_and, and_true, true_or, or_true, or_self, am_i32, am_i64, bz_0, bz_01, bz_em, bz_n0, Classical.not_not, am_cmp_lt0, am_cmp_gt0, am_cmp_eq0, am_cmp_ge0, am_cmp_le0, am_cmp_ne0]
    exact ⟨fun _ => h M hs ⟨by omega, by rw [e3]; exact hd, fun z => by omega⟩, fun z => by omega⟩
  | succ m ih =>
    intro e M hm he hs e3 hd
    have hC := hs.PC hC0
    have eT : M 3 e = T e := by rw [hs.1 3 (by decide)]; exact hT e (by omega) (by omega)
    have nx : bl9 (T e) → am_Wp (d + 2) m_Reader_advance 0 0 57 [vR 46, vR 3, vI n, vI x3, vI x4] [] (am_SH, am_up M 46 3 (e + 1)) Q := by
      intro w
      refine ih (e + 1) _ (by omega) (by omega) (hs.tr (RdF.up _ (by omega))) (am_up_s _ _ _ _) (fun i i0 i1 => ?_)
      by_cases q : i = e
      · rw [q]; exact w
      · exact hd i i0 (by omega)
    refine B_Reader_advance_57 _ _ _ _ _ ?_
    simp only [b_Reader_advance_57, b_Reader_advance_87, e3, eT, kd_1, kd_2, ln_3, ll_3, kd_46, kd_47, ln_48, ll_48, ln_49, ll_49, kd_50, kd_51, ln_52, ll_52, ln_53, ll_53, ln_54, ll_54, ln_55, ll_55, ln_56, ll_56, ln_57, ll_57, ln_58, ll_58, kd_59, ln_60, ll_60, ln_61, ll_61, ln_62, ll_62, ln_63, ll_63, kd_64, ln_127, ll_127, ln_128, ll_128, ln_129, ll_129, ln_130, ll_130, ln_131, ll_131, ln_132, ll_132, ln_133, ll_133, ln_134, ll_134, kd_135, ln_136, ll_136, pc_1_0 hC, pc_1_3 hC, pc_1_4 hC, pc_1_5 hC, pc_1_6 hC, pc_1_7 hC, pc_1_8 hC, pc_2_0 hC, pc_46_0 hC, pc_50_0 hC, pc_50_1 hC, pc_50_2 hC, pc_50_3 hC, pc_50_4 hC, pc_50_5 hC, pc_64_2 hC, pc_64_3 hC, pc_135_0 hC, am_up_eq, Int.reduceEq, Int.reduceLT, Int.reduceLE, Int.reduceNeg, if_true, if_false, c_const, c_lconst, c_ref, c_iload, c_lload, c_aload, c_istore, c_lstore, c_astore, c_iinc, c_iadd, c_isub, c_imul, c_ladd, c_lsub, c_lmul, c_idiv, c_irem, c_ldiv, c_lrem, c_iand, c_ior, c_ixor, c_ishl, c_ishr, c_ineg, c_i2l, c_l2i, c_i2c, c_lcmp, c_dup, c_pop, c_dup2, c_at, c_icmp_eq, c_icmp_ne, c_icmp_lt, c_icmp_ge, c_icmp_gt, c_icmp_le, c_if_eq, c_if_ne, c_if_lt, c_if_ge, c_if_gt, c_if_le, c_ifnull, c_ifnonnull, am_swK, c_sw, c_iret, c_zret, c_cret, c_bret, c_lret, c_aret, c_vret, c_getI, c_getR, c_putI, c_putZ, c_putR, c_iald, c_zald, c_cald, c_lald, c_oald, c_gald, c_iast, c_zast, c_cast, c_last, c_oast, c_alen, c_callS0, c_callS1, c_callS2, c_callS3, c_callS4, c_callS5, c_callS6, c_callS7, c_callV0, c_callV1, c_callV2, c_callV3, c_callV4, c_callV5, c_callV6, c_callV7, c_callT0, c_callT1, am_nx_eq, am_set, am_set2, am_clr, am_isL, am_push, am_w, am_ent, am_ent1, List.getElem?_cons_zero, List.getElem?_cons_succ, List.set_cons_zero, List.set_cons_succ, List.getD_cons_zero, List.getD_cons_succ, List.cons_append, List.nil_append, List.append_nil, List.replicate_succ, List.replicate_zero, Nat.reduceAdd, Nat.reduceSub, Nat.reduceLeDiff, Bool.false_eq_true, reduceIte, true_and, and_true, true_or, or_true, or_self, am_i32, am_i64, bz_0, bz_01, bz_em, bz_n0, Classical.not_not, am_cmp_lt0, am_cmp_gt0, am_cmp_eq0, am_cmp_ge0, am_cmp_le0, am_cmp_ne0]
    refine ⟨fun z => by omega, fun _ => ?_⟩
    repeat (with_reducible refine And.intro (by omega) ?_)
    refine ⟨fun z => ⟨by omega, nx (Or.inl z)⟩, fun z => ?_⟩
    repeat (with_reducible refine And.intro (by omega) ?_)
    refine ⟨fun z2 => h M hs ⟨by omega, by rw [e3]; exact hd, fun _ => by rw [e3]; exact fun w => w.elim z z2⟩, fun z2 => ⟨by omega, nx (Or.inr z2)⟩⟩
end
