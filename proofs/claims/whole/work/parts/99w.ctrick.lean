/-! the class: a trick -/
section
variable {M M' M1 M2 D : Int → Int → Int} {T : Int → Int} {n S lc k : Int} {d : Nat} {Q : AV → am_S → Prop} {q : Nat} {z z' : sz9}
theorem pwR_g {r r' : tk9} (h : pwR T n q (.inl r) (.inl r')) (w : tkW n r) : tkW n r' ∧ r.2.1 + 1 ≤ r'.2.1 := by
  rcases h with ⟨a, r2, b, e⟩ | ⟨-, e⟩
  · cases e; exact nx9_s b w (wd9_k a)
  · cases e
theorem psR_g {r r' : tk9} {c : Int} (h : psR T n c (.inl r) (.inl r')) (w : tkW n r) : tkW n r' ∧ r.2.1 + 1 ≤ r'.2.1 := by
  rcases h with ⟨a, r2, b, e⟩ | ⟨-, e⟩
  · cases e; exact nx9_s b w (sg9_k a)
  · cases e
theorem nuR_g {r r' : tk9} {lo hi v : Int} (h : nuR T n lo hi (.inl r) (.inl r') v) (w : tkW n r) : tkW n r' ∧ r.2.1 + 1 ≤ r'.2.1 := by
  rcases h with ⟨f, x, -, e⟩ | ⟨a, -, -, -, r2, b, e⟩
  · cases e
  · cases e; exact nx9_s b w (by omega)
theorem nnR_g {r r' : tk9} (h : nnR T n D r (.inl r')) (w : tkW n r) : tkW n r' ∧ r.2.1 + 1 ≤ r'.2.1 := by
  rcases h with ⟨f, x, -, e⟩ | ⟨-, -, e⟩ | ⟨a, -, r2, b, e⟩
  · cases e
  · cases e
  · cases e; exact nx9_s b w (by have := a.1; omega)
theorem Bq.eq (h : Bq S M) (hC : am_PC M') (e11 : M' (S + 11) = M (S + 11)) (e18 : M' (S + 18) = M (S + 18)) (e19 : M' (S + 19) = M (S + 19)) (e1 : M' 46 1 = M 46 1) (e3 : 0 ≤ M' 46 3) : Bq S M' := by
  obtain ⟨b1, b2, b3, b4, b5, b6, b7, b8⟩ := h
  exact ⟨hC, b2, by rw [e1]; exact b3, by rw [e11]; exact b4, by rw [e11]; exact b5, by rw [e11, e18]; exact b6, by rw [e11, e19]; exact b7, e3⟩
theorem sK.rs {r : tk9} (h : sK T n M (.inl r)) (hB : Bq S M) (hl : M (S + 11) 9 ≤ M 46 3) : RS9 S T n M := ⟨h.1, hB, by rw [h.2.2.2.1]; exact h.2.1, hl, h.2.2.1⟩
theorem RS9.sk (h : RS9 S T n M) {r : tk9} (e : tkM M = r) (hm : M 46 6 = -1) : sK T n M (.inl r) := ⟨h.1, by rw [← e]; exact h.2.2.1, h.2.2.2.2, e, hm⟩
theorem CO.sk {f x : Int} (c : CO S M M' (fl9 f x)) : sK T n M' (.inr (f, x)) := ⟨c.pc, c.2.2.1, c.2.2.2.1, c.2.2.2.2, c.2.1.2.2.2.2.2.2.2⟩
theorem sK.eqr {p : Int × Int} (h : sK T n M (.inr p)) (hC : am_PC M') (e : M' 46 = M 46) : sK T n M' (.inr p) := ⟨hC, h.2.1, by rw [e]; exact h.2.2.1, by rw [e]; exact h.2.2.2.1, by rw [e]; exact h.2.2.2.2⟩
theorem Cd.tr' {us vs : List Int} (e : M1 (S + 11) 10 = M (S + 11) 10) (h1 : Cd S M M1 us) (h2 : Cd S M1 M2 vs) : Cd S M M2 (us ++ vs) := by
  obtain ⟨a1, b1, c1, d1, e1⟩ := h1
  obtain ⟨a2, b2, c2, d2, e2⟩ := h2
  rw [e] at d2 e2
  refine ⟨by rw [a2, a1, List.length_append]; omega, fun i hi => (b2 i (by omega)).trans (b1 i hi), fun i hi => ?_, ?_, ?_⟩
  · rw [List.length_append] at hi
    by_cases z : i < us.length
    · rw [b2 _ (by omega), c1 i z]
      congr 1
      rw [List.getD_eq_getElem?_getD, List.getD_eq_getElem?_getD, List.getElem?_append_left z]
    · have := c2 (i - us.length) (by omega)
      rw [show M1 (S + 11) 9 + ((i - us.length : Nat) : Int) = M (S + 11) 9 + i by omega] at this
      rw [this]
      congr 1
      rw [List.getD_eq_getElem?_getD, List.getD_eq_getElem?_getD, List.getElem?_append_right (by omega)]
  · rw [d2, d1, List.mem_append]; exact or_assoc
  · rw [e2, e1, List.mem_append]; exact or_assoc
theorem k_readTrick {r : tk9} (hb : by9 T n) (hz : sK T n M (.inl r)) (hQ : CQ S M D lc) (hlc : lc ≤ r.2.1 ∧ 0 ≤ lc) (hcl : ∀ t, 0 ≤ t → t < D 0 2 → D 11 t ≤ lc) (hw0 : ¬ wd9 T 0 r) (hw6 : ¬ wd9 T 6 r) (hw7 : ¬ wd9 T 7 r) (hw : wd9 T 8 r) (h : ∀ z' D' lc' M', bdR T n D lc r z' D' lc' → BO T n S M M' z' D' lc' → Q none (am_SH, M')) : am_Call (d + 50) m_Reader_readTrick 0 0 [vR 46] (am_SH, M) Q := by
  obtain ⟨kS, -, kT⟩ := k_reads (S := S) hb 6 0 (by decide) (by decide)
  have hC := hz.pc
  have hR := hQ.1
  have er := hR
  unfold isR at er
  have c0 := hQ.2.2.2.2.2.2.1.2.2.1
  refine am_go B_Reader_readTrick_0 rfl (Nat.le_of_ble_eq_true rfl) ?_
  simp only [b_Reader_readTrick_0, hQ.2.1, kr_0 hR, kr_1 hR, lr_2 hR, mr_2 hR, lr_3 hR, mr_3 hR, lr_4 hR, mr_4 hR, lr_5 hR, mr_5 hR, lr_6 hR, mr_6 hR, lr_7 hR, mr_7 hR, kr_8 hR, lr_9 hR, mr_9 hR, lr_10 hR, mr_10 hR, kr_11 hR, lr_12 hR, mr_12 hR, lr_13 hR, mr_13 hR, lr_14 hR, mr_14 hR, lr_15 hR, mr_15 hR, lr_16 hR, mr_16 hR, lr_17 hR, mr_17 hR, lr_18 hR, mr_18 hR, lr_19 hR, mr_19 hR, lr_20 hR, mr_20 hR, pr_0 hC hR, pr_1 hC hR, pr_2 hC hR, pr1_0 hC hR, pr1_1 hC hR, pr1_2 hC hR, pr1_3 hC hR, pr1_4 hC hR, pr1_5 hC hR, pr8_0 hC hR, pr8_1 hC hR, prt_0 hC hR, prt_1 hC hR, prt_2 hC hR, prt_3 hC hR, prt_4 hC hR, prt_5 hC hR, prt_6 hC hR, prt_7 hC hR, prt_8 hC hR, hQ.2.2.1.1.2.2, kd_1, kd_2, ln_3, ll_3, kd_46, kd_47, ln_48, ll_48, ln_49, ll_49, kd_50, kd_51, ln_52, ll_52, ln_53, ll_53, ln_54, ll_54, ln_55, ll_55, ln_56, ll_56, ln_57, ll_57, ln_58, ll_58, kd_59, ln_60, ll_60, ln_61, ll_61, ln_62, ll_62, ln_63, ll_63, kd_64, ln_127, ll_127, ln_128, ll_128, ln_129, ll_129, ln_130, ll_130, ln_131, ll_131, ln_132, ll_132, ln_133, ll_133, ln_134, ll_134, kd_135, ln_136, ll_136, pc_1_0 hC, pc_1_3 hC, pc_1_4 hC, pc_1_5 hC, pc_1_6 hC, pc_1_7 hC, pc_1_8 hC, pc_2_0 hC, pc_46_0 hC, pc_50_0 hC, pc_50_1 hC, pc_50_2 hC, pc_50_3 hC, pc_50_4 hC, pc_50_5 hC, pc_64_2 hC, pc_64_3 hC, pc_135_0 hC, am_up_eq, Int.reduceEq, Int.reduceLT, Int.reduceLE, Int.reduceNeg, if_true, if_false, c_const, c_lconst, c_ref, c_iload, c_lload, c_aload, c_istore, c_lstore, c_astore, c_iinc, c_iadd, c_isub, c_imul, c_ladd, c_lsub, c_lmul, c_idiv, c_irem, c_ldiv, c_lrem, c_iand, c_ior, c_ixor, c_ishl, c_ishr, c_ineg, c_i2l, c_l2i, c_i2c, c_lcmp, c_dup, c_pop, c_dup2, c_at, c_icmp_eq, c_icmp_ne, c_icmp_lt, c_icmp_ge, c_icmp_gt, c_icmp_le, c_if_eq, c_if_ne, c_if_lt, c_if_ge, c_if_gt, c_if_le, c_ifnull, c_ifnonnull, am_swK, c_sw, c_iret, c_zret, c_cret, c_bret, c_lret, c_aret, c_vret, c_getI, c_getR, c_putI, c_putZ, c_putR, c_iald, c_zald, c_cald, c_lald, c_oald, c_gald, c_iast, c_zast, c_cast, c_last, c_oast, c_alen, c_callS0, c_callS1, c_callS2, c_callS3, c_callS4, c_callS5, c_callS6, c_callS7, c_callV0, c_callV1, c_callV2, c_callV3, c_callV4, c_callV5, c_callV6, c_callV7, c_callT0, c_callT1, am_nx_eq, am_set, am_set2, am_clr, am_isL, am_push, am_w, am_ent, am_ent1, List.getElem?_cons_zero, List.getElem?_cons_succ, List.set_cons_zero, List.set_cons_succ, List.getD_cons_zero, List.getD_cons_succ, List.cons_append, List.nil_append, List.append_nil, List.replicate_succ, List.replicate_zero, Nat.reduceAdd, Nat.reduceSub, Nat.reduceLeDiff, Bool.false_eq_true, reduceIte, true_and, and_true, true_or, or_true, or_self, am_i32, am_i64, bz_0, bz_01, bz_em, bz_n0, Classical.not_not, am_cmp_lt0, am_cmp_gt0, am_cmp_eq0, am_cmp_ge0, am_cmp_le0, am_cmp_ne0]
  refine k_room hz (fun z1 M1 b p1 s1 f1 eb => ?_)
  rcases p1 with ⟨a, e⟩ | ⟨a, r1, nx1, e⟩
  · have : b = 0 := by rw [eb]; exact bz_f (by omega)
    subst this e
    simp only [b_Reader_readTrick_20, kd_1, kd_2, ln_3, ll_3, kd_46, kd_47, ln_48, ll_48, ln_49, ll_49, kd_50, kd_51, ln_52, ll_52, ln_53, ll_53, ln_54, ll_54, ln_55, ll_55, ln_56, ll_56, ln_57, ll_57, ln_58, ll_58, kd_59, ln_60, ll_60, ln_61, ll_61, ln_62, ll_62, ln_63, ll_63, kd_64, ln_127, ll_127, ln_128, ll_128, ln_129, ll_129, ln_130, ll_130, ln_131, ll_131, ln_132, ll_132, ln_133, ll_133, ln_134, ll_134, kd_135, ln_136, ll_136, pc_1_0 hC, pc_1_3 hC, pc_1_4 hC, pc_1_5 hC, pc_1_6 hC, pc_1_7 hC, pc_1_8 hC, pc_2_0 hC, pc_46_0 hC, pc_50_0 hC, pc_50_1 hC, pc_50_2 hC, pc_50_3 hC, pc_50_4 hC, pc_50_5 hC, pc_64_2 hC, pc_64_3 hC, pc_135_0 hC, am_up_eq, Int.reduceEq, Int.reduceLT, Int.reduceLE, Int.reduceNeg, if_true, if_false, c_const, c_lconst, c_ref, c_iload, c_lload, c_aload, c_istore, c_lstore, c_astore, c_iinc, c_iadd, c_isub, c_imul, c_ladd, c_lsub, c_lmul, c_idiv, c_irem, c_ldiv, c_lrem, c_iand, c_ior, c_ixor, c_ishl, c_ishr, c_ineg, c_i2l, c_l2i, c_i2c, c_lcmp, c_dup, c_pop, c_dup2, c_at, c_icmp_eq, c_icmp_ne, c_icmp_lt, c_icmp_ge, c_icmp_gt, c_icmp_le, c_if_eq, c_if_ne, c_if_lt, c_if_ge, c_if_gt, c_if_le, c_ifnull, c_ifnonnull, am_swK, c_sw, c_iret, c_zret, c_cret, c_bret, c_lret, c_aret, c_vret, c_getI, c_getR, c_putI, c_putZ, c_putR, c_iald, c_zald, c_cald, c_lald, c_oald, c_gald, c_iast, c_zast, c_cast, c_last, c_oast, c_alen, c_callS0, c_callS1, c_callS2, c_callS3, c_callS4, c_callS5, c_callS6, c_callS7, c_callV0, c_callV1, c_callV2, c_callV3, c_callV4, c_callV5, c_callV6, c_callV7, c_callT0, c_callT1, am_nx_eq, am_set, am_set2, am_clr, am_isL, am_push, am_w, am_ent, am_ent1, List.getElem?_cons_zero, List.getElem?_cons_succ, List.set_cons_zero, List.set_cons_succ, List.getD_cons_zero, List.getD_cons_succ, List.cons_append, List.nil_append, List.append_nil, List.replicate_succ, List.replicate_zero, Nat.reduceAdd, Nat.reduceSub, Nat.reduceLeDiff, Bool.false_eq_true, reduceIte, true_and, and_true, true_or, or_true, or_self, am_i32, am_i64, bz_0, bz_01, bz_em, bz_n0, Classical.not_not, am_cmp_lt0, am_cmp_gt0, am_cmp_eq0, am_cmp_ge0, am_cmp_le0, am_cmp_ne0]
    try simp only [Int.reduceEq, Int.reduceLT, Int.reduceLE, Int.reduceNeg, not_true_eq_false, not_false_eq_true, false_implies, true_implies, implies_true, true_and, and_true]
    exact h _ D lc M1 (Or.inr (Or.inr (Or.inr (Or.inl ⟨hw0, hw6, hw7, hw, _, Or.inl ⟨a, rfl⟩, rfl⟩)))) ⟨s1, f1.fr, fun r' e => by cases e⟩
  have : b = 1 := by rw [eb]; exact bz_t (by omega)
  subst this e
  simp only [b_Reader_readTrick_20, kd_1, kd_2, ln_3, ll_3, kd_46, kd_47, ln_48, ll_48, ln_49, ll_49, kd_50, kd_51, ln_52, ll_52, ln_53, ll_53, ln_54, ll_54, ln_55, ll_55, ln_56, ll_56, ln_57, ll_57, ln_58, ll_58, kd_59, ln_60, ll_60, ln_61, ll_61, ln_62, ll_62, ln_63, ll_63, kd_64, ln_127, ll_127, ln_128, ll_128, ln_129, ll_129, ln_130, ll_130, ln_131, ll_131, ln_132, ll_132, ln_133, ll_133, ln_134, ll_134, kd_135, ln_136, ll_136, pc_1_0 hC, pc_1_3 hC, pc_1_4 hC, pc_1_5 hC, pc_1_6 hC, pc_1_7 hC, pc_1_8 hC, pc_2_0 hC, pc_46_0 hC, pc_50_0 hC, pc_50_1 hC, pc_50_2 hC, pc_50_3 hC, pc_50_4 hC, pc_50_5 hC, pc_64_2 hC, pc_64_3 hC, pc_135_0 hC, am_up_eq, Int.reduceEq, Int.reduceLT, Int.reduceLE, Int.reduceNeg, if_true, if_false, c_const, c_lconst, c_ref, c_iload, c_lload, c_aload, c_istore, c_lstore, c_astore, c_iinc, c_iadd, c_isub, c_imul, c_ladd, c_lsub, c_lmul, c_idiv, c_irem, c_ldiv, c_lrem, c_iand, c_ior, c_ixor, c_ishl, c_ishr, c_ineg, c_i2l, c_l2i, c_i2c, c_lcmp, c_dup, c_pop, c_dup2, c_at, c_icmp_eq, c_icmp_ne, c_icmp_lt, c_icmp_ge, c_icmp_gt, c_icmp_le, c_if_eq, c_if_ne, c_if_lt, c_if_ge, c_if_gt, c_if_le, c_ifnull, c_ifnonnull, am_swK, c_sw, c_iret, c_zret, c_cret, c_bret, c_lret, c_aret, c_vret, c_getI, c_getR, c_putI, c_putZ, c_putR, c_iald, c_zald, c_cald, c_lald, c_oald, c_gald, c_iast, c_zast, c_cast, c_last, c_oast, c_alen, c_callS0, c_callS1, c_callS2, c_callS3, c_callS4, c_callS5, c_callS6, c_callS7, c_callV0, c_callV1, c_callV2, c_callV3, c_callV4, c_callV5, c_callV6, c_callV7, c_callT0, c_callT1, am_nx_eq, am_set, am_set2, am_clr, am_isL, am_push, am_w, am_ent, am_ent1, List.getElem?_cons_zero, List.getElem?_cons_succ, List.set_cons_zero, List.set_cons_succ, List.getD_cons_zero, List.getD_cons_succ, List.cons_append, List.nil_append, List.append_nil, List.replicate_succ, List.replicate_zero, Nat.reduceAdd, Nat.reduceSub, Nat.reduceLeDiff, Bool.false_eq_true, reduceIte, true_and, and_true, true_or, or_true, or_self, am_i32, am_i64, bz_0, bz_01, bz_em, bz_n0, Classical.not_not, am_cmp_lt0, am_cmp_gt0, am_cmp_eq0, am_cmp_ge0, am_cmp_le0, am_cmp_ne0]
  try simp only [Int.reduceEq, Int.reduceLT, Int.reduceLE, Int.reduceNeg, not_true_eq_false, not_false_eq_true, false_implies, true_implies, implies_true, true_and, and_true]
  refine k_newName hb s1 (nx9_L nx1) (hQ.r46 f1) (fun z2 v2 M2 p2 e2 s2 f2 => ?_)
  simp only [kd_1, kd_2, ln_3, ll_3, kd_46, kd_47, ln_48, ll_48, ln_49, ll_49, kd_50, kd_51, ln_52, ll_52, ln_53, ll_53, ln_54, ll_54, ln_55, ll_55, ln_56, ll_56, ln_57, ll_57, ln_58, ll_58, kd_59, ln_60, ll_60, ln_61, ll_61, ln_62, ll_62, ln_63, ll_63, kd_64, ln_127, ll_127, ln_128, ll_128, ln_129, ll_129, ln_130, ll_130, ln_131, ll_131, ln_132, ll_132, ln_133, ll_133, ln_134, ll_134, kd_135, ln_136, ll_136, pc_1_0 hC, pc_1_3 hC, pc_1_4 hC, pc_1_5 hC, pc_1_6 hC, pc_1_7 hC, pc_1_8 hC, pc_2_0 hC, pc_46_0 hC, pc_50_0 hC, pc_50_1 hC, pc_50_2 hC, pc_50_3 hC, pc_50_4 hC, pc_50_5 hC, pc_64_2 hC, pc_64_3 hC, pc_135_0 hC, am_up_eq, Int.reduceEq, Int.reduceLT, Int.reduceLE, Int.reduceNeg, if_true, if_false, c_const, c_lconst, c_ref, c_iload, c_lload, c_aload, c_istore, c_lstore, c_astore, c_iinc, c_iadd, c_isub, c_imul, c_ladd, c_lsub, c_lmul, c_idiv, c_irem, c_ldiv, c_lrem, c_iand, c_ior, c_ixor, c_ishl, c_ishr, c_ineg, c_i2l, c_l2i, c_i2c, c_lcmp, c_dup, c_pop, c_dup2, c_at, c_icmp_eq, c_icmp_ne, c_icmp_lt, c_icmp_ge, c_icmp_gt, c_icmp_le, c_if_eq, c_if_ne, c_if_lt, c_if_ge, c_if_gt, c_if_le, c_ifnull, c_ifnonnull, am_swK, c_sw, c_iret, c_zret, c_cret, c_bret, c_lret, c_aret, c_vret, c_getI, c_getR, c_putI, c_putZ, c_putR, c_iald, c_zald, c_cald, c_lald, c_oald, c_gald, c_iast, c_zast, c_cast, c_last, c_oast, c_alen, c_callS0, c_callS1, c_callS2, c_callS3, c_callS4, c_callS5, c_callS6, c_callS7, c_callV0, c_callV1, c_callV2, c_callV3, c_callV4, c_callV5, c_callV6, c_callV7, c_callT0, c_callT1, am_nx_eq, am_set, am_set2, am_clr, am_isL, am_push, am_w, am_ent, am_ent1, List.getElem?_cons_zero, List.getElem?_cons_succ, List.set_cons_zero, List.set_cons_succ, List.getD_cons_zero, List.getD_cons_succ, List.cons_append, List.nil_append, List.append_nil, List.replicate_succ, List.replicate_zero, Nat.reduceAdd, Nat.reduceSub, Nat.reduceLeDiff, Bool.false_eq_true, reduceIte, true_and, and_true, true_or, or_true, or_self, am_i32, am_i64, bz_0, bz_01, bz_em, bz_n0, Classical.not_not, am_cmp_lt0, am_cmp_gt0, am_cmp_eq0, am_cmp_ge0, am_cmp_le0, am_cmp_ne0]
  refine k_nbS (q := 9) (by decide) hb s2 (fun z3 z4 v4 M4 p3 p4 s4 f4 => ?_)
  simp only [kd_1, kd_2, ln_3, ll_3, kd_46, kd_47, ln_48, ll_48, ln_49, ll_49, kd_50, kd_51, ln_52, ll_52, ln_53, ll_53, ln_54, ll_54, ln_55, ll_55, ln_56, ll_56, ln_57, ll_57, ln_58, ll_58, kd_59, ln_60, ll_60, ln_61, ll_61, ln_62, ll_62, ln_63, ll_63, kd_64, ln_127, ll_127, ln_128, ll_128, ln_129, ll_129, ln_130, ll_130, ln_131, ll_131, ln_132, ll_132, ln_133, ll_133, ln_134, ll_134, kd_135, ln_136, ll_136, pc_1_0 hC, pc_1_3 hC, pc_1_4 hC, pc_1_5 hC, pc_1_6 hC, pc_1_7 hC, pc_1_8 hC, pc_2_0 hC, pc_46_0 hC, pc_50_0 hC, pc_50_1 hC, pc_50_2 hC, pc_50_3 hC, pc_50_4 hC, pc_50_5 hC, pc_64_2 hC, pc_64_3 hC, pc_135_0 hC, am_up_eq, Int.reduceEq, Int.reduceLT, Int.reduceLE, Int.reduceNeg, if_true, if_false, c_const, c_lconst, c_ref, c_iload, c_lload, c_aload, c_istore, c_lstore, c_astore, c_iinc, c_iadd, c_isub, c_imul, c_ladd, c_lsub, c_lmul, c_idiv, c_irem, c_ldiv, c_lrem, c_iand, c_ior, c_ixor, c_ishl, c_ishr, c_ineg, c_i2l, c_l2i, c_i2c, c_lcmp, c_dup, c_pop, c_dup2, c_at, c_icmp_eq, c_icmp_ne, c_icmp_lt, c_icmp_ge, c_icmp_gt, c_icmp_le, c_if_eq, c_if_ne, c_if_lt, c_if_ge, c_if_gt, c_if_le, c_ifnull, c_ifnonnull, am_swK, c_sw, c_iret, c_zret, c_cret, c_bret, c_lret, c_aret, c_vret, c_getI, c_getR, c_putI, c_putZ, c_putR, c_iald, c_zald, c_cald, c_lald, c_oald, c_gald, c_iast, c_zast, c_cast, c_last, c_oast, c_alen, c_callS0, c_callS1, c_callS2, c_callS3, c_callS4, c_callS5, c_callS6, c_callS7, c_callV0, c_callV1, c_callV2, c_callV3, c_callV4, c_callV5, c_callV6, c_callV7, c_callT0, c_callT1, am_nx_eq, am_set, am_set2, am_clr, am_isL, am_push, am_w, am_ent, am_ent1, List.getElem?_cons_zero, List.getElem?_cons_succ, List.set_cons_zero, List.set_cons_succ, List.getD_cons_zero, List.getD_cons_succ, List.cons_append, List.nil_append, List.append_nil, List.replicate_succ, List.replicate_zero, Nat.reduceAdd, Nat.reduceSub, Nat.reduceLeDiff, Bool.false_eq_true, reduceIte, true_and, and_true, true_or, or_true, or_self, am_i32, am_i64, bz_0, bz_01, bz_em, bz_n0, Classical.not_not, am_cmp_lt0, am_cmp_gt0, am_cmp_eq0, am_cmp_ge0, am_cmp_le0, am_cmp_ne0]
  refine k_nbS (q := 10) (by decide) hb s4 (fun z5 z6 v6 M6 p5 p6 s6 f6 => ?_)
  simp only [kd_1, kd_2, ln_3, ll_3, kd_46, kd_47, ln_48, ll_48, ln_49, ll_49, kd_50, kd_51, ln_52, ll_52, ln_53, ll_53, ln_54, ll_54, ln_55, ll_55, ln_56, ll_56, ln_57, ll_57, ln_58, ll_58, kd_59, ln_60, ll_60, ln_61, ll_61, ln_62, ll_62, ln_63, ll_63, kd_64, ln_127, ll_127, ln_128, ll_128, ln_129, ll_129, ln_130, ll_130, ln_131, ll_131, ln_132, ll_132, ln_133, ll_133, ln_134, ll_134, kd_135, ln_136, ll_136, pc_1_0 hC, pc_1_3 hC, pc_1_4 hC, pc_1_5 hC, pc_1_6 hC, pc_1_7 hC, pc_1_8 hC, pc_2_0 hC, pc_46_0 hC, pc_50_0 hC, pc_50_1 hC, pc_50_2 hC, pc_50_3 hC, pc_50_4 hC, pc_50_5 hC, pc_64_2 hC, pc_64_3 hC, pc_135_0 hC, am_up_eq, Int.reduceEq, Int.reduceLT, Int.reduceLE, Int.reduceNeg, if_true, if_false, c_const, c_lconst, c_ref, c_iload, c_lload, c_aload, c_istore, c_lstore, c_astore, c_iinc, c_iadd, c_isub, c_imul, c_ladd, c_lsub, c_lmul, c_idiv, c_irem, c_ldiv, c_lrem, c_iand, c_ior, c_ixor, c_ishl, c_ishr, c_ineg, c_i2l, c_l2i, c_i2c, c_lcmp, c_dup, c_pop, c_dup2, c_at, c_icmp_eq, c_icmp_ne, c_icmp_lt, c_icmp_ge, c_icmp_gt, c_icmp_le, c_if_eq, c_if_ne, c_if_lt, c_if_ge, c_if_gt, c_if_le, c_ifnull, c_ifnonnull, am_swK, c_sw, c_iret, c_zret, c_cret, c_bret, c_lret, c_aret, c_vret, c_getI, c_getR, c_putI, c_putZ, c_putR, c_iald, c_zald, c_cald, c_lald, c_oald, c_gald, c_iast, c_zast, c_cast, c_last, c_oast, c_alen, c_callS0, c_callS1, c_callS2, c_callS3, c_callS4, c_callS5, c_callS6, c_callS7, c_callV0, c_callV1, c_callV2, c_callV3, c_callV4, c_callV5, c_callV6, c_callV7, c_callT0, c_callT1, am_nx_eq, am_set, am_set2, am_clr, am_isL, am_push, am_w, am_ent, am_ent1, List.getElem?_cons_zero, List.getElem?_cons_succ, List.set_cons_zero, List.set_cons_succ, List.getD_cons_zero, List.getD_cons_succ, List.cons_append, List.nil_append, List.append_nil, List.replicate_succ, List.replicate_zero, Nat.reduceAdd, Nat.reduceSub, Nat.reduceLeDiff, Bool.false_eq_true, reduceIte, true_and, and_true, true_or, or_true, or_self, am_i32, am_i64, bz_0, bz_01, bz_em, bz_n0, Classical.not_not, am_cmp_lt0, am_cmp_gt0, am_cmp_eq0, am_cmp_ge0, am_cmp_le0, am_cmp_ne0]
  refine k_pwS (q := 11) (by decide) s6 (fun z7 M7 p7 s7 f7 => ?_)
  have ff := (((f1.tr f2).tr f4).tr f6).tr f7
  have hQ7 := hQ.r46 ff
  have q1 := hQ7.2.1
  have q3 := hQ7.2.2.1
  have cnt : M7 (S + 11) 10 = D 0 2 := q3.1.2.2
  have len7 : M7 (S + 11) 9 = lc := hQ7.2.2.2.2.2.1
  have hC := s7.pc
  simp only [q1, kr_0 hR, kr_1 hR, lr_2 hR, mr_2 hR, lr_3 hR, mr_3 hR, lr_4 hR, mr_4 hR, lr_5 hR, mr_5 hR, lr_6 hR, mr_6 hR, lr_7 hR, mr_7 hR, kr_8 hR, lr_9 hR, mr_9 hR, lr_10 hR, mr_10 hR, kr_11 hR, lr_12 hR, mr_12 hR, lr_13 hR, mr_13 hR, lr_14 hR, mr_14 hR, lr_15 hR, mr_15 hR, lr_16 hR, mr_16 hR, lr_17 hR, mr_17 hR, lr_18 hR, mr_18 hR, lr_19 hR, mr_19 hR, lr_20 hR, mr_20 hR, pr_0 hC hR, pr_1 hC hR, pr_2 hC hR, pr1_0 hC hR, pr1_1 hC hR, pr1_2 hC hR, pr1_3 hC hR, pr1_4 hC hR, pr1_5 hC hR, pr8_0 hC hR, pr8_1 hC hR, prt_0 hC hR, prt_1 hC hR, prt_2 hC hR, prt_3 hC hR, prt_4 hC hR, prt_5 hC hR, prt_6 hC hR, prt_7 hC hR, prt_8 hC hR, kd_1, kd_2, ln_3, ll_3, kd_46, kd_47, ln_48, ll_48, ln_49, ll_49, kd_50, kd_51, ln_52, ll_52, ln_53, ll_53, ln_54, ll_54, ln_55, ll_55, ln_56, ll_56, ln_57, ll_57, ln_58, ll_58, kd_59, ln_60, ll_60, ln_61, ll_61, ln_62, ll_62, ln_63, ll_63, kd_64, ln_127, ll_127, ln_128, ll_128, ln_129, ll_129, ln_130, ll_130, ln_131, ll_131, ln_132, ll_132, ln_133, ll_133, ln_134, ll_134, kd_135, ln_136, ll_136, pc_1_0 hC, pc_1_3 hC, pc_1_4 hC, pc_1_5 hC, pc_1_6 hC, pc_1_7 hC, pc_1_8 hC, pc_2_0 hC, pc_46_0 hC, pc_50_0 hC, pc_50_1 hC, pc_50_2 hC, pc_50_3 hC, pc_50_4 hC, pc_50_5 hC, pc_64_2 hC, pc_64_3 hC, pc_135_0 hC, am_up_eq, Int.reduceEq, Int.reduceLT, Int.reduceLE, Int.reduceNeg, if_true, if_false, c_const, c_lconst, c_ref, c_iload, c_lload, c_aload, c_istore, c_lstore, c_astore, c_iinc, c_iadd, c_isub, c_imul, c_ladd, c_lsub, c_lmul, c_idiv, c_irem, c_ldiv, c_lrem, c_iand, c_ior, c_ixor, c_ishl, c_ishr, c_ineg, c_i2l, c_l2i, c_i2c, c_lcmp, c_dup, c_pop, c_dup2, c_at, c_icmp_eq, c_icmp_ne, c_icmp_lt, c_icmp_ge, c_icmp_gt, c_icmp_le, c_if_eq, c_if_ne, c_if_lt, c_if_ge, c_if_gt, c_if_le, c_ifnull, c_ifnonnull, am_swK, c_sw, c_iret, c_zret, c_cret, c_bret, c_lret, c_aret, c_vret, c_getI, c_getR, c_putI, c_putZ, c_putR, c_iald, c_zald, c_cald, c_lald, c_oald, c_gald, c_iast, c_zast, c_cast, c_last, c_oast, c_alen, c_callS0, c_callS1, c_callS2, c_callS3, c_callS4, c_callS5, c_callS6, c_callS7, c_callV0, c_callV1, c_callV2, c_callV3, c_callV4, c_callV5, c_callV6, c_callV7, c_callT0, c_callT1, am_nx_eq, am_set, am_set2, am_clr, am_isL, am_push, am_w, am_ent, am_ent1, List.getElem?_cons_zero, List.getElem?_cons_succ, List.set_cons_zero, List.set_cons_succ, List.getD_cons_zero, List.getD_cons_succ, List.cons_append, List.nil_append, List.append_nil, List.replicate_succ, List.replicate_zero, Nat.reduceAdd, Nat.reduceSub, Nat.reduceLeDiff, Bool.false_eq_true, reduceIte, true_and, and_true, true_or, or_true, or_self, am_i32, am_i64, bz_0, bz_01, bz_em, bz_n0, Classical.not_not, am_cmp_lt0, am_cmp_gt0, am_cmp_eq0, am_cmp_ge0, am_cmp_le0, am_cmp_ne0]
  refine k_trkOpen hC hR cnt ⟨c0.1, a⟩ ?_
  rw [len7]
  generalize hMo : am_up (am_up (am_up (am_up (am_up (am_up M7 (S + 12) (D 0 2) v2) (S + 13) (D 0 2) v4) (S + 14) (D 0 2) v6) (S + 15) (D 0 2) lc) (S + 18) (D 0 2) 0) (S + 19) (D 0 2) 0 = Mo
  have hCo : am_PC Mo := by
    rw [← hMo]
    exact pcRg (pcRg (pcRg (pcRg (pcRg (pcRg hC hR (by omega)) hR (by omega)) hR (by omega)) hR (by omega)) hR (by omega)) hR (by omega)
  have eo : ∀ o, (o < S + 12 ∨ (S + 15 < o ∧ o < S + 18) ∨ S + 19 < o) → Mo o = M7 o := fun o w => by rw [← hMo]; simp (disch := omega) only [am_up_o]
  have frO : FR S M Mo := ff.fr.tr ⟨fun o a b => eo o (by omega), fun j _ => by rw [eo 46 (by omega)]⟩
  have cnto : Mo (S + 11) 10 = D 0 2 := by rw [eo _ (by omega)]; exact cnt
  simp only [kd_1, kd_2, ln_3, ll_3, kd_46, kd_47, ln_48, ll_48, ln_49, ll_49, kd_50, kd_51, ln_52, ll_52, ln_53, ll_53, ln_54, ll_54, ln_55, ll_55, ln_56, ll_56, ln_57, ll_57, ln_58, ll_58, kd_59, ln_60, ll_60, ln_61, ll_61, ln_62, ll_62, ln_63, ll_63, kd_64, ln_127, ll_127, ln_128, ll_128, ln_129, ll_129, ln_130, ll_130, ln_131, ll_131, ln_132, ll_132, ln_133, ll_133, ln_134, ll_134, kd_135, ln_136, ll_136, pc_1_0 hC, pc_1_3 hC, pc_1_4 hC, pc_1_5 hC, pc_1_6 hC, pc_1_7 hC, pc_1_8 hC, pc_2_0 hC, pc_46_0 hC, pc_50_0 hC, pc_50_1 hC, pc_50_2 hC, pc_50_3 hC, pc_50_4 hC, pc_50_5 hC, pc_64_2 hC, pc_64_3 hC, pc_135_0 hC, am_up_eq, Int.reduceEq, Int.reduceLT, Int.reduceLE, Int.reduceNeg, if_true, if_false, c_const, c_lconst, c_ref, c_iload, c_lload, c_aload, c_istore, c_lstore, c_astore, c_iinc, c_iadd, c_isub, c_imul, c_ladd, c_lsub, c_lmul, c_idiv, c_irem, c_ldiv, c_lrem, c_iand, c_ior, c_ixor, c_ishl, c_ishr, c_ineg, c_i2l, c_l2i, c_i2c, c_lcmp, c_dup, c_pop, c_dup2, c_at, c_icmp_eq, c_icmp_ne, c_icmp_lt, c_icmp_ge, c_icmp_gt, c_icmp_le, c_if_eq, c_if_ne, c_if_lt, c_if_ge, c_if_gt, c_if_le, c_ifnull, c_ifnonnull, am_swK, c_sw, c_iret, c_zret, c_cret, c_bret, c_lret, c_aret, c_vret, c_getI, c_getR, c_putI, c_putZ, c_putR, c_iald, c_zald, c_cald, c_lald, c_oald, c_gald, c_iast, c_zast, c_cast, c_last, c_oast, c_alen, c_callS0, c_callS1, c_callS2, c_callS3, c_callS4, c_callS5, c_callS6, c_callS7, c_callV0, c_callV1, c_callV2, c_callV3, c_callV4, c_callV5, c_callV6, c_callV7, c_callT0, c_callT1, am_nx_eq, am_set, am_set2, am_clr, am_isL, am_push, am_w, am_ent, am_ent1, List.getElem?_cons_zero, List.getElem?_cons_succ, List.set_cons_zero, List.set_cons_succ, List.getD_cons_zero, List.getD_cons_succ, List.cons_append, List.nil_append, List.append_nil, List.replicate_succ, List.replicate_zero, Nat.reduceAdd, Nat.reduceSub, Nat.reduceLeDiff, Bool.false_eq_true, reduceIte, true_and, and_true, true_or, or_true, or_self, am_i32, am_i64, bz_0, bz_01, bz_em, bz_n0, Classical.not_not, am_cmp_lt0, am_cmp_gt0, am_cmp_eq0, am_cmp_ge0, am_cmp_le0, am_cmp_ne0]
  have body : ∀ z8 z9 z10 us vs, rdR T n 3 z7 z8 us → pwR T n 22 z8 z9 → rdR T n 5 z9 z10 vs → bdR T n D lc r z10 (adTrk D (nL9 T r1) (r1.2.2 - r1.2.1) v4 v6 lc us vs) (lc + us.length + vs.length) := fun z8 z9 z10 us vs g1 g2 g3 => Or.inr (Or.inr (Or.inr (Or.inl ⟨hw0, hw6, hw7, hw, _, Or.inr ⟨a, r1, nx1, rfl⟩, z2, z3, z4, z5, z6, z7, z8, z9, z10, v4, v6, us, vs, p2, p3, p4, p5, p6, p7, g1, g2, g3, rfl, rfl, rfl⟩)))
  cases z7 with
  | inr p =>
    have so := s7.eqr hCo (eo 46 (by omega))
    have e5 : Mo 46 5 ≠ 0 := by rw [so.2.2.1]; exact so.2.1
    refine z_readSum _ Mo _ _ (by omega) hCo e5 ?_
    have eo1 : Mo 46 1 = S := by rw [eo 46 (by omega)]; exact q1
    have hC := hCo
    simp only [eo1, kr_0 hR, kr_1 hR, lr_2 hR, mr_2 hR, lr_3 hR, mr_3 hR, lr_4 hR, mr_4 hR, lr_5 hR, mr_5 hR, lr_6 hR, mr_6 hR, lr_7 hR, mr_7 hR, kr_8 hR, lr_9 hR, mr_9 hR, lr_10 hR, mr_10 hR, kr_11 hR, lr_12 hR, mr_12 hR, lr_13 hR, mr_13 hR, lr_14 hR, mr_14 hR, lr_15 hR, mr_15 hR, lr_16 hR, mr_16 hR, lr_17 hR, mr_17 hR, lr_18 hR, mr_18 hR, lr_19 hR, mr_19 hR, lr_20 hR, mr_20 hR, pr_0 hC hR, pr_1 hC hR, pr_2 hC hR, pr1_0 hC hR, pr1_1 hC hR, pr1_2 hC hR, pr1_3 hC hR, pr1_4 hC hR, pr1_5 hC hR, pr8_0 hC hR, pr8_1 hC hR, prt_0 hC hR, prt_1 hC hR, prt_2 hC hR, prt_3 hC hR, prt_4 hC hR, prt_5 hC hR, prt_6 hC hR, prt_7 hC hR, prt_8 hC hR, kd_1, kd_2, ln_3, ll_3, kd_46, kd_47, ln_48, ll_48, ln_49, ll_49, kd_50, kd_51, ln_52, ll_52, ln_53, ll_53, ln_54, ll_54, ln_55, ll_55, ln_56, ll_56, ln_57, ll_57, ln_58, ll_58, kd_59, ln_60, ll_60, ln_61, ll_61, ln_62, ll_62, ln_63, ll_63, kd_64, ln_127, ll_127, ln_128, ll_128, ln_129, ll_129, ln_130, ll_130, ln_131, ll_131, ln_132, ll_132, ln_133, ll_133, ln_134, ll_134, kd_135, ln_136, ll_136, pc_1_0 hC, pc_1_3 hC, pc_1_4 hC, pc_1_5 hC, pc_1_6 hC, pc_1_7 hC, pc_1_8 hC, pc_2_0 hC, pc_46_0 hC, pc_50_0 hC, pc_50_1 hC, pc_50_2 hC, pc_50_3 hC, pc_50_4 hC, pc_50_5 hC, pc_64_2 hC, pc_64_3 hC, pc_135_0 hC, am_up_eq, Int.reduceEq, Int.reduceLT, Int.reduceLE, Int.reduceNeg, if_true, if_false, c_const, c_lconst, c_ref, c_iload, c_lload, c_aload, c_istore, c_lstore, c_astore, c_iinc, c_iadd, c_isub, c_imul, c_ladd, c_lsub, c_lmul, c_idiv, c_irem, c_ldiv, c_lrem, c_iand, c_ior, c_ixor, c_ishl, c_ishr, c_ineg, c_i2l, c_l2i, c_i2c, c_lcmp, c_dup, c_pop, c_dup2, c_at, c_icmp_eq, c_icmp_ne, c_icmp_lt, c_icmp_ge, c_icmp_gt, c_icmp_le, c_if_eq, c_if_ne, c_if_lt, c_if_ge, c_if_gt, c_if_le, c_ifnull, c_ifnonnull, am_swK, c_sw, c_iret, c_zret, c_cret, c_bret, c_lret, c_aret, c_vret, c_getI, c_getR, c_putI, c_putZ, c_putR, c_iald, c_zald, c_cald, c_lald, c_oald, c_gald, c_iast, c_zast, c_cast, c_last, c_oast, c_alen, c_callS0, c_callS1, c_callS2, c_callS3, c_callS4, c_callS5, c_callS6, c_callS7, c_callV0, c_callV1, c_callV2, c_callV3, c_callV4, c_callV5, c_callV6, c_callV7, c_callT0, c_callT1, am_nx_eq, am_set, am_set2, am_clr, am_isL, am_push, am_w, am_ent, am_ent1, List.getElem?_cons_zero, List.getElem?_cons_succ, List.set_cons_zero, List.set_cons_succ, List.getD_cons_zero, List.getD_cons_succ, List.cons_append, List.nil_append, List.append_nil, List.replicate_succ, List.replicate_zero, Nat.reduceAdd, Nat.reduceSub, Nat.reduceLeDiff, Bool.false_eq_true, reduceIte, true_and, and_true, true_or, or_true, or_self, am_i32, am_i64, bz_0, bz_01, bz_em, bz_n0, Classical.not_not, am_cmp_lt0, am_cmp_gt0, am_cmp_eq0, am_cmp_ge0, am_cmp_le0, am_cmp_ne0]
    refine k_trkCs hCo hR cnto ⟨c0.1, a⟩ ?_
    have hCc : am_PC (am_up Mo (S + 16) (D 0 2) (Mo (S + 11) 9)) := pcRg hCo hR (by omega)
    have sc := so.eqr hCc (am_up_o _ (by omega))
    have e5c : am_up Mo (S + 16) (D 0 2) (Mo (S + 11) 9) 46 5 ≠ 0 := by rw [sc.2.2.1]; exact sc.2.1
    simp only [kd_46, c_const, c_lconst, c_ref, c_iload, c_lload, c_aload, c_istore, c_lstore, c_astore, c_iinc, c_iadd, c_isub, c_imul, c_ladd, c_lsub, c_lmul, c_idiv, c_irem, c_ldiv, c_lrem, c_iand, c_ior, c_ixor, c_ishl, c_ishr, c_ineg, c_i2l, c_l2i, c_i2c, c_lcmp, c_dup, c_pop, c_dup2, c_at, c_icmp_eq, c_icmp_ne, c_icmp_lt, c_icmp_ge, c_icmp_gt, c_icmp_le, c_if_eq, c_if_ne, c_if_lt, c_if_ge, c_if_gt, c_if_le, c_ifnull, c_ifnonnull, am_swK, c_sw, c_iret, c_zret, c_cret, c_bret, c_lret, c_aret, c_vret, c_getI, c_getR, c_putI, c_putZ, c_putR, c_iald, c_zald, c_cald, c_lald, c_oald, c_gald, c_iast, c_zast, c_cast, c_last, c_oast, c_alen, c_callS0, c_callS1, c_callS2, c_callS3, c_callS4, c_callS5, c_callS6, c_callS7, c_callV0, c_callV1, c_callV2, c_callV3, c_callV4, c_callV5, c_callV6, c_callV7, c_callT0, c_callT1, am_nx_eq, am_set, am_set2, am_clr, am_isL, am_push, am_w, am_ent, am_ent1, List.getElem?_cons_zero, List.getElem?_cons_succ, List.set_cons_zero, List.set_cons_succ, List.getD_cons_zero, List.getD_cons_succ, List.cons_append, List.nil_append, List.append_nil, List.replicate_succ, List.replicate_zero, Nat.reduceAdd, Nat.reduceSub, Nat.reduceLeDiff, Bool.false_eq_true, reduceIte, true_and, and_true, true_or, or_true, or_self, am_i32, am_i64, bz_0, bz_01, bz_em, bz_n0, Classical.not_not, am_cmp_lt0, am_cmp_gt0, am_cmp_eq0, am_cmp_ge0, am_cmp_le0, am_cmp_ne0]
    refine k_passWordZ hCc e5c ?_
    simp only [kd_46, c_const, c_lconst, c_ref, c_iload, c_lload, c_aload, c_istore, c_lstore, c_astore, c_iinc, c_iadd, c_isub, c_imul, c_ladd, c_lsub, c_lmul, c_idiv, c_irem, c_ldiv, c_lrem, c_iand, c_ior, c_ixor, c_ishl, c_ishr, c_ineg, c_i2l, c_l2i, c_i2c, c_lcmp, c_dup, c_pop, c_dup2, c_at, c_icmp_eq, c_icmp_ne, c_icmp_lt, c_icmp_ge, c_icmp_gt, c_icmp_le, c_if_eq, c_if_ne, c_if_lt, c_if_ge, c_if_gt, c_if_le, c_ifnull, c_ifnonnull, am_swK, c_sw, c_iret, c_zret, c_cret, c_bret, c_lret, c_aret, c_vret, c_getI, c_getR, c_putI, c_putZ, c_putR, c_iald, c_zald, c_cald, c_lald, c_oald, c_gald, c_iast, c_zast, c_cast, c_last, c_oast, c_alen, c_callS0, c_callS1, c_callS2, c_callS3, c_callS4, c_callS5, c_callS6, c_callS7, c_callV0, c_callV1, c_callV2, c_callV3, c_callV4, c_callV5, c_callV6, c_callV7, c_callT0, c_callT1, am_nx_eq, am_set, am_set2, am_clr, am_isL, am_push, am_w, am_ent, am_ent1, List.getElem?_cons_zero, List.getElem?_cons_succ, List.set_cons_zero, List.set_cons_succ, List.getD_cons_zero, List.getD_cons_succ, List.cons_append, List.nil_append, List.append_nil, List.replicate_succ, List.replicate_zero, Nat.reduceAdd, Nat.reduceSub, Nat.reduceLeDiff, Bool.false_eq_true, reduceIte, true_and, and_true, true_or, or_true, or_self, am_i32, am_i64, bz_0, bz_01, bz_em, bz_n0, Classical.not_not, am_cmp_lt0, am_cmp_gt0, am_cmp_eq0, am_cmp_ge0, am_cmp_le0, am_cmp_ne0]
    refine z_readTest _ _ _ _ (by omega) hCc e5c ?_
    simp only [kd_46, c_const, c_lconst, c_ref, c_iload, c_lload, c_aload, c_istore, c_lstore, c_astore, c_iinc, c_iadd, c_isub, c_imul, c_ladd, c_lsub, c_lmul, c_idiv, c_irem, c_ldiv, c_lrem, c_iand, c_ior, c_ixor, c_ishl, c_ishr, c_ineg, c_i2l, c_l2i, c_i2c, c_lcmp, c_dup, c_pop, c_dup2, c_at, c_icmp_eq, c_icmp_ne, c_icmp_lt, c_icmp_ge, c_icmp_gt, c_icmp_le, c_if_eq, c_if_ne, c_if_lt, c_if_ge, c_if_gt, c_if_le, c_ifnull, c_ifnonnull, am_swK, c_sw, c_iret, c_zret, c_cret, c_bret, c_lret, c_aret, c_vret, c_getI, c_getR, c_putI, c_putZ, c_putR, c_iald, c_zald, c_cald, c_lald, c_oald, c_gald, c_iast, c_zast, c_cast, c_last, c_oast, c_alen, c_callS0, c_callS1, c_callS2, c_callS3, c_callS4, c_callS5, c_callS6, c_callS7, c_callV0, c_callV1, c_callV2, c_callV3, c_callV4, c_callV5, c_callV6, c_callV7, c_callT0, c_callT1, am_nx_eq, am_set, am_set2, am_clr, am_isL, am_push, am_w, am_ent, am_ent1, List.getElem?_cons_zero, List.getElem?_cons_succ, List.set_cons_zero, List.set_cons_succ, List.getD_cons_zero, List.getD_cons_succ, List.cons_append, List.nil_append, List.append_nil, List.replicate_succ, List.replicate_zero, Nat.reduceAdd, Nat.reduceSub, Nat.reduceLeDiff, Bool.false_eq_true, reduceIte, true_and, and_true, true_or, or_true, or_self, am_i32, am_i64, bz_0, bz_01, bz_em, bz_n0, Classical.not_not, am_cmp_lt0, am_cmp_gt0, am_cmp_eq0, am_cmp_ge0, am_cmp_le0, am_cmp_ne0]
    refine ⟨fun _ => ?_, fun w => absurd w e5c⟩
    simp only [b_Reader_readTrick_107, c_const, c_lconst, c_ref, c_iload, c_lload, c_aload, c_istore, c_lstore, c_astore, c_iinc, c_iadd, c_isub, c_imul, c_ladd, c_lsub, c_lmul, c_idiv, c_irem, c_ldiv, c_lrem, c_iand, c_ior, c_ixor, c_ishl, c_ishr, c_ineg, c_i2l, c_l2i, c_i2c, c_lcmp, c_dup, c_pop, c_dup2, c_at, c_icmp_eq, c_icmp_ne, c_icmp_lt, c_icmp_ge, c_icmp_gt, c_icmp_le, c_if_eq, c_if_ne, c_if_lt, c_if_ge, c_if_gt, c_if_le, c_ifnull, c_ifnonnull, am_swK, c_sw, c_iret, c_zret, c_cret, c_bret, c_lret, c_aret, c_vret, c_getI, c_getR, c_putI, c_putZ, c_putR, c_iald, c_zald, c_cald, c_lald, c_oald, c_gald, c_iast, c_zast, c_cast, c_last, c_oast, c_alen, c_callS0, c_callS1, c_callS2, c_callS3, c_callS4, c_callS5, c_callS6, c_callS7, c_callV0, c_callV1, c_callV2, c_callV3, c_callV4, c_callV5, c_callV6, c_callV7, c_callT0, c_callT1, am_nx_eq, am_set, am_set2, am_clr, am_isL, am_push, am_w, am_ent, am_ent1, List.getElem?_cons_zero, List.getElem?_cons_succ, List.set_cons_zero, List.set_cons_succ, List.getD_cons_zero, List.getD_cons_succ, List.cons_append, List.nil_append, List.append_nil, List.replicate_succ, List.replicate_zero, Nat.reduceAdd, Nat.reduceSub, Nat.reduceLeDiff, Bool.false_eq_true, reduceIte, true_and, and_true, true_or, or_true, or_self, am_i32, am_i64, bz_0, bz_01, bz_em, bz_n0, Classical.not_not, am_cmp_lt0, am_cmp_gt0, am_cmp_eq0, am_cmp_ge0, am_cmp_le0, am_cmp_ne0]
    exact h _ _ _ _ (body (.inr p) (.inr p) (.inr p) [] [] rfl rfl rfl) ⟨sc, frO.tr ⟨fun o a b => am_up_o _ (by omega), fun j _ => by rw [am_up_o _ (by omega)]⟩, fun r' e => by cases e⟩
  | inl r7 =>
    obtain ⟨r6, e6⟩ := pwR_i p7
    subst e6
    obtain ⟨⟨r5, e5⟩, w6⟩ := nuR_i p6
    subst e5
    obtain ⟨r4, e4⟩ := pwR_i p5
    subst e4
    obtain ⟨⟨r3, e3⟩, w4⟩ := nuR_i p4
    subst e3
    obtain ⟨r2, e2'⟩ := pwR_i p3
    subst e2'
    have nk := nnR_i p2
    have ev := e2 nk.1
    have g1 := nx9_s nx1 hz.2.1 (wd9_k hw)
    have g2 := nnR_g p2 g1.1
    have g3 := pwR_g p3 g2.1
    have g4 := nuR_g p4 g3.1
    have g5 := pwR_g p5 g4.1
    have g6 := nuR_g p6 g5.1
    have g7 := pwR_g p7 g6.1
    have so := s7.eq hCo (eo 2 (by omega)) (eo 3 (by omega)) (eo 46 (by omega))
    have eo1 : Mo 46 1 = S := by rw [eo 46 (by omega)]; exact q1
    have eo3 : Mo 46 3 = r7.2.1 := by have := so.2.2.2.1; rw [← this]; rfl
    have leno : Mo (S + 11) 9 = lc := by rw [eo _ (by omega)]; exact len7
    have a18 : Mo (S + 18) (D 0 2) = 0 := by rw [← hMo, am_up_o _ (by omega), am_up_s]
    have a19 : Mo (S + 19) (D 0 2) = 0 := by rw [← hMo, am_up_s]
    have n9 := hz.1.2.1
    have w7 := g7.1.1
    have hBo : Bq S Mo := ⟨hCo, hR, eo1, by rw [cnto]; omega, by rw [leno]; omega, by rw [cnto]; exact Or.inl a18, by rw [cnto]; exact Or.inl a19, by rw [eo3]; omega⟩
    have xo := so.rs hBo (by rw [leno, eo3]; omega)
    refine kS _ Mo _ (by omega) xo (fun o8 M8 rd8 c8 => ?_)
    rw [so.2.2.2.1] at rd8
    have hC := c8.pc
    have cnt8 : M8 (S + 11) 10 = D 0 2 := by rw [c8.1.2.2.1 10 (by decide)]; exact cnto
    simp only [c8.e1, kr_0 hR, kr_1 hR, lr_2 hR, mr_2 hR, lr_3 hR, mr_3 hR, lr_4 hR, mr_4 hR, lr_5 hR, mr_5 hR, lr_6 hR, mr_6 hR, lr_7 hR, mr_7 hR, kr_8 hR, lr_9 hR, mr_9 hR, lr_10 hR, mr_10 hR, kr_11 hR, lr_12 hR, mr_12 hR, lr_13 hR, mr_13 hR, lr_14 hR, mr_14 hR, lr_15 hR, mr_15 hR, lr_16 hR, mr_16 hR, lr_17 hR, mr_17 hR, lr_18 hR, mr_18 hR, lr_19 hR, mr_19 hR, lr_20 hR, mr_20 hR, pr_0 hC hR, pr_1 hC hR, pr_2 hC hR, pr1_0 hC hR, pr1_1 hC hR, pr1_2 hC hR, pr1_3 hC hR, pr1_4 hC hR, pr1_5 hC hR, pr8_0 hC hR, pr8_1 hC hR, prt_0 hC hR, prt_1 hC hR, prt_2 hC hR, prt_3 hC hR, prt_4 hC hR, prt_5 hC hR, prt_6 hC hR, prt_7 hC hR, prt_8 hC hR, kd_1, kd_2, ln_3, ll_3, kd_46, kd_47, ln_48, ll_48, ln_49, ll_49, kd_50, kd_51, ln_52, ll_52, ln_53, ll_53, ln_54, ll_54, ln_55, ll_55, ln_56, ll_56, ln_57, ll_57, ln_58, ll_58, kd_59, ln_60, ll_60, ln_61, ll_61, ln_62, ll_62, ln_63, ll_63, kd_64, ln_127, ll_127, ln_128, ll_128, ln_129, ll_129, ln_130, ll_130, ln_131, ll_131, ln_132, ll_132, ln_133, ll_133, ln_134, ll_134, kd_135, ln_136, ll_136, pc_1_0 hC, pc_1_3 hC, pc_1_4 hC, pc_1_5 hC, pc_1_6 hC, pc_1_7 hC, pc_1_8 hC, pc_2_0 hC, pc_46_0 hC, pc_50_0 hC, pc_50_1 hC, pc_50_2 hC, pc_50_3 hC, pc_50_4 hC, pc_50_5 hC, pc_64_2 hC, pc_64_3 hC, pc_135_0 hC, am_up_eq, Int.reduceEq, Int.reduceLT, Int.reduceLE, Int.reduceNeg, if_true, if_false, c_const, c_lconst, c_ref, c_iload, c_lload, c_aload, c_istore, c_lstore, c_astore, c_iinc, c_iadd, c_isub, c_imul, c_ladd, c_lsub, c_lmul, c_idiv, c_irem, c_ldiv, c_lrem, c_iand, c_ior, c_ixor, c_ishl, c_ishr, c_ineg, c_i2l, c_l2i, c_i2c, c_lcmp, c_dup, c_pop, c_dup2, c_at, c_icmp_eq, c_icmp_ne, c_icmp_lt, c_icmp_ge, c_icmp_gt, c_icmp_le, c_if_eq, c_if_ne, c_if_lt, c_if_ge, c_if_gt, c_if_le, c_ifnull, c_ifnonnull, am_swK, c_sw, c_iret, c_zret, c_cret, c_bret, c_lret, c_aret, c_vret, c_getI, c_getR, c_putI, c_putZ, c_putR, c_iald, c_zald, c_cald, c_lald, c_oald, c_gald, c_iast, c_zast, c_cast, c_last, c_oast, c_alen, c_callS0, c_callS1, c_callS2, c_callS3, c_callS4, c_callS5, c_callS6, c_callS7, c_callV0, c_callV1, c_callV2, c_callV3, c_callV4, c_callV5, c_callV6, c_callV7, c_callT0, c_callT1, am_nx_eq, am_set, am_set2, am_clr, am_isL, am_push, am_w, am_ent, am_ent1, List.getElem?_cons_zero, List.getElem?_cons_succ, List.set_cons_zero, List.set_cons_succ, List.getD_cons_zero, List.getD_cons_succ, List.cons_append, List.nil_append, List.append_nil, List.replicate_succ, List.replicate_zero, Nat.reduceAdd, Nat.reduceSub, Nat.reduceLeDiff, Bool.false_eq_true, reduceIte, true_and, and_true, true_or, or_true, or_self, am_i32, am_i64, bz_0, bz_01, bz_em, bz_n0, Classical.not_not, am_cmp_lt0, am_cmp_gt0, am_cmp_eq0, am_cmp_ge0, am_cmp_le0, am_cmp_ne0]
    refine k_trkCs c8.pc hR cnt8 ⟨c0.1, a⟩ ?_
    generalize hMc : am_up M8 (S + 16) (D 0 2) (M8 (S + 11) 9) = Mc
    have hCc : am_PC Mc := by rw [← hMc]; exact pcRg c8.pc hR (by omega)
    have ec : ∀ o, o ≠ S + 16 → Mc o = M8 o := fun o w => by rw [← hMc]; exact am_up_o _ w
    have frC : FR S M Mc := (frO.tr c8.1.fr).tr ⟨fun o a b => ec o (by omega), fun j _ => by rw [ec 46 (by omega)]⟩
    simp only [kd_46, c_const, c_lconst, c_ref, c_iload, c_lload, c_aload, c_istore, c_lstore, c_astore, c_iinc, c_iadd, c_isub, c_imul, c_ladd, c_lsub, c_lmul, c_idiv, c_irem, c_ldiv, c_lrem, c_iand, c_ior, c_ixor, c_ishl, c_ishr, c_ineg, c_i2l, c_l2i, c_i2c, c_lcmp, c_dup, c_pop, c_dup2, c_at, c_icmp_eq, c_icmp_ne, c_icmp_lt, c_icmp_ge, c_icmp_gt, c_icmp_le, c_if_eq, c_if_ne, c_if_lt, c_if_ge, c_if_gt, c_if_le, c_ifnull, c_ifnonnull, am_swK, c_sw, c_iret, c_zret, c_cret, c_bret, c_lret, c_aret, c_vret, c_getI, c_getR, c_putI, c_putZ, c_putR, c_iald, c_zald, c_cald, c_lald, c_oald, c_gald, c_iast, c_zast, c_cast, c_last, c_oast, c_alen, c_callS0, c_callS1, c_callS2, c_callS3, c_callS4, c_callS5, c_callS6, c_callS7, c_callV0, c_callV1, c_callV2, c_callV3, c_callV4, c_callV5, c_callV6, c_callV7, c_callT0, c_callT1, am_nx_eq, am_set, am_set2, am_clr, am_isL, am_push, am_w, am_ent, am_ent1, List.getElem?_cons_zero, List.getElem?_cons_succ, List.set_cons_zero, List.set_cons_succ, List.getD_cons_zero, List.getD_cons_succ, List.cons_append, List.nil_append, List.append_nil, List.replicate_succ, List.replicate_zero, Nat.reduceAdd, Nat.reduceSub, Nat.reduceLeDiff, Bool.false_eq_true, reduceIte, true_and, and_true, true_or, or_true, or_self, am_i32, am_i64, bz_0, bz_01, bz_em, bz_n0, Classical.not_not, am_cmp_lt0, am_cmp_gt0, am_cmp_eq0, am_cmp_ge0, am_cmp_le0, am_cmp_ne0]
    cases o8 with
    | inr p =>
      obtain ⟨f, x⟩ := p
      have sc := (CO.sk (T := T) (n := n) c8).eqr hCc (ec 46 (by omega))
      have e5c : Mc 46 5 ≠ 0 := by rw [sc.2.2.1]; exact sc.2.1
      refine k_passWordZ hCc e5c ?_
      simp only [kd_46, c_const, c_lconst, c_ref, c_iload, c_lload, c_aload, c_istore, c_lstore, c_astore, c_iinc, c_iadd, c_isub, c_imul, c_ladd, c_lsub, c_lmul, c_idiv, c_irem, c_ldiv, c_lrem, c_iand, c_ior, c_ixor, c_ishl, c_ishr, c_ineg, c_i2l, c_l2i, c_i2c, c_lcmp, c_dup, c_pop, c_dup2, c_at, c_icmp_eq, c_icmp_ne, c_icmp_lt, c_icmp_ge, c_icmp_gt, c_icmp_le, c_if_eq, c_if_ne, c_if_lt, c_if_ge, c_if_gt, c_if_le, c_ifnull, c_ifnonnull, am_swK, c_sw, c_iret, c_zret, c_cret, c_bret, c_lret, c_aret, c_vret, c_getI, c_getR, c_putI, c_putZ, c_putR, c_iald, c_zald, c_cald, c_lald, c_oald, c_gald, c_iast, c_zast, c_cast, c_last, c_oast, c_alen, c_callS0, c_callS1, c_callS2, c_callS3, c_callS4, c_callS5, c_callS6, c_callS7, c_callV0, c_callV1, c_callV2, c_callV3, c_callV4, c_callV5, c_callV6, c_callV7, c_callT0, c_callT1, am_nx_eq, am_set, am_set2, am_clr, am_isL, am_push, am_w, am_ent, am_ent1, List.getElem?_cons_zero, List.getElem?_cons_succ, List.set_cons_zero, List.set_cons_succ, List.getD_cons_zero, List.getD_cons_succ, List.cons_append, List.nil_append, List.append_nil, List.replicate_succ, List.replicate_zero, Nat.reduceAdd, Nat.reduceSub, Nat.reduceLeDiff, Bool.false_eq_true, reduceIte, true_and, and_true, true_or, or_true, or_self, am_i32, am_i64, bz_0, bz_01, bz_em, bz_n0, Classical.not_not, am_cmp_lt0, am_cmp_gt0, am_cmp_eq0, am_cmp_ge0, am_cmp_le0, am_cmp_ne0]
      refine z_readTest _ _ _ _ (by omega) hCc e5c ?_
      simp only [kd_46, c_const, c_lconst, c_ref, c_iload, c_lload, c_aload, c_istore, c_lstore, c_astore, c_iinc, c_iadd, c_isub, c_imul, c_ladd, c_lsub, c_lmul, c_idiv, c_irem, c_ldiv, c_lrem, c_iand, c_ior, c_ixor, c_ishl, c_ishr, c_ineg, c_i2l, c_l2i, c_i2c, c_lcmp, c_dup, c_pop, c_dup2, c_at, c_icmp_eq, c_icmp_ne, c_icmp_lt, c_icmp_ge, c_icmp_gt, c_icmp_le, c_if_eq, c_if_ne, c_if_lt, c_if_ge, c_if_gt, c_if_le, c_ifnull, c_ifnonnull, am_swK, c_sw, c_iret, c_zret, c_cret, c_bret, c_lret, c_aret, c_vret, c_getI, c_getR, c_putI, c_putZ, c_putR, c_iald, c_zald, c_cald, c_lald, c_oald, c_gald, c_iast, c_zast, c_cast, c_last, c_oast, c_alen, c_callS0, c_callS1, c_callS2, c_callS3, c_callS4, c_callS5, c_callS6, c_callS7, c_callV0, c_callV1, c_callV2, c_callV3, c_callV4, c_callV5, c_callV6, c_callV7, c_callT0, c_callT1, am_nx_eq, am_set, am_set2, am_clr, am_isL, am_push, am_w, am_ent, am_ent1, List.getElem?_cons_zero, List.getElem?_cons_succ, List.set_cons_zero, List.set_cons_succ, List.getD_cons_zero, List.getD_cons_succ, List.cons_append, List.nil_append, List.append_nil, List.replicate_succ, List.replicate_zero, Nat.reduceAdd, Nat.reduceSub, Nat.reduceLeDiff, Bool.false_eq_true, reduceIte, true_and, and_true, true_or, or_true, or_self, am_i32, am_i64, bz_0, bz_01, bz_em, bz_n0, Classical.not_not, am_cmp_lt0, am_cmp_gt0, am_cmp_eq0, am_cmp_ge0, am_cmp_le0, am_cmp_ne0]
      refine ⟨fun _ => ?_, fun w => absurd w e5c⟩
      simp only [b_Reader_readTrick_107, c_const, c_lconst, c_ref, c_iload, c_lload, c_aload, c_istore, c_lstore, c_astore, c_iinc, c_iadd, c_isub, c_imul, c_ladd, c_lsub, c_lmul, c_idiv, c_irem, c_ldiv, c_lrem, c_iand, c_ior, c_ixor, c_ishl, c_ishr, c_ineg, c_i2l, c_l2i, c_i2c, c_lcmp, c_dup, c_pop, c_dup2, c_at, c_icmp_eq, c_icmp_ne, c_icmp_lt, c_icmp_ge, c_icmp_gt, c_icmp_le, c_if_eq, c_if_ne, c_if_lt, c_if_ge, c_if_gt, c_if_le, c_ifnull, c_ifnonnull, am_swK, c_sw, c_iret, c_zret, c_cret, c_bret, c_lret, c_aret, c_vret, c_getI, c_getR, c_putI, c_putZ, c_putR, c_iald, c_zald, c_cald, c_lald, c_oald, c_gald, c_iast, c_zast, c_cast, c_last, c_oast, c_alen, c_callS0, c_callS1, c_callS2, c_callS3, c_callS4, c_callS5, c_callS6, c_callS7, c_callV0, c_callV1, c_callV2, c_callV3, c_callV4, c_callV5, c_callV6, c_callV7, c_callT0, c_callT1, am_nx_eq, am_set, am_set2, am_clr, am_isL, am_push, am_w, am_ent, am_ent1, List.getElem?_cons_zero, List.getElem?_cons_succ, List.set_cons_zero, List.set_cons_succ, List.getD_cons_zero, List.getD_cons_succ, List.cons_append, List.nil_append, List.append_nil, List.replicate_succ, List.replicate_zero, Nat.reduceAdd, Nat.reduceSub, Nat.reduceLeDiff, Bool.false_eq_true, reduceIte, true_and, and_true, true_or, or_true, or_self, am_i32, am_i64, bz_0, bz_01, bz_em, bz_n0, Classical.not_not, am_cmp_lt0, am_cmp_gt0, am_cmp_eq0, am_cmp_ge0, am_cmp_le0, am_cmp_ne0]
      exact h _ _ _ _ (body (.inr (f, x)) (.inr (f, x)) (.inr (f, x)) [] [] (Or.inr ⟨f, x, rd8, rfl⟩) rfl rfl) ⟨sc, frC, fun r' e => by cases e⟩
    | inl p =>
      obtain ⟨r8, us⟩ := p
      obtain ⟨x8, l8, t8, u8, q8⟩ := xo.rd (by rw [so.2.2.2.1]; exact rd8) c8
      have sc := (x8.sk q8 (by rw [c8.2.2.1 6 (by decide)]; exact so.2.2.2.2)).eq hCc (ec 2 (by omega)) (ec 3 (by omega)) (ec 46 (by omega))
      refine k_pwS (q := 22) (by decide) sc (fun z9 M9 p9 s9 f9 => ?_)
      simp only [kd_46, c_const, c_lconst, c_ref, c_iload, c_lload, c_aload, c_istore, c_lstore, c_astore, c_iinc, c_iadd, c_isub, c_imul, c_ladd, c_lsub, c_lmul, c_idiv, c_irem, c_ldiv, c_lrem, c_iand, c_ior, c_ixor, c_ishl, c_ishr, c_ineg, c_i2l, c_l2i, c_i2c, c_lcmp, c_dup, c_pop, c_dup2, c_at, c_icmp_eq, c_icmp_ne, c_icmp_lt, c_icmp_ge, c_icmp_gt, c_icmp_le, c_if_eq, c_if_ne, c_if_lt, c_if_ge, c_if_gt, c_if_le, c_ifnull, c_ifnonnull, am_swK, c_sw, c_iret, c_zret, c_cret, c_bret, c_lret, c_aret, c_vret, c_getI, c_getR, c_putI, c_putZ, c_putR, c_iald, c_zald, c_cald, c_lald, c_oald, c_gald, c_iast, c_zast, c_cast, c_last, c_oast, c_alen, c_callS0, c_callS1, c_callS2, c_callS3, c_callS4, c_callS5, c_callS6, c_callS7, c_callV0, c_callV1, c_callV2, c_callV3, c_callV4, c_callV5, c_callV6, c_callV7, c_callT0, c_callT1, am_nx_eq, am_set, am_set2, am_clr, am_isL, am_push, am_w, am_ent, am_ent1, List.getElem?_cons_zero, List.getElem?_cons_succ, List.set_cons_zero, List.set_cons_succ, List.getD_cons_zero, List.getD_cons_succ, List.cons_append, List.nil_append, List.append_nil, List.replicate_succ, List.replicate_zero, Nat.reduceAdd, Nat.reduceSub, Nat.reduceLeDiff, Bool.false_eq_true, reduceIte, true_and, and_true, true_or, or_true, or_self, am_i32, am_i64, bz_0, bz_01, bz_em, bz_n0, Classical.not_not, am_cmp_lt0, am_cmp_gt0, am_cmp_eq0, am_cmp_ge0, am_cmp_le0, am_cmp_ne0]
      cases z9 with
      | inr p =>
        have e5c : M9 46 5 ≠ 0 := by rw [s9.2.2.1]; exact s9.2.1
        refine z_readTest _ _ _ _ (by omega) s9.1 e5c ?_
        simp only [kd_46, c_const, c_lconst, c_ref, c_iload, c_lload, c_aload, c_istore, c_lstore, c_astore, c_iinc, c_iadd, c_isub, c_imul, c_ladd, c_lsub, c_lmul, c_idiv, c_irem, c_ldiv, c_lrem, c_iand, c_ior, c_ixor, c_ishl, c_ishr, c_ineg, c_i2l, c_l2i, c_i2c, c_lcmp, c_dup, c_pop, c_dup2, c_at, c_icmp_eq, c_icmp_ne, c_icmp_lt, c_icmp_ge, c_icmp_gt, c_icmp_le, c_if_eq, c_if_ne, c_if_lt, c_if_ge, c_if_gt, c_if_le, c_ifnull, c_ifnonnull, am_swK, c_sw, c_iret, c_zret, c_cret, c_bret, c_lret, c_aret, c_vret, c_getI, c_getR, c_putI, c_putZ, c_putR, c_iald, c_zald, c_cald, c_lald, c_oald, c_gald, c_iast, c_zast, c_cast, c_last, c_oast, c_alen, c_callS0, c_callS1, c_callS2, c_callS3, c_callS4, c_callS5, c_callS6, c_callS7, c_callV0, c_callV1, c_callV2, c_callV3, c_callV4, c_callV5, c_callV6, c_callV7, c_callT0, c_callT1, am_nx_eq, am_set, am_set2, am_clr, am_isL, am_push, am_w, am_ent, am_ent1, List.getElem?_cons_zero, List.getElem?_cons_succ, List.set_cons_zero, List.set_cons_succ, List.getD_cons_zero, List.getD_cons_succ, List.cons_append, List.nil_append, List.append_nil, List.replicate_succ, List.replicate_zero, Nat.reduceAdd, Nat.reduceSub, Nat.reduceLeDiff, Bool.false_eq_true, reduceIte, true_and, and_true, true_or, or_true, or_self, am_i32, am_i64, bz_0, bz_01, bz_em, bz_n0, Classical.not_not, am_cmp_lt0, am_cmp_gt0, am_cmp_eq0, am_cmp_ge0, am_cmp_le0, am_cmp_ne0]
        refine ⟨fun _ => ?_, fun w => absurd w e5c⟩
        simp only [b_Reader_readTrick_107, c_const, c_lconst, c_ref, c_iload, c_lload, c_aload, c_istore, c_lstore, c_astore, c_iinc, c_iadd, c_isub, c_imul, c_ladd, c_lsub, c_lmul, c_idiv, c_irem, c_ldiv, c_lrem, c_iand, c_ior, c_ixor, c_ishl, c_ishr, c_ineg, c_i2l, c_l2i, c_i2c, c_lcmp, c_dup, c_pop, c_dup2, c_at, c_icmp_eq, c_icmp_ne, c_icmp_lt, c_icmp_ge, c_icmp_gt, c_icmp_le, c_if_eq, c_if_ne, c_if_lt, c_if_ge, c_if_gt, c_if_le, c_ifnull, c_ifnonnull, am_swK, c_sw, c_iret, c_zret, c_cret, c_bret, c_lret, c_aret, c_vret, c_getI, c_getR, c_putI, c_putZ, c_putR, c_iald, c_zald, c_cald, c_lald, c_oald, c_gald, c_iast, c_zast, c_cast, c_last, c_oast, c_alen, c_callS0, c_callS1, c_callS2, c_callS3, c_callS4, c_callS5, c_callS6, c_callS7, c_callV0, c_callV1, c_callV2, c_callV3, c_callV4, c_callV5, c_callV6, c_callV7, c_callT0, c_callT1, am_nx_eq, am_set, am_set2, am_clr, am_isL, am_push, am_w, am_ent, am_ent1, List.getElem?_cons_zero, List.getElem?_cons_succ, List.set_cons_zero, List.set_cons_succ, List.getD_cons_zero, List.getD_cons_succ, List.cons_append, List.nil_append, List.append_nil, List.replicate_succ, List.replicate_zero, Nat.reduceAdd, Nat.reduceSub, Nat.reduceLeDiff, Bool.false_eq_true, reduceIte, true_and, and_true, true_or, or_true, or_self, am_i32, am_i64, bz_0, bz_01, bz_em, bz_n0, Classical.not_not, am_cmp_lt0, am_cmp_gt0, am_cmp_eq0, am_cmp_ge0, am_cmp_le0, am_cmp_ne0]
        exact h _ _ _ _ (body (.inl r8) (.inr p) (.inr p) us [] (Or.inl ⟨r8, rd8, rfl⟩) p9 rfl) ⟨s9, frC.tr f9.fr, fun r' e => by cases e⟩
      | inl r9 =>
        have g9 := pwR_g p9 sc.2.1
        have e8 : M8 46 3 = r8.2.1 := by rw [← q8]; rfl
        have e93 : M9 46 3 = r9.2.1 := by have := s9.2.2.2.1; rw [← this]; rfl
        have e9 : ∀ o, o ≠ 46 → o ≠ S + 16 → M9 o = M8 o := fun o a b => (f9.1 o a).trans (ec o b)
        have hB9 : Bq S M9 := x8.2.1.eq s9.pc (e9 _ (by omega) (by omega)) (e9 _ (by omega) (by omega)) (e9 _ (by omega) (by omega)) (by rw [f9.2 1 (by decide), ec 46 (by omega)]) (by rw [e93]; have := g9.1.1; omega)
        have x9 := s9.rs hB9 (by rw [e9 _ (by omega) (by omega), e93]; omega)
        refine kT _ M9 _ (by omega) x9 (fun o10 M10 rd10 c10 => ?_)
        rw [s9.2.2.2.1] at rd10
        have hC := c10.pc
        have fr10 : FR S M M10 := (frC.tr f9.fr).tr c10.1.fr
        cases o10 with
        | inr p =>
          obtain ⟨f, x⟩ := p
          simp only [b_Reader_readTrick_107, kd_1, kd_2, ln_3, ll_3, kd_46, kd_47, ln_48, ll_48, ln_49, ll_49, kd_50, kd_51, ln_52, ll_52, ln_53, ll_53, ln_54, ll_54, ln_55, ll_55, ln_56, ll_56, ln_57, ll_57, ln_58, ll_58, kd_59, ln_60, ll_60, ln_61, ll_61, ln_62, ll_62, ln_63, ll_63, kd_64, ln_127, ll_127, ln_128, ll_128, ln_129, ll_129, ln_130, ll_130, ln_131, ll_131, ln_132, ll_132, ln_133, ll_133, ln_134, ll_134, kd_135, ln_136, ll_136, pc_1_0 hC, pc_1_3 hC, pc_1_4 hC, pc_1_5 hC, pc_1_6 hC, pc_1_7 hC, pc_1_8 hC, pc_2_0 hC, pc_46_0 hC, pc_50_0 hC, pc_50_1 hC, pc_50_2 hC, pc_50_3 hC, pc_50_4 hC, pc_50_5 hC, pc_64_2 hC, pc_64_3 hC, pc_135_0 hC, am_up_eq, Int.reduceEq, Int.reduceLT, Int.reduceLE, Int.reduceNeg, if_true, if_false, c_const, c_lconst, c_ref, c_iload, c_lload, c_aload, c_istore, c_lstore, c_astore, c_iinc, c_iadd, c_isub, c_imul, c_ladd, c_lsub, c_lmul, c_idiv, c_irem, c_ldiv, c_lrem, c_iand, c_ior, c_ixor, c_ishl, c_ishr, c_ineg, c_i2l, c_l2i, c_i2c, c_lcmp, c_dup, c_pop, c_dup2, c_at, c_icmp_eq, c_icmp_ne, c_icmp_lt, c_icmp_ge, c_icmp_gt, c_icmp_le, c_if_eq, c_if_ne, c_if_lt, c_if_ge, c_if_gt, c_if_le, c_ifnull, c_ifnonnull, am_swK, c_sw, c_iret, c_zret, c_cret, c_bret, c_lret, c_aret, c_vret, c_getI, c_getR, c_putI, c_putZ, c_putR, c_iald, c_zald, c_cald, c_lald, c_oald, c_gald, c_iast, c_zast, c_cast, c_last, c_oast, c_alen, c_callS0, c_callS1, c_callS2, c_callS3, c_callS4, c_callS5, c_callS6, c_callS7, c_callV0, c_callV1, c_callV2, c_callV3, c_callV4, c_callV5, c_callV6, c_callV7, c_callT0, c_callT1, am_nx_eq, am_set, am_set2, am_clr, am_isL, am_push, am_w, am_ent, am_ent1, List.getElem?_cons_zero, List.getElem?_cons_succ, List.set_cons_zero, List.set_cons_succ, List.getD_cons_zero, List.getD_cons_succ, List.cons_append, List.nil_append, List.append_nil, List.replicate_succ, List.replicate_zero, Nat.reduceAdd, Nat.reduceSub, Nat.reduceLeDiff, Bool.false_eq_true, reduceIte, true_and, and_true, true_or, or_true, or_self, am_i32, am_i64, bz_0, bz_01, bz_em, bz_n0, Classical.not_not, am_cmp_lt0, am_cmp_gt0, am_cmp_eq0, am_cmp_ge0, am_cmp_le0, am_cmp_ne0]
          exact ⟨fun _ => h _ _ _ M10 (body (.inl r8) (.inl r9) (.inr (f, x)) us [] (Or.inl ⟨r8, rd8, rfl⟩) p9 (Or.inr ⟨f, x, rd10, rfl⟩)) ⟨CO.sk c10, fr10, fun r' e => by cases e⟩, fun w => absurd w c10.z⟩
        | inl p =>
          obtain ⟨r10, vs⟩ := p
          obtain ⟨x10, l10, t10, u10, q10⟩ := x9.rd (by rw [s9.2.2.2.1]; exact rd10) c10
          have cnt10 : M10 (S + 11) 10 = D 0 2 := by rw [c10.1.2.2.1 10 (by decide), e9 _ (by omega) (by omega)]; exact cnt8
          simp only [x10.2.2.2.2, c10.e1, kr_0 hR, kr_1 hR, lr_2 hR, mr_2 hR, lr_3 hR, mr_3 hR, lr_4 hR, mr_4 hR, lr_5 hR, mr_5 hR, lr_6 hR, mr_6 hR, lr_7 hR, mr_7 hR, kr_8 hR, lr_9 hR, mr_9 hR, lr_10 hR, mr_10 hR, kr_11 hR, lr_12 hR, mr_12 hR, lr_13 hR, mr_13 hR, lr_14 hR, mr_14 hR, lr_15 hR, mr_15 hR, lr_16 hR, mr_16 hR, lr_17 hR, mr_17 hR, lr_18 hR, mr_18 hR, lr_19 hR, mr_19 hR, lr_20 hR, mr_20 hR, pr_0 hC hR, pr_1 hC hR, pr_2 hC hR, pr1_0 hC hR, pr1_1 hC hR, pr1_2 hC hR, pr1_3 hC hR, pr1_4 hC hR, pr1_5 hC hR, pr8_0 hC hR, pr8_1 hC hR, prt_0 hC hR, prt_1 hC hR, prt_2 hC hR, prt_3 hC hR, prt_4 hC hR, prt_5 hC hR, prt_6 hC hR, prt_7 hC hR, prt_8 hC hR, kd_1, kd_2, ln_3, ll_3, kd_46, kd_47, ln_48, ll_48, ln_49, ll_49, kd_50, kd_51, ln_52, ll_52, ln_53, ll_53, ln_54, ll_54, ln_55, ll_55, ln_56, ll_56, ln_57, ll_57, ln_58, ll_58, kd_59, ln_60, ll_60, ln_61, ll_61, ln_62, ll_62, ln_63, ll_63, kd_64, ln_127, ll_127, ln_128, ll_128, ln_129, ll_129, ln_130, ll_130, ln_131, ll_131, ln_132, ll_132, ln_133, ll_133, ln_134, ll_134, kd_135, ln_136, ll_136, pc_1_0 hC, pc_1_3 hC, pc_1_4 hC, pc_1_5 hC, pc_1_6 hC, pc_1_7 hC, pc_1_8 hC, pc_2_0 hC, pc_46_0 hC, pc_50_0 hC, pc_50_1 hC, pc_50_2 hC, pc_50_3 hC, pc_50_4 hC, pc_50_5 hC, pc_64_2 hC, pc_64_3 hC, pc_135_0 hC, am_up_eq, Int.reduceEq, Int.reduceLT, Int.reduceLE, Int.reduceNeg, if_true, if_false, c_const, c_lconst, c_ref, c_iload, c_lload, c_aload, c_istore, c_lstore, c_astore, c_iinc, c_iadd, c_isub, c_imul, c_ladd, c_lsub, c_lmul, c_idiv, c_irem, c_ldiv, c_lrem, c_iand, c_ior, c_ixor, c_ishl, c_ishr, c_ineg, c_i2l, c_l2i, c_i2c, c_lcmp, c_dup, c_pop, c_dup2, c_at, c_icmp_eq, c_icmp_ne, c_icmp_lt, c_icmp_ge, c_icmp_gt, c_icmp_le, c_if_eq, c_if_ne, c_if_lt, c_if_ge, c_if_gt, c_if_le, c_ifnull, c_ifnonnull, am_swK, c_sw, c_iret, c_zret, c_cret, c_bret, c_lret, c_aret, c_vret, c_getI, c_getR, c_putI, c_putZ, c_putR, c_iald, c_zald, c_cald, c_lald, c_oald, c_gald, c_iast, c_zast, c_cast, c_last, c_oast, c_alen, c_callS0, c_callS1, c_callS2, c_callS3, c_callS4, c_callS5, c_callS6, c_callS7, c_callV0, c_callV1, c_callV2, c_callV3, c_callV4, c_callV5, c_callV6, c_callV7, c_callT0, c_callT1, am_nx_eq, am_set, am_set2, am_clr, am_isL, am_push, am_w, am_ent, am_ent1, List.getElem?_cons_zero, List.getElem?_cons_succ, List.set_cons_zero, List.set_cons_succ, List.getD_cons_zero, List.getD_cons_succ, List.cons_append, List.nil_append, List.append_nil, List.replicate_succ, List.replicate_zero, Nat.reduceAdd, Nat.reduceSub, Nat.reduceLeDiff, Bool.false_eq_true, reduceIte, true_and, and_true, true_or, or_true, or_self, am_i32, am_i64, bz_0, bz_01, bz_em, bz_n0, Classical.not_not, am_cmp_lt0, am_cmp_gt0, am_cmp_eq0, am_cmp_ge0, am_cmp_le0, am_cmp_ne0]
          try simp only [Int.reduceEq, Int.reduceLT, Int.reduceLE, Int.reduceNeg, not_true_eq_false, not_false_eq_true, false_implies, true_implies, implies_true, true_and, and_true]
          refine k_trkCt c10.pc hR cnt10 ⟨c0.1, a⟩ ?_
          simp only [b_Reader_readTrick_107, c_const, c_lconst, c_ref, c_iload, c_lload, c_aload, c_istore, c_lstore, c_astore, c_iinc, c_iadd, c_isub, c_imul, c_ladd, c_lsub, c_lmul, c_idiv, c_irem, c_ldiv, c_lrem, c_iand, c_ior, c_ixor, c_ishl, c_ishr, c_ineg, c_i2l, c_l2i, c_i2c, c_lcmp, c_dup, c_pop, c_dup2, c_at, c_icmp_eq, c_icmp_ne, c_icmp_lt, c_icmp_ge, c_icmp_gt, c_icmp_le, c_if_eq, c_if_ne, c_if_lt, c_if_ge, c_if_gt, c_if_le, c_ifnull, c_ifnonnull, am_swK, c_sw, c_iret, c_zret, c_cret, c_bret, c_lret, c_aret, c_vret, c_getI, c_getR, c_putI, c_putZ, c_putR, c_iald, c_zald, c_cald, c_lald, c_oald, c_gald, c_iast, c_zast, c_cast, c_last, c_oast, c_alen, c_callS0, c_callS1, c_callS2, c_callS3, c_callS4, c_callS5, c_callS6, c_callS7, c_callV0, c_callV1, c_callV2, c_callV3, c_callV4, c_callV5, c_callV6, c_callV7, c_callT0, c_callT1, am_nx_eq, am_set, am_set2, am_clr, am_isL, am_push, am_w, am_ent, am_ent1, List.getElem?_cons_zero, List.getElem?_cons_succ, List.set_cons_zero, List.set_cons_succ, List.getD_cons_zero, List.getD_cons_succ, List.cons_append, List.nil_append, List.append_nil, List.replicate_succ, List.replicate_zero, Nat.reduceAdd, Nat.reduceSub, Nat.reduceLeDiff, Bool.false_eq_true, reduceIte, true_and, and_true, true_or, or_true, or_self, am_i32, am_i64, bz_0, bz_01, bz_em, bz_n0, Classical.not_not, am_cmp_lt0, am_cmp_gt0, am_cmp_eq0, am_cmp_ge0, am_cmp_le0, am_cmp_ne0]
          have l9 : M9 (S + 11) 9 = lc + us.length := by rw [e9 _ (by omega) (by omega), l8, leno]
          have l10' : M10 (S + 11) 9 = lc + us.length + vs.length := by rw [l10, l9]
          rw [l10']
          have cd89 : Cd S Mo M9 us := by
            have c := c8.2.2.2.2
            unfold Cd at *
            rw [e9 (S + 11) (by omega) (by omega), e9 (S + 18) (by omega) (by omega), e9 (S + 19) (by omega) (by omega), e9 (S + 20) (by omega) (by omega)]
            exact c
          have cd := Cd.tr' (by rw [e9 _ (by omega) (by omega), cnt8, cnto]) cd89 c10.2.2.2.2
          obtain ⟨cd1, cd2, cd3, cd4, cd5⟩ := cd
          rw [leno] at cd2 cd3
          rw [cnto, a18] at cd4
          rw [cnto, a19] at cd5
          have b10 := x10.2.1
          have v18 : M10 (S + 18) (D 0 2) = bz ((31 : Int) ∈ us ++ vs) := by
            have := b10.2.2.2.2.2.1
            rw [cnt10] at this
            by_cases w : (31 : Int) ∈ us ++ vs
            · rw [bz_t w]; exact cd4.mpr (Or.inr w)
            · rw [bz_f w]
              rcases this with g | g
              · exact g
              · rcases cd4.mp g with g | g
                · omega
                · exact absurd g w
          have v19 : M10 (S + 19) (D 0 2) = bz ((32 : Int) ∈ us ++ vs) := by
            have := b10.2.2.2.2.2.2.1
            rw [cnt10] at this
            by_cases w : (32 : Int) ∈ us ++ vs
            · rw [bz_t w]; exact cd5.mpr (Or.inr w)
            · rw [bz_f w]
              rcases this with g | g
              · exact g
              · rcases cd5.mp g with g | g
                · omega
                · exact absurd g w
          have eA : ∀ o, (o ≠ 46 ∧ o ≠ S + 11 ∧ o ≠ S + 16 ∧ o ≠ S + 18 ∧ o ≠ S + 19 ∧ o ≠ S + 20) → M10 o = Mo o := fun o w => by
            rw [c10.1.1 o w.1 w.2.1 w.2.2.2.1 w.2.2.2.2.1 w.2.2.2.2.2, e9 o w.1 w.2.2.1, c8.1.1 o w.1 w.2.1 w.2.2.2.1 w.2.2.2.2.1 w.2.2.2.2.2]
          have e16 : ∀ j, M10 (S + 16) j = am_up M7 (S + 16) (D 0 2) (lc + us.length) (S + 16) j := fun j => by
            rw [c10.1.1 _ (by omega) (by omega) (by omega) (by omega) (by omega), f9.1 _ (by omega), ← hMc, l8, leno]
            by_cases w : j = D 0 2
            · subst w; rw [am_up_s, am_up_s]
            · rw [am_up_j _ w, am_up_j _ w, c8.1.1 _ (by omega) (by omega) (by omega) (by omega) (by omega), eo _ (by omega)]
          have e18 : ∀ j, j ≠ D 0 2 → M10 (S + 18) j = M7 (S + 18) j ∧ M10 (S + 19) j = M7 (S + 19) j := fun j w => by
            have a1 := c10.1.2.2.2 j (by rw [e9 _ (by omega) (by omega), cnt8]; exact w)
            have a2 := c8.1.2.2.2 j (by rw [cnto]; exact w)
            rw [a1.1, a1.2, e9 _ (by omega) (by omega), e9 _ (by omega) (by omega), a2.1, a2.2, ← hMo]
            simp (disch := omega) only [am_up_o, am_up_j]
            exact ⟨trivial, trivial⟩
          have e20 : ∀ i, i < lc → M10 (S + 20) i = M7 (S + 20) i := fun i w => by rw [cd2 i w, eo _ (by omega)]
          have hCf : am_PC (am_up (am_up M10 (S + 17) (D 0 2) (lc + us.length + vs.length)) (S + 11) 10 (D 0 2 + 1)) := pcRg (pcRg c10.pc hR (by omega)) hR (by omega)
          refine h _ _ _ _ (body (.inl r8) (.inl r9) (.inl r10) us vs (Or.inl ⟨r8, rd8, rfl⟩) p9 (Or.inl ⟨r10, rd10, rfl⟩)) ⟨(x10.sk q10 (by rw [c10.2.2.1 6 (by decide)]; exact s9.2.2.2.2)).eq hCf ?_ ?_ ?_, fr10.tr ⟨fun o a b => ?_, fun j a => ?_⟩, fun r' _ => ⟨hR, ?_, ⟨⟨?_, ?_, ?_⟩, fun b b0 b1 => ?_, fun i i0 i1 => ?_, fun t t0 t1 => ?_⟩, ⟨fun b b0 b1 => ?_, fun b b0 b1 => ?_, fun b b0 b1 => ?_⟩, fun t t0 t1 => ?_, ?_⟩⟩
          · simp (disch := omega) only [am_up_o]
          · simp (disch := omega) only [am_up_o]
          · simp (disch := omega) only [am_up_o]
          · simp (disch := omega) only [am_up_o]
          · simp (disch := omega) only [am_up_o]
          · simp (disch := omega) only [am_up_o]; exact c10.e1
          · rw [adTrk_r c0.1 (by decide) (by decide)]; simp (disch := omega) only [am_up_o, am_up_s, am_up_j]; rw [eA _ (by omega), eo _ (by omega)]; exact q3.1.1
          · rw [adTrk_r c0.1 (by decide) (by decide)]; simp (disch := omega) only [am_up_o, am_up_s, am_up_j]; rw [eA _ (by omega), eo _ (by omega)]; exact q3.1.2.1
          · rw [adTrk_r c0.1 (by decide) (by decide)]; simp (disch := omega) only [am_up_o, am_up_s, am_up_j]
          · rw [adTrk_r c0.1 (by decide) (by decide)] at b1
            simp (disch := omega) only [am_up_s, am_up_j, am_up_o] at b1
            simp (disch := first | decide | omega | exact c0.1) only [adTrk_r]
            simp (disch := omega) only [am_up_o, am_up_s, am_up_j]
            rw [eA _ (by omega), eA _ (by omega), eA _ (by omega), eA _ (by omega), eA _ (by omega), eo _ (by omega), eo _ (by omega), eo _ (by omega), eo _ (by omega), eo _ (by omega)]
            exact q3.2.1 b b0 b1
          · rw [adTrk_r c0.1 (by decide) (by decide)] at i1
            simp (disch := omega) only [am_up_s, am_up_j, am_up_o] at i1
            rw [adTrk_r c0.1 (by decide) (by decide)]
            simp (disch := omega) only [am_up_o, am_up_s, am_up_j]
            rw [eA _ (by omega), eo _ (by omega)]
            exact q3.2.2.1 i i0 i1
          · rw [adTrk_r c0.1 (by decide) (by decide)] at t1
            simp (disch := omega) only [am_up_s] at t1
            rw [adTrk_r c0.1 (by decide) (by decide), adTrk_r c0.1 (by decide) (by decide), adTrk_r c0.1 (by decide) (by decide), adTrk_r c0.1 (by decide) (by decide), adTrk_r c0.1 (by decide) (by decide), adTrk_c c0.1]
            by_cases w : t = D 0 2
            · subst w
              simp (disch := omega) only [am_up_o, am_up_s, am_up_j]
              rw [eA _ (by omega), eA _ (by omega), eA _ (by omega), e16, am_up_s, ← hMo]
              simp (disch := omega) only [am_up_o, am_up_s, am_up_j]
              refine ⟨trivial, trivial, trivial, trivial, trivial, fun i i0 i1 => ?_⟩
              have ll : (us ++ vs).length = us.length + vs.length := List.length_append
              have := cd3 (i - lc).toNat (by omega)
              rw [show lc + (((i - lc).toNat : Nat) : Int) = i by omega] at this
              unfold cdD
              rw [if_pos (by omega)]
              exact this
            · simp (disch := omega) only [am_up_o, am_up_s, am_up_j]
              rw [eA (S + 13) (by omega), eA (S + 14) (by omega), eA (S + 15) (by omega), eA (S + 17) (by omega), e16, am_up_j _ w, ← hMo]
              simp (disch := omega) only [am_up_o, am_up_s, am_up_j]
              have g := q3.2.2.2 t t0 (by omega)
              refine ⟨g.1, g.2.1, g.2.2.1, g.2.2.2.1, g.2.2.2.2.1, fun i i0 i1 => ?_⟩
              have := hcl t t0 (by omega)
              rw [e20 i (by omega), g.2.2.2.2.2 i i0 i1]
              unfold cdD
              rw [if_neg (by omega)]
          · rw [adTrk_r c0.1 (by decide) (by decide)] at b1
            simp (disch := omega) only [am_up_s, am_up_j, am_up_o] at b1
            have := hQ.2.2.2.2.2.2.1.1
            rw [adTrk_r c0.1 (by decide) (by decide), adTrk_o (by omega) (by omega)]
            simp (disch := omega) only [am_up_o, am_up_s, am_up_j]
            rw [eA _ (by omega), eo _ (by omega)]
            exact hQ7.2.2.2.1.1 b b0 b1
          · rw [adTrk_r c0.1 (by decide) (by decide)] at b1
            simp (disch := omega) only [am_up_s, am_up_j, am_up_o] at b1
            have := hQ.2.2.2.2.2.2.1.2.1
            rw [adTrk_r c0.1 (by decide) (by decide), adTrk_o (by omega) (by omega)]
            simp (disch := omega) only [am_up_o, am_up_s, am_up_j]
            rw [eA _ (by omega), eo _ (by omega)]
            exact hQ7.2.2.2.1.2.1 b b0 b1
          · rw [adTrk_r c0.1 (by decide) (by decide)] at b1
            simp (disch := omega) only [am_up_s] at b1
            rw [adTrk_r c0.1 (by decide) (by decide)]
            by_cases w : b = D 0 2
            · subst w
              rw [adTrk_L]
              simp (disch := omega) only [am_up_o, am_up_s, am_up_j]
              rw [eA _ (by omega), ← hMo]
              simp (disch := omega) only [am_up_o, am_up_s, am_up_j]
              exact ev
            · rw [adTrk_o (by omega) (by omega)]
              simp (disch := omega) only [am_up_o, am_up_s, am_up_j]
              rw [eA _ (by omega), ← hMo]
              simp (disch := omega) only [am_up_o, am_up_s, am_up_j]
              exact hQ7.2.2.2.1.2.2 b b0 (by omega)
          · rw [adTrk_r c0.1 (by decide) (by decide)] at t1
            simp (disch := omega) only [am_up_s, am_up_j, am_up_o] at t1
            rw [adTrk_r c0.1 (by decide) (by decide), adTrk_r c0.1 (by decide) (by decide)]
            by_cases w : t = D 0 2
            · subst w
              simp (disch := omega) only [am_up_o, am_up_s, am_up_j]
              exact ⟨v18, v19⟩
            · simp (disch := omega) only [am_up_o, am_up_s, am_up_j]
              rw [(e18 t w).1, (e18 t w).2]
              exact hQ7.2.2.2.2.1 t t0 (by omega)
          · simp (disch := omega) only [am_up_o, am_up_j]; exact l10'
end
